/-! the walks (written by wip/whole/gen.py) -/
theorem kX0_init {a0 : Nat} {M : Mm} {q : Mm} (hf : fX0_init a0 M = some q) : (mK M a0).1 = 1 := by
  unfold fX0_init at hf
  obtain ⟨u0, eu0, -⟩ := bnd hf
  exact kc_of eu0
set_option maxHeartbeats 4000000 in
set_option maxRecDepth 100000 in
theorem wX0_init {l : Launch} {Γ : Gx} {a0 : Nat} {M : Mm} {q : Mm} (hf : fX0_init a0 M = some q) : AM l Γ 1 yX0_init cX0_init 1 (none) [.ref a0] M none q := by
  unfold fX0_init at hf
  refine AM.of mfX0_init (Nat.le_of_ble_eq_true rfl) ?_
  generalize mT M = t0
  generalize mW M = w0
  show AW _ _ _ _ _ _ _ _ _ 0 [(0, .ref a0)] [] _ _ _
  obtain ⟨u0, eu0, hf⟩ := bnd hf
  refine a_aload_n dX0_init_0 rfl 0 rfl ?_
  refine a_objI dX0_init_1 wmX0_3 wob1 wob2 (by decide) (Nat.le_of_ble_eq_true rfl) ?_
  refine a_aload_n dX0_init_4 rfl 0 rfl ?_
  refine a_bipush (v := 24) dX0_init_5 (by decide) ?_
  obtain ⟨q1_, eq1_, hf⟩ := bnd hf
  refine a_newarr (t := 1) dX0_init_7 rfl (by decide) rfl (fun _ => rfl) (fun _ h => by cases h) rfl wac1 (by decide) eq1_ ?_
  obtain ⟨M2_, eM2_, hf⟩ := bnd hf
  refine a_putR dX0_init_9 fpX0_9 rfl (Or.inl rfl) eM2_ ?_
  refine a_aload_n dX0_init_12 rfl 0 rfl ?_
  refine a_bipush (v := 24) dX0_init_13 (by decide) ?_
  obtain ⟨q3_, eq3_, hf⟩ := bnd hf
  refine a_newarr (t := 1) dX0_init_15 rfl (by decide) rfl (fun _ => rfl) (fun _ h => by cases h) rfl wac1 (by decide) eq3_ ?_
  obtain ⟨M4_, eM4_, hf⟩ := bnd hf
  refine a_putR dX0_init_17 fpX0_15 rfl (Or.inl rfl) eM4_ ?_
  have e9 := Option.some.inj hf
  subst e9
  exact a_vret rfl dX0_init_20 rfl
theorem kX0_becomeEven {a0 : Nat} {x1 : Int32} {M : Mm} {q : Mm} (hf : fX0_becomeEven a0 x1 M = some q) : (mK M a0).1 = 1 := by
  unfold fX0_becomeEven at hf
  obtain ⟨u0, eu0, -⟩ := bnd hf
  exact kc_of eu0
set_option maxHeartbeats 4000000 in
set_option maxRecDepth 100000 in
theorem wX0_becomeEven_b2 {l : Launch} {Γ : Gx} {t0 w0 : Nat} {q : Mm} : ∀ (n : Nat) (a0 : Nat) (x1 : Int32) (x2 : Int32) (M : Mm), fX0_becomeEven_b2 n a0 x1 x2 M = some q → AW l Γ yX0_becomeEven cX0_becomeEven 3 (none) 1 t0 w0 2 [(0, .ref a0), (1, .int x1), (2, .int x2)] [] M none q := by
  intro n
  induction n with
  | zero =>
    intro a0 x1 x2 M hf
    cases hf
  | succ n ih =>
    intro a0 x1 x2 M hf
    rw [fX0_becomeEven_b2.eq_2] at hf
    refine a_iload_n dX0_becomeEven_2 rfl 2 rfl ?_
    refine a_bipush (v := 24) dX0_becomeEven_3 (by decide) ?_
    refine a_icmp_ge dX0_becomeEven_5 (tgt := 30) (by decide) (fun c9 => ?_) (fun c9 => ?_)
    · replace hf := iteT hf c9
      have e9 := Option.some.inj hf
      subst e9
      exact a_vret rfl dX0_becomeEven_30 rfl
    · replace hf := iteF hf c9
      refine a_aload_n dX0_becomeEven_8 rfl 0 rfl ?_
      obtain ⟨o1_, eo1_, hf⟩ := bnd hf
      refine a_getR dX0_becomeEven_9 flX0_9 rfl eo1_ ?_
      refine a_iload_n dX0_becomeEven_12 rfl 2 rfl ?_
      refine a_iload_n dX0_becomeEven_13 rfl 2 rfl ?_
      refine a_iload_n dX0_becomeEven_14 rfl 1 rfl ?_
      refine a_icmp_ge dX0_becomeEven_15 (tgt := 22) (by decide) (fun c9 => ?_) (fun c9 => ?_)
      · replace hf := iteT hf c9
        refine a_lconst (v := 0) dX0_becomeEven_22 rfl ?_
        obtain ⟨M2_, eM2_, hf⟩ := bnd hf
        refine a_last dX0_becomeEven_23 eM2_ ?_
        refine a_iinc (v := x2 + (1 : Int32)) (lv1 := [(2, .int (x2 + (1 : Int32))), (0, .ref a0), (1, .int x1)]) dX0_becomeEven_24 2 rfl rfl (by decide) rfl ?_
        refine a_goto (tgt := 2) dX0_becomeEven_27 (by decide) ?_
        refine AW.sub (lv1 := [(0, .ref a0), (1, .int x1), (2, .int (x2 + (1 : Int32)))]) [1, 2, 0] rfl ?_
        exact ih _ _ _ _ hf
      · replace hf := iteF hf c9
        refine a_lconst (v := 1) dX0_becomeEven_18 rfl ?_
        refine a_goto (tgt := 23) dX0_becomeEven_19 (by decide) ?_
        obtain ⟨M3_, eM3_, hf⟩ := bnd hf
        refine a_last dX0_becomeEven_23 eM3_ ?_
        refine a_iinc (v := x2 + (1 : Int32)) (lv1 := [(2, .int (x2 + (1 : Int32))), (0, .ref a0), (1, .int x1)]) dX0_becomeEven_24 2 rfl rfl (by decide) rfl ?_
        refine a_goto (tgt := 2) dX0_becomeEven_27 (by decide) ?_
        refine AW.sub (lv1 := [(0, .ref a0), (1, .int x1), (2, .int (x2 + (1 : Int32)))]) [1, 2, 0] rfl ?_
        exact ih _ _ _ _ hf
set_option maxHeartbeats 4000000 in
set_option maxRecDepth 100000 in
theorem wX0_becomeEven {l : Launch} {Γ : Gx} {a0 : Nat} {x1 : Int32} {M : Mm} {q : Mm} (hf : fX0_becomeEven a0 x1 M = some q) : AM l Γ 1 yX0_becomeEven cX0_becomeEven 3 (none) [.ref a0, .int x1] M none q := by
  unfold fX0_becomeEven at hf
  refine AM.of mfX0_becomeEven (Nat.le_of_ble_eq_true rfl) ?_
  generalize mT M = t0
  generalize mW M = w0
  show AW _ _ _ _ _ _ _ _ _ 0 [(0, .ref a0), (1, .int x1)] [] _ _ _
  obtain ⟨u0, eu0, hf⟩ := bnd hf
  refine a_iconst (v := 0) dX0_becomeEven_0 (by decide) ?_
  refine a_istore_n (i := 2) (lv1 := [(2, .int ((0 : Int32))), (0, .ref a0), (1, .int x1)]) dX0_becomeEven_1 rfl (by decide) rfl ?_
  refine AW.sub (lv1 := [(0, .ref a0), (1, .int x1), (2, .int ((0 : Int32)))]) [1, 2, 0] rfl ?_
  exact wX0_becomeEven_b2 _ _ _ _ _ hf
theorem kX5_init {a0 : Nat} {M : Mm} {q : Mm} (hf : fX5_init a0 M = some q) : (mK M a0).1 = 6 := by
  unfold fX5_init at hf
  obtain ⟨u0, eu0, -⟩ := bnd hf
  exact kc_of eu0
set_option maxHeartbeats 4000000 in
set_option maxRecDepth 100000 in
theorem wX5_init {l : Launch} {Γ : Gx} {a0 : Nat} {M : Mm} {q : Mm} (hf : fX5_init a0 M = some q) : AM l Γ 2 yX5_init cX5_init 1 (none) [.ref a0] M none q := by
  unfold fX5_init at hf
  refine AM.of mfX5_init (Nat.le_of_ble_eq_true rfl) ?_
  generalize mT M = t0
  generalize mW M = w0
  show AW _ _ _ _ _ _ _ _ _ 0 [(0, .ref a0)] [] _ _ _
  obtain ⟨u0, eu0, hf⟩ := bnd hf
  refine a_aload_n dX5_init_0 rfl 0 rfl ?_
  refine a_objI dX5_init_1 wmX5_3 wob1 wob2 (by decide) (Nat.le_of_ble_eq_true rfl) ?_
  refine a_aload_n dX5_init_4 rfl 0 rfl ?_
  refine a_bipush (v := 12) dX5_init_5 (by decide) ?_
  obtain ⟨M1_, eM1_, hf⟩ := bnd hf
  refine a_putI dX5_init_7 fpX5_9 rfl (Or.inl rfl) eM1_ ?_
  refine a_aload_n dX5_init_10 rfl 0 rfl ?_
  refine a_iconst (v := 1) dX5_init_11 (by decide) ?_
  obtain ⟨M2_, eM2_, hf⟩ := bnd hf
  refine a_putI dX5_init_12 fpX5_15 rfl (Or.inl rfl) eM2_ ?_
  refine a_aload_n dX5_init_15 rfl 0 rfl ?_
  refine a_iconst (v := 1) dX5_init_16 (by decide) ?_
  obtain ⟨M3_, eM3_, hf⟩ := bnd hf
  refine a_putI dX5_init_17 fpX5_18 rfl (Or.inl rfl) eM3_ ?_
  refine a_aload_n dX5_init_20 rfl 0 rfl ?_
  refine a_iconst (v := 0) dX5_init_21 (by decide) ?_
  obtain ⟨M4_, eM4_, hf⟩ := bnd hf
  refine a_putI dX5_init_22 fpX5_21 rfl (Or.inl rfl) eM4_ ?_
  refine a_aload_n dX5_init_25 rfl 0 rfl ?_
  refine a_iconst (v := 0) dX5_init_26 (by decide) ?_
  obtain ⟨M5_, eM5_, hf⟩ := bnd hf
  refine a_putZ dX5_init_27 fpX5_24 rfl (Or.inl rfl) eM5_ ?_
  refine a_aload_n dX5_init_30 rfl 0 rfl ?_
  refine a_iconst (v := 5) dX5_init_31 (by decide) ?_
  obtain ⟨M6_, eM6_, hf⟩ := bnd hf
  refine a_putI dX5_init_32 fpX5_28 rfl (Or.inl rfl) eM6_ ?_
  refine a_aload_n dX5_init_35 rfl 0 rfl ?_
  refine a_bipush (v := 8) dX5_init_36 (by decide) ?_
  obtain ⟨q7_, eq7_, hf⟩ := bnd hf
  refine a_anew (t := 3) dX5_init_38 rfl (by decide) (fun _ => rfl) wclX5_31 ov23 eq7_ ?_
  obtain ⟨M8_, eM8_, hf⟩ := bnd hf
  refine a_putR dX5_init_41 fpX5_33 rfl (Or.inl rfl) eM8_ ?_
  refine a_aload_n dX5_init_44 rfl 0 rfl ?_
  refine a_iconst (v := 0) dX5_init_45 (by decide) ?_
  obtain ⟨M9_, eM9_, hf⟩ := bnd hf
  refine a_putI dX5_init_46 fpX5_37 rfl (Or.inl rfl) eM9_ ?_
  refine a_aload_n dX5_init_49 rfl 0 rfl ?_
  refine a_bipush (v := 8) dX5_init_50 (by decide) ?_
  obtain ⟨q10_, eq10_, hf⟩ := bnd hf
  refine a_anew (t := 4) dX5_init_52 rfl (by decide) (fun _ => rfl) wclX5_40 ov24 eq10_ ?_
  obtain ⟨M11_, eM11_, hf⟩ := bnd hf
  refine a_putR dX5_init_55 fpX5_42 rfl (Or.inl rfl) eM11_ ?_
  refine a_aload_n dX5_init_58 rfl 0 rfl ?_
  refine a_iconst (v := 0) dX5_init_59 (by decide) ?_
  obtain ⟨M12_, eM12_, hf⟩ := bnd hf
  refine a_putI dX5_init_60 fpX5_46 rfl (Or.inl rfl) eM12_ ?_
  refine a_aload_n dX5_init_63 rfl 0 rfl ?_
  obtain ⟨q13_, eq13_, hf⟩ := bnd hf
  refine a_new dX5_init_64 nwX5_49 rfl nz0 eq13_ ?_
  refine a_dup dX5_init_67 rfl ?_
  obtain ⟨M14_, eM14_, hf⟩ := bnd hf
  refine a_callIN (As := []) (rest := [.ref q13_.1, .ref a0]) dX5_init_68 mfX0_init (host := "AStreetByACane") (List.mem_of_getElem? (i := 3) rfl) wiX0_init rfl (wX0_init eM14_) (by decide) rfl rfl (Nat.le_of_ble_eq_true rfl) ?_
  obtain ⟨M15_, eM15_, hf⟩ := bnd hf
  refine a_putR dX5_init_71 fpX5_52 rfl (Or.inl rfl) eM15_ ?_
  refine a_aload_n dX5_init_74 rfl 0 rfl ?_
  refine a_iconst (v := 0) dX5_init_75 (by decide) ?_
  obtain ⟨M16_, eM16_, hf⟩ := bnd hf
  refine a_putI dX5_init_76 fpX5_56 rfl (Or.inl rfl) eM16_ ?_
  refine a_aload_n dX5_init_79 rfl 0 rfl ?_
  refine a_iconst (v := 0) dX5_init_80 (by decide) ?_
  obtain ⟨M17_, eM17_, hf⟩ := bnd hf
  refine a_putI dX5_init_81 fpX5_59 rfl (Or.inl rfl) eM17_ ?_
  refine a_aload_n dX5_init_84 rfl 0 rfl ?_
  refine a_iconst (v := -1) dX5_init_85 (by decide) ?_
  obtain ⟨M18_, eM18_, hf⟩ := bnd hf
  refine a_putI dX5_init_86 fpX5_62 rfl (Or.inl rfl) eM18_ ?_
  refine a_aload_n dX5_init_89 rfl 0 rfl ?_
  refine a_iconst (v := 1) dX5_init_90 (by decide) ?_
  obtain ⟨M19_, eM19_, hf⟩ := bnd hf
  refine a_putI dX5_init_91 fpX5_65 rfl (Or.inl rfl) eM19_ ?_
  refine a_aload_n dX5_init_94 rfl 0 rfl ?_
  obtain ⟨o20_, eo20_, hf⟩ := bnd hf
  refine a_getR dX5_init_95 flX5_52 rfl eo20_ ?_
  refine a_aload_n dX5_init_98 rfl 0 rfl ?_
  obtain ⟨v21_, ev21_, hf⟩ := bnd hf
  refine a_getI dX5_init_99 flX5_9 rfl ev21_ ?_
  obtain ⟨M22_, eM22_, hf⟩ := bnd hf
  refine a_callV (As := [.int v21_]) (rest := []) dX5_init_102 mfX0_becomeEven cvX5_68 (wX0_becomeEven eM22_) rc0 (kX0_becomeEven eM22_) (by decide) rfl rfl (Nat.le_of_ble_eq_true rfl) ?_
  have e9 := Option.some.inj hf
  subst e9
  exact a_vret rfl dX5_init_105 rfl
theorem kX1_init {a0 : Nat} {M : Mm} {q : Mm} (hf : fX1_init a0 M = some q) : (mK M a0).1 = 2 := by
  unfold fX1_init at hf
  obtain ⟨u0, eu0, -⟩ := bnd hf
  exact kc_of eu0
set_option maxHeartbeats 4000000 in
set_option maxRecDepth 100000 in
theorem wX1_init {l : Launch} {Γ : Gx} {a0 : Nat} {M : Mm} {q : Mm} (hf : fX1_init a0 M = some q) : AM l Γ 1 yX1_init cX1_init 1 (none) [.ref a0] M none q := by
  unfold fX1_init at hf
  refine AM.of mfX1_init (Nat.le_of_ble_eq_true rfl) ?_
  generalize mT M = t0
  generalize mW M = w0
  show AW _ _ _ _ _ _ _ _ _ 0 [(0, .ref a0)] [] _ _ _
  obtain ⟨u0, eu0, hf⟩ := bnd hf
  refine a_aload_n dX1_init_0 rfl 0 rfl ?_
  refine a_objI dX1_init_1 wmX1_3 wob1 wob2 (by decide) (Nat.le_of_ble_eq_true rfl) ?_
  refine a_aload_n dX1_init_4 rfl 0 rfl ?_
  refine a_bipush (v := 8) dX1_init_5 (by decide) ?_
  refine a_bipush (v := 24) dX1_init_7 (by decide) ?_
  obtain ⟨q1_, eq1_, hf⟩ := bnd hf
  refine a_mna (ty := .int) dX1_init_9 (by simp [GE]) wclX1_9 wac0 eq1_ ?_
  obtain ⟨M2_, eM2_, hf⟩ := bnd hf
  refine a_putR dX1_init_13 fpX1_11 rfl (Or.inl rfl) eM2_ ?_
  refine a_aload_n dX1_init_16 rfl 0 rfl ?_
  refine a_bipush (v := 9) dX1_init_17 (by decide) ?_
  refine a_bipush (v := 24) dX1_init_19 (by decide) ?_
  obtain ⟨q3_, eq3_, hf⟩ := bnd hf
  refine a_mna (ty := .long) dX1_init_21 (by simp [GE]) wclX1_16 wac1 eq3_ ?_
  obtain ⟨M4_, eM4_, hf⟩ := bnd hf
  refine a_putR dX1_init_25 fpX1_18 rfl (Or.inl rfl) eM4_ ?_
  refine a_aload_n dX1_init_28 rfl 0 rfl ?_
  refine a_iconst (v := 0) dX1_init_29 (by decide) ?_
  obtain ⟨M5_, eM5_, hf⟩ := bnd hf
  refine a_putI dX1_init_30 fpX1_21 rfl (Or.inl rfl) eM5_ ?_
  refine a_aload_n dX1_init_33 rfl 0 rfl ?_
  refine a_iconst (v := 0) dX1_init_34 (by decide) ?_
  obtain ⟨M6_, eM6_, hf⟩ := bnd hf
  refine a_putI dX1_init_35 fpX1_25 rfl (Or.inl rfl) eM6_ ?_
  have e9 := Option.some.inj hf
  subst e9
  exact a_vret rfl dX1_init_38 rfl
theorem kX7_init {a0 : Nat} {M : Mm} {q : Mm} (hf : fX7_init a0 M = some q) : (mK M a0).1 = 8 := by
  unfold fX7_init at hf
  obtain ⟨u0, eu0, -⟩ := bnd hf
  exact kc_of eu0
set_option maxHeartbeats 4000000 in
set_option maxRecDepth 100000 in
theorem wX7_init {l : Launch} {Γ : Gx} {a0 : Nat} {M : Mm} {q : Mm} (hf : fX7_init a0 M = some q) : AM l Γ 1 yX7_init cX7_init 1 (none) [.ref a0] M none q := by
  unfold fX7_init at hf
  refine AM.of mfX7_init (Nat.le_of_ble_eq_true rfl) ?_
  generalize mT M = t0
  generalize mW M = w0
  show AW _ _ _ _ _ _ _ _ _ 0 [(0, .ref a0)] [] _ _ _
  obtain ⟨u0, eu0, hf⟩ := bnd hf
  refine a_aload_n dX7_init_0 rfl 0 rfl ?_
  refine a_objI dX7_init_1 wmX7_3 wob1 wob2 (by decide) (Nat.le_of_ble_eq_true rfl) ?_
  refine a_aload_n dX7_init_4 rfl 0 rfl ?_
  refine a_bipush (v := 20) dX7_init_5 (by decide) ?_
  obtain ⟨q1_, eq1_, hf⟩ := bnd hf
  refine a_newarr (t := 0) dX7_init_7 rfl (by decide) rfl (fun _ => rfl) (fun _ h => by cases h) rfl wac0 (by decide) eq1_ ?_
  obtain ⟨M2_, eM2_, hf⟩ := bnd hf
  refine a_putR dX7_init_9 fpX7_11 rfl (Or.inl rfl) eM2_ ?_
  refine a_aload_n dX7_init_12 rfl 0 rfl ?_
  refine a_iconst (v := 0) dX7_init_13 (by decide) ?_
  obtain ⟨M3_, eM3_, hf⟩ := bnd hf
  refine a_putI dX7_init_14 fpX7_15 rfl (Or.inl rfl) eM3_ ?_
  have e9 := Option.some.inj hf
  subst e9
  exact a_vret rfl dX7_init_17 rfl
theorem kX3_init {a0 : Nat} {M : Mm} {q : Mm} (hf : fX3_init a0 M = some q) : (mK M a0).1 = 4 := by
  unfold fX3_init at hf
  obtain ⟨u0, eu0, -⟩ := bnd hf
  exact kc_of eu0
set_option maxHeartbeats 4000000 in
set_option maxRecDepth 100000 in
theorem wX3_init {l : Launch} {Γ : Gx} {a0 : Nat} {M : Mm} {q : Mm} (hf : fX3_init a0 M = some q) : AM l Γ 1 yX3_init cX3_init 1 (none) [.ref a0] M none q := by
  unfold fX3_init at hf
  refine AM.of mfX3_init (Nat.le_of_ble_eq_true rfl) ?_
  generalize mT M = t0
  generalize mW M = w0
  show AW _ _ _ _ _ _ _ _ _ 0 [(0, .ref a0)] [] _ _ _
  obtain ⟨u0, eu0, hf⟩ := bnd hf
  refine a_aload_n dX3_init_0 rfl 0 rfl ?_
  refine a_objI dX3_init_1 wmX3_3 wob1 wob2 (by decide) (Nat.le_of_ble_eq_true rfl) ?_
  refine a_aload_n dX3_init_4 rfl 0 rfl ?_
  refine a_iconst (v := -1) dX3_init_5 (by decide) ?_
  obtain ⟨M1_, eM1_, hf⟩ := bnd hf
  refine a_putI dX3_init_6 fpX3_9 rfl (Or.inl rfl) eM1_ ?_
  refine a_aload_n dX3_init_9 rfl 0 rfl ?_
  refine a_iconst (v := 0) dX3_init_10 (by decide) ?_
  obtain ⟨M2_, eM2_, hf⟩ := bnd hf
  refine a_putI dX3_init_11 fpX3_15 rfl (Or.inl rfl) eM2_ ?_
  refine a_aload_n dX3_init_14 rfl 0 rfl ?_
  refine a_sipush (v := 160) dX3_init_15 (by decide) ?_
  obtain ⟨q3_, eq3_, hf⟩ := bnd hf
  refine a_newarr (t := 1) dX3_init_18 rfl (by decide) rfl (fun _ => rfl) (fun _ h => by cases h) rfl wac1 (by decide) eq3_ ?_
  obtain ⟨M4_, eM4_, hf⟩ := bnd hf
  refine a_putR dX3_init_20 fpX3_18 rfl (Or.inl rfl) eM4_ ?_
  have e9 := Option.some.inj hf
  subst e9
  exact a_vret rfl dX3_init_23 rfl
set_option maxHeartbeats 4000000 in
set_option maxRecDepth 100000 in
theorem wJ7_fill_d0a16_b6 {l : Launch} {Γ : Gx} {t0 w0 : Nat} {q : Mm} : ∀ (n : Nat) (a0 : Nat) (x1 : Int64) (x3 : Int32) (x4 : Int32) (M : Mm), fJ7_fill_d0a16_b6 n a0 x1 x3 x4 M = some q → AW l Γ yJ7_fill_d0a16 cJ7_fill_d0a16 5 (none) 1 t0 w0 6 [(0, .ref a0), (1, .long x1), (3, .int x3), (4, .int x4)] [] M none q := by
  intro n
  induction n with
  | zero =>
    intro a0 x1 x3 x4 M hf
    cases hf
  | succ n ih =>
    intro a0 x1 x3 x4 M hf
    rw [fJ7_fill_d0a16_b6.eq_2] at hf
    refine a_iload_n dJ7_fill_d0a16_6 rfl 2 rfl ?_
    refine a_iload dJ7_fill_d0a16_7 3 rfl ?_
    refine a_icmp_ge dJ7_fill_d0a16_9 (tgt := 22) (by decide) (fun c9 => ?_) (fun c9 => ?_)
    · replace hf := iteT hf c9
      have e9 := Option.some.inj hf
      subst e9
      exact a_vret rfl dJ7_fill_d0a16_22 rfl
    · replace hf := iteF hf c9
      refine a_aload_n dJ7_fill_d0a16_12 rfl 0 rfl ?_
      refine a_iload_n dJ7_fill_d0a16_13 rfl 2 rfl ?_
      refine a_lload_n dJ7_fill_d0a16_14 rfl 1 rfl ?_
      obtain ⟨M1_, eM1_, hf⟩ := bnd hf
      refine a_last dJ7_fill_d0a16_15 eM1_ ?_
      refine a_iinc (v := x3 + (1 : Int32)) (lv1 := [(3, .int (x3 + (1 : Int32))), (0, .ref a0), (1, .long x1), (4, .int x4)]) dJ7_fill_d0a16_16 2 rfl rfl (by decide) rfl ?_
      refine a_goto (tgt := 6) dJ7_fill_d0a16_19 (by decide) ?_
      refine AW.sub (lv1 := [(0, .ref a0), (1, .long x1), (3, .int (x3 + (1 : Int32))), (4, .int x4)]) [1, 2, 0, 3] rfl ?_
      exact ih _ _ _ _ _ hf
set_option maxHeartbeats 4000000 in
set_option maxRecDepth 100000 in
theorem wJ7_fill_d0a16 {l : Launch} {Γ : Gx} {a0 : Nat} {x1 : Int64} {M : Mm} {q : Mm} (hf : fJ7_fill_d0a16 a0 x1 M = some q) : AM l Γ 1 yJ7_fill_d0a16 cJ7_fill_d0a16 5 (none) [.ref a0, .long x1] M none q := by
  unfold fJ7_fill_d0a16 at hf
  refine AM.of mfJ7_fill_d0a16 (Nat.le_of_ble_eq_true rfl) ?_
  generalize mT M = t0
  generalize mW M = w0
  show AW _ _ _ _ _ _ _ _ _ 0 [(0, .ref a0), (1, .long x1)] [] _ _ _
  refine a_iconst (v := 0) dJ7_fill_d0a16_0 (by decide) ?_
  refine a_istore_n (i := 3) (lv1 := [(3, .int ((0 : Int32))), (0, .ref a0), (1, .long x1)]) dJ7_fill_d0a16_1 rfl (by decide) rfl ?_
  refine a_aload_n dJ7_fill_d0a16_2 rfl 1 rfl ?_
  obtain ⟨v1_, ev1_, hf⟩ := bnd hf
  refine a_alen dJ7_fill_d0a16_3 ev1_ ?_
  refine a_istore (i := 4) (lv1 := [(4, .int v1_), (3, .int ((0 : Int32))), (0, .ref a0), (1, .long x1)]) dJ7_fill_d0a16_4 (by decide) rfl ?_
  refine AW.sub (lv1 := [(0, .ref a0), (1, .long x1), (3, .int ((0 : Int32))), (4, .int v1_)]) [2, 3, 1, 0] rfl ?_
  exact wJ7_fill_d0a16_b6 _ _ _ _ _ _ hf
theorem kX3_takeRow {a0 : Nat} {x1 : Int32} {x2 : Int32} {M : Mm} {q : Mm} (hf : fX3_takeRow a0 x1 x2 M = some q) : (mK M a0).1 = 4 := by
  unfold fX3_takeRow at hf
  obtain ⟨u0, eu0, -⟩ := bnd hf
  exact kc_of eu0
set_option maxHeartbeats 4000000 in
set_option maxRecDepth 100000 in
theorem wX3_takeRow {l : Launch} {Γ : Gx} {a0 : Nat} {x1 : Int32} {x2 : Int32} {M : Mm} {q : Mm} (hf : fX3_takeRow a0 x1 x2 M = some q) : AM l Γ 2 yX3_takeRow cX3_takeRow 3 (none) [.ref a0, .int x1, .int x2] M none q := by
  unfold fX3_takeRow at hf
  refine AM.of mfX3_takeRow (Nat.le_of_ble_eq_true rfl) ?_
  generalize mT M = t0
  generalize mW M = w0
  show AW _ _ _ _ _ _ _ _ _ 0 [(0, .ref a0), (1, .int x1), (2, .int x2)] [] _ _ _
  obtain ⟨u0, eu0, hf⟩ := bnd hf
  refine a_aload_n dX3_takeRow_0 rfl 0 rfl ?_
  refine a_bipush (v := 100) dX3_takeRow_1 (by decide) ?_
  refine a_iload_n dX3_takeRow_3 rfl 1 rfl ?_
  refine a_iadd dX3_takeRow_4 ?_
  obtain ⟨M1_, eM1_, hf⟩ := bnd hf
  refine a_putI dX3_takeRow_5 fpX3_9 rfl (Or.inr nf3_0) eM1_ ?_
  refine a_aload_n dX3_takeRow_8 rfl 0 rfl ?_
  refine a_iload_n dX3_takeRow_9 rfl 2 rfl ?_
  obtain ⟨M2_, eM2_, hf⟩ := bnd hf
  refine a_putI dX3_takeRow_10 fpX3_15 rfl (Or.inr nf3_1) eM2_ ?_
  refine a_aload_n dX3_takeRow_13 rfl 0 rfl ?_
  obtain ⟨o3_, eo3_, hf⟩ := bnd hf
  refine a_getR dX3_takeRow_14 flX3_18 rfl eo3_ ?_
  refine a_lconst (v := 0) dX3_takeRow_17 rfl ?_
  obtain ⟨M4_, eM4_, hf⟩ := bnd hf
  refine a_callS (As := [.ref o3_, .long ((0 : Int64))]) (rest := []) dX3_takeRow_18 mfJ7_fill_d0a16 csX3_22 (wJ7_fill_d0a16 eM4_) (by decide) rfl rfl (Nat.le_of_ble_eq_true rfl) ?_
  have e9 := Option.some.inj hf
  subst e9
  exact a_vret rfl dX3_takeRow_21 rfl
theorem kX3_holdsRow {a0 : Nat} {M : Mm} {q : Int32 × Mm} (hf : fX3_holdsRow a0 M = some q) : (mK M a0).1 = 4 := by
  unfold fX3_holdsRow at hf
  obtain ⟨u0, eu0, -⟩ := bnd hf
  exact kc_of eu0
set_option maxHeartbeats 4000000 in
set_option maxRecDepth 100000 in
theorem wX3_holdsRow {l : Launch} {Γ : Gx} {a0 : Nat} {M : Mm} {q : Int32 × Mm} (hf : fX3_holdsRow a0 M = some q) : AM l Γ 1 yX3_holdsRow cX3_holdsRow 1 ((some .boolean)) [.ref a0] M (some (.int q.1)) q.2 := by
  unfold fX3_holdsRow at hf
  refine AM.of mfX3_holdsRow (Nat.le_of_ble_eq_true rfl) ?_
  generalize mT M = t0
  generalize mW M = w0
  show AW _ _ _ _ _ _ _ _ _ 0 [(0, .ref a0)] [] _ _ _
  obtain ⟨u0, eu0, hf⟩ := bnd hf
  refine a_aload_n dX3_holdsRow_0 rfl 0 rfl ?_
  obtain ⟨v1_, ev1_, hf⟩ := bnd hf
  refine a_getI dX3_holdsRow_1 flX3_9 rfl ev1_ ?_
  refine a_bipush (v := 100) dX3_holdsRow_4 (by decide) ?_
  refine a_icmp_lt dX3_holdsRow_6 (tgt := 13) (by decide) (fun c9 => ?_) (fun c9 => ?_)
  · replace hf := iteT hf c9
    refine a_iconst (v := 0) dX3_holdsRow_13 (by decide) ?_
    have e9 := Option.some.inj hf
    subst e9
    exact a_zret rfl rfl dX3_holdsRow_14 rfl
  · replace hf := iteF hf c9
    refine a_iconst (v := 1) dX3_holdsRow_9 (by decide) ?_
    refine a_goto (tgt := 14) dX3_holdsRow_10 (by decide) ?_
    have e9 := Option.some.inj hf
    subst e9
    exact a_zret rfl rfl dX3_holdsRow_14 rfl
theorem kX3_hasRun {a0 : Nat} {x1 : Int32} {x2 : Int32} {M : Mm} {q : Int32 × Mm} (hf : fX3_hasRun a0 x1 x2 M = some q) : (mK M a0).1 = 4 := by
  unfold fX3_hasRun at hf
  obtain ⟨u0, eu0, -⟩ := bnd hf
  exact kc_of eu0
set_option maxHeartbeats 4000000 in
set_option maxRecDepth 100000 in
theorem wX3_hasRun {l : Launch} {Γ : Gx} {a0 : Nat} {x1 : Int32} {x2 : Int32} {M : Mm} {q : Int32 × Mm} (hf : fX3_hasRun a0 x1 x2 M = some q) : AM l Γ 1 yX3_hasRun cX3_hasRun 3 ((some .boolean)) [.ref a0, .int x1, .int x2] M (some (.int q.1)) q.2 := by
  unfold fX3_hasRun at hf
  refine AM.of mfX3_hasRun (Nat.le_of_ble_eq_true rfl) ?_
  generalize mT M = t0
  generalize mW M = w0
  show AW _ _ _ _ _ _ _ _ _ 0 [(0, .ref a0), (1, .int x1), (2, .int x2)] [] _ _ _
  obtain ⟨u0, eu0, hf⟩ := bnd hf
  refine a_iload_n dX3_hasRun_0 rfl 2 rfl ?_
  refine a_if_lt dX3_hasRun_1 (tgt := 30) (by decide) (fun c9 => ?_) (fun c9 => ?_)
  · replace hf := iteT hf c9
    refine a_iconst (v := 0) dX3_hasRun_30 (by decide) ?_
    have e9 := Option.some.inj hf
    subst e9
    exact a_zret rfl rfl dX3_hasRun_31 rfl
  · replace hf := iteF hf c9
    refine a_iload_n dX3_hasRun_4 rfl 2 rfl ?_
    refine a_aload_n dX3_hasRun_5 rfl 0 rfl ?_
    obtain ⟨v1_, ev1_, hf⟩ := bnd hf
    refine a_getI dX3_hasRun_6 flX3_15 rfl ev1_ ?_
    refine a_icmp_gt dX3_hasRun_9 (tgt := 30) (by decide) (fun c9 => ?_) (fun c9 => ?_)
    · replace hf := iteT hf c9
      refine a_iconst (v := 0) dX3_hasRun_30 (by decide) ?_
      have e9 := Option.some.inj hf
      subst e9
      exact a_zret rfl rfl dX3_hasRun_31 rfl
    · replace hf := iteF hf c9
      refine a_iload_n dX3_hasRun_12 rfl 1 rfl ?_
      refine a_if_lt dX3_hasRun_13 (tgt := 30) (by decide) (fun c9 => ?_) (fun c9 => ?_)
      · replace hf := iteT hf c9
        refine a_iconst (v := 0) dX3_hasRun_30 (by decide) ?_
        have e9 := Option.some.inj hf
        subst e9
        exact a_zret rfl rfl dX3_hasRun_31 rfl
      · replace hf := iteF hf c9
        refine a_iload_n dX3_hasRun_16 rfl 1 rfl ?_
        refine a_aload_n dX3_hasRun_17 rfl 0 rfl ?_
        obtain ⟨v2_, ev2_, hf⟩ := bnd hf
        refine a_getI dX3_hasRun_18 flX3_15 rfl ev2_ ?_
        refine a_iload_n dX3_hasRun_21 rfl 2 rfl ?_
        refine a_isub dX3_hasRun_22 ?_
        refine a_icmp_gt dX3_hasRun_23 (tgt := 30) (by decide) (fun c9 => ?_) (fun c9 => ?_)
        · replace hf := iteT hf c9
          refine a_iconst (v := 0) dX3_hasRun_30 (by decide) ?_
          have e9 := Option.some.inj hf
          subst e9
          exact a_zret rfl rfl dX3_hasRun_31 rfl
        · replace hf := iteF hf c9
          refine a_iconst (v := 1) dX3_hasRun_26 (by decide) ?_
          refine a_goto (tgt := 31) dX3_hasRun_27 (by decide) ?_
          have e9 := Option.some.inj hf
          subst e9
          exact a_zret rfl rfl dX3_hasRun_31 rfl
theorem kX3_lowestBits {a0 : Nat} {x1 : Int64} {M : Mm} {q : Int64 × Mm} (hf : fX3_lowestBits a0 x1 M = some q) : (mK M a0).1 = 4 := by
  unfold fX3_lowestBits at hf
  obtain ⟨u0, eu0, -⟩ := bnd hf
  exact kc_of eu0
set_option maxHeartbeats 4000000 in
set_option maxRecDepth 100000 in
theorem wX3_lowestBits {l : Launch} {Γ : Gx} {a0 : Nat} {x1 : Int64} {M : Mm} {q : Int64 × Mm} (hf : fX3_lowestBits a0 x1 M = some q) : AM l Γ 1 yX3_lowestBits cX3_lowestBits 3 ((some .long)) [.ref a0, .long x1] M (some (.long q.1)) q.2 := by
  unfold fX3_lowestBits at hf
  refine AM.of mfX3_lowestBits (Nat.le_of_ble_eq_true rfl) ?_
  generalize mT M = t0
  generalize mW M = w0
  show AW _ _ _ _ _ _ _ _ _ 0 [(0, .ref a0), (1, .long x1)] [] _ _ _
  obtain ⟨u0, eu0, hf⟩ := bnd hf
  refine a_aload_n dX3_lowestBits_0 rfl 0 rfl ?_
  obtain ⟨v1_, ev1_, hf⟩ := bnd hf
  refine a_getI dX3_lowestBits_1 flX3_9 rfl ev1_ ?_
  refine a_bipush (v := 100) dX3_lowestBits_4 (by decide) ?_
  refine a_isub dX3_lowestBits_6 ?_
  by_cases c0 : (v1_ - ((100 : Int32))) = (0 : Int32)
  · replace hf := iteT hf c0
    refine a_tableAt 0 (off := 25) (tgt := 32) dX3_lowestBits_7 ((congrArg Int32.toInt c0).trans rfl) (by decide) (by decide) ?_
    refine a_lload_n dX3_lowestBits_32 rfl 1 rfl ?_
    refine a_l2i dX3_lowestBits_33 ?_
    refine a_i2b dX3_lowestBits_34 ?_
    refine a_i2l dX3_lowestBits_35 ?_
    have e9 := Option.some.inj hf
    subst e9
    exact a_lret rfl dX3_lowestBits_36 rfl
  · replace hf := iteF hf c0
    by_cases c1 : (v1_ - ((100 : Int32))) = (1 : Int32)
    · replace hf := iteT hf c1
      refine a_tableAt 1 (off := 30) (tgt := 37) dX3_lowestBits_7 ((congrArg Int32.toInt c1).trans rfl) (by decide) (by decide) ?_
      refine a_lload_n dX3_lowestBits_37 rfl 1 rfl ?_
      refine a_l2i dX3_lowestBits_38 ?_
      refine a_i2s dX3_lowestBits_39 ?_
      refine a_i2l dX3_lowestBits_40 ?_
      have e9 := Option.some.inj hf
      subst e9
      exact a_lret rfl dX3_lowestBits_41 rfl
    · replace hf := iteF hf c1
      by_cases c2 : (v1_ - ((100 : Int32))) = (2 : Int32)
      · replace hf := iteT hf c2
        refine a_tableAt 2 (off := 35) (tgt := 42) dX3_lowestBits_7 ((congrArg Int32.toInt c2).trans rfl) (by decide) (by decide) ?_
        refine a_lload_n dX3_lowestBits_42 rfl 1 rfl ?_
        refine a_l2i dX3_lowestBits_43 ?_
        refine a_i2l dX3_lowestBits_44 ?_
        have e9 := Option.some.inj hf
        subst e9
        exact a_lret rfl dX3_lowestBits_45 rfl
      · replace hf := iteF hf c2
        refine a_tableOut (tgt := 46) dX3_lowestBits_7 (by have nc0 := swne c0 (k9 := 0) rfl; have nc1 := swne c1 (k9 := 1) rfl; have nc2 := swne c2 (k9 := 2) rfl; omega) (by decide) ?_
        refine a_lload_n dX3_lowestBits_46 rfl 1 rfl ?_
        have e9 := Option.some.inj hf
        subst e9
        exact a_lret rfl dX3_lowestBits_47 rfl
theorem kX3_put {a0 : Nat} {x1 : Int32} {x2 : Int64} {M : Mm} {q : Mm} (hf : fX3_put a0 x1 x2 M = some q) : (mK M a0).1 = 4 := by
  unfold fX3_put at hf
  obtain ⟨u0, eu0, -⟩ := bnd hf
  exact kc_of eu0
set_option maxHeartbeats 4000000 in
set_option maxRecDepth 100000 in
theorem wX3_put {l : Launch} {Γ : Gx} {a0 : Nat} {x1 : Int32} {x2 : Int64} {M : Mm} {q : Mm} (hf : fX3_put a0 x1 x2 M = some q) : AM l Γ 2 yX3_put cX3_put 4 (none) [.ref a0, .int x1, .long x2] M none q := by
  unfold fX3_put at hf
  refine AM.of mfX3_put (Nat.le_of_ble_eq_true rfl) ?_
  generalize mT M = t0
  generalize mW M = w0
  show AW _ _ _ _ _ _ _ _ _ 0 [(0, .ref a0), (1, .int x1), (2, .long x2)] [] _ _ _
  obtain ⟨u0, eu0, hf⟩ := bnd hf
  refine a_iload_n dX3_put_0 rfl 1 rfl ?_
  refine a_if_lt dX3_put_1 (tgt := 22) (by decide) (fun c9 => ?_) (fun c9 => ?_)
  · replace hf := iteT hf c9
    have e9 := Option.some.inj hf
    subst e9
    exact a_vret rfl dX3_put_22 rfl
  · replace hf := iteF hf c9
    refine a_iload_n dX3_put_4 rfl 1 rfl ?_
    refine a_sipush (v := 160) dX3_put_5 (by decide) ?_
    refine a_icmp_ge dX3_put_8 (tgt := 22) (by decide) (fun c9 => ?_) (fun c9 => ?_)
    · replace hf := iteT hf c9
      have e9 := Option.some.inj hf
      subst e9
      exact a_vret rfl dX3_put_22 rfl
    · replace hf := iteF hf c9
      refine a_aload_n dX3_put_11 rfl 0 rfl ?_
      obtain ⟨o1_, eo1_, hf⟩ := bnd hf
      refine a_getR dX3_put_12 flX3_18 rfl eo1_ ?_
      refine a_iload_n dX3_put_15 rfl 1 rfl ?_
      refine a_aload_n dX3_put_16 rfl 0 rfl ?_
      refine a_lload_n dX3_put_17 rfl 2 rfl ?_
      obtain ⟨q2_, eq2_, hf⟩ := bnd hf
      refine a_callV (As := [.long x2]) (rest := [.int x1, .ref o1_]) dX3_put_18 mfX3_lowestBits cvX3_28 (wX3_lowestBits eq2_) rc3 (kX3_lowestBits eq2_) (by decide) rfl rfl (Nat.le_of_ble_eq_true rfl) ?_
      obtain ⟨M3_, eM3_, hf⟩ := bnd hf
      refine a_last dX3_put_21 eM3_ ?_
      have e9 := Option.some.inj hf
      subst e9
      exact a_vret rfl dX3_put_22 rfl
theorem kX3_valueAt {a0 : Nat} {x1 : Int32} {M : Mm} {q : Int64 × Mm} (hf : fX3_valueAt a0 x1 M = some q) : (mK M a0).1 = 4 := by
  unfold fX3_valueAt at hf
  obtain ⟨u0, eu0, -⟩ := bnd hf
  exact kc_of eu0
set_option maxHeartbeats 4000000 in
set_option maxRecDepth 100000 in
theorem wX3_valueAt {l : Launch} {Γ : Gx} {a0 : Nat} {x1 : Int32} {M : Mm} {q : Int64 × Mm} (hf : fX3_valueAt a0 x1 M = some q) : AM l Γ 1 yX3_valueAt cX3_valueAt 2 ((some .long)) [.ref a0, .int x1] M (some (.long q.1)) q.2 := by
  unfold fX3_valueAt at hf
  refine AM.of mfX3_valueAt (Nat.le_of_ble_eq_true rfl) ?_
  generalize mT M = t0
  generalize mW M = w0
  show AW _ _ _ _ _ _ _ _ _ 0 [(0, .ref a0), (1, .int x1)] [] _ _ _
  obtain ⟨u0, eu0, hf⟩ := bnd hf
  refine a_iload_n dX3_valueAt_0 rfl 1 rfl ?_
  refine a_if_lt dX3_valueAt_1 (tgt := 19) (by decide) (fun c9 => ?_) (fun c9 => ?_)
  · replace hf := iteT hf c9
    refine a_lconst (v := 0) dX3_valueAt_19 rfl ?_
    refine a_goto (tgt := 29) dX3_valueAt_20 (by decide) ?_
    have e9 := Option.some.inj hf
    subst e9
    exact a_lret rfl dX3_valueAt_29 rfl
  · replace hf := iteF hf c9
    refine a_iload_n dX3_valueAt_4 rfl 1 rfl ?_
    refine a_aload_n dX3_valueAt_5 rfl 0 rfl ?_
    obtain ⟨v1_, ev1_, hf⟩ := bnd hf
    refine a_getI dX3_valueAt_6 flX3_15 rfl ev1_ ?_
    refine a_icmp_ge dX3_valueAt_9 (tgt := 19) (by decide) (fun c9 => ?_) (fun c9 => ?_)
    · replace hf := iteT hf c9
      refine a_lconst (v := 0) dX3_valueAt_19 rfl ?_
      refine a_goto (tgt := 29) dX3_valueAt_20 (by decide) ?_
      have e9 := Option.some.inj hf
      subst e9
      exact a_lret rfl dX3_valueAt_29 rfl
    · replace hf := iteF hf c9
      refine a_iload_n dX3_valueAt_12 rfl 1 rfl ?_
      refine a_sipush (v := 160) dX3_valueAt_13 (by decide) ?_
      refine a_icmp_lt dX3_valueAt_16 (tgt := 23) (by decide) (fun c9 => ?_) (fun c9 => ?_)
      · replace hf := iteT hf c9
        refine a_aload_n dX3_valueAt_23 rfl 0 rfl ?_
        obtain ⟨o2_, eo2_, hf⟩ := bnd hf
        refine a_getR dX3_valueAt_24 flX3_18 rfl eo2_ ?_
        refine a_iload_n dX3_valueAt_27 rfl 1 rfl ?_
        obtain ⟨v3_, ev3_, hf⟩ := bnd hf
        refine a_lald dX3_valueAt_28 ev3_ ?_
        have e9 := Option.some.inj hf
        subst e9
        exact a_lret rfl dX3_valueAt_29 rfl
      · replace hf := iteF hf c9
        refine a_lconst (v := 0) dX3_valueAt_19 rfl ?_
        refine a_goto (tgt := 29) dX3_valueAt_20 (by decide) ?_
        have e9 := Option.some.inj hf
        subst e9
        exact a_lret rfl dX3_valueAt_29 rfl
theorem kX5_signAt {a0 : Nat} {x1 : Int32} {M : Mm} {q : Option Nat × Mm} (hf : fX5_signAt a0 x1 M = some q) : (mK M a0).1 = 6 := by
  unfold fX5_signAt at hf
  obtain ⟨u0, eu0, -⟩ := bnd hf
  exact kc_of eu0
set_option maxHeartbeats 4000000 in
set_option maxRecDepth 100000 in
theorem wX5_signAt {l : Launch} {Γ : Gx} {a0 : Nat} {x1 : Int32} {M : Mm} {q : Option Nat × Mm} (hf : fX5_signAt a0 x1 M = some q) : AM l Γ 1 yX5_signAt cX5_signAt 2 ((some (.object "AStreetByACane$Sign"))) [.ref a0, .int x1] M (some (rv q.1)) q.2 := by
  unfold fX5_signAt at hf
  refine AM.of mfX5_signAt (Nat.le_of_ble_eq_true rfl) ?_
  generalize mT M = t0
  generalize mW M = w0
  show AW _ _ _ _ _ _ _ _ _ 0 [(0, .ref a0), (1, .int x1)] [] _ _ _
  obtain ⟨u0, eu0, hf⟩ := bnd hf
  refine a_iload_n dX5_signAt_0 rfl 1 rfl ?_
  refine a_if_lt dX5_signAt_1 (tgt := 18) (by decide) (fun c9 => ?_) (fun c9 => ?_)
  · replace hf := iteT hf c9
    refine a_null dX5_signAt_18 ?_
    refine a_goto (tgt := 28) dX5_signAt_19 (by decide) ?_
    have e9 := Option.some.inj hf
    subst e9
    exact a_aret (x := none) rfl dX5_signAt_28 rfl
  · replace hf := iteF hf c9
    refine a_iload_n dX5_signAt_4 rfl 1 rfl ?_
    refine a_aload_n dX5_signAt_5 rfl 0 rfl ?_
    obtain ⟨v1_, ev1_, hf⟩ := bnd hf
    refine a_getI dX5_signAt_6 flX5_37 rfl ev1_ ?_
    refine a_icmp_ge dX5_signAt_9 (tgt := 18) (by decide) (fun c9 => ?_) (fun c9 => ?_)
    · replace hf := iteT hf c9
      refine a_null dX5_signAt_18 ?_
      refine a_goto (tgt := 28) dX5_signAt_19 (by decide) ?_
      have e9 := Option.some.inj hf
      subst e9
      exact a_aret (x := none) rfl dX5_signAt_28 rfl
    · replace hf := iteF hf c9
      refine a_iload_n dX5_signAt_12 rfl 1 rfl ?_
      refine a_bipush (v := 8) dX5_signAt_13 (by decide) ?_
      refine a_icmp_lt dX5_signAt_15 (tgt := 22) (by decide) (fun c9 => ?_) (fun c9 => ?_)
      · replace hf := iteT hf c9
        refine a_aload_n dX5_signAt_22 rfl 0 rfl ?_
        obtain ⟨o2_, eo2_, hf⟩ := bnd hf
        refine a_getR dX5_signAt_23 flX5_33 rfl eo2_ ?_
        refine a_iload_n dX5_signAt_26 rfl 1 rfl ?_
        obtain ⟨n3_, en3_, hf⟩ := bnd hf
        refine a_aald (t := 3) dX5_signAt_27 (by decide) en3_ ?_
        have e9 := Option.some.inj hf
        subst e9
        exact a_aret (x := n3_) rfl dX5_signAt_28 rfl
      · replace hf := iteF hf c9
        refine a_null dX5_signAt_18 ?_
        refine a_goto (tgt := 28) dX5_signAt_19 (by decide) ?_
        have e9 := Option.some.inj hf
        subst e9
        exact a_aret (x := none) rfl dX5_signAt_28 rfl
theorem kX3_takeSign {a0 : Nat} {x1 : Int32} {M : Mm} {q : Mm} (hf : fX3_takeSign a0 x1 M = some q) : (mK M a0).1 = 4 := by
  unfold fX3_takeSign at hf
  obtain ⟨u0, eu0, -⟩ := bnd hf
  exact kc_of eu0
set_option maxHeartbeats 4000000 in
set_option maxRecDepth 100000 in
theorem wX3_takeSign {l : Launch} {Γ : Gx} {a0 : Nat} {x1 : Int32} {M : Mm} {q : Mm} (hf : fX3_takeSign a0 x1 M = some q) : AM l Γ 1 yX3_takeSign cX3_takeSign 2 (none) [.ref a0, .int x1] M none q := by
  unfold fX3_takeSign at hf
  refine AM.of mfX3_takeSign (Nat.le_of_ble_eq_true rfl) ?_
  generalize mT M = t0
  generalize mW M = w0
  show AW _ _ _ _ _ _ _ _ _ 0 [(0, .ref a0), (1, .int x1)] [] _ _ _
  obtain ⟨u0, eu0, hf⟩ := bnd hf
  refine a_aload_n dX3_takeSign_0 rfl 0 rfl ?_
  refine a_iload_n dX3_takeSign_1 rfl 1 rfl ?_
  obtain ⟨M1_, eM1_, hf⟩ := bnd hf
  refine a_putI dX3_takeSign_2 fpX3_9 rfl (Or.inr nf3_0) eM1_ ?_
  refine a_aload_n dX3_takeSign_5 rfl 0 rfl ?_
  refine a_iconst (v := 0) dX3_takeSign_6 (by decide) ?_
  obtain ⟨M2_, eM2_, hf⟩ := bnd hf
  refine a_putI dX3_takeSign_7 fpX3_15 rfl (Or.inr nf3_1) eM2_ ?_
  have e9 := Option.some.inj hf
  subst e9
  exact a_vret rfl dX3_takeSign_10 rfl
theorem kX4_isOf {a0 : Nat} {x1 : Int32} {M : Mm} {q : Int32 × Mm} (hf : fX4_isOf a0 x1 M = some q) : (mK M a0).1 = 5 := by
  unfold fX4_isOf at hf
  obtain ⟨u0, eu0, -⟩ := bnd hf
  exact kc_of eu0
set_option maxHeartbeats 4000000 in
set_option maxRecDepth 100000 in
theorem wX4_isOf_b7 {l : Launch} {Γ : Gx} {t0 w0 : Nat} {q : Int32 × Mm} : ∀ (n : Nat) (x1 : Int32) (x2 : Int32) (x3 : Int32) (M : Mm), fX4_isOf_b7 n x1 x2 x3 M = some q → AW l Γ yX4_isOf cX4_isOf 4 ((some .boolean)) 1 t0 w0 7 [(1, .int x1), (2, .int x2), (3, .int x3)] [] M (some (.int q.1)) q.2 := by
  intro n
  induction n with
  | zero =>
    intro x1 x2 x3 M hf
    cases hf
  | succ n ih =>
    intro x1 x2 x3 M hf
    rw [fX4_isOf_b7.eq_2] at hf
    refine a_iload_n dX4_isOf_7 rfl 2 rfl ?_
    refine a_bipush (v := 7) dX4_isOf_8 (by decide) ?_
    refine a_icmp_ge dX4_isOf_10 (tgt := 42) (by decide) (fun c9 => ?_) (fun c9 => ?_)
    · replace hf := iteT hf c9
      refine a_iconst (v := 0) dX4_isOf_42 (by decide) ?_
      have e9 := Option.some.inj hf
      subst e9
      exact a_zret rfl rfl dX4_isOf_43 rfl
    · replace hf := iteF hf c9
      refine a_iload_n dX4_isOf_13 rfl 1 rfl ?_
      refine a_if_lt dX4_isOf_14 (tgt := 42) (by decide) (fun c9 => ?_) (fun c9 => ?_)
      · replace hf := iteT hf c9
        refine a_iconst (v := 0) dX4_isOf_42 (by decide) ?_
        have e9 := Option.some.inj hf
        subst e9
        exact a_zret rfl rfl dX4_isOf_43 rfl
      · replace hf := iteF hf c9
        refine a_iload_n dX4_isOf_17 rfl 1 rfl ?_
        refine a_bipush (v := 7) dX4_isOf_18 (by decide) ?_
        refine a_icmp_ge dX4_isOf_20 (tgt := 42) (by decide) (fun c9 => ?_) (fun c9 => ?_)
        · replace hf := iteT hf c9
          refine a_iconst (v := 0) dX4_isOf_42 (by decide) ?_
          have e9 := Option.some.inj hf
          subst e9
          exact a_zret rfl rfl dX4_isOf_43 rfl
        · replace hf := iteF hf c9
          refine a_iload_n dX4_isOf_23 rfl 1 rfl ?_
          refine a_iload_n dX4_isOf_24 rfl 0 rfl ?_
          refine a_icmp_ne dX4_isOf_25 (tgt := 30) (by decide) (fun c9 => ?_) (fun c9 => ?_)
          · replace hf := iteF hf c9
            refine a_getsN dX4_isOf_30 rfl rfl ?_
            refine a_iload_n dX4_isOf_33 rfl 1 rfl ?_
            obtain ⟨v1_, ev1_, hf⟩ := bnd hf
            refine a_iald dX4_isOf_34 ev1_ ?_
            refine a_istore_n (i := 2) (lv1 := [(2, .int v1_), (1, .int x1), (3, .int x3)]) dX4_isOf_35 rfl (by decide) rfl ?_
            refine a_iinc (v := x3 + (1 : Int32)) (lv1 := [(3, .int (x3 + (1 : Int32))), (2, .int v1_), (1, .int x1)]) dX4_isOf_36 2 rfl rfl (by decide) rfl ?_
            refine a_goto (tgt := 7) dX4_isOf_39 (by decide) ?_
            refine AW.sub (lv1 := [(1, .int x1), (2, .int v1_), (3, .int (x3 + (1 : Int32)))]) [2, 1, 0] rfl ?_
            exact ih _ _ _ _ hf
          · replace hf := iteT hf c9
            refine a_iconst (v := 1) dX4_isOf_28 (by decide) ?_
            have e9 := Option.some.inj hf
            subst e9
            exact a_zret rfl rfl dX4_isOf_29 rfl
set_option maxHeartbeats 4000000 in
set_option maxRecDepth 100000 in
theorem wX4_isOf {l : Launch} {Γ : Gx} {a0 : Nat} {x1 : Int32} {M : Mm} {q : Int32 × Mm} (hf : fX4_isOf a0 x1 M = some q) : AM l Γ 1 yX4_isOf cX4_isOf 4 ((some .boolean)) [.ref a0, .int x1] M (some (.int q.1)) q.2 := by
  unfold fX4_isOf at hf
  refine AM.of mfX4_isOf (Nat.le_of_ble_eq_true rfl) ?_
  generalize mT M = t0
  generalize mW M = w0
  show AW _ _ _ _ _ _ _ _ _ 0 [(0, .ref a0), (1, .int x1)] [] _ _ _
  obtain ⟨u0, eu0, hf⟩ := bnd hf
  refine a_aload_n dX4_isOf_0 rfl 0 rfl ?_
  obtain ⟨v1_, ev1_, hf⟩ := bnd hf
  refine a_getI dX4_isOf_1 flX4_15 rfl ev1_ ?_
  refine a_istore_n (i := 2) (lv1 := [(2, .int v1_), (0, .ref a0), (1, .int x1)]) dX4_isOf_4 rfl (by decide) rfl ?_
  refine a_iconst (v := 0) dX4_isOf_5 (by decide) ?_
  refine a_istore_n (i := 3) (lv1 := [(3, .int ((0 : Int32))), (2, .int v1_), (0, .ref a0), (1, .int x1)]) dX4_isOf_6 rfl (by decide) rfl ?_
  refine AW.sub (lv1 := [(1, .int x1), (2, .int v1_), (3, .int ((0 : Int32)))]) [3, 1, 0] rfl ?_
  exact wX4_isOf_b7 _ _ _ _ _ hf
set_option maxHeartbeats 4000000 in
set_option maxRecDepth 100000 in
theorem wX5_loudness {l : Launch} {Γ : Gx} {a0 : Nat} {x1 : Int32} {M : Mm} {q : Int32 × Mm} (hf : fX5_loudness a0 x1 M = some q) : AM l Γ 1 yX5_loudness cX5_loudness 3 ((some .int)) [.ref a0, .int x1] M (some (.int q.1)) q.2 := by
  unfold fX5_loudness at hf
  refine AM.of mfX5_loudness (Nat.le_of_ble_eq_true rfl) ?_
  generalize mT M = t0
  generalize mW M = w0
  show AW _ _ _ _ _ _ _ _ _ 0 [(0, .ref a0), (1, .int x1)] [] _ _ _
  refine a_iload_n dX5_loudness_0 rfl 1 rfl ?_
  refine a_aload_n dX5_loudness_1 rfl 0 rfl ?_
  obtain ⟨v1_, ev1_, hf⟩ := bnd hf
  refine a_getI dX5_loudness_2 flX5_97 rfl ev1_ ?_
  refine a_isub dX5_loudness_5 ?_
  refine a_mabs dX5_loudness_6 wmX5_114 wma_abI (by decide) (Nat.le_of_ble_eq_true rfl) ?_
  refine a_istore_n (i := 2) (lv1 := [(2, .int (abI (x1 - v1_))), (0, .ref a0), (1, .int x1)]) dX5_loudness_9 rfl (by decide) rfl ?_
  refine a_iload_n dX5_loudness_10 rfl 0 rfl ?_
  refine a_if_ne dX5_loudness_11 (tgt := 21) (by decide) (fun c9 => ?_) (fun c9 => ?_)
  · replace hf := iteF hf c9
    refine a_iload_n dX5_loudness_21 rfl 0 rfl ?_
    refine a_iconst (v := 1) dX5_loudness_22 (by decide) ?_
    refine a_icmp_ne dX5_loudness_23 (tgt := 35) (by decide) (fun c9 => ?_) (fun c9 => ?_)
    · replace hf := iteF hf c9
      refine a_iconst (v := 0) dX5_loudness_35 (by decide) ?_
      have e9 := Option.some.inj hf
      subst e9
      exact a_iret rfl dX5_loudness_36 rfl
    · replace hf := iteT hf c9
      refine a_aload_n dX5_loudness_26 rfl 1 rfl ?_
      obtain ⟨v2_, ev2_, hf⟩ := bnd hf
      refine a_getI dX5_loudness_27 flX5_100 rfl ev2_ ?_
      refine a_iconst (v := 2) dX5_loudness_30 (by decide) ?_
      obtain ⟨z3_, ez3_, hf⟩ := bnd hf
      refine a_idiv dX5_loudness_31 ez3_ ?_
      refine a_goto (tgt := 36) dX5_loudness_32 (by decide) ?_
      have e9 := Option.some.inj hf
      subst e9
      exact a_iret rfl dX5_loudness_36 rfl
  · replace hf := iteT hf c9
    refine a_aload_n dX5_loudness_14 rfl 1 rfl ?_
    obtain ⟨v4_, ev4_, hf⟩ := bnd hf
    refine a_getI dX5_loudness_15 flX5_100 rfl ev4_ ?_
    refine a_goto (tgt := 36) dX5_loudness_18 (by decide) ?_
    have e9 := Option.some.inj hf
    subst e9
    exact a_iret rfl dX5_loudness_36 rfl
theorem kX5_otherCellOf {a0 : Nat} {a1 : Nat} {M : Mm} {q : Int32 × Mm} (hf : fX5_otherCellOf a0 a1 M = some q) : (mK M a0).1 = 6 := by
  unfold fX5_otherCellOf at hf
  obtain ⟨u0, eu0, -⟩ := bnd hf
  exact kc_of eu0
set_option maxHeartbeats 4000000 in
set_option maxRecDepth 100000 in
theorem wX5_otherCellOf {l : Launch} {Γ : Gx} {a0 : Nat} {a1 : Nat} {M : Mm} {q : Int32 × Mm} (hf : fX5_otherCellOf a0 a1 M = some q) : AM l Γ 1 yX5_otherCellOf cX5_otherCellOf 2 ((some .int)) [.ref a0, .ref a1] M (some (.int q.1)) q.2 := by
  unfold fX5_otherCellOf at hf
  refine AM.of mfX5_otherCellOf (Nat.le_of_ble_eq_true rfl) ?_
  generalize mT M = t0
  generalize mW M = w0
  show AW _ _ _ _ _ _ _ _ _ 0 [(0, .ref a0), (1, .ref a1)] [] _ _ _
  obtain ⟨u0, eu0, hf⟩ := bnd hf
  refine a_aload_n dX5_otherCellOf_0 rfl 0 rfl ?_
  obtain ⟨v1_, ev1_, hf⟩ := bnd hf
  refine a_getI dX5_otherCellOf_1 flX5_9 rfl ev1_ ?_
  refine a_if_le dX5_otherCellOf_4 (tgt := 19) (by decide) (fun c9 => ?_) (fun c9 => ?_)
  · replace hf := iteT hf c9
    refine a_iconst (v := -1) dX5_otherCellOf_19 (by decide) ?_
    have e9 := Option.some.inj hf
    subst e9
    exact a_iret rfl dX5_otherCellOf_20 rfl
  · replace hf := iteF hf c9
    refine a_aload_n dX5_otherCellOf_7 rfl 1 rfl ?_
    obtain ⟨v2_, ev2_, hf⟩ := bnd hf
    refine a_getI dX5_otherCellOf_8 flX5_94 rfl ev2_ ?_
    refine a_aload_n dX5_otherCellOf_11 rfl 0 rfl ?_
    obtain ⟨v3_, ev3_, hf⟩ := bnd hf
    refine a_getI dX5_otherCellOf_12 flX5_9 rfl ev3_ ?_
    obtain ⟨z4_, ez4_, hf⟩ := bnd hf
    refine a_irem dX5_otherCellOf_15 ez4_ ?_
    refine a_goto (tgt := 20) dX5_otherCellOf_16 (by decide) ?_
    have e9 := Option.some.inj hf
    subst e9
    exact a_iret rfl dX5_otherCellOf_20 rfl
theorem kX5_tenthsOf {a0 : Nat} {a1 : Nat} {x2 : Int32} {M : Mm} {q : Int32 × Mm} (hf : fX5_tenthsOf a0 a1 x2 M = some q) : (mK M a0).1 = 6 := by
  unfold fX5_tenthsOf at hf
  obtain ⟨u0, eu0, -⟩ := bnd hf
  exact kc_of eu0
set_option maxHeartbeats 4000000 in
set_option maxRecDepth 100000 in
theorem wX5_tenthsOf_b16 {l : Launch} {Γ : Gx} {t0 w0 : Nat} {q : Int32 × Mm} (a0 : Nat) (a1 : Nat) (x2 : Int32) (s0 : Int32) (M : Mm) (hf : fX5_tenthsOf_b16 a0 a1 x2 s0 M = some q) : AW l Γ yX5_tenthsOf cX5_tenthsOf 4 ((some .int)) 2 t0 w0 16 [(0, .ref a0), (1, .ref a1), (2, .int x2)] [.int s0] M (some (.int q.1)) q.2 := by
  unfold fX5_tenthsOf_b16 at hf
  refine a_istore_n (i := 3) (lv1 := [(3, .int s0), (0, .ref a0), (1, .ref a1), (2, .int x2)]) dX5_tenthsOf_16 rfl (by decide) rfl ?_
  refine a_aload_n dX5_tenthsOf_17 rfl 2 rfl ?_
  obtain ⟨v1_, ev1_, hf⟩ := bnd hf
  refine a_getI dX5_tenthsOf_18 flX5_103 rfl ev1_ ?_
  by_cases c1 : v1_ = (1 : Int32)
  · replace hf := iteT hf c1
    refine a_tableAt 1 (off := 39) (tgt := 60) dX5_tenthsOf_21 ((congrArg Int32.toInt c1).trans rfl) (by decide) (by decide) ?_
    refine a_aload_n dX5_tenthsOf_60 rfl 1 rfl ?_
    obtain ⟨v2_, ev2_, hf⟩ := bnd hf
    refine a_getI dX5_tenthsOf_61 flX5_24 rfl ev2_ ?_
    refine a_if_eq dX5_tenthsOf_64 (tgt := 71) (by decide) (fun c9 => ?_) (fun c9 => ?_)
    · replace hf := iteT hf c9
      refine a_iload_n dX5_tenthsOf_71 rfl 0 rfl ?_
      have e9 := Option.some.inj hf
      subst e9
      exact a_iret rfl dX5_tenthsOf_72 rfl
    · replace hf := iteF hf c9
      refine a_iconst (v := 0) dX5_tenthsOf_67 (by decide) ?_
      refine a_goto (tgt := 72) dX5_tenthsOf_68 (by decide) ?_
      have e9 := Option.some.inj hf
      subst e9
      exact a_iret rfl dX5_tenthsOf_72 rfl
  · replace hf := iteF hf c1
    by_cases c2 : v1_ = (2 : Int32)
    · replace hf := iteT hf c2
      refine a_tableAt 2 (off := 96) (tgt := 117) dX5_tenthsOf_21 ((congrArg Int32.toInt c2).trans rfl) (by decide) (by decide) ?_
      refine a_aload_n dX5_tenthsOf_117 rfl 2 rfl ?_
      refine a_iload_n dX5_tenthsOf_118 rfl 3 rfl ?_
      obtain ⟨q3_, eq3_, hf⟩ := bnd hf
      refine a_callS (As := [.ref a1, .int x2]) (rest := []) dX5_tenthsOf_119 mfX5_loudness csX5_110 (wX5_loudness eq3_) (by decide) rfl rfl (Nat.le_of_ble_eq_true rfl) ?_
      have e9 := Option.some.inj hf
      subst e9
      exact a_iret rfl dX5_tenthsOf_122 rfl
    · replace hf := iteF hf c2
      by_cases c3 : v1_ = (3 : Int32)
      · replace hf := iteT hf c3
        refine a_tableAt 3 (off := 102) (tgt := 123) dX5_tenthsOf_21 ((congrArg Int32.toInt c3).trans rfl) (by decide) (by decide) ?_
        refine a_aload_n dX5_tenthsOf_123 rfl 2 rfl ?_
        obtain ⟨v4_, ev4_, hf⟩ := bnd hf
        refine a_getI dX5_tenthsOf_124 flX5_94 rfl ev4_ ?_
        refine a_aload_n dX5_tenthsOf_127 rfl 1 rfl ?_
        obtain ⟨v5_, ev5_, hf⟩ := bnd hf
        refine a_getI dX5_tenthsOf_128 flX5_21 rfl ev5_ ?_
        refine a_ishr dX5_tenthsOf_131 ?_
        refine a_iconst (v := 1) dX5_tenthsOf_132 (by decide) ?_
        refine a_iand dX5_tenthsOf_133 ?_
        refine a_iconst (v := 1) dX5_tenthsOf_134 (by decide) ?_
        refine a_icmp_ne dX5_tenthsOf_135 (tgt := 146) (by decide) (fun c9 => ?_) (fun c9 => ?_)
        · replace hf := iteF hf c9
          refine a_iconst (v := 0) dX5_tenthsOf_146 (by decide) ?_
          have e9 := Option.some.inj hf
          subst e9
          exact a_iret rfl dX5_tenthsOf_147 rfl
        · replace hf := iteT hf c9
          refine a_aload_n dX5_tenthsOf_138 rfl 2 rfl ?_
          refine a_iload_n dX5_tenthsOf_139 rfl 3 rfl ?_
          obtain ⟨q6_, eq6_, hf⟩ := bnd hf
          refine a_callS (As := [.ref a1, .int x2]) (rest := []) dX5_tenthsOf_140 mfX5_loudness csX5_110 (wX5_loudness eq6_) (by decide) rfl rfl (Nat.le_of_ble_eq_true rfl) ?_
          refine a_goto (tgt := 147) dX5_tenthsOf_143 (by decide) ?_
          have e9 := Option.some.inj hf
          subst e9
          exact a_iret rfl dX5_tenthsOf_147 rfl
      · replace hf := iteF hf c3
        by_cases c4 : v1_ = (4 : Int32)
        · replace hf := iteT hf c4
          refine a_tableAt 4 (off := 52) (tgt := 73) dX5_tenthsOf_21 ((congrArg Int32.toInt c4).trans rfl) (by decide) (by decide) ?_
          refine a_aload_n dX5_tenthsOf_73 rfl 1 rfl ?_
          obtain ⟨v7_, ev7_, hf⟩ := bnd hf
          refine a_getI dX5_tenthsOf_74 flX5_24 rfl ev7_ ?_
          refine a_if_eq dX5_tenthsOf_77 (tgt := 86) (by decide) (fun c9 => ?_) (fun c9 => ?_)
          · replace hf := iteT hf c9
            refine a_iload_n dX5_tenthsOf_86 rfl 0 rfl ?_
            have e9 := Option.some.inj hf
            subst e9
            exact a_iret rfl dX5_tenthsOf_87 rfl
          · replace hf := iteF hf c9
            refine a_iload_n dX5_tenthsOf_80 rfl 0 rfl ?_
            refine a_iconst (v := 2) dX5_tenthsOf_81 (by decide) ?_
            obtain ⟨z8_, ez8_, hf⟩ := bnd hf
            refine a_idiv dX5_tenthsOf_82 ez8_ ?_
            refine a_goto (tgt := 87) dX5_tenthsOf_83 (by decide) ?_
            have e9 := Option.some.inj hf
            subst e9
            exact a_iret rfl dX5_tenthsOf_87 rfl
        · replace hf := iteF hf c4
          by_cases c5 : v1_ = (5 : Int32)
          · replace hf := iteT hf c5
            refine a_tableAt 5 (off := 127) (tgt := 148) dX5_tenthsOf_21 ((congrArg Int32.toInt c5).trans rfl) (by decide) (by decide) ?_
            refine a_aload_n dX5_tenthsOf_148 rfl 1 rfl ?_
            obtain ⟨v9_, ev9_, hf⟩ := bnd hf
            refine a_getI dX5_tenthsOf_149 flX5_56 rfl ev9_ ?_
            refine a_aload_n dX5_tenthsOf_152 rfl 2 rfl ?_
            obtain ⟨v10_, ev10_, hf⟩ := bnd hf
            refine a_getI dX5_tenthsOf_153 flX5_94 rfl ev10_ ?_
            refine a_icmp_ne dX5_tenthsOf_156 (tgt := 166) (by decide) (fun c9 => ?_) (fun c9 => ?_)
            · replace hf := iteF hf c9
              refine a_iconst (v := 0) dX5_tenthsOf_166 (by decide) ?_
              have e9 := Option.some.inj hf
              subst e9
              exact a_iret rfl dX5_tenthsOf_167 rfl
            · replace hf := iteT hf c9
              refine a_aload_n dX5_tenthsOf_159 rfl 2 rfl ?_
              obtain ⟨v11_, ev11_, hf⟩ := bnd hf
              refine a_getI dX5_tenthsOf_160 flX5_100 rfl ev11_ ?_
              refine a_goto (tgt := 167) dX5_tenthsOf_163 (by decide) ?_
              have e9 := Option.some.inj hf
              subst e9
              exact a_iret rfl dX5_tenthsOf_167 rfl
          · replace hf := iteF hf c5
            by_cases c6 : v1_ = (6 : Int32)
            · replace hf := iteT hf c6
              refine a_tableAt 6 (off := 67) (tgt := 88) dX5_tenthsOf_21 ((congrArg Int32.toInt c6).trans rfl) (by decide) (by decide) ?_
              refine a_aload_n dX5_tenthsOf_88 rfl 1 rfl ?_
              obtain ⟨v12_, ev12_, hf⟩ := bnd hf
              refine a_getI dX5_tenthsOf_89 flX5_24 rfl ev12_ ?_
              refine a_if_eq dX5_tenthsOf_92 (tgt := 99) (by decide) (fun c9 => ?_) (fun c9 => ?_)
              · replace hf := iteT hf c9
                refine a_iload_n dX5_tenthsOf_99 rfl 3 rfl ?_
                refine a_aload_n dX5_tenthsOf_100 rfl 1 rfl ?_
                refine a_aload_n dX5_tenthsOf_101 rfl 2 rfl ?_
                obtain ⟨q13_, eq13_, hf⟩ := bnd hf
                refine a_callV (As := [.ref a1]) (rest := [.int x2]) dX5_tenthsOf_102 mfX5_otherCellOf cvX5_106 (wX5_otherCellOf eq13_) rc5 (kX5_otherCellOf eq13_) (by decide) rfl rfl (Nat.le_of_ble_eq_true rfl) ?_
                refine a_icmp_ne dX5_tenthsOf_105 (tgt := 115) (by decide) (fun c9 => ?_) (fun c9 => ?_)
                · replace hf := iteF hf c9
                  refine a_iload_n dX5_tenthsOf_115 rfl 0 rfl ?_
                  have e9 := Option.some.inj hf
                  subst e9
                  exact a_iret rfl dX5_tenthsOf_116 rfl
                · replace hf := iteT hf c9
                  refine a_aload_n dX5_tenthsOf_108 rfl 2 rfl ?_
                  obtain ⟨v14_, ev14_, hf⟩ := bnd hf
                  refine a_getI dX5_tenthsOf_109 flX5_100 rfl ev14_ ?_
                  refine a_goto (tgt := 116) dX5_tenthsOf_112 (by decide) ?_
                  have e9 := Option.some.inj hf
                  subst e9
                  exact a_iret rfl dX5_tenthsOf_116 rfl
              · replace hf := iteF hf c9
                refine a_iconst (v := 0) dX5_tenthsOf_95 (by decide) ?_
                refine a_goto (tgt := 116) dX5_tenthsOf_96 (by decide) ?_
                have e9 := Option.some.inj hf
                subst e9
                exact a_iret rfl dX5_tenthsOf_116 rfl
            · replace hf := iteF hf c6
              refine a_tableOut (tgt := 168) dX5_tenthsOf_21 (by have nc1 := swne c1 (k9 := 1) rfl; have nc2 := swne c2 (k9 := 2) rfl; have nc3 := swne c3 (k9 := 3) rfl; have nc4 := swne c4 (k9 := 4) rfl; have nc5 := swne c5 (k9 := 5) rfl; have nc6 := swne c6 (k9 := 6) rfl; omega) (by decide) ?_
              refine a_iload_n dX5_tenthsOf_168 rfl 0 rfl ?_
              have e9 := Option.some.inj hf
              subst e9
              exact a_iret rfl dX5_tenthsOf_169 rfl
set_option maxHeartbeats 4000000 in
set_option maxRecDepth 100000 in
theorem wX5_tenthsOf {l : Launch} {Γ : Gx} {a0 : Nat} {a1 : Nat} {x2 : Int32} {M : Mm} {q : Int32 × Mm} (hf : fX5_tenthsOf a0 a1 x2 M = some q) : AM l Γ 2 yX5_tenthsOf cX5_tenthsOf 4 ((some .int)) [.ref a0, .ref a1, .int x2] M (some (.int q.1)) q.2 := by
  unfold fX5_tenthsOf at hf
  refine AM.of mfX5_tenthsOf (Nat.le_of_ble_eq_true rfl) ?_
  generalize mT M = t0
  generalize mW M = w0
  show AW _ _ _ _ _ _ _ _ _ 0 [(0, .ref a0), (1, .ref a1), (2, .int x2)] [] _ _ _
  obtain ⟨u0, eu0, hf⟩ := bnd hf
  refine a_iload_n dX5_tenthsOf_0 rfl 2 rfl ?_
  refine a_aload_n dX5_tenthsOf_1 rfl 1 rfl ?_
  obtain ⟨v1_, ev1_, hf⟩ := bnd hf
  refine a_getI dX5_tenthsOf_2 flX5_97 rfl ev1_ ?_
  refine a_icmp_ne dX5_tenthsOf_5 (tgt := 15) (by decide) (fun c9 => ?_) (fun c9 => ?_)
  · replace hf := iteF hf c9
    refine a_iconst (v := 0) dX5_tenthsOf_15 (by decide) ?_
    exact wX5_tenthsOf_b16 _ _ _ _ _ hf
  · replace hf := iteT hf c9
    refine a_aload_n dX5_tenthsOf_8 rfl 1 rfl ?_
    obtain ⟨v2_, ev2_, hf⟩ := bnd hf
    refine a_getI dX5_tenthsOf_9 flX5_100 rfl ev2_ ?_
    refine a_goto (tgt := 16) dX5_tenthsOf_12 (by decide) ?_
    exact wX5_tenthsOf_b16 _ _ _ _ _ hf
set_option maxHeartbeats 4000000 in
set_option maxRecDepth 100000 in
theorem wJ6_bitCount_0f7a4 {l : Launch} {Γ : Gx} {x0 : Int32} {M : Mm} {q : Int32 × Mm} (hf : fJ6_bitCount_0f7a4 x0 M = some q) : AM l Γ 1 yJ6_bitCount_0f7a4 cJ6_bitCount_0f7a4 1 ((some .int)) [.int x0] M (some (.int q.1)) q.2 := by
  unfold fJ6_bitCount_0f7a4 at hf
  refine AM.of mfJ6_bitCount_0f7a4 (Nat.le_of_ble_eq_true rfl) ?_
  generalize mT M = t0
  generalize mW M = w0
  show AW _ _ _ _ _ _ _ _ _ 0 [(0, .int x0)] [] _ _ _
  refine a_iload_n dJ6_bitCount_0f7a4_0 rfl 0 rfl ?_
  refine a_iload_n dJ6_bitCount_0f7a4_1 rfl 0 rfl ?_
  refine a_iconst (v := 1) dJ6_bitCount_0f7a4_2 (by decide) ?_
  refine a_iushr dJ6_bitCount_0f7a4_3 ?_
  refine a_ldcw (v := 1431655765) dJ6_bitCount_0f7a4_4 wcJ6_265 ?_
  refine a_iand dJ6_bitCount_0f7a4_7 ?_
  refine a_isub dJ6_bitCount_0f7a4_8 ?_
  obtain ⟨v1_, ev1_, hf⟩ := bnd hf
  refine a_topI ev1_ ?_
  refine a_istore_n (i := 0) (lv1 := [(0, .int v1_)]) dJ6_bitCount_0f7a4_9 rfl (by decide) rfl ?_
  refine a_iload_n dJ6_bitCount_0f7a4_10 rfl 0 rfl ?_
  refine a_ldcw (v := 858993459) dJ6_bitCount_0f7a4_11 wcJ6_266 ?_
  refine a_iand dJ6_bitCount_0f7a4_14 ?_
  refine a_iload_n dJ6_bitCount_0f7a4_15 rfl 0 rfl ?_
  refine a_iconst (v := 2) dJ6_bitCount_0f7a4_16 (by decide) ?_
  refine a_iushr dJ6_bitCount_0f7a4_17 ?_
  refine a_ldcw (v := 858993459) dJ6_bitCount_0f7a4_18 wcJ6_266 ?_
  refine a_iand dJ6_bitCount_0f7a4_21 ?_
  refine a_iadd dJ6_bitCount_0f7a4_22 ?_
  obtain ⟨v2_, ev2_, hf⟩ := bnd hf
  refine a_topI ev2_ ?_
  refine a_istore_n (i := 0) (lv1 := [(0, .int v2_)]) dJ6_bitCount_0f7a4_23 rfl (by decide) rfl ?_
  refine a_iload_n dJ6_bitCount_0f7a4_24 rfl 0 rfl ?_
  refine a_iload_n dJ6_bitCount_0f7a4_25 rfl 0 rfl ?_
  refine a_iconst (v := 4) dJ6_bitCount_0f7a4_26 (by decide) ?_
  refine a_iushr dJ6_bitCount_0f7a4_27 ?_
  refine a_iadd dJ6_bitCount_0f7a4_28 ?_
  refine a_ldcw (v := 252645135) dJ6_bitCount_0f7a4_29 wcJ6_267 ?_
  refine a_iand dJ6_bitCount_0f7a4_32 ?_
  obtain ⟨v3_, ev3_, hf⟩ := bnd hf
  refine a_topI ev3_ ?_
  refine a_istore_n (i := 0) (lv1 := [(0, .int v3_)]) dJ6_bitCount_0f7a4_33 rfl (by decide) rfl ?_
  refine a_iload_n dJ6_bitCount_0f7a4_34 rfl 0 rfl ?_
  refine a_iload_n dJ6_bitCount_0f7a4_35 rfl 0 rfl ?_
  refine a_bipush (v := 8) dJ6_bitCount_0f7a4_36 (by decide) ?_
  refine a_iushr dJ6_bitCount_0f7a4_38 ?_
  refine a_iadd dJ6_bitCount_0f7a4_39 ?_
  refine a_istore_n (i := 0) (lv1 := [(0, .int (v3_ + ((v3_.toUInt32 >>> (((8 : Int32)).toUInt32 &&& Int32.toUInt32 31)).toInt32)))]) dJ6_bitCount_0f7a4_40 rfl (by decide) rfl ?_
  refine a_iload_n dJ6_bitCount_0f7a4_41 rfl 0 rfl ?_
  refine a_iload_n dJ6_bitCount_0f7a4_42 rfl 0 rfl ?_
  refine a_bipush (v := 16) dJ6_bitCount_0f7a4_43 (by decide) ?_
  refine a_iushr dJ6_bitCount_0f7a4_45 ?_
  refine a_iadd dJ6_bitCount_0f7a4_46 ?_
  obtain ⟨v4_, ev4_, hf⟩ := bnd hf
  refine a_topI ev4_ ?_
  refine a_istore_n (i := 0) (lv1 := [(0, .int v4_)]) dJ6_bitCount_0f7a4_47 rfl (by decide) rfl ?_
  refine a_iload_n dJ6_bitCount_0f7a4_48 rfl 0 rfl ?_
  refine a_bipush (v := 63) dJ6_bitCount_0f7a4_49 (by decide) ?_
  refine a_iand dJ6_bitCount_0f7a4_51 ?_
  have e9 := Option.some.inj hf
  subst e9
  exact a_iret rfl dJ6_bitCount_0f7a4_52 rfl
theorem kX5_saidBy {a0 : Nat} {a1 : Nat} {x2 : Int32} {M : Mm} {q : Int32 × Mm} (hf : fX5_saidBy a0 a1 x2 M = some q) : (mK M a0).1 = 6 := by
  unfold fX5_saidBy at hf
  obtain ⟨u0, eu0, -⟩ := bnd hf
  exact kc_of eu0
set_option maxHeartbeats 4000000 in
set_option maxRecDepth 100000 in
theorem wX5_saidBy {l : Launch} {Γ : Gx} {a0 : Nat} {a1 : Nat} {x2 : Int32} {M : Mm} {q : Int32 × Mm} (hf : fX5_saidBy a0 a1 x2 M = some q) : AM l Γ 3 yX5_saidBy cX5_saidBy 3 ((some .int)) [.ref a0, .ref a1, .int x2] M (some (.int q.1)) q.2 := by
  unfold fX5_saidBy at hf
  refine AM.of mfX5_saidBy (Nat.le_of_ble_eq_true rfl) ?_
  generalize mT M = t0
  generalize mW M = w0
  show AW _ _ _ _ _ _ _ _ _ 0 [(0, .ref a0), (1, .ref a1), (2, .int x2)] [] _ _ _
  obtain ⟨u0, eu0, hf⟩ := bnd hf
  refine a_iload_n dX5_saidBy_0 rfl 2 rfl ?_
  by_cases c1 : x2 = (1 : Int32)
  · replace hf := iteT hf c1
    refine a_tableAt 1 (off := 39) (tgt := 40) dX5_saidBy_1 ((congrArg Int32.toInt c1).trans rfl) (by decide) (by decide) ?_
    refine a_aload_n dX5_saidBy_40 rfl 0 rfl ?_
    refine a_aload_n dX5_saidBy_41 rfl 1 rfl ?_
    refine a_aload_n dX5_saidBy_42 rfl 1 rfl ?_
    obtain ⟨v1_, ev1_, hf⟩ := bnd hf
    refine a_getI dX5_saidBy_43 flX5_97 rfl ev1_ ?_
    obtain ⟨q2_, eq2_, hf⟩ := bnd hf
    refine a_callV (As := [.ref a1, .int v1_]) (rest := []) dX5_saidBy_46 mfX5_tenthsOf cvX5_118 (wX5_tenthsOf eq2_) rc5 (kX5_tenthsOf eq2_) (by decide) rfl rfl (Nat.le_of_ble_eq_true rfl) ?_
    have e9 := Option.some.inj hf
    subst e9
    exact a_iret rfl dX5_saidBy_49 rfl
  · replace hf := iteF hf c1
    by_cases c2 : x2 = (2 : Int32)
    · replace hf := iteT hf c2
      refine a_tableAt 2 (off := 49) (tgt := 50) dX5_saidBy_1 ((congrArg Int32.toInt c2).trans rfl) (by decide) (by decide) ?_
      refine a_aload_n dX5_saidBy_50 rfl 1 rfl ?_
      obtain ⟨v3_, ev3_, hf⟩ := bnd hf
      refine a_getI dX5_saidBy_51 flX5_100 rfl ev3_ ?_
      refine a_iconst (v := 2) dX5_saidBy_54 (by decide) ?_
      obtain ⟨z4_, ez4_, hf⟩ := bnd hf
      refine a_idiv dX5_saidBy_55 ez4_ ?_
      have e9 := Option.some.inj hf
      subst e9
      exact a_iret rfl dX5_saidBy_56 rfl
    · replace hf := iteF hf c2
      by_cases c3 : x2 = (3 : Int32)
      · replace hf := iteT hf c3
        refine a_tableAt 3 (off := 56) (tgt := 57) dX5_saidBy_1 ((congrArg Int32.toInt c3).trans rfl) (by decide) (by decide) ?_
        refine a_aload_n dX5_saidBy_57 rfl 1 rfl ?_
        obtain ⟨v5_, ev5_, hf⟩ := bnd hf
        refine a_getI dX5_saidBy_58 flX5_94 rfl ev5_ ?_
        obtain ⟨q6_, eq6_, hf⟩ := bnd hf
        refine a_callS (As := [.int v5_]) (rest := []) dX5_saidBy_61 mfJ6_bitCount_0f7a4 csX5_121 (wJ6_bitCount_0f7a4 eq6_) (by decide) rfl rfl (Nat.le_of_ble_eq_true rfl) ?_
        have e9 := Option.some.inj hf
        subst e9
        exact a_iret rfl dX5_saidBy_64 rfl
      · replace hf := iteF hf c3
        by_cases c4 : x2 = (4 : Int32)
        · replace hf := iteT hf c4
          refine a_tableAt 4 (off := 39) (tgt := 40) dX5_saidBy_1 ((congrArg Int32.toInt c4).trans rfl) (by decide) (by decide) ?_
          refine a_aload_n dX5_saidBy_40 rfl 0 rfl ?_
          refine a_aload_n dX5_saidBy_41 rfl 1 rfl ?_
          refine a_aload_n dX5_saidBy_42 rfl 1 rfl ?_
          obtain ⟨v7_, ev7_, hf⟩ := bnd hf
          refine a_getI dX5_saidBy_43 flX5_97 rfl ev7_ ?_
          obtain ⟨q8_, eq8_, hf⟩ := bnd hf
          refine a_callV (As := [.ref a1, .int v7_]) (rest := []) dX5_saidBy_46 mfX5_tenthsOf cvX5_118 (wX5_tenthsOf eq8_) rc5 (kX5_tenthsOf eq8_) (by decide) rfl rfl (Nat.le_of_ble_eq_true rfl) ?_
          have e9 := Option.some.inj hf
          subst e9
          exact a_iret rfl dX5_saidBy_49 rfl
        · replace hf := iteF hf c4
          by_cases c5 : x2 = (5 : Int32)
          · replace hf := iteT hf c5
            refine a_tableAt 5 (off := 64) (tgt := 65) dX5_saidBy_1 ((congrArg Int32.toInt c5).trans rfl) (by decide) (by decide) ?_
            refine a_iconst (v := 0) dX5_saidBy_65 (by decide) ?_
            refine a_aload_n dX5_saidBy_66 rfl 1 rfl ?_
            obtain ⟨v9_, ev9_, hf⟩ := bnd hf
            refine a_getI dX5_saidBy_67 flX5_94 rfl ev9_ ?_
            refine a_aload_n dX5_saidBy_70 rfl 0 rfl ?_
            obtain ⟨v10_, ev10_, hf⟩ := bnd hf
            refine a_getI dX5_saidBy_71 flX5_56 rfl ev10_ ?_
            refine a_isub dX5_saidBy_74 ?_
            refine a_mmax dX5_saidBy_75 wmX5_85 wma_mxI (by decide) (Nat.le_of_ble_eq_true rfl) ?_
            have e9 := Option.some.inj hf
            subst e9
            exact a_iret rfl dX5_saidBy_78 rfl
          · replace hf := iteF hf c5
            by_cases c6 : x2 = (6 : Int32)
            · replace hf := iteT hf c6
              refine a_tableAt 6 (off := 78) (tgt := 79) dX5_saidBy_1 ((congrArg Int32.toInt c6).trans rfl) (by decide) (by decide) ?_
              refine a_aload_n dX5_saidBy_79 rfl 0 rfl ?_
              refine a_aload_n dX5_saidBy_80 rfl 1 rfl ?_
              obtain ⟨q11_, eq11_, hf⟩ := bnd hf
              refine a_callV (As := [.ref a1]) (rest := []) dX5_saidBy_81 mfX5_otherCellOf cvX5_106 (wX5_otherCellOf eq11_) rc5 (kX5_otherCellOf eq11_) (by decide) rfl rfl (Nat.le_of_ble_eq_true rfl) ?_
              have e9 := Option.some.inj hf
              subst e9
              exact a_iret rfl dX5_saidBy_84 rfl
            · replace hf := iteF hf c6
              refine a_tableOut (tgt := 85) dX5_saidBy_1 (by have nc1 := swne c1 (k9 := 1) rfl; have nc2 := swne c2 (k9 := 2) rfl; have nc3 := swne c3 (k9 := 3) rfl; have nc4 := swne c4 (k9 := 4) rfl; have nc5 := swne c5 (k9 := 5) rfl; have nc6 := swne c6 (k9 := 6) rfl; omega) (by decide) ?_
              refine a_aload_n dX5_saidBy_85 rfl 1 rfl ?_
              obtain ⟨v12_, ev12_, hf⟩ := bnd hf
              refine a_getI dX5_saidBy_86 flX5_100 rfl ev12_ ?_
              have e9 := Option.some.inj hf
              subst e9
              exact a_iret rfl dX5_saidBy_89 rfl
theorem kX5_knowNothing {a0 : Nat} {M : Mm} {q : Mm} (hf : fX5_knowNothing a0 M = some q) : (mK M a0).1 = 6 := by
  unfold fX5_knowNothing at hf
  obtain ⟨u0, eu0, -⟩ := bnd hf
  exact kc_of eu0
set_option maxHeartbeats 4000000 in
set_option maxRecDepth 100000 in
theorem wX5_knowNothing {l : Launch} {Γ : Gx} {a0 : Nat} {M : Mm} {q : Mm} (hf : fX5_knowNothing a0 M = some q) : AM l Γ 2 yX5_knowNothing cX5_knowNothing 1 (none) [.ref a0] M none q := by
  unfold fX5_knowNothing at hf
  refine AM.of mfX5_knowNothing (Nat.le_of_ble_eq_true rfl) ?_
  generalize mT M = t0
  generalize mW M = w0
  show AW _ _ _ _ _ _ _ _ _ 0 [(0, .ref a0)] [] _ _ _
  obtain ⟨u0, eu0, hf⟩ := bnd hf
  refine a_aload_n dX5_knowNothing_0 rfl 0 rfl ?_
  obtain ⟨o1_, eo1_, hf⟩ := bnd hf
  refine a_getR dX5_knowNothing_1 flX5_52 rfl eo1_ ?_
  refine a_aload_n dX5_knowNothing_4 rfl 0 rfl ?_
  obtain ⟨v2_, ev2_, hf⟩ := bnd hf
  refine a_getI dX5_knowNothing_5 flX5_9 rfl ev2_ ?_
  obtain ⟨M3_, eM3_, hf⟩ := bnd hf
  refine a_callV (As := [.int v2_]) (rest := []) dX5_knowNothing_8 mfX0_becomeEven cvX5_68 (wX0_becomeEven eM3_) rc0 (kX0_becomeEven eM3_) (by decide) rfl rfl (Nat.le_of_ble_eq_true rfl) ?_
  refine a_aload_n dX5_knowNothing_11 rfl 0 rfl ?_
  refine a_iconst (v := 0) dX5_knowNothing_12 (by decide) ?_
  obtain ⟨M4_, eM4_, hf⟩ := bnd hf
  refine a_putI dX5_knowNothing_13 fpX5_59 rfl (Or.inr nf5_12) eM4_ ?_
  refine a_aload_n dX5_knowNothing_16 rfl 0 rfl ?_
  refine a_iconst (v := 0) dX5_knowNothing_17 (by decide) ?_
  obtain ⟨M5_, eM5_, hf⟩ := bnd hf
  refine a_putI dX5_knowNothing_18 fpX5_56 rfl (Or.inr nf5_11) eM5_ ?_
  have e9 := Option.some.inj hf
  subst e9
  exact a_vret rfl dX5_knowNothing_21 rfl
theorem kX5_tellLength {a0 : Nat} {x1 : Int32} {M : Mm} {q : Mm} (hf : fX5_tellLength a0 x1 M = some q) : (mK M a0).1 = 6 := by
  unfold fX5_tellLength at hf
  obtain ⟨u0, eu0, -⟩ := bnd hf
  exact kc_of eu0
set_option maxHeartbeats 4000000 in
set_option maxRecDepth 100000 in
theorem wX5_tellLength {l : Launch} {Γ : Gx} {a0 : Nat} {x1 : Int32} {M : Mm} {q : Mm} (hf : fX5_tellLength a0 x1 M = some q) : AM l Γ 3 yX5_tellLength cX5_tellLength 2 (none) [.ref a0, .int x1] M none q := by
  unfold fX5_tellLength at hf
  refine AM.of mfX5_tellLength (Nat.le_of_ble_eq_true rfl) ?_
  generalize mT M = t0
  generalize mW M = w0
  show AW _ _ _ _ _ _ _ _ _ 0 [(0, .ref a0), (1, .int x1)] [] _ _ _
  obtain ⟨u0, eu0, hf⟩ := bnd hf
  refine a_aload_n dX5_tellLength_0 rfl 0 rfl ?_
  refine a_iload_n dX5_tellLength_1 rfl 1 rfl ?_
  obtain ⟨M1_, eM1_, hf⟩ := bnd hf
  refine a_putI dX5_tellLength_2 fpX5_9 rfl (Or.inr nf5_0) eM1_ ?_
  refine a_aload_n dX5_tellLength_5 rfl 0 rfl ?_
  refine a_iconst (v := 0) dX5_tellLength_6 (by decide) ?_
  obtain ⟨M2_, eM2_, hf⟩ := bnd hf
  refine a_putI dX5_tellLength_7 fpX5_37 rfl (Or.inr nf5_7) eM2_ ?_
  refine a_aload_n dX5_tellLength_10 rfl 0 rfl ?_
  refine a_iconst (v := 0) dX5_tellLength_11 (by decide) ?_
  obtain ⟨M3_, eM3_, hf⟩ := bnd hf
  refine a_putI dX5_tellLength_12 fpX5_46 rfl (Or.inr nf5_9) eM3_ ?_
  refine a_aload_n dX5_tellLength_15 rfl 0 rfl ?_
  refine a_iconst (v := -1) dX5_tellLength_16 (by decide) ?_
  obtain ⟨M4_, eM4_, hf⟩ := bnd hf
  refine a_putI dX5_tellLength_17 fpX5_62 rfl (Or.inr nf5_13) eM4_ ?_
  refine a_aload_n dX5_tellLength_20 rfl 0 rfl ?_
  obtain ⟨M5_, eM5_, hf⟩ := bnd hf
  refine a_callV (As := []) (rest := []) dX5_tellLength_21 mfX5_knowNothing cvX5_76 (wX5_knowNothing eM5_) rc5 (kX5_knowNothing eM5_) (by decide) rfl rfl (Nat.le_of_ble_eq_true rfl) ?_
  have e9 := Option.some.inj hf
  subst e9
  exact a_vret rfl dX5_tellLength_24 rfl
theorem kX5_hasCell {a0 : Nat} {x1 : Int32} {M : Mm} {q : Int32 × Mm} (hf : fX5_hasCell a0 x1 M = some q) : (mK M a0).1 = 6 := by
  unfold fX5_hasCell at hf
  obtain ⟨u0, eu0, -⟩ := bnd hf
  exact kc_of eu0
set_option maxHeartbeats 4000000 in
set_option maxRecDepth 100000 in
theorem wX5_hasCell {l : Launch} {Γ : Gx} {a0 : Nat} {x1 : Int32} {M : Mm} {q : Int32 × Mm} (hf : fX5_hasCell a0 x1 M = some q) : AM l Γ 1 yX5_hasCell cX5_hasCell 2 ((some .boolean)) [.ref a0, .int x1] M (some (.int q.1)) q.2 := by
  unfold fX5_hasCell at hf
  refine AM.of mfX5_hasCell (Nat.le_of_ble_eq_true rfl) ?_
  generalize mT M = t0
  generalize mW M = w0
  show AW _ _ _ _ _ _ _ _ _ 0 [(0, .ref a0), (1, .int x1)] [] _ _ _
  obtain ⟨u0, eu0, hf⟩ := bnd hf
  refine a_iload_n dX5_hasCell_0 rfl 1 rfl ?_
  refine a_if_lt dX5_hasCell_1 (tgt := 16) (by decide) (fun c9 => ?_) (fun c9 => ?_)
  · replace hf := iteT hf c9
    refine a_iconst (v := 0) dX5_hasCell_16 (by decide) ?_
    have e9 := Option.some.inj hf
    subst e9
    exact a_zret rfl rfl dX5_hasCell_17 rfl
  · replace hf := iteF hf c9
    refine a_iload_n dX5_hasCell_4 rfl 1 rfl ?_
    refine a_aload_n dX5_hasCell_5 rfl 0 rfl ?_
    obtain ⟨v1_, ev1_, hf⟩ := bnd hf
    refine a_getI dX5_hasCell_6 flX5_9 rfl ev1_ ?_
    refine a_icmp_ge dX5_hasCell_9 (tgt := 16) (by decide) (fun c9 => ?_) (fun c9 => ?_)
    · replace hf := iteT hf c9
      refine a_iconst (v := 0) dX5_hasCell_16 (by decide) ?_
      have e9 := Option.some.inj hf
      subst e9
      exact a_zret rfl rfl dX5_hasCell_17 rfl
    · replace hf := iteF hf c9
      refine a_iconst (v := 1) dX5_hasCell_12 (by decide) ?_
      refine a_goto (tgt := 17) dX5_hasCell_13 (by decide) ?_
      have e9 := Option.some.inj hf
      subst e9
      exact a_zret rfl rfl dX5_hasCell_17 rfl
theorem kX5_hasRoomForSign {a0 : Nat} {M : Mm} {q : Int32 × Mm} (hf : fX5_hasRoomForSign a0 M = some q) : (mK M a0).1 = 6 := by
  unfold fX5_hasRoomForSign at hf
  obtain ⟨u0, eu0, -⟩ := bnd hf
  exact kc_of eu0
set_option maxHeartbeats 4000000 in
set_option maxRecDepth 100000 in
theorem wX5_hasRoomForSign {l : Launch} {Γ : Gx} {a0 : Nat} {M : Mm} {q : Int32 × Mm} (hf : fX5_hasRoomForSign a0 M = some q) : AM l Γ 1 yX5_hasRoomForSign cX5_hasRoomForSign 1 ((some .boolean)) [.ref a0] M (some (.int q.1)) q.2 := by
  unfold fX5_hasRoomForSign at hf
  refine AM.of mfX5_hasRoomForSign (Nat.le_of_ble_eq_true rfl) ?_
  generalize mT M = t0
  generalize mW M = w0
  show AW _ _ _ _ _ _ _ _ _ 0 [(0, .ref a0)] [] _ _ _
  obtain ⟨u0, eu0, hf⟩ := bnd hf
  refine a_aload_n dX5_hasRoomForSign_0 rfl 0 rfl ?_
  obtain ⟨v1_, ev1_, hf⟩ := bnd hf
  refine a_getI dX5_hasRoomForSign_1 flX5_37 rfl ev1_ ?_
  refine a_bipush (v := 8) dX5_hasRoomForSign_4 (by decide) ?_
  refine a_icmp_ge dX5_hasRoomForSign_6 (tgt := 13) (by decide) (fun c9 => ?_) (fun c9 => ?_)
  · replace hf := iteT hf c9
    refine a_iconst (v := 0) dX5_hasRoomForSign_13 (by decide) ?_
    have e9 := Option.some.inj hf
    subst e9
    exact a_zret rfl rfl dX5_hasRoomForSign_14 rfl
  · replace hf := iteF hf c9
    refine a_iconst (v := 1) dX5_hasRoomForSign_9 (by decide) ?_
    refine a_goto (tgt := 14) dX5_hasRoomForSign_10 (by decide) ?_
    have e9 := Option.some.inj hf
    subst e9
    exact a_zret rfl rfl dX5_hasRoomForSign_14 rfl
theorem kX4_init {a0 : Nat} {x1 : Int32} {x2 : Int32} {x3 : Int32} {x4 : Int32} {x5 : Int32} {M : Mm} {q : Mm} (hf : fX4_init a0 x1 x2 x3 x4 x5 M = some q) : (mK M a0).1 = 5 := by
  unfold fX4_init at hf
  obtain ⟨u0, eu0, -⟩ := bnd hf
  exact kc_of eu0
set_option maxHeartbeats 4000000 in
set_option maxRecDepth 100000 in
theorem wX4_init {l : Launch} {Γ : Gx} {a0 : Nat} {x1 : Int32} {x2 : Int32} {x3 : Int32} {x4 : Int32} {x5 : Int32} {M : Mm} {q : Mm} (hf : fX4_init a0 x1 x2 x3 x4 x5 M = some q) : AM l Γ 1 yX4_init cX4_init 6 (none) [.ref a0, .int x1, .int x2, .int x3, .int x4, .int x5] M none q := by
  unfold fX4_init at hf
  refine AM.of mfX4_init (Nat.le_of_ble_eq_true rfl) ?_
  generalize mT M = t0
  generalize mW M = w0
  show AW _ _ _ _ _ _ _ _ _ 0 [(0, .ref a0), (1, .int x1), (2, .int x2), (3, .int x3), (4, .int x4), (5, .int x5)] [] _ _ _
  obtain ⟨u0, eu0, hf⟩ := bnd hf
  refine a_aload_n dX4_init_0 rfl 0 rfl ?_
  refine a_objI dX4_init_1 wmX4_3 wob1 wob2 (by decide) (Nat.le_of_ble_eq_true rfl) ?_
  refine a_aload_n dX4_init_4 rfl 0 rfl ?_
  refine a_iload_n dX4_init_5 rfl 1 rfl ?_
  obtain ⟨M1_, eM1_, hf⟩ := bnd hf
  refine a_putI dX4_init_6 fpX4_9 rfl (Or.inl rfl) eM1_ ?_
  refine a_aload_n dX4_init_9 rfl 0 rfl ?_
  refine a_iload_n dX4_init_10 rfl 2 rfl ?_
  obtain ⟨M2_, eM2_, hf⟩ := bnd hf
  refine a_putI dX4_init_11 fpX4_15 rfl (Or.inl rfl) eM2_ ?_
  refine a_aload_n dX4_init_14 rfl 0 rfl ?_
  refine a_iload_n dX4_init_15 rfl 3 rfl ?_
  obtain ⟨M3_, eM3_, hf⟩ := bnd hf
  refine a_putI dX4_init_16 fpX4_18 rfl (Or.inl rfl) eM3_ ?_
  refine a_aload_n dX4_init_19 rfl 0 rfl ?_
  refine a_iload dX4_init_20 4 rfl ?_
  obtain ⟨M4_, eM4_, hf⟩ := bnd hf
  refine a_putI dX4_init_22 fpX4_21 rfl (Or.inl rfl) eM4_ ?_
  refine a_aload_n dX4_init_25 rfl 0 rfl ?_
  refine a_iload dX4_init_26 5 rfl ?_
  obtain ⟨M5_, eM5_, hf⟩ := bnd hf
  refine a_putI dX4_init_28 fpX4_24 rfl (Or.inl rfl) eM5_ ?_
  have e9 := Option.some.inj hf
  subst e9
  exact a_vret rfl dX4_init_31 rfl
theorem kX5_addSign {a0 : Nat} {x1 : Int32} {x2 : Int32} {x3 : Int32} {x4 : Int32} {M : Mm} {q : Int32 × Mm} (hf : fX5_addSign a0 x1 x2 x3 x4 M = some q) : (mK M a0).1 = 6 := by
  unfold fX5_addSign at hf
  obtain ⟨u0, eu0, -⟩ := bnd hf
  exact kc_of eu0
set_option maxHeartbeats 4000000 in
set_option maxRecDepth 100000 in
theorem wX5_addSign {l : Launch} {Γ : Gx} {a0 : Nat} {x1 : Int32} {x2 : Int32} {x3 : Int32} {x4 : Int32} {M : Mm} {q : Int32 × Mm} (hf : fX5_addSign a0 x1 x2 x3 x4 M = some q) : AM l Γ 2 yX5_addSign cX5_addSign 6 ((some .int)) [.ref a0, .int x1, .int x2, .int x3, .int x4] M (some (.int q.1)) q.2 := by
  unfold fX5_addSign at hf
  refine AM.of mfX5_addSign (Nat.le_of_ble_eq_true rfl) ?_
  generalize mT M = t0
  generalize mW M = w0
  show AW _ _ _ _ _ _ _ _ _ 0 [(0, .ref a0), (1, .int x1), (2, .int x2), (3, .int x3), (4, .int x4)] [] _ _ _
  obtain ⟨u0, eu0, hf⟩ := bnd hf
  refine a_aload_n dX5_addSign_0 rfl 0 rfl ?_
  obtain ⟨v1_, ev1_, hf⟩ := bnd hf
  refine a_getI dX5_addSign_1 flX5_37 rfl ev1_ ?_
  refine a_istore (i := 5) (lv1 := [(5, .int v1_), (0, .ref a0), (1, .int x1), (2, .int x2), (3, .int x3), (4, .int x4)]) dX5_addSign_4 (by decide) rfl ?_
  refine a_iload dX5_addSign_6 0 rfl ?_
  refine a_if_lt dX5_addSign_8 (tgt := 49) (by decide) (fun c9 => ?_) (fun c9 => ?_)
  · replace hf := iteT hf c9
    refine a_iload dX5_addSign_49 0 rfl ?_
    have e9 := Option.some.inj hf
    subst e9
    exact a_iret rfl dX5_addSign_51 rfl
  · replace hf := iteF hf c9
    refine a_iload dX5_addSign_11 0 rfl ?_
    refine a_bipush (v := 8) dX5_addSign_13 (by decide) ?_
    refine a_icmp_ge dX5_addSign_15 (tgt := 49) (by decide) (fun c9 => ?_) (fun c9 => ?_)
    · replace hf := iteT hf c9
      refine a_iload dX5_addSign_49 0 rfl ?_
      have e9 := Option.some.inj hf
      subst e9
      exact a_iret rfl dX5_addSign_51 rfl
    · replace hf := iteF hf c9
      refine a_aload_n dX5_addSign_18 rfl 1 rfl ?_
      obtain ⟨o2_, eo2_, hf⟩ := bnd hf
      refine a_getR dX5_addSign_19 flX5_33 rfl eo2_ ?_
      refine a_iload dX5_addSign_22 0 rfl ?_
      obtain ⟨q3_, eq3_, hf⟩ := bnd hf
      refine a_new dX5_addSign_24 nwX5_31 rfl nz4 eq3_ ?_
      refine a_dup dX5_addSign_27 rfl ?_
      refine a_iload dX5_addSign_28 0 rfl ?_
      refine a_iload_n dX5_addSign_30 rfl 2 rfl ?_
      refine a_iload_n dX5_addSign_31 rfl 3 rfl ?_
      refine a_iload_n dX5_addSign_32 rfl 4 rfl ?_
      refine a_iload dX5_addSign_33 5 rfl ?_
      obtain ⟨M4_, eM4_, hf⟩ := bnd hf
      refine a_callI (As := [.int v1_, .int x1, .int x2, .int x3, .int x4]) (rest := [.ref q3_.1, .int v1_, .ref o2_]) dX5_addSign_35 mfX4_init ciX5_79 (wX4_init eM4_) (by decide) rfl rfl (Nat.le_of_ble_eq_true rfl) ?_
      obtain ⟨M5_, eM5_, hf⟩ := bnd hf
      refine a_aast (t := 3) (c := 4) (v := (some q3_.1)) dX5_addSign_38 re23 eM5_ ?_
      refine a_aload_n dX5_addSign_39 rfl 1 rfl ?_
      refine a_dup dX5_addSign_40 rfl ?_
      obtain ⟨v6_, ev6_, hf⟩ := bnd hf
      refine a_getI dX5_addSign_41 flX5_37 rfl ev6_ ?_
      refine a_iconst (v := 1) dX5_addSign_44 (by decide) ?_
      refine a_iadd dX5_addSign_45 ?_
      obtain ⟨M7_, eM7_, hf⟩ := bnd hf
      refine a_putI dX5_addSign_46 fpX5_37 rfl (Or.inr nf5_7) eM7_ ?_
      refine a_iload dX5_addSign_49 0 rfl ?_
      have e9 := Option.some.inj hf
      subst e9
      exact a_iret rfl dX5_addSign_51 rfl
theorem kX5_hasRoomForThing {a0 : Nat} {M : Mm} {q : Int32 × Mm} (hf : fX5_hasRoomForThing a0 M = some q) : (mK M a0).1 = 6 := by
  unfold fX5_hasRoomForThing at hf
  obtain ⟨u0, eu0, -⟩ := bnd hf
  exact kc_of eu0
set_option maxHeartbeats 4000000 in
set_option maxRecDepth 100000 in
theorem wX5_hasRoomForThing {l : Launch} {Γ : Gx} {a0 : Nat} {M : Mm} {q : Int32 × Mm} (hf : fX5_hasRoomForThing a0 M = some q) : AM l Γ 1 yX5_hasRoomForThing cX5_hasRoomForThing 1 ((some .boolean)) [.ref a0] M (some (.int q.1)) q.2 := by
  unfold fX5_hasRoomForThing at hf
  refine AM.of mfX5_hasRoomForThing (Nat.le_of_ble_eq_true rfl) ?_
  generalize mT M = t0
  generalize mW M = w0
  show AW _ _ _ _ _ _ _ _ _ 0 [(0, .ref a0)] [] _ _ _
  obtain ⟨u0, eu0, hf⟩ := bnd hf
  refine a_aload_n dX5_hasRoomForThing_0 rfl 0 rfl ?_
  obtain ⟨v1_, ev1_, hf⟩ := bnd hf
  refine a_getI dX5_hasRoomForThing_1 flX5_46 rfl ev1_ ?_
  refine a_bipush (v := 8) dX5_hasRoomForThing_4 (by decide) ?_
  refine a_icmp_ge dX5_hasRoomForThing_6 (tgt := 13) (by decide) (fun c9 => ?_) (fun c9 => ?_)
  · replace hf := iteT hf c9
    refine a_iconst (v := 0) dX5_hasRoomForThing_13 (by decide) ?_
    have e9 := Option.some.inj hf
    subst e9
    exact a_zret rfl rfl dX5_hasRoomForThing_14 rfl
  · replace hf := iteF hf c9
    refine a_iconst (v := 1) dX5_hasRoomForThing_9 (by decide) ?_
    refine a_goto (tgt := 14) dX5_hasRoomForThing_10 (by decide) ?_
    have e9 := Option.some.inj hf
    subst e9
    exact a_zret rfl rfl dX5_hasRoomForThing_14 rfl
theorem kX6_init {a0 : Nat} {x1 : Int32} {x2 : Int32} {x3 : Int32} {M : Mm} {q : Mm} (hf : fX6_init a0 x1 x2 x3 M = some q) : (mK M a0).1 = 7 := by
  unfold fX6_init at hf
  obtain ⟨u0, eu0, -⟩ := bnd hf
  exact kc_of eu0
set_option maxHeartbeats 4000000 in
set_option maxRecDepth 100000 in
theorem wX6_init {l : Launch} {Γ : Gx} {a0 : Nat} {x1 : Int32} {x2 : Int32} {x3 : Int32} {M : Mm} {q : Mm} (hf : fX6_init a0 x1 x2 x3 M = some q) : AM l Γ 1 yX6_init cX6_init 4 (none) [.ref a0, .int x1, .int x2, .int x3] M none q := by
  unfold fX6_init at hf
  refine AM.of mfX6_init (Nat.le_of_ble_eq_true rfl) ?_
  generalize mT M = t0
  generalize mW M = w0
  show AW _ _ _ _ _ _ _ _ _ 0 [(0, .ref a0), (1, .int x1), (2, .int x2), (3, .int x3)] [] _ _ _
  obtain ⟨u0, eu0, hf⟩ := bnd hf
  refine a_aload_n dX6_init_0 rfl 0 rfl ?_
  refine a_objI dX6_init_1 wmX6_1 wob1 wob2 (by decide) (Nat.le_of_ble_eq_true rfl) ?_
  refine a_aload_n dX6_init_4 rfl 0 rfl ?_
  refine a_iload_n dX6_init_5 rfl 1 rfl ?_
  obtain ⟨M1_, eM1_, hf⟩ := bnd hf
  refine a_putI dX6_init_6 fpX6_7 rfl (Or.inl rfl) eM1_ ?_
  refine a_aload_n dX6_init_9 rfl 0 rfl ?_
  refine a_iload_n dX6_init_10 rfl 2 rfl ?_
  obtain ⟨M2_, eM2_, hf⟩ := bnd hf
  refine a_putZ dX6_init_11 fpX6_13 rfl (Or.inl rfl) eM2_ ?_
  refine a_aload_n dX6_init_14 rfl 0 rfl ?_
  refine a_iload_n dX6_init_15 rfl 3 rfl ?_
  obtain ⟨M3_, eM3_, hf⟩ := bnd hf
  refine a_putI dX6_init_16 fpX6_17 rfl (Or.inl rfl) eM3_ ?_
  have e9 := Option.some.inj hf
  subst e9
  exact a_vret rfl dX6_init_19 rfl
theorem kX5_addThing {a0 : Nat} {x1 : Int32} {x2 : Int32} {x3 : Int32} {M : Mm} {q : Int32 × Mm} (hf : fX5_addThing a0 x1 x2 x3 M = some q) : (mK M a0).1 = 6 := by
  unfold fX5_addThing at hf
  obtain ⟨u0, eu0, -⟩ := bnd hf
  exact kc_of eu0
set_option maxHeartbeats 4000000 in
set_option maxRecDepth 100000 in
theorem wX5_addThing {l : Launch} {Γ : Gx} {a0 : Nat} {x1 : Int32} {x2 : Int32} {x3 : Int32} {M : Mm} {q : Int32 × Mm} (hf : fX5_addThing a0 x1 x2 x3 M = some q) : AM l Γ 2 yX5_addThing cX5_addThing 5 ((some .int)) [.ref a0, .int x1, .int x2, .int x3] M (some (.int q.1)) q.2 := by
  unfold fX5_addThing at hf
  refine AM.of mfX5_addThing (Nat.le_of_ble_eq_true rfl) ?_
  generalize mT M = t0
  generalize mW M = w0
  show AW _ _ _ _ _ _ _ _ _ 0 [(0, .ref a0), (1, .int x1), (2, .int x2), (3, .int x3)] [] _ _ _
  obtain ⟨u0, eu0, hf⟩ := bnd hf
  refine a_aload_n dX5_addThing_0 rfl 0 rfl ?_
  obtain ⟨v1_, ev1_, hf⟩ := bnd hf
  refine a_getI dX5_addThing_1 flX5_46 rfl ev1_ ?_
  refine a_istore (i := 4) (lv1 := [(4, .int v1_), (0, .ref a0), (1, .int x1), (2, .int x2), (3, .int x3)]) dX5_addThing_4 (by decide) rfl ?_
  refine a_iload dX5_addThing_6 0 rfl ?_
  refine a_if_lt dX5_addThing_8 (tgt := 45) (by decide) (fun c9 => ?_) (fun c9 => ?_)
  · replace hf := iteT hf c9
    refine a_iload dX5_addThing_45 0 rfl ?_
    have e9 := Option.some.inj hf
    subst e9
    exact a_iret rfl dX5_addThing_47 rfl
  · replace hf := iteF hf c9
    refine a_iload dX5_addThing_11 0 rfl ?_
    refine a_bipush (v := 8) dX5_addThing_13 (by decide) ?_
    refine a_icmp_ge dX5_addThing_15 (tgt := 45) (by decide) (fun c9 => ?_) (fun c9 => ?_)
    · replace hf := iteT hf c9
      refine a_iload dX5_addThing_45 0 rfl ?_
      have e9 := Option.some.inj hf
      subst e9
      exact a_iret rfl dX5_addThing_47 rfl
    · replace hf := iteF hf c9
      refine a_aload_n dX5_addThing_18 rfl 1 rfl ?_
      obtain ⟨o2_, eo2_, hf⟩ := bnd hf
      refine a_getR dX5_addThing_19 flX5_42 rfl eo2_ ?_
      refine a_iload dX5_addThing_22 0 rfl ?_
      obtain ⟨q3_, eq3_, hf⟩ := bnd hf
      refine a_new dX5_addThing_24 nwX5_40 rfl nz6 eq3_ ?_
      refine a_dup dX5_addThing_27 rfl ?_
      refine a_iload_n dX5_addThing_28 rfl 2 rfl ?_
      refine a_iload_n dX5_addThing_29 rfl 3 rfl ?_
      refine a_iload_n dX5_addThing_30 rfl 4 rfl ?_
      obtain ⟨M4_, eM4_, hf⟩ := bnd hf
      refine a_callI (As := [.int x1, .int x2, .int x3]) (rest := [.ref q3_.1, .int v1_, .ref o2_]) dX5_addThing_31 mfX6_init ciX5_82 (wX6_init eM4_) (by decide) rfl rfl (Nat.le_of_ble_eq_true rfl) ?_
      obtain ⟨M5_, eM5_, hf⟩ := bnd hf
      refine a_aast (t := 4) (c := 6) (v := (some q3_.1)) dX5_addThing_34 re24 eM5_ ?_
      refine a_aload_n dX5_addThing_35 rfl 1 rfl ?_
      refine a_dup dX5_addThing_36 rfl ?_
      obtain ⟨v6_, ev6_, hf⟩ := bnd hf
      refine a_getI dX5_addThing_37 flX5_46 rfl ev6_ ?_
      refine a_iconst (v := 1) dX5_addThing_40 (by decide) ?_
      refine a_iadd dX5_addThing_41 ?_
      obtain ⟨M7_, eM7_, hf⟩ := bnd hf
      refine a_putI dX5_addThing_42 fpX5_46 rfl (Or.inr nf5_9) eM7_ ?_
      refine a_iload dX5_addThing_45 0 rfl ?_
      have e9 := Option.some.inj hf
      subst e9
      exact a_iret rfl dX5_addThing_47 rfl
theorem kX3_intAt {a0 : Nat} {x1 : Int32} {M : Mm} {q : Int32 × Mm} (hf : fX3_intAt a0 x1 M = some q) : (mK M a0).1 = 4 := by
  unfold fX3_intAt at hf
  obtain ⟨u0, eu0, -⟩ := bnd hf
  exact kc_of eu0
set_option maxHeartbeats 4000000 in
set_option maxRecDepth 100000 in
theorem wX3_intAt {l : Launch} {Γ : Gx} {a0 : Nat} {x1 : Int32} {M : Mm} {q : Int32 × Mm} (hf : fX3_intAt a0 x1 M = some q) : AM l Γ 1 yX3_intAt cX3_intAt 2 ((some .int)) [.ref a0, .int x1] M (some (.int q.1)) q.2 := by
  unfold fX3_intAt at hf
  refine AM.of mfX3_intAt (Nat.le_of_ble_eq_true rfl) ?_
  generalize mT M = t0
  generalize mW M = w0
  show AW _ _ _ _ _ _ _ _ _ 0 [(0, .ref a0), (1, .int x1)] [] _ _ _
  obtain ⟨u0, eu0, hf⟩ := bnd hf
  refine a_iload_n dX3_intAt_0 rfl 1 rfl ?_
  refine a_if_lt dX3_intAt_1 (tgt := 19) (by decide) (fun c9 => ?_) (fun c9 => ?_)
  · replace hf := iteT hf c9
    refine a_iconst (v := 0) dX3_intAt_19 (by decide) ?_
    refine a_goto (tgt := 30) dX3_intAt_20 (by decide) ?_
    have e9 := Option.some.inj hf
    subst e9
    exact a_iret rfl dX3_intAt_30 rfl
  · replace hf := iteF hf c9
    refine a_iload_n dX3_intAt_4 rfl 1 rfl ?_
    refine a_aload_n dX3_intAt_5 rfl 0 rfl ?_
    obtain ⟨v1_, ev1_, hf⟩ := bnd hf
    refine a_getI dX3_intAt_6 flX3_15 rfl ev1_ ?_
    refine a_icmp_ge dX3_intAt_9 (tgt := 19) (by decide) (fun c9 => ?_) (fun c9 => ?_)
    · replace hf := iteT hf c9
      refine a_iconst (v := 0) dX3_intAt_19 (by decide) ?_
      refine a_goto (tgt := 30) dX3_intAt_20 (by decide) ?_
      have e9 := Option.some.inj hf
      subst e9
      exact a_iret rfl dX3_intAt_30 rfl
    · replace hf := iteF hf c9
      refine a_iload_n dX3_intAt_12 rfl 1 rfl ?_
      refine a_sipush (v := 160) dX3_intAt_13 (by decide) ?_
      refine a_icmp_lt dX3_intAt_16 (tgt := 23) (by decide) (fun c9 => ?_) (fun c9 => ?_)
      · replace hf := iteT hf c9
        refine a_aload_n dX3_intAt_23 rfl 0 rfl ?_
        obtain ⟨o2_, eo2_, hf⟩ := bnd hf
        refine a_getR dX3_intAt_24 flX3_18 rfl eo2_ ?_
        refine a_iload_n dX3_intAt_27 rfl 1 rfl ?_
        obtain ⟨v3_, ev3_, hf⟩ := bnd hf
        refine a_lald dX3_intAt_28 ev3_ ?_
        refine a_l2i dX3_intAt_29 ?_
        have e9 := Option.some.inj hf
        subst e9
        exact a_iret rfl dX3_intAt_30 rfl
      · replace hf := iteF hf c9
        refine a_iconst (v := 0) dX3_intAt_19 (by decide) ?_
        refine a_goto (tgt := 30) dX3_intAt_20 (by decide) ?_
        have e9 := Option.some.inj hf
        subst e9
        exact a_iret rfl dX3_intAt_30 rfl
theorem kX5_thingAt {a0 : Nat} {x1 : Int32} {M : Mm} {q : Option Nat × Mm} (hf : fX5_thingAt a0 x1 M = some q) : (mK M a0).1 = 6 := by
  unfold fX5_thingAt at hf
  obtain ⟨u0, eu0, -⟩ := bnd hf
  exact kc_of eu0
set_option maxHeartbeats 4000000 in
set_option maxRecDepth 100000 in
theorem wX5_thingAt {l : Launch} {Γ : Gx} {a0 : Nat} {x1 : Int32} {M : Mm} {q : Option Nat × Mm} (hf : fX5_thingAt a0 x1 M = some q) : AM l Γ 1 yX5_thingAt cX5_thingAt 2 ((some (.object "AStreetByACane$Thing"))) [.ref a0, .int x1] M (some (rv q.1)) q.2 := by
  unfold fX5_thingAt at hf
  refine AM.of mfX5_thingAt (Nat.le_of_ble_eq_true rfl) ?_
  generalize mT M = t0
  generalize mW M = w0
  show AW _ _ _ _ _ _ _ _ _ 0 [(0, .ref a0), (1, .int x1)] [] _ _ _
  obtain ⟨u0, eu0, hf⟩ := bnd hf
  refine a_iload_n dX5_thingAt_0 rfl 1 rfl ?_
  refine a_if_lt dX5_thingAt_1 (tgt := 18) (by decide) (fun c9 => ?_) (fun c9 => ?_)
  · replace hf := iteT hf c9
    refine a_null dX5_thingAt_18 ?_
    refine a_goto (tgt := 28) dX5_thingAt_19 (by decide) ?_
    have e9 := Option.some.inj hf
    subst e9
    exact a_aret (x := none) rfl dX5_thingAt_28 rfl
  · replace hf := iteF hf c9
    refine a_iload_n dX5_thingAt_4 rfl 1 rfl ?_
    refine a_aload_n dX5_thingAt_5 rfl 0 rfl ?_
    obtain ⟨v1_, ev1_, hf⟩ := bnd hf
    refine a_getI dX5_thingAt_6 flX5_46 rfl ev1_ ?_
    refine a_icmp_ge dX5_thingAt_9 (tgt := 18) (by decide) (fun c9 => ?_) (fun c9 => ?_)
    · replace hf := iteT hf c9
      refine a_null dX5_thingAt_18 ?_
      refine a_goto (tgt := 28) dX5_thingAt_19 (by decide) ?_
      have e9 := Option.some.inj hf
      subst e9
      exact a_aret (x := none) rfl dX5_thingAt_28 rfl
    · replace hf := iteF hf c9
      refine a_iload_n dX5_thingAt_12 rfl 1 rfl ?_
      refine a_bipush (v := 8) dX5_thingAt_13 (by decide) ?_
      refine a_icmp_lt dX5_thingAt_15 (tgt := 22) (by decide) (fun c9 => ?_) (fun c9 => ?_)
      · replace hf := iteT hf c9
        refine a_aload_n dX5_thingAt_22 rfl 0 rfl ?_
        obtain ⟨o2_, eo2_, hf⟩ := bnd hf
        refine a_getR dX5_thingAt_23 flX5_42 rfl eo2_ ?_
        refine a_iload_n dX5_thingAt_26 rfl 1 rfl ?_
        obtain ⟨n3_, en3_, hf⟩ := bnd hf
        refine a_aald (t := 4) dX5_thingAt_27 (by decide) en3_ ?_
        have e9 := Option.some.inj hf
        subst e9
        exact a_aret (x := n3_) rfl dX5_thingAt_28 rfl
      · replace hf := iteF hf c9
        refine a_null dX5_thingAt_18 ?_
        refine a_goto (tgt := 28) dX5_thingAt_19 (by decide) ?_
        have e9 := Option.some.inj hf
        subst e9
        exact a_aret (x := none) rfl dX5_thingAt_28 rfl
theorem kX5_removeThing {a0 : Nat} {x1 : Int32} {M : Mm} {q : Mm} (hf : fX5_removeThing a0 x1 M = some q) : (mK M a0).1 = 6 := by
  unfold fX5_removeThing at hf
  obtain ⟨u0, eu0, -⟩ := bnd hf
  exact kc_of eu0
set_option maxHeartbeats 4000000 in
set_option maxRecDepth 100000 in
theorem wX5_removeThing_b44 {l : Launch} {Γ : Gx} {t0 w0 : Nat} {q : Mm} (a0 : Nat) (M : Mm) (hf : fX5_removeThing_b44 a0 M = some q) : AW l Γ yX5_removeThing cX5_removeThing 3 (none) 1 t0 w0 44 [(0, .ref a0)] [] M none q := by
  unfold fX5_removeThing_b44 at hf
  refine a_aload_n dX5_removeThing_44 rfl 0 rfl ?_
  refine a_dup dX5_removeThing_45 rfl ?_
  obtain ⟨v1_, ev1_, hf⟩ := bnd hf
  refine a_getI dX5_removeThing_46 flX5_46 rfl ev1_ ?_
  refine a_iconst (v := 1) dX5_removeThing_49 (by decide) ?_
  refine a_isub dX5_removeThing_50 ?_
  obtain ⟨M2_, eM2_, hf⟩ := bnd hf
  refine a_putI dX5_removeThing_51 fpX5_46 rfl (Or.inr nf5_9) eM2_ ?_
  have e9 := Option.some.inj hf
  subst e9
  exact a_vret rfl dX5_removeThing_54 rfl
set_option maxHeartbeats 4000000 in
set_option maxRecDepth 100000 in
theorem wX5_removeThing_b6 {l : Launch} {Γ : Gx} {t0 w0 : Nat} {q : Mm} : ∀ (n : Nat) (a0 : Nat) (x2 : Int32) (M : Mm), fX5_removeThing_b6 n a0 x2 M = some q → AW l Γ yX5_removeThing cX5_removeThing 3 (none) 1 t0 w0 6 [(0, .ref a0), (2, .int x2)] [] M none q := by
  intro n
  induction n with
  | zero =>
    intro a0 x2 M hf
    cases hf
  | succ n ih =>
    intro a0 x2 M hf
    rw [fX5_removeThing_b6.eq_2] at hf
    refine a_iload_n dX5_removeThing_6 rfl 1 rfl ?_
    refine a_iconst (v := 1) dX5_removeThing_7 (by decide) ?_
    refine a_iadd dX5_removeThing_8 ?_
    refine a_aload_n dX5_removeThing_9 rfl 0 rfl ?_
    obtain ⟨v1_, ev1_, hf⟩ := bnd hf
    refine a_getI dX5_removeThing_10 flX5_46 rfl ev1_ ?_
    refine a_icmp_ge dX5_removeThing_13 (tgt := 44) (by decide) (fun c9 => ?_) (fun c9 => ?_)
    · replace hf := iteT hf c9
      refine AW.sub (lv1 := [(0, .ref a0)]) [0] rfl ?_
      exact wX5_removeThing_b44 _ _ hf
    · replace hf := iteF hf c9
      refine a_iload_n dX5_removeThing_16 rfl 1 rfl ?_
      refine a_iconst (v := 1) dX5_removeThing_17 (by decide) ?_
      refine a_iadd dX5_removeThing_18 ?_
      refine a_bipush (v := 8) dX5_removeThing_19 (by decide) ?_
      refine a_icmp_ge dX5_removeThing_21 (tgt := 44) (by decide) (fun c9 => ?_) (fun c9 => ?_)
      · replace hf := iteT hf c9
        refine AW.sub (lv1 := [(0, .ref a0)]) [0] rfl ?_
        exact wX5_removeThing_b44 _ _ hf
      · replace hf := iteF hf c9
        refine a_aload_n dX5_removeThing_24 rfl 0 rfl ?_
        obtain ⟨o2_, eo2_, hf⟩ := bnd hf
        refine a_getR dX5_removeThing_25 flX5_42 rfl eo2_ ?_
        refine a_iload_n dX5_removeThing_28 rfl 1 rfl ?_
        refine a_aload_n dX5_removeThing_29 rfl 0 rfl ?_
        obtain ⟨o3_, eo3_, hf⟩ := bnd hf
        refine a_getR dX5_removeThing_30 flX5_42 rfl eo3_ ?_
        refine a_iload_n dX5_removeThing_33 rfl 1 rfl ?_
        refine a_iconst (v := 1) dX5_removeThing_34 (by decide) ?_
        refine a_iadd dX5_removeThing_35 ?_
        obtain ⟨n4_, en4_, hf⟩ := bnd hf
        refine a_aald (t := 4) dX5_removeThing_36 (by decide) en4_ ?_
        obtain ⟨M5_, eM5_, hf⟩ := bnd hf
        refine a_aast (t := 4) (c := 6) (v := n4_) dX5_removeThing_37 re24 eM5_ ?_
        refine a_iinc (v := x2 + (1 : Int32)) (lv1 := [(2, .int (x2 + (1 : Int32))), (0, .ref a0)]) dX5_removeThing_38 1 rfl rfl (by decide) rfl ?_
        refine a_goto (tgt := 6) dX5_removeThing_41 (by decide) ?_
        refine AW.sub (lv1 := [(0, .ref a0), (2, .int (x2 + (1 : Int32)))]) [1, 0] rfl ?_
        exact ih _ _ _ hf
set_option maxHeartbeats 4000000 in
set_option maxRecDepth 100000 in
theorem wX5_removeThing {l : Launch} {Γ : Gx} {a0 : Nat} {x1 : Int32} {M : Mm} {q : Mm} (hf : fX5_removeThing a0 x1 M = some q) : AM l Γ 1 yX5_removeThing cX5_removeThing 3 (none) [.ref a0, .int x1] M none q := by
  unfold fX5_removeThing at hf
  refine AM.of mfX5_removeThing (Nat.le_of_ble_eq_true rfl) ?_
  generalize mT M = t0
  generalize mW M = w0
  show AW _ _ _ _ _ _ _ _ _ 0 [(0, .ref a0), (1, .int x1)] [] _ _ _
  obtain ⟨u0, eu0, hf⟩ := bnd hf
  refine a_iload_n dX5_removeThing_0 rfl 1 rfl ?_
  refine a_iconst (v := 0) dX5_removeThing_1 (by decide) ?_
  refine a_mmax dX5_removeThing_2 wmX5_85 wma_mxI (by decide) (Nat.le_of_ble_eq_true rfl) ?_
  refine a_istore_n (i := 2) (lv1 := [(2, .int (mxI x1 ((0 : Int32)))), (0, .ref a0), (1, .int x1)]) dX5_removeThing_5 rfl (by decide) rfl ?_
  refine AW.sub (lv1 := [(0, .ref a0), (2, .int (mxI x1 ((0 : Int32))))]) [1, 0] rfl ?_
  exact wX5_removeThing_b6 _ _ _ _ hf
theorem kX0_becomeLike {a0 : Nat} {a1 : Nat} {M : Mm} {q : Mm} (hf : fX0_becomeLike a0 a1 M = some q) : (mK M a0).1 = 1 := by
  unfold fX0_becomeLike at hf
  obtain ⟨u0, eu0, -⟩ := bnd hf
  exact kc_of eu0
set_option maxHeartbeats 4000000 in
set_option maxRecDepth 100000 in
theorem wX0_becomeLike {l : Launch} {Γ : Gx} {a0 : Nat} {a1 : Nat} {M : Mm} {q : Mm} (hf : fX0_becomeLike a0 a1 M = some q) : AM l Γ 1 yX0_becomeLike cX0_becomeLike 2 (none) [.ref a0, .ref a1] M none q := by
  unfold fX0_becomeLike at hf
  refine AM.of mfX0_becomeLike (Nat.le_of_ble_eq_true rfl) ?_
  generalize mT M = t0
  generalize mW M = w0
  show AW _ _ _ _ _ _ _ _ _ 0 [(0, .ref a0), (1, .ref a1)] [] _ _ _
  obtain ⟨u0, eu0, hf⟩ := bnd hf
  refine a_aload_n dX0_becomeLike_0 rfl 1 rfl ?_
  obtain ⟨o1_, eo1_, hf⟩ := bnd hf
  refine a_getR dX0_becomeLike_1 flX0_9 rfl eo1_ ?_
  refine a_iconst (v := 0) dX0_becomeLike_4 (by decide) ?_
  refine a_aload_n dX0_becomeLike_5 rfl 0 rfl ?_
  obtain ⟨o2_, eo2_, hf⟩ := bnd hf
  refine a_getR dX0_becomeLike_6 flX0_9 rfl eo2_ ?_
  refine a_iconst (v := 0) dX0_becomeLike_9 (by decide) ?_
  refine a_bipush (v := 24) dX0_becomeLike_10 (by decide) ?_
  obtain ⟨M3_, eM3_, hf⟩ := bnd hf
  refine a_copyJ dX0_becomeLike_12 ⟨wmX0_18, wac_n, wac_s, wac_i⟩ eM3_ (by decide) (Nat.le_of_ble_eq_true rfl) ?_
  have e9 := Option.some.inj hf
  subst e9
  exact a_vret rfl dX0_becomeLike_15 rfl
theorem kX5_becomeLike {a0 : Nat} {a1 : Nat} {M : Mm} {q : Mm} (hf : fX5_becomeLike a0 a1 M = some q) : (mK M a0).1 = 6 := by
  unfold fX5_becomeLike at hf
  obtain ⟨u0, eu0, -⟩ := bnd hf
  exact kc_of eu0
set_option maxHeartbeats 4000000 in
set_option maxRecDepth 100000 in
theorem wX5_becomeLike_b84 {l : Launch} {Γ : Gx} {t0 w0 : Nat} {q : Mm} : ∀ (n : Nat) (a0 : Nat) (a1 : Nat) (x2 : Int32) (M : Mm), fX5_becomeLike_b84 n a0 a1 x2 M = some q → AW l Γ yX5_becomeLike cX5_becomeLike 3 (none) 2 t0 w0 84 [(0, .ref a0), (1, .ref a1), (2, .int x2)] [] M none q := by
  intro n
  induction n with
  | zero =>
    intro a0 a1 x2 M hf
    cases hf
  | succ n ih =>
    intro a0 a1 x2 M hf
    rw [fX5_becomeLike_b84.eq_2] at hf
    refine a_iload_n dX5_becomeLike_84 rfl 2 rfl ?_
    refine a_bipush (v := 8) dX5_becomeLike_85 (by decide) ?_
    refine a_icmp_ge dX5_becomeLike_87 (tgt := 108) (by decide) (fun c9 => ?_) (fun c9 => ?_)
    · replace hf := iteT hf c9
      refine a_aload_n dX5_becomeLike_108 rfl 0 rfl ?_
      refine a_aload_n dX5_becomeLike_109 rfl 1 rfl ?_
      obtain ⟨v1_, ev1_, hf⟩ := bnd hf
      refine a_getI dX5_becomeLike_110 flX5_46 rfl ev1_ ?_
      obtain ⟨M2_, eM2_, hf⟩ := bnd hf
      refine a_putI dX5_becomeLike_113 fpX5_46 rfl (Or.inr nf5_9) eM2_ ?_
      refine a_aload_n dX5_becomeLike_116 rfl 0 rfl ?_
      obtain ⟨o3_, eo3_, hf⟩ := bnd hf
      refine a_getR dX5_becomeLike_117 flX5_52 rfl eo3_ ?_
      refine a_aload_n dX5_becomeLike_120 rfl 1 rfl ?_
      obtain ⟨o4_, eo4_, hf⟩ := bnd hf
      refine a_getR dX5_becomeLike_121 flX5_52 rfl eo4_ ?_
      obtain ⟨M5_, eM5_, hf⟩ := bnd hf
      refine a_callV (As := [.ref o4_]) (rest := []) dX5_becomeLike_124 mfX0_becomeLike cvX5_72 (wX0_becomeLike eM5_) rc0 (kX0_becomeLike eM5_) (by decide) rfl rfl (Nat.le_of_ble_eq_true rfl) ?_
      refine a_aload_n dX5_becomeLike_127 rfl 0 rfl ?_
      refine a_aload_n dX5_becomeLike_128 rfl 1 rfl ?_
      obtain ⟨v6_, ev6_, hf⟩ := bnd hf
      refine a_getI dX5_becomeLike_129 flX5_56 rfl ev6_ ?_
      obtain ⟨M7_, eM7_, hf⟩ := bnd hf
      refine a_putI dX5_becomeLike_132 fpX5_56 rfl (Or.inr nf5_11) eM7_ ?_
      refine a_aload_n dX5_becomeLike_135 rfl 0 rfl ?_
      refine a_aload_n dX5_becomeLike_136 rfl 1 rfl ?_
      obtain ⟨v8_, ev8_, hf⟩ := bnd hf
      refine a_getI dX5_becomeLike_137 flX5_59 rfl ev8_ ?_
      obtain ⟨M9_, eM9_, hf⟩ := bnd hf
      refine a_putI dX5_becomeLike_140 fpX5_59 rfl (Or.inr nf5_12) eM9_ ?_
      refine a_aload_n dX5_becomeLike_143 rfl 0 rfl ?_
      refine a_aload_n dX5_becomeLike_144 rfl 1 rfl ?_
      obtain ⟨v10_, ev10_, hf⟩ := bnd hf
      refine a_getI dX5_becomeLike_145 flX5_62 rfl ev10_ ?_
      obtain ⟨M11_, eM11_, hf⟩ := bnd hf
      refine a_putI dX5_becomeLike_148 fpX5_62 rfl (Or.inr nf5_13) eM11_ ?_
      refine a_aload_n dX5_becomeLike_151 rfl 0 rfl ?_
      refine a_aload_n dX5_becomeLike_152 rfl 1 rfl ?_
      obtain ⟨v12_, ev12_, hf⟩ := bnd hf
      refine a_getI dX5_becomeLike_153 flX5_65 rfl ev12_ ?_
      obtain ⟨M13_, eM13_, hf⟩ := bnd hf
      refine a_putI dX5_becomeLike_156 fpX5_65 rfl (Or.inr nf5_14) eM13_ ?_
      have e9 := Option.some.inj hf
      subst e9
      exact a_vret rfl dX5_becomeLike_159 rfl
    · replace hf := iteF hf c9
      refine a_aload_n dX5_becomeLike_90 rfl 0 rfl ?_
      obtain ⟨o14_, eo14_, hf⟩ := bnd hf
      refine a_getR dX5_becomeLike_91 flX5_42 rfl eo14_ ?_
      refine a_iload_n dX5_becomeLike_94 rfl 2 rfl ?_
      refine a_aload_n dX5_becomeLike_95 rfl 1 rfl ?_
      obtain ⟨o15_, eo15_, hf⟩ := bnd hf
      refine a_getR dX5_becomeLike_96 flX5_42 rfl eo15_ ?_
      refine a_iload_n dX5_becomeLike_99 rfl 2 rfl ?_
      obtain ⟨n16_, en16_, hf⟩ := bnd hf
      refine a_aald (t := 4) dX5_becomeLike_100 (by decide) en16_ ?_
      obtain ⟨M17_, eM17_, hf⟩ := bnd hf
      refine a_aast (t := 4) (c := 6) (v := n16_) dX5_becomeLike_101 re24 eM17_ ?_
      refine a_iinc (v := x2 + (1 : Int32)) (lv1 := [(2, .int (x2 + (1 : Int32))), (0, .ref a0), (1, .ref a1)]) dX5_becomeLike_102 2 rfl rfl (by decide) rfl ?_
      refine a_goto (tgt := 84) dX5_becomeLike_105 (by decide) ?_
      refine AW.sub (lv1 := [(0, .ref a0), (1, .ref a1), (2, .int (x2 + (1 : Int32)))]) [1, 2, 0] rfl ?_
      exact ih _ _ _ _ hf
set_option maxHeartbeats 4000000 in
set_option maxRecDepth 100000 in
theorem wX5_becomeLike_b50 {l : Launch} {Γ : Gx} {t0 w0 : Nat} {q : Mm} : ∀ (n : Nat) (a0 : Nat) (a1 : Nat) (x2 : Int32) (M : Mm), fX5_becomeLike_b50 n a0 a1 x2 M = some q → AW l Γ yX5_becomeLike cX5_becomeLike 3 (none) 2 t0 w0 50 [(0, .ref a0), (1, .ref a1), (2, .int x2)] [] M none q := by
  intro n
  induction n with
  | zero =>
    intro a0 a1 x2 M hf
    cases hf
  | succ n ih =>
    intro a0 a1 x2 M hf
    rw [fX5_becomeLike_b50.eq_2] at hf
    refine a_iload_n dX5_becomeLike_50 rfl 2 rfl ?_
    refine a_bipush (v := 8) dX5_becomeLike_51 (by decide) ?_
    refine a_icmp_ge dX5_becomeLike_53 (tgt := 74) (by decide) (fun c9 => ?_) (fun c9 => ?_)
    · replace hf := iteT hf c9
      refine a_aload_n dX5_becomeLike_74 rfl 0 rfl ?_
      refine a_aload_n dX5_becomeLike_75 rfl 1 rfl ?_
      obtain ⟨v1_, ev1_, hf⟩ := bnd hf
      refine a_getI dX5_becomeLike_76 flX5_37 rfl ev1_ ?_
      obtain ⟨M2_, eM2_, hf⟩ := bnd hf
      refine a_putI dX5_becomeLike_79 fpX5_37 rfl (Or.inr nf5_7) eM2_ ?_
      refine a_iconst (v := 0) dX5_becomeLike_82 (by decide) ?_
      refine a_istore_n (i := 2) (lv1 := [(2, .int ((0 : Int32))), (0, .ref a0), (1, .ref a1)]) dX5_becomeLike_83 rfl (by decide) rfl ?_
      refine AW.sub (lv1 := [(0, .ref a0), (1, .ref a1), (2, .int ((0 : Int32)))]) [1, 2, 0] rfl ?_
      exact wX5_becomeLike_b84 _ _ _ _ _ hf
    · replace hf := iteF hf c9
      refine a_aload_n dX5_becomeLike_56 rfl 0 rfl ?_
      obtain ⟨o3_, eo3_, hf⟩ := bnd hf
      refine a_getR dX5_becomeLike_57 flX5_33 rfl eo3_ ?_
      refine a_iload_n dX5_becomeLike_60 rfl 2 rfl ?_
      refine a_aload_n dX5_becomeLike_61 rfl 1 rfl ?_
      obtain ⟨o4_, eo4_, hf⟩ := bnd hf
      refine a_getR dX5_becomeLike_62 flX5_33 rfl eo4_ ?_
      refine a_iload_n dX5_becomeLike_65 rfl 2 rfl ?_
      obtain ⟨n5_, en5_, hf⟩ := bnd hf
      refine a_aald (t := 3) dX5_becomeLike_66 (by decide) en5_ ?_
      obtain ⟨M6_, eM6_, hf⟩ := bnd hf
      refine a_aast (t := 3) (c := 4) (v := n5_) dX5_becomeLike_67 re23 eM6_ ?_
      refine a_iinc (v := x2 + (1 : Int32)) (lv1 := [(2, .int (x2 + (1 : Int32))), (0, .ref a0), (1, .ref a1)]) dX5_becomeLike_68 2 rfl rfl (by decide) rfl ?_
      refine a_goto (tgt := 50) dX5_becomeLike_71 (by decide) ?_
      refine AW.sub (lv1 := [(0, .ref a0), (1, .ref a1), (2, .int (x2 + (1 : Int32)))]) [1, 2, 0] rfl ?_
      exact ih _ _ _ _ hf
set_option maxHeartbeats 4000000 in
set_option maxRecDepth 100000 in
theorem wX5_becomeLike {l : Launch} {Γ : Gx} {a0 : Nat} {a1 : Nat} {M : Mm} {q : Mm} (hf : fX5_becomeLike a0 a1 M = some q) : AM l Γ 2 yX5_becomeLike cX5_becomeLike 3 (none) [.ref a0, .ref a1] M none q := by
  unfold fX5_becomeLike at hf
  refine AM.of mfX5_becomeLike (Nat.le_of_ble_eq_true rfl) ?_
  generalize mT M = t0
  generalize mW M = w0
  show AW _ _ _ _ _ _ _ _ _ 0 [(0, .ref a0), (1, .ref a1)] [] _ _ _
  obtain ⟨u0, eu0, hf⟩ := bnd hf
  refine a_aload_n dX5_becomeLike_0 rfl 0 rfl ?_
  refine a_aload_n dX5_becomeLike_1 rfl 1 rfl ?_
  obtain ⟨v1_, ev1_, hf⟩ := bnd hf
  refine a_getI dX5_becomeLike_2 flX5_9 rfl ev1_ ?_
  obtain ⟨M2_, eM2_, hf⟩ := bnd hf
  refine a_putI dX5_becomeLike_5 fpX5_9 rfl (Or.inr nf5_0) eM2_ ?_
  refine a_aload_n dX5_becomeLike_8 rfl 0 rfl ?_
  refine a_aload_n dX5_becomeLike_9 rfl 1 rfl ?_
  obtain ⟨v3_, ev3_, hf⟩ := bnd hf
  refine a_getI dX5_becomeLike_10 flX5_15 rfl ev3_ ?_
  obtain ⟨M4_, eM4_, hf⟩ := bnd hf
  refine a_putI dX5_becomeLike_13 fpX5_15 rfl (Or.inr nf5_1) eM4_ ?_
  refine a_aload_n dX5_becomeLike_16 rfl 0 rfl ?_
  refine a_aload_n dX5_becomeLike_17 rfl 1 rfl ?_
  obtain ⟨v5_, ev5_, hf⟩ := bnd hf
  refine a_getI dX5_becomeLike_18 flX5_18 rfl ev5_ ?_
  obtain ⟨M6_, eM6_, hf⟩ := bnd hf
  refine a_putI dX5_becomeLike_21 fpX5_18 rfl (Or.inr nf5_2) eM6_ ?_
  refine a_aload_n dX5_becomeLike_24 rfl 0 rfl ?_
  refine a_aload_n dX5_becomeLike_25 rfl 1 rfl ?_
  obtain ⟨v7_, ev7_, hf⟩ := bnd hf
  refine a_getI dX5_becomeLike_26 flX5_21 rfl ev7_ ?_
  obtain ⟨M8_, eM8_, hf⟩ := bnd hf
  refine a_putI dX5_becomeLike_29 fpX5_21 rfl (Or.inr nf5_3) eM8_ ?_
  refine a_aload_n dX5_becomeLike_32 rfl 0 rfl ?_
  refine a_aload_n dX5_becomeLike_33 rfl 1 rfl ?_
  obtain ⟨v9_, ev9_, hf⟩ := bnd hf
  refine a_getI dX5_becomeLike_34 flX5_24 rfl ev9_ ?_
  obtain ⟨M10_, eM10_, hf⟩ := bnd hf
  refine a_putZ dX5_becomeLike_37 fpX5_24 rfl (Or.inr nf5_4) eM10_ ?_
  refine a_aload_n dX5_becomeLike_40 rfl 0 rfl ?_
  refine a_aload_n dX5_becomeLike_41 rfl 1 rfl ?_
  obtain ⟨v11_, ev11_, hf⟩ := bnd hf
  refine a_getI dX5_becomeLike_42 flX5_28 rfl ev11_ ?_
  obtain ⟨M12_, eM12_, hf⟩ := bnd hf
  refine a_putI dX5_becomeLike_45 fpX5_28 rfl (Or.inr nf5_5) eM12_ ?_
  refine a_iconst (v := 0) dX5_becomeLike_48 (by decide) ?_
  refine a_istore_n (i := 2) (lv1 := [(2, .int ((0 : Int32))), (0, .ref a0), (1, .ref a1)]) dX5_becomeLike_49 rfl (by decide) rfl ?_
  refine AW.sub (lv1 := [(0, .ref a0), (1, .ref a1), (2, .int ((0 : Int32)))]) [1, 2, 0] rfl ?_
  exact wX5_becomeLike_b50 _ _ _ _ _ hf
theorem kX2_init {a0 : Nat} {a1 : Nat} {a2 : Nat} {M : Mm} {q : Mm} (hf : fX2_init a0 a1 a2 M = some q) : (mK M a0).1 = 3 := by
  unfold fX2_init at hf
  obtain ⟨u0, eu0, -⟩ := bnd hf
  exact kc_of eu0
set_option maxHeartbeats 4000000 in
set_option maxRecDepth 100000 in
theorem wX2_init {l : Launch} {Γ : Gx} {a0 : Nat} {a1 : Nat} {a2 : Nat} {M : Mm} {q : Mm} (hf : fX2_init a0 a1 a2 M = some q) : AM l Γ 1 yX2_init cX2_init 3 (none) [.ref a0, .ref a1, .ref a2] M none q := by
  unfold fX2_init at hf
  refine AM.of mfX2_init (Nat.le_of_ble_eq_true rfl) ?_
  generalize mT M = t0
  generalize mW M = w0
  show AW _ _ _ _ _ _ _ _ _ 0 [(0, .ref a0), (1, .ref a1), (2, .ref a2)] [] _ _ _
  obtain ⟨u0, eu0, hf⟩ := bnd hf
  refine a_aload_n dX2_init_0 rfl 0 rfl ?_
  refine a_objI dX2_init_1 wmX2_3 wob1 wob2 (by decide) (Nat.le_of_ble_eq_true rfl) ?_
  refine a_aload_n dX2_init_4 rfl 0 rfl ?_
  refine a_iconst (v := 0) dX2_init_5 (by decide) ?_
  obtain ⟨M1_, eM1_, hf⟩ := bnd hf
  refine a_putI dX2_init_6 fpX2_9 rfl (Or.inl rfl) eM1_ ?_
  refine a_aload_n dX2_init_9 rfl 0 rfl ?_
  refine a_iconst (v := -1) dX2_init_10 (by decide) ?_
  obtain ⟨M2_, eM2_, hf⟩ := bnd hf
  refine a_putI dX2_init_11 fpX2_15 rfl (Or.inl rfl) eM2_ ?_
  refine a_aload_n dX2_init_14 rfl 0 rfl ?_
  refine a_iconst (v := 0) dX2_init_15 (by decide) ?_
  obtain ⟨M3_, eM3_, hf⟩ := bnd hf
  refine a_putZ dX2_init_16 fpX2_18 rfl (Or.inl rfl) eM3_ ?_
  refine a_aload_n dX2_init_19 rfl 0 rfl ?_
  refine a_aload_n dX2_init_20 rfl 1 rfl ?_
  obtain ⟨M4_, eM4_, hf⟩ := bnd hf
  refine a_putR dX2_init_21 fpX2_22 rfl (Or.inl rfl) eM4_ ?_
  refine a_aload_n dX2_init_24 rfl 0 rfl ?_
  refine a_aload_n dX2_init_25 rfl 2 rfl ?_
  obtain ⟨M5_, eM5_, hf⟩ := bnd hf
  refine a_putR dX2_init_26 fpX2_26 rfl (Or.inl rfl) eM5_ ?_
  have e9 := Option.some.inj hf
  subst e9
  exact a_vret rfl dX2_init_29 rfl
theorem kX2_letter {a0 : Nat} {M : Mm} {q : Int32 × Mm} (hf : fX2_letter a0 M = some q) : (mK M a0).1 = 3 := by
  unfold fX2_letter at hf
  obtain ⟨u0, eu0, -⟩ := bnd hf
  exact kc_of eu0
set_option maxHeartbeats 4000000 in
set_option maxRecDepth 100000 in
theorem wX2_letter {l : Launch} {Γ : Gx} {a0 : Nat} {M : Mm} {q : Int32 × Mm} (hf : fX2_letter a0 M = some q) : AM l Γ 1 yX2_letter cX2_letter 1 ((some .int)) [.ref a0] M (some (.int q.1)) q.2 := by
  unfold fX2_letter at hf
  refine AM.of mfX2_letter (Nat.le_of_ble_eq_true rfl) ?_
  generalize mT M = t0
  generalize mW M = w0
  show AW _ _ _ _ _ _ _ _ _ 0 [(0, .ref a0)] [] _ _ _
  obtain ⟨u0, eu0, hf⟩ := bnd hf
  refine a_aload_n dX2_letter_0 rfl 0 rfl ?_
  obtain ⟨v1_, ev1_, hf⟩ := bnd hf
  refine a_getI dX2_letter_1 flX2_9 rfl ev1_ ?_
  refine a_aload_n dX2_letter_4 rfl 0 rfl ?_
  obtain ⟨o2_, eo2_, hf⟩ := bnd hf
  refine a_getR dX2_letter_5 flX2_22 rfl eo2_ ?_
  obtain ⟨v3_, ev3_, hf⟩ := bnd hf
  refine a_getI dX2_letter_8 flX2_33 rfl ev3_ ?_
  refine a_icmp_ge dX2_letter_11 (tgt := 40) (by decide) (fun c9 => ?_) (fun c9 => ?_)
  · replace hf := iteT hf c9
    refine a_iconst (v := -1) dX2_letter_40 (by decide) ?_
    have e9 := Option.some.inj hf
    subst e9
    exact a_iret rfl dX2_letter_41 rfl
  · replace hf := iteF hf c9
    refine a_aload_n dX2_letter_14 rfl 0 rfl ?_
    obtain ⟨v4_, ev4_, hf⟩ := bnd hf
    refine a_getI dX2_letter_15 flX2_9 rfl ev4_ ?_
    refine a_sipush (v := 160) dX2_letter_18 (by decide) ?_
    refine a_icmp_ge dX2_letter_21 (tgt := 40) (by decide) (fun c9 => ?_) (fun c9 => ?_)
    · replace hf := iteT hf c9
      refine a_iconst (v := -1) dX2_letter_40 (by decide) ?_
      have e9 := Option.some.inj hf
      subst e9
      exact a_iret rfl dX2_letter_41 rfl
    · replace hf := iteF hf c9
      refine a_aload_n dX2_letter_24 rfl 0 rfl ?_
      obtain ⟨o5_, eo5_, hf⟩ := bnd hf
      refine a_getR dX2_letter_25 flX2_22 rfl eo5_ ?_
      obtain ⟨o6_, eo6_, hf⟩ := bnd hf
      refine a_getR dX2_letter_28 flX2_42 rfl eo6_ ?_
      refine a_aload_n dX2_letter_31 rfl 0 rfl ?_
      obtain ⟨v7_, ev7_, hf⟩ := bnd hf
      refine a_getI dX2_letter_32 flX2_9 rfl ev7_ ?_
      obtain ⟨v8_, ev8_, hf⟩ := bnd hf
      refine a_lald dX2_letter_35 ev8_ ?_
      refine a_l2i dX2_letter_36 ?_
      refine a_goto (tgt := 41) dX2_letter_37 (by decide) ?_
      have e9 := Option.some.inj hf
      subst e9
      exact a_iret rfl dX2_letter_41 rfl
set_option maxHeartbeats 4000000 in
set_option maxRecDepth 100000 in
theorem wX2_wordWith {l : Launch} {Γ : Gx} {x0 : Int32} {M : Mm} {q : Nat × Mm} (hf : fX2_wordWith x0 M = some q) : AM l Γ 1 yX2_wordWith cX2_wordWith 1 ((some (.object "java/lang/String"))) [.int x0] M (some (.ref q.1)) q.2 := by
  unfold fX2_wordWith at hf
  refine AM.of mfX2_wordWith (Nat.le_of_ble_eq_true rfl) ?_
  generalize mT M = t0
  generalize mW M = w0
  show AW _ _ _ _ _ _ _ _ _ 0 [(0, .int x0)] [] _ _ _
  refine a_iload_n dX2_wordWith_0 rfl 0 rfl ?_
  by_cases c97 : x0 = (97 : Int32)
  · replace hf := iteT hf c97
    refine a_lookup (off := 71) (tgt := 72) dX2_wordWith_1 rfl ((congrArg (fun z => Op.lookupswitch.offset _ _ (Int32.toInt z)) c97).trans rfl) (by decide) ?_
    refine a_ldcS (tx := "arc") (o := 7) dX2_wordWith_72 rfl (by simp [gLd]) (by decide) ?_
    have e9 := Option.some.inj hf
    subst e9
    exact a_aret (x := some 7) rfl dX2_wordWith_74 rfl
  · replace hf := iteF hf c97
    by_cases c104 : x0 = (104 : Int32)
    · replace hf := iteT hf c104
      refine a_lookup (off := 74) (tgt := 75) dX2_wordWith_1 rfl ((congrArg (fun z => Op.lookupswitch.offset _ _ (Int32.toInt z)) c104).trans rfl) (by decide) ?_
      refine a_ldcS (tx := "hour") (o := 8) dX2_wordWith_75 rfl (by simp [gLd]) (by decide) ?_
      have e9 := Option.some.inj hf
      subst e9
      exact a_aret (x := some 8) rfl dX2_wordWith_77 rfl
    · replace hf := iteF hf c104
      by_cases c108 : x0 = (108 : Int32)
      · replace hf := iteT hf c108
        refine a_lookup (off := 59) (tgt := 60) dX2_wordWith_1 rfl ((congrArg (fun z => Op.lookupswitch.offset _ _ (Int32.toInt z)) c108).trans rfl) (by decide) ?_
        refine a_ldcS (tx := "long") (o := 3) dX2_wordWith_60 rfl (by simp [gLd]) (by decide) ?_
        have e9 := Option.some.inj hf
        subst e9
        exact a_aret (x := some 3) rfl dX2_wordWith_62 rfl
      · replace hf := iteF hf c108
        by_cases c115 : x0 = (115 : Int32)
        · replace hf := iteT hf c115
          refine a_lookup (off := 62) (tgt := 63) dX2_wordWith_1 rfl ((congrArg (fun z => Op.lookupswitch.offset _ _ (Int32.toInt z)) c115).trans rfl) (by decide) ?_
          refine a_ldcS (tx := "sign") (o := 4) dX2_wordWith_63 rfl (by simp [gLd]) (by decide) ?_
          have e9 := Option.some.inj hf
          subst e9
          exact a_aret (x := some 4) rfl dX2_wordWith_65 rfl
        · replace hf := iteF hf c115
          by_cases c116 : x0 = (116 : Int32)
          · replace hf := iteT hf c116
            refine a_lookup (off := 65) (tgt := 66) dX2_wordWith_1 rfl ((congrArg (fun z => Op.lookupswitch.offset _ _ (Int32.toInt z)) c116).trans rfl) (by decide) ?_
            refine a_ldcS (tx := "thing") (o := 5) dX2_wordWith_66 rfl (by simp [gLd]) (by decide) ?_
            have e9 := Option.some.inj hf
            subst e9
            exact a_aret (x := some 5) rfl dX2_wordWith_68 rfl
          · replace hf := iteF hf c116
            by_cases c119 : x0 = (119 : Int32)
            · replace hf := iteT hf c119
              refine a_lookup (off := 68) (tgt := 69) dX2_wordWith_1 rfl ((congrArg (fun z => Op.lookupswitch.offset _ _ (Int32.toInt z)) c119).trans rfl) (by decide) ?_
              refine a_ldcS (tx := "wander") (o := 6) dX2_wordWith_69 rfl (by simp [gLd]) (by decide) ?_
              have e9 := Option.some.inj hf
              subst e9
              exact a_aret (x := some 6) rfl dX2_wordWith_71 rfl
            · replace hf := iteF hf c119
              refine a_lookup (off := 77) (tgt := 78) dX2_wordWith_1 rfl ((lv_osw c97 rfl).trans ((lv_osw c104 rfl).trans ((lv_osw c108 rfl).trans ((lv_osw c115 rfl).trans ((lv_osw c116 rfl).trans ((lv_osw c119 rfl).trans (rfl))))))) (by decide) ?_
              refine a_ldcS (tx := "") (o := 9) dX2_wordWith_78 rfl (by simp [gLd]) (by decide) ?_
              have e9 := Option.some.inj hf
              subst e9
              exact a_aret (x := some 9) rfl dX2_wordWith_80 rfl
theorem kX2_pass {a0 : Nat} {x1 : Int32} {M : Mm} {q : Mm} (hf : fX2_pass a0 x1 M = some q) : (mK M a0).1 = 3 := by
  unfold fX2_pass at hf
  obtain ⟨u0, eu0, -⟩ := bnd hf
  exact kc_of eu0
set_option maxHeartbeats 4000000 in
set_option maxRecDepth 100000 in
theorem wX2_pass {l : Launch} {Γ : Gx} {a0 : Nat} {x1 : Int32} {M : Mm} {q : Mm} (hf : fX2_pass a0 x1 M = some q) : AM l Γ 2 yX2_pass cX2_pass 2 (none) [.ref a0, .int x1] M none q := by
  unfold fX2_pass at hf
  refine AM.of mfX2_pass (Nat.le_of_ble_eq_true rfl) ?_
  generalize mT M = t0
  generalize mW M = w0
  show AW _ _ _ _ _ _ _ _ _ 0 [(0, .ref a0), (1, .int x1)] [] _ _ _
  obtain ⟨u0, eu0, hf⟩ := bnd hf
  refine a_aload_n dX2_pass_0 rfl 0 rfl ?_
  obtain ⟨q1_, eq1_, hf⟩ := bnd hf
  refine a_callV (As := []) (rest := []) dX2_pass_1 mfX2_letter cvX2_46 (wX2_letter eq1_) rc2 (kX2_letter eq1_) (by decide) rfl rfl (Nat.le_of_ble_eq_true rfl) ?_
  refine a_iload_n dX2_pass_4 rfl 1 rfl ?_
  refine a_icmp_ne dX2_pass_5 (tgt := 21) (by decide) (fun c9 => ?_) (fun c9 => ?_)
  · replace hf := iteF hf c9
    refine a_aload_n dX2_pass_21 rfl 0 rfl ?_
    refine a_aload_n dX2_pass_22 rfl 0 rfl ?_
    obtain ⟨v2_, ev2_, hf⟩ := bnd hf
    refine a_getI dX2_pass_23 flX2_9 rfl ev2_ ?_
    obtain ⟨M3_, eM3_, hf⟩ := bnd hf
    refine a_putI dX2_pass_26 fpX2_15 rfl (Or.inr nf2_3) eM3_ ?_
    have e9 := Option.some.inj hf
    subst e9
    exact a_vret rfl dX2_pass_29 rfl
  · replace hf := iteT hf c9
    refine a_aload_n dX2_pass_8 rfl 0 rfl ?_
    refine a_dup dX2_pass_9 rfl ?_
    obtain ⟨v4_, ev4_, hf⟩ := bnd hf
    refine a_getI dX2_pass_10 flX2_9 rfl ev4_ ?_
    refine a_iconst (v := 1) dX2_pass_13 (by decide) ?_
    refine a_iadd dX2_pass_14 ?_
    obtain ⟨M5_, eM5_, hf⟩ := bnd hf
    refine a_putI dX2_pass_15 fpX2_9 rfl (Or.inr nf2_2) eM5_ ?_
    refine a_goto (tgt := 29) dX2_pass_18 (by decide) ?_
    have e9 := Option.some.inj hf
    subst e9
    exact a_vret rfl dX2_pass_29 rfl
theorem kX2_readNumber {a0 : Nat} {x1 : Int32} {x2 : Int32} {M : Mm} {q : Int32 × Mm} (hf : fX2_readNumber a0 x1 x2 M = some q) : (mK M a0).1 = 3 := by
  unfold fX2_readNumber at hf
  obtain ⟨u0, eu0, -⟩ := bnd hf
  exact kc_of eu0
set_option maxHeartbeats 4000000 in
set_option maxRecDepth 100000 in
theorem wX2_readNumber_b90 {l : Launch} {Γ : Gx} {t0 w0 : Nat} {q : Int32 × Mm} (a0 : Nat) (x1 : Int32) (x2 : Int32) (x3 : Int32) (x4 : Int32) (M : Mm) (hf : fX2_readNumber_b90 a0 x1 x2 x3 x4 M = some q) : AW l Γ yX2_readNumber cX2_readNumber 6 ((some .int)) 3 t0 w0 90 [(0, .ref a0), (1, .int x1), (2, .int x2), (3, .int x3), (4, .int x4)] [] M (some (.int q.1)) q.2 := by
  unfold fX2_readNumber_b90 at hf
  refine a_aload_n dX2_readNumber_90 rfl 0 rfl ?_
  obtain ⟨v1_, ev1_, hf⟩ := bnd hf
  refine a_getI dX2_readNumber_91 flX2_9 rfl ev1_ ?_
  refine a_iload_n dX2_readNumber_94 rfl 3 rfl ?_
  refine a_icmp_eq dX2_readNumber_95 (tgt := 110) (by decide) (fun c9 => ?_) (fun c9 => ?_)
  · replace hf := iteT hf c9
    refine a_aload_n dX2_readNumber_110 rfl 0 rfl ?_
    refine a_iload_n dX2_readNumber_111 rfl 3 rfl ?_
    obtain ⟨M2_, eM2_, hf⟩ := bnd hf
    refine a_putI dX2_readNumber_112 fpX2_15 rfl (Or.inr nf2_3) eM2_ ?_
    refine a_iload dX2_readNumber_115 4 rfl ?_
    have e9 := Option.some.inj hf
    subst e9
    exact a_iret rfl dX2_readNumber_117 rfl
  · replace hf := iteF hf c9
    refine a_iload dX2_readNumber_98 4 rfl ?_
    refine a_iload_n dX2_readNumber_100 rfl 1 rfl ?_
    refine a_icmp_lt dX2_readNumber_101 (tgt := 110) (by decide) (fun c9 => ?_) (fun c9 => ?_)
    · replace hf := iteT hf c9
      refine a_aload_n dX2_readNumber_110 rfl 0 rfl ?_
      refine a_iload_n dX2_readNumber_111 rfl 3 rfl ?_
      obtain ⟨M3_, eM3_, hf⟩ := bnd hf
      refine a_putI dX2_readNumber_112 fpX2_15 rfl (Or.inr nf2_3) eM3_ ?_
      refine a_iload dX2_readNumber_115 4 rfl ?_
      have e9 := Option.some.inj hf
      subst e9
      exact a_iret rfl dX2_readNumber_117 rfl
    · replace hf := iteF hf c9
      refine a_iload dX2_readNumber_104 4 rfl ?_
      refine a_iload_n dX2_readNumber_106 rfl 2 rfl ?_
      refine a_icmp_le dX2_readNumber_107 (tgt := 115) (by decide) (fun c9 => ?_) (fun c9 => ?_)
      · replace hf := iteT hf c9
        refine a_iload dX2_readNumber_115 4 rfl ?_
        have e9 := Option.some.inj hf
        subst e9
        exact a_iret rfl dX2_readNumber_117 rfl
      · replace hf := iteF hf c9
        refine a_aload_n dX2_readNumber_110 rfl 0 rfl ?_
        refine a_iload_n dX2_readNumber_111 rfl 3 rfl ?_
        obtain ⟨M4_, eM4_, hf⟩ := bnd hf
        refine a_putI dX2_readNumber_112 fpX2_15 rfl (Or.inr nf2_3) eM4_ ?_
        refine a_iload dX2_readNumber_115 4 rfl ?_
        have e9 := Option.some.inj hf
        subst e9
        exact a_iret rfl dX2_readNumber_117 rfl
set_option maxHeartbeats 4000000 in
set_option maxRecDepth 100000 in
theorem wX2_readNumber_b35 {l : Launch} {Γ : Gx} {t0 w0 : Nat} {q : Int32 × Mm} : ∀ (n : Nat) (a0 : Nat) (x1 : Int32) (x2 : Int32) (x3 : Int32) (x4 : Int32) (x5 : Int32) (M : Mm), fX2_readNumber_b35 n a0 x1 x2 x3 x4 x5 M = some q → AW l Γ yX2_readNumber cX2_readNumber 6 ((some .int)) 3 t0 w0 35 [(0, .ref a0), (1, .int x1), (2, .int x2), (3, .int x3), (4, .int x4), (5, .int x5)] [] M (some (.int q.1)) q.2 := by
  intro n
  induction n with
  | zero =>
    intro a0 x1 x2 x3 x4 x5 M hf
    cases hf
  | succ n ih =>
    intro a0 x1 x2 x3 x4 x5 M hf
    rw [fX2_readNumber_b35.eq_2] at hf
    refine a_iload dX2_readNumber_35 5 rfl ?_
    refine a_iconst (v := 3) dX2_readNumber_37 (by decide) ?_
    refine a_icmp_ge dX2_readNumber_38 (tgt := 90) (by decide) (fun c9 => ?_) (fun c9 => ?_)
    · replace hf := iteT hf c9
      refine AW.sub (lv1 := [(0, .ref a0), (1, .int x1), (2, .int x2), (3, .int x3), (4, .int x4)]) [0, 1, 2, 3, 4] rfl ?_
      exact wX2_readNumber_b90 _ _ _ _ _ _ hf
    · replace hf := iteF hf c9
      refine a_aload_n dX2_readNumber_41 rfl 0 rfl ?_
      obtain ⟨q1_, eq1_, hf⟩ := bnd hf
      refine a_callV (As := []) (rest := []) dX2_readNumber_42 mfX2_letter cvX2_46 (wX2_letter eq1_) rc2 (kX2_letter eq1_) (by decide) rfl rfl (Nat.le_of_ble_eq_true rfl) ?_
      refine a_bipush (v := 48) dX2_readNumber_45 (by decide) ?_
      refine a_icmp_lt dX2_readNumber_47 (tgt := 90) (by decide) (fun c9 => ?_) (fun c9 => ?_)
      · replace hf := iteT hf c9
        refine AW.sub (lv1 := [(0, .ref a0), (1, .int x1), (2, .int x2), (3, .int x3), (4, .int x4)]) [0, 1, 2, 3, 4] rfl ?_
        exact wX2_readNumber_b90 _ _ _ _ _ _ hf
      · replace hf := iteF hf c9
        refine a_aload_n dX2_readNumber_50 rfl 0 rfl ?_
        obtain ⟨q2_, eq2_, hf⟩ := bnd hf
        refine a_callV (As := []) (rest := []) dX2_readNumber_51 mfX2_letter cvX2_46 (wX2_letter eq2_) rc2 (kX2_letter eq2_) (by decide) rfl rfl (Nat.le_of_ble_eq_true rfl) ?_
        refine a_bipush (v := 57) dX2_readNumber_54 (by decide) ?_
        refine a_icmp_gt dX2_readNumber_56 (tgt := 90) (by decide) (fun c9 => ?_) (fun c9 => ?_)
        · replace hf := iteT hf c9
          refine AW.sub (lv1 := [(0, .ref a0), (1, .int x1), (2, .int x2), (3, .int x3), (4, .int x4)]) [0, 1, 2, 3, 4] rfl ?_
          exact wX2_readNumber_b90 _ _ _ _ _ _ hf
        · replace hf := iteF hf c9
          refine a_bipush (v := 10) dX2_readNumber_59 (by decide) ?_
          refine a_iload dX2_readNumber_61 4 rfl ?_
          refine a_imul dX2_readNumber_63 ?_
          refine a_aload_n dX2_readNumber_64 rfl 0 rfl ?_
          obtain ⟨q3_, eq3_, hf⟩ := bnd hf
          refine a_callV (As := []) (rest := [.int (((10 : Int32)) * x4)]) dX2_readNumber_65 mfX2_letter cvX2_46 (wX2_letter eq3_) rc2 (kX2_letter eq3_) (by decide) rfl rfl (Nat.le_of_ble_eq_true rfl) ?_
          refine a_iadd dX2_readNumber_68 ?_
          refine a_bipush (v := 48) dX2_readNumber_69 (by decide) ?_
          refine a_isub dX2_readNumber_71 ?_
          refine a_istore (i := 4) (lv1 := [(4, .int (((((10 : Int32)) * x4) + q3_.1) - ((48 : Int32)))), (0, .ref a0), (1, .int x1), (2, .int x2), (3, .int x3), (5, .int x5)]) dX2_readNumber_72 (by decide) rfl ?_
          refine a_aload_n dX2_readNumber_74 rfl 1 rfl ?_
          refine a_dup dX2_readNumber_75 rfl ?_
          obtain ⟨v4_, ev4_, hf⟩ := bnd hf
          refine a_getI dX2_readNumber_76 flX2_9 rfl ev4_ ?_
          refine a_iconst (v := 1) dX2_readNumber_79 (by decide) ?_
          refine a_iadd dX2_readNumber_80 ?_
          obtain ⟨M5_, eM5_, hf⟩ := bnd hf
          refine a_putI dX2_readNumber_81 fpX2_9 rfl (Or.inr nf2_2) eM5_ ?_
          refine a_iinc (v := x5 + (1 : Int32)) (lv1 := [(5, .int (x5 + (1 : Int32))), (4, .int (((((10 : Int32)) * x4) + q3_.1) - ((48 : Int32)))), (0, .ref a0), (1, .int x1), (2, .int x2), (3, .int x3)]) dX2_readNumber_84 5 rfl rfl (by decide) rfl ?_
          refine a_goto (tgt := 35) dX2_readNumber_87 (by decide) ?_
          refine AW.sub (lv1 := [(0, .ref a0), (1, .int x1), (2, .int x2), (3, .int x3), (4, .int (((((10 : Int32)) * x4) + q3_.1) - ((48 : Int32)))), (5, .int (x5 + (1 : Int32)))]) [2, 3, 4, 5, 1, 0] rfl ?_
          exact ih _ _ _ _ _ _ _ hf
set_option maxHeartbeats 4000000 in
set_option maxRecDepth 100000 in
theorem wX2_readNumber_b14 {l : Launch} {Γ : Gx} {t0 w0 : Nat} {q : Int32 × Mm} (a0 : Nat) (x1 : Int32) (x2 : Int32) (M : Mm) (hf : fX2_readNumber_b14 a0 x1 x2 M = some q) : AW l Γ yX2_readNumber cX2_readNumber 6 ((some .int)) 3 t0 w0 14 [(0, .ref a0), (1, .int x1), (2, .int x2)] [] M (some (.int q.1)) q.2 := by
  unfold fX2_readNumber_b14 at hf
  refine a_aload_n dX2_readNumber_14 rfl 0 rfl ?_
  obtain ⟨v1_, ev1_, hf⟩ := bnd hf
  refine a_getI dX2_readNumber_15 flX2_15 rfl ev1_ ?_
  refine a_iconst (v := -1) dX2_readNumber_18 (by decide) ?_
  refine a_icmp_eq dX2_readNumber_19 (tgt := 24) (by decide) (fun c9 => ?_) (fun c9 => ?_)
  · replace hf := iteT hf c9
    refine a_aload_n dX2_readNumber_24 rfl 0 rfl ?_
    obtain ⟨v2_, ev2_, hf⟩ := bnd hf
    refine a_getI dX2_readNumber_25 flX2_9 rfl ev2_ ?_
    refine a_istore_n (i := 3) (lv1 := [(3, .int v2_), (0, .ref a0), (1, .int x1), (2, .int x2)]) dX2_readNumber_28 rfl (by decide) rfl ?_
    refine a_iconst (v := 0) dX2_readNumber_29 (by decide) ?_
    refine a_istore (i := 4) (lv1 := [(4, .int ((0 : Int32))), (3, .int v2_), (0, .ref a0), (1, .int x1), (2, .int x2)]) dX2_readNumber_30 (by decide) rfl ?_
    refine a_iconst (v := 0) dX2_readNumber_32 (by decide) ?_
    refine a_istore (i := 5) (lv1 := [(5, .int ((0 : Int32))), (4, .int ((0 : Int32))), (3, .int v2_), (0, .ref a0), (1, .int x1), (2, .int x2)]) dX2_readNumber_33 (by decide) rfl ?_
    refine AW.sub (lv1 := [(0, .ref a0), (1, .int x1), (2, .int x2), (3, .int v2_), (4, .int ((0 : Int32))), (5, .int ((0 : Int32)))]) [3, 4, 5, 2, 1, 0] rfl ?_
    exact wX2_readNumber_b35 _ _ _ _ _ _ _ _ hf
  · replace hf := iteF hf c9
    refine a_iload_n dX2_readNumber_22 rfl 1 rfl ?_
    have e9 := Option.some.inj hf
    subst e9
    exact a_iret rfl dX2_readNumber_23 rfl
set_option maxHeartbeats 4000000 in
set_option maxRecDepth 100000 in
theorem wX2_readNumber {l : Launch} {Γ : Gx} {a0 : Nat} {x1 : Int32} {x2 : Int32} {M : Mm} {q : Int32 × Mm} (hf : fX2_readNumber a0 x1 x2 M = some q) : AM l Γ 3 yX2_readNumber cX2_readNumber 6 ((some .int)) [.ref a0, .int x1, .int x2] M (some (.int q.1)) q.2 := by
  unfold fX2_readNumber at hf
  refine AM.of mfX2_readNumber (Nat.le_of_ble_eq_true rfl) ?_
  generalize mT M = t0
  generalize mW M = w0
  show AW _ _ _ _ _ _ _ _ _ 0 [(0, .ref a0), (1, .int x1), (2, .int x2)] [] _ _ _
  obtain ⟨u0, eu0, hf⟩ := bnd hf
  refine a_aload_n dX2_readNumber_0 rfl 0 rfl ?_
  obtain ⟨v1_, ev1_, hf⟩ := bnd hf
  refine a_getI dX2_readNumber_1 flX2_15 rfl ev1_ ?_
  refine a_iconst (v := -1) dX2_readNumber_4 (by decide) ?_
  refine a_icmp_ne dX2_readNumber_5 (tgt := 14) (by decide) (fun c9 => ?_) (fun c9 => ?_)
  · replace hf := iteF hf c9
    exact wX2_readNumber_b14 _ _ _ _ hf
  · replace hf := iteT hf c9
    refine a_aload_n dX2_readNumber_8 rfl 0 rfl ?_
    refine a_bipush (v := 32) dX2_readNumber_9 (by decide) ?_
    obtain ⟨M2_, eM2_, hf⟩ := bnd hf
    refine a_callV (As := [.int ((32 : Int32))]) (rest := []) dX2_readNumber_11 mfX2_pass cvX2_38 (wX2_pass eM2_) rc2 (kX2_pass eM2_) (by decide) rfl rfl (Nat.le_of_ble_eq_true rfl) ?_
    exact wX2_readNumber_b14 _ _ _ _ hf
theorem kJ0_isEmpty_aae02 {a0 : Nat} {M : Mm} {q : Int32 × Mm} (hf : fJ0_isEmpty_aae02 a0 M = some q) : (mK M a0).1 = 32 := by
  unfold fJ0_isEmpty_aae02 at hf
  obtain ⟨u0, eu0, -⟩ := bnd hf
  exact kc_of eu0
set_option maxHeartbeats 4000000 in
set_option maxRecDepth 100000 in
theorem wJ0_isEmpty_aae02 {l : Launch} {Γ : Gx} {a0 : Nat} {M : Mm} {q : Int32 × Mm} (hf : fJ0_isEmpty_aae02 a0 M = some q) : AM l Γ 1 yJ0_isEmpty_aae02 cJ0_isEmpty_aae02 1 ((some .boolean)) [.ref a0] M (some (.int q.1)) q.2 := by
  unfold fJ0_isEmpty_aae02 at hf
  refine AM.of mfJ0_isEmpty_aae02 (Nat.le_of_ble_eq_true rfl) ?_
  generalize mT M = t0
  generalize mW M = w0
  show AW _ _ _ _ _ _ _ _ _ 0 [(0, .ref a0)] [] _ _ _
  obtain ⟨u0, eu0, hf⟩ := bnd hf
  refine a_aload_n dJ0_isEmpty_aae02_0 rfl 0 rfl ?_
  obtain ⟨u_, eu_, hf⟩ := bnd hf
  refine a_getSv dJ0_isEmpty_aae02_1 wfJ0_9 eu_ ?_
  obtain ⟨v1_, ev1_, hf⟩ := bnd hf
  refine a_alen dJ0_isEmpty_aae02_4 ev1_ ?_
  refine a_if_ne dJ0_isEmpty_aae02_5 (tgt := 12) (by decide) (fun c9 => ?_) (fun c9 => ?_)
  · replace hf := iteF hf c9
    refine a_iconst (v := 0) dJ0_isEmpty_aae02_12 (by decide) ?_
    have e9 := Option.some.inj hf
    subst e9
    exact a_zret rfl rfl dJ0_isEmpty_aae02_13 rfl
  · replace hf := iteT hf c9
    refine a_iconst (v := 1) dJ0_isEmpty_aae02_8 (by decide) ?_
    refine a_goto (tgt := 13) dJ0_isEmpty_aae02_9 (by decide) ?_
    have e9 := Option.some.inj hf
    subst e9
    exact a_zret rfl rfl dJ0_isEmpty_aae02_13 rfl
theorem kJ0_coder_7d493 {a0 : Nat} {M : Mm} {q : Int32 × Mm} (hf : fJ0_coder_7d493 a0 M = some q) : (mK M a0).1 = 32 := by
  unfold fJ0_coder_7d493 at hf
  obtain ⟨u0, eu0, -⟩ := bnd hf
  exact kc_of eu0
set_option maxHeartbeats 4000000 in
set_option maxRecDepth 100000 in
theorem wJ0_coder_7d493 {l : Launch} {Γ : Gx} {a0 : Nat} {M : Mm} {q : Int32 × Mm} (hf : fJ0_coder_7d493 a0 M = some q) : AM l Γ 1 yJ0_coder_7d493 cJ0_coder_7d493 1 ((some .byte)) [.ref a0] M (some (.int q.1)) q.2 := by
  unfold fJ0_coder_7d493 at hf
  refine AM.of mfJ0_coder_7d493 (Nat.le_of_ble_eq_true rfl) ?_
  generalize mT M = t0
  generalize mW M = w0
  show AW _ _ _ _ _ _ _ _ _ 0 [(0, .ref a0)] [] _ _ _
  obtain ⟨u0, eu0, hf⟩ := bnd hf
  refine a_gets (v := .int ((1 : Int32))) dJ0_coder_7d493_0 ws_J0_38 (fun Γ => by simp [gSt]) ?_
  refine a_if_eq dJ0_coder_7d493_3 (tgt := 13) (by decide) (fun c9 => ?_) (fun c9 => ?_)
  · replace hf := iteT hf c9
    refine a_iconst (v := 1) dJ0_coder_7d493_13 (by decide) ?_
    have e9 := Option.some.inj hf
    subst e9
    exact a_zret rfl rfl dJ0_coder_7d493_14 rfl
  · replace hf := iteF hf c9
    refine a_aload_n dJ0_coder_7d493_6 rfl 0 rfl ?_
    obtain ⟨u_, eu_, hf⟩ := bnd hf
    refine a_getSc dJ0_coder_7d493_7 wfJ0_15 eu_ ?_
    refine a_goto (tgt := 14) dJ0_coder_7d493_10 (by decide) ?_
    have e9 := Option.some.inj hf
    subst e9
    exact a_zret rfl rfl dJ0_coder_7d493_14 rfl
theorem kJ0_length_8abf5 {a0 : Nat} {M : Mm} {q : Int32 × Mm} (hf : fJ0_length_8abf5 a0 M = some q) : (mK M a0).1 = 32 := by
  unfold fJ0_length_8abf5 at hf
  obtain ⟨u0, eu0, -⟩ := bnd hf
  exact kc_of eu0
set_option maxHeartbeats 4000000 in
set_option maxRecDepth 100000 in
theorem wJ0_length_8abf5 {l : Launch} {Γ : Gx} {a0 : Nat} {M : Mm} {q : Int32 × Mm} (hf : fJ0_length_8abf5 a0 M = some q) : AM l Γ 2 yJ0_length_8abf5 cJ0_length_8abf5 1 ((some .int)) [.ref a0] M (some (.int q.1)) q.2 := by
  unfold fJ0_length_8abf5 at hf
  refine AM.of mfJ0_length_8abf5 (Nat.le_of_ble_eq_true rfl) ?_
  generalize mT M = t0
  generalize mW M = w0
  show AW _ _ _ _ _ _ _ _ _ 0 [(0, .ref a0)] [] _ _ _
  obtain ⟨u0, eu0, hf⟩ := bnd hf
  refine a_aload_n dJ0_length_8abf5_0 rfl 0 rfl ?_
  obtain ⟨u_, eu_, hf⟩ := bnd hf
  refine a_getSv dJ0_length_8abf5_1 wfJ0_9 eu_ ?_
  obtain ⟨v1_, ev1_, hf⟩ := bnd hf
  refine a_alen dJ0_length_8abf5_4 ev1_ ?_
  refine a_aload_n dJ0_length_8abf5_5 rfl 0 rfl ?_
  obtain ⟨q2_, eq2_, hf⟩ := bnd hf
  refine a_callT (As := []) (rest := [.int v1_]) dJ0_length_8abf5_6 mfJ0_coder_7d493 cvJ0_335 (wJ0_coder_7d493 eq2_) rfl (kJ0_coder_7d493 eq2_) (by decide) rfl rfl (Nat.le_of_ble_eq_true rfl) ?_
  refine a_ishr dJ0_length_8abf5_9 ?_
  have e9 := Option.some.inj hf
  subst e9
  exact a_iret rfl dJ0_length_8abf5_10 rfl
theorem kJ0_isLatin1_aae02 {a0 : Nat} {M : Mm} {q : Int32 × Mm} (hf : fJ0_isLatin1_aae02 a0 M = some q) : (mK M a0).1 = 32 := by
  unfold fJ0_isLatin1_aae02 at hf
  obtain ⟨u0, eu0, -⟩ := bnd hf
  exact kc_of eu0
set_option maxHeartbeats 4000000 in
set_option maxRecDepth 100000 in
theorem wJ0_isLatin1_aae02 {l : Launch} {Γ : Gx} {a0 : Nat} {M : Mm} {q : Int32 × Mm} (hf : fJ0_isLatin1_aae02 a0 M = some q) : AM l Γ 1 yJ0_isLatin1_aae02 cJ0_isLatin1_aae02 1 ((some .boolean)) [.ref a0] M (some (.int q.1)) q.2 := by
  unfold fJ0_isLatin1_aae02 at hf
  refine AM.of mfJ0_isLatin1_aae02 (Nat.le_of_ble_eq_true rfl) ?_
  generalize mT M = t0
  generalize mW M = w0
  show AW _ _ _ _ _ _ _ _ _ 0 [(0, .ref a0)] [] _ _ _
  obtain ⟨u0, eu0, hf⟩ := bnd hf
  refine a_gets (v := .int ((1 : Int32))) dJ0_isLatin1_aae02_0 ws_J0_38 (fun Γ => by simp [gSt]) ?_
  refine a_if_eq dJ0_isLatin1_aae02_3 (tgt := 17) (by decide) (fun c9 => ?_) (fun c9 => ?_)
  · replace hf := iteT hf c9
    refine a_iconst (v := 0) dJ0_isLatin1_aae02_17 (by decide) ?_
    have e9 := Option.some.inj hf
    subst e9
    exact a_zret rfl rfl dJ0_isLatin1_aae02_18 rfl
  · replace hf := iteF hf c9
    refine a_aload_n dJ0_isLatin1_aae02_6 rfl 0 rfl ?_
    obtain ⟨u_, eu_, hf⟩ := bnd hf
    refine a_getSc dJ0_isLatin1_aae02_7 wfJ0_15 eu_ ?_
    refine a_if_ne dJ0_isLatin1_aae02_10 (tgt := 17) (by decide) (fun c9 => ?_) (fun c9 => ?_)
    · replace hf := iteF hf c9
      refine a_iconst (v := 0) dJ0_isLatin1_aae02_17 (by decide) ?_
      have e9 := Option.some.inj hf
      subst e9
      exact a_zret rfl rfl dJ0_isLatin1_aae02_18 rfl
    · replace hf := iteT hf c9
      refine a_iconst (v := 1) dJ0_isLatin1_aae02_13 (by decide) ?_
      refine a_goto (tgt := 18) dJ0_isLatin1_aae02_14 (by decide) ?_
      have e9 := Option.some.inj hf
      subst e9
      exact a_zret rfl rfl dJ0_isLatin1_aae02_18 rfl
set_option maxHeartbeats 4000000 in
set_option maxRecDepth 100000 in
theorem wJ3_checkIndex_8e157 {l : Launch} {Γ : Gx} {x0 : Int32} {x1 : Int32} {a2 : Option Nat} {M : Mm} {q : Int32 × Mm} (hf : fJ3_checkIndex_8e157 x0 x1 a2 M = some q) : AM l Γ 1 yJ3_checkIndex_8e157 cJ3_checkIndex_8e157 3 ((some .int)) [.int x0, .int x1, rv a2] M (some (.int q.1)) q.2 := by
  unfold fJ3_checkIndex_8e157 at hf
  refine AM.of mfJ3_checkIndex_8e157 (by simp [lg_sl, rv_cat, vc_int, vc_ref, vc_long]) ?_
  generalize mT M = t0
  generalize mW M = w0
  rw [show lv_args 0 [.int x0, .int x1, rv a2] = [(0, .int x0), (1, .int x1), (2, rv a2)] by simp [lv_args, rv_cat, vc_int, vc_ref, vc_long]]
  refine a_iload_n dJ3_checkIndex_8e157_0 rfl 0 rfl ?_
  refine a_if_lt dJ3_checkIndex_8e157_1 (tgt := 9) (by decide) (fun c9 => ?_) (fun c9 => ?_)
  · replace hf := iteT hf c9
    refine a_aload_nq (x := a2) dJ3_checkIndex_8e157_9 rfl 2 rfl ?_
    refine a_iload_n dJ3_checkIndex_8e157_10 rfl 0 rfl ?_
    refine a_iload_n dJ3_checkIndex_8e157_11 rfl 1 rfl ?_
    cases hf
  · replace hf := iteF hf c9
    refine a_iload_n dJ3_checkIndex_8e157_4 rfl 0 rfl ?_
    refine a_iload_n dJ3_checkIndex_8e157_5 rfl 1 rfl ?_
    refine a_icmp_lt dJ3_checkIndex_8e157_6 (tgt := 16) (by decide) (fun c9 => ?_) (fun c9 => ?_)
    · replace hf := iteT hf c9
      refine a_iload_n dJ3_checkIndex_8e157_16 rfl 0 rfl ?_
      have e9 := Option.some.inj hf
      subst e9
      exact a_iret rfl dJ3_checkIndex_8e157_17 rfl
    · replace hf := iteF hf c9
      refine a_aload_nq (x := a2) dJ3_checkIndex_8e157_9 rfl 2 rfl ?_
      refine a_iload_n dJ3_checkIndex_8e157_10 rfl 0 rfl ?_
      refine a_iload_n dJ3_checkIndex_8e157_11 rfl 1 rfl ?_
      cases hf
set_option maxHeartbeats 4000000 in
set_option maxRecDepth 100000 in
theorem wJ0_checkIndex_df160 {l : Launch} {Γ : Gx} {x0 : Int32} {x1 : Int32} {M : Mm} {q : Mm} (hf : fJ0_checkIndex_df160 x0 x1 M = some q) : AM l Γ 2 yJ0_checkIndex_df160 cJ0_checkIndex_df160 2 (none) [.int x0, .int x1] M none q := by
  unfold fJ0_checkIndex_df160 at hf
  refine AM.of mfJ0_checkIndex_df160 (Nat.le_of_ble_eq_true rfl) ?_
  generalize mT M = t0
  generalize mW M = w0
  show AW _ _ _ _ _ _ _ _ _ 0 [(0, .int x0), (1, .int x1)] [] _ _ _
  refine a_iload_n dJ0_checkIndex_df160_0 rfl 0 rfl ?_
  refine a_iload_n dJ0_checkIndex_df160_1 rfl 1 rfl ?_
  refine a_getsQ dJ0_checkIndex_df160_2 ws_J0_1053 ?_
  obtain ⟨q1_, eq1_, hf⟩ := bnd hf
  refine a_callS (As := [.int x0, .int x1, rv (mR M 18 0)]) (rest := []) dJ0_checkIndex_df160_5 mfJ3_checkIndex_8e157 csJ0_1059 (wJ3_checkIndex_8e157 eq1_) (by decide) rfl rfl (Nat.le_of_ble_eq_true rfl) ?_
  refine a_pop dJ0_checkIndex_df160_8 rfl ?_
  have e9 := Option.some.inj hf
  subst e9
  exact a_vret rfl dJ0_checkIndex_df160_9 rfl
set_option maxHeartbeats 4000000 in
set_option maxRecDepth 100000 in
theorem wJ1_charAt_3b067 {l : Launch} {Γ : Gx} {a0 : Nat} {x1 : Int32} {M : Mm} {q : Int32 × Mm} (hf : fJ1_charAt_3b067 a0 x1 M = some q) : AM l Γ 3 yJ1_charAt_3b067 cJ1_charAt_3b067 2 ((some .char)) [.ref a0, .int x1] M (some (.int q.1)) q.2 := by
  unfold fJ1_charAt_3b067 at hf
  refine AM.of mfJ1_charAt_3b067 (Nat.le_of_ble_eq_true rfl) ?_
  generalize mT M = t0
  generalize mW M = w0
  show AW _ _ _ _ _ _ _ _ _ 0 [(0, .ref a0), (1, .int x1)] [] _ _ _
  refine a_iload_n dJ1_charAt_3b067_0 rfl 1 rfl ?_
  refine a_aload_n dJ1_charAt_3b067_1 rfl 0 rfl ?_
  obtain ⟨v1_, ev1_, hf⟩ := bnd hf
  refine a_alen dJ1_charAt_3b067_2 ev1_ ?_
  obtain ⟨M2_, eM2_, hf⟩ := bnd hf
  refine a_callS (As := [.int x1, .int v1_]) (rest := []) dJ1_charAt_3b067_3 mfJ0_checkIndex_df160 csJ1_9 (wJ0_checkIndex_df160 eM2_) (by decide) rfl rfl (Nat.le_of_ble_eq_true rfl) ?_
  refine a_aload_n dJ1_charAt_3b067_6 rfl 0 rfl ?_
  refine a_iload_n dJ1_charAt_3b067_7 rfl 1 rfl ?_
  obtain ⟨v3_, ev3_, hf⟩ := bnd hf
  refine a_bald dJ1_charAt_3b067_8 ev3_ ?_
  refine a_sipush (v := 255) dJ1_charAt_3b067_9 (by decide) ?_
  refine a_iand dJ1_charAt_3b067_12 ?_
  refine a_i2c dJ1_charAt_3b067_13 ?_
  obtain ⟨v4_, ev4_, hf⟩ := bnd hf
  have e9 := Option.some.inj hf
  subst e9
  exact a_zretC rfl dJ1_charAt_3b067_14 ev4_ rfl
theorem kJ0_charAt_5068e {a0 : Nat} {x1 : Int32} {M : Mm} {q : Int32 × Mm} (hf : fJ0_charAt_5068e a0 x1 M = some q) : (mK M a0).1 = 32 := by
  unfold fJ0_charAt_5068e at hf
  obtain ⟨u0, eu0, -⟩ := bnd hf
  exact kc_of eu0
set_option maxHeartbeats 4000000 in
set_option maxRecDepth 100000 in
theorem wJ0_charAt_5068e {l : Launch} {Γ : Gx} {a0 : Nat} {x1 : Int32} {M : Mm} {q : Int32 × Mm} (hf : fJ0_charAt_5068e a0 x1 M = some q) : AM l Γ 4 yJ0_charAt_5068e cJ0_charAt_5068e 2 ((some .char)) [.ref a0, .int x1] M (some (.int q.1)) q.2 := by
  unfold fJ0_charAt_5068e at hf
  refine AM.of mfJ0_charAt_5068e (Nat.le_of_ble_eq_true rfl) ?_
  generalize mT M = t0
  generalize mW M = w0
  show AW _ _ _ _ _ _ _ _ _ 0 [(0, .ref a0), (1, .int x1)] [] _ _ _
  obtain ⟨u0, eu0, hf⟩ := bnd hf
  refine a_aload_n dJ0_charAt_5068e_0 rfl 0 rfl ?_
  obtain ⟨q1_, eq1_, hf⟩ := bnd hf
  refine a_callT (As := []) (rest := []) dJ0_charAt_5068e_1 mfJ0_isLatin1_aae02 cvJ0_492 (wJ0_isLatin1_aae02 eq1_) rfl (kJ0_isLatin1_aae02 eq1_) (by decide) rfl rfl (Nat.le_of_ble_eq_true rfl) ?_
  refine a_if_eq dJ0_charAt_5068e_4 (tgt := 16) (by decide) (fun c9 => ?_) (fun c9 => ?_)
  · replace hf := iteT hf c9
    refine a_aload_n dJ0_charAt_5068e_16 rfl 0 rfl ?_
    obtain ⟨u_, eu_, hf⟩ := bnd hf
    refine a_getSv dJ0_charAt_5068e_17 wfJ0_9 eu_ ?_
    refine a_iload_n dJ0_charAt_5068e_20 rfl 1 rfl ?_
    cases hf
  · replace hf := iteF hf c9
    refine a_aload_n dJ0_charAt_5068e_7 rfl 0 rfl ?_
    obtain ⟨u_, eu_, hf⟩ := bnd hf
    refine a_getSv dJ0_charAt_5068e_8 wfJ0_9 eu_ ?_
    refine a_iload_n dJ0_charAt_5068e_11 rfl 1 rfl ?_
    obtain ⟨q2_, eq2_, hf⟩ := bnd hf
    refine a_callS (As := [.ref (a0 + 7), .int x1]) (rest := []) dJ0_charAt_5068e_12 mfJ1_charAt_3b067 csJ0_495 (wJ1_charAt_3b067 eq2_) (by decide) rfl rfl (Nat.le_of_ble_eq_true rfl) ?_
    obtain ⟨v3_, ev3_, hf⟩ := bnd hf
    have e9 := Option.some.inj hf
    subst e9
    exact a_zretC rfl dJ0_charAt_5068e_15 ev3_ rfl
theorem kX2_readWord {a0 : Nat} {a1 : Nat} {M : Mm} {q : Mm} (hf : fX2_readWord a0 a1 M = some q) : (mK M a0).1 = 3 := by
  unfold fX2_readWord at hf
  obtain ⟨u0, eu0, -⟩ := bnd hf
  exact kc_of eu0
set_option maxHeartbeats 4000000 in
set_option maxRecDepth 100000 in
theorem wX2_readWord_b17 {l : Launch} {Γ : Gx} {t0 w0 : Nat} {q : Mm} : ∀ (n : Nat) (a0 : Nat) (a1 : Nat) (x2 : Int32) (M : Mm), fX2_readWord_b17 n a0 a1 x2 M = some q → AW l Γ yX2_readWord cX2_readWord 3 (none) 5 t0 w0 17 [(0, .ref a0), (1, .ref a1), (2, .int x2)] [] M none q := by
  intro n
  induction n with
  | zero =>
    intro a0 a1 x2 M hf
    cases hf
  | succ n ih =>
    intro a0 a1 x2 M hf
    rw [fX2_readWord_b17.eq_2] at hf
    refine a_iload_n dX2_readWord_17 rfl 2 rfl ?_
    refine a_aload_n dX2_readWord_18 rfl 1 rfl ?_
    obtain ⟨q1_, eq1_, hf⟩ := bnd hf
    refine a_callT (As := []) (rest := [.int x2]) dX2_readWord_19 mfJ0_length_8abf5 cvX2_100 (wJ0_length_8abf5 eq1_) rfl (kJ0_length_8abf5 eq1_) (by decide) rfl rfl (Nat.le_of_ble_eq_true rfl) ?_
    refine a_icmp_ge dX2_readWord_22 (tgt := 48) (by decide) (fun c9 => ?_) (fun c9 => ?_)
    · replace hf := iteT hf c9
      have e9 := Option.some.inj hf
      subst e9
      exact a_vret rfl dX2_readWord_48 rfl
    · replace hf := iteF hf c9
      refine a_aload_n dX2_readWord_25 rfl 0 rfl ?_
      obtain ⟨v2_, ev2_, hf⟩ := bnd hf
      refine a_getI dX2_readWord_26 flX2_15 rfl ev2_ ?_
      refine a_iconst (v := -1) dX2_readWord_29 (by decide) ?_
      refine a_icmp_ne dX2_readWord_30 (tgt := 48) (by decide) (fun c9 => ?_) (fun c9 => ?_)
      · replace hf := iteF hf c9
        have e9 := Option.some.inj hf
        subst e9
        exact a_vret rfl dX2_readWord_48 rfl
      · replace hf := iteT hf c9
        refine a_aload_n dX2_readWord_33 rfl 0 rfl ?_
        refine a_aload_n dX2_readWord_34 rfl 1 rfl ?_
        refine a_iload_n dX2_readWord_35 rfl 2 rfl ?_
        obtain ⟨q3_, eq3_, hf⟩ := bnd hf
        refine a_callT (As := [.int x2]) (rest := [.ref a0]) dX2_readWord_36 mfJ0_charAt_5068e cvX2_103 (wJ0_charAt_5068e eq3_) rfl (kJ0_charAt_5068e eq3_) (by decide) rfl rfl (Nat.le_of_ble_eq_true rfl) ?_
        obtain ⟨M4_, eM4_, hf⟩ := bnd hf
        refine a_callV (As := [.int q3_.1]) (rest := []) dX2_readWord_39 mfX2_pass cvX2_38 (wX2_pass eM4_) rc2 (kX2_pass eM4_) (by decide) rfl rfl (Nat.le_of_ble_eq_true rfl) ?_
        refine a_iinc (v := x2 + (1 : Int32)) (lv1 := [(2, .int (x2 + (1 : Int32))), (0, .ref a0), (1, .ref a1)]) dX2_readWord_42 2 rfl rfl (by decide) rfl ?_
        refine a_goto (tgt := 17) dX2_readWord_45 (by decide) ?_
        refine AW.sub (lv1 := [(0, .ref a0), (1, .ref a1), (2, .int (x2 + (1 : Int32)))]) [1, 2, 0] rfl ?_
        exact ih _ _ _ _ hf
set_option maxHeartbeats 4000000 in
set_option maxRecDepth 100000 in
theorem wX2_readWord {l : Launch} {Γ : Gx} {a0 : Nat} {a1 : Nat} {M : Mm} {q : Mm} (hf : fX2_readWord a0 a1 M = some q) : AM l Γ 5 yX2_readWord cX2_readWord 3 (none) [.ref a0, .ref a1] M none q := by
  unfold fX2_readWord at hf
  refine AM.of mfX2_readWord (Nat.le_of_ble_eq_true rfl) ?_
  generalize mT M = t0
  generalize mW M = w0
  show AW _ _ _ _ _ _ _ _ _ 0 [(0, .ref a0), (1, .ref a1)] [] _ _ _
  obtain ⟨u0, eu0, hf⟩ := bnd hf
  refine a_aload_n dX2_readWord_0 rfl 1 rfl ?_
  obtain ⟨q1_, eq1_, hf⟩ := bnd hf
  refine a_callT (As := []) (rest := []) dX2_readWord_1 mfJ0_isEmpty_aae02 cvX2_94 (wJ0_isEmpty_aae02 eq1_) rfl (kJ0_isEmpty_aae02 eq1_) (by decide) rfl rfl (Nat.le_of_ble_eq_true rfl) ?_
  refine a_if_eq dX2_readWord_4 (tgt := 15) (by decide) (fun c9 => ?_) (fun c9 => ?_)
  · replace hf := iteT hf c9
    refine a_iconst (v := 0) dX2_readWord_15 (by decide) ?_
    refine a_istore_n (i := 2) (lv1 := [(2, .int ((0 : Int32))), (0, .ref a0), (1, .ref a1)]) dX2_readWord_16 rfl (by decide) rfl ?_
    refine AW.sub (lv1 := [(0, .ref a0), (1, .ref a1), (2, .int ((0 : Int32)))]) [1, 2, 0] rfl ?_
    exact wX2_readWord_b17 _ _ _ _ _ hf
  · replace hf := iteF hf c9
    refine a_aload_n dX2_readWord_7 rfl 0 rfl ?_
    refine a_aload_n dX2_readWord_8 rfl 0 rfl ?_
    obtain ⟨v2_, ev2_, hf⟩ := bnd hf
    refine a_getI dX2_readWord_9 flX2_9 rfl ev2_ ?_
    obtain ⟨M3_, eM3_, hf⟩ := bnd hf
    refine a_putI dX2_readWord_12 fpX2_15 rfl (Or.inr nf2_3) eM3_ ?_
    refine a_iconst (v := 0) dX2_readWord_15 (by decide) ?_
    refine a_istore_n (i := 2) (lv1 := [(2, .int ((0 : Int32))), (0, .ref a0), (1, .ref a1)]) dX2_readWord_16 rfl (by decide) rfl ?_
    refine AW.sub (lv1 := [(0, .ref a0), (1, .ref a1), (2, .int ((0 : Int32)))]) [1, 2, 0] rfl ?_
    exact wX2_readWord_b17 _ _ _ _ _ hf
theorem kX2_readLength {a0 : Nat} {M : Mm} {q : Mm} (hf : fX2_readLength a0 M = some q) : (mK M a0).1 = 3 := by
  unfold fX2_readLength at hf
  obtain ⟨u0, eu0, -⟩ := bnd hf
  exact kc_of eu0
set_option maxHeartbeats 4000000 in
set_option maxRecDepth 100000 in
theorem wX2_readLength {l : Launch} {Γ : Gx} {a0 : Nat} {M : Mm} {q : Mm} (hf : fX2_readLength a0 M = some q) : AM l Γ 4 yX2_readLength cX2_readLength 2 (none) [.ref a0] M none q := by
  unfold fX2_readLength at hf
  refine AM.of mfX2_readLength (Nat.le_of_ble_eq_true rfl) ?_
  generalize mT M = t0
  generalize mW M = w0
  show AW _ _ _ _ _ _ _ _ _ 0 [(0, .ref a0)] [] _ _ _
  obtain ⟨u0, eu0, hf⟩ := bnd hf
  refine a_aload_n dX2_readLength_0 rfl 0 rfl ?_
  refine a_iconst (v := 2) dX2_readLength_1 (by decide) ?_
  refine a_bipush (v := 24) dX2_readLength_2 (by decide) ?_
  obtain ⟨q1_, eq1_, hf⟩ := bnd hf
  refine a_callV (As := [.int ((2 : Int32)), .int ((24 : Int32))]) (rest := []) dX2_readLength_4 mfX2_readNumber cvX2_70 (wX2_readNumber eq1_) rc2 (kX2_readNumber eq1_) (by decide) rfl rfl (Nat.le_of_ble_eq_true rfl) ?_
  refine a_istore_n (i := 1) (lv1 := [(1, .int q1_.1), (0, .ref a0)]) dX2_readLength_7 rfl (by decide) rfl ?_
  refine a_aload_n dX2_readLength_8 rfl 1 rfl ?_
  obtain ⟨v2_, ev2_, hf⟩ := bnd hf
  refine a_getI dX2_readLength_9 flX2_15 rfl ev2_ ?_
  refine a_iconst (v := -1) dX2_readLength_12 (by decide) ?_
  refine a_icmp_ne dX2_readLength_13 (tgt := 29) (by decide) (fun c9 => ?_) (fun c9 => ?_)
  · replace hf := iteF hf c9
    have e9 := Option.some.inj hf
    subst e9
    exact a_vret rfl dX2_readLength_29 rfl
  · replace hf := iteT hf c9
    refine a_aload_n dX2_readLength_16 rfl 1 rfl ?_
    obtain ⟨o3_, eo3_, hf⟩ := bnd hf
    refine a_getR dX2_readLength_17 flX2_26 rfl eo3_ ?_
    refine a_iload_n dX2_readLength_20 rfl 0 rfl ?_
    obtain ⟨M4_, eM4_, hf⟩ := bnd hf
    refine a_callV (As := [.int q1_.1]) (rest := []) dX2_readLength_21 mfX5_tellLength cvX2_107 (wX5_tellLength eM4_) rc5 (kX5_tellLength eM4_) (by decide) rfl rfl (Nat.le_of_ble_eq_true rfl) ?_
    refine a_aload_n dX2_readLength_24 rfl 1 rfl ?_
    refine a_iconst (v := 1) dX2_readLength_25 (by decide) ?_
    obtain ⟨M5_, eM5_, hf⟩ := bnd hf
    refine a_putZ dX2_readLength_26 fpX2_18 rfl (Or.inr nf2_4) eM5_ ?_
    have e9 := Option.some.inj hf
    subst e9
    exact a_vret rfl dX2_readLength_29 rfl
theorem kX2_readSign {a0 : Nat} {x1 : Int32} {M : Mm} {q : Mm} (hf : fX2_readSign a0 x1 M = some q) : (mK M a0).1 = 3 := by
  unfold fX2_readSign at hf
  obtain ⟨u0, eu0, -⟩ := bnd hf
  exact kc_of eu0
set_option maxHeartbeats 4000000 in
set_option maxRecDepth 100000 in
theorem wX2_readSign_b15 {l : Launch} {Γ : Gx} {t0 w0 : Nat} {q : Mm} (a0 : Nat) (M : Mm) (hf : fX2_readSign_b15 a0 M = some q) : AW l Γ yX2_readSign cX2_readSign 6 (none) 4 t0 w0 15 [(0, .ref a0)] [] M none q := by
  unfold fX2_readSign_b15 at hf
  refine a_aload_n dX2_readSign_15 rfl 0 rfl ?_
  refine a_iconst (v := 0) dX2_readSign_16 (by decide) ?_
  refine a_bipush (v := 6) dX2_readSign_17 (by decide) ?_
  obtain ⟨q1_, eq1_, hf⟩ := bnd hf
  refine a_callV (As := [.int ((0 : Int32)), .int ((6 : Int32))]) (rest := []) dX2_readSign_19 mfX2_readNumber cvX2_70 (wX2_readNumber eq1_) rc2 (kX2_readNumber eq1_) (by decide) rfl rfl (Nat.le_of_ble_eq_true rfl) ?_
  refine a_istore_n (i := 2) (lv1 := [(2, .int q1_.1), (0, .ref a0)]) dX2_readSign_22 rfl (by decide) rfl ?_
  refine a_aload_n dX2_readSign_23 rfl 1 rfl ?_
  refine a_iconst (v := 0) dX2_readSign_24 (by decide) ?_
  refine a_aload_n dX2_readSign_25 rfl 1 rfl ?_
  obtain ⟨o2_, eo2_, hf⟩ := bnd hf
  refine a_getR dX2_readSign_26 flX2_26 rfl eo2_ ?_
  obtain ⟨v3_, ev3_, hf⟩ := bnd hf
  refine a_getI dX2_readSign_29 flX2_113 rfl ev3_ ?_
  refine a_iconst (v := 1) dX2_readSign_32 (by decide) ?_
  refine a_isub dX2_readSign_33 ?_
  obtain ⟨q4_, eq4_, hf⟩ := bnd hf
  refine a_callV (As := [.int ((0 : Int32)), .int (v3_ - ((1 : Int32)))]) (rest := []) dX2_readSign_34 mfX2_readNumber cvX2_70 (wX2_readNumber eq4_) rc2 (kX2_readNumber eq4_) (by decide) rfl rfl (Nat.le_of_ble_eq_true rfl) ?_
  refine a_istore_n (i := 3) (lv1 := [(3, .int q4_.1), (2, .int q1_.1), (0, .ref a0)]) dX2_readSign_37 rfl (by decide) rfl ?_
  refine a_aload_n dX2_readSign_38 rfl 2 rfl ?_
  refine a_iconst (v := 1) dX2_readSign_39 (by decide) ?_
  refine a_bipush (v := 10) dX2_readSign_40 (by decide) ?_
  obtain ⟨q5_, eq5_, hf⟩ := bnd hf
  refine a_callV (As := [.int ((1 : Int32)), .int ((10 : Int32))]) (rest := []) dX2_readSign_42 mfX2_readNumber cvX2_70 (wX2_readNumber eq5_) rc2 (kX2_readNumber eq5_) (by decide) rfl rfl (Nat.le_of_ble_eq_true rfl) ?_
  refine a_istore (i := 4) (lv1 := [(4, .int q5_.1), (3, .int q4_.1), (2, .int q1_.1), (0, .ref a0)]) dX2_readSign_45 (by decide) rfl ?_
  refine a_aload_n dX2_readSign_47 rfl 3 rfl ?_
  refine a_iconst (v := 0) dX2_readSign_48 (by decide) ?_
  refine a_sipush (v := 255) dX2_readSign_49 (by decide) ?_
  obtain ⟨q6_, eq6_, hf⟩ := bnd hf
  refine a_callV (As := [.int ((0 : Int32)), .int ((255 : Int32))]) (rest := []) dX2_readSign_52 mfX2_readNumber cvX2_70 (wX2_readNumber eq6_) rc2 (kX2_readNumber eq6_) (by decide) rfl rfl (Nat.le_of_ble_eq_true rfl) ?_
  refine a_istore (i := 5) (lv1 := [(5, .int q6_.1), (4, .int q5_.1), (3, .int q4_.1), (2, .int q1_.1), (0, .ref a0)]) dX2_readSign_55 (by decide) rfl ?_
  refine a_aload_n dX2_readSign_57 rfl 4 rfl ?_
  obtain ⟨v7_, ev7_, hf⟩ := bnd hf
  refine a_getI dX2_readSign_58 flX2_15 rfl ev7_ ?_
  refine a_iconst (v := -1) dX2_readSign_61 (by decide) ?_
  refine a_icmp_ne dX2_readSign_62 (tgt := 79) (by decide) (fun c9 => ?_) (fun c9 => ?_)
  · replace hf := iteF hf c9
    have e9 := Option.some.inj hf
    subst e9
    exact a_vret rfl dX2_readSign_79 rfl
  · replace hf := iteT hf c9
    refine a_aload_n dX2_readSign_65 rfl 4 rfl ?_
    obtain ⟨o8_, eo8_, hf⟩ := bnd hf
    refine a_getR dX2_readSign_66 flX2_26 rfl eo8_ ?_
    refine a_iload_n dX2_readSign_69 rfl 3 rfl ?_
    refine a_iload_n dX2_readSign_70 rfl 2 rfl ?_
    refine a_iload dX2_readSign_71 1 rfl ?_
    refine a_iload dX2_readSign_73 0 rfl ?_
    obtain ⟨q9_, eq9_, hf⟩ := bnd hf
    refine a_callV (As := [.int q1_.1, .int q4_.1, .int q5_.1, .int q6_.1]) (rest := []) dX2_readSign_75 mfX5_addSign cvX2_115 (wX5_addSign eq9_) rc5 (kX5_addSign eq9_) (by decide) rfl rfl (Nat.le_of_ble_eq_true rfl) ?_
    refine a_pop dX2_readSign_78 rfl ?_
    have e9 := Option.some.inj hf
    subst e9
    exact a_vret rfl dX2_readSign_79 rfl
set_option maxHeartbeats 4000000 in
set_option maxRecDepth 100000 in
theorem wX2_readSign {l : Launch} {Γ : Gx} {a0 : Nat} {x1 : Int32} {M : Mm} {q : Mm} (hf : fX2_readSign a0 x1 M = some q) : AM l Γ 4 yX2_readSign cX2_readSign 6 (none) [.ref a0, .int x1] M none q := by
  unfold fX2_readSign at hf
  refine AM.of mfX2_readSign (Nat.le_of_ble_eq_true rfl) ?_
  generalize mT M = t0
  generalize mW M = w0
  show AW _ _ _ _ _ _ _ _ _ 0 [(0, .ref a0), (1, .int x1)] [] _ _ _
  obtain ⟨u0, eu0, hf⟩ := bnd hf
  refine a_aload_n dX2_readSign_0 rfl 0 rfl ?_
  obtain ⟨o1_, eo1_, hf⟩ := bnd hf
  refine a_getR dX2_readSign_1 flX2_26 rfl eo1_ ?_
  obtain ⟨q2_, eq2_, hf⟩ := bnd hf
  refine a_callV (As := []) (rest := []) dX2_readSign_4 mfX5_hasRoomForSign cvX2_110 (wX5_hasRoomForSign eq2_) rc5 (kX5_hasRoomForSign eq2_) (by decide) rfl rfl (Nat.le_of_ble_eq_true rfl) ?_
  refine a_if_ne dX2_readSign_7 (tgt := 15) (by decide) (fun c9 => ?_) (fun c9 => ?_)
  · replace hf := iteF hf c9
    refine AW.sub (lv1 := [(0, .ref a0)]) [0] rfl ?_
    exact wX2_readSign_b15 _ _ hf
  · replace hf := iteT hf c9
    refine a_aload_n dX2_readSign_10 rfl 0 rfl ?_
    refine a_iload_n dX2_readSign_11 rfl 1 rfl ?_
    obtain ⟨M3_, eM3_, hf⟩ := bnd hf
    refine a_putI dX2_readSign_12 fpX2_15 rfl (Or.inr nf2_3) eM3_ ?_
    refine AW.sub (lv1 := [(0, .ref a0)]) [0] rfl ?_
    exact wX2_readSign_b15 _ _ hf
theorem kX2_readThing {a0 : Nat} {x1 : Int32} {M : Mm} {q : Mm} (hf : fX2_readThing a0 x1 M = some q) : (mK M a0).1 = 3 := by
  unfold fX2_readThing at hf
  obtain ⟨u0, eu0, -⟩ := bnd hf
  exact kc_of eu0
set_option maxHeartbeats 4000000 in
set_option maxRecDepth 100000 in
theorem wX2_readThing_b15 {l : Launch} {Γ : Gx} {t0 w0 : Nat} {q : Mm} (a0 : Nat) (M : Mm) (hf : fX2_readThing_b15 a0 M = some q) : AW l Γ yX2_readThing cX2_readThing 5 (none) 4 t0 w0 15 [(0, .ref a0)] [] M none q := by
  unfold fX2_readThing_b15 at hf
  refine a_aload_n dX2_readThing_15 rfl 0 rfl ?_
  refine a_iconst (v := 0) dX2_readThing_16 (by decide) ?_
  refine a_aload_n dX2_readThing_17 rfl 0 rfl ?_
  obtain ⟨o1_, eo1_, hf⟩ := bnd hf
  refine a_getR dX2_readThing_18 flX2_26 rfl eo1_ ?_
  obtain ⟨v2_, ev2_, hf⟩ := bnd hf
  refine a_getI dX2_readThing_21 flX2_113 rfl ev2_ ?_
  refine a_iconst (v := 1) dX2_readThing_24 (by decide) ?_
  refine a_isub dX2_readThing_25 ?_
  obtain ⟨q3_, eq3_, hf⟩ := bnd hf
  refine a_callV (As := [.int ((0 : Int32)), .int (v2_ - ((1 : Int32)))]) (rest := []) dX2_readThing_26 mfX2_readNumber cvX2_70 (wX2_readNumber eq3_) rc2 (kX2_readNumber eq3_) (by decide) rfl rfl (Nat.le_of_ble_eq_true rfl) ?_
  refine a_istore_n (i := 2) (lv1 := [(2, .int q3_.1), (0, .ref a0)]) dX2_readThing_29 rfl (by decide) rfl ?_
  refine a_aload_n dX2_readThing_30 rfl 1 rfl ?_
  refine a_iconst (v := 0) dX2_readThing_31 (by decide) ?_
  refine a_iconst (v := 1) dX2_readThing_32 (by decide) ?_
  obtain ⟨q4_, eq4_, hf⟩ := bnd hf
  refine a_callV (As := [.int ((0 : Int32)), .int ((1 : Int32))]) (rest := []) dX2_readThing_33 mfX2_readNumber cvX2_70 (wX2_readNumber eq4_) rc2 (kX2_readNumber eq4_) (by decide) rfl rfl (Nat.le_of_ble_eq_true rfl) ?_
  refine a_istore_n (i := 3) (lv1 := [(3, .int q4_.1), (2, .int q3_.1), (0, .ref a0)]) dX2_readThing_36 rfl (by decide) rfl ?_
  refine a_aload_n dX2_readThing_37 rfl 2 rfl ?_
  refine a_iconst (v := 1) dX2_readThing_38 (by decide) ?_
  refine a_bipush (v := 10) dX2_readThing_39 (by decide) ?_
  obtain ⟨q5_, eq5_, hf⟩ := bnd hf
  refine a_callV (As := [.int ((1 : Int32)), .int ((10 : Int32))]) (rest := []) dX2_readThing_41 mfX2_readNumber cvX2_70 (wX2_readNumber eq5_) rc2 (kX2_readNumber eq5_) (by decide) rfl rfl (Nat.le_of_ble_eq_true rfl) ?_
  refine a_istore (i := 4) (lv1 := [(4, .int q5_.1), (3, .int q4_.1), (2, .int q3_.1), (0, .ref a0)]) dX2_readThing_44 (by decide) rfl ?_
  refine a_aload_n dX2_readThing_46 rfl 3 rfl ?_
  obtain ⟨v6_, ev6_, hf⟩ := bnd hf
  refine a_getI dX2_readThing_47 flX2_15 rfl ev6_ ?_
  refine a_iconst (v := -1) dX2_readThing_50 (by decide) ?_
  refine a_icmp_ne dX2_readThing_51 (tgt := 75) (by decide) (fun c9 => ?_) (fun c9 => ?_)
  · replace hf := iteF hf c9
    have e9 := Option.some.inj hf
    subst e9
    exact a_vret rfl dX2_readThing_75 rfl
  · replace hf := iteT hf c9
    refine a_aload_n dX2_readThing_54 rfl 3 rfl ?_
    obtain ⟨o7_, eo7_, hf⟩ := bnd hf
    refine a_getR dX2_readThing_55 flX2_26 rfl eo7_ ?_
    refine a_iload_n dX2_readThing_58 rfl 2 rfl ?_
    refine a_iload_n dX2_readThing_59 rfl 1 rfl ?_
    refine a_iconst (v := 1) dX2_readThing_60 (by decide) ?_
    refine a_icmp_ne dX2_readThing_61 (tgt := 68) (by decide) (fun c9 => ?_) (fun c9 => ?_)
    · replace hf := iteF hf c9
      refine a_iconst (v := 0) dX2_readThing_68 (by decide) ?_
      refine a_iload dX2_readThing_69 0 rfl ?_
      obtain ⟨q8_, eq8_, hf⟩ := bnd hf
      refine a_callV (As := [.int q3_.1, .int ((0 : Int32)), .int q5_.1]) (rest := []) dX2_readThing_71 mfX5_addThing cvX2_122 (wX5_addThing eq8_) rc5 (kX5_addThing eq8_) (by decide) rfl rfl (Nat.le_of_ble_eq_true rfl) ?_
      refine a_pop dX2_readThing_74 rfl ?_
      have e9 := Option.some.inj hf
      subst e9
      exact a_vret rfl dX2_readThing_75 rfl
    · replace hf := iteT hf c9
      refine a_iconst (v := 1) dX2_readThing_64 (by decide) ?_
      refine a_goto (tgt := 69) dX2_readThing_65 (by decide) ?_
      refine a_iload dX2_readThing_69 0 rfl ?_
      obtain ⟨q9_, eq9_, hf⟩ := bnd hf
      refine a_callV (As := [.int q3_.1, .int ((1 : Int32)), .int q5_.1]) (rest := []) dX2_readThing_71 mfX5_addThing cvX2_122 (wX5_addThing eq9_) rc5 (kX5_addThing eq9_) (by decide) rfl rfl (Nat.le_of_ble_eq_true rfl) ?_
      refine a_pop dX2_readThing_74 rfl ?_
      have e9 := Option.some.inj hf
      subst e9
      exact a_vret rfl dX2_readThing_75 rfl
set_option maxHeartbeats 4000000 in
set_option maxRecDepth 100000 in
theorem wX2_readThing {l : Launch} {Γ : Gx} {a0 : Nat} {x1 : Int32} {M : Mm} {q : Mm} (hf : fX2_readThing a0 x1 M = some q) : AM l Γ 4 yX2_readThing cX2_readThing 5 (none) [.ref a0, .int x1] M none q := by
  unfold fX2_readThing at hf
  refine AM.of mfX2_readThing (Nat.le_of_ble_eq_true rfl) ?_
  generalize mT M = t0
  generalize mW M = w0
  show AW _ _ _ _ _ _ _ _ _ 0 [(0, .ref a0), (1, .int x1)] [] _ _ _
  obtain ⟨u0, eu0, hf⟩ := bnd hf
  refine a_aload_n dX2_readThing_0 rfl 0 rfl ?_
  obtain ⟨o1_, eo1_, hf⟩ := bnd hf
  refine a_getR dX2_readThing_1 flX2_26 rfl eo1_ ?_
  obtain ⟨q2_, eq2_, hf⟩ := bnd hf
  refine a_callV (As := []) (rest := []) dX2_readThing_4 mfX5_hasRoomForThing cvX2_119 (wX5_hasRoomForThing eq2_) rc5 (kX5_hasRoomForThing eq2_) (by decide) rfl rfl (Nat.le_of_ble_eq_true rfl) ?_
  refine a_if_ne dX2_readThing_7 (tgt := 15) (by decide) (fun c9 => ?_) (fun c9 => ?_)
  · replace hf := iteF hf c9
    refine AW.sub (lv1 := [(0, .ref a0)]) [0] rfl ?_
    exact wX2_readThing_b15 _ _ hf
  · replace hf := iteT hf c9
    refine a_aload_n dX2_readThing_10 rfl 0 rfl ?_
    refine a_iload_n dX2_readThing_11 rfl 1 rfl ?_
    obtain ⟨M3_, eM3_, hf⟩ := bnd hf
    refine a_putI dX2_readThing_12 fpX2_15 rfl (Or.inr nf2_3) eM3_ ?_
    refine AW.sub (lv1 := [(0, .ref a0)]) [0] rfl ?_
    exact wX2_readThing_b15 _ _ hf
theorem kX2_readWander {a0 : Nat} {M : Mm} {q : Mm} (hf : fX2_readWander a0 M = some q) : (mK M a0).1 = 3 := by
  unfold fX2_readWander at hf
  obtain ⟨u0, eu0, -⟩ := bnd hf
  exact kc_of eu0
set_option maxHeartbeats 4000000 in
set_option maxRecDepth 100000 in
theorem wX2_readWander {l : Launch} {Γ : Gx} {a0 : Nat} {M : Mm} {q : Mm} (hf : fX2_readWander a0 M = some q) : AM l Γ 4 yX2_readWander cX2_readWander 3 (none) [.ref a0] M none q := by
  unfold fX2_readWander at hf
  refine AM.of mfX2_readWander (Nat.le_of_ble_eq_true rfl) ?_
  generalize mT M = t0
  generalize mW M = w0
  show AW _ _ _ _ _ _ _ _ _ 0 [(0, .ref a0)] [] _ _ _
  obtain ⟨u0, eu0, hf⟩ := bnd hf
  refine a_aload_n dX2_readWander_0 rfl 0 rfl ?_
  refine a_iconst (v := 0) dX2_readWander_1 (by decide) ?_
  refine a_bipush (v := 10) dX2_readWander_2 (by decide) ?_
  obtain ⟨q1_, eq1_, hf⟩ := bnd hf
  refine a_callV (As := [.int ((0 : Int32)), .int ((10 : Int32))]) (rest := []) dX2_readWander_4 mfX2_readNumber cvX2_70 (wX2_readNumber eq1_) rc2 (kX2_readNumber eq1_) (by decide) rfl rfl (Nat.le_of_ble_eq_true rfl) ?_
  refine a_istore_n (i := 1) (lv1 := [(1, .int q1_.1), (0, .ref a0)]) dX2_readWander_7 rfl (by decide) rfl ?_
  refine a_aload_n dX2_readWander_8 rfl 1 rfl ?_
  refine a_iconst (v := 0) dX2_readWander_9 (by decide) ?_
  refine a_bipush (v := 10) dX2_readWander_10 (by decide) ?_
  refine a_iload_n dX2_readWander_12 rfl 0 rfl ?_
  refine a_isub dX2_readWander_13 ?_
  obtain ⟨q2_, eq2_, hf⟩ := bnd hf
  refine a_callV (As := [.int ((0 : Int32)), .int (((10 : Int32)) - q1_.1)]) (rest := []) dX2_readWander_14 mfX2_readNumber cvX2_70 (wX2_readNumber eq2_) rc2 (kX2_readNumber eq2_) (by decide) rfl rfl (Nat.le_of_ble_eq_true rfl) ?_
  refine a_istore_n (i := 2) (lv1 := [(2, .int q2_.1), (1, .int q1_.1), (0, .ref a0)]) dX2_readWander_17 rfl (by decide) rfl ?_
  refine a_aload_n dX2_readWander_18 rfl 2 rfl ?_
  obtain ⟨o3_, eo3_, hf⟩ := bnd hf
  refine a_getR dX2_readWander_19 flX2_26 rfl eo3_ ?_
  refine a_iload_n dX2_readWander_22 rfl 1 rfl ?_
  obtain ⟨M4_, eM4_, hf⟩ := bnd hf
  refine a_putI dX2_readWander_23 fpX2_126 rfl (Or.inr nf5_1) eM4_ ?_
  refine a_aload_n dX2_readWander_26 rfl 2 rfl ?_
  obtain ⟨o5_, eo5_, hf⟩ := bnd hf
  refine a_getR dX2_readWander_27 flX2_26 rfl eo5_ ?_
  refine a_iload_n dX2_readWander_30 rfl 0 rfl ?_
  obtain ⟨M6_, eM6_, hf⟩ := bnd hf
  refine a_putI dX2_readWander_31 fpX2_129 rfl (Or.inr nf5_2) eM6_ ?_
  have e9 := Option.some.inj hf
  subst e9
  exact a_vret rfl dX2_readWander_34 rfl
theorem kX2_readItem {a0 : Nat} {M : Mm} {q : Mm} (hf : fX2_readItem a0 M = some q) : (mK M a0).1 = 3 := by
  unfold fX2_readItem at hf
  obtain ⟨u0, eu0, -⟩ := bnd hf
  exact kc_of eu0
set_option maxHeartbeats 4000000 in
set_option maxRecDepth 100000 in
theorem wX2_readItem {l : Launch} {Γ : Gx} {a0 : Nat} {M : Mm} {q : Mm} (hf : fX2_readItem a0 M = some q) : AM l Γ 6 yX2_readItem cX2_readItem 3 (none) [.ref a0] M none q := by
  unfold fX2_readItem at hf
  refine AM.of mfX2_readItem (Nat.le_of_ble_eq_true rfl) ?_
  generalize mT M = t0
  generalize mW M = w0
  show AW _ _ _ _ _ _ _ _ _ 0 [(0, .ref a0)] [] _ _ _
  obtain ⟨u0, eu0, hf⟩ := bnd hf
  refine a_aload_n dX2_readItem_0 rfl 0 rfl ?_
  obtain ⟨v1_, ev1_, hf⟩ := bnd hf
  refine a_getI dX2_readItem_1 flX2_9 rfl ev1_ ?_
  refine a_istore_n (i := 1) (lv1 := [(1, .int v1_), (0, .ref a0)]) dX2_readItem_4 rfl (by decide) rfl ?_
  refine a_aload_n dX2_readItem_5 rfl 1 rfl ?_
  obtain ⟨q2_, eq2_, hf⟩ := bnd hf
  refine a_callV (As := []) (rest := []) dX2_readItem_6 mfX2_letter cvX2_46 (wX2_letter eq2_) rc2 (kX2_letter eq2_) (by decide) rfl rfl (Nat.le_of_ble_eq_true rfl) ?_
  refine a_istore_n (i := 2) (lv1 := [(2, .int q2_.1), (1, .int v1_), (0, .ref a0)]) dX2_readItem_9 rfl (by decide) rfl ?_
  refine a_aload_n dX2_readItem_10 rfl 2 rfl ?_
  refine a_iload_n dX2_readItem_11 rfl 0 rfl ?_
  obtain ⟨q3_, eq3_, hf⟩ := bnd hf
  refine a_callS (As := [.int q2_.1]) (rest := [.ref a0]) dX2_readItem_12 mfX2_wordWith csX2_50 (wX2_wordWith eq3_) (by decide) rfl rfl (Nat.le_of_ble_eq_true rfl) ?_
  obtain ⟨M4_, eM4_, hf⟩ := bnd hf
  refine a_callV (As := [.ref q3_.1]) (rest := []) dX2_readItem_15 mfX2_readWord cvX2_54 (wX2_readWord eM4_) rc2 (kX2_readWord eM4_) (by decide) rfl rfl (Nat.le_of_ble_eq_true rfl) ?_
  refine a_aload_n dX2_readItem_18 rfl 2 rfl ?_
  obtain ⟨v5_, ev5_, hf⟩ := bnd hf
  refine a_getI dX2_readItem_19 flX2_15 rfl ev5_ ?_
  refine a_iconst (v := -1) dX2_readItem_22 (by decide) ?_
  refine a_icmp_eq dX2_readItem_23 (tgt := 27) (by decide) (fun c9 => ?_) (fun c9 => ?_)
  · replace hf := iteT hf c9
    refine a_iload_n dX2_readItem_27 rfl 0 rfl ?_
    by_cases c97 : q2_.1 = (97 : Int32)
    · replace hf := iteT hf c97
      refine a_lookup (off := 82) (tgt := 110) dX2_readItem_28 rfl ((congrArg (fun z => Op.lookupswitch.offset _ _ (Int32.toInt z)) c97).trans rfl) (by decide) ?_
      refine a_aload_n dX2_readItem_110 rfl 2 rfl ?_
      obtain ⟨o6_, eo6_, hf⟩ := bnd hf
      refine a_getR dX2_readItem_111 flX2_26 rfl eo6_ ?_
      refine a_aload_n dX2_readItem_114 rfl 2 rfl ?_
      refine a_iconst (v := 1) dX2_readItem_115 (by decide) ?_
      refine a_bipush (v := 9) dX2_readItem_116 (by decide) ?_
      obtain ⟨q7_, eq7_, hf⟩ := bnd hf
      refine a_callV (As := [.int ((1 : Int32)), .int ((9 : Int32))]) (rest := [.ref o6_]) dX2_readItem_118 mfX2_readNumber cvX2_70 (wX2_readNumber eq7_) rc2 (kX2_readNumber eq7_) (by decide) rfl rfl (Nat.le_of_ble_eq_true rfl) ?_
      obtain ⟨M8_, eM8_, hf⟩ := bnd hf
      refine a_putI dX2_readItem_121 fpX2_74 rfl (Or.inr nf5_5) eM8_ ?_
      refine a_goto (tgt := 141) dX2_readItem_124 (by decide) ?_
      have e9 := Option.some.inj hf
      subst e9
      exact a_vret rfl dX2_readItem_141 rfl
    · replace hf := iteF hf c97
      by_cases c108 : q2_.1 = (108 : Int32)
      · replace hf := iteT hf c108
        refine a_lookup (off := 52) (tgt := 80) dX2_readItem_28 rfl ((congrArg (fun z => Op.lookupswitch.offset _ _ (Int32.toInt z)) c108).trans rfl) (by decide) ?_
        refine a_aload_n dX2_readItem_80 rfl 2 rfl ?_
        obtain ⟨M9_, eM9_, hf⟩ := bnd hf
        refine a_callV (As := []) (rest := []) dX2_readItem_81 mfX2_readLength cvX2_58 (wX2_readLength eM9_) rc2 (kX2_readLength eM9_) (by decide) rfl rfl (Nat.le_of_ble_eq_true rfl) ?_
        refine a_goto (tgt := 141) dX2_readItem_84 (by decide) ?_
        have e9 := Option.some.inj hf
        subst e9
        exact a_vret rfl dX2_readItem_141 rfl
      · replace hf := iteF hf c108
        by_cases c115 : q2_.1 = (115 : Int32)
        · replace hf := iteT hf c115
          refine a_lookup (off := 59) (tgt := 87) dX2_readItem_28 rfl ((congrArg (fun z => Op.lookupswitch.offset _ _ (Int32.toInt z)) c115).trans rfl) (by decide) ?_
          refine a_aload_n dX2_readItem_87 rfl 2 rfl ?_
          refine a_iload_n dX2_readItem_88 rfl 1 rfl ?_
          obtain ⟨M10_, eM10_, hf⟩ := bnd hf
          refine a_callV (As := [.int v1_]) (rest := []) dX2_readItem_89 mfX2_readSign cvX2_61 (wX2_readSign eM10_) rc2 (kX2_readSign eM10_) (by decide) rfl rfl (Nat.le_of_ble_eq_true rfl) ?_
          refine a_goto (tgt := 141) dX2_readItem_92 (by decide) ?_
          have e9 := Option.some.inj hf
          subst e9
          exact a_vret rfl dX2_readItem_141 rfl
        · replace hf := iteF hf c115
          by_cases c116 : q2_.1 = (116 : Int32)
          · replace hf := iteT hf c116
            refine a_lookup (off := 67) (tgt := 95) dX2_readItem_28 rfl ((congrArg (fun z => Op.lookupswitch.offset _ _ (Int32.toInt z)) c116).trans rfl) (by decide) ?_
            refine a_aload_n dX2_readItem_95 rfl 2 rfl ?_
            refine a_iload_n dX2_readItem_96 rfl 1 rfl ?_
            obtain ⟨M11_, eM11_, hf⟩ := bnd hf
            refine a_callV (As := [.int v1_]) (rest := []) dX2_readItem_97 mfX2_readThing cvX2_64 (wX2_readThing eM11_) rc2 (kX2_readThing eM11_) (by decide) rfl rfl (Nat.le_of_ble_eq_true rfl) ?_
            refine a_goto (tgt := 141) dX2_readItem_100 (by decide) ?_
            have e9 := Option.some.inj hf
            subst e9
            exact a_vret rfl dX2_readItem_141 rfl
          · replace hf := iteF hf c116
            by_cases c119 : q2_.1 = (119 : Int32)
            · replace hf := iteT hf c119
              refine a_lookup (off := 75) (tgt := 103) dX2_readItem_28 rfl ((congrArg (fun z => Op.lookupswitch.offset _ _ (Int32.toInt z)) c119).trans rfl) (by decide) ?_
              refine a_aload_n dX2_readItem_103 rfl 2 rfl ?_
              obtain ⟨M12_, eM12_, hf⟩ := bnd hf
              refine a_callV (As := []) (rest := []) dX2_readItem_104 mfX2_readWander cvX2_67 (wX2_readWander eM12_) rc2 (kX2_readWander eM12_) (by decide) rfl rfl (Nat.le_of_ble_eq_true rfl) ?_
              refine a_goto (tgt := 141) dX2_readItem_107 (by decide) ?_
              have e9 := Option.some.inj hf
              subst e9
              exact a_vret rfl dX2_readItem_141 rfl
            · replace hf := iteF hf c119
              refine a_lookup (off := 99) (tgt := 127) dX2_readItem_28 rfl ((lv_osw c97 rfl).trans ((lv_osw c108 rfl).trans ((lv_osw c115 rfl).trans ((lv_osw c116 rfl).trans ((lv_osw c119 rfl).trans (rfl)))))) (by decide) ?_
              refine a_aload_n dX2_readItem_127 rfl 2 rfl ?_
              obtain ⟨o13_, eo13_, hf⟩ := bnd hf
              refine a_getR dX2_readItem_128 flX2_26 rfl eo13_ ?_
              refine a_aload_n dX2_readItem_131 rfl 2 rfl ?_
              refine a_iconst (v := 0) dX2_readItem_132 (by decide) ?_
              refine a_bipush (v := 7) dX2_readItem_133 (by decide) ?_
              obtain ⟨q14_, eq14_, hf⟩ := bnd hf
              refine a_callV (As := [.int ((0 : Int32)), .int ((7 : Int32))]) (rest := [.ref o13_]) dX2_readItem_135 mfX2_readNumber cvX2_70 (wX2_readNumber eq14_) rc2 (kX2_readNumber eq14_) (by decide) rfl rfl (Nat.le_of_ble_eq_true rfl) ?_
              obtain ⟨M15_, eM15_, hf⟩ := bnd hf
              refine a_putI dX2_readItem_138 fpX2_79 rfl (Or.inr nf5_3) eM15_ ?_
              have e9 := Option.some.inj hf
              subst e9
              exact a_vret rfl dX2_readItem_141 rfl
  · replace hf := iteF hf c9
    have e9 := Option.some.inj hf
    subst e9
    exact a_vret rfl dX2_readItem_26 rfl
theorem kX2_readItems {a0 : Nat} {M : Mm} {q : Int32 × Mm} (hf : fX2_readItems a0 M = some q) : (mK M a0).1 = 3 := by
  unfold fX2_readItems at hf
  obtain ⟨u0, eu0, -⟩ := bnd hf
  exact kc_of eu0
set_option maxHeartbeats 4000000 in
set_option maxRecDepth 100000 in
theorem wX2_readItems_b4 {l : Launch} {Γ : Gx} {t0 w0 : Nat} {q : Int32 × Mm} : ∀ (n : Nat) (a0 : Nat) (x1 : Int32) (x2 : Int32) (M : Mm), fX2_readItems_b4 n a0 x1 x2 M = some q → AW l Γ yX2_readItems cX2_readItems 3 ((some .int)) 7 t0 w0 4 [(0, .ref a0), (1, .int x1), (2, .int x2)] [] M (some (.int q.1)) q.2 := by
  intro n
  induction n with
  | zero =>
    intro a0 x1 x2 M hf
    cases hf
  | succ n ih =>
    intro a0 x1 x2 M hf
    rw [fX2_readItems_b4.eq_2] at hf
    refine a_iload_n dX2_readItems_4 rfl 2 rfl ?_
    refine a_sipush (v := 160) dX2_readItems_5 (by decide) ?_
    refine a_icmp_gt dX2_readItems_8 (tgt := 62) (by decide) (fun c9 => ?_) (fun c9 => ?_)
    · replace hf := iteT hf c9
      refine a_iload_n dX2_readItems_62 rfl 1 rfl ?_
      have e9 := Option.some.inj hf
      subst e9
      exact a_iret rfl dX2_readItems_63 rfl
    · replace hf := iteF hf c9
      refine a_aload_n dX2_readItems_11 rfl 0 rfl ?_
      obtain ⟨v1_, ev1_, hf⟩ := bnd hf
      refine a_getI dX2_readItems_12 flX2_15 rfl ev1_ ?_
      refine a_iconst (v := -1) dX2_readItems_15 (by decide) ?_
      refine a_icmp_ne dX2_readItems_16 (tgt := 62) (by decide) (fun c9 => ?_) (fun c9 => ?_)
      · replace hf := iteF hf c9
        refine a_iload_n dX2_readItems_62 rfl 1 rfl ?_
        have e9 := Option.some.inj hf
        subst e9
        exact a_iret rfl dX2_readItems_63 rfl
      · replace hf := iteT hf c9
        refine a_aload_n dX2_readItems_19 rfl 0 rfl ?_
        obtain ⟨M2_, eM2_, hf⟩ := bnd hf
        refine a_callV (As := []) (rest := []) dX2_readItems_20 mfX2_readItem cvX2_30 (wX2_readItem eM2_) rc2 (kX2_readItem eM2_) (by decide) rfl rfl (Nat.le_of_ble_eq_true rfl) ?_
        refine a_aload_n dX2_readItems_23 rfl 0 rfl ?_
        obtain ⟨v3_, ev3_, hf⟩ := bnd hf
        refine a_getI dX2_readItems_24 flX2_15 rfl ev3_ ?_
        refine a_iconst (v := -1) dX2_readItems_27 (by decide) ?_
        refine a_icmp_ne dX2_readItems_28 (tgt := 56) (by decide) (fun c9 => ?_) (fun c9 => ?_)
        · replace hf := iteF hf c9
          refine a_iinc (v := x2 + (1 : Int32)) (lv1 := [(2, .int (x2 + (1 : Int32))), (0, .ref a0), (1, .int x1)]) dX2_readItems_56 2 rfl rfl (by decide) rfl ?_
          refine a_goto (tgt := 4) dX2_readItems_59 (by decide) ?_
          refine AW.sub (lv1 := [(0, .ref a0), (1, .int x1), (2, .int (x2 + (1 : Int32)))]) [1, 2, 0] rfl ?_
          exact ih _ _ _ _ hf
        · replace hf := iteT hf c9
          refine a_iinc (v := x1 + (1 : Int32)) (lv1 := [(1, .int (x1 + (1 : Int32))), (0, .ref a0), (2, .int x2)]) dX2_readItems_31 1 rfl rfl (by decide) rfl ?_
          refine a_aload_n dX2_readItems_34 rfl 1 rfl ?_
          obtain ⟨v4_, ev4_, hf⟩ := bnd hf
          refine a_getI dX2_readItems_35 flX2_9 rfl ev4_ ?_
          refine a_aload_n dX2_readItems_38 rfl 1 rfl ?_
          obtain ⟨o5_, eo5_, hf⟩ := bnd hf
          refine a_getR dX2_readItems_39 flX2_22 rfl eo5_ ?_
          obtain ⟨v6_, ev6_, hf⟩ := bnd hf
          refine a_getI dX2_readItems_42 flX2_33 rfl ev6_ ?_
          refine a_icmp_lt dX2_readItems_45 (tgt := 50) (by decide) (fun c9 => ?_) (fun c9 => ?_)
          · replace hf := iteT hf c9
            refine a_aload_n dX2_readItems_50 rfl 1 rfl ?_
            refine a_bipush (v := 59) dX2_readItems_51 (by decide) ?_
            obtain ⟨M7_, eM7_, hf⟩ := bnd hf
            refine a_callV (As := [.int ((59 : Int32))]) (rest := []) dX2_readItems_53 mfX2_pass cvX2_38 (wX2_pass eM7_) rc2 (kX2_pass eM7_) (by decide) rfl rfl (Nat.le_of_ble_eq_true rfl) ?_
            refine a_iinc (v := x2 + (1 : Int32)) (lv1 := [(2, .int (x2 + (1 : Int32))), (1, .int (x1 + (1 : Int32))), (0, .ref a0)]) dX2_readItems_56 2 rfl rfl (by decide) rfl ?_
            refine a_goto (tgt := 4) dX2_readItems_59 (by decide) ?_
            refine AW.sub (lv1 := [(0, .ref a0), (1, .int (x1 + (1 : Int32))), (2, .int (x2 + (1 : Int32)))]) [2, 1, 0] rfl ?_
            exact ih _ _ _ _ hf
          · replace hf := iteF hf c9
            refine a_iload_n dX2_readItems_48 rfl 0 rfl ?_
            have e9 := Option.some.inj hf
            subst e9
            exact a_iret rfl dX2_readItems_49 rfl
set_option maxHeartbeats 4000000 in
set_option maxRecDepth 100000 in
theorem wX2_readItems {l : Launch} {Γ : Gx} {a0 : Nat} {M : Mm} {q : Int32 × Mm} (hf : fX2_readItems a0 M = some q) : AM l Γ 7 yX2_readItems cX2_readItems 3 ((some .int)) [.ref a0] M (some (.int q.1)) q.2 := by
  unfold fX2_readItems at hf
  refine AM.of mfX2_readItems (Nat.le_of_ble_eq_true rfl) ?_
  generalize mT M = t0
  generalize mW M = w0
  show AW _ _ _ _ _ _ _ _ _ 0 [(0, .ref a0)] [] _ _ _
  obtain ⟨u0, eu0, hf⟩ := bnd hf
  refine a_iconst (v := 0) dX2_readItems_0 (by decide) ?_
  refine a_istore_n (i := 1) (lv1 := [(1, .int ((0 : Int32))), (0, .ref a0)]) dX2_readItems_1 rfl (by decide) rfl ?_
  refine a_iconst (v := 0) dX2_readItems_2 (by decide) ?_
  refine a_istore_n (i := 2) (lv1 := [(2, .int ((0 : Int32))), (1, .int ((0 : Int32))), (0, .ref a0)]) dX2_readItems_3 rfl (by decide) rfl ?_
  refine AW.sub (lv1 := [(0, .ref a0), (1, .int ((0 : Int32))), (2, .int ((0 : Int32)))]) [2, 1, 0] rfl ?_
  exact wX2_readItems_b4 _ _ _ _ _ hf
theorem kX0_becomeSure {a0 : Nat} {x1 : Int32} {M : Mm} {q : Mm} (hf : fX0_becomeSure a0 x1 M = some q) : (mK M a0).1 = 1 := by
  unfold fX0_becomeSure at hf
  obtain ⟨u0, eu0, -⟩ := bnd hf
  exact kc_of eu0
set_option maxHeartbeats 4000000 in
set_option maxRecDepth 100000 in
theorem wX0_becomeSure_b2 {l : Launch} {Γ : Gx} {t0 w0 : Nat} {q : Mm} : ∀ (n : Nat) (a0 : Nat) (x1 : Int32) (x2 : Int32) (M : Mm), fX0_becomeSure_b2 n a0 x1 x2 M = some q → AW l Γ yX0_becomeSure cX0_becomeSure 3 (none) 1 t0 w0 2 [(0, .ref a0), (1, .int x1), (2, .int x2)] [] M none q := by
  intro n
  induction n with
  | zero =>
    intro a0 x1 x2 M hf
    cases hf
  | succ n ih =>
    intro a0 x1 x2 M hf
    rw [fX0_becomeSure_b2.eq_2] at hf
    refine a_iload_n dX0_becomeSure_2 rfl 2 rfl ?_
    refine a_bipush (v := 24) dX0_becomeSure_3 (by decide) ?_
    refine a_icmp_ge dX0_becomeSure_5 (tgt := 30) (by decide) (fun c9 => ?_) (fun c9 => ?_)
    · replace hf := iteT hf c9
      have e9 := Option.some.inj hf
      subst e9
      exact a_vret rfl dX0_becomeSure_30 rfl
    · replace hf := iteF hf c9
      refine a_aload_n dX0_becomeSure_8 rfl 0 rfl ?_
      obtain ⟨o1_, eo1_, hf⟩ := bnd hf
      refine a_getR dX0_becomeSure_9 flX0_9 rfl eo1_ ?_
      refine a_iload_n dX0_becomeSure_12 rfl 2 rfl ?_
      refine a_iload_n dX0_becomeSure_13 rfl 2 rfl ?_
      refine a_iload_n dX0_becomeSure_14 rfl 1 rfl ?_
      refine a_icmp_ne dX0_becomeSure_15 (tgt := 22) (by decide) (fun c9 => ?_) (fun c9 => ?_)
      · replace hf := iteF hf c9
        refine a_lconst (v := 0) dX0_becomeSure_22 rfl ?_
        obtain ⟨M2_, eM2_, hf⟩ := bnd hf
        refine a_last dX0_becomeSure_23 eM2_ ?_
        refine a_iinc (v := x2 + (1 : Int32)) (lv1 := [(2, .int (x2 + (1 : Int32))), (0, .ref a0), (1, .int x1)]) dX0_becomeSure_24 2 rfl rfl (by decide) rfl ?_
        refine a_goto (tgt := 2) dX0_becomeSure_27 (by decide) ?_
        refine AW.sub (lv1 := [(0, .ref a0), (1, .int x1), (2, .int (x2 + (1 : Int32)))]) [1, 2, 0] rfl ?_
        exact ih _ _ _ _ hf
      · replace hf := iteT hf c9
        refine a_lconst (v := 1) dX0_becomeSure_18 rfl ?_
        refine a_goto (tgt := 23) dX0_becomeSure_19 (by decide) ?_
        obtain ⟨M3_, eM3_, hf⟩ := bnd hf
        refine a_last dX0_becomeSure_23 eM3_ ?_
        refine a_iinc (v := x2 + (1 : Int32)) (lv1 := [(2, .int (x2 + (1 : Int32))), (0, .ref a0), (1, .int x1)]) dX0_becomeSure_24 2 rfl rfl (by decide) rfl ?_
        refine a_goto (tgt := 2) dX0_becomeSure_27 (by decide) ?_
        refine AW.sub (lv1 := [(0, .ref a0), (1, .int x1), (2, .int (x2 + (1 : Int32)))]) [1, 2, 0] rfl ?_
        exact ih _ _ _ _ hf
set_option maxHeartbeats 4000000 in
set_option maxRecDepth 100000 in
theorem wX0_becomeSure {l : Launch} {Γ : Gx} {a0 : Nat} {x1 : Int32} {M : Mm} {q : Mm} (hf : fX0_becomeSure a0 x1 M = some q) : AM l Γ 1 yX0_becomeSure cX0_becomeSure 3 (none) [.ref a0, .int x1] M none q := by
  unfold fX0_becomeSure at hf
  refine AM.of mfX0_becomeSure (Nat.le_of_ble_eq_true rfl) ?_
  generalize mT M = t0
  generalize mW M = w0
  show AW _ _ _ _ _ _ _ _ _ 0 [(0, .ref a0), (1, .int x1)] [] _ _ _
  obtain ⟨u0, eu0, hf⟩ := bnd hf
  refine a_iconst (v := 0) dX0_becomeSure_0 (by decide) ?_
  refine a_istore_n (i := 2) (lv1 := [(2, .int ((0 : Int32))), (0, .ref a0), (1, .int x1)]) dX0_becomeSure_1 rfl (by decide) rfl ?_
  refine AW.sub (lv1 := [(0, .ref a0), (1, .int x1), (2, .int ((0 : Int32)))]) [1, 2, 0] rfl ?_
  exact wX0_becomeSure_b2 _ _ _ _ _ hf
theorem kX5_knowCell {a0 : Nat} {x1 : Int32} {M : Mm} {q : Mm} (hf : fX5_knowCell a0 x1 M = some q) : (mK M a0).1 = 6 := by
  unfold fX5_knowCell at hf
  obtain ⟨u0, eu0, -⟩ := bnd hf
  exact kc_of eu0
set_option maxHeartbeats 4000000 in
set_option maxRecDepth 100000 in
theorem wX5_knowCell {l : Launch} {Γ : Gx} {a0 : Nat} {x1 : Int32} {M : Mm} {q : Mm} (hf : fX5_knowCell a0 x1 M = some q) : AM l Γ 2 yX5_knowCell cX5_knowCell 2 (none) [.ref a0, .int x1] M none q := by
  unfold fX5_knowCell at hf
  refine AM.of mfX5_knowCell (Nat.le_of_ble_eq_true rfl) ?_
  generalize mT M = t0
  generalize mW M = w0
  show AW _ _ _ _ _ _ _ _ _ 0 [(0, .ref a0), (1, .int x1)] [] _ _ _
  obtain ⟨u0, eu0, hf⟩ := bnd hf
  refine a_aload_n dX5_knowCell_0 rfl 0 rfl ?_
  obtain ⟨o1_, eo1_, hf⟩ := bnd hf
  refine a_getR dX5_knowCell_1 flX5_52 rfl eo1_ ?_
  refine a_iload_n dX5_knowCell_4 rfl 1 rfl ?_
  obtain ⟨M2_, eM2_, hf⟩ := bnd hf
  refine a_callV (As := [.int x1]) (rest := []) dX5_knowCell_5 mfX0_becomeSure cvX5_126 (wX0_becomeSure eM2_) rc0 (kX0_becomeSure eM2_) (by decide) rfl rfl (Nat.le_of_ble_eq_true rfl) ?_
  refine a_aload_n dX5_knowCell_8 rfl 0 rfl ?_
  refine a_iconst (v := 0) dX5_knowCell_9 (by decide) ?_
  obtain ⟨M3_, eM3_, hf⟩ := bnd hf
  refine a_putI dX5_knowCell_10 fpX5_59 rfl (Or.inr nf5_12) eM3_ ?_
  refine a_aload_n dX5_knowCell_13 rfl 0 rfl ?_
  refine a_iconst (v := 0) dX5_knowCell_14 (by decide) ?_
  obtain ⟨M4_, eM4_, hf⟩ := bnd hf
  refine a_putI dX5_knowCell_15 fpX5_56 rfl (Or.inr nf5_11) eM4_ ?_
  have e9 := Option.some.inj hf
  subst e9
  exact a_vret rfl dX5_knowCell_18 rfl
theorem kX0_all {a0 : Nat} {M : Mm} {q : Int64 × Mm} (hf : fX0_all a0 M = some q) : (mK M a0).1 = 1 := by
  unfold fX0_all at hf
  obtain ⟨u0, eu0, -⟩ := bnd hf
  exact kc_of eu0
set_option maxHeartbeats 4000000 in
set_option maxRecDepth 100000 in
theorem wX0_all_b4 {l : Launch} {Γ : Gx} {t0 w0 : Nat} {q : Int64 × Mm} : ∀ (n : Nat) (a0 : Nat) (x1 : Int64) (x3 : Int32) (M : Mm), fX0_all_b4 n a0 x1 x3 M = some q → AW l Γ yX0_all cX0_all 4 ((some .long)) 1 t0 w0 4 [(0, .ref a0), (1, .long x1), (3, .int x3)] [] M (some (.long q.1)) q.2 := by
  intro n
  induction n with
  | zero =>
    intro a0 x1 x3 M hf
    cases hf
  | succ n ih =>
    intro a0 x1 x3 M hf
    rw [fX0_all_b4.eq_2] at hf
    refine a_iload_n dX0_all_4 rfl 2 rfl ?_
    refine a_bipush (v := 24) dX0_all_5 (by decide) ?_
    refine a_icmp_ge dX0_all_7 (tgt := 25) (by decide) (fun c9 => ?_) (fun c9 => ?_)
    · replace hf := iteT hf c9
      refine a_lload_n dX0_all_25 rfl 1 rfl ?_
      have e9 := Option.some.inj hf
      subst e9
      exact a_lret rfl dX0_all_26 rfl
    · replace hf := iteF hf c9
      refine a_lload_n dX0_all_10 rfl 1 rfl ?_
      refine a_aload_n dX0_all_11 rfl 0 rfl ?_
      obtain ⟨o1_, eo1_, hf⟩ := bnd hf
      refine a_getR dX0_all_12 flX0_9 rfl eo1_ ?_
      refine a_iload_n dX0_all_15 rfl 2 rfl ?_
      obtain ⟨v2_, ev2_, hf⟩ := bnd hf
      refine a_lald dX0_all_16 ev2_ ?_
      refine a_ladd dX0_all_17 ?_
      refine a_lstore_n (i := 1) (lv1 := [(1, .long (x1 + v2_)), (0, .ref a0), (3, .int x3)]) dX0_all_18 rfl (by decide) rfl ?_
      refine a_iinc (v := x3 + (1 : Int32)) (lv1 := [(3, .int (x3 + (1 : Int32))), (1, .long (x1 + v2_)), (0, .ref a0)]) dX0_all_19 2 rfl rfl (by decide) rfl ?_
      refine a_goto (tgt := 4) dX0_all_22 (by decide) ?_
      refine AW.sub (lv1 := [(0, .ref a0), (1, .long (x1 + v2_)), (3, .int (x3 + (1 : Int32)))]) [2, 1, 0] rfl ?_
      exact ih _ _ _ _ hf
set_option maxHeartbeats 4000000 in
set_option maxRecDepth 100000 in
theorem wX0_all {l : Launch} {Γ : Gx} {a0 : Nat} {M : Mm} {q : Int64 × Mm} (hf : fX0_all a0 M = some q) : AM l Γ 1 yX0_all cX0_all 4 ((some .long)) [.ref a0] M (some (.long q.1)) q.2 := by
  unfold fX0_all at hf
  refine AM.of mfX0_all (Nat.le_of_ble_eq_true rfl) ?_
  generalize mT M = t0
  generalize mW M = w0
  show AW _ _ _ _ _ _ _ _ _ 0 [(0, .ref a0)] [] _ _ _
  obtain ⟨u0, eu0, hf⟩ := bnd hf
  refine a_lconst (v := 0) dX0_all_0 rfl ?_
  refine a_lstore_n (i := 1) (lv1 := [(1, .long ((0 : Int64))), (0, .ref a0)]) dX0_all_1 rfl (by decide) rfl ?_
  refine a_iconst (v := 0) dX0_all_2 (by decide) ?_
  refine a_istore_n (i := 3) (lv1 := [(3, .int ((0 : Int32))), (1, .long ((0 : Int64))), (0, .ref a0)]) dX0_all_3 rfl (by decide) rfl ?_
  refine AW.sub (lv1 := [(0, .ref a0), (1, .long ((0 : Int64))), (3, .int ((0 : Int32)))]) [2, 1, 0] rfl ?_
  exact wX0_all_b4 _ _ _ _ _ hf
theorem kX0_at {a0 : Nat} {x1 : Int32} {M : Mm} {q : Int64 × Mm} (hf : fX0_at a0 x1 M = some q) : (mK M a0).1 = 1 := by
  unfold fX0_at at hf
  obtain ⟨u0, eu0, -⟩ := bnd hf
  exact kc_of eu0
set_option maxHeartbeats 4000000 in
set_option maxRecDepth 100000 in
theorem wX0_at {l : Launch} {Γ : Gx} {a0 : Nat} {x1 : Int32} {M : Mm} {q : Int64 × Mm} (hf : fX0_at a0 x1 M = some q) : AM l Γ 1 yX0_at cX0_at 2 ((some .long)) [.ref a0, .int x1] M (some (.long q.1)) q.2 := by
  unfold fX0_at at hf
  refine AM.of mfX0_at (Nat.le_of_ble_eq_true rfl) ?_
  generalize mT M = t0
  generalize mW M = w0
  show AW _ _ _ _ _ _ _ _ _ 0 [(0, .ref a0), (1, .int x1)] [] _ _ _
  obtain ⟨u0, eu0, hf⟩ := bnd hf
  refine a_iload_n dX0_at_0 rfl 1 rfl ?_
  refine a_if_lt dX0_at_1 (tgt := 10) (by decide) (fun c9 => ?_) (fun c9 => ?_)
  · replace hf := iteT hf c9
    refine a_lconst (v := 0) dX0_at_10 rfl ?_
    refine a_goto (tgt := 20) dX0_at_11 (by decide) ?_
    have e9 := Option.some.inj hf
    subst e9
    exact a_lret rfl dX0_at_20 rfl
  · replace hf := iteF hf c9
    refine a_iload_n dX0_at_4 rfl 1 rfl ?_
    refine a_bipush (v := 24) dX0_at_5 (by decide) ?_
    refine a_icmp_lt dX0_at_7 (tgt := 14) (by decide) (fun c9 => ?_) (fun c9 => ?_)
    · replace hf := iteT hf c9
      refine a_aload_n dX0_at_14 rfl 0 rfl ?_
      obtain ⟨o1_, eo1_, hf⟩ := bnd hf
      refine a_getR dX0_at_15 flX0_9 rfl eo1_ ?_
      refine a_iload_n dX0_at_18 rfl 1 rfl ?_
      obtain ⟨v2_, ev2_, hf⟩ := bnd hf
      refine a_lald dX0_at_19 ev2_ ?_
      have e9 := Option.some.inj hf
      subst e9
      exact a_lret rfl dX0_at_20 rfl
    · replace hf := iteF hf c9
      refine a_lconst (v := 0) dX0_at_10 rfl ?_
      refine a_goto (tgt := 20) dX0_at_11 (by decide) ?_
      have e9 := Option.some.inj hf
      subst e9
      exact a_lret rfl dX0_at_20 rfl
theorem kX0_move {a0 : Nat} {x1 : Int32} {x2 : Int32} {x3 : Int32} {M : Mm} {q : Mm} (hf : fX0_move a0 x1 x2 x3 M = some q) : (mK M a0).1 = 1 := by
  unfold fX0_move at hf
  obtain ⟨u0, eu0, -⟩ := bnd hf
  exact kc_of eu0
set_option maxHeartbeats 4000000 in
set_option maxRecDepth 100000 in
theorem wX0_move {l : Launch} {Γ : Gx} {a0 : Nat} {x1 : Int32} {x2 : Int32} {x3 : Int32} {M : Mm} {q : Mm} (hf : fX0_move a0 x1 x2 x3 M = some q) : AM l Γ 2 yX0_move cX0_move 4 (none) [.ref a0, .int x1, .int x2, .int x3] M none q := by
  unfold fX0_move at hf
  refine AM.of mfX0_move (Nat.le_of_ble_eq_true rfl) ?_
  generalize mT M = t0
  generalize mW M = w0
  show AW _ _ _ _ _ _ _ _ _ 0 [(0, .ref a0), (1, .int x1), (2, .int x2), (3, .int x3)] [] _ _ _
  obtain ⟨u0, eu0, hf⟩ := bnd hf
  refine a_iload_n dX0_move_0 rfl 2 rfl ?_
  refine a_if_lt dX0_move_1 (tgt := 27) (by decide) (fun c9 => ?_) (fun c9 => ?_)
  · replace hf := iteT hf c9
    have e9 := Option.some.inj hf
    subst e9
    exact a_vret rfl dX0_move_27 rfl
  · replace hf := iteF hf c9
    refine a_iload_n dX0_move_4 rfl 2 rfl ?_
    refine a_bipush (v := 24) dX0_move_5 (by decide) ?_
    refine a_icmp_ge dX0_move_7 (tgt := 27) (by decide) (fun c9 => ?_) (fun c9 => ?_)
    · replace hf := iteT hf c9
      have e9 := Option.some.inj hf
      subst e9
      exact a_vret rfl dX0_move_27 rfl
    · replace hf := iteF hf c9
      refine a_aload_n dX0_move_10 rfl 0 rfl ?_
      obtain ⟨o1_, eo1_, hf⟩ := bnd hf
      refine a_getR dX0_move_11 flX0_15 rfl eo1_ ?_
      refine a_iload_n dX0_move_14 rfl 2 rfl ?_
      refine a_dup2 dX0_move_15 rfl rfl ?_
      obtain ⟨v2_, ev2_, hf⟩ := bnd hf
      refine a_lald dX0_move_16 ev2_ ?_
      refine a_aload_n dX0_move_17 rfl 0 rfl ?_
      refine a_iload_n dX0_move_18 rfl 1 rfl ?_
      obtain ⟨q3_, eq3_, hf⟩ := bnd hf
      refine a_callV (As := [.int x1]) (rest := [.long v2_, .int x2, .ref o1_]) dX0_move_19 mfX0_at cvX0_24 (wX0_at eq3_) rc0 (kX0_at eq3_) (by decide) rfl rfl (Nat.le_of_ble_eq_true rfl) ?_
      refine a_iload_n dX0_move_22 rfl 3 rfl ?_
      refine a_i2l dX0_move_23 ?_
      refine a_lmul dX0_move_24 ?_
      refine a_ladd dX0_move_25 ?_
      obtain ⟨M4_, eM4_, hf⟩ := bnd hf
      refine a_last dX0_move_26 eM4_ ?_
      have e9 := Option.some.inj hf
      subst e9
      exact a_vret rfl dX0_move_27 rfl
theorem kX5_reach {a0 : Nat} {x1 : Int32} {x2 : Int32} {M : Mm} {q : Int32 × Mm} (hf : fX5_reach a0 x1 x2 M = some q) : (mK M a0).1 = 6 := by
  unfold fX5_reach at hf
  obtain ⟨u0, eu0, -⟩ := bnd hf
  exact kc_of eu0
set_option maxHeartbeats 4000000 in
set_option maxRecDepth 100000 in
theorem wX5_reach {l : Launch} {Γ : Gx} {a0 : Nat} {x1 : Int32} {x2 : Int32} {M : Mm} {q : Int32 × Mm} (hf : fX5_reach a0 x1 x2 M = some q) : AM l Γ 1 yX5_reach cX5_reach 3 ((some .int)) [.ref a0, .int x1, .int x2] M (some (.int q.1)) q.2 := by
  unfold fX5_reach at hf
  refine AM.of mfX5_reach (Nat.le_of_ble_eq_true rfl) ?_
  generalize mT M = t0
  generalize mW M = w0
  show AW _ _ _ _ _ _ _ _ _ 0 [(0, .ref a0), (1, .int x1), (2, .int x2)] [] _ _ _
  obtain ⟨u0, eu0, hf⟩ := bnd hf
  refine a_iconst (v := 0) dX5_reach_0 (by decide) ?_
  refine a_aload_n dX5_reach_1 rfl 0 rfl ?_
  obtain ⟨v1_, ev1_, hf⟩ := bnd hf
  refine a_getI dX5_reach_2 flX5_9 rfl ev1_ ?_
  refine a_iconst (v := 1) dX5_reach_5 (by decide) ?_
  refine a_isub dX5_reach_6 ?_
  refine a_iload_n dX5_reach_7 rfl 1 rfl ?_
  refine a_iload_n dX5_reach_8 rfl 2 rfl ?_
  refine a_iadd dX5_reach_9 ?_
  refine a_mmin dX5_reach_10 wmX5_91 wma_mnI (by decide) (Nat.le_of_ble_eq_true rfl) ?_
  refine a_mmax dX5_reach_13 wmX5_85 wma_mxI (by decide) (Nat.le_of_ble_eq_true rfl) ?_
  have e9 := Option.some.inj hf
  subst e9
  exact a_iret rfl dX5_reach_16 rfl
theorem kX0_endMoves {a0 : Nat} {M : Mm} {q : Mm} (hf : fX0_endMoves a0 M = some q) : (mK M a0).1 = 1 := by
  unfold fX0_endMoves at hf
  obtain ⟨u0, eu0, -⟩ := bnd hf
  exact kc_of eu0
set_option maxHeartbeats 4000000 in
set_option maxRecDepth 100000 in
theorem wX0_endMoves {l : Launch} {Γ : Gx} {a0 : Nat} {M : Mm} {q : Mm} (hf : fX0_endMoves a0 M = some q) : AM l Γ 2 yX0_endMoves cX0_endMoves 1 (none) [.ref a0] M none q := by
  unfold fX0_endMoves at hf
  refine AM.of mfX0_endMoves (Nat.le_of_ble_eq_true rfl) ?_
  generalize mT M = t0
  generalize mW M = w0
  show AW _ _ _ _ _ _ _ _ _ 0 [(0, .ref a0)] [] _ _ _
  obtain ⟨u0, eu0, hf⟩ := bnd hf
  refine a_aload_n dX0_endMoves_0 rfl 0 rfl ?_
  obtain ⟨o1_, eo1_, hf⟩ := bnd hf
  refine a_getR dX0_endMoves_1 flX0_15 rfl eo1_ ?_
  refine a_iconst (v := 0) dX0_endMoves_4 (by decide) ?_
  refine a_aload_n dX0_endMoves_5 rfl 0 rfl ?_
  obtain ⟨o2_, eo2_, hf⟩ := bnd hf
  refine a_getR dX0_endMoves_6 flX0_9 rfl eo2_ ?_
  refine a_iconst (v := 0) dX0_endMoves_9 (by decide) ?_
  refine a_bipush (v := 24) dX0_endMoves_10 (by decide) ?_
  obtain ⟨M3_, eM3_, hf⟩ := bnd hf
  refine a_copyJ dX0_endMoves_12 ⟨wmX0_18, wac_n, wac_s, wac_i⟩ eM3_ (by decide) (Nat.le_of_ble_eq_true rfl) ?_
  refine a_aload_n dX0_endMoves_15 rfl 0 rfl ?_
  obtain ⟨o4_, eo4_, hf⟩ := bnd hf
  refine a_getR dX0_endMoves_16 flX0_15 rfl eo4_ ?_
  refine a_lconst (v := 0) dX0_endMoves_19 rfl ?_
  obtain ⟨M5_, eM5_, hf⟩ := bnd hf
  refine a_callS (As := [.ref o4_, .long ((0 : Int64))]) (rest := []) dX0_endMoves_20 mfJ7_fill_d0a16 csX0_28 (wJ7_fill_d0a16 eM5_) (by decide) rfl rfl (Nat.le_of_ble_eq_true rfl) ?_
  have e9 := Option.some.inj hf
  subst e9
  exact a_vret rfl dX0_endMoves_23 rfl
set_option maxHeartbeats 4000000 in
set_option maxRecDepth 100000 in
theorem wX0_commonPart_b9 {l : Launch} {Γ : Gx} {t0 w0 : Nat} {q : Int64 × Mm} : ∀ (n : Nat) (x4 : Int64) (x6 : Int64) (x8 : Int32) (M : Mm), fX0_commonPart_b9 n x4 x6 x8 M = some q → AW l Γ yX0_commonPart cX0_commonPart 11 ((some .long)) 1 t0 w0 9 [(4, .long x4), (6, .long x6), (8, .int x8)] [] M (some (.long q.1)) q.2 := by
  intro n
  induction n with
  | zero =>
    intro x4 x6 x8 M hf
    cases hf
  | succ n ih =>
    intro x4 x6 x8 M hf
    rw [fX0_commonPart_b9.eq_2] at hf
    refine a_iload dX0_commonPart_9 2 rfl ?_
    refine a_sipush (v := 200) dX0_commonPart_11 (by decide) ?_
    refine a_icmp_ge dX0_commonPart_14 (tgt := 45) (by decide) (fun c9 => ?_) (fun c9 => ?_)
    · replace hf := iteT hf c9
      refine a_lload dX0_commonPart_45 0 rfl ?_
      have e9 := Option.some.inj hf
      subst e9
      exact a_lret rfl dX0_commonPart_47 rfl
    · replace hf := iteF hf c9
      refine a_lload dX0_commonPart_17 1 rfl ?_
      refine a_lconst (v := 0) dX0_commonPart_19 rfl ?_
      refine a_lcmp_eq dX0_commonPart_20 dX0_commonPart_21 (tgt := 45) (by decide) (fun c9 => ?_) (fun c9 => ?_)
      · replace hf := iteT hf c9
        refine a_lload dX0_commonPart_45 0 rfl ?_
        have e9 := Option.some.inj hf
        subst e9
        exact a_lret rfl dX0_commonPart_47 rfl
      · replace hf := iteF hf c9
        refine a_lload dX0_commonPart_24 0 rfl ?_
        refine a_lload dX0_commonPart_26 1 rfl ?_
        obtain ⟨z1_, ez1_, hf⟩ := bnd hf
        refine a_lrem dX0_commonPart_28 ez1_ ?_
        refine a_lstore (i := 9) (lv1 := [(9, .long z1_), (4, .long x4), (6, .long x6), (8, .int x8)]) dX0_commonPart_29 (by decide) rfl ?_
        refine a_lload dX0_commonPart_31 2 rfl ?_
        refine a_lstore (i := 4) (lv1 := [(4, .long x6), (9, .long z1_), (6, .long x6), (8, .int x8)]) dX0_commonPart_33 (by decide) rfl ?_
        refine a_lload dX0_commonPart_35 1 rfl ?_
        refine a_lstore (i := 6) (lv1 := [(6, .long z1_), (4, .long x6), (9, .long z1_), (8, .int x8)]) dX0_commonPart_37 (by decide) rfl ?_
        refine a_iinc (v := x8 + (1 : Int32)) (lv1 := [(8, .int (x8 + (1 : Int32))), (6, .long z1_), (4, .long x6), (9, .long z1_)]) dX0_commonPart_39 3 rfl rfl (by decide) rfl ?_
        refine a_goto (tgt := 9) dX0_commonPart_42 (by decide) ?_
        refine AW.sub (lv1 := [(4, .long x6), (6, .long z1_), (8, .int (x8 + (1 : Int32)))]) [2, 1, 0] rfl ?_
        exact ih _ _ _ _ hf
set_option maxHeartbeats 4000000 in
set_option maxRecDepth 100000 in
theorem wX0_commonPart {l : Launch} {Γ : Gx} {x0 : Int64} {x2 : Int64} {M : Mm} {q : Int64 × Mm} (hf : fX0_commonPart x0 x2 M = some q) : AM l Γ 1 yX0_commonPart cX0_commonPart 11 ((some .long)) [.long x0, .long x2] M (some (.long q.1)) q.2 := by
  unfold fX0_commonPart at hf
  refine AM.of mfX0_commonPart (Nat.le_of_ble_eq_true rfl) ?_
  generalize mT M = t0
  generalize mW M = w0
  show AW _ _ _ _ _ _ _ _ _ 0 [(0, .long x0), (2, .long x2)] [] _ _ _
  refine a_lload_n dX0_commonPart_0 rfl 0 rfl ?_
  refine a_lstore (i := 4) (lv1 := [(4, .long x0), (0, .long x0), (2, .long x2)]) dX0_commonPart_1 (by decide) rfl ?_
  refine a_lload_n dX0_commonPart_3 rfl 2 rfl ?_
  refine a_lstore (i := 6) (lv1 := [(6, .long x2), (4, .long x0), (0, .long x0), (2, .long x2)]) dX0_commonPart_4 (by decide) rfl ?_
  refine a_iconst (v := 0) dX0_commonPart_6 (by decide) ?_
  refine a_istore (i := 8) (lv1 := [(8, .int ((0 : Int32))), (6, .long x2), (4, .long x0), (0, .long x0), (2, .long x2)]) dX0_commonPart_7 (by decide) rfl ?_
  refine AW.sub (lv1 := [(4, .long x0), (6, .long x2), (8, .int ((0 : Int32)))]) [2, 1, 0] rfl ?_
  exact wX0_commonPart_b9 _ _ _ _ _ hf
theorem kX0_lessen {a0 : Nat} {M : Mm} {q : Mm} (hf : fX0_lessen a0 M = some q) : (mK M a0).1 = 1 := by
  unfold fX0_lessen at hf
  obtain ⟨u0, eu0, -⟩ := bnd hf
  exact kc_of eu0
set_option maxHeartbeats 4000000 in
set_option maxRecDepth 100000 in
theorem wX0_lessen_b35 {l : Launch} {Γ : Gx} {t0 w0 : Nat} {q : Mm} : ∀ (n : Nat) (a0 : Nat) (x1 : Int64) (x3 : Int32) (M : Mm), fX0_lessen_b35 n a0 x1 x3 M = some q → AW l Γ yX0_lessen cX0_lessen 4 (none) 2 t0 w0 35 [(0, .ref a0), (1, .long x1), (3, .int x3)] [] M none q := by
  intro n
  induction n with
  | zero =>
    intro a0 x1 x3 M hf
    cases hf
  | succ n ih =>
    intro a0 x1 x3 M hf
    rw [fX0_lessen_b35.eq_2] at hf
    refine a_iload_n dX0_lessen_35 rfl 2 rfl ?_
    refine a_bipush (v := 24) dX0_lessen_36 (by decide) ?_
    refine a_icmp_ge dX0_lessen_38 (tgt := 63) (by decide) (fun c9 => ?_) (fun c9 => ?_)
    · replace hf := iteT hf c9
      have e9 := Option.some.inj hf
      subst e9
      exact a_vret rfl dX0_lessen_63 rfl
    · replace hf := iteF hf c9
      refine a_lload_n dX0_lessen_41 rfl 1 rfl ?_
      refine a_lconst (v := 1) dX0_lessen_42 rfl ?_
      refine a_lcmp_le dX0_lessen_43 dX0_lessen_44 (tgt := 63) (by decide) (fun c9 => ?_) (fun c9 => ?_)
      · replace hf := iteT hf c9
        have e9 := Option.some.inj hf
        subst e9
        exact a_vret rfl dX0_lessen_63 rfl
      · replace hf := iteF hf c9
        refine a_aload_n dX0_lessen_47 rfl 0 rfl ?_
        obtain ⟨o1_, eo1_, hf⟩ := bnd hf
        refine a_getR dX0_lessen_48 flX0_9 rfl eo1_ ?_
        refine a_iload_n dX0_lessen_51 rfl 2 rfl ?_
        refine a_dup2 dX0_lessen_52 rfl rfl ?_
        obtain ⟨v2_, ev2_, hf⟩ := bnd hf
        refine a_lald dX0_lessen_53 ev2_ ?_
        refine a_lload_n dX0_lessen_54 rfl 1 rfl ?_
        obtain ⟨z3_, ez3_, hf⟩ := bnd hf
        refine a_ldiv dX0_lessen_55 ez3_ ?_
        obtain ⟨M4_, eM4_, hf⟩ := bnd hf
        refine a_last dX0_lessen_56 eM4_ ?_
        refine a_iinc (v := x3 + (1 : Int32)) (lv1 := [(3, .int (x3 + (1 : Int32))), (0, .ref a0), (1, .long x1)]) dX0_lessen_57 2 rfl rfl (by decide) rfl ?_
        refine a_goto (tgt := 35) dX0_lessen_60 (by decide) ?_
        refine AW.sub (lv1 := [(0, .ref a0), (1, .long x1), (3, .int (x3 + (1 : Int32)))]) [1, 2, 0] rfl ?_
        exact ih _ _ _ _ hf
set_option maxHeartbeats 4000000 in
set_option maxRecDepth 100000 in
theorem wX0_lessen_b4 {l : Launch} {Γ : Gx} {t0 w0 : Nat} {q : Mm} : ∀ (n : Nat) (a0 : Nat) (x1 : Int64) (x3 : Int32) (M : Mm), fX0_lessen_b4 n a0 x1 x3 M = some q → AW l Γ yX0_lessen cX0_lessen 4 (none) 2 t0 w0 4 [(0, .ref a0), (1, .long x1), (3, .int x3)] [] M none q := by
  intro n
  induction n with
  | zero =>
    intro a0 x1 x3 M hf
    cases hf
  | succ n ih =>
    intro a0 x1 x3 M hf
    rw [fX0_lessen_b4.eq_2] at hf
    refine a_iload_n dX0_lessen_4 rfl 2 rfl ?_
    refine a_bipush (v := 24) dX0_lessen_5 (by decide) ?_
    refine a_icmp_ge dX0_lessen_7 (tgt := 33) (by decide) (fun c9 => ?_) (fun c9 => ?_)
    · replace hf := iteT hf c9
      refine a_iconst (v := 0) dX0_lessen_33 (by decide) ?_
      refine a_istore_n (i := 3) (lv1 := [(3, .int ((0 : Int32))), (0, .ref a0), (1, .long x1)]) dX0_lessen_34 rfl (by decide) rfl ?_
      refine AW.sub (lv1 := [(0, .ref a0), (1, .long x1), (3, .int ((0 : Int32)))]) [1, 2, 0] rfl ?_
      exact wX0_lessen_b35 _ _ _ _ _ hf
    · replace hf := iteF hf c9
      refine a_lload_n dX0_lessen_10 rfl 1 rfl ?_
      refine a_lconst (v := 1) dX0_lessen_11 rfl ?_
      refine a_lcmp_eq dX0_lessen_12 dX0_lessen_13 (tgt := 33) (by decide) (fun c9 => ?_) (fun c9 => ?_)
      · replace hf := iteT hf c9
        refine a_iconst (v := 0) dX0_lessen_33 (by decide) ?_
        refine a_istore_n (i := 3) (lv1 := [(3, .int ((0 : Int32))), (0, .ref a0), (1, .long x1)]) dX0_lessen_34 rfl (by decide) rfl ?_
        refine AW.sub (lv1 := [(0, .ref a0), (1, .long x1), (3, .int ((0 : Int32)))]) [1, 2, 0] rfl ?_
        exact wX0_lessen_b35 _ _ _ _ _ hf
      · replace hf := iteF hf c9
        refine a_lload_n dX0_lessen_16 rfl 1 rfl ?_
        refine a_aload_n dX0_lessen_17 rfl 0 rfl ?_
        obtain ⟨o1_, eo1_, hf⟩ := bnd hf
        refine a_getR dX0_lessen_18 flX0_9 rfl eo1_ ?_
        refine a_iload_n dX0_lessen_21 rfl 2 rfl ?_
        obtain ⟨v2_, ev2_, hf⟩ := bnd hf
        refine a_lald dX0_lessen_22 ev2_ ?_
        obtain ⟨q3_, eq3_, hf⟩ := bnd hf
        refine a_callS (As := [.long x1, .long v2_]) (rest := []) dX0_lessen_23 mfX0_commonPart csX0_34 (wX0_commonPart eq3_) (by decide) rfl rfl (Nat.le_of_ble_eq_true rfl) ?_
        refine a_lstore_n (i := 1) (lv1 := [(1, .long q3_.1), (0, .ref a0), (3, .int x3)]) dX0_lessen_26 rfl (by decide) rfl ?_
        refine a_iinc (v := x3 + (1 : Int32)) (lv1 := [(3, .int (x3 + (1 : Int32))), (1, .long q3_.1), (0, .ref a0)]) dX0_lessen_27 2 rfl rfl (by decide) rfl ?_
        refine a_goto (tgt := 4) dX0_lessen_30 (by decide) ?_
        refine AW.sub (lv1 := [(0, .ref a0), (1, .long q3_.1), (3, .int (x3 + (1 : Int32)))]) [2, 1, 0] rfl ?_
        exact ih _ _ _ _ hf
set_option maxHeartbeats 4000000 in
set_option maxRecDepth 100000 in
theorem wX0_lessen {l : Launch} {Γ : Gx} {a0 : Nat} {M : Mm} {q : Mm} (hf : fX0_lessen a0 M = some q) : AM l Γ 2 yX0_lessen cX0_lessen 4 (none) [.ref a0] M none q := by
  unfold fX0_lessen at hf
  refine AM.of mfX0_lessen (Nat.le_of_ble_eq_true rfl) ?_
  generalize mT M = t0
  generalize mW M = w0
  show AW _ _ _ _ _ _ _ _ _ 0 [(0, .ref a0)] [] _ _ _
  obtain ⟨u0, eu0, hf⟩ := bnd hf
  refine a_lconst (v := 0) dX0_lessen_0 rfl ?_
  refine a_lstore_n (i := 1) (lv1 := [(1, .long ((0 : Int64))), (0, .ref a0)]) dX0_lessen_1 rfl (by decide) rfl ?_
  refine a_iconst (v := 0) dX0_lessen_2 (by decide) ?_
  refine a_istore_n (i := 3) (lv1 := [(3, .int ((0 : Int32))), (1, .long ((0 : Int64))), (0, .ref a0)]) dX0_lessen_3 rfl (by decide) rfl ?_
  refine AW.sub (lv1 := [(0, .ref a0), (1, .long ((0 : Int64))), (3, .int ((0 : Int32)))]) [2, 1, 0] rfl ?_
  exact wX0_lessen_b4 _ _ _ _ _ hf
theorem kX5_hearStep {a0 : Nat} {x1 : Int32} {M : Mm} {q : Mm} (hf : fX5_hearStep a0 x1 M = some q) : (mK M a0).1 = 6 := by
  unfold fX5_hearStep at hf
  obtain ⟨u0, eu0, -⟩ := bnd hf
  exact kc_of eu0
set_option maxHeartbeats 4000000 in
set_option maxRecDepth 100000 in
theorem wX5_hearStep_b12 {l : Launch} {Γ : Gx} {t0 w0 : Nat} {q : Mm} : ∀ (n : Nat) (a0 : Nat) (x2 : Int32) (x3 : Int32) (M : Mm), fX5_hearStep_b12 n a0 x2 x3 M = some q → AW l Γ yX5_hearStep cX5_hearStep 4 (none) 3 t0 w0 12 [(0, .ref a0), (2, .int x2), (3, .int x3)] [] M none q := by
  intro n
  induction n with
  | zero =>
    intro a0 x2 x3 M hf
    cases hf
  | succ n ih =>
    intro a0 x2 x3 M hf
    rw [fX5_hearStep_b12.eq_2] at hf
    refine a_iload_n dX5_hearStep_12 rfl 2 rfl ?_
    refine a_aload_n dX5_hearStep_13 rfl 0 rfl ?_
    obtain ⟨v1_, ev1_, hf⟩ := bnd hf
    refine a_getI dX5_hearStep_14 flX5_9 rfl ev1_ ?_
    refine a_icmp_ge dX5_hearStep_17 (tgt := 85) (by decide) (fun c9 => ?_) (fun c9 => ?_)
    · replace hf := iteT hf c9
      refine a_aload_n dX5_hearStep_85 rfl 0 rfl ?_
      obtain ⟨o2_, eo2_, hf⟩ := bnd hf
      refine a_getR dX5_hearStep_86 flX5_52 rfl eo2_ ?_
      obtain ⟨M3_, eM3_, hf⟩ := bnd hf
      refine a_callV (As := []) (rest := []) dX5_hearStep_89 mfX0_endMoves cvX5_136 (wX0_endMoves eM3_) rc0 (kX0_endMoves eM3_) (by decide) rfl rfl (Nat.le_of_ble_eq_true rfl) ?_
      refine a_aload_n dX5_hearStep_92 rfl 0 rfl ?_
      obtain ⟨o4_, eo4_, hf⟩ := bnd hf
      refine a_getR dX5_hearStep_93 flX5_52 rfl eo4_ ?_
      obtain ⟨M5_, eM5_, hf⟩ := bnd hf
      refine a_callV (As := []) (rest := []) dX5_hearStep_96 mfX0_lessen cvX5_139 (wX0_lessen eM5_) rc0 (kX0_lessen eM5_) (by decide) rfl rfl (Nat.le_of_ble_eq_true rfl) ?_
      refine a_aload_n dX5_hearStep_99 rfl 0 rfl ?_
      refine a_dup dX5_hearStep_100 rfl ?_
      obtain ⟨v6_, ev6_, hf⟩ := bnd hf
      refine a_getI dX5_hearStep_101 flX5_56 rfl ev6_ ?_
      refine a_iconst (v := 1) dX5_hearStep_104 (by decide) ?_
      refine a_iadd dX5_hearStep_105 ?_
      obtain ⟨M7_, eM7_, hf⟩ := bnd hf
      refine a_putI dX5_hearStep_106 fpX5_56 rfl (Or.inr nf5_11) eM7_ ?_
      refine a_aload_n dX5_hearStep_109 rfl 0 rfl ?_
      refine a_dup dX5_hearStep_110 rfl ?_
      obtain ⟨v8_, ev8_, hf⟩ := bnd hf
      refine a_getI dX5_hearStep_111 flX5_59 rfl ev8_ ?_
      refine a_iconst (v := 1) dX5_hearStep_114 (by decide) ?_
      refine a_iadd dX5_hearStep_115 ?_
      obtain ⟨M9_, eM9_, hf⟩ := bnd hf
      refine a_putI dX5_hearStep_116 fpX5_59 rfl (Or.inr nf5_12) eM9_ ?_
      have e9 := Option.some.inj hf
      subst e9
      exact a_vret rfl dX5_hearStep_119 rfl
    · replace hf := iteF hf c9
      refine a_aload_n dX5_hearStep_20 rfl 0 rfl ?_
      obtain ⟨o10_, eo10_, hf⟩ := bnd hf
      refine a_getR dX5_hearStep_21 flX5_52 rfl eo10_ ?_
      refine a_iload_n dX5_hearStep_24 rfl 2 rfl ?_
      refine a_iload_n dX5_hearStep_25 rfl 2 rfl ?_
      refine a_aload_n dX5_hearStep_26 rfl 0 rfl ?_
      obtain ⟨v11_, ev11_, hf⟩ := bnd hf
      refine a_getI dX5_hearStep_27 flX5_15 rfl ev11_ ?_
      obtain ⟨M12_, eM12_, hf⟩ := bnd hf
      refine a_callV (As := [.int x3, .int x3, .int v11_]) (rest := []) dX5_hearStep_30 mfX0_move cvX5_129 (wX0_move eM12_) rc0 (kX0_move eM12_) (by decide) rfl rfl (Nat.le_of_ble_eq_true rfl) ?_
      refine a_aload_n dX5_hearStep_33 rfl 0 rfl ?_
      obtain ⟨o13_, eo13_, hf⟩ := bnd hf
      refine a_getR dX5_hearStep_34 flX5_52 rfl eo13_ ?_
      refine a_iload_n dX5_hearStep_37 rfl 2 rfl ?_
      refine a_aload_n dX5_hearStep_38 rfl 0 rfl ?_
      refine a_iload_n dX5_hearStep_39 rfl 2 rfl ?_
      refine a_iload_n dX5_hearStep_40 rfl 1 rfl ?_
      obtain ⟨q14_, eq14_, hf⟩ := bnd hf
      refine a_callV (As := [.int x3, .int x2]) (rest := [.int x3, .ref o13_]) dX5_hearStep_41 mfX5_reach cvX5_133 (wX5_reach eq14_) rc5 (kX5_reach eq14_) (by decide) rfl rfl (Nat.le_of_ble_eq_true rfl) ?_
      refine a_bipush (v := 10) dX5_hearStep_44 (by decide) ?_
      refine a_aload_n dX5_hearStep_46 rfl 0 rfl ?_
      obtain ⟨v15_, ev15_, hf⟩ := bnd hf
      refine a_getI dX5_hearStep_47 flX5_15 rfl ev15_ ?_
      refine a_isub dX5_hearStep_50 ?_
      refine a_aload_n dX5_hearStep_51 rfl 0 rfl ?_
      obtain ⟨v16_, ev16_, hf⟩ := bnd hf
      refine a_getI dX5_hearStep_52 flX5_18 rfl ev16_ ?_
      refine a_isub dX5_hearStep_55 ?_
      obtain ⟨M17_, eM17_, hf⟩ := bnd hf
      refine a_callV (As := [.int x3, .int q14_.1, .int ((((10 : Int32)) - v15_) - v16_)]) (rest := []) dX5_hearStep_56 mfX0_move cvX5_129 (wX0_move eM17_) rc0 (kX0_move eM17_) (by decide) rfl rfl (Nat.le_of_ble_eq_true rfl) ?_
      refine a_aload_n dX5_hearStep_59 rfl 0 rfl ?_
      obtain ⟨o18_, eo18_, hf⟩ := bnd hf
      refine a_getR dX5_hearStep_60 flX5_52 rfl eo18_ ?_
      refine a_iload_n dX5_hearStep_63 rfl 2 rfl ?_
      refine a_aload_n dX5_hearStep_64 rfl 0 rfl ?_
      refine a_iload_n dX5_hearStep_65 rfl 2 rfl ?_
      refine a_iconst (v := 2) dX5_hearStep_66 (by decide) ?_
      refine a_iload_n dX5_hearStep_67 rfl 1 rfl ?_
      refine a_imul dX5_hearStep_68 ?_
      obtain ⟨q19_, eq19_, hf⟩ := bnd hf
      refine a_callV (As := [.int x3, .int (((2 : Int32)) * x2)]) (rest := [.int x3, .ref o18_]) dX5_hearStep_69 mfX5_reach cvX5_133 (wX5_reach eq19_) rc5 (kX5_reach eq19_) (by decide) rfl rfl (Nat.le_of_ble_eq_true rfl) ?_
      refine a_aload_n dX5_hearStep_72 rfl 0 rfl ?_
      obtain ⟨v20_, ev20_, hf⟩ := bnd hf
      refine a_getI dX5_hearStep_73 flX5_18 rfl ev20_ ?_
      obtain ⟨M21_, eM21_, hf⟩ := bnd hf
      refine a_callV (As := [.int x3, .int q19_.1, .int v20_]) (rest := []) dX5_hearStep_76 mfX0_move cvX5_129 (wX0_move eM21_) rc0 (kX0_move eM21_) (by decide) rfl rfl (Nat.le_of_ble_eq_true rfl) ?_
      refine a_iinc (v := x3 + (1 : Int32)) (lv1 := [(3, .int (x3 + (1 : Int32))), (0, .ref a0), (2, .int x2)]) dX5_hearStep_79 2 rfl rfl (by decide) rfl ?_
      refine a_goto (tgt := 12) dX5_hearStep_82 (by decide) ?_
      refine AW.sub (lv1 := [(0, .ref a0), (2, .int x2), (3, .int (x3 + (1 : Int32)))]) [1, 2, 0] rfl ?_
      exact ih _ _ _ _ hf
set_option maxHeartbeats 4000000 in
set_option maxRecDepth 100000 in
theorem wX5_hearStep {l : Launch} {Γ : Gx} {a0 : Nat} {x1 : Int32} {M : Mm} {q : Mm} (hf : fX5_hearStep a0 x1 M = some q) : AM l Γ 3 yX5_hearStep cX5_hearStep 4 (none) [.ref a0, .int x1] M none q := by
  unfold fX5_hearStep at hf
  refine AM.of mfX5_hearStep (Nat.le_of_ble_eq_true rfl) ?_
  generalize mT M = t0
  generalize mW M = w0
  show AW _ _ _ _ _ _ _ _ _ 0 [(0, .ref a0), (1, .int x1)] [] _ _ _
  obtain ⟨u0, eu0, hf⟩ := bnd hf
  refine a_iload_n dX5_hearStep_0 rfl 1 rfl ?_
  refine a_if_eq dX5_hearStep_1 (tgt := 8) (by decide) (fun c9 => ?_) (fun c9 => ?_)
  · replace hf := iteT hf c9
    refine a_iconst (v := 1) dX5_hearStep_8 (by decide) ?_
    refine a_istore_n (i := 2) (lv1 := [(2, .int ((1 : Int32))), (0, .ref a0), (1, .int x1)]) dX5_hearStep_9 rfl (by decide) rfl ?_
    refine a_iconst (v := 0) dX5_hearStep_10 (by decide) ?_
    refine a_istore_n (i := 3) (lv1 := [(3, .int ((0 : Int32))), (2, .int ((1 : Int32))), (0, .ref a0), (1, .int x1)]) dX5_hearStep_11 rfl (by decide) rfl ?_
    refine AW.sub (lv1 := [(0, .ref a0), (2, .int ((1 : Int32))), (3, .int ((0 : Int32)))]) [2, 1, 0] rfl ?_
    exact wX5_hearStep_b12 _ _ _ _ _ hf
  · replace hf := iteF hf c9
    refine a_iconst (v := -1) dX5_hearStep_4 (by decide) ?_
    refine a_goto (tgt := 9) dX5_hearStep_5 (by decide) ?_
    refine a_istore_n (i := 2) (lv1 := [(2, .int ((-1 : Int32))), (0, .ref a0), (1, .int x1)]) dX5_hearStep_9 rfl (by decide) rfl ?_
    refine a_iconst (v := 0) dX5_hearStep_10 (by decide) ?_
    refine a_istore_n (i := 3) (lv1 := [(3, .int ((0 : Int32))), (2, .int ((-1 : Int32))), (0, .ref a0), (1, .int x1)]) dX5_hearStep_11 rfl (by decide) rfl ?_
    refine AW.sub (lv1 := [(0, .ref a0), (2, .int ((-1 : Int32))), (3, .int ((0 : Int32)))]) [2, 1, 0] rfl ?_
    exact wX5_hearStep_b12 _ _ _ _ _ hf
theorem kX5_timesOf {a0 : Nat} {a1 : Nat} {x2 : Int32} {x3 : Int32} {M : Mm} {q : Int32 × Mm} (hf : fX5_timesOf a0 a1 x2 x3 M = some q) : (mK M a0).1 = 6 := by
  unfold fX5_timesOf at hf
  obtain ⟨u0, eu0, -⟩ := bnd hf
  exact kc_of eu0
set_option maxHeartbeats 4000000 in
set_option maxRecDepth 100000 in
theorem wX5_timesOf {l : Launch} {Γ : Gx} {a0 : Nat} {a1 : Nat} {x2 : Int32} {x3 : Int32} {M : Mm} {q : Int32 × Mm} (hf : fX5_timesOf a0 a1 x2 x3 M = some q) : AM l Γ 3 yX5_timesOf cX5_timesOf 5 ((some .int)) [.ref a0, .ref a1, .int x2, .int x3] M (some (.int q.1)) q.2 := by
  unfold fX5_timesOf at hf
  refine AM.of mfX5_timesOf (Nat.le_of_ble_eq_true rfl) ?_
  generalize mT M = t0
  generalize mW M = w0
  show AW _ _ _ _ _ _ _ _ _ 0 [(0, .ref a0), (1, .ref a1), (2, .int x2), (3, .int x3)] [] _ _ _
  obtain ⟨u0, eu0, hf⟩ := bnd hf
  refine a_aload_n dX5_timesOf_0 rfl 0 rfl ?_
  refine a_aload_n dX5_timesOf_1 rfl 1 rfl ?_
  refine a_iload_n dX5_timesOf_2 rfl 2 rfl ?_
  obtain ⟨q1_, eq1_, hf⟩ := bnd hf
  refine a_callV (As := [.ref a1, .int x2]) (rest := []) dX5_timesOf_3 mfX5_tenthsOf cvX5_118 (wX5_tenthsOf eq1_) rc5 (kX5_tenthsOf eq1_) (by decide) rfl rfl (Nat.le_of_ble_eq_true rfl) ?_
  refine a_istore (i := 4) (lv1 := [(4, .int q1_.1), (0, .ref a0), (1, .ref a1), (2, .int x2), (3, .int x3)]) dX5_timesOf_6 (by decide) rfl ?_
  refine a_iload_n dX5_timesOf_8 rfl 4 rfl ?_
  refine a_if_eq dX5_timesOf_9 (tgt := 17) (by decide) (fun c9 => ?_) (fun c9 => ?_)
  · replace hf := iteT hf c9
    refine a_bipush (v := 10) dX5_timesOf_17 (by decide) ?_
    refine a_iload dX5_timesOf_19 0 rfl ?_
    refine a_isub dX5_timesOf_21 ?_
    have e9 := Option.some.inj hf
    subst e9
    exact a_iret rfl dX5_timesOf_22 rfl
  · replace hf := iteF hf c9
    refine a_iload dX5_timesOf_12 0 rfl ?_
    refine a_goto (tgt := 22) dX5_timesOf_14 (by decide) ?_
    have e9 := Option.some.inj hf
    subst e9
    exact a_iret rfl dX5_timesOf_22 rfl
theorem kX5_canBe {a0 : Nat} {a1 : Nat} {x2 : Int32} {M : Mm} {q : Int32 × Mm} (hf : fX5_canBe a0 a1 x2 M = some q) : (mK M a0).1 = 6 := by
  unfold fX5_canBe at hf
  obtain ⟨u0, eu0, -⟩ := bnd hf
  exact kc_of eu0
set_option maxHeartbeats 4000000 in
set_option maxRecDepth 100000 in
theorem wX5_canBe_b2 {l : Launch} {Γ : Gx} {t0 w0 : Nat} {q : Int32 × Mm} : ∀ (n : Nat) (a0 : Nat) (a1 : Nat) (x2 : Int32) (x3 : Int32) (M : Mm), fX5_canBe_b2 n a0 a1 x2 x3 M = some q → AW l Γ yX5_canBe cX5_canBe 4 ((some .boolean)) 4 t0 w0 2 [(0, .ref a0), (1, .ref a1), (2, .int x2), (3, .int x3)] [] M (some (.int q.1)) q.2 := by
  intro n
  induction n with
  | zero =>
    intro a0 a1 x2 x3 M hf
    cases hf
  | succ n ih =>
    intro a0 a1 x2 x3 M hf
    rw [fX5_canBe_b2.eq_2] at hf
    refine a_iload_n dX5_canBe_2 rfl 3 rfl ?_
    refine a_aload_n dX5_canBe_3 rfl 0 rfl ?_
    obtain ⟨v1_, ev1_, hf⟩ := bnd hf
    refine a_getI dX5_canBe_4 flX5_9 rfl ev1_ ?_
    refine a_icmp_ge dX5_canBe_7 (tgt := 41) (by decide) (fun c9 => ?_) (fun c9 => ?_)
    · replace hf := iteT hf c9
      refine a_iconst (v := 0) dX5_canBe_41 (by decide) ?_
      have e9 := Option.some.inj hf
      subst e9
      exact a_zret rfl rfl dX5_canBe_42 rfl
    · replace hf := iteF hf c9
      refine a_aload_n dX5_canBe_10 rfl 0 rfl ?_
      obtain ⟨o2_, eo2_, hf⟩ := bnd hf
      refine a_getR dX5_canBe_11 flX5_52 rfl eo2_ ?_
      refine a_iload_n dX5_canBe_14 rfl 3 rfl ?_
      obtain ⟨q3_, eq3_, hf⟩ := bnd hf
      refine a_callV (As := [.int x3]) (rest := []) dX5_canBe_15 mfX0_at cvX5_142 (wX0_at eq3_) rc0 (kX0_at eq3_) (by decide) rfl rfl (Nat.le_of_ble_eq_true rfl) ?_
      refine a_lconst (v := 0) dX5_canBe_18 rfl ?_
      refine a_lcmp_le dX5_canBe_19 dX5_canBe_20 (tgt := 35) (by decide) (fun c9 => ?_) (fun c9 => ?_)
      · replace hf := iteT hf c9
        refine a_iinc (v := x3 + (1 : Int32)) (lv1 := [(3, .int (x3 + (1 : Int32))), (0, .ref a0), (1, .ref a1), (2, .int x2)]) dX5_canBe_35 3 rfl rfl (by decide) rfl ?_
        refine a_goto (tgt := 2) dX5_canBe_38 (by decide) ?_
        refine AW.sub (lv1 := [(0, .ref a0), (1, .ref a1), (2, .int x2), (3, .int (x3 + (1 : Int32)))]) [1, 2, 3, 0] rfl ?_
        exact ih _ _ _ _ _ hf
      · replace hf := iteF hf c9
        refine a_aload_n dX5_canBe_23 rfl 0 rfl ?_
        refine a_aload_n dX5_canBe_24 rfl 1 rfl ?_
        refine a_iload_n dX5_canBe_25 rfl 3 rfl ?_
        refine a_iload_n dX5_canBe_26 rfl 2 rfl ?_
        obtain ⟨q4_, eq4_, hf⟩ := bnd hf
        refine a_callV (As := [.ref a1, .int x3, .int x2]) (rest := []) dX5_canBe_27 mfX5_timesOf cvX5_146 (wX5_timesOf eq4_) rc5 (kX5_timesOf eq4_) (by decide) rfl rfl (Nat.le_of_ble_eq_true rfl) ?_
        refine a_if_le dX5_canBe_30 (tgt := 35) (by decide) (fun c9 => ?_) (fun c9 => ?_)
        · replace hf := iteT hf c9
          refine a_iinc (v := x3 + (1 : Int32)) (lv1 := [(3, .int (x3 + (1 : Int32))), (0, .ref a0), (1, .ref a1), (2, .int x2)]) dX5_canBe_35 3 rfl rfl (by decide) rfl ?_
          refine a_goto (tgt := 2) dX5_canBe_38 (by decide) ?_
          refine AW.sub (lv1 := [(0, .ref a0), (1, .ref a1), (2, .int x2), (3, .int (x3 + (1 : Int32)))]) [1, 2, 3, 0] rfl ?_
          exact ih _ _ _ _ _ hf
        · replace hf := iteF hf c9
          refine a_iconst (v := 1) dX5_canBe_33 (by decide) ?_
          have e9 := Option.some.inj hf
          subst e9
          exact a_zret rfl rfl dX5_canBe_34 rfl
set_option maxHeartbeats 4000000 in
set_option maxRecDepth 100000 in
theorem wX5_canBe {l : Launch} {Γ : Gx} {a0 : Nat} {a1 : Nat} {x2 : Int32} {M : Mm} {q : Int32 × Mm} (hf : fX5_canBe a0 a1 x2 M = some q) : AM l Γ 4 yX5_canBe cX5_canBe 4 ((some .boolean)) [.ref a0, .ref a1, .int x2] M (some (.int q.1)) q.2 := by
  unfold fX5_canBe at hf
  refine AM.of mfX5_canBe (Nat.le_of_ble_eq_true rfl) ?_
  generalize mT M = t0
  generalize mW M = w0
  show AW _ _ _ _ _ _ _ _ _ 0 [(0, .ref a0), (1, .ref a1), (2, .int x2)] [] _ _ _
  obtain ⟨u0, eu0, hf⟩ := bnd hf
  refine a_iconst (v := 0) dX5_canBe_0 (by decide) ?_
  refine a_istore_n (i := 3) (lv1 := [(3, .int ((0 : Int32))), (0, .ref a0), (1, .ref a1), (2, .int x2)]) dX5_canBe_1 rfl (by decide) rfl ?_
  refine AW.sub (lv1 := [(0, .ref a0), (1, .ref a1), (2, .int x2), (3, .int ((0 : Int32)))]) [1, 2, 3, 0] rfl ?_
  exact wX5_canBe_b2 _ _ _ _ _ _ hf
theorem kX0_multiply {a0 : Nat} {x1 : Int32} {x2 : Int32} {M : Mm} {q : Mm} (hf : fX0_multiply a0 x1 x2 M = some q) : (mK M a0).1 = 1 := by
  unfold fX0_multiply at hf
  obtain ⟨u0, eu0, -⟩ := bnd hf
  exact kc_of eu0
set_option maxHeartbeats 4000000 in
set_option maxRecDepth 100000 in
theorem wX0_multiply {l : Launch} {Γ : Gx} {a0 : Nat} {x1 : Int32} {x2 : Int32} {M : Mm} {q : Mm} (hf : fX0_multiply a0 x1 x2 M = some q) : AM l Γ 1 yX0_multiply cX0_multiply 3 (none) [.ref a0, .int x1, .int x2] M none q := by
  unfold fX0_multiply at hf
  refine AM.of mfX0_multiply (Nat.le_of_ble_eq_true rfl) ?_
  generalize mT M = t0
  generalize mW M = w0
  show AW _ _ _ _ _ _ _ _ _ 0 [(0, .ref a0), (1, .int x1), (2, .int x2)] [] _ _ _
  obtain ⟨u0, eu0, hf⟩ := bnd hf
  refine a_iload_n dX0_multiply_0 rfl 1 rfl ?_
  refine a_if_lt dX0_multiply_1 (tgt := 21) (by decide) (fun c9 => ?_) (fun c9 => ?_)
  · replace hf := iteT hf c9
    have e9 := Option.some.inj hf
    subst e9
    exact a_vret rfl dX0_multiply_21 rfl
  · replace hf := iteF hf c9
    refine a_iload_n dX0_multiply_4 rfl 1 rfl ?_
    refine a_bipush (v := 24) dX0_multiply_5 (by decide) ?_
    refine a_icmp_ge dX0_multiply_7 (tgt := 21) (by decide) (fun c9 => ?_) (fun c9 => ?_)
    · replace hf := iteT hf c9
      have e9 := Option.some.inj hf
      subst e9
      exact a_vret rfl dX0_multiply_21 rfl
    · replace hf := iteF hf c9
      refine a_aload_n dX0_multiply_10 rfl 0 rfl ?_
      obtain ⟨o1_, eo1_, hf⟩ := bnd hf
      refine a_getR dX0_multiply_11 flX0_9 rfl eo1_ ?_
      refine a_iload_n dX0_multiply_14 rfl 1 rfl ?_
      refine a_dup2 dX0_multiply_15 rfl rfl ?_
      obtain ⟨v2_, ev2_, hf⟩ := bnd hf
      refine a_lald dX0_multiply_16 ev2_ ?_
      refine a_iload_n dX0_multiply_17 rfl 2 rfl ?_
      refine a_i2l dX0_multiply_18 ?_
      refine a_lmul dX0_multiply_19 ?_
      obtain ⟨M3_, eM3_, hf⟩ := bnd hf
      refine a_last dX0_multiply_20 eM3_ ?_
      have e9 := Option.some.inj hf
      subst e9
      exact a_vret rfl dX0_multiply_21 rfl
theorem kX5_hearSign {a0 : Nat} {a1 : Nat} {x2 : Int32} {M : Mm} {q : Mm} (hf : fX5_hearSign a0 a1 x2 M = some q) : (mK M a0).1 = 6 := by
  unfold fX5_hearSign at hf
  obtain ⟨u0, eu0, -⟩ := bnd hf
  exact kc_of eu0
set_option maxHeartbeats 4000000 in
set_option maxRecDepth 100000 in
theorem wX5_hearSign_b2 {l : Launch} {Γ : Gx} {t0 w0 : Nat} {q : Mm} : ∀ (n : Nat) (a0 : Nat) (a1 : Nat) (x2 : Int32) (x3 : Int32) (M : Mm), fX5_hearSign_b2 n a0 a1 x2 x3 M = some q → AW l Γ yX5_hearSign cX5_hearSign 4 (none) 4 t0 w0 2 [(0, .ref a0), (1, .ref a1), (2, .int x2), (3, .int x3)] [] M none q := by
  intro n
  induction n with
  | zero =>
    intro a0 a1 x2 x3 M hf
    cases hf
  | succ n ih =>
    intro a0 a1 x2 x3 M hf
    rw [fX5_hearSign_b2.eq_2] at hf
    refine a_iload_n dX5_hearSign_2 rfl 3 rfl ?_
    refine a_aload_n dX5_hearSign_3 rfl 0 rfl ?_
    obtain ⟨v1_, ev1_, hf⟩ := bnd hf
    refine a_getI dX5_hearSign_4 flX5_9 rfl ev1_ ?_
    refine a_icmp_ge dX5_hearSign_7 (tgt := 31) (by decide) (fun c9 => ?_) (fun c9 => ?_)
    · replace hf := iteT hf c9
      refine a_aload_n dX5_hearSign_31 rfl 0 rfl ?_
      obtain ⟨o2_, eo2_, hf⟩ := bnd hf
      refine a_getR dX5_hearSign_32 flX5_52 rfl eo2_ ?_
      obtain ⟨M3_, eM3_, hf⟩ := bnd hf
      refine a_callV (As := []) (rest := []) dX5_hearSign_35 mfX0_lessen cvX5_139 (wX0_lessen eM3_) rc0 (kX0_lessen eM3_) (by decide) rfl rfl (Nat.le_of_ble_eq_true rfl) ?_
      refine a_aload_n dX5_hearSign_38 rfl 0 rfl ?_
      refine a_dup dX5_hearSign_39 rfl ?_
      obtain ⟨v4_, ev4_, hf⟩ := bnd hf
      refine a_getI dX5_hearSign_40 flX5_59 rfl ev4_ ?_
      refine a_iconst (v := 1) dX5_hearSign_43 (by decide) ?_
      refine a_iadd dX5_hearSign_44 ?_
      obtain ⟨M5_, eM5_, hf⟩ := bnd hf
      refine a_putI dX5_hearSign_45 fpX5_59 rfl (Or.inr nf5_12) eM5_ ?_
      have e9 := Option.some.inj hf
      subst e9
      exact a_vret rfl dX5_hearSign_48 rfl
    · replace hf := iteF hf c9
      refine a_aload_n dX5_hearSign_10 rfl 0 rfl ?_
      obtain ⟨o6_, eo6_, hf⟩ := bnd hf
      refine a_getR dX5_hearSign_11 flX5_52 rfl eo6_ ?_
      refine a_iload_n dX5_hearSign_14 rfl 3 rfl ?_
      refine a_aload_n dX5_hearSign_15 rfl 0 rfl ?_
      refine a_aload_n dX5_hearSign_16 rfl 1 rfl ?_
      refine a_iload_n dX5_hearSign_17 rfl 3 rfl ?_
      refine a_iload_n dX5_hearSign_18 rfl 2 rfl ?_
      obtain ⟨q7_, eq7_, hf⟩ := bnd hf
      refine a_callV (As := [.ref a1, .int x3, .int x2]) (rest := [.int x3, .ref o6_]) dX5_hearSign_19 mfX5_timesOf cvX5_146 (wX5_timesOf eq7_) rc5 (kX5_timesOf eq7_) (by decide) rfl rfl (Nat.le_of_ble_eq_true rfl) ?_
      obtain ⟨M8_, eM8_, hf⟩ := bnd hf
      refine a_callV (As := [.int x3, .int q7_.1]) (rest := []) dX5_hearSign_22 mfX0_multiply cvX5_150 (wX0_multiply eM8_) rc0 (kX0_multiply eM8_) (by decide) rfl rfl (Nat.le_of_ble_eq_true rfl) ?_
      refine a_iinc (v := x3 + (1 : Int32)) (lv1 := [(3, .int (x3 + (1 : Int32))), (0, .ref a0), (1, .ref a1), (2, .int x2)]) dX5_hearSign_25 3 rfl rfl (by decide) rfl ?_
      refine a_goto (tgt := 2) dX5_hearSign_28 (by decide) ?_
      refine AW.sub (lv1 := [(0, .ref a0), (1, .ref a1), (2, .int x2), (3, .int (x3 + (1 : Int32)))]) [1, 2, 3, 0] rfl ?_
      exact ih _ _ _ _ _ hf
set_option maxHeartbeats 4000000 in
set_option maxRecDepth 100000 in
theorem wX5_hearSign {l : Launch} {Γ : Gx} {a0 : Nat} {a1 : Nat} {x2 : Int32} {M : Mm} {q : Mm} (hf : fX5_hearSign a0 a1 x2 M = some q) : AM l Γ 4 yX5_hearSign cX5_hearSign 4 (none) [.ref a0, .ref a1, .int x2] M none q := by
  unfold fX5_hearSign at hf
  refine AM.of mfX5_hearSign (Nat.le_of_ble_eq_true rfl) ?_
  generalize mT M = t0
  generalize mW M = w0
  show AW _ _ _ _ _ _ _ _ _ 0 [(0, .ref a0), (1, .ref a1), (2, .int x2)] [] _ _ _
  obtain ⟨u0, eu0, hf⟩ := bnd hf
  refine a_iconst (v := 0) dX5_hearSign_0 (by decide) ?_
  refine a_istore_n (i := 3) (lv1 := [(3, .int ((0 : Int32))), (0, .ref a0), (1, .ref a1), (2, .int x2)]) dX5_hearSign_1 rfl (by decide) rfl ?_
  refine AW.sub (lv1 := [(0, .ref a0), (1, .ref a1), (2, .int x2), (3, .int ((0 : Int32)))]) [1, 2, 3, 0] rfl ?_
  exact wX5_hearSign_b2 _ _ _ _ _ _ hf
theorem kX0_surest {a0 : Nat} {M : Mm} {q : Int32 × Mm} (hf : fX0_surest a0 M = some q) : (mK M a0).1 = 1 := by
  unfold fX0_surest at hf
  obtain ⟨u0, eu0, -⟩ := bnd hf
  exact kc_of eu0
set_option maxHeartbeats 4000000 in
set_option maxRecDepth 100000 in
theorem wX0_surest_b4 {l : Launch} {Γ : Gx} {t0 w0 : Nat} {q : Int32 × Mm} : ∀ (n : Nat) (a0 : Nat) (x1 : Int32) (x2 : Int32) (M : Mm), fX0_surest_b4 n a0 x1 x2 M = some q → AW l Γ yX0_surest cX0_surest 3 ((some .int)) 1 t0 w0 4 [(0, .ref a0), (1, .int x1), (2, .int x2)] [] M (some (.int q.1)) q.2 := by
  intro n
  induction n with
  | zero =>
    intro a0 x1 x2 M hf
    cases hf
  | succ n ih =>
    intro a0 x1 x2 M hf
    rw [fX0_surest_b4.eq_2] at hf
    refine a_iload_n dX0_surest_4 rfl 2 rfl ?_
    refine a_bipush (v := 24) dX0_surest_5 (by decide) ?_
    refine a_icmp_ge dX0_surest_7 (tgt := 34) (by decide) (fun c9 => ?_) (fun c9 => ?_)
    · replace hf := iteT hf c9
      refine a_iload_n dX0_surest_34 rfl 1 rfl ?_
      have e9 := Option.some.inj hf
      subst e9
      exact a_iret rfl dX0_surest_35 rfl
    · replace hf := iteF hf c9
      refine a_aload_n dX0_surest_10 rfl 0 rfl ?_
      obtain ⟨o1_, eo1_, hf⟩ := bnd hf
      refine a_getR dX0_surest_11 flX0_9 rfl eo1_ ?_
      refine a_iload_n dX0_surest_14 rfl 2 rfl ?_
      obtain ⟨v2_, ev2_, hf⟩ := bnd hf
      refine a_lald dX0_surest_15 ev2_ ?_
      refine a_aload_n dX0_surest_16 rfl 0 rfl ?_
      obtain ⟨o3_, eo3_, hf⟩ := bnd hf
      refine a_getR dX0_surest_17 flX0_9 rfl eo3_ ?_
      refine a_iload_n dX0_surest_20 rfl 1 rfl ?_
      obtain ⟨v4_, ev4_, hf⟩ := bnd hf
      refine a_lald dX0_surest_21 ev4_ ?_
      refine a_lcmp_le dX0_surest_22 dX0_surest_23 (tgt := 28) (by decide) (fun c9 => ?_) (fun c9 => ?_)
      · replace hf := iteT hf c9
        refine a_iinc (v := x2 + (1 : Int32)) (lv1 := [(2, .int (x2 + (1 : Int32))), (0, .ref a0), (1, .int x1)]) dX0_surest_28 2 rfl rfl (by decide) rfl ?_
        refine a_goto (tgt := 4) dX0_surest_31 (by decide) ?_
        refine AW.sub (lv1 := [(0, .ref a0), (1, .int x1), (2, .int (x2 + (1 : Int32)))]) [1, 2, 0] rfl ?_
        exact ih _ _ _ _ hf
      · replace hf := iteF hf c9
        refine a_iload_n dX0_surest_26 rfl 2 rfl ?_
        refine a_istore_n (i := 1) (lv1 := [(1, .int x2), (0, .ref a0), (2, .int x2)]) dX0_surest_27 rfl (by decide) rfl ?_
        refine a_iinc (v := x2 + (1 : Int32)) (lv1 := [(2, .int (x2 + (1 : Int32))), (1, .int x2), (0, .ref a0)]) dX0_surest_28 2 rfl rfl (by decide) rfl ?_
        refine a_goto (tgt := 4) dX0_surest_31 (by decide) ?_
        refine AW.sub (lv1 := [(0, .ref a0), (1, .int x2), (2, .int (x2 + (1 : Int32)))]) [2, 1, 0] rfl ?_
        exact ih _ _ _ _ hf
set_option maxHeartbeats 4000000 in
set_option maxRecDepth 100000 in
theorem wX0_surest {l : Launch} {Γ : Gx} {a0 : Nat} {M : Mm} {q : Int32 × Mm} (hf : fX0_surest a0 M = some q) : AM l Γ 1 yX0_surest cX0_surest 3 ((some .int)) [.ref a0] M (some (.int q.1)) q.2 := by
  unfold fX0_surest at hf
  refine AM.of mfX0_surest (Nat.le_of_ble_eq_true rfl) ?_
  generalize mT M = t0
  generalize mW M = w0
  show AW _ _ _ _ _ _ _ _ _ 0 [(0, .ref a0)] [] _ _ _
  obtain ⟨u0, eu0, hf⟩ := bnd hf
  refine a_iconst (v := 0) dX0_surest_0 (by decide) ?_
  refine a_istore_n (i := 1) (lv1 := [(1, .int ((0 : Int32))), (0, .ref a0)]) dX0_surest_1 rfl (by decide) rfl ?_
  refine a_iconst (v := 1) dX0_surest_2 (by decide) ?_
  refine a_istore_n (i := 2) (lv1 := [(2, .int ((1 : Int32))), (1, .int ((0 : Int32))), (0, .ref a0)]) dX0_surest_3 rfl (by decide) rfl ?_
  refine AW.sub (lv1 := [(0, .ref a0), (1, .int ((0 : Int32))), (2, .int ((1 : Int32)))]) [2, 1, 0] rfl ?_
  exact wX0_surest_b4 _ _ _ _ _ hf
theorem kX5_hears {a0 : Nat} {x1 : Int32} {M : Mm} {q : Int32 × Mm} (hf : fX5_hears a0 x1 M = some q) : (mK M a0).1 = 6 := by
  unfold fX5_hears at hf
  obtain ⟨u0, eu0, -⟩ := bnd hf
  exact kc_of eu0
set_option maxHeartbeats 4000000 in
set_option maxRecDepth 100000 in
theorem wX5_hears_b20 {l : Launch} {Γ : Gx} {t0 w0 : Nat} {q : Int32 × Mm} (a0 : Nat) (x1 : Int32) (M : Mm) (hf : fX5_hears_b20 a0 x1 M = some q) : AW l Γ yX5_hears cX5_hears 4 ((some .boolean)) 5 t0 w0 20 [(0, .ref a0), (1, .int x1)] [] M (some (.int q.1)) q.2 := by
  unfold fX5_hears_b20 at hf
  refine a_aload_n dX5_hears_20 rfl 0 rfl ?_
  refine a_iload_n dX5_hears_21 rfl 1 rfl ?_
  refine a_iconst (v := 1) dX5_hears_22 (by decide) ?_
  refine a_icmp_ne dX5_hears_23 (tgt := 30) (by decide) (fun c9 => ?_) (fun c9 => ?_)
  · replace hf := iteF hf c9
    refine a_iconst (v := 0) dX5_hears_30 (by decide) ?_
    obtain ⟨M1_, eM1_, hf⟩ := bnd hf
    refine a_callV (As := [.int ((0 : Int32))]) (rest := []) dX5_hears_31 mfX5_hearStep cvX5_154 (wX5_hearStep eM1_) rc5 (kX5_hearStep eM1_) (by decide) rfl rfl (Nat.le_of_ble_eq_true rfl) ?_
    refine a_iconst (v := 1) dX5_hears_34 (by decide) ?_
    have e9 := Option.some.inj hf
    subst e9
    exact a_zret rfl rfl dX5_hears_35 rfl
  · replace hf := iteT hf c9
    refine a_iconst (v := 1) dX5_hears_26 (by decide) ?_
    refine a_goto (tgt := 31) dX5_hears_27 (by decide) ?_
    obtain ⟨M2_, eM2_, hf⟩ := bnd hf
    refine a_callV (As := [.int ((1 : Int32))]) (rest := []) dX5_hears_31 mfX5_hearStep cvX5_154 (wX5_hearStep eM2_) rc5 (kX5_hearStep eM2_) (by decide) rfl rfl (Nat.le_of_ble_eq_true rfl) ?_
    refine a_iconst (v := 1) dX5_hears_34 (by decide) ?_
    have e9 := Option.some.inj hf
    subst e9
    exact a_zret rfl rfl dX5_hears_35 rfl
set_option maxHeartbeats 4000000 in
set_option maxRecDepth 100000 in
theorem wX5_hears_b70 {l : Launch} {Γ : Gx} {t0 w0 : Nat} {q : Int32 × Mm} (a0 : Nat) (x2 : Int32) (s0 : Nat) (s1 : Int32) (M : Mm) (hf : fX5_hears_b70 a0 x2 s0 s1 M = some q) : AW l Γ yX5_hears cX5_hears 4 ((some .boolean)) 5 t0 w0 70 [(0, .ref a0), (2, .int x2)] [.int s1, .ref s0] M (some (.int q.1)) q.2 := by
  unfold fX5_hears_b70 at hf
  obtain ⟨q1_, eq1_, hf⟩ := bnd hf
  refine a_callV (As := [.int s1]) (rest := []) dX5_hears_70 mfX5_signAt cvX5_158 (wX5_signAt eq1_) rc5 (kX5_signAt eq1_) (by decide) rfl rfl (Nat.le_of_ble_eq_true rfl) ?_
  obtain ⟨n2_, en2_, hf⟩ := bnd hf
  refine a_topN en2_ ?_
  refine a_astore_nq (x := n2_) (i := 3) (lv1 := [(3, rv n2_), (0, .ref a0), (2, .int x2)]) dX5_hears_73 rfl (by decide) rfl ?_
  refine a_aload_nq (x := n2_) dX5_hears_74 rfl 0 rfl ?_
  cases n2_ with
  | none =>
    replace hf := el0 hf
    refine a_ifnull0 (tgt := 87) dX5_hears_75 (by decide) ?_
    refine a_iconst (v := 0) dX5_hears_87 (by decide) ?_
    have e9 := Option.some.inj hf
    subst e9
    exact a_zret rfl rfl dX5_hears_88 rfl
  | some o3_ =>
    replace hf := el1 hf
    refine a_ifnull1 dX5_hears_75 ?_
    refine a_aload_n dX5_hears_78 rfl 1 rfl ?_
    refine a_aload_n dX5_hears_79 rfl 0 rfl ?_
    refine a_iload_n dX5_hears_80 rfl 2 rfl ?_
    obtain ⟨q4_, eq4_, hf⟩ := bnd hf
    refine a_callV (As := [.ref o3_, .int x2]) (rest := []) dX5_hears_81 mfX5_canBe cvX5_162 (wX5_canBe eq4_) rc5 (kX5_canBe eq4_) (by decide) rfl rfl (Nat.le_of_ble_eq_true rfl) ?_
    refine a_if_ne dX5_hears_84 (tgt := 89) (by decide) (fun c9 => ?_) (fun c9 => ?_)
    · replace hf := iteF hf c9
      refine a_aload_n dX5_hears_89 rfl 1 rfl ?_
      refine a_aload_n dX5_hears_90 rfl 0 rfl ?_
      refine a_iload_n dX5_hears_91 rfl 2 rfl ?_
      obtain ⟨M5_, eM5_, hf⟩ := bnd hf
      refine a_callV (As := [.ref o3_, .int x2]) (rest := []) dX5_hears_92 mfX5_hearSign cvX5_166 (wX5_hearSign eM5_) rc5 (kX5_hearSign eM5_) (by decide) rfl rfl (Nat.le_of_ble_eq_true rfl) ?_
      refine a_iconst (v := 1) dX5_hears_95 (by decide) ?_
      have e9 := Option.some.inj hf
      subst e9
      exact a_zret rfl rfl dX5_hears_96 rfl
    · replace hf := iteT hf c9
      refine a_iconst (v := 0) dX5_hears_87 (by decide) ?_
      have e9 := Option.some.inj hf
      subst e9
      exact a_zret rfl rfl dX5_hears_88 rfl
set_option maxHeartbeats 4000000 in
set_option maxRecDepth 100000 in
theorem wX5_hears_b53 {l : Launch} {Γ : Gx} {t0 w0 : Nat} {q : Int32 × Mm} (a0 : Nat) (x1 : Int32) (s0 : Int32) (M : Mm) (hf : fX5_hears_b53 a0 x1 s0 M = some q) : AW l Γ yX5_hears cX5_hears 4 ((some .boolean)) 5 t0 w0 53 [(0, .ref a0), (1, .int x1)] [.int s0] M (some (.int q.1)) q.2 := by
  unfold fX5_hears_b53 at hf
  refine a_istore_n (i := 2) (lv1 := [(2, .int s0), (0, .ref a0), (1, .int x1)]) dX5_hears_53 rfl (by decide) rfl ?_
  refine a_aload_n dX5_hears_54 rfl 1 rfl ?_
  refine a_iload_n dX5_hears_55 rfl 0 rfl ?_
  refine a_if_eq dX5_hears_56 (tgt := 66) (by decide) (fun c9 => ?_) (fun c9 => ?_)
  · replace hf := iteT hf c9
    refine a_iload_n dX5_hears_66 rfl 2 rfl ?_
    refine a_bipush (v := 20) dX5_hears_67 (by decide) ?_
    refine a_isub dX5_hears_69 ?_
    refine AW.sub (lv1 := [(0, .ref a0), (2, .int s0)]) [1, 0] rfl ?_
    exact wX5_hears_b70 _ _ _ _ _ hf
  · replace hf := iteF hf c9
    refine a_iload_n dX5_hears_59 rfl 2 rfl ?_
    refine a_bipush (v := 10) dX5_hears_60 (by decide) ?_
    refine a_isub dX5_hears_62 ?_
    refine a_goto (tgt := 70) dX5_hears_63 (by decide) ?_
    refine AW.sub (lv1 := [(0, .ref a0), (2, .int s0)]) [1, 0] rfl ?_
    exact wX5_hears_b70 _ _ _ _ _ hf
set_option maxHeartbeats 4000000 in
set_option maxRecDepth 100000 in
theorem wX5_hears_b52 {l : Launch} {Γ : Gx} {t0 w0 : Nat} {q : Int32 × Mm} (a0 : Nat) (x1 : Int32) (M : Mm) (hf : fX5_hears_b52 a0 x1 M = some q) : AW l Γ yX5_hears cX5_hears 4 ((some .boolean)) 5 t0 w0 52 [(0, .ref a0), (1, .int x1)] [] M (some (.int q.1)) q.2 := by
  unfold fX5_hears_b52 at hf
  refine a_iconst (v := 0) dX5_hears_52 (by decide) ?_
  exact wX5_hears_b53 _ _ _ _ hf
set_option maxHeartbeats 4000000 in
set_option maxRecDepth 100000 in
theorem wX5_hears {l : Launch} {Γ : Gx} {a0 : Nat} {x1 : Int32} {M : Mm} {q : Int32 × Mm} (hf : fX5_hears a0 x1 M = some q) : AM l Γ 5 yX5_hears cX5_hears 4 ((some .boolean)) [.ref a0, .int x1] M (some (.int q.1)) q.2 := by
  unfold fX5_hears at hf
  refine AM.of mfX5_hears (Nat.le_of_ble_eq_true rfl) ?_
  generalize mT M = t0
  generalize mW M = w0
  show AW _ _ _ _ _ _ _ _ _ 0 [(0, .ref a0), (1, .int x1)] [] _ _ _
  obtain ⟨u0, eu0, hf⟩ := bnd hf
  refine a_aload_n dX5_hears_0 rfl 0 rfl ?_
  obtain ⟨v1_, ev1_, hf⟩ := bnd hf
  refine a_getI dX5_hears_1 flX5_59 rfl ev1_ ?_
  refine a_bipush (v := 16) dX5_hears_4 (by decide) ?_
  refine a_icmp_lt dX5_hears_6 (tgt := 11) (by decide) (fun c9 => ?_) (fun c9 => ?_)
  · replace hf := iteT hf c9
    refine a_iload_n dX5_hears_11 rfl 1 rfl ?_
    refine a_if_eq dX5_hears_12 (tgt := 20) (by decide) (fun c9 => ?_) (fun c9 => ?_)
    · replace hf := iteT hf c9
      exact wX5_hears_b20 _ _ _ hf
    · replace hf := iteF hf c9
      refine a_iload_n dX5_hears_15 rfl 1 rfl ?_
      refine a_iconst (v := 1) dX5_hears_16 (by decide) ?_
      refine a_icmp_ne dX5_hears_17 (tgt := 36) (by decide) (fun c9 => ?_) (fun c9 => ?_)
      · replace hf := iteF hf c9
        refine a_iload_n dX5_hears_36 rfl 1 rfl ?_
        refine a_bipush (v := 10) dX5_hears_37 (by decide) ?_
        refine a_icmp_lt dX5_hears_39 (tgt := 52) (by decide) (fun c9 => ?_) (fun c9 => ?_)
        · replace hf := iteT hf c9
          exact wX5_hears_b52 _ _ _ hf
        · replace hf := iteF hf c9
          refine a_iload_n dX5_hears_42 rfl 1 rfl ?_
          refine a_bipush (v := 20) dX5_hears_43 (by decide) ?_
          refine a_icmp_ge dX5_hears_45 (tgt := 52) (by decide) (fun c9 => ?_) (fun c9 => ?_)
          · replace hf := iteT hf c9
            exact wX5_hears_b52 _ _ _ hf
          · replace hf := iteF hf c9
            refine a_iconst (v := 1) dX5_hears_48 (by decide) ?_
            refine a_goto (tgt := 53) dX5_hears_49 (by decide) ?_
            exact wX5_hears_b53 _ _ _ _ hf
      · replace hf := iteT hf c9
        exact wX5_hears_b20 _ _ _ hf
  · replace hf := iteF hf c9
    refine a_iconst (v := 0) dX5_hears_9 (by decide) ?_
    have e9 := Option.some.inj hf
    subst e9
    exact a_zret rfl rfl dX5_hears_10 rfl
theorem kX1_lookFrom {a0 : Nat} {a1 : Nat} {M : Mm} {q : Mm} (hf : fX1_lookFrom a0 a1 M = some q) : (mK M a0).1 = 2 := by
  unfold fX1_lookFrom at hf
  obtain ⟨u0, eu0, -⟩ := bnd hf
  exact kc_of eu0
set_option maxHeartbeats 4000000 in
set_option maxRecDepth 100000 in
theorem wX1_lookFrom_b63 {l : Launch} {Γ : Gx} {t0 w0 : Nat} {q : Mm} (k48 : Nat → Nat → Int32 → Mm → Option (Mm)) (hk48 : ∀ (a0 : Nat) (a1 : Nat) (x2 : Int32) (M : Mm), k48 a0 a1 x2 M = some q → AW l Γ yX1_lookFrom cX1_lookFrom 5 (none) 3 t0 w0 48 [(0, .ref a0), (1, .ref a1), (2, .int x2)] [] M none q) : ∀ (n : Nat) (a0 : Nat) (a1 : Nat) (x2 : Int32) (a3 : Option Nat) (x4 : Int32) (M : Mm), fX1_lookFrom_b63 k48 n a0 a1 x2 a3 x4 M = some q → AW l Γ yX1_lookFrom cX1_lookFrom 5 (none) 3 t0 w0 63 [(0, .ref a0), (1, .ref a1), (2, .int x2), (3, rv a3), (4, .int x4)] [] M none q := by
  intro n
  induction n with
  | zero =>
    intro a0 a1 x2 a3 x4 M hf
    cases hf
  | succ n ih =>
    intro a0 a1 x2 a3 x4 M hf
    rw [fX1_lookFrom_b63.eq_2] at hf
    refine a_iload dX1_lookFrom_63 4 rfl ?_
    refine a_bipush (v := 24) dX1_lookFrom_65 (by decide) ?_
    refine a_icmp_ge dX1_lookFrom_67 (tgt := 96) (by decide) (fun c9 => ?_) (fun c9 => ?_)
    · replace hf := iteT hf c9
      refine a_iinc (v := x2 + (1 : Int32)) (lv1 := [(2, .int (x2 + (1 : Int32))), (0, .ref a0), (1, .ref a1), (3, rv a3), (4, .int x4)]) dX1_lookFrom_96 2 rfl rfl (by decide) rfl ?_
      refine a_goto (tgt := 48) dX1_lookFrom_99 (by decide) ?_
      refine AW.sub (lv1 := [(0, .ref a0), (1, .ref a1), (2, .int (x2 + (1 : Int32)))]) [1, 2, 0] rfl ?_
      exact hk48 _ _ _ _ hf
    · replace hf := iteF hf c9
      refine a_aload_nq (x := a3) dX1_lookFrom_70 rfl 3 rfl ?_
      cases a3 with
      | none =>
        replace hf := el0 hf
        refine a_ifnull0 (tgt := 96) dX1_lookFrom_71 (by decide) ?_
        refine a_iinc (v := x2 + (1 : Int32)) (lv1 := [(2, .int (x2 + (1 : Int32))), (0, .ref a0), (1, .ref a1), (3, .null), (4, .int x4)]) dX1_lookFrom_96 2 rfl rfl (by decide) rfl ?_
        refine a_goto (tgt := 48) dX1_lookFrom_99 (by decide) ?_
        refine AW.sub (lv1 := [(0, .ref a0), (1, .ref a1), (2, .int (x2 + (1 : Int32)))]) [1, 2, 0] rfl ?_
        exact hk48 _ _ _ _ hf
      | some o1_ =>
        replace hf := el1 hf
        refine a_ifnull1 dX1_lookFrom_71 ?_
        refine a_aload_n dX1_lookFrom_74 rfl 0 rfl ?_
        obtain ⟨o2_, eo2_, hf⟩ := bnd hf
        refine a_getR dX1_lookFrom_75 flX1_11 rfl eo2_ ?_
        refine a_iload_n dX1_lookFrom_78 rfl 2 rfl ?_
        obtain ⟨n3_, en3_, hf⟩ := bnd hf
        refine a_aald (t := 5) dX1_lookFrom_79 (by decide) en3_ ?_
        refine a_iload dX1_lookFrom_80 4 rfl ?_
        refine a_aload_n dX1_lookFrom_82 rfl 1 rfl ?_
        refine a_aload_n dX1_lookFrom_83 rfl 3 rfl ?_
        refine a_iload dX1_lookFrom_84 4 rfl ?_
        obtain ⟨q4_, eq4_, hf⟩ := bnd hf
        refine a_callV (As := [.ref o1_, .int x4]) (rest := [.int x4, rv n3_]) dX1_lookFrom_86 mfX5_tenthsOf cvX1_48 (wX5_tenthsOf eq4_) rc5 (kX5_tenthsOf eq4_) (by decide) rfl rfl (by simp [rv_cat, vc_int, vc_ref, vc_long, vc_null]) ?_
        cases n3_ with
        | none => cases (el0 hf)
        | some o5_ =>
          replace hf := el1 hf
          obtain ⟨M6_, eM6_, hf⟩ := bnd hf
          refine a_iast dX1_lookFrom_89 eM6_ ?_
          refine a_iinc (v := x4 + (1 : Int32)) (lv1 := [(4, .int (x4 + (1 : Int32))), (0, .ref a0), (1, .ref a1), (2, .int x2), (3, .ref o1_)]) dX1_lookFrom_90 4 rfl rfl (by decide) rfl ?_
          refine a_goto (tgt := 63) dX1_lookFrom_93 (by decide) ?_
          refine AW.sub (lv1 := [(0, .ref a0), (1, .ref a1), (2, .int x2), (3, .ref o1_), (4, .int (x4 + (1 : Int32)))]) [1, 2, 3, 4, 0] rfl ?_
          exact ih _ _ _ _ _ _ hf
set_option maxHeartbeats 4000000 in
set_option maxRecDepth 100000 in
theorem wX1_lookFrom_b48 {l : Launch} {Γ : Gx} {t0 w0 : Nat} {q : Mm} : ∀ (n : Nat) (a0 : Nat) (a1 : Nat) (x2 : Int32) (M : Mm), fX1_lookFrom_b48 n a0 a1 x2 M = some q → AW l Γ yX1_lookFrom cX1_lookFrom 5 (none) 3 t0 w0 48 [(0, .ref a0), (1, .ref a1), (2, .int x2)] [] M none q := by
  intro n
  induction n with
  | zero =>
    intro a0 a1 x2 M hf
    cases hf
  | succ n ih =>
    intro a0 a1 x2 M hf
    rw [fX1_lookFrom_b48.eq_2] at hf
    refine a_iload_n dX1_lookFrom_48 rfl 2 rfl ?_
    refine a_bipush (v := 8) dX1_lookFrom_49 (by decide) ?_
    refine a_icmp_ge dX1_lookFrom_51 (tgt := 102) (by decide) (fun c9 => ?_) (fun c9 => ?_)
    · replace hf := iteT hf c9
      have e9 := Option.some.inj hf
      subst e9
      exact a_vret rfl dX1_lookFrom_102 rfl
    · replace hf := iteF hf c9
      refine a_aload_n dX1_lookFrom_54 rfl 1 rfl ?_
      refine a_iload_n dX1_lookFrom_55 rfl 2 rfl ?_
      obtain ⟨q1_, eq1_, hf⟩ := bnd hf
      refine a_callV (As := [.int x2]) (rest := []) dX1_lookFrom_56 mfX5_signAt cvX1_44 (wX5_signAt eq1_) rc5 (kX5_signAt eq1_) (by decide) rfl rfl (Nat.le_of_ble_eq_true rfl) ?_
      obtain ⟨n2_, en2_, hf⟩ := bnd hf
      refine a_topN en2_ ?_
      refine a_astore_nq (x := n2_) (i := 3) (lv1 := [(3, rv n2_), (0, .ref a0), (1, .ref a1), (2, .int x2)]) dX1_lookFrom_59 rfl (by decide) rfl ?_
      refine a_iconst (v := 0) dX1_lookFrom_60 (by decide) ?_
      refine a_istore (i := 4) (lv1 := [(4, .int ((0 : Int32))), (3, rv n2_), (0, .ref a0), (1, .ref a1), (2, .int x2)]) dX1_lookFrom_61 (by decide) (by simp [lvS, lvD, rv_cat, vc_int, vc_ref, vc_long, vc_null, rv_some]) ?_
      refine AW.sub (lv1 := [(0, .ref a0), (1, .ref a1), (2, .int x2), (3, rv n2_), (4, .int ((0 : Int32)))]) [2, 3, 4, 1, 0] rfl ?_
      exact wX1_lookFrom_b63 _ ih _ _ _ _ _ _ _ hf
set_option maxHeartbeats 4000000 in
set_option maxRecDepth 100000 in
theorem wX1_lookFrom_b18 {l : Launch} {Γ : Gx} {t0 w0 : Nat} {q : Mm} : ∀ (n : Nat) (a0 : Nat) (a1 : Nat) (x2 : Int32) (M : Mm), fX1_lookFrom_b18 n a0 a1 x2 M = some q → AW l Γ yX1_lookFrom cX1_lookFrom 5 (none) 3 t0 w0 18 [(0, .ref a0), (1, .ref a1), (2, .int x2)] [] M none q := by
  intro n
  induction n with
  | zero =>
    intro a0 a1 x2 M hf
    cases hf
  | succ n ih =>
    intro a0 a1 x2 M hf
    rw [fX1_lookFrom_b18.eq_2] at hf
    refine a_iload_n dX1_lookFrom_18 rfl 2 rfl ?_
    refine a_bipush (v := 24) dX1_lookFrom_19 (by decide) ?_
    refine a_icmp_ge dX1_lookFrom_21 (tgt := 46) (by decide) (fun c9 => ?_) (fun c9 => ?_)
    · replace hf := iteT hf c9
      refine a_iconst (v := 0) dX1_lookFrom_46 (by decide) ?_
      refine a_istore_n (i := 2) (lv1 := [(2, .int ((0 : Int32))), (0, .ref a0), (1, .ref a1)]) dX1_lookFrom_47 rfl (by decide) rfl ?_
      refine AW.sub (lv1 := [(0, .ref a0), (1, .ref a1), (2, .int ((0 : Int32)))]) [1, 2, 0] rfl ?_
      exact wX1_lookFrom_b48 _ _ _ _ _ hf
    · replace hf := iteF hf c9
      refine a_aload_n dX1_lookFrom_24 rfl 0 rfl ?_
      obtain ⟨o1_, eo1_, hf⟩ := bnd hf
      refine a_getR dX1_lookFrom_25 flX1_18 rfl eo1_ ?_
      refine a_iconst (v := 0) dX1_lookFrom_28 (by decide) ?_
      obtain ⟨n2_, en2_, hf⟩ := bnd hf
      refine a_aald (t := 6) dX1_lookFrom_29 (by decide) en2_ ?_
      refine a_iload_n dX1_lookFrom_30 rfl 2 rfl ?_
      refine a_aload_n dX1_lookFrom_31 rfl 1 rfl ?_
      obtain ⟨o3_, eo3_, hf⟩ := bnd hf
      refine a_getR dX1_lookFrom_32 flX1_34 rfl eo3_ ?_
      refine a_iload_n dX1_lookFrom_35 rfl 2 rfl ?_
      obtain ⟨q4_, eq4_, hf⟩ := bnd hf
      refine a_callV (As := [.int x2]) (rest := [.int x2, rv n2_]) dX1_lookFrom_36 mfX0_at cvX1_38 (wX0_at eq4_) rc0 (kX0_at eq4_) (by decide) rfl rfl (by simp [rv_cat, vc_int, vc_ref, vc_long, vc_null]) ?_
      cases n2_ with
      | none => cases (el0 hf)
      | some o5_ =>
        replace hf := el1 hf
        obtain ⟨M6_, eM6_, hf⟩ := bnd hf
        refine a_last dX1_lookFrom_39 eM6_ ?_
        refine a_iinc (v := x2 + (1 : Int32)) (lv1 := [(2, .int (x2 + (1 : Int32))), (0, .ref a0), (1, .ref a1)]) dX1_lookFrom_40 2 rfl rfl (by decide) rfl ?_
        refine a_goto (tgt := 18) dX1_lookFrom_43 (by decide) ?_
        refine AW.sub (lv1 := [(0, .ref a0), (1, .ref a1), (2, .int (x2 + (1 : Int32)))]) [1, 2, 0] rfl ?_
        exact ih _ _ _ _ hf
set_option maxHeartbeats 4000000 in
set_option maxRecDepth 100000 in
theorem wX1_lookFrom {l : Launch} {Γ : Gx} {a0 : Nat} {a1 : Nat} {M : Mm} {q : Mm} (hf : fX1_lookFrom a0 a1 M = some q) : AM l Γ 3 yX1_lookFrom cX1_lookFrom 5 (none) [.ref a0, .ref a1] M none q := by
  unfold fX1_lookFrom at hf
  refine AM.of mfX1_lookFrom (Nat.le_of_ble_eq_true rfl) ?_
  generalize mT M = t0
  generalize mW M = w0
  show AW _ _ _ _ _ _ _ _ _ 0 [(0, .ref a0), (1, .ref a1)] [] _ _ _
  obtain ⟨u0, eu0, hf⟩ := bnd hf
  refine a_aload_n dX1_lookFrom_0 rfl 0 rfl ?_
  refine a_aload_n dX1_lookFrom_1 rfl 1 rfl ?_
  obtain ⟨v1_, ev1_, hf⟩ := bnd hf
  refine a_getI dX1_lookFrom_2 flX1_28 rfl ev1_ ?_
  obtain ⟨M2_, eM2_, hf⟩ := bnd hf
  refine a_putI dX1_lookFrom_5 fpX1_21 rfl (Or.inr nf1_2) eM2_ ?_
  refine a_aload_n dX1_lookFrom_8 rfl 0 rfl ?_
  refine a_aload_n dX1_lookFrom_9 rfl 1 rfl ?_
  obtain ⟨v3_, ev3_, hf⟩ := bnd hf
  refine a_getI dX1_lookFrom_10 flX1_31 rfl ev3_ ?_
  obtain ⟨M4_, eM4_, hf⟩ := bnd hf
  refine a_putI dX1_lookFrom_13 fpX1_25 rfl (Or.inr nf1_3) eM4_ ?_
  refine a_iconst (v := 0) dX1_lookFrom_16 (by decide) ?_
  refine a_istore_n (i := 2) (lv1 := [(2, .int ((0 : Int32))), (0, .ref a0), (1, .ref a1)]) dX1_lookFrom_17 rfl (by decide) rfl ?_
  refine AW.sub (lv1 := [(0, .ref a0), (1, .ref a1), (2, .int ((0 : Int32)))]) [1, 2, 0] rfl ?_
  exact wX1_lookFrom_b18 _ _ _ _ _ hf
theorem kX1_greatest {a0 : Nat} {x1 : Int32} {M : Mm} {q : Int64 × Mm} (hf : fX1_greatest a0 x1 M = some q) : (mK M a0).1 = 2 := by
  unfold fX1_greatest at hf
  obtain ⟨u0, eu0, -⟩ := bnd hf
  exact kc_of eu0
set_option maxHeartbeats 4000000 in
set_option maxRecDepth 100000 in
theorem wX1_greatest_b24 {l : Launch} {Γ : Gx} {t0 w0 : Nat} {q : Int64 × Mm} : ∀ (n : Nat) (a0 : Nat) (a2 : Option Nat) (x3 : Int64) (x5 : Int32) (M : Mm), fX1_greatest_b24 n a0 a2 x3 x5 M = some q → AW l Γ yX1_greatest cX1_greatest 6 ((some .long)) 1 t0 w0 24 [(0, .ref a0), (2, rv a2), (3, .long x3), (5, .int x5)] [] M (some (.long q.1)) q.2 := by
  intro n
  induction n with
  | zero =>
    intro a0 a2 x3 x5 M hf
    cases hf
  | succ n ih =>
    intro a0 a2 x3 x5 M hf
    rw [fX1_greatest_b24.eq_2] at hf
    refine a_iload dX1_greatest_24 3 rfl ?_
    refine a_aload_n dX1_greatest_26 rfl 0 rfl ?_
    obtain ⟨v1_, ev1_, hf⟩ := bnd hf
    refine a_getI dX1_greatest_27 flX1_25 rfl ev1_ ?_
    refine a_icmp_ge dX1_greatest_30 (tgt := 60) (by decide) (fun c9 => ?_) (fun c9 => ?_)
    · replace hf := iteT hf c9
      refine a_lload_n dX1_greatest_60 rfl 2 rfl ?_
      have e9 := Option.some.inj hf
      subst e9
      exact a_lret rfl dX1_greatest_61 rfl
    · replace hf := iteF hf c9
      refine a_iload dX1_greatest_33 3 rfl ?_
      refine a_bipush (v := 24) dX1_greatest_35 (by decide) ?_
      refine a_icmp_ge dX1_greatest_37 (tgt := 60) (by decide) (fun c9 => ?_) (fun c9 => ?_)
      · replace hf := iteT hf c9
        refine a_lload_n dX1_greatest_60 rfl 2 rfl ?_
        have e9 := Option.some.inj hf
        subst e9
        exact a_lret rfl dX1_greatest_61 rfl
      · replace hf := iteF hf c9
        refine a_aload_nq (x := a2) dX1_greatest_40 rfl 1 rfl ?_
        refine a_iload dX1_greatest_41 3 rfl ?_
        cases a2 with
        | none => cases (el0 hf)
        | some o2_ =>
          replace hf := el1 hf
          obtain ⟨v3_, ev3_, hf⟩ := bnd hf
          refine a_lald dX1_greatest_43 ev3_ ?_
          refine a_lload_n dX1_greatest_44 rfl 2 rfl ?_
          refine a_lcmp_le dX1_greatest_45 dX1_greatest_46 (tgt := 54) (by decide) (fun c9 => ?_) (fun c9 => ?_)
          · replace hf := iteT hf c9
            refine a_iinc (v := x5 + (1 : Int32)) (lv1 := [(5, .int (x5 + (1 : Int32))), (0, .ref a0), (2, .ref o2_), (3, .long x3)]) dX1_greatest_54 3 rfl rfl (by decide) rfl ?_
            refine a_goto (tgt := 24) dX1_greatest_57 (by decide) ?_
            refine AW.sub (lv1 := [(0, .ref a0), (2, .ref o2_), (3, .long x3), (5, .int (x5 + (1 : Int32)))]) [1, 2, 3, 0] rfl ?_
            exact ih _ _ _ _ _ hf
          · replace hf := iteF hf c9
            refine a_aload_n dX1_greatest_49 rfl 1 rfl ?_
            refine a_iload dX1_greatest_50 3 rfl ?_
            obtain ⟨v4_, ev4_, hf⟩ := bnd hf
            refine a_lald dX1_greatest_52 ev4_ ?_
            refine a_lstore_n (i := 3) (lv1 := [(3, .long v4_), (0, .ref a0), (2, .ref o2_), (5, .int x5)]) dX1_greatest_53 rfl (by decide) rfl ?_
            refine a_iinc (v := x5 + (1 : Int32)) (lv1 := [(5, .int (x5 + (1 : Int32))), (3, .long v4_), (0, .ref a0), (2, .ref o2_)]) dX1_greatest_54 3 rfl rfl (by decide) rfl ?_
            refine a_goto (tgt := 24) dX1_greatest_57 (by decide) ?_
            refine AW.sub (lv1 := [(0, .ref a0), (2, .ref o2_), (3, .long v4_), (5, .int (x5 + (1 : Int32)))]) [2, 3, 1, 0] rfl ?_
            exact ih _ _ _ _ _ hf
set_option maxHeartbeats 4000000 in
set_option maxRecDepth 100000 in
theorem wX1_greatest {l : Launch} {Γ : Gx} {a0 : Nat} {x1 : Int32} {M : Mm} {q : Int64 × Mm} (hf : fX1_greatest a0 x1 M = some q) : AM l Γ 1 yX1_greatest cX1_greatest 6 ((some .long)) [.ref a0, .int x1] M (some (.long q.1)) q.2 := by
  unfold fX1_greatest at hf
  refine AM.of mfX1_greatest (Nat.le_of_ble_eq_true rfl) ?_
  generalize mT M = t0
  generalize mW M = w0
  show AW _ _ _ _ _ _ _ _ _ 0 [(0, .ref a0), (1, .int x1)] [] _ _ _
  obtain ⟨u0, eu0, hf⟩ := bnd hf
  refine a_iload_n dX1_greatest_0 rfl 1 rfl ?_
  refine a_if_lt dX1_greatest_1 (tgt := 10) (by decide) (fun c9 => ?_) (fun c9 => ?_)
  · replace hf := iteT hf c9
    refine a_lconst (v := 0) dX1_greatest_10 rfl ?_
    have e9 := Option.some.inj hf
    subst e9
    exact a_lret rfl dX1_greatest_11 rfl
  · replace hf := iteF hf c9
    refine a_iload_n dX1_greatest_4 rfl 1 rfl ?_
    refine a_bipush (v := 8) dX1_greatest_5 (by decide) ?_
    refine a_icmp_le dX1_greatest_7 (tgt := 12) (by decide) (fun c9 => ?_) (fun c9 => ?_)
    · replace hf := iteT hf c9
      refine a_aload_n dX1_greatest_12 rfl 0 rfl ?_
      obtain ⟨o1_, eo1_, hf⟩ := bnd hf
      refine a_getR dX1_greatest_13 flX1_18 rfl eo1_ ?_
      refine a_iload_n dX1_greatest_16 rfl 1 rfl ?_
      obtain ⟨n2_, en2_, hf⟩ := bnd hf
      refine a_aald (t := 6) dX1_greatest_17 (by decide) en2_ ?_
      refine a_astore_nq (x := n2_) (i := 2) (lv1 := [(2, rv n2_), (0, .ref a0), (1, .int x1)]) dX1_greatest_18 rfl (by decide) rfl ?_
      refine a_lconst (v := 0) dX1_greatest_19 rfl ?_
      refine a_lstore_n (i := 3) (lv1 := [(3, .long ((0 : Int64))), (2, rv n2_), (0, .ref a0), (1, .int x1)]) dX1_greatest_20 rfl (by decide) (by simp [lvS, lvD, rv_cat, vc_int, vc_ref, vc_long, vc_null, rv_some]) ?_
      refine a_iconst (v := 0) dX1_greatest_21 (by decide) ?_
      refine a_istore (i := 5) (lv1 := [(5, .int ((0 : Int32))), (3, .long ((0 : Int64))), (2, rv n2_), (0, .ref a0), (1, .int x1)]) dX1_greatest_22 (by decide) rfl ?_
      refine AW.sub (lv1 := [(0, .ref a0), (2, rv n2_), (3, .long ((0 : Int64))), (5, .int ((0 : Int32)))]) [3, 2, 1, 0] rfl ?_
      exact wX1_greatest_b24 _ _ _ _ _ _ hf
    · replace hf := iteF hf c9
      refine a_lconst (v := 0) dX1_greatest_10 rfl ?_
      have e9 := Option.some.inj hf
      subst e9
      exact a_lret rfl dX1_greatest_11 rfl
set_option maxHeartbeats 4000000 in
set_option maxRecDepth 100000 in
theorem wX1_lowestOf_b2 {l : Launch} {Γ : Gx} {t0 w0 : Nat} {q : Int32 × Mm} : ∀ (n : Nat) (x0 : Int32) (x1 : Int32) (M : Mm), fX1_lowestOf_b2 n x0 x1 M = some q → AW l Γ yX1_lowestOf cX1_lowestOf 2 ((some .int)) 1 t0 w0 2 [(0, .int x0), (1, .int x1)] [] M (some (.int q.1)) q.2 := by
  intro n
  induction n with
  | zero =>
    intro x0 x1 M hf
    cases hf
  | succ n ih =>
    intro x0 x1 M hf
    rw [fX1_lowestOf_b2.eq_2] at hf
    refine a_iload_n dX1_lowestOf_2 rfl 1 rfl ?_
    refine a_bipush (v := 7) dX1_lowestOf_3 (by decide) ?_
    refine a_icmp_ge dX1_lowestOf_5 (tgt := 22) (by decide) (fun c9 => ?_) (fun c9 => ?_)
    · replace hf := iteT hf c9
      refine a_iload_n dX1_lowestOf_22 rfl 1 rfl ?_
      have e9 := Option.some.inj hf
      subst e9
      exact a_iret rfl dX1_lowestOf_23 rfl
    · replace hf := iteF hf c9
      refine a_iload_n dX1_lowestOf_8 rfl 0 rfl ?_
      refine a_iload_n dX1_lowestOf_9 rfl 1 rfl ?_
      refine a_ishr dX1_lowestOf_10 ?_
      refine a_iconst (v := 1) dX1_lowestOf_11 (by decide) ?_
      refine a_iand dX1_lowestOf_12 ?_
      refine a_if_ne dX1_lowestOf_13 (tgt := 22) (by decide) (fun c9 => ?_) (fun c9 => ?_)
      · replace hf := iteF hf c9
        refine a_iload_n dX1_lowestOf_22 rfl 1 rfl ?_
        have e9 := Option.some.inj hf
        subst e9
        exact a_iret rfl dX1_lowestOf_23 rfl
      · replace hf := iteT hf c9
        refine a_iinc (v := x1 + (1 : Int32)) (lv1 := [(1, .int (x1 + (1 : Int32))), (0, .int x0)]) dX1_lowestOf_16 1 rfl rfl (by decide) rfl ?_
        refine a_goto (tgt := 2) dX1_lowestOf_19 (by decide) ?_
        refine AW.sub (lv1 := [(0, .int x0), (1, .int (x1 + (1 : Int32)))]) [1, 0] rfl ?_
        exact ih _ _ _ hf
set_option maxHeartbeats 4000000 in
set_option maxRecDepth 100000 in
theorem wX1_lowestOf {l : Launch} {Γ : Gx} {x0 : Int32} {M : Mm} {q : Int32 × Mm} (hf : fX1_lowestOf x0 M = some q) : AM l Γ 1 yX1_lowestOf cX1_lowestOf 2 ((some .int)) [.int x0] M (some (.int q.1)) q.2 := by
  unfold fX1_lowestOf at hf
  refine AM.of mfX1_lowestOf (Nat.le_of_ble_eq_true rfl) ?_
  generalize mT M = t0
  generalize mW M = w0
  show AW _ _ _ _ _ _ _ _ _ 0 [(0, .int x0)] [] _ _ _
  refine a_iconst (v := 0) dX1_lowestOf_0 (by decide) ?_
  refine a_istore_n (i := 1) (lv1 := [(1, .int ((0 : Int32))), (0, .int x0)]) dX1_lowestOf_1 rfl (by decide) rfl ?_
  refine AW.sub (lv1 := [(0, .int x0), (1, .int ((0 : Int32)))]) [1, 0] rfl ?_
  exact wX1_lowestOf_b2 _ _ _ _ hf
theorem kX1_weigh {a0 : Nat} {x1 : Int32} {x2 : Int32} {x3 : Int32} {M : Mm} {q : Int32 × Mm} (hf : fX1_weigh a0 x1 x2 x3 M = some q) : (mK M a0).1 = 2 := by
  unfold fX1_weigh at hf
  obtain ⟨u0, eu0, -⟩ := bnd hf
  exact kc_of eu0
set_option maxHeartbeats 4000000 in
set_option maxRecDepth 100000 in
theorem wX1_weigh_b118 {l : Launch} {Γ : Gx} {t0 w0 : Nat} {q : Int32 × Mm} (x7 : Int64) (M : Mm) (hf : fX1_weigh_b118 x7 M = some q) : AW l Γ yX1_weigh cX1_weigh 10 ((some .boolean)) 1 t0 w0 118 [(7, .long x7)] [] M (some (.int q.1)) q.2 := by
  unfold fX1_weigh_b118 at hf
  refine a_lload dX1_weigh_118 0 rfl ?_
  refine a_lconst (v := 0) dX1_weigh_120 rfl ?_
  refine a_lcmp_eq dX1_weigh_121 dX1_weigh_122 (tgt := 129) (by decide) (fun c9 => ?_) (fun c9 => ?_)
  · replace hf := iteT hf c9
    refine a_iconst (v := 0) dX1_weigh_129 (by decide) ?_
    have e9 := Option.some.inj hf
    subst e9
    exact a_zret rfl rfl dX1_weigh_130 rfl
  · replace hf := iteF hf c9
    refine a_iconst (v := 1) dX1_weigh_125 (by decide) ?_
    refine a_goto (tgt := 130) dX1_weigh_126 (by decide) ?_
    have e9 := Option.some.inj hf
    subst e9
    exact a_zret rfl rfl dX1_weigh_130 rfl
set_option maxHeartbeats 4000000 in
set_option maxRecDepth 100000 in
theorem wX1_weigh_b99 {l : Launch} {Γ : Gx} {t0 w0 : Nat} {q : Int32 × Mm} (k54 : Nat → Int32 → Option Nat → Option Nat → Option Nat → Int64 → Int32 → Mm → Option (Int32 × Mm)) (hk54 : ∀ (a0 : Nat) (x3 : Int32) (a4 : Option Nat) (a5 : Option Nat) (a6 : Option Nat) (x7 : Int64) (x9 : Int32) (M : Mm), k54 a0 x3 a4 a5 a6 x7 x9 M = some q → AW l Γ yX1_weigh cX1_weigh 10 ((some .boolean)) 1 t0 w0 54 [(0, .ref a0), (3, .int x3), (4, rv a4), (5, rv a5), (6, rv a6), (7, .long x7), (9, .int x9)] [] M (some (.int q.1)) q.2) (a0 : Nat) (x3 : Int32) (a4 : Option Nat) (a5 : Option Nat) (a6 : Option Nat) (x7 : Int64) (x9 : Int32) (s0 : Option Nat) (s1 : Int32) (s2 : Int64) (s3 : Int32) (M : Mm) (hf : fX1_weigh_b99 k54 a0 x3 a4 a5 a6 x7 x9 s0 s1 s2 s3 M = some q) : AW l Γ yX1_weigh cX1_weigh 10 ((some .boolean)) 1 t0 w0 99 [(0, .ref a0), (3, .int x3), (4, rv a4), (5, rv a5), (6, rv a6), (7, .long x7), (9, .int x9)] [.int s3, .long s2, .int s1, rv s0] M (some (.int q.1)) q.2 := by
  unfold fX1_weigh_b99 at hf
  refine a_i2l dX1_weigh_99 ?_
  refine a_lmul dX1_weigh_100 ?_
  cases s0 with
  | none => cases (el0 hf)
  | some o1_ =>
    replace hf := el1 hf
    obtain ⟨M2_, eM2_, hf⟩ := bnd hf
    refine a_last dX1_weigh_101 eM2_ ?_
    refine a_lload dX1_weigh_102 5 rfl ?_
    refine a_aloadq (x := a5) dX1_weigh_104 3 rfl ?_
    refine a_iload dX1_weigh_106 6 rfl ?_
    cases a5 with
    | none => cases (el0 hf)
    | some o3_ =>
      replace hf := el1 hf
      obtain ⟨v4_, ev4_, hf⟩ := bnd hf
      refine a_lald dX1_weigh_108 ev4_ ?_
      refine a_lor dX1_weigh_109 ?_
      refine a_lstore (i := 7) (lv1 := [(7, .long (x7 ||| v4_)), (0, .ref a0), (3, .int x3), (4, rv a4), (5, .ref o3_), (6, rv a6), (9, .int x9)]) dX1_weigh_110 (by decide) (by simp [lvS, lvD, rv_cat, vc_int, vc_ref, vc_long, vc_null, rv_some]) ?_
      refine a_iinc (v := x9 + (1 : Int32)) (lv1 := [(9, .int (x9 + (1 : Int32))), (7, .long (x7 ||| v4_)), (0, .ref a0), (3, .int x3), (4, rv a4), (5, .ref o3_), (6, rv a6)]) dX1_weigh_112 6 rfl rfl (by decide) rfl ?_
      refine a_goto (tgt := 54) dX1_weigh_115 (by decide) ?_
      refine AW.sub (lv1 := [(0, .ref a0), (3, .int x3), (4, rv a4), (5, .ref o3_), (6, rv a6), (7, .long (x7 ||| v4_)), (9, .int (x9 + (1 : Int32)))]) [2, 3, 4, 5, 6, 1, 0] rfl ?_
      exact hk54 _ _ _ _ _ _ _ _ hf
set_option maxHeartbeats 4000000 in
set_option maxRecDepth 100000 in
theorem wX1_weigh_b54 {l : Launch} {Γ : Gx} {t0 w0 : Nat} {q : Int32 × Mm} : ∀ (n : Nat) (a0 : Nat) (x3 : Int32) (a4 : Option Nat) (a5 : Option Nat) (a6 : Option Nat) (x7 : Int64) (x9 : Int32) (M : Mm), fX1_weigh_b54 n a0 x3 a4 a5 a6 x7 x9 M = some q → AW l Γ yX1_weigh cX1_weigh 10 ((some .boolean)) 1 t0 w0 54 [(0, .ref a0), (3, .int x3), (4, rv a4), (5, rv a5), (6, rv a6), (7, .long x7), (9, .int x9)] [] M (some (.int q.1)) q.2 := by
  intro n
  induction n with
  | zero =>
    intro a0 x3 a4 a5 a6 x7 x9 M hf
    cases hf
  | succ n ih =>
    intro a0 x3 a4 a5 a6 x7 x9 M hf
    rw [fX1_weigh_b54.eq_2] at hf
    refine a_iload dX1_weigh_54 6 rfl ?_
    refine a_aload_n dX1_weigh_56 rfl 0 rfl ?_
    obtain ⟨v1_, ev1_, hf⟩ := bnd hf
    refine a_getI dX1_weigh_57 flX1_25 rfl ev1_ ?_
    refine a_icmp_ge dX1_weigh_60 (tgt := 118) (by decide) (fun c9 => ?_) (fun c9 => ?_)
    · replace hf := iteT hf c9
      refine AW.sub (lv1 := [(7, .long x7)]) [5] rfl ?_
      exact wX1_weigh_b118 _ _ hf
    · replace hf := iteF hf c9
      refine a_iload dX1_weigh_63 6 rfl ?_
      refine a_bipush (v := 24) dX1_weigh_65 (by decide) ?_
      refine a_icmp_ge dX1_weigh_67 (tgt := 118) (by decide) (fun c9 => ?_) (fun c9 => ?_)
      · replace hf := iteT hf c9
        refine AW.sub (lv1 := [(7, .long x7)]) [5] rfl ?_
        exact wX1_weigh_b118 _ _ hf
      · replace hf := iteF hf c9
        refine a_aloadq (x := a5) dX1_weigh_70 3 rfl ?_
        refine a_iload dX1_weigh_72 6 rfl ?_
        refine a_aloadq (x := a4) dX1_weigh_74 2 rfl ?_
        refine a_iload dX1_weigh_76 6 rfl ?_
        cases a4 with
        | none => cases (el0 hf)
        | some o2_ =>
          replace hf := el1 hf
          obtain ⟨v3_, ev3_, hf⟩ := bnd hf
          refine a_lald dX1_weigh_78 ev3_ ?_
          refine a_iload_n dX1_weigh_79 rfl 1 rfl ?_
          refine a_if_eq dX1_weigh_80 (tgt := 91) (by decide) (fun c9 => ?_) (fun c9 => ?_)
          · replace hf := iteT hf c9
            refine a_bipush (v := 10) dX1_weigh_91 (by decide) ?_
            refine a_aloadq (x := a6) dX1_weigh_93 4 rfl ?_
            refine a_iload dX1_weigh_95 6 rfl ?_
            cases a6 with
            | none => cases (el0 hf)
            | some o4_ =>
              replace hf := el1 hf
              obtain ⟨v5_, ev5_, hf⟩ := bnd hf
              refine a_iald dX1_weigh_97 ev5_ ?_
              refine a_isub dX1_weigh_98 ?_
              exact wX1_weigh_b99 _ ih _ _ _ _ _ _ _ _ _ _ _ _ hf
          · replace hf := iteF hf c9
            refine a_aloadq (x := a6) dX1_weigh_83 4 rfl ?_
            refine a_iload dX1_weigh_85 6 rfl ?_
            cases a6 with
            | none => cases (el0 hf)
            | some o6_ =>
              replace hf := el1 hf
              obtain ⟨v7_, ev7_, hf⟩ := bnd hf
              refine a_iald dX1_weigh_87 ev7_ ?_
              refine a_goto (tgt := 99) dX1_weigh_88 (by decide) ?_
              exact wX1_weigh_b99 _ ih _ _ _ _ _ _ _ _ _ _ _ _ hf
set_option maxHeartbeats 4000000 in
set_option maxRecDepth 100000 in
theorem wX1_weigh {l : Launch} {Γ : Gx} {a0 : Nat} {x1 : Int32} {x2 : Int32} {x3 : Int32} {M : Mm} {q : Int32 × Mm} (hf : fX1_weigh a0 x1 x2 x3 M = some q) : AM l Γ 1 yX1_weigh cX1_weigh 10 ((some .boolean)) [.ref a0, .int x1, .int x2, .int x3] M (some (.int q.1)) q.2 := by
  unfold fX1_weigh at hf
  refine AM.of mfX1_weigh (Nat.le_of_ble_eq_true rfl) ?_
  generalize mT M = t0
  generalize mW M = w0
  show AW _ _ _ _ _ _ _ _ _ 0 [(0, .ref a0), (1, .int x1), (2, .int x2), (3, .int x3)] [] _ _ _
  obtain ⟨u0, eu0, hf⟩ := bnd hf
  refine a_iload_n dX1_weigh_0 rfl 1 rfl ?_
  refine a_if_lt dX1_weigh_1 (tgt := 20) (by decide) (fun c9 => ?_) (fun c9 => ?_)
  · replace hf := iteT hf c9
    refine a_iconst (v := 0) dX1_weigh_20 (by decide) ?_
    have e9 := Option.some.inj hf
    subst e9
    exact a_zret rfl rfl dX1_weigh_21 rfl
  · replace hf := iteF hf c9
    refine a_iload_n dX1_weigh_4 rfl 1 rfl ?_
    refine a_bipush (v := 8) dX1_weigh_5 (by decide) ?_
    refine a_icmp_ge dX1_weigh_7 (tgt := 20) (by decide) (fun c9 => ?_) (fun c9 => ?_)
    · replace hf := iteT hf c9
      refine a_iconst (v := 0) dX1_weigh_20 (by decide) ?_
      have e9 := Option.some.inj hf
      subst e9
      exact a_zret rfl rfl dX1_weigh_21 rfl
    · replace hf := iteF hf c9
      refine a_iload_n dX1_weigh_10 rfl 2 rfl ?_
      refine a_if_lt dX1_weigh_11 (tgt := 20) (by decide) (fun c9 => ?_) (fun c9 => ?_)
      · replace hf := iteT hf c9
        refine a_iconst (v := 0) dX1_weigh_20 (by decide) ?_
        have e9 := Option.some.inj hf
        subst e9
        exact a_zret rfl rfl dX1_weigh_21 rfl
      · replace hf := iteF hf c9
        refine a_iload_n dX1_weigh_14 rfl 2 rfl ?_
        refine a_bipush (v := 8) dX1_weigh_15 (by decide) ?_
        refine a_icmp_lt dX1_weigh_17 (tgt := 22) (by decide) (fun c9 => ?_) (fun c9 => ?_)
        · replace hf := iteT hf c9
          refine a_aload_n dX1_weigh_22 rfl 0 rfl ?_
          obtain ⟨o1_, eo1_, hf⟩ := bnd hf
          refine a_getR dX1_weigh_23 flX1_18 rfl eo1_ ?_
          refine a_iload_n dX1_weigh_26 rfl 1 rfl ?_
          obtain ⟨n2_, en2_, hf⟩ := bnd hf
          refine a_aald (t := 6) dX1_weigh_27 (by decide) en2_ ?_
          refine a_astoreq (x := n2_) (i := 4) (lv1 := [(4, rv n2_), (0, .ref a0), (1, .int x1), (2, .int x2), (3, .int x3)]) dX1_weigh_28 (by decide) rfl ?_
          refine a_aload_n dX1_weigh_30 rfl 1 rfl ?_
          obtain ⟨o3_, eo3_, hf⟩ := bnd hf
          refine a_getR dX1_weigh_31 flX1_18 rfl eo3_ ?_
          refine a_iload_n dX1_weigh_34 rfl 2 rfl ?_
          refine a_iconst (v := 1) dX1_weigh_35 (by decide) ?_
          refine a_iadd dX1_weigh_36 ?_
          obtain ⟨n4_, en4_, hf⟩ := bnd hf
          refine a_aald (t := 6) dX1_weigh_37 (by decide) en4_ ?_
          refine a_astoreq (x := n4_) (i := 5) (lv1 := [(5, rv n4_), (4, rv n2_), (0, .ref a0), (1, .int x1), (2, .int x2), (3, .int x3)]) dX1_weigh_38 (by decide) (by simp [lvS, lvD, rv_cat, vc_int, vc_ref, vc_long, vc_null, rv_some]) ?_
          refine a_aload_n dX1_weigh_40 rfl 2 rfl ?_
          obtain ⟨o5_, eo5_, hf⟩ := bnd hf
          refine a_getR dX1_weigh_41 flX1_11 rfl eo5_ ?_
          refine a_iload_n dX1_weigh_44 rfl 4 rfl ?_
          obtain ⟨n6_, en6_, hf⟩ := bnd hf
          refine a_aald (t := 5) dX1_weigh_45 (by decide) en6_ ?_
          refine a_astoreq (x := n6_) (i := 6) (lv1 := [(6, rv n6_), (5, rv n4_), (4, rv n2_), (0, .ref a0), (1, .int x1), (2, .int x2), (3, .int x3)]) dX1_weigh_46 (by decide) (by simp [lvS, lvD, rv_cat, vc_int, vc_ref, vc_long, vc_null, rv_some]) ?_
          refine a_lconst (v := 0) dX1_weigh_48 rfl ?_
          refine a_lstore (i := 7) (lv1 := [(7, .long ((0 : Int64))), (6, rv n6_), (5, rv n4_), (4, rv n2_), (0, .ref a0), (1, .int x1), (2, .int x2), (3, .int x3)]) dX1_weigh_49 (by decide) (by simp [lvS, lvD, rv_cat, vc_int, vc_ref, vc_long, vc_null, rv_some]) ?_
          refine a_iconst (v := 0) dX1_weigh_51 (by decide) ?_
          refine a_istore (i := 9) (lv1 := [(9, .int ((0 : Int32))), (7, .long ((0 : Int64))), (6, rv n6_), (5, rv n4_), (4, rv n2_), (0, .ref a0), (1, .int x1), (2, .int x2), (3, .int x3)]) dX1_weigh_52 (by decide) rfl ?_
          refine AW.sub (lv1 := [(0, .ref a0), (3, .int x3), (4, rv n2_), (5, rv n4_), (6, rv n6_), (7, .long ((0 : Int64))), (9, .int ((0 : Int32)))]) [5, 8, 4, 3, 2, 1, 0] rfl ?_
          exact wX1_weigh_b54 _ _ _ _ _ _ _ _ _ hf
        · replace hf := iteF hf c9
          refine a_iconst (v := 0) dX1_weigh_20 (by decide) ?_
          have e9 := Option.some.inj hf
          subst e9
          exact a_zret rfl rfl dX1_weigh_21 rfl
set_option maxHeartbeats 4000000 in
set_option maxRecDepth 100000 in
theorem wX1_worthBehind {l : Launch} {Γ : Gx} : ∀ (n : Nat) {a0 : Nat} {x1 : Int32} {x2 : Int32} {M : Mm} {q : Int64 × Mm} (_ : fX1_worthBehind n a0 x1 x2 M = some q), AM l Γ (n + 2) yX1_worthBehind cX1_worthBehind 7 ((some .long)) [.ref a0, .int x1, .int x2] M (some (.long q.1)) q.2 := by
  intro n
  induction n with
  | zero =>
    intro a0 x1 x2 M q hf
    cases hf
  | succ n ih0 =>
    intro a0 x1 x2 M q hf
    have ih := fun (a0 : Nat) (x1 : Int32) (x2 : Int32) (M : Mm) {q : Int64 × Mm} (hf : fX1_worthBehind n a0 x1 x2 M = some q) => ih0 hf
    rw [fX1_worthBehind.eq_2] at hf
    refine AM.of mfX1_worthBehind (Nat.le_of_ble_eq_true rfl) ?_
    generalize mT M = t0
    generalize mW M = w0
    show AW _ _ _ _ _ _ _ _ _ 0 [(0, .ref a0), (1, .int x1), (2, .int x2)] [] _ _ _
    refine a_iload_n dX1_worthBehind_0 rfl 1 rfl ?_
    refine a_if_eq dX1_worthBehind_1 (tgt := 10) (by decide) (fun c9 => ?_) (fun c9 => ?_)
    · replace hf := iteT hf c9
      refine a_aload_n dX1_worthBehind_10 rfl 0 rfl ?_
      refine a_iload_n dX1_worthBehind_11 rfl 2 rfl ?_
      obtain ⟨q1_, eq1_, hf⟩ := bnd hf
      refine a_callV (As := [.int x2]) (rest := []) dX1_worthBehind_12 mfX1_greatest cvX1_67 (wX1_greatest eq1_) rc1 (kX1_greatest eq1_) (by omega) rfl rfl (Nat.le_of_ble_eq_true rfl) ?_
      have e9 := Option.some.inj hf
      subst e9
      exact a_lret rfl dX1_worthBehind_15 rfl
    · replace hf := iteF hf c9
      refine a_iload_n dX1_worthBehind_4 rfl 2 rfl ?_
      refine a_bipush (v := 8) dX1_worthBehind_5 (by decide) ?_
      refine a_icmp_lt dX1_worthBehind_7 (tgt := 16) (by decide) (fun c9 => ?_) (fun c9 => ?_)
      · replace hf := iteT hf c9
        refine a_iload_n dX1_worthBehind_16 rfl 1 rfl ?_
        obtain ⟨q2_, eq2_, hf⟩ := bnd hf
        refine a_callS (As := [.int x1]) (rest := []) dX1_worthBehind_17 mfX1_lowestOf csX1_86 (wX1_lowestOf eq2_) (by omega) rfl rfl (Nat.le_of_ble_eq_true rfl) ?_
        refine a_istore_n (i := 3) (lv1 := [(3, .int q2_.1), (0, .ref a0), (1, .int x1), (2, .int x2)]) dX1_worthBehind_20 rfl (by decide) rfl ?_
        refine a_iload_n dX1_worthBehind_21 rfl 2 rfl ?_
        refine a_iload_n dX1_worthBehind_22 rfl 2 rfl ?_
        refine a_iconst (v := 1) dX1_worthBehind_23 (by decide) ?_
        refine a_isub dX1_worthBehind_24 ?_
        refine a_iand dX1_worthBehind_25 ?_
        refine a_istore (i := 4) (lv1 := [(4, .int (x1 &&& (x1 - ((1 : Int32))))), (3, .int q2_.1), (0, .ref a0), (1, .int x1), (2, .int x2)]) dX1_worthBehind_26 (by decide) rfl ?_
        refine a_aload_n dX1_worthBehind_28 rfl 2 rfl ?_
        refine a_iload_n dX1_worthBehind_29 rfl 4 rfl ?_
        refine a_iload_n dX1_worthBehind_30 rfl 1 rfl ?_
        refine a_iconst (v := 1) dX1_worthBehind_31 (by decide) ?_
        obtain ⟨q3_, eq3_, hf⟩ := bnd hf
        refine a_callV (As := [.int x2, .int q2_.1, .int ((1 : Int32))]) (rest := []) dX1_worthBehind_32 mfX1_weigh cvX1_58 (wX1_weigh eq3_) rc1 (kX1_weigh eq3_) (by omega) rfl rfl (Nat.le_of_ble_eq_true rfl) ?_
        refine a_if_eq dX1_worthBehind_35 (tgt := 50) (by decide) (fun c9 => ?_) (fun c9 => ?_)
        · replace hf := iteT hf c9
          refine a_lconst (v := 0) dX1_worthBehind_50 rfl ?_
          refine a_lstore (i := 5) (lv1 := [(5, .long ((0 : Int64))), (4, .int (x1 &&& (x1 - ((1 : Int32))))), (3, .int q2_.1), (0, .ref a0), (1, .int x1), (2, .int x2)]) dX1_worthBehind_51 (by decide) rfl ?_
          refine a_aload_n dX1_worthBehind_53 rfl 3 rfl ?_
          refine a_iload_n dX1_worthBehind_54 rfl 5 rfl ?_
          refine a_iload_n dX1_worthBehind_55 rfl 2 rfl ?_
          refine a_iconst (v := 0) dX1_worthBehind_56 (by decide) ?_
          obtain ⟨q4_, eq4_, hf⟩ := bnd hf
          refine a_callV (As := [.int x2, .int q2_.1, .int ((0 : Int32))]) (rest := []) dX1_worthBehind_57 mfX1_weigh cvX1_58 (wX1_weigh eq4_) rc1 (kX1_weigh eq4_) (by omega) rfl rfl (Nat.le_of_ble_eq_true rfl) ?_
          refine a_if_eq dX1_worthBehind_60 (tgt := 78) (by decide) (fun c9 => ?_) (fun c9 => ?_)
          · replace hf := iteT hf c9
            refine a_lload dX1_worthBehind_78 0 rfl ?_
            have e9 := Option.some.inj hf
            subst e9
            exact a_lret rfl dX1_worthBehind_80 rfl
          · replace hf := iteF hf c9
            refine a_lload dX1_worthBehind_63 0 rfl ?_
            refine a_aload_n dX1_worthBehind_65 rfl 3 rfl ?_
            refine a_iload dX1_worthBehind_66 1 rfl ?_
            refine a_iload_n dX1_worthBehind_68 rfl 5 rfl ?_
            refine a_iconst (v := 1) dX1_worthBehind_69 (by decide) ?_
            refine a_iadd dX1_worthBehind_70 ?_
            obtain ⟨q5_, eq5_, hf⟩ := bnd hf
            refine a_callS (As := [.ref a0, .int (x1 &&& (x1 - ((1 : Int32)))), .int (x2 + ((1 : Int32)))]) (rest := [.long ((0 : Int64))]) dX1_worthBehind_71 mfX1_worthBehind csX1_52 (ih _ _ _ _ eq5_) (by omega) rfl rfl (Nat.le_of_ble_eq_true rfl) ?_
            refine a_ladd dX1_worthBehind_74 ?_
            refine a_goto (tgt := 80) dX1_worthBehind_75 (by decide) ?_
            have e9 := Option.some.inj hf
            subst e9
            exact a_lret rfl dX1_worthBehind_80 rfl
        · replace hf := iteF hf c9
          refine a_aload_n dX1_worthBehind_38 rfl 2 rfl ?_
          refine a_iload dX1_worthBehind_39 0 rfl ?_
          refine a_iload_n dX1_worthBehind_41 rfl 4 rfl ?_
          refine a_iconst (v := 1) dX1_worthBehind_42 (by decide) ?_
          refine a_iadd dX1_worthBehind_43 ?_
          obtain ⟨q6_, eq6_, hf⟩ := bnd hf
          refine a_callS (As := [.ref a0, .int (x1 &&& (x1 - ((1 : Int32)))), .int (x2 + ((1 : Int32)))]) (rest := []) dX1_worthBehind_44 mfX1_worthBehind csX1_52 (ih _ _ _ _ eq6_) (by omega) rfl rfl (Nat.le_of_ble_eq_true rfl) ?_
          refine a_goto (tgt := 51) dX1_worthBehind_47 (by decide) ?_
          refine a_lstore (i := 5) (lv1 := [(5, .long q6_.1), (4, .int (x1 &&& (x1 - ((1 : Int32))))), (3, .int q2_.1), (0, .ref a0), (1, .int x1), (2, .int x2)]) dX1_worthBehind_51 (by decide) rfl ?_
          refine a_aload_n dX1_worthBehind_53 rfl 3 rfl ?_
          refine a_iload_n dX1_worthBehind_54 rfl 5 rfl ?_
          refine a_iload_n dX1_worthBehind_55 rfl 2 rfl ?_
          refine a_iconst (v := 0) dX1_worthBehind_56 (by decide) ?_
          obtain ⟨q7_, eq7_, hf⟩ := bnd hf
          refine a_callV (As := [.int x2, .int q2_.1, .int ((0 : Int32))]) (rest := []) dX1_worthBehind_57 mfX1_weigh cvX1_58 (wX1_weigh eq7_) rc1 (kX1_weigh eq7_) (by omega) rfl rfl (Nat.le_of_ble_eq_true rfl) ?_
          refine a_if_eq dX1_worthBehind_60 (tgt := 78) (by decide) (fun c9 => ?_) (fun c9 => ?_)
          · replace hf := iteT hf c9
            refine a_lload dX1_worthBehind_78 0 rfl ?_
            have e9 := Option.some.inj hf
            subst e9
            exact a_lret rfl dX1_worthBehind_80 rfl
          · replace hf := iteF hf c9
            refine a_lload dX1_worthBehind_63 0 rfl ?_
            refine a_aload_n dX1_worthBehind_65 rfl 3 rfl ?_
            refine a_iload dX1_worthBehind_66 1 rfl ?_
            refine a_iload_n dX1_worthBehind_68 rfl 5 rfl ?_
            refine a_iconst (v := 1) dX1_worthBehind_69 (by decide) ?_
            refine a_iadd dX1_worthBehind_70 ?_
            obtain ⟨q8_, eq8_, hf⟩ := bnd hf
            refine a_callS (As := [.ref a0, .int (x1 &&& (x1 - ((1 : Int32)))), .int (x2 + ((1 : Int32)))]) (rest := [.long q6_.1]) dX1_worthBehind_71 mfX1_worthBehind csX1_52 (ih _ _ _ _ eq8_) (by omega) rfl rfl (Nat.le_of_ble_eq_true rfl) ?_
            refine a_ladd dX1_worthBehind_74 ?_
            refine a_goto (tgt := 80) dX1_worthBehind_75 (by decide) ?_
            have e9 := Option.some.inj hf
            subst e9
            exact a_lret rfl dX1_worthBehind_80 rfl
      · replace hf := iteF hf c9
        refine a_aload_n dX1_worthBehind_10 rfl 0 rfl ?_
        refine a_iload_n dX1_worthBehind_11 rfl 2 rfl ?_
        obtain ⟨q9_, eq9_, hf⟩ := bnd hf
        refine a_callV (As := [.int x2]) (rest := []) dX1_worthBehind_12 mfX1_greatest cvX1_67 (wX1_greatest eq9_) rc1 (kX1_greatest eq9_) (by omega) rfl rfl (Nat.le_of_ble_eq_true rfl) ?_
        have e9 := Option.some.inj hf
        subst e9
        exact a_lret rfl dX1_worthBehind_15 rfl
theorem kX1_worthOf {a0 : Nat} {x1 : Int32} {M : Mm} {q : Int64 × Mm} (hf : fX1_worthOf a0 x1 M = some q) : (mK M a0).1 = 2 := by
  unfold fX1_worthOf at hf
  obtain ⟨u0, eu0, -⟩ := bnd hf
  exact kc_of eu0
set_option maxHeartbeats 4000000 in
set_option maxRecDepth 100000 in
theorem wX1_worthOf {l : Launch} {Γ : Gx} {a0 : Nat} {x1 : Int32} {M : Mm} {q : Int64 × Mm} (hf : fX1_worthOf a0 x1 M = some q) : AM l Γ 43 yX1_worthOf cX1_worthOf 2 ((some .long)) [.ref a0, .int x1] M (some (.long q.1)) q.2 := by
  unfold fX1_worthOf at hf
  refine AM.of mfX1_worthOf (Nat.le_of_ble_eq_true rfl) ?_
  generalize mT M = t0
  generalize mW M = w0
  show AW _ _ _ _ _ _ _ _ _ 0 [(0, .ref a0), (1, .int x1)] [] _ _ _
  obtain ⟨u0, eu0, hf⟩ := bnd hf
  refine a_aload_n dX1_worthOf_0 rfl 0 rfl ?_
  refine a_iload_n dX1_worthOf_1 rfl 1 rfl ?_
  refine a_iconst (v := 0) dX1_worthOf_2 (by decide) ?_
  obtain ⟨q1_, eq1_, hf⟩ := bnd hf
  refine a_callS (As := [.ref a0, .int x1, .int ((0 : Int32))]) (rest := []) dX1_worthOf_3 mfX1_worthBehind csX1_52 (wX1_worthBehind _ eq1_) (by decide) rfl rfl (Nat.le_of_ble_eq_true rfl) ?_
  have e9 := Option.some.inj hf
  subst e9
  exact a_lret rfl dX1_worthOf_6 rfl
theorem kX1_bestAlone {a0 : Nat} {M : Mm} {q : Int32 × Mm} (hf : fX1_bestAlone a0 M = some q) : (mK M a0).1 = 2 := by
  unfold fX1_bestAlone at hf
  obtain ⟨u0, eu0, -⟩ := bnd hf
  exact kc_of eu0
set_option maxHeartbeats 4000000 in
set_option maxRecDepth 100000 in
theorem wX1_bestAlone_b9 {l : Launch} {Γ : Gx} {t0 w0 : Nat} {q : Int32 × Mm} : ∀ (n : Nat) (a0 : Nat) (x1 : Int32) (x2 : Int64) (x4 : Int32) (M : Mm), fX1_bestAlone_b9 n a0 x1 x2 x4 M = some q → AW l Γ yX1_bestAlone cX1_bestAlone 7 ((some .int)) 43 t0 w0 9 [(0, .ref a0), (1, .int x1), (2, .long x2), (4, .int x4)] [] M (some (.int q.1)) q.2 := by
  intro n
  induction n with
  | zero =>
    intro a0 x1 x2 x4 M hf
    cases hf
  | succ n ih =>
    intro a0 x1 x2 x4 M hf
    rw [fX1_bestAlone_b9.eq_2] at hf
    refine a_iload dX1_bestAlone_9 3 rfl ?_
    refine a_aload_n dX1_bestAlone_11 rfl 0 rfl ?_
    obtain ⟨v1_, ev1_, hf⟩ := bnd hf
    refine a_getI dX1_bestAlone_12 flX1_21 rfl ev1_ ?_
    refine a_icmp_ge dX1_bestAlone_15 (tgt := 48) (by decide) (fun c9 => ?_) (fun c9 => ?_)
    · replace hf := iteT hf c9
      refine a_iload_n dX1_bestAlone_48 rfl 1 rfl ?_
      have e9 := Option.some.inj hf
      subst e9
      exact a_iret rfl dX1_bestAlone_49 rfl
    · replace hf := iteF hf c9
      refine a_aload_n dX1_bestAlone_18 rfl 0 rfl ?_
      refine a_iconst (v := 1) dX1_bestAlone_19 (by decide) ?_
      refine a_iload dX1_bestAlone_20 3 rfl ?_
      refine a_ishl dX1_bestAlone_22 ?_
      refine a_iconst (v := 0) dX1_bestAlone_23 (by decide) ?_
      obtain ⟨q2_, eq2_, hf⟩ := bnd hf
      refine a_callS (As := [.ref a0, .int (((1 : Int32)) <<< (x4 &&& 31)), .int ((0 : Int32))]) (rest := []) dX1_bestAlone_24 mfX1_worthBehind csX1_52 (wX1_worthBehind _ eq2_) (by decide) rfl rfl (Nat.le_of_ble_eq_true rfl) ?_
      refine a_lstore (i := 5) (lv1 := [(5, .long q2_.1), (0, .ref a0), (1, .int x1), (2, .long x2), (4, .int x4)]) dX1_bestAlone_27 (by decide) rfl ?_
      refine a_lload dX1_bestAlone_29 0 rfl ?_
      refine a_lload_n dX1_bestAlone_31 rfl 3 rfl ?_
      refine a_lcmp_le dX1_bestAlone_32 dX1_bestAlone_33 (tgt := 42) (by decide) (fun c9 => ?_) (fun c9 => ?_)
      · replace hf := iteT hf c9
        refine a_iinc (v := x4 + (1 : Int32)) (lv1 := [(4, .int (x4 + (1 : Int32))), (5, .long q2_.1), (0, .ref a0), (1, .int x1), (2, .long x2)]) dX1_bestAlone_42 4 rfl rfl (by decide) rfl ?_
        refine a_goto (tgt := 9) dX1_bestAlone_45 (by decide) ?_
        refine AW.sub (lv1 := [(0, .ref a0), (1, .int x1), (2, .long x2), (4, .int (x4 + (1 : Int32)))]) [2, 3, 4, 0] rfl ?_
        exact ih _ _ _ _ _ hf
      · replace hf := iteF hf c9
        refine a_iload dX1_bestAlone_36 4 rfl ?_
        refine a_istore_n (i := 1) (lv1 := [(1, .int x4), (5, .long q2_.1), (0, .ref a0), (2, .long x2), (4, .int x4)]) dX1_bestAlone_38 rfl (by decide) rfl ?_
        refine a_lload dX1_bestAlone_39 1 rfl ?_
        refine a_lstore_n (i := 2) (lv1 := [(2, .long q2_.1), (1, .int x4), (5, .long q2_.1), (0, .ref a0), (4, .int x4)]) dX1_bestAlone_41 rfl (by decide) rfl ?_
        refine a_iinc (v := x4 + (1 : Int32)) (lv1 := [(4, .int (x4 + (1 : Int32))), (2, .long q2_.1), (1, .int x4), (5, .long q2_.1), (0, .ref a0)]) dX1_bestAlone_42 4 rfl rfl (by decide) rfl ?_
        refine a_goto (tgt := 9) dX1_bestAlone_45 (by decide) ?_
        refine AW.sub (lv1 := [(0, .ref a0), (1, .int x4), (2, .long q2_.1), (4, .int (x4 + (1 : Int32)))]) [4, 2, 1, 0] rfl ?_
        exact ih _ _ _ _ _ hf
set_option maxHeartbeats 4000000 in
set_option maxRecDepth 100000 in
theorem wX1_bestAlone {l : Launch} {Γ : Gx} {a0 : Nat} {M : Mm} {q : Int32 × Mm} (hf : fX1_bestAlone a0 M = some q) : AM l Γ 43 yX1_bestAlone cX1_bestAlone 7 ((some .int)) [.ref a0] M (some (.int q.1)) q.2 := by
  unfold fX1_bestAlone at hf
  refine AM.of mfX1_bestAlone (Nat.le_of_ble_eq_true rfl) ?_
  generalize mT M = t0
  generalize mW M = w0
  show AW _ _ _ _ _ _ _ _ _ 0 [(0, .ref a0)] [] _ _ _
  obtain ⟨u0, eu0, hf⟩ := bnd hf
  refine a_iconst (v := -1) dX1_bestAlone_0 (by decide) ?_
  refine a_istore_n (i := 1) (lv1 := [(1, .int ((-1 : Int32))), (0, .ref a0)]) dX1_bestAlone_1 rfl (by decide) rfl ?_
  refine a_ldc2 (v := -1) dX1_bestAlone_2 wcX1_56 ?_
  refine a_lstore_n (i := 2) (lv1 := [(2, .long ((-1 : Int64))), (1, .int ((-1 : Int32))), (0, .ref a0)]) dX1_bestAlone_5 rfl (by decide) rfl ?_
  refine a_iconst (v := 0) dX1_bestAlone_6 (by decide) ?_
  refine a_istore (i := 4) (lv1 := [(4, .int ((0 : Int32))), (2, .long ((-1 : Int64))), (1, .int ((-1 : Int32))), (0, .ref a0)]) dX1_bestAlone_7 (by decide) rfl ?_
  refine AW.sub (lv1 := [(0, .ref a0), (1, .int ((-1 : Int32))), (2, .long ((-1 : Int64))), (4, .int ((0 : Int32)))]) [3, 2, 1, 0] rfl ?_
  exact wX1_bestAlone_b9 _ _ _ _ _ _ hf
theorem kX1_bestMoreBut {a0 : Nat} {x1 : Int32} {M : Mm} {q : Int64 × Mm} (hf : fX1_bestMoreBut a0 x1 M = some q) : (mK M a0).1 = 2 := by
  unfold fX1_bestMoreBut at hf
  obtain ⟨u0, eu0, -⟩ := bnd hf
  exact kc_of eu0
set_option maxHeartbeats 4000000 in
set_option maxRecDepth 100000 in
theorem wX1_bestMoreBut_b13 {l : Launch} {Γ : Gx} {t0 w0 : Nat} {q : Int64 × Mm} : ∀ (n : Nat) (a0 : Nat) (x1 : Int32) (x2 : Int64) (x4 : Int32) (M : Mm), fX1_bestMoreBut_b13 n a0 x1 x2 x4 M = some q → AW l Γ yX1_bestMoreBut cX1_bestMoreBut 5 ((some .long)) 43 t0 w0 13 [(0, .ref a0), (1, .int x1), (2, .long x2), (4, .int x4)] [] M (some (.long q.1)) q.2 := by
  intro n
  induction n with
  | zero =>
    intro a0 x1 x2 x4 M hf
    cases hf
  | succ n ih =>
    intro a0 x1 x2 x4 M hf
    rw [fX1_bestMoreBut_b13.eq_2] at hf
    refine a_iload dX1_bestMoreBut_13 3 rfl ?_
    refine a_aload_n dX1_bestMoreBut_15 rfl 0 rfl ?_
    obtain ⟨v1_, ev1_, hf⟩ := bnd hf
    refine a_getI dX1_bestMoreBut_16 flX1_21 rfl ev1_ ?_
    refine a_icmp_ge dX1_bestMoreBut_19 (tgt := 48) (by decide) (fun c9 => ?_) (fun c9 => ?_)
    · replace hf := iteT hf c9
      refine a_lload_n dX1_bestMoreBut_48 rfl 2 rfl ?_
      have e9 := Option.some.inj hf
      subst e9
      exact a_lret rfl dX1_bestMoreBut_49 rfl
    · replace hf := iteF hf c9
      refine a_iload dX1_bestMoreBut_22 3 rfl ?_
      refine a_iload_n dX1_bestMoreBut_24 rfl 1 rfl ?_
      refine a_icmp_eq dX1_bestMoreBut_25 (tgt := 42) (by decide) (fun c9 => ?_) (fun c9 => ?_)
      · replace hf := iteT hf c9
        refine a_iinc (v := x4 + (1 : Int32)) (lv1 := [(4, .int (x4 + (1 : Int32))), (0, .ref a0), (1, .int x1), (2, .long x2)]) dX1_bestMoreBut_42 3 rfl rfl (by decide) rfl ?_
        refine a_goto (tgt := 13) dX1_bestMoreBut_45 (by decide) ?_
        refine AW.sub (lv1 := [(0, .ref a0), (1, .int x1), (2, .long x2), (4, .int (x4 + (1 : Int32)))]) [1, 2, 3, 0] rfl ?_
        exact ih _ _ _ _ _ hf
      · replace hf := iteF hf c9
        refine a_lload_n dX1_bestMoreBut_28 rfl 2 rfl ?_
        refine a_aload_n dX1_bestMoreBut_29 rfl 0 rfl ?_
        refine a_iconst (v := 1) dX1_bestMoreBut_30 (by decide) ?_
        refine a_iload dX1_bestMoreBut_31 3 rfl ?_
        refine a_ishl dX1_bestMoreBut_33 ?_
        refine a_iconst (v := 1) dX1_bestMoreBut_34 (by decide) ?_
        obtain ⟨q2_, eq2_, hf⟩ := bnd hf
        refine a_callS (As := [.ref a0, .int (((1 : Int32)) <<< (x4 &&& 31)), .int ((1 : Int32))]) (rest := [.long x2]) dX1_bestMoreBut_35 mfX1_worthBehind csX1_52 (wX1_worthBehind _ eq2_) (by decide) rfl rfl (Nat.le_of_ble_eq_true rfl) ?_
        refine a_mmaxL dX1_bestMoreBut_38 wmX1_70 wma_mxJ (by decide) (Nat.le_of_ble_eq_true rfl) ?_
        refine a_lstore_n (i := 2) (lv1 := [(2, .long (mxJ x2 q2_.1)), (0, .ref a0), (1, .int x1), (4, .int x4)]) dX1_bestMoreBut_41 rfl (by decide) rfl ?_
        refine a_iinc (v := x4 + (1 : Int32)) (lv1 := [(4, .int (x4 + (1 : Int32))), (2, .long (mxJ x2 q2_.1)), (0, .ref a0), (1, .int x1)]) dX1_bestMoreBut_42 3 rfl rfl (by decide) rfl ?_
        refine a_goto (tgt := 13) dX1_bestMoreBut_45 (by decide) ?_
        refine AW.sub (lv1 := [(0, .ref a0), (1, .int x1), (2, .long (mxJ x2 q2_.1)), (4, .int (x4 + (1 : Int32)))]) [2, 3, 1, 0] rfl ?_
        exact ih _ _ _ _ _ hf
set_option maxHeartbeats 4000000 in
set_option maxRecDepth 100000 in
theorem wX1_bestMoreBut {l : Launch} {Γ : Gx} {a0 : Nat} {x1 : Int32} {M : Mm} {q : Int64 × Mm} (hf : fX1_bestMoreBut a0 x1 M = some q) : AM l Γ 43 yX1_bestMoreBut cX1_bestMoreBut 5 ((some .long)) [.ref a0, .int x1] M (some (.long q.1)) q.2 := by
  unfold fX1_bestMoreBut at hf
  refine AM.of mfX1_bestMoreBut (Nat.le_of_ble_eq_true rfl) ?_
  generalize mT M = t0
  generalize mW M = w0
  show AW _ _ _ _ _ _ _ _ _ 0 [(0, .ref a0), (1, .int x1)] [] _ _ _
  obtain ⟨u0, eu0, hf⟩ := bnd hf
  refine a_ldc2 (v := 10) dX1_bestMoreBut_0 wcX1_65 ?_
  refine a_aload_n dX1_bestMoreBut_3 rfl 0 rfl ?_
  refine a_iconst (v := 1) dX1_bestMoreBut_4 (by decide) ?_
  obtain ⟨q1_, eq1_, hf⟩ := bnd hf
  refine a_callV (As := [.int ((1 : Int32))]) (rest := [.long ((10 : Int64))]) dX1_bestMoreBut_5 mfX1_greatest cvX1_67 (wX1_greatest eq1_) rc1 (kX1_greatest eq1_) (by decide) rfl rfl (Nat.le_of_ble_eq_true rfl) ?_
  refine a_lmul dX1_bestMoreBut_8 ?_
  refine a_lstore_n (i := 2) (lv1 := [(2, .long (((10 : Int64)) * q1_.1)), (0, .ref a0), (1, .int x1)]) dX1_bestMoreBut_9 rfl (by decide) rfl ?_
  refine a_iconst (v := 0) dX1_bestMoreBut_10 (by decide) ?_
  refine a_istore (i := 4) (lv1 := [(4, .int ((0 : Int32))), (2, .long (((10 : Int64)) * q1_.1)), (0, .ref a0), (1, .int x1)]) dX1_bestMoreBut_11 (by decide) rfl ?_
  refine AW.sub (lv1 := [(0, .ref a0), (1, .int x1), (2, .long (((10 : Int64)) * q1_.1)), (4, .int ((0 : Int32)))]) [2, 3, 1, 0] rfl ?_
  exact wX1_bestMoreBut_b13 _ _ _ _ _ _ hf
theorem kX1_bestOfTwo {a0 : Nat} {M : Mm} {q : Int32 × Mm} (hf : fX1_bestOfTwo a0 M = some q) : (mK M a0).1 = 2 := by
  unfold fX1_bestOfTwo at hf
  obtain ⟨u0, eu0, -⟩ := bnd hf
  exact kc_of eu0
set_option maxHeartbeats 4000000 in
set_option maxRecDepth 100000 in
theorem wX1_bestOfTwo_b9 {l : Launch} {Γ : Gx} {t0 w0 : Nat} {q : Int32 × Mm} : ∀ (n : Nat) (a0 : Nat) (x1 : Int32) (x2 : Int64) (x4 : Int32) (M : Mm), fX1_bestOfTwo_b9 n a0 x1 x2 x4 M = some q → AW l Γ yX1_bestOfTwo cX1_bestOfTwo 7 ((some .int)) 44 t0 w0 9 [(0, .ref a0), (1, .int x1), (2, .long x2), (4, .int x4)] [] M (some (.int q.1)) q.2 := by
  intro n
  induction n with
  | zero =>
    intro a0 x1 x2 x4 M hf
    cases hf
  | succ n ih =>
    intro a0 x1 x2 x4 M hf
    rw [fX1_bestOfTwo_b9.eq_2] at hf
    refine a_iload dX1_bestOfTwo_9 3 rfl ?_
    refine a_aload_n dX1_bestOfTwo_11 rfl 0 rfl ?_
    obtain ⟨v1_, ev1_, hf⟩ := bnd hf
    refine a_getI dX1_bestOfTwo_12 flX1_21 rfl ev1_ ?_
    refine a_icmp_ge dX1_bestOfTwo_15 (tgt := 74) (by decide) (fun c9 => ?_) (fun c9 => ?_)
    · replace hf := iteT hf c9
      refine a_iload_n dX1_bestOfTwo_74 rfl 1 rfl ?_
      have e9 := Option.some.inj hf
      subst e9
      exact a_iret rfl dX1_bestOfTwo_75 rfl
    · replace hf := iteF hf c9
      refine a_aload_n dX1_bestOfTwo_18 rfl 0 rfl ?_
      refine a_iconst (v := 0) dX1_bestOfTwo_19 (by decide) ?_
      refine a_iload dX1_bestOfTwo_20 3 rfl ?_
      refine a_iconst (v := 1) dX1_bestOfTwo_22 (by decide) ?_
      obtain ⟨q2_, eq2_, hf⟩ := bnd hf
      refine a_callV (As := [.int ((0 : Int32)), .int x4, .int ((1 : Int32))]) (rest := []) dX1_bestOfTwo_23 mfX1_weigh cvX1_58 (wX1_weigh eq2_) rc1 (kX1_weigh eq2_) (by decide) rfl rfl (Nat.le_of_ble_eq_true rfl) ?_
      refine a_pop dX1_bestOfTwo_26 rfl ?_
      refine a_aload_n dX1_bestOfTwo_27 rfl 0 rfl ?_
      refine a_iload dX1_bestOfTwo_28 3 rfl ?_
      obtain ⟨q3_, eq3_, hf⟩ := bnd hf
      refine a_callV (As := [.int x4]) (rest := []) dX1_bestOfTwo_30 mfX1_bestMoreBut cvX1_62 (wX1_bestMoreBut eq3_) rc1 (kX1_bestMoreBut eq3_) (by decide) rfl rfl (Nat.le_of_ble_eq_true rfl) ?_
      refine a_lstore (i := 5) (lv1 := [(5, .long q3_.1), (0, .ref a0), (1, .int x1), (2, .long x2), (4, .int x4)]) dX1_bestOfTwo_33 (by decide) rfl ?_
      refine a_aload_n dX1_bestOfTwo_35 rfl 1 rfl ?_
      refine a_iconst (v := 0) dX1_bestOfTwo_36 (by decide) ?_
      refine a_iload dX1_bestOfTwo_37 4 rfl ?_
      refine a_iconst (v := 0) dX1_bestOfTwo_39 (by decide) ?_
      obtain ⟨q4_, eq4_, hf⟩ := bnd hf
      refine a_callV (As := [.int ((0 : Int32)), .int x4, .int ((0 : Int32))]) (rest := []) dX1_bestOfTwo_40 mfX1_weigh cvX1_58 (wX1_weigh eq4_) rc1 (kX1_weigh eq4_) (by decide) rfl rfl (Nat.le_of_ble_eq_true rfl) ?_
      refine a_pop dX1_bestOfTwo_43 rfl ?_
      refine a_lload dX1_bestOfTwo_44 0 rfl ?_
      refine a_aload_n dX1_bestOfTwo_46 rfl 1 rfl ?_
      refine a_iload dX1_bestOfTwo_47 4 rfl ?_
      obtain ⟨q5_, eq5_, hf⟩ := bnd hf
      refine a_callV (As := [.int x4]) (rest := [.long q3_.1]) dX1_bestOfTwo_49 mfX1_bestMoreBut cvX1_62 (wX1_bestMoreBut eq5_) rc1 (kX1_bestMoreBut eq5_) (by decide) rfl rfl (Nat.le_of_ble_eq_true rfl) ?_
      refine a_ladd dX1_bestOfTwo_52 ?_
      refine a_lstore (i := 5) (lv1 := [(5, .long (q3_.1 + q5_.1)), (0, .ref a0), (1, .int x1), (2, .long x2), (4, .int x4)]) dX1_bestOfTwo_53 (by decide) rfl ?_
      refine a_lload dX1_bestOfTwo_55 0 rfl ?_
      refine a_lload_n dX1_bestOfTwo_57 rfl 3 rfl ?_
      refine a_lcmp_le dX1_bestOfTwo_58 dX1_bestOfTwo_59 (tgt := 68) (by decide) (fun c9 => ?_) (fun c9 => ?_)
      · replace hf := iteT hf c9
        refine a_iinc (v := x4 + (1 : Int32)) (lv1 := [(4, .int (x4 + (1 : Int32))), (5, .long (q3_.1 + q5_.1)), (0, .ref a0), (1, .int x1), (2, .long x2)]) dX1_bestOfTwo_68 4 rfl rfl (by decide) rfl ?_
        refine a_goto (tgt := 9) dX1_bestOfTwo_71 (by decide) ?_
        refine AW.sub (lv1 := [(0, .ref a0), (1, .int x1), (2, .long x2), (4, .int (x4 + (1 : Int32)))]) [2, 3, 4, 0] rfl ?_
        exact ih _ _ _ _ _ hf
      · replace hf := iteF hf c9
        refine a_iload dX1_bestOfTwo_62 4 rfl ?_
        refine a_istore_n (i := 1) (lv1 := [(1, .int x4), (5, .long (q3_.1 + q5_.1)), (0, .ref a0), (2, .long x2), (4, .int x4)]) dX1_bestOfTwo_64 rfl (by decide) rfl ?_
        refine a_lload dX1_bestOfTwo_65 1 rfl ?_
        refine a_lstore_n (i := 2) (lv1 := [(2, .long (q3_.1 + q5_.1)), (1, .int x4), (5, .long (q3_.1 + q5_.1)), (0, .ref a0), (4, .int x4)]) dX1_bestOfTwo_67 rfl (by decide) rfl ?_
        refine a_iinc (v := x4 + (1 : Int32)) (lv1 := [(4, .int (x4 + (1 : Int32))), (2, .long (q3_.1 + q5_.1)), (1, .int x4), (5, .long (q3_.1 + q5_.1)), (0, .ref a0)]) dX1_bestOfTwo_68 4 rfl rfl (by decide) rfl ?_
        refine a_goto (tgt := 9) dX1_bestOfTwo_71 (by decide) ?_
        refine AW.sub (lv1 := [(0, .ref a0), (1, .int x4), (2, .long (q3_.1 + q5_.1)), (4, .int (x4 + (1 : Int32)))]) [4, 2, 1, 0] rfl ?_
        exact ih _ _ _ _ _ hf
set_option maxHeartbeats 4000000 in
set_option maxRecDepth 100000 in
theorem wX1_bestOfTwo {l : Launch} {Γ : Gx} {a0 : Nat} {M : Mm} {q : Int32 × Mm} (hf : fX1_bestOfTwo a0 M = some q) : AM l Γ 44 yX1_bestOfTwo cX1_bestOfTwo 7 ((some .int)) [.ref a0] M (some (.int q.1)) q.2 := by
  unfold fX1_bestOfTwo at hf
  refine AM.of mfX1_bestOfTwo (Nat.le_of_ble_eq_true rfl) ?_
  generalize mT M = t0
  generalize mW M = w0
  show AW _ _ _ _ _ _ _ _ _ 0 [(0, .ref a0)] [] _ _ _
  obtain ⟨u0, eu0, hf⟩ := bnd hf
  refine a_iconst (v := -1) dX1_bestOfTwo_0 (by decide) ?_
  refine a_istore_n (i := 1) (lv1 := [(1, .int ((-1 : Int32))), (0, .ref a0)]) dX1_bestOfTwo_1 rfl (by decide) rfl ?_
  refine a_ldc2 (v := -1) dX1_bestOfTwo_2 wcX1_56 ?_
  refine a_lstore_n (i := 2) (lv1 := [(2, .long ((-1 : Int64))), (1, .int ((-1 : Int32))), (0, .ref a0)]) dX1_bestOfTwo_5 rfl (by decide) rfl ?_
  refine a_iconst (v := 0) dX1_bestOfTwo_6 (by decide) ?_
  refine a_istore (i := 4) (lv1 := [(4, .int ((0 : Int32))), (2, .long ((-1 : Int64))), (1, .int ((-1 : Int32))), (0, .ref a0)]) dX1_bestOfTwo_7 (by decide) rfl ?_
  refine AW.sub (lv1 := [(0, .ref a0), (1, .int ((-1 : Int32))), (2, .long ((-1 : Int64))), (4, .int ((0 : Int32)))]) [3, 2, 1, 0] rfl ?_
  exact wX1_bestOfTwo_b9 _ _ _ _ _ _ hf
theorem kX1_reaches {a0 : Nat} {x1 : Int32} {x2 : Int32} {x3 : Int32} {x4 : Int64} {M : Mm} {q : Int32 × Mm} (hf : fX1_reaches a0 x1 x2 x3 x4 M = some q) : (mK M a0).1 = 2 := by
  unfold fX1_reaches at hf
  obtain ⟨u0, eu0, -⟩ := bnd hf
  exact kc_of eu0
set_option maxHeartbeats 4000000 in
set_option maxRecDepth 100000 in
theorem wX1_reaches_b43 {l : Launch} {Γ : Gx} {t0 w0 : Nat} {q : Int32 × Mm} : ∀ (n : Nat) (x2 : Int32) (x6 : Int64) (x8 : Int64) (x10 : Int32) (M : Mm), fX1_reaches_b43 n x2 x6 x8 x10 M = some q → AW l Γ yX1_reaches cX1_reaches 11 ((some .boolean)) 43 t0 w0 43 [(2, .int x2), (6, .long x6), (8, .long x8), (10, .int x10)] [] M (some (.int q.1)) q.2 := by
  intro n
  induction n with
  | zero =>
    intro x2 x6 x8 x10 M hf
    cases hf
  | succ n ih =>
    intro x2 x6 x8 x10 M hf
    rw [fX1_reaches_b43.eq_2] at hf
    refine a_iload dX1_reaches_43 3 rfl ?_
    refine a_iload_n dX1_reaches_45 rfl 0 rfl ?_
    refine a_icmp_ge dX1_reaches_46 (tgt := 63) (by decide) (fun c9 => ?_) (fun c9 => ?_)
    · replace hf := iteT hf c9
      refine a_lload dX1_reaches_63 1 rfl ?_
      refine a_lload dX1_reaches_65 2 rfl ?_
      refine a_lcmp_lt dX1_reaches_67 dX1_reaches_68 (tgt := 75) (by decide) (fun c9 => ?_) (fun c9 => ?_)
      · replace hf := iteT hf c9
        refine a_iconst (v := 0) dX1_reaches_75 (by decide) ?_
        have e9 := Option.some.inj hf
        subst e9
        exact a_zret rfl rfl dX1_reaches_76 rfl
      · replace hf := iteF hf c9
        refine a_iconst (v := 1) dX1_reaches_71 (by decide) ?_
        refine a_goto (tgt := 76) dX1_reaches_72 (by decide) ?_
        have e9 := Option.some.inj hf
        subst e9
        exact a_zret rfl rfl dX1_reaches_76 rfl
    · replace hf := iteF hf c9
      refine a_lload dX1_reaches_49 2 rfl ?_
      refine a_ldc2 (v := 10) dX1_reaches_51 wcX1_65 ?_
      refine a_lmul dX1_reaches_54 ?_
      refine a_lstore (i := 8) (lv1 := [(8, .long (x8 * ((10 : Int64)))), (2, .int x2), (6, .long x6), (10, .int x10)]) dX1_reaches_55 (by decide) rfl ?_
      refine a_iinc (v := x10 + (1 : Int32)) (lv1 := [(10, .int (x10 + (1 : Int32))), (8, .long (x8 * ((10 : Int64)))), (2, .int x2), (6, .long x6)]) dX1_reaches_57 3 rfl rfl (by decide) rfl ?_
      refine a_goto (tgt := 43) dX1_reaches_60 (by decide) ?_
      refine AW.sub (lv1 := [(2, .int x2), (6, .long x6), (8, .long (x8 * ((10 : Int64)))), (10, .int (x10 + (1 : Int32)))]) [2, 3, 1, 0] rfl ?_
      exact ih _ _ _ _ _ hf
set_option maxHeartbeats 4000000 in
set_option maxRecDepth 100000 in
theorem wX1_reaches {l : Launch} {Γ : Gx} {a0 : Nat} {x1 : Int32} {x2 : Int32} {x3 : Int32} {x4 : Int64} {M : Mm} {q : Int32 × Mm} (hf : fX1_reaches a0 x1 x2 x3 x4 M = some q) : AM l Γ 43 yX1_reaches cX1_reaches 11 ((some .boolean)) [.ref a0, .int x1, .int x2, .int x3, .long x4] M (some (.int q.1)) q.2 := by
  unfold fX1_reaches at hf
  refine AM.of mfX1_reaches (Nat.le_of_ble_eq_true rfl) ?_
  generalize mT M = t0
  generalize mW M = w0
  show AW _ _ _ _ _ _ _ _ _ 0 [(0, .ref a0), (1, .int x1), (2, .int x2), (3, .int x3), (4, .long x4)] [] _ _ _
  obtain ⟨u0, eu0, hf⟩ := bnd hf
  refine a_aload_n dX1_reaches_0 rfl 0 rfl ?_
  refine a_iload_n dX1_reaches_1 rfl 1 rfl ?_
  refine a_iconst (v := 0) dX1_reaches_2 (by decide) ?_
  obtain ⟨q1_, eq1_, hf⟩ := bnd hf
  refine a_callS (As := [.ref a0, .int x1, .int ((0 : Int32))]) (rest := []) dX1_reaches_3 mfX1_worthBehind csX1_52 (wX1_worthBehind _ eq1_) (by decide) rfl rfl (Nat.le_of_ble_eq_true rfl) ?_
  refine a_lstore (i := 6) (lv1 := [(6, .long q1_.1), (0, .ref a0), (1, .int x1), (2, .int x2), (3, .int x3), (4, .long x4)]) dX1_reaches_6 (by decide) rfl ?_
  refine a_iload_n dX1_reaches_8 rfl 3 rfl ?_
  refine a_if_ne dX1_reaches_9 (tgt := 33) (by decide) (fun c9 => ?_) (fun c9 => ?_)
  · replace hf := iteF hf c9
    refine a_iload_n dX1_reaches_33 rfl 4 rfl ?_
    refine a_i2l dX1_reaches_34 ?_
    refine a_lload dX1_reaches_35 5 rfl ?_
    refine a_lmul dX1_reaches_37 ?_
    refine a_lstore (i := 8) (lv1 := [(8, .long (x3.toInt64 * x4)), (6, .long q1_.1), (0, .ref a0), (1, .int x1), (2, .int x2), (3, .int x3), (4, .long x4)]) dX1_reaches_38 (by decide) rfl ?_
    refine a_iconst (v := 1) dX1_reaches_40 (by decide) ?_
    refine a_istore (i := 10) (lv1 := [(10, .int ((1 : Int32))), (8, .long (x3.toInt64 * x4)), (6, .long q1_.1), (0, .ref a0), (1, .int x1), (2, .int x2), (3, .int x3), (4, .long x4)]) dX1_reaches_41 (by decide) rfl ?_
    refine AW.sub (lv1 := [(2, .int x2), (6, .long q1_.1), (8, .long (x3.toInt64 * x4)), (10, .int ((1 : Int32)))]) [5, 2, 1, 0] rfl ?_
    exact wX1_reaches_b43 _ _ _ _ _ _ hf
  · replace hf := iteT hf c9
    refine a_lload dX1_reaches_12 0 rfl ?_
    refine a_ldc2 (v := 10) dX1_reaches_14 wcX1_65 ?_
    refine a_lmul dX1_reaches_17 ?_
    refine a_iload_n dX1_reaches_18 rfl 4 rfl ?_
    refine a_i2l dX1_reaches_19 ?_
    refine a_lload dX1_reaches_20 5 rfl ?_
    refine a_lmul dX1_reaches_22 ?_
    refine a_lcmp_lt dX1_reaches_23 dX1_reaches_24 (tgt := 31) (by decide) (fun c9 => ?_) (fun c9 => ?_)
    · replace hf := iteT hf c9
      refine a_iconst (v := 0) dX1_reaches_31 (by decide) ?_
      have e9 := Option.some.inj hf
      subst e9
      exact a_zret rfl rfl dX1_reaches_32 rfl
    · replace hf := iteF hf c9
      refine a_iconst (v := 1) dX1_reaches_27 (by decide) ?_
      refine a_goto (tgt := 32) dX1_reaches_28 (by decide) ?_
      have e9 := Option.some.inj hf
      subst e9
      exact a_zret rfl rfl dX1_reaches_32 rfl
theorem kX1_fewestFor {a0 : Nat} {x1 : Int32} {x2 : Int64} {M : Mm} {q : Int32 × Mm} (hf : fX1_fewestFor a0 x1 x2 M = some q) : (mK M a0).1 = 2 := by
  unfold fX1_fewestFor at hf
  obtain ⟨u0, eu0, -⟩ := bnd hf
  exact kc_of eu0
set_option maxHeartbeats 4000000 in
set_option maxRecDepth 100000 in
theorem wX1_fewestFor_b15 {l : Launch} {Γ : Gx} {t0 w0 : Nat} {q : Int32 × Mm} (k3 : Nat → Int32 → Int64 → Int32 → Mm → Option (Int32 × Mm)) (hk3 : ∀ (a0 : Nat) (x1 : Int32) (x2 : Int64) (x4 : Int32) (M : Mm), k3 a0 x1 x2 x4 M = some q → AW l Γ yX1_fewestFor cX1_fewestFor 6 ((some .int)) 44 t0 w0 3 [(0, .ref a0), (1, .int x1), (2, .long x2), (4, .int x4)] [] M (some (.int q.1)) q.2) : ∀ (n : Nat) (a0 : Nat) (x1 : Int32) (x2 : Int64) (x4 : Int32) (x5 : Int32) (M : Mm), fX1_fewestFor_b15 k3 n a0 x1 x2 x4 x5 M = some q → AW l Γ yX1_fewestFor cX1_fewestFor 6 ((some .int)) 44 t0 w0 15 [(0, .ref a0), (1, .int x1), (2, .long x2), (4, .int x4), (5, .int x5)] [] M (some (.int q.1)) q.2 := by
  intro n
  induction n with
  | zero =>
    intro a0 x1 x2 x4 x5 M hf
    cases hf
  | succ n ih =>
    intro a0 x1 x2 x4 x5 M hf
    rw [fX1_fewestFor_b15.eq_2] at hf
    refine a_iload dX1_fewestFor_15 4 rfl ?_
    refine a_iconst (v := 1) dX1_fewestFor_17 (by decide) ?_
    refine a_aload_n dX1_fewestFor_18 rfl 0 rfl ?_
    obtain ⟨v1_, ev1_, hf⟩ := bnd hf
    refine a_getI dX1_fewestFor_19 flX1_21 rfl ev1_ ?_
    refine a_ishl dX1_fewestFor_22 ?_
    refine a_icmp_ge dX1_fewestFor_23 (tgt := 58) (by decide) (fun c9 => ?_) (fun c9 => ?_)
    · replace hf := iteT hf c9
      refine a_iinc (v := x4 + (1 : Int32)) (lv1 := [(4, .int (x4 + (1 : Int32))), (0, .ref a0), (1, .int x1), (2, .long x2), (5, .int x5)]) dX1_fewestFor_58 3 rfl rfl (by decide) rfl ?_
      refine a_goto (tgt := 3) dX1_fewestFor_61 (by decide) ?_
      refine AW.sub (lv1 := [(0, .ref a0), (1, .int x1), (2, .long x2), (4, .int (x4 + (1 : Int32)))]) [1, 2, 3, 0] rfl ?_
      exact hk3 _ _ _ _ _ hf
    · replace hf := iteF hf c9
      refine a_iload dX1_fewestFor_26 4 rfl ?_
      obtain ⟨q2_, eq2_, hf⟩ := bnd hf
      refine a_callS (As := [.int x5]) (rest := []) dX1_fewestFor_28 mfJ6_bitCount_0f7a4 csX1_76 (wJ6_bitCount_0f7a4 eq2_) (by decide) rfl rfl (Nat.le_of_ble_eq_true rfl) ?_
      refine a_iload dX1_fewestFor_31 3 rfl ?_
      refine a_icmp_ne dX1_fewestFor_33 (tgt := 52) (by decide) (fun c9 => ?_) (fun c9 => ?_)
      · replace hf := iteF hf c9
        refine a_iinc (v := x5 + (1 : Int32)) (lv1 := [(5, .int (x5 + (1 : Int32))), (0, .ref a0), (1, .int x1), (2, .long x2), (4, .int x4)]) dX1_fewestFor_52 4 rfl rfl (by decide) rfl ?_
        refine a_goto (tgt := 15) dX1_fewestFor_55 (by decide) ?_
        refine AW.sub (lv1 := [(0, .ref a0), (1, .int x1), (2, .long x2), (4, .int x4), (5, .int (x5 + (1 : Int32)))]) [1, 2, 3, 4, 0] rfl ?_
        exact ih _ _ _ _ _ _ hf
      · replace hf := iteT hf c9
        refine a_aload_n dX1_fewestFor_36 rfl 0 rfl ?_
        refine a_iload dX1_fewestFor_37 4 rfl ?_
        refine a_iload dX1_fewestFor_39 3 rfl ?_
        refine a_iload_n dX1_fewestFor_41 rfl 1 rfl ?_
        refine a_lload_n dX1_fewestFor_42 rfl 2 rfl ?_
        obtain ⟨q3_, eq3_, hf⟩ := bnd hf
        refine a_callV (As := [.int x5, .int x4, .int x1, .long x2]) (rest := []) dX1_fewestFor_43 mfX1_reaches cvX1_82 (wX1_reaches eq3_) rc1 (kX1_reaches eq3_) (by decide) rfl rfl (Nat.le_of_ble_eq_true rfl) ?_
        refine a_if_eq dX1_fewestFor_46 (tgt := 52) (by decide) (fun c9 => ?_) (fun c9 => ?_)
        · replace hf := iteT hf c9
          refine a_iinc (v := x5 + (1 : Int32)) (lv1 := [(5, .int (x5 + (1 : Int32))), (0, .ref a0), (1, .int x1), (2, .long x2), (4, .int x4)]) dX1_fewestFor_52 4 rfl rfl (by decide) rfl ?_
          refine a_goto (tgt := 15) dX1_fewestFor_55 (by decide) ?_
          refine AW.sub (lv1 := [(0, .ref a0), (1, .int x1), (2, .long x2), (4, .int x4), (5, .int (x5 + (1 : Int32)))]) [1, 2, 3, 4, 0] rfl ?_
          exact ih _ _ _ _ _ _ hf
        · replace hf := iteF hf c9
          refine a_iload dX1_fewestFor_49 4 rfl ?_
          have e9 := Option.some.inj hf
          subst e9
          exact a_iret rfl dX1_fewestFor_51 rfl
set_option maxHeartbeats 4000000 in
set_option maxRecDepth 100000 in
theorem wX1_fewestFor_b3 {l : Launch} {Γ : Gx} {t0 w0 : Nat} {q : Int32 × Mm} : ∀ (n : Nat) (a0 : Nat) (x1 : Int32) (x2 : Int64) (x4 : Int32) (M : Mm), fX1_fewestFor_b3 n a0 x1 x2 x4 M = some q → AW l Γ yX1_fewestFor cX1_fewestFor 6 ((some .int)) 44 t0 w0 3 [(0, .ref a0), (1, .int x1), (2, .long x2), (4, .int x4)] [] M (some (.int q.1)) q.2 := by
  intro n
  induction n with
  | zero =>
    intro a0 x1 x2 x4 M hf
    cases hf
  | succ n ih =>
    intro a0 x1 x2 x4 M hf
    rw [fX1_fewestFor_b3.eq_2] at hf
    refine a_iload dX1_fewestFor_3 3 rfl ?_
    refine a_aload_n dX1_fewestFor_5 rfl 0 rfl ?_
    obtain ⟨v1_, ev1_, hf⟩ := bnd hf
    refine a_getI dX1_fewestFor_6 flX1_21 rfl ev1_ ?_
    refine a_icmp_gt dX1_fewestFor_9 (tgt := 64) (by decide) (fun c9 => ?_) (fun c9 => ?_)
    · replace hf := iteT hf c9
      refine a_iconst (v := -1) dX1_fewestFor_64 (by decide) ?_
      have e9 := Option.some.inj hf
      subst e9
      exact a_iret rfl dX1_fewestFor_65 rfl
    · replace hf := iteF hf c9
      refine a_iconst (v := 0) dX1_fewestFor_12 (by decide) ?_
      refine a_istore (i := 5) (lv1 := [(5, .int ((0 : Int32))), (0, .ref a0), (1, .int x1), (2, .long x2), (4, .int x4)]) dX1_fewestFor_13 (by decide) rfl ?_
      refine AW.sub (lv1 := [(0, .ref a0), (1, .int x1), (2, .long x2), (4, .int x4), (5, .int ((0 : Int32)))]) [1, 2, 3, 4, 0] rfl ?_
      exact wX1_fewestFor_b15 _ ih _ _ _ _ _ _ _ hf
set_option maxHeartbeats 4000000 in
set_option maxRecDepth 100000 in
theorem wX1_fewestFor {l : Launch} {Γ : Gx} {a0 : Nat} {x1 : Int32} {x2 : Int64} {M : Mm} {q : Int32 × Mm} (hf : fX1_fewestFor a0 x1 x2 M = some q) : AM l Γ 44 yX1_fewestFor cX1_fewestFor 6 ((some .int)) [.ref a0, .int x1, .long x2] M (some (.int q.1)) q.2 := by
  unfold fX1_fewestFor at hf
  refine AM.of mfX1_fewestFor (Nat.le_of_ble_eq_true rfl) ?_
  generalize mT M = t0
  generalize mW M = w0
  show AW _ _ _ _ _ _ _ _ _ 0 [(0, .ref a0), (1, .int x1), (2, .long x2)] [] _ _ _
  obtain ⟨u0, eu0, hf⟩ := bnd hf
  refine a_iconst (v := 0) dX1_fewestFor_0 (by decide) ?_
  refine a_istore (i := 4) (lv1 := [(4, .int ((0 : Int32))), (0, .ref a0), (1, .int x1), (2, .long x2)]) dX1_fewestFor_1 (by decide) rfl ?_
  refine AW.sub (lv1 := [(0, .ref a0), (1, .int x1), (2, .long x2), (4, .int ((0 : Int32)))]) [1, 2, 3, 0] rfl ?_
  exact wX1_fewestFor_b3 _ _ _ _ _ _ hf
theorem kX5_standsOnWalk {a0 : Nat} {x1 : Int32} {x2 : Int32} {x3 : Int32} {x4 : Int32} {M : Mm} {q : Int32 × Mm} (hf : fX5_standsOnWalk a0 x1 x2 x3 x4 M = some q) : (mK M a0).1 = 6 := by
  unfold fX5_standsOnWalk at hf
  obtain ⟨u0, eu0, -⟩ := bnd hf
  exact kc_of eu0
set_option maxHeartbeats 4000000 in
set_option maxRecDepth 100000 in
theorem wX5_standsOnWalk {l : Launch} {Γ : Gx} {a0 : Nat} {x1 : Int32} {x2 : Int32} {x3 : Int32} {x4 : Int32} {M : Mm} {q : Int32 × Mm} (hf : fX5_standsOnWalk a0 x1 x2 x3 x4 M = some q) : AM l Γ 2 yX5_standsOnWalk cX5_standsOnWalk 6 ((some .boolean)) [.ref a0, .int x1, .int x2, .int x3, .int x4] M (some (.int q.1)) q.2 := by
  unfold fX5_standsOnWalk at hf
  refine AM.of mfX5_standsOnWalk (Nat.le_of_ble_eq_true rfl) ?_
  generalize mT M = t0
  generalize mW M = w0
  show AW _ _ _ _ _ _ _ _ _ 0 [(0, .ref a0), (1, .int x1), (2, .int x2), (3, .int x3), (4, .int x4)] [] _ _ _
  obtain ⟨u0, eu0, hf⟩ := bnd hf
  refine a_aload_n dX5_standsOnWalk_0 rfl 0 rfl ?_
  refine a_iload_n dX5_standsOnWalk_1 rfl 1 rfl ?_
  obtain ⟨q1_, eq1_, hf⟩ := bnd hf
  refine a_callV (As := [.int x1]) (rest := []) dX5_standsOnWalk_2 mfX5_thingAt cvX5_170 (wX5_thingAt eq1_) rc5 (kX5_thingAt eq1_) (by decide) rfl rfl (Nat.le_of_ble_eq_true rfl) ?_
  obtain ⟨n2_, en2_, hf⟩ := bnd hf
  refine a_topN en2_ ?_
  refine a_astoreq (x := n2_) (i := 5) (lv1 := [(5, rv n2_), (0, .ref a0), (1, .int x1), (2, .int x2), (3, .int x3), (4, .int x4)]) dX5_standsOnWalk_5 (by decide) rfl ?_
  refine a_aloadq (x := n2_) dX5_standsOnWalk_7 0 rfl ?_
  cases n2_ with
  | none =>
    replace hf := el0 hf
    refine a_ifnull0 (tgt := 51) dX5_standsOnWalk_9 (by decide) ?_
    refine a_iconst (v := 0) dX5_standsOnWalk_51 (by decide) ?_
    have e9 := Option.some.inj hf
    subst e9
    exact a_zret rfl rfl dX5_standsOnWalk_52 rfl
  | some o3_ =>
    replace hf := el1 hf
    refine a_ifnull1 dX5_standsOnWalk_9 ?_
    refine a_iload dX5_standsOnWalk_12 5 rfl ?_
    refine a_iload_n dX5_standsOnWalk_14 rfl 2 rfl ?_
    refine a_ishr dX5_standsOnWalk_15 ?_
    refine a_iconst (v := 1) dX5_standsOnWalk_16 (by decide) ?_
    refine a_iand dX5_standsOnWalk_17 ?_
    refine a_if_ne dX5_standsOnWalk_18 (tgt := 51) (by decide) (fun c9 => ?_) (fun c9 => ?_)
    · replace hf := iteF hf c9
      refine a_iconst (v := 0) dX5_standsOnWalk_51 (by decide) ?_
      have e9 := Option.some.inj hf
      subst e9
      exact a_zret rfl rfl dX5_standsOnWalk_52 rfl
    · replace hf := iteT hf c9
      refine a_aload dX5_standsOnWalk_21 0 rfl ?_
      obtain ⟨v4_, ev4_, hf⟩ := bnd hf
      refine a_getI dX5_standsOnWalk_23 flX5_174 rfl ev4_ ?_
      refine a_iload_n dX5_standsOnWalk_26 rfl 3 rfl ?_
      refine a_iload_n dX5_standsOnWalk_27 rfl 4 rfl ?_
      refine a_mmin dX5_standsOnWalk_28 wmX5_91 wma_mnI (by decide) (Nat.le_of_ble_eq_true rfl) ?_
      refine a_icmp_lt dX5_standsOnWalk_31 (tgt := 51) (by decide) (fun c9 => ?_) (fun c9 => ?_)
      · replace hf := iteT hf c9
        refine a_iconst (v := 0) dX5_standsOnWalk_51 (by decide) ?_
        have e9 := Option.some.inj hf
        subst e9
        exact a_zret rfl rfl dX5_standsOnWalk_52 rfl
      · replace hf := iteF hf c9
        refine a_aload dX5_standsOnWalk_34 0 rfl ?_
        obtain ⟨v5_, ev5_, hf⟩ := bnd hf
        refine a_getI dX5_standsOnWalk_36 flX5_174 rfl ev5_ ?_
        refine a_iload_n dX5_standsOnWalk_39 rfl 3 rfl ?_
        refine a_iload_n dX5_standsOnWalk_40 rfl 4 rfl ?_
        refine a_mmax dX5_standsOnWalk_41 wmX5_85 wma_mxI (by decide) (Nat.le_of_ble_eq_true rfl) ?_
        refine a_icmp_gt dX5_standsOnWalk_44 (tgt := 51) (by decide) (fun c9 => ?_) (fun c9 => ?_)
        · replace hf := iteT hf c9
          refine a_iconst (v := 0) dX5_standsOnWalk_51 (by decide) ?_
          have e9 := Option.some.inj hf
          subst e9
          exact a_zret rfl rfl dX5_standsOnWalk_52 rfl
        · replace hf := iteF hf c9
          refine a_iconst (v := 1) dX5_standsOnWalk_47 (by decide) ?_
          refine a_goto (tgt := 52) dX5_standsOnWalk_48 (by decide) ?_
          have e9 := Option.some.inj hf
          subst e9
          exact a_zret rfl rfl dX5_standsOnWalk_52 rfl
theorem kX5_missedOfHundred {a0 : Nat} {x1 : Int32} {M : Mm} {q : Int32 × Mm} (hf : fX5_missedOfHundred a0 x1 M = some q) : (mK M a0).1 = 6 := by
  unfold fX5_missedOfHundred at hf
  obtain ⟨u0, eu0, -⟩ := bnd hf
  exact kc_of eu0
set_option maxHeartbeats 4000000 in
set_option maxRecDepth 100000 in
theorem wX5_missedOfHundred {l : Launch} {Γ : Gx} {a0 : Nat} {x1 : Int32} {M : Mm} {q : Int32 × Mm} (hf : fX5_missedOfHundred a0 x1 M = some q) : AM l Γ 2 yX5_missedOfHundred cX5_missedOfHundred 3 ((some .int)) [.ref a0, .int x1] M (some (.int q.1)) q.2 := by
  unfold fX5_missedOfHundred at hf
  refine AM.of mfX5_missedOfHundred (Nat.le_of_ble_eq_true rfl) ?_
  generalize mT M = t0
  generalize mW M = w0
  show AW _ _ _ _ _ _ _ _ _ 0 [(0, .ref a0), (1, .int x1)] [] _ _ _
  obtain ⟨u0, eu0, hf⟩ := bnd hf
  refine a_aload_n dX5_missedOfHundred_0 rfl 0 rfl ?_
  refine a_iload_n dX5_missedOfHundred_1 rfl 1 rfl ?_
  obtain ⟨q1_, eq1_, hf⟩ := bnd hf
  refine a_callV (As := [.int x1]) (rest := []) dX5_missedOfHundred_2 mfX5_thingAt cvX5_170 (wX5_thingAt eq1_) rc5 (kX5_thingAt eq1_) (by decide) rfl rfl (Nat.le_of_ble_eq_true rfl) ?_
  obtain ⟨n2_, en2_, hf⟩ := bnd hf
  refine a_topN en2_ ?_
  refine a_astore_nq (x := n2_) (i := 2) (lv1 := [(2, rv n2_), (0, .ref a0), (1, .int x1)]) dX5_missedOfHundred_5 rfl (by decide) rfl ?_
  refine a_aload_nq (x := n2_) dX5_missedOfHundred_6 rfl 0 rfl ?_
  cases n2_ with
  | none =>
    replace hf := el0 hf
    refine a_ifnonnull0 dX5_missedOfHundred_7 ?_
    refine a_bipush (v := 100) dX5_missedOfHundred_10 (by decide) ?_
    refine a_goto (tgt := 42) dX5_missedOfHundred_12 (by decide) ?_
    have e9 := Option.some.inj hf
    subst e9
    exact a_iret rfl dX5_missedOfHundred_42 rfl
  | some o3_ =>
    replace hf := el1 hf
    refine a_ifnonnull1 (tgt := 15) dX5_missedOfHundred_7 (by decide) ?_
    refine a_bipush (v := 100) dX5_missedOfHundred_15 (by decide) ?_
    refine a_aload_n dX5_missedOfHundred_17 rfl 0 rfl ?_
    obtain ⟨v4_, ev4_, hf⟩ := bnd hf
    refine a_getI dX5_missedOfHundred_18 flX5_175 rfl ev4_ ?_
    refine a_aload_n dX5_missedOfHundred_21 rfl 0 rfl ?_
    obtain ⟨v5_, ev5_, hf⟩ := bnd hf
    refine a_getI dX5_missedOfHundred_22 flX5_178 rfl ev5_ ?_
    refine a_if_eq dX5_missedOfHundred_25 (tgt := 33) (by decide) (fun c9 => ?_) (fun c9 => ?_)
    · replace hf := iteT hf c9
      refine a_bipush (v := 10) dX5_missedOfHundred_33 (by decide) ?_
      refine a_aload_n dX5_missedOfHundred_35 rfl 1 rfl ?_
      obtain ⟨v6_, ev6_, hf⟩ := bnd hf
      refine a_getI dX5_missedOfHundred_36 flX5_28 rfl ev6_ ?_
      refine a_isub dX5_missedOfHundred_39 ?_
      refine a_imul dX5_missedOfHundred_40 ?_
      refine a_isub dX5_missedOfHundred_41 ?_
      have e9 := Option.some.inj hf
      subst e9
      exact a_iret rfl dX5_missedOfHundred_42 rfl
    · replace hf := iteF hf c9
      refine a_bipush (v := 10) dX5_missedOfHundred_28 (by decide) ?_
      refine a_goto (tgt := 40) dX5_missedOfHundred_30 (by decide) ?_
      refine a_imul dX5_missedOfHundred_40 ?_
      refine a_isub dX5_missedOfHundred_41 ?_
      have e9 := Option.some.inj hf
      subst e9
      exact a_iret rfl dX5_missedOfHundred_42 rfl
theorem kX5_safeBut {a0 : Nat} {x1 : Int32} {x2 : Int32} {x3 : Int32} {M : Mm} {q : Int64 × Mm} (hf : fX5_safeBut a0 x1 x2 x3 M = some q) : (mK M a0).1 = 6 := by
  unfold fX5_safeBut at hf
  obtain ⟨u0, eu0, -⟩ := bnd hf
  exact kc_of eu0
set_option maxHeartbeats 4000000 in
set_option maxRecDepth 100000 in
theorem wX5_safeBut_b6 {l : Launch} {Γ : Gx} {t0 w0 : Nat} {q : Int64 × Mm} : ∀ (n : Nat) (a0 : Nat) (x1 : Int32) (x2 : Int32) (x3 : Int32) (x4 : Int64) (x6 : Int32) (M : Mm), fX5_safeBut_b6 n a0 x1 x2 x3 x4 x6 M = some q → AW l Γ yX5_safeBut cX5_safeBut 7 ((some .long)) 3 t0 w0 6 [(0, .ref a0), (1, .int x1), (2, .int x2), (3, .int x3), (4, .long x4), (6, .int x6)] [] M (some (.long q.1)) q.2 := by
  intro n
  induction n with
  | zero =>
    intro a0 x1 x2 x3 x4 x6 M hf
    cases hf
  | succ n ih =>
    intro a0 x1 x2 x3 x4 x6 M hf
    rw [fX5_safeBut_b6.eq_2] at hf
    refine a_iload dX5_safeBut_6 5 rfl ?_
    refine a_aload_n dX5_safeBut_8 rfl 0 rfl ?_
    obtain ⟨v1_, ev1_, hf⟩ := bnd hf
    refine a_getI dX5_safeBut_9 flX5_46 rfl ev1_ ?_
    refine a_icmp_ge dX5_safeBut_12 (tgt := 45) (by decide) (fun c9 => ?_) (fun c9 => ?_)
    · replace hf := iteT hf c9
      refine a_lload dX5_safeBut_45 4 rfl ?_
      have e9 := Option.some.inj hf
      subst e9
      exact a_lret rfl dX5_safeBut_47 rfl
    · replace hf := iteF hf c9
      refine a_aload_n dX5_safeBut_15 rfl 0 rfl ?_
      refine a_iload dX5_safeBut_16 5 rfl ?_
      refine a_iload_n dX5_safeBut_18 rfl 1 rfl ?_
      refine a_iload_n dX5_safeBut_19 rfl 2 rfl ?_
      refine a_iload_n dX5_safeBut_20 rfl 3 rfl ?_
      obtain ⟨q2_, eq2_, hf⟩ := bnd hf
      refine a_callV (As := [.int x6, .int x1, .int x2, .int x3]) (rest := []) dX5_safeBut_21 mfX5_standsOnWalk cvX5_181 (wX5_standsOnWalk eq2_) rc5 (kX5_standsOnWalk eq2_) (by decide) rfl rfl (Nat.le_of_ble_eq_true rfl) ?_
      refine a_if_eq dX5_safeBut_24 (tgt := 39) (by decide) (fun c9 => ?_) (fun c9 => ?_)
      · replace hf := iteT hf c9
        refine a_iinc (v := x6 + (1 : Int32)) (lv1 := [(6, .int (x6 + (1 : Int32))), (0, .ref a0), (1, .int x1), (2, .int x2), (3, .int x3), (4, .long x4)]) dX5_safeBut_39 5 rfl rfl (by decide) rfl ?_
        refine a_goto (tgt := 6) dX5_safeBut_42 (by decide) ?_
        refine AW.sub (lv1 := [(0, .ref a0), (1, .int x1), (2, .int x2), (3, .int x3), (4, .long x4), (6, .int (x6 + (1 : Int32)))]) [1, 2, 3, 4, 5, 0] rfl ?_
        exact ih _ _ _ _ _ _ _ hf
      · replace hf := iteF hf c9
        refine a_lload dX5_safeBut_27 4 rfl ?_
        refine a_aload_n dX5_safeBut_29 rfl 0 rfl ?_
        refine a_iload dX5_safeBut_30 5 rfl ?_
        obtain ⟨q3_, eq3_, hf⟩ := bnd hf
        refine a_callV (As := [.int x6]) (rest := [.long x4]) dX5_safeBut_32 mfX5_missedOfHundred cvX5_185 (wX5_missedOfHundred eq3_) rc5 (kX5_missedOfHundred eq3_) (by decide) rfl rfl (Nat.le_of_ble_eq_true rfl) ?_
        refine a_i2l dX5_safeBut_35 ?_
        refine a_lmul dX5_safeBut_36 ?_
        refine a_lstore (i := 4) (lv1 := [(4, .long (x4 * q3_.1.toInt64)), (0, .ref a0), (1, .int x1), (2, .int x2), (3, .int x3), (6, .int x6)]) dX5_safeBut_37 (by decide) rfl ?_
        refine a_iinc (v := x6 + (1 : Int32)) (lv1 := [(6, .int (x6 + (1 : Int32))), (4, .long (x4 * q3_.1.toInt64)), (0, .ref a0), (1, .int x1), (2, .int x2), (3, .int x3)]) dX5_safeBut_39 5 rfl rfl (by decide) rfl ?_
        refine a_goto (tgt := 6) dX5_safeBut_42 (by decide) ?_
        refine AW.sub (lv1 := [(0, .ref a0), (1, .int x1), (2, .int x2), (3, .int x3), (4, .long (x4 * q3_.1.toInt64)), (6, .int (x6 + (1 : Int32)))]) [2, 3, 4, 5, 1, 0] rfl ?_
        exact ih _ _ _ _ _ _ _ hf
set_option maxHeartbeats 4000000 in
set_option maxRecDepth 100000 in
theorem wX5_safeBut {l : Launch} {Γ : Gx} {a0 : Nat} {x1 : Int32} {x2 : Int32} {x3 : Int32} {M : Mm} {q : Int64 × Mm} (hf : fX5_safeBut a0 x1 x2 x3 M = some q) : AM l Γ 3 yX5_safeBut cX5_safeBut 7 ((some .long)) [.ref a0, .int x1, .int x2, .int x3] M (some (.long q.1)) q.2 := by
  unfold fX5_safeBut at hf
  refine AM.of mfX5_safeBut (Nat.le_of_ble_eq_true rfl) ?_
  generalize mT M = t0
  generalize mW M = w0
  show AW _ _ _ _ _ _ _ _ _ 0 [(0, .ref a0), (1, .int x1), (2, .int x2), (3, .int x3)] [] _ _ _
  obtain ⟨u0, eu0, hf⟩ := bnd hf
  refine a_lconst (v := 1) dX5_safeBut_0 rfl ?_
  refine a_lstore (i := 4) (lv1 := [(4, .long ((1 : Int64))), (0, .ref a0), (1, .int x1), (2, .int x2), (3, .int x3)]) dX5_safeBut_1 (by decide) rfl ?_
  refine a_iconst (v := 0) dX5_safeBut_3 (by decide) ?_
  refine a_istore (i := 6) (lv1 := [(6, .int ((0 : Int32))), (4, .long ((1 : Int64))), (0, .ref a0), (1, .int x1), (2, .int x2), (3, .int x3)]) dX5_safeBut_4 (by decide) rfl ?_
  refine AW.sub (lv1 := [(0, .ref a0), (1, .int x1), (2, .int x2), (3, .int x3), (4, .long ((1 : Int64))), (6, .int ((0 : Int32)))]) [2, 3, 4, 5, 1, 0] rfl ?_
  exact wX5_safeBut_b6 _ _ _ _ _ _ _ _ hf
theorem kX5_firstBut {a0 : Nat} {x1 : Int32} {x2 : Int32} {x3 : Int32} {M : Mm} {q : Int32 × Mm} (hf : fX5_firstBut a0 x1 x2 x3 M = some q) : (mK M a0).1 = 6 := by
  unfold fX5_firstBut at hf
  obtain ⟨u0, eu0, -⟩ := bnd hf
  exact kc_of eu0
set_option maxHeartbeats 4000000 in
set_option maxRecDepth 100000 in
theorem wX5_firstBut_b11 {l : Launch} {Γ : Gx} {t0 w0 : Nat} {q : Int32 × Mm} : ∀ (n : Nat) (a0 : Nat) (x1 : Int32) (x2 : Int32) (x3 : Int32) (x4 : Int32) (x5 : Int64) (x7 : Int32) (M : Mm), fX5_firstBut_b11 n a0 x1 x2 x3 x4 x5 x7 M = some q → AW l Γ yX5_firstBut cX5_firstBut 10 ((some .int)) 4 t0 w0 11 [(0, .ref a0), (1, .int x1), (2, .int x2), (3, .int x3), (4, .int x4), (5, .long x5), (7, .int x7)] [] M (some (.int q.1)) q.2 := by
  intro n
  induction n with
  | zero =>
    intro a0 x1 x2 x3 x4 x5 x7 M hf
    cases hf
  | succ n ih =>
    intro a0 x1 x2 x3 x4 x5 x7 M hf
    rw [fX5_firstBut_b11.eq_2] at hf
    refine a_iload dX5_firstBut_11 6 rfl ?_
    refine a_aload_n dX5_firstBut_13 rfl 0 rfl ?_
    obtain ⟨v1_, ev1_, hf⟩ := bnd hf
    refine a_getI dX5_firstBut_14 flX5_46 rfl ev1_ ?_
    refine a_icmp_ge dX5_firstBut_17 (tgt := 68) (by decide) (fun c9 => ?_) (fun c9 => ?_)
    · replace hf := iteT hf c9
      refine a_iload dX5_firstBut_68 4 rfl ?_
      have e9 := Option.some.inj hf
      subst e9
      exact a_iret rfl dX5_firstBut_70 rfl
    · replace hf := iteF hf c9
      refine a_aload_n dX5_firstBut_20 rfl 0 rfl ?_
      refine a_iload dX5_firstBut_21 6 rfl ?_
      refine a_iload_n dX5_firstBut_23 rfl 1 rfl ?_
      refine a_iload_n dX5_firstBut_24 rfl 2 rfl ?_
      refine a_iload_n dX5_firstBut_25 rfl 3 rfl ?_
      obtain ⟨q2_, eq2_, hf⟩ := bnd hf
      refine a_callV (As := [.int x7, .int x1, .int x2, .int x3]) (rest := []) dX5_firstBut_26 mfX5_standsOnWalk cvX5_181 (wX5_standsOnWalk eq2_) rc5 (kX5_standsOnWalk eq2_) (by decide) rfl rfl (Nat.le_of_ble_eq_true rfl) ?_
      refine a_if_eq dX5_firstBut_29 (tgt := 62) (by decide) (fun c9 => ?_) (fun c9 => ?_)
      · replace hf := iteT hf c9
        refine a_iinc (v := x7 + (1 : Int32)) (lv1 := [(7, .int (x7 + (1 : Int32))), (0, .ref a0), (1, .int x1), (2, .int x2), (3, .int x3), (4, .int x4), (5, .long x5)]) dX5_firstBut_62 6 rfl rfl (by decide) rfl ?_
        refine a_goto (tgt := 11) dX5_firstBut_65 (by decide) ?_
        refine AW.sub (lv1 := [(0, .ref a0), (1, .int x1), (2, .int x2), (3, .int x3), (4, .int x4), (5, .long x5), (7, .int (x7 + (1 : Int32)))]) [1, 2, 3, 4, 5, 6, 0] rfl ?_
        exact ih _ _ _ _ _ _ _ _ hf
      · replace hf := iteF hf c9
        refine a_aload_n dX5_firstBut_32 rfl 0 rfl ?_
        refine a_iload_n dX5_firstBut_33 rfl 1 rfl ?_
        refine a_iload_n dX5_firstBut_34 rfl 2 rfl ?_
        refine a_iload_n dX5_firstBut_35 rfl 3 rfl ?_
        refine a_iconst (v := 1) dX5_firstBut_36 (by decide) ?_
        refine a_iload dX5_firstBut_37 6 rfl ?_
        refine a_ishl dX5_firstBut_39 ?_
        refine a_ior dX5_firstBut_40 ?_
        obtain ⟨q3_, eq3_, hf⟩ := bnd hf
        refine a_callV (As := [.int x1, .int x2, .int (x3 ||| (((1 : Int32)) <<< (x7 &&& 31)))]) (rest := []) dX5_firstBut_41 mfX5_safeBut cvX5_190 (wX5_safeBut eq3_) rc5 (kX5_safeBut eq3_) (by decide) rfl rfl (Nat.le_of_ble_eq_true rfl) ?_
        refine a_lstore (i := 8) (lv1 := [(8, .long q3_.1), (0, .ref a0), (1, .int x1), (2, .int x2), (3, .int x3), (4, .int x4), (5, .long x5), (7, .int x7)]) dX5_firstBut_44 (by decide) rfl ?_
        refine a_lload dX5_firstBut_46 0 rfl ?_
        refine a_lload dX5_firstBut_48 6 rfl ?_
        refine a_lcmp_le dX5_firstBut_50 dX5_firstBut_51 (tgt := 62) (by decide) (fun c9 => ?_) (fun c9 => ?_)
        · replace hf := iteT hf c9
          refine a_iinc (v := x7 + (1 : Int32)) (lv1 := [(7, .int (x7 + (1 : Int32))), (8, .long q3_.1), (0, .ref a0), (1, .int x1), (2, .int x2), (3, .int x3), (4, .int x4), (5, .long x5)]) dX5_firstBut_62 7 rfl rfl (by decide) rfl ?_
          refine a_goto (tgt := 11) dX5_firstBut_65 (by decide) ?_
          refine AW.sub (lv1 := [(0, .ref a0), (1, .int x1), (2, .int x2), (3, .int x3), (4, .int x4), (5, .long x5), (7, .int (x7 + (1 : Int32)))]) [2, 3, 4, 5, 6, 7, 0] rfl ?_
          exact ih _ _ _ _ _ _ _ _ hf
        · replace hf := iteF hf c9
          refine a_iload dX5_firstBut_54 7 rfl ?_
          refine a_istore (i := 4) (lv1 := [(4, .int x7), (8, .long q3_.1), (0, .ref a0), (1, .int x1), (2, .int x2), (3, .int x3), (5, .long x5), (7, .int x7)]) dX5_firstBut_56 (by decide) rfl ?_
          refine a_lload dX5_firstBut_58 1 rfl ?_
          refine a_lstore (i := 5) (lv1 := [(5, .long q3_.1), (4, .int x7), (8, .long q3_.1), (0, .ref a0), (1, .int x1), (2, .int x2), (3, .int x3), (7, .int x7)]) dX5_firstBut_60 (by decide) rfl ?_
          refine a_iinc (v := x7 + (1 : Int32)) (lv1 := [(7, .int (x7 + (1 : Int32))), (5, .long q3_.1), (4, .int x7), (8, .long q3_.1), (0, .ref a0), (1, .int x1), (2, .int x2), (3, .int x3)]) dX5_firstBut_62 7 rfl rfl (by decide) rfl ?_
          refine a_goto (tgt := 11) dX5_firstBut_65 (by decide) ?_
          refine AW.sub (lv1 := [(0, .ref a0), (1, .int x1), (2, .int x2), (3, .int x3), (4, .int x7), (5, .long q3_.1), (7, .int (x7 + (1 : Int32)))]) [4, 5, 6, 7, 2, 1, 0] rfl ?_
          exact ih _ _ _ _ _ _ _ _ hf
set_option maxHeartbeats 4000000 in
set_option maxRecDepth 100000 in
theorem wX5_firstBut {l : Launch} {Γ : Gx} {a0 : Nat} {x1 : Int32} {x2 : Int32} {x3 : Int32} {M : Mm} {q : Int32 × Mm} (hf : fX5_firstBut a0 x1 x2 x3 M = some q) : AM l Γ 4 yX5_firstBut cX5_firstBut 10 ((some .int)) [.ref a0, .int x1, .int x2, .int x3] M (some (.int q.1)) q.2 := by
  unfold fX5_firstBut at hf
  refine AM.of mfX5_firstBut (Nat.le_of_ble_eq_true rfl) ?_
  generalize mT M = t0
  generalize mW M = w0
  show AW _ _ _ _ _ _ _ _ _ 0 [(0, .ref a0), (1, .int x1), (2, .int x2), (3, .int x3)] [] _ _ _
  obtain ⟨u0, eu0, hf⟩ := bnd hf
  refine a_iconst (v := -1) dX5_firstBut_0 (by decide) ?_
  refine a_istore (i := 4) (lv1 := [(4, .int ((-1 : Int32))), (0, .ref a0), (1, .int x1), (2, .int x2), (3, .int x3)]) dX5_firstBut_1 (by decide) rfl ?_
  refine a_ldc2 (v := -1) dX5_firstBut_3 wcX5_188 ?_
  refine a_lstore (i := 5) (lv1 := [(5, .long ((-1 : Int64))), (4, .int ((-1 : Int32))), (0, .ref a0), (1, .int x1), (2, .int x2), (3, .int x3)]) dX5_firstBut_6 (by decide) rfl ?_
  refine a_iconst (v := 0) dX5_firstBut_8 (by decide) ?_
  refine a_istore (i := 7) (lv1 := [(7, .int ((0 : Int32))), (5, .long ((-1 : Int64))), (4, .int ((-1 : Int32))), (0, .ref a0), (1, .int x1), (2, .int x2), (3, .int x3)]) dX5_firstBut_9 (by decide) rfl ?_
  refine AW.sub (lv1 := [(0, .ref a0), (1, .int x1), (2, .int x2), (3, .int x3), (4, .int ((-1 : Int32))), (5, .long ((-1 : Int64))), (7, .int ((0 : Int32)))]) [3, 4, 5, 6, 2, 1, 0] rfl ?_
  exact wX5_firstBut_b11 _ _ _ _ _ _ _ _ _ hf
theorem kX5_orderedAt {a0 : Nat} {x1 : Int32} {x2 : Int32} {x3 : Int32} {M : Mm} {q : Int32 × Mm} (hf : fX5_orderedAt a0 x1 x2 x3 M = some q) : (mK M a0).1 = 6 := by
  unfold fX5_orderedAt at hf
  obtain ⟨u0, eu0, -⟩ := bnd hf
  exact kc_of eu0
set_option maxHeartbeats 4000000 in
set_option maxRecDepth 100000 in
theorem wX5_orderedAt_b6 {l : Launch} {Γ : Gx} {t0 w0 : Nat} {q : Int32 × Mm} : ∀ (n : Nat) (a0 : Nat) (x1 : Int32) (x2 : Int32) (x3 : Int32) (x4 : Int32) (x5 : Int32) (M : Mm), fX5_orderedAt_b6 n a0 x1 x2 x3 x4 x5 M = some q → AW l Γ yX5_orderedAt cX5_orderedAt 7 ((some .int)) 5 t0 w0 6 [(0, .ref a0), (1, .int x1), (2, .int x2), (3, .int x3), (4, .int x4), (5, .int x5)] [] M (some (.int q.1)) q.2 := by
  intro n
  induction n with
  | zero =>
    intro a0 x1 x2 x3 x4 x5 M hf
    cases hf
  | succ n ih =>
    intro a0 x1 x2 x3 x4 x5 M hf
    rw [fX5_orderedAt_b6.eq_2] at hf
    refine a_iload dX5_orderedAt_6 5 rfl ?_
    refine a_aload_n dX5_orderedAt_8 rfl 0 rfl ?_
    obtain ⟨v1_, ev1_, hf⟩ := bnd hf
    refine a_getI dX5_orderedAt_9 flX5_46 rfl ev1_ ?_
    refine a_icmp_ge dX5_orderedAt_12 (tgt := 59) (by decide) (fun c9 => ?_) (fun c9 => ?_)
    · replace hf := iteT hf c9
      refine a_iconst (v := -1) dX5_orderedAt_59 (by decide) ?_
      have e9 := Option.some.inj hf
      subst e9
      exact a_iret rfl dX5_orderedAt_60 rfl
    · replace hf := iteF hf c9
      refine a_iload_n dX5_orderedAt_15 rfl 3 rfl ?_
      refine a_if_lt dX5_orderedAt_16 (tgt := 59) (by decide) (fun c9 => ?_) (fun c9 => ?_)
      · replace hf := iteT hf c9
        refine a_iconst (v := -1) dX5_orderedAt_59 (by decide) ?_
        have e9 := Option.some.inj hf
        subst e9
        exact a_iret rfl dX5_orderedAt_60 rfl
      · replace hf := iteF hf c9
        refine a_aload_n dX5_orderedAt_19 rfl 0 rfl ?_
        refine a_iload_n dX5_orderedAt_20 rfl 1 rfl ?_
        refine a_iload_n dX5_orderedAt_21 rfl 2 rfl ?_
        refine a_iload dX5_orderedAt_22 4 rfl ?_
        obtain ⟨q2_, eq2_, hf⟩ := bnd hf
        refine a_callV (As := [.int x1, .int x2, .int x4]) (rest := []) dX5_orderedAt_24 mfX5_firstBut cvX5_194 (wX5_firstBut eq2_) rc5 (kX5_firstBut eq2_) (by decide) rfl rfl (Nat.le_of_ble_eq_true rfl) ?_
        refine a_istore (i := 6) (lv1 := [(6, .int q2_.1), (0, .ref a0), (1, .int x1), (2, .int x2), (3, .int x3), (4, .int x4), (5, .int x5)]) dX5_orderedAt_27 (by decide) rfl ?_
        refine a_iload dX5_orderedAt_29 6 rfl ?_
        refine a_iload_n dX5_orderedAt_31 rfl 4 rfl ?_
        refine a_icmp_eq dX5_orderedAt_32 (tgt := 41) (by decide) (fun c9 => ?_) (fun c9 => ?_)
        · replace hf := iteT hf c9
          refine a_iload dX5_orderedAt_41 0 rfl ?_
          have e9 := Option.some.inj hf
          subst e9
          exact a_iret rfl dX5_orderedAt_43 rfl
        · replace hf := iteF hf c9
          refine a_iload dX5_orderedAt_35 0 rfl ?_
          refine a_iconst (v := -1) dX5_orderedAt_37 (by decide) ?_
          refine a_icmp_ne dX5_orderedAt_38 (tgt := 44) (by decide) (fun c9 => ?_) (fun c9 => ?_)
          · replace hf := iteF hf c9
            refine a_iload dX5_orderedAt_44 5 rfl ?_
            refine a_iconst (v := 1) dX5_orderedAt_46 (by decide) ?_
            refine a_iload dX5_orderedAt_47 0 rfl ?_
            refine a_ishl dX5_orderedAt_49 ?_
            refine a_ior dX5_orderedAt_50 ?_
            refine a_istore (i := 4) (lv1 := [(4, .int (x4 ||| (((1 : Int32)) <<< (q2_.1 &&& 31)))), (6, .int q2_.1), (0, .ref a0), (1, .int x1), (2, .int x2), (3, .int x3), (5, .int x5)]) dX5_orderedAt_51 (by decide) rfl ?_
            refine a_iinc (v := x5 + (1 : Int32)) (lv1 := [(5, .int (x5 + (1 : Int32))), (4, .int (x4 ||| (((1 : Int32)) <<< (q2_.1 &&& 31)))), (6, .int q2_.1), (0, .ref a0), (1, .int x1), (2, .int x2), (3, .int x3)]) dX5_orderedAt_53 6 rfl rfl (by decide) rfl ?_
            refine a_goto (tgt := 6) dX5_orderedAt_56 (by decide) ?_
            refine AW.sub (lv1 := [(0, .ref a0), (1, .int x1), (2, .int x2), (3, .int x3), (4, .int (x4 ||| (((1 : Int32)) <<< (q2_.1 &&& 31)))), (5, .int (x5 + (1 : Int32)))]) [3, 4, 5, 6, 1, 0] rfl ?_
            exact ih _ _ _ _ _ _ _ hf
          · replace hf := iteT hf c9
            refine a_iload dX5_orderedAt_41 0 rfl ?_
            have e9 := Option.some.inj hf
            subst e9
            exact a_iret rfl dX5_orderedAt_43 rfl
set_option maxHeartbeats 4000000 in
set_option maxRecDepth 100000 in
theorem wX5_orderedAt {l : Launch} {Γ : Gx} {a0 : Nat} {x1 : Int32} {x2 : Int32} {x3 : Int32} {M : Mm} {q : Int32 × Mm} (hf : fX5_orderedAt a0 x1 x2 x3 M = some q) : AM l Γ 5 yX5_orderedAt cX5_orderedAt 7 ((some .int)) [.ref a0, .int x1, .int x2, .int x3] M (some (.int q.1)) q.2 := by
  unfold fX5_orderedAt at hf
  refine AM.of mfX5_orderedAt (Nat.le_of_ble_eq_true rfl) ?_
  generalize mT M = t0
  generalize mW M = w0
  show AW _ _ _ _ _ _ _ _ _ 0 [(0, .ref a0), (1, .int x1), (2, .int x2), (3, .int x3)] [] _ _ _
  obtain ⟨u0, eu0, hf⟩ := bnd hf
  refine a_iconst (v := 0) dX5_orderedAt_0 (by decide) ?_
  refine a_istore (i := 4) (lv1 := [(4, .int ((0 : Int32))), (0, .ref a0), (1, .int x1), (2, .int x2), (3, .int x3)]) dX5_orderedAt_1 (by decide) rfl ?_
  refine a_iconst (v := 0) dX5_orderedAt_3 (by decide) ?_
  refine a_istore (i := 5) (lv1 := [(5, .int ((0 : Int32))), (4, .int ((0 : Int32))), (0, .ref a0), (1, .int x1), (2, .int x2), (3, .int x3)]) dX5_orderedAt_4 (by decide) rfl ?_
  refine AW.sub (lv1 := [(0, .ref a0), (1, .int x1), (2, .int x2), (3, .int x3), (4, .int ((0 : Int32))), (5, .int ((0 : Int32)))]) [2, 3, 4, 5, 1, 0] rfl ?_
  exact wX5_orderedAt_b6 _ _ _ _ _ _ _ _ hf
theorem kX7_wipe {a0 : Nat} {M : Mm} {q : Mm} (hf : fX7_wipe a0 M = some q) : (mK M a0).1 = 8 := by
  unfold fX7_wipe at hf
  obtain ⟨u0, eu0, -⟩ := bnd hf
  exact kc_of eu0
set_option maxHeartbeats 4000000 in
set_option maxRecDepth 100000 in
theorem wX7_wipe {l : Launch} {Γ : Gx} {a0 : Nat} {M : Mm} {q : Mm} (hf : fX7_wipe a0 M = some q) : AM l Γ 1 yX7_wipe cX7_wipe 1 (none) [.ref a0] M none q := by
  unfold fX7_wipe at hf
  refine AM.of mfX7_wipe (Nat.le_of_ble_eq_true rfl) ?_
  generalize mT M = t0
  generalize mW M = w0
  show AW _ _ _ _ _ _ _ _ _ 0 [(0, .ref a0)] [] _ _ _
  obtain ⟨u0, eu0, hf⟩ := bnd hf
  refine a_aload_n dX7_wipe_0 rfl 0 rfl ?_
  refine a_iconst (v := 0) dX7_wipe_1 (by decide) ?_
  obtain ⟨M1_, eM1_, hf⟩ := bnd hf
  refine a_putI dX7_wipe_2 fpX7_15 rfl (Or.inr nf7_1) eM1_ ?_
  have e9 := Option.some.inj hf
  subst e9
  exact a_vret rfl dX7_wipe_5 rfl
theorem kX7_add {a0 : Nat} {x1 : Int32} {M : Mm} {q : Mm} (hf : fX7_add a0 x1 M = some q) : (mK M a0).1 = 8 := by
  unfold fX7_add at hf
  obtain ⟨u0, eu0, -⟩ := bnd hf
  exact kc_of eu0
set_option maxHeartbeats 4000000 in
set_option maxRecDepth 100000 in
theorem wX7_add_b26 {l : Launch} {Γ : Gx} {t0 w0 : Nat} {q : Mm} (a0 : Nat) (M : Mm) (hf : fX7_add_b26 a0 M = some q) : AW l Γ yX7_add cX7_add 2 (none) 1 t0 w0 26 [(0, .ref a0)] [] M none q := by
  unfold fX7_add_b26 at hf
  refine a_aload_n dX7_add_26 rfl 0 rfl ?_
  refine a_dup dX7_add_27 rfl ?_
  obtain ⟨v1_, ev1_, hf⟩ := bnd hf
  refine a_getI dX7_add_28 flX7_15 rfl ev1_ ?_
  refine a_iconst (v := 1) dX7_add_31 (by decide) ?_
  refine a_iadd dX7_add_32 ?_
  obtain ⟨M2_, eM2_, hf⟩ := bnd hf
  refine a_putI dX7_add_33 fpX7_15 rfl (Or.inr nf7_1) eM2_ ?_
  have e9 := Option.some.inj hf
  subst e9
  exact a_vret rfl dX7_add_36 rfl
set_option maxHeartbeats 4000000 in
set_option maxRecDepth 100000 in
theorem wX7_add {l : Launch} {Γ : Gx} {a0 : Nat} {x1 : Int32} {M : Mm} {q : Mm} (hf : fX7_add a0 x1 M = some q) : AM l Γ 1 yX7_add cX7_add 2 (none) [.ref a0, .int x1] M none q := by
  unfold fX7_add at hf
  refine AM.of mfX7_add (Nat.le_of_ble_eq_true rfl) ?_
  generalize mT M = t0
  generalize mW M = w0
  show AW _ _ _ _ _ _ _ _ _ 0 [(0, .ref a0), (1, .int x1)] [] _ _ _
  obtain ⟨u0, eu0, hf⟩ := bnd hf
  refine a_aload_n dX7_add_0 rfl 0 rfl ?_
  obtain ⟨v1_, ev1_, hf⟩ := bnd hf
  refine a_getI dX7_add_1 flX7_15 rfl ev1_ ?_
  refine a_if_lt dX7_add_4 (tgt := 26) (by decide) (fun c9 => ?_) (fun c9 => ?_)
  · replace hf := iteT hf c9
    refine AW.sub (lv1 := [(0, .ref a0)]) [0] rfl ?_
    exact wX7_add_b26 _ _ hf
  · replace hf := iteF hf c9
    refine a_aload_n dX7_add_7 rfl 0 rfl ?_
    obtain ⟨v2_, ev2_, hf⟩ := bnd hf
    refine a_getI dX7_add_8 flX7_15 rfl ev2_ ?_
    refine a_bipush (v := 20) dX7_add_11 (by decide) ?_
    refine a_icmp_ge dX7_add_13 (tgt := 26) (by decide) (fun c9 => ?_) (fun c9 => ?_)
    · replace hf := iteT hf c9
      refine AW.sub (lv1 := [(0, .ref a0)]) [0] rfl ?_
      exact wX7_add_b26 _ _ hf
    · replace hf := iteF hf c9
      refine a_aload_n dX7_add_16 rfl 0 rfl ?_
      obtain ⟨o3_, eo3_, hf⟩ := bnd hf
      refine a_getR dX7_add_17 flX7_11 rfl eo3_ ?_
      refine a_aload_n dX7_add_20 rfl 0 rfl ?_
      obtain ⟨v4_, ev4_, hf⟩ := bnd hf
      refine a_getI dX7_add_21 flX7_15 rfl ev4_ ?_
      refine a_iload_n dX7_add_24 rfl 1 rfl ?_
      obtain ⟨M5_, eM5_, hf⟩ := bnd hf
      refine a_iast dX7_add_25 eM5_ ?_
      refine AW.sub (lv1 := [(0, .ref a0)]) [0] rfl ?_
      exact wX7_add_b26 _ _ hf
theorem kX7_bodyAt {a0 : Nat} {x1 : Int32} {M : Mm} {q : Int32 × Mm} (hf : fX7_bodyAt a0 x1 M = some q) : (mK M a0).1 = 8 := by
  unfold fX7_bodyAt at hf
  obtain ⟨u0, eu0, -⟩ := bnd hf
  exact kc_of eu0
set_option maxHeartbeats 4000000 in
set_option maxRecDepth 100000 in
theorem wX7_bodyAt {l : Launch} {Γ : Gx} {a0 : Nat} {x1 : Int32} {M : Mm} {q : Int32 × Mm} (hf : fX7_bodyAt a0 x1 M = some q) : AM l Γ 1 yX7_bodyAt cX7_bodyAt 2 ((some .int)) [.ref a0, .int x1] M (some (.int q.1)) q.2 := by
  unfold fX7_bodyAt at hf
  refine AM.of mfX7_bodyAt (Nat.le_of_ble_eq_true rfl) ?_
  generalize mT M = t0
  generalize mW M = w0
  show AW _ _ _ _ _ _ _ _ _ 0 [(0, .ref a0), (1, .int x1)] [] _ _ _
  obtain ⟨u0, eu0, hf⟩ := bnd hf
  refine a_iload_n dX7_bodyAt_0 rfl 1 rfl ?_
  refine a_if_lt dX7_bodyAt_1 (tgt := 18) (by decide) (fun c9 => ?_) (fun c9 => ?_)
  · replace hf := iteT hf c9
    refine a_iconst (v := -1) dX7_bodyAt_18 (by decide) ?_
    refine a_goto (tgt := 28) dX7_bodyAt_19 (by decide) ?_
    have e9 := Option.some.inj hf
    subst e9
    exact a_iret rfl dX7_bodyAt_28 rfl
  · replace hf := iteF hf c9
    refine a_iload_n dX7_bodyAt_4 rfl 1 rfl ?_
    refine a_aload_n dX7_bodyAt_5 rfl 0 rfl ?_
    obtain ⟨v1_, ev1_, hf⟩ := bnd hf
    refine a_getI dX7_bodyAt_6 flX7_15 rfl ev1_ ?_
    refine a_icmp_ge dX7_bodyAt_9 (tgt := 18) (by decide) (fun c9 => ?_) (fun c9 => ?_)
    · replace hf := iteT hf c9
      refine a_iconst (v := -1) dX7_bodyAt_18 (by decide) ?_
      refine a_goto (tgt := 28) dX7_bodyAt_19 (by decide) ?_
      have e9 := Option.some.inj hf
      subst e9
      exact a_iret rfl dX7_bodyAt_28 rfl
    · replace hf := iteF hf c9
      refine a_iload_n dX7_bodyAt_12 rfl 1 rfl ?_
      refine a_bipush (v := 20) dX7_bodyAt_13 (by decide) ?_
      refine a_icmp_lt dX7_bodyAt_15 (tgt := 22) (by decide) (fun c9 => ?_) (fun c9 => ?_)
      · replace hf := iteT hf c9
        refine a_aload_n dX7_bodyAt_22 rfl 0 rfl ?_
        obtain ⟨o2_, eo2_, hf⟩ := bnd hf
        refine a_getR dX7_bodyAt_23 flX7_11 rfl eo2_ ?_
        refine a_iload_n dX7_bodyAt_26 rfl 1 rfl ?_
        obtain ⟨v3_, ev3_, hf⟩ := bnd hf
        refine a_iald dX7_bodyAt_27 ev3_ ?_
        have e9 := Option.some.inj hf
        subst e9
        exact a_iret rfl dX7_bodyAt_28 rfl
      · replace hf := iteF hf c9
        refine a_iconst (v := -1) dX7_bodyAt_18 (by decide) ?_
        refine a_goto (tgt := 28) dX7_bodyAt_19 (by decide) ?_
        have e9 := Option.some.inj hf
        subst e9
        exact a_iret rfl dX7_bodyAt_28 rfl
