/-! the walks (written by wip/whole/gen.py) -/
theorem kX8_init {a0 : Nat} {M : Mm} {q : Mm} (hf : fX8_init a0 M = some q) : (mK M a0).1 = 9 := by
  unfold fX8_init at hf
  obtain ⟨u0, eu0, -⟩ := bnd hf
  exact kc_of eu0
set_option maxHeartbeats 4000000 in
set_option maxRecDepth 100000 in
theorem wX8_init_b96 {l : Launch} {Γ : Gx} {t0 w0 : Nat} {q : Mm} : ∀ (n : Nat) (a0 : Nat) (x1 : Int32) (M : Mm), fX8_init_b96 n a0 x1 M = some q → AW l Γ yX8_init cX8_init 2 (none) 3 t0 w0 96 [(0, .ref a0), (1, .int x1)] [] M none q := by
  intro n
  induction n with
  | zero =>
    intro a0 x1 M hf
    cases hf
  | succ n ih =>
    intro a0 x1 M hf
    rw [fX8_init_b96.eq_2] at hf
    refine a_iload_n dX8_init_96 rfl 1 rfl ?_
    refine a_bipush (v := 8) dX8_init_97 (by decide) ?_
    refine a_icmp_ge dX8_init_99 (tgt := 121) (by decide) (fun c9 => ?_) (fun c9 => ?_)
    · replace hf := iteT hf c9
      have e9 := Option.some.inj hf
      subst e9
      exact a_vret rfl dX8_init_121 rfl
    · replace hf := iteF hf c9
      refine a_aload_n dX8_init_102 rfl 0 rfl ?_
      obtain ⟨o1_, eo1_, hf⟩ := bnd hf
      refine a_getR dX8_init_103 flX8_11 rfl eo1_ ?_
      refine a_iload_n dX8_init_106 rfl 1 rfl ?_
      obtain ⟨q2_, eq2_, hf⟩ := bnd hf
      refine a_new dX8_init_107 nwX8_9 rfl nz3 eq2_ ?_
      refine a_dup dX8_init_110 rfl ?_
      obtain ⟨M3_, eM3_, hf⟩ := bnd hf
      refine a_callIN (As := []) (rest := [.ref q2_.1, .int x1, .ref o1_]) dX8_init_111 mfX3_init (host := "AStreetByACane") (List.mem_of_getElem? (i := 2) rfl) wiX3_init rfl (wX3_init eM3_) (by decide) rfl rfl (Nat.le_of_ble_eq_true rfl) ?_
      obtain ⟨M4_, eM4_, hf⟩ := bnd hf
      refine a_aast (t := 2) (c := 3) (v := (some q2_.1)) dX8_init_114 re22 eM4_ ?_
      refine a_iinc (v := x1 + (1 : Int32)) (lv1 := [(1, .int (x1 + (1 : Int32))), (0, .ref a0)]) dX8_init_115 1 rfl rfl (by decide) rfl ?_
      refine a_goto (tgt := 96) dX8_init_118 (by decide) ?_
      refine AW.sub (lv1 := [(0, .ref a0), (1, .int (x1 + (1 : Int32)))]) [1, 0] rfl ?_
      exact ih _ _ _ hf
set_option maxHeartbeats 4000000 in
set_option maxRecDepth 100000 in
theorem wX8_init {l : Launch} {Γ : Gx} {a0 : Nat} {M : Mm} {q : Mm} (hf : fX8_init a0 M = some q) : AM l Γ 3 yX8_init cX8_init 2 (none) [.ref a0] M none q := by
  unfold fX8_init at hf
  refine AM.of mfX8_init (Nat.le_of_ble_eq_true rfl) ?_
  generalize mT M = t0
  generalize mW M = w0
  show AW _ _ _ _ _ _ _ _ _ 0 [(0, .ref a0)] [] _ _ _
  obtain ⟨u0, eu0, hf⟩ := bnd hf
  refine a_aload_n dX8_init_0 rfl 0 rfl ?_
  refine a_objI dX8_init_1 wmX8_1 wob1 wob2 (by decide) (Nat.le_of_ble_eq_true rfl) ?_
  refine a_aload_n dX8_init_4 rfl 0 rfl ?_
  refine a_bipush (v := 8) dX8_init_5 (by decide) ?_
  obtain ⟨q1_, eq1_, hf⟩ := bnd hf
  refine a_anew (t := 2) dX8_init_7 rfl (by decide) (fun _ => rfl) wclX8_9 ov22 eq1_ ?_
  obtain ⟨M2_, eM2_, hf⟩ := bnd hf
  refine a_putR dX8_init_10 fpX8_11 rfl (Or.inl rfl) eM2_ ?_
  refine a_aload_n dX8_init_13 rfl 0 rfl ?_
  obtain ⟨q3_, eq3_, hf⟩ := bnd hf
  refine a_new dX8_init_14 nwX8_15 rfl nz5 eq3_ ?_
  refine a_dup dX8_init_17 rfl ?_
  obtain ⟨M4_, eM4_, hf⟩ := bnd hf
  refine a_callI (As := []) (rest := [.ref q3_.1, .ref a0]) dX8_init_18 mfX5_init ciX8_17 (wX5_init eM4_) (by decide) rfl rfl (Nat.le_of_ble_eq_true rfl) ?_
  obtain ⟨M5_, eM5_, hf⟩ := bnd hf
  refine a_putR dX8_init_21 fpX8_18 rfl (Or.inl rfl) eM5_ ?_
  refine a_aload_n dX8_init_24 rfl 0 rfl ?_
  obtain ⟨q6_, eq6_, hf⟩ := bnd hf
  refine a_new dX8_init_25 nwX8_15 rfl nz5 eq6_ ?_
  refine a_dup dX8_init_28 rfl ?_
  obtain ⟨M7_, eM7_, hf⟩ := bnd hf
  refine a_callI (As := []) (rest := [.ref q6_.1, .ref a0]) dX8_init_29 mfX5_init ciX8_17 (wX5_init eM7_) (by decide) rfl rfl (Nat.le_of_ble_eq_true rfl) ?_
  obtain ⟨M8_, eM8_, hf⟩ := bnd hf
  refine a_putR dX8_init_32 fpX8_22 rfl (Or.inl rfl) eM8_ ?_
  refine a_aload_n dX8_init_35 rfl 0 rfl ?_
  obtain ⟨q9_, eq9_, hf⟩ := bnd hf
  refine a_new dX8_init_36 nwX8_15 rfl nz5 eq9_ ?_
  refine a_dup dX8_init_39 rfl ?_
  obtain ⟨M10_, eM10_, hf⟩ := bnd hf
  refine a_callI (As := []) (rest := [.ref q9_.1, .ref a0]) dX8_init_40 mfX5_init ciX8_17 (wX5_init eM10_) (by decide) rfl rfl (Nat.le_of_ble_eq_true rfl) ?_
  obtain ⟨M11_, eM11_, hf⟩ := bnd hf
  refine a_putR dX8_init_43 fpX8_25 rfl (Or.inl rfl) eM11_ ?_
  refine a_aload_n dX8_init_46 rfl 0 rfl ?_
  refine a_iconst (v := 0) dX8_init_47 (by decide) ?_
  obtain ⟨M12_, eM12_, hf⟩ := bnd hf
  refine a_putZ dX8_init_48 fpX8_28 rfl (Or.inl rfl) eM12_ ?_
  refine a_aload_n dX8_init_51 rfl 0 rfl ?_
  refine a_bipush (v := 8) dX8_init_52 (by decide) ?_
  obtain ⟨q13_, eq13_, hf⟩ := bnd hf
  refine a_newarr (t := 0) dX8_init_54 rfl (by decide) rfl (fun _ => rfl) (fun _ h => by cases h) rfl wac0 (by decide) eq13_ ?_
  obtain ⟨M14_, eM14_, hf⟩ := bnd hf
  refine a_putR dX8_init_56 fpX8_32 rfl (Or.inl rfl) eM14_ ?_
  refine a_aload_n dX8_init_59 rfl 0 rfl ?_
  refine a_iconst (v := -1) dX8_init_60 (by decide) ?_
  obtain ⟨M15_, eM15_, hf⟩ := bnd hf
  refine a_putI dX8_init_61 fpX8_36 rfl (Or.inl rfl) eM15_ ?_
  refine a_aload_n dX8_init_64 rfl 0 rfl ?_
  obtain ⟨q16_, eq16_, hf⟩ := bnd hf
  refine a_new dX8_init_65 nwX8_40 rfl nz1 eq16_ ?_
  refine a_dup dX8_init_68 rfl ?_
  obtain ⟨M17_, eM17_, hf⟩ := bnd hf
  refine a_callIN (As := []) (rest := [.ref q16_.1, .ref a0]) dX8_init_69 mfX1_init (host := "AStreetByACane") (List.mem_of_getElem? (i := 0) rfl) wiX1_init rfl (wX1_init eM17_) (by decide) rfl rfl (Nat.le_of_ble_eq_true rfl) ?_
  obtain ⟨M18_, eM18_, hf⟩ := bnd hf
  refine a_putR dX8_init_72 fpX8_43 rfl (Or.inl rfl) eM18_ ?_
  refine a_aload_n dX8_init_75 rfl 0 rfl ?_
  obtain ⟨q19_, eq19_, hf⟩ := bnd hf
  refine a_new dX8_init_76 nwX8_47 rfl nz7 eq19_ ?_
  refine a_dup dX8_init_79 rfl ?_
  obtain ⟨M20_, eM20_, hf⟩ := bnd hf
  refine a_callIN (As := []) (rest := [.ref q19_.1, .ref a0]) dX8_init_80 mfX7_init (host := "AStreetByACane") (List.mem_of_getElem? (i := 1) rfl) wiX7_init rfl (wX7_init eM20_) (by decide) rfl rfl (Nat.le_of_ble_eq_true rfl) ?_
  obtain ⟨M21_, eM21_, hf⟩ := bnd hf
  refine a_putR dX8_init_83 fpX8_50 rfl (Or.inl rfl) eM21_ ?_
  refine a_aload_n dX8_init_86 rfl 0 rfl ?_
  refine a_bipush (v := 19) dX8_init_87 (by decide) ?_
  obtain ⟨q22_, eq22_, hf⟩ := bnd hf
  refine a_newarr (t := 1) dX8_init_89 rfl (by decide) rfl (fun _ => rfl) (fun _ h => by cases h) rfl wac1 (by decide) eq22_ ?_
  obtain ⟨M23_, eM23_, hf⟩ := bnd hf
  refine a_putR dX8_init_91 fpX8_54 rfl (Or.inl rfl) eM23_ ?_
  refine a_iconst (v := 0) dX8_init_94 (by decide) ?_
  refine a_istore_n (i := 1) (lv1 := [(1, .int ((0 : Int32))), (0, .ref a0)]) dX8_init_95 rfl (by decide) rfl ?_
  refine AW.sub (lv1 := [(0, .ref a0), (1, .int ((0 : Int32)))]) [1, 0] rfl ?_
  exact wX8_init_b96 _ _ _ _ hf
theorem kX8_shelfAt {a0 : Nat} {x1 : Int32} {M : Mm} {q : Option Nat × Mm} (hf : fX8_shelfAt a0 x1 M = some q) : (mK M a0).1 = 9 := by
  unfold fX8_shelfAt at hf
  obtain ⟨u0, eu0, -⟩ := bnd hf
  exact kc_of eu0
set_option maxHeartbeats 4000000 in
set_option maxRecDepth 100000 in
theorem wX8_shelfAt {l : Launch} {Γ : Gx} {a0 : Nat} {x1 : Int32} {M : Mm} {q : Option Nat × Mm} (hf : fX8_shelfAt a0 x1 M = some q) : AM l Γ 1 yX8_shelfAt cX8_shelfAt 2 ((some (.object "AStreetByACane$Shelf"))) [.ref a0, .int x1] M (some (rv q.1)) q.2 := by
  unfold fX8_shelfAt at hf
  refine AM.of mfX8_shelfAt (Nat.le_of_ble_eq_true rfl) ?_
  generalize mT M = t0
  generalize mW M = w0
  show AW _ _ _ _ _ _ _ _ _ 0 [(0, .ref a0), (1, .int x1)] [] _ _ _
  obtain ⟨u0, eu0, hf⟩ := bnd hf
  refine a_iload_n dX8_shelfAt_0 rfl 1 rfl ?_
  refine a_if_lt dX8_shelfAt_1 (tgt := 10) (by decide) (fun c9 => ?_) (fun c9 => ?_)
  · replace hf := iteT hf c9
    refine a_null dX8_shelfAt_10 ?_
    refine a_goto (tgt := 20) dX8_shelfAt_11 (by decide) ?_
    have e9 := Option.some.inj hf
    subst e9
    exact a_aret (x := none) rfl dX8_shelfAt_20 rfl
  · replace hf := iteF hf c9
    refine a_iload_n dX8_shelfAt_4 rfl 1 rfl ?_
    refine a_bipush (v := 8) dX8_shelfAt_5 (by decide) ?_
    refine a_icmp_lt dX8_shelfAt_7 (tgt := 14) (by decide) (fun c9 => ?_) (fun c9 => ?_)
    · replace hf := iteT hf c9
      refine a_aload_n dX8_shelfAt_14 rfl 0 rfl ?_
      obtain ⟨o1_, eo1_, hf⟩ := bnd hf
      refine a_getR dX8_shelfAt_15 flX8_11 rfl eo1_ ?_
      refine a_iload_n dX8_shelfAt_18 rfl 1 rfl ?_
      obtain ⟨n2_, en2_, hf⟩ := bnd hf
      refine a_aald (t := 2) dX8_shelfAt_19 (by decide) en2_ ?_
      have e9 := Option.some.inj hf
      subst e9
      exact a_aret (x := n2_) rfl dX8_shelfAt_20 rfl
    · replace hf := iteF hf c9
      refine a_null dX8_shelfAt_10 ?_
      refine a_goto (tgt := 20) dX8_shelfAt_11 (by decide) ?_
      have e9 := Option.some.inj hf
      subst e9
      exact a_aret (x := none) rfl dX8_shelfAt_20 rfl
theorem kX8_refused {a0 : Nat} {x1 : Int32} {M : Mm} {q : Int32 × Mm} (hf : fX8_refused a0 x1 M = some q) : (mK M a0).1 = 9 := by
  unfold fX8_refused at hf
  obtain ⟨u0, eu0, -⟩ := bnd hf
  exact kc_of eu0
set_option maxHeartbeats 4000000 in
set_option maxRecDepth 100000 in
theorem wX8_refused {l : Launch} {Γ : Gx} {a0 : Nat} {x1 : Int32} {M : Mm} {q : Int32 × Mm} (hf : fX8_refused a0 x1 M = some q) : AM l Γ 1 yX8_refused cX8_refused 3 ((some .int)) [.ref a0, .int x1] M (some (.int q.1)) q.2 := by
  unfold fX8_refused at hf
  refine AM.of mfX8_refused (Nat.le_of_ble_eq_true rfl) ?_
  generalize mT M = t0
  generalize mW M = w0
  show AW _ _ _ _ _ _ _ _ _ 0 [(0, .ref a0), (1, .int x1)] [] _ _ _
  obtain ⟨u0, eu0, hf⟩ := bnd hf
  refine a_iload_n dX8_refused_0 rfl 1 rfl ?_
  refine a_ineg dX8_refused_1 ?_
  refine a_istore_n (i := 2) (lv1 := [(2, .int (-x1)), (0, .ref a0), (1, .int x1)]) dX8_refused_2 rfl (by decide) rfl ?_
  refine a_iload_n dX8_refused_3 rfl 0 rfl ?_
  refine a_if_le dX8_refused_4 (tgt := 26) (by decide) (fun c9 => ?_) (fun c9 => ?_)
  · replace hf := iteT hf c9
    refine a_iload_n dX8_refused_26 rfl 2 rfl ?_
    have e9 := Option.some.inj hf
    subst e9
    exact a_iret rfl dX8_refused_27 rfl
  · replace hf := iteF hf c9
    refine a_iload_n dX8_refused_7 rfl 0 rfl ?_
    refine a_aload_n dX8_refused_8 rfl 1 rfl ?_
    obtain ⟨o1_, eo1_, hf⟩ := bnd hf
    refine a_getR dX8_refused_9 flX8_32 rfl eo1_ ?_
    obtain ⟨v2_, ev2_, hf⟩ := bnd hf
    refine a_alen dX8_refused_12 ev2_ ?_
    refine a_icmp_ge dX8_refused_13 (tgt := 26) (by decide) (fun c9 => ?_) (fun c9 => ?_)
    · replace hf := iteT hf c9
      refine a_iload_n dX8_refused_26 rfl 2 rfl ?_
      have e9 := Option.some.inj hf
      subst e9
      exact a_iret rfl dX8_refused_27 rfl
    · replace hf := iteF hf c9
      refine a_aload_n dX8_refused_16 rfl 1 rfl ?_
      obtain ⟨o3_, eo3_, hf⟩ := bnd hf
      refine a_getR dX8_refused_17 flX8_32 rfl eo3_ ?_
      refine a_iload_n dX8_refused_20 rfl 0 rfl ?_
      refine a_dup2 dX8_refused_21 rfl rfl ?_
      obtain ⟨v4_, ev4_, hf⟩ := bnd hf
      refine a_iald dX8_refused_22 ev4_ ?_
      refine a_iconst (v := 1) dX8_refused_23 (by decide) ?_
      refine a_iadd dX8_refused_24 ?_
      obtain ⟨M5_, eM5_, hf⟩ := bnd hf
      refine a_iast dX8_refused_25 eM5_ ?_
      refine a_iload_n dX8_refused_26 rfl 2 rfl ?_
      have e9 := Option.some.inj hf
      subst e9
      exact a_iret rfl dX8_refused_27 rfl
theorem kX8_row {a0 : Nat} {x1 : Int32} {x2 : Int32} {x3 : Int32} {M : Mm} {q : Int32 × Mm} (hf : fX8_row a0 x1 x2 x3 M = some q) : (mK M a0).1 = 9 := by
  unfold fX8_row at hf
  obtain ⟨u0, eu0, -⟩ := bnd hf
  exact kc_of eu0
set_option maxHeartbeats 4000000 in
set_option maxRecDepth 100000 in
theorem wX8_row {l : Launch} {Γ : Gx} {a0 : Nat} {x1 : Int32} {x2 : Int32} {x3 : Int32} {M : Mm} {q : Int32 × Mm} (hf : fX8_row a0 x1 x2 x3 M = some q) : AM l Γ 3 yX8_row cX8_row 5 ((some .int)) [.ref a0, .int x1, .int x2, .int x3] M (some (.int q.1)) q.2 := by
  unfold fX8_row at hf
  refine AM.of mfX8_row (Nat.le_of_ble_eq_true rfl) ?_
  generalize mT M = t0
  generalize mW M = w0
  show AW _ _ _ _ _ _ _ _ _ 0 [(0, .ref a0), (1, .int x1), (2, .int x2), (3, .int x3)] [] _ _ _
  obtain ⟨u0, eu0, hf⟩ := bnd hf
  refine a_aload_n dX8_row_0 rfl 0 rfl ?_
  refine a_iload_n dX8_row_1 rfl 1 rfl ?_
  obtain ⟨q1_, eq1_, hf⟩ := bnd hf
  refine a_callV (As := [.int x1]) (rest := []) dX8_row_2 mfX8_shelfAt cvX8_59 (wX8_shelfAt eq1_) rc8 (kX8_shelfAt eq1_) (by decide) rfl rfl (Nat.le_of_ble_eq_true rfl) ?_
  obtain ⟨n2_, en2_, hf⟩ := bnd hf
  refine a_topN en2_ ?_
  refine a_astoreq (x := n2_) (i := 4) (lv1 := [(4, rv n2_), (0, .ref a0), (1, .int x1), (2, .int x2), (3, .int x3)]) dX8_row_5 (by decide) rfl ?_
  refine a_aloadq (x := n2_) dX8_row_7 0 rfl ?_
  cases n2_ with
  | none =>
    replace hf := el0 hf
    refine a_ifnonnull0 dX8_row_9 ?_
    refine a_aload_n dX8_row_12 rfl 1 rfl ?_
    refine a_iconst (v := -1) dX8_row_13 (by decide) ?_
    obtain ⟨q4_, eq4_, hf⟩ := bnd hf
    refine a_callV (As := [.int ((-1 : Int32))]) (rest := []) dX8_row_14 mfX8_refused cvX8_63 (wX8_refused eq4_) rc8 (kX8_refused eq4_) (by decide) rfl rfl (Nat.le_of_ble_eq_true rfl) ?_
    have e9 := Option.some.inj hf
    subst e9
    exact a_iret rfl dX8_row_17 rfl
  | some o3_ =>
    replace hf := el1 hf
    refine a_ifnonnull1 (tgt := 18) dX8_row_9 (by decide) ?_
    refine a_iload_n dX8_row_18 rfl 4 rfl ?_
    refine a_if_ge dX8_row_19 (tgt := 29) (by decide) (fun c9 => ?_) (fun c9 => ?_)
    · replace hf := iteT hf c9
      refine a_iload_n dX8_row_29 rfl 3 rfl ?_
      refine a_if_lt dX8_row_30 (tgt := 38) (by decide) (fun c9 => ?_) (fun c9 => ?_)
      · replace hf := iteT hf c9
        refine a_aload_n dX8_row_38 rfl 1 rfl ?_
        refine a_bipush (v := -6) dX8_row_39 (by decide) ?_
        obtain ⟨q5_, eq5_, hf⟩ := bnd hf
        refine a_callV (As := [.int ((-6 : Int32))]) (rest := []) dX8_row_41 mfX8_refused cvX8_63 (wX8_refused eq5_) rc8 (kX8_refused eq5_) (by decide) rfl rfl (Nat.le_of_ble_eq_true rfl) ?_
        have e9 := Option.some.inj hf
        subst e9
        exact a_iret rfl dX8_row_44 rfl
      · replace hf := iteF hf c9
        refine a_iload_n dX8_row_33 rfl 3 rfl ?_
        refine a_iconst (v := 4) dX8_row_34 (by decide) ?_
        refine a_icmp_lt dX8_row_35 (tgt := 45) (by decide) (fun c9 => ?_) (fun c9 => ?_)
        · replace hf := iteT hf c9
          refine a_iload_n dX8_row_45 rfl 4 rfl ?_
          refine a_sipush (v := 160) dX8_row_46 (by decide) ?_
          refine a_icmp_le dX8_row_49 (tgt := 59) (by decide) (fun c9 => ?_) (fun c9 => ?_)
          · replace hf := iteT hf c9
            refine a_aload dX8_row_59 0 rfl ?_
            refine a_iload_n dX8_row_61 rfl 3 rfl ?_
            refine a_iload_n dX8_row_62 rfl 4 rfl ?_
            obtain ⟨M6_, eM6_, hf⟩ := bnd hf
            refine a_callV (As := [.int x2, .int x3]) (rest := []) dX8_row_63 mfX3_takeRow cvX8_67 (wX3_takeRow eM6_) rc3 (kX3_takeRow eM6_) (by decide) rfl rfl (Nat.le_of_ble_eq_true rfl) ?_
            refine a_iconst (v := 1) dX8_row_66 (by decide) ?_
            have e9 := Option.some.inj hf
            subst e9
            exact a_iret rfl dX8_row_67 rfl
          · replace hf := iteF hf c9
            refine a_aload_n dX8_row_52 rfl 1 rfl ?_
            refine a_bipush (v := -7) dX8_row_53 (by decide) ?_
            obtain ⟨q7_, eq7_, hf⟩ := bnd hf
            refine a_callV (As := [.int ((-7 : Int32))]) (rest := []) dX8_row_55 mfX8_refused cvX8_63 (wX8_refused eq7_) rc8 (kX8_refused eq7_) (by decide) rfl rfl (Nat.le_of_ble_eq_true rfl) ?_
            have e9 := Option.some.inj hf
            subst e9
            exact a_iret rfl dX8_row_58 rfl
        · replace hf := iteF hf c9
          refine a_aload_n dX8_row_38 rfl 1 rfl ?_
          refine a_bipush (v := -6) dX8_row_39 (by decide) ?_
          obtain ⟨q8_, eq8_, hf⟩ := bnd hf
          refine a_callV (As := [.int ((-6 : Int32))]) (rest := []) dX8_row_41 mfX8_refused cvX8_63 (wX8_refused eq8_) rc8 (kX8_refused eq8_) (by decide) rfl rfl (Nat.le_of_ble_eq_true rfl) ?_
          have e9 := Option.some.inj hf
          subst e9
          exact a_iret rfl dX8_row_44 rfl
    · replace hf := iteF hf c9
      refine a_aload_n dX8_row_22 rfl 1 rfl ?_
      refine a_bipush (v := -4) dX8_row_23 (by decide) ?_
      obtain ⟨q9_, eq9_, hf⟩ := bnd hf
      refine a_callV (As := [.int ((-4 : Int32))]) (rest := []) dX8_row_25 mfX8_refused cvX8_63 (wX8_refused eq9_) rc8 (kX8_refused eq9_) (by decide) rfl rfl (Nat.le_of_ble_eq_true rfl) ?_
      have e9 := Option.some.inj hf
      subst e9
      exact a_iret rfl dX8_row_28 rfl
set_option maxHeartbeats 4000000 in
set_option maxRecDepth 100000 in
theorem wX8_rowTrouble {l : Launch} {Γ : Gx} {a0 : Option Nat} {M : Mm} {q : Int32 × Mm} (hf : fX8_rowTrouble a0 M = some q) : AM l Γ 2 yX8_rowTrouble cX8_rowTrouble 1 ((some .int)) [rv a0] M (some (.int q.1)) q.2 := by
  unfold fX8_rowTrouble at hf
  refine AM.of mfX8_rowTrouble (by simp [lg_sl, rv_cat, vc_int, vc_ref, vc_long]) ?_
  generalize mT M = t0
  generalize mW M = w0
  rw [show lv_args 0 [rv a0] = [(0, rv a0)] by simp [lv_args, rv_cat, vc_int, vc_ref, vc_long]]
  refine a_aload_nq (x := a0) dX8_rowTrouble_0 rfl 0 rfl ?_
  cases a0 with
  | none =>
    replace hf := el0 hf
    refine a_ifnonnull0 dX8_rowTrouble_1 ?_
    refine a_iconst (v := -1) dX8_rowTrouble_4 (by decide) ?_
    have e9 := Option.some.inj hf
    subst e9
    exact a_iret rfl dX8_rowTrouble_5 rfl
  | some o1_ =>
    replace hf := el1 hf
    refine a_ifnonnull1 (tgt := 6) dX8_rowTrouble_1 (by decide) ?_
    refine a_aload_n dX8_rowTrouble_6 rfl 0 rfl ?_
    obtain ⟨q2_, eq2_, hf⟩ := bnd hf
    refine a_callV (As := []) (rest := []) dX8_rowTrouble_7 mfX3_holdsRow cvX8_352 (wX3_holdsRow eq2_) rc3 (kX3_holdsRow eq2_) (by decide) rfl rfl (Nat.le_of_ble_eq_true rfl) ?_
    refine a_if_eq dX8_rowTrouble_10 (tgt := 15) (by decide) (fun c9 => ?_) (fun c9 => ?_)
    · replace hf := iteT hf c9
      refine a_aload_n dX8_rowTrouble_15 rfl 0 rfl ?_
      obtain ⟨v3_, ev3_, hf⟩ := bnd hf
      refine a_getI dX8_rowTrouble_16 flX8_108 rfl ev3_ ?_
      refine a_iconst (v := -1) dX8_rowTrouble_19 (by decide) ?_
      refine a_icmp_ne dX8_rowTrouble_20 (tgt := 28) (by decide) (fun c9 => ?_) (fun c9 => ?_)
      · replace hf := iteF hf c9
        refine a_bipush (v := -2) dX8_rowTrouble_28 (by decide) ?_
        have e9 := Option.some.inj hf
        subst e9
        exact a_iret rfl dX8_rowTrouble_30 rfl
      · replace hf := iteT hf c9
        refine a_bipush (v := -3) dX8_rowTrouble_23 (by decide) ?_
        refine a_goto (tgt := 30) dX8_rowTrouble_25 (by decide) ?_
        have e9 := Option.some.inj hf
        subst e9
        exact a_iret rfl dX8_rowTrouble_30 rfl
    · replace hf := iteF hf c9
      refine a_iconst (v := 0) dX8_rowTrouble_13 (by decide) ?_
      have e9 := Option.some.inj hf
      subst e9
      exact a_iret rfl dX8_rowTrouble_14 rfl
theorem kX8_set {a0 : Nat} {x1 : Int32} {x2 : Int32} {x3 : Int64} {M : Mm} {q : Int32 × Mm} (hf : fX8_set a0 x1 x2 x3 M = some q) : (mK M a0).1 = 9 := by
  unfold fX8_set at hf
  obtain ⟨u0, eu0, -⟩ := bnd hf
  exact kc_of eu0
set_option maxHeartbeats 4000000 in
set_option maxRecDepth 100000 in
theorem wX8_set {l : Launch} {Γ : Gx} {a0 : Nat} {x1 : Int32} {x2 : Int32} {x3 : Int64} {M : Mm} {q : Int32 × Mm} (hf : fX8_set a0 x1 x2 x3 M = some q) : AM l Γ 3 yX8_set cX8_set 7 ((some .int)) [.ref a0, .int x1, .int x2, .long x3] M (some (.int q.1)) q.2 := by
  unfold fX8_set at hf
  refine AM.of mfX8_set (Nat.le_of_ble_eq_true rfl) ?_
  generalize mT M = t0
  generalize mW M = w0
  show AW _ _ _ _ _ _ _ _ _ 0 [(0, .ref a0), (1, .int x1), (2, .int x2), (3, .long x3)] [] _ _ _
  obtain ⟨u0, eu0, hf⟩ := bnd hf
  refine a_aload_n dX8_set_0 rfl 0 rfl ?_
  refine a_iload_n dX8_set_1 rfl 1 rfl ?_
  obtain ⟨q1_, eq1_, hf⟩ := bnd hf
  refine a_callV (As := [.int x1]) (rest := []) dX8_set_2 mfX8_shelfAt cvX8_59 (wX8_shelfAt eq1_) rc8 (kX8_shelfAt eq1_) (by decide) rfl rfl (Nat.le_of_ble_eq_true rfl) ?_
  obtain ⟨n2_, en2_, hf⟩ := bnd hf
  refine a_topN en2_ ?_
  refine a_astoreq (x := n2_) (i := 5) (lv1 := [(5, rv n2_), (0, .ref a0), (1, .int x1), (2, .int x2), (3, .long x3)]) dX8_set_5 (by decide) rfl ?_
  refine a_aloadq (x := n2_) dX8_set_7 0 rfl ?_
  obtain ⟨q3_, eq3_, hf⟩ := bnd hf
  refine a_callS (As := [rv n2_]) (rest := []) dX8_set_9 mfX8_rowTrouble csX8_71 (wX8_rowTrouble eq3_) (by decide) rfl rfl (Nat.le_of_ble_eq_true rfl) ?_
  refine a_istore (i := 6) (lv1 := [(6, .int q3_.1), (5, rv n2_), (0, .ref a0), (1, .int x1), (2, .int x2), (3, .long x3)]) dX8_set_12 (by decide) (by simp [lvS, lvD, rv_cat, vc_int, vc_ref, vc_long, vc_null, rv_some]) ?_
  refine a_aloadq (x := n2_) dX8_set_14 1 rfl ?_
  cases n2_ with
  | none =>
    replace hf := el0 hf
    refine a_ifnull0 (tgt := 24) dX8_set_16 (by decide) ?_
    refine a_aload_n dX8_set_24 rfl 2 rfl ?_
    refine a_iload dX8_set_25 0 rfl ?_
    obtain ⟨q5_, eq5_, hf⟩ := bnd hf
    refine a_callV (As := [.int q3_.1]) (rest := []) dX8_set_27 mfX8_refused cvX8_63 (wX8_refused eq5_) rc8 (kX8_refused eq5_) (by decide) rfl rfl (Nat.le_of_ble_eq_true rfl) ?_
    have e9 := Option.some.inj hf
    subst e9
    exact a_iret rfl dX8_set_30 rfl
  | some o4_ =>
    replace hf := el1 hf
    refine a_ifnull1 dX8_set_16 ?_
    refine a_iload dX8_set_19 0 rfl ?_
    refine a_if_eq dX8_set_21 (tgt := 31) (by decide) (fun c9 => ?_) (fun c9 => ?_)
    · replace hf := iteT hf c9
      refine a_aload dX8_set_31 1 rfl ?_
      refine a_iload_n dX8_set_33 rfl 4 rfl ?_
      refine a_iconst (v := 1) dX8_set_34 (by decide) ?_
      obtain ⟨q6_, eq6_, hf⟩ := bnd hf
      refine a_callV (As := [.int x2, .int ((1 : Int32))]) (rest := []) dX8_set_35 mfX3_hasRun cvX8_75 (wX3_hasRun eq6_) rc3 (kX3_hasRun eq6_) (by decide) rfl rfl (Nat.le_of_ble_eq_true rfl) ?_
      refine a_if_ne dX8_set_38 (tgt := 48) (by decide) (fun c9 => ?_) (fun c9 => ?_)
      · replace hf := iteF hf c9
        refine a_aload dX8_set_48 1 rfl ?_
        refine a_iload_n dX8_set_50 rfl 4 rfl ?_
        refine a_lload_n dX8_set_51 rfl 5 rfl ?_
        obtain ⟨M7_, eM7_, hf⟩ := bnd hf
        refine a_callV (As := [.int x2, .long x3]) (rest := []) dX8_set_52 mfX3_put cvX8_79 (wX3_put eM7_) rc3 (kX3_put eM7_) (by decide) rfl rfl (Nat.le_of_ble_eq_true rfl) ?_
        refine a_iconst (v := 1) dX8_set_55 (by decide) ?_
        have e9 := Option.some.inj hf
        subst e9
        exact a_iret rfl dX8_set_56 rfl
      · replace hf := iteT hf c9
        refine a_aload_n dX8_set_41 rfl 2 rfl ?_
        refine a_bipush (v := -5) dX8_set_42 (by decide) ?_
        obtain ⟨q8_, eq8_, hf⟩ := bnd hf
        refine a_callV (As := [.int ((-5 : Int32))]) (rest := []) dX8_set_44 mfX8_refused cvX8_63 (wX8_refused eq8_) rc8 (kX8_refused eq8_) (by decide) rfl rfl (Nat.le_of_ble_eq_true rfl) ?_
        have e9 := Option.some.inj hf
        subst e9
        exact a_iret rfl dX8_set_47 rfl
    · replace hf := iteF hf c9
      refine a_aload_n dX8_set_24 rfl 2 rfl ?_
      refine a_iload dX8_set_25 0 rfl ?_
      obtain ⟨q9_, eq9_, hf⟩ := bnd hf
      refine a_callV (As := [.int q3_.1]) (rest := []) dX8_set_27 mfX8_refused cvX8_63 (wX8_refused eq9_) rc8 (kX8_refused eq9_) (by decide) rfl rfl (Nat.le_of_ble_eq_true rfl) ?_
      have e9 := Option.some.inj hf
      subst e9
      exact a_iret rfl dX8_set_30 rfl
set_option maxHeartbeats 4000000 in
set_option maxRecDepth 100000 in
theorem wX8_pairTrouble {l : Launch} {Γ : Gx} {a0 : Option Nat} {a1 : Option Nat} {M : Mm} {q : Int32 × Mm} (hf : fX8_pairTrouble a0 a1 M = some q) : AM l Γ 3 yX8_pairTrouble cX8_pairTrouble 4 ((some .int)) [rv a0, rv a1] M (some (.int q.1)) q.2 := by
  unfold fX8_pairTrouble at hf
  refine AM.of mfX8_pairTrouble (by simp [lg_sl, rv_cat, vc_int, vc_ref, vc_long]) ?_
  generalize mT M = t0
  generalize mW M = w0
  rw [show lv_args 0 [rv a0, rv a1] = [(0, rv a0), (1, rv a1)] by simp [lv_args, rv_cat, vc_int, vc_ref, vc_long]]
  refine a_aload_nq (x := a0) dX8_pairTrouble_0 rfl 0 rfl ?_
  cases a0 with
  | none =>
    replace hf := el0 hf
    refine a_ifnull0 (tgt := 8) dX8_pairTrouble_1 (by decide) ?_
    refine a_iconst (v := -1) dX8_pairTrouble_8 (by decide) ?_
    have e9 := Option.some.inj hf
    subst e9
    exact a_iret rfl dX8_pairTrouble_9 rfl
  | some o1_ =>
    replace hf := el1 hf
    refine a_ifnull1 dX8_pairTrouble_1 ?_
    refine a_aload_nq (x := a1) dX8_pairTrouble_4 rfl 1 rfl ?_
    cases a1 with
    | none =>
      replace hf := el0 hf
      refine a_ifnonnull0 dX8_pairTrouble_5 ?_
      refine a_iconst (v := -1) dX8_pairTrouble_8 (by decide) ?_
      have e9 := Option.some.inj hf
      subst e9
      exact a_iret rfl dX8_pairTrouble_9 rfl
    | some o2_ =>
      replace hf := el1 hf
      refine a_ifnonnull1 (tgt := 10) dX8_pairTrouble_5 (by decide) ?_
      refine a_aload_n dX8_pairTrouble_10 rfl 0 rfl ?_
      obtain ⟨q3_, eq3_, hf⟩ := bnd hf
      refine a_callS (As := [.ref o1_]) (rest := []) dX8_pairTrouble_11 mfX8_rowTrouble csX8_71 (wX8_rowTrouble eq3_) (by decide) rfl rfl (Nat.le_of_ble_eq_true rfl) ?_
      refine a_istore_n (i := 2) (lv1 := [(2, .int q3_.1), (0, .ref o1_), (1, .ref o2_)]) dX8_pairTrouble_14 rfl (by decide) rfl ?_
      refine a_aload_n dX8_pairTrouble_15 rfl 2 rfl ?_
      obtain ⟨q4_, eq4_, hf⟩ := bnd hf
      refine a_callS (As := [.ref o2_]) (rest := []) dX8_pairTrouble_16 mfX8_rowTrouble csX8_71 (wX8_rowTrouble eq4_) (by decide) rfl rfl (Nat.le_of_ble_eq_true rfl) ?_
      refine a_istore_n (i := 3) (lv1 := [(3, .int q4_.1), (2, .int q3_.1), (0, .ref o1_), (1, .ref o2_)]) dX8_pairTrouble_19 rfl (by decide) rfl ?_
      refine a_iload_n dX8_pairTrouble_20 rfl 1 rfl ?_
      refine a_bipush (v := -2) dX8_pairTrouble_21 (by decide) ?_
      refine a_icmp_eq dX8_pairTrouble_23 (tgt := 32) (by decide) (fun c9 => ?_) (fun c9 => ?_)
      · replace hf := iteT hf c9
        refine a_bipush (v := -2) dX8_pairTrouble_32 (by decide) ?_
        have e9 := Option.some.inj hf
        subst e9
        exact a_iret rfl dX8_pairTrouble_34 rfl
      · replace hf := iteF hf c9
        refine a_iload_n dX8_pairTrouble_26 rfl 0 rfl ?_
        refine a_bipush (v := -2) dX8_pairTrouble_27 (by decide) ?_
        refine a_icmp_ne dX8_pairTrouble_29 (tgt := 35) (by decide) (fun c9 => ?_) (fun c9 => ?_)
        · replace hf := iteF hf c9
          refine a_iload_n dX8_pairTrouble_35 rfl 1 rfl ?_
          refine a_bipush (v := -3) dX8_pairTrouble_36 (by decide) ?_
          refine a_icmp_eq dX8_pairTrouble_38 (tgt := 47) (by decide) (fun c9 => ?_) (fun c9 => ?_)
          · replace hf := iteT hf c9
            refine a_bipush (v := -3) dX8_pairTrouble_47 (by decide) ?_
            have e9 := Option.some.inj hf
            subst e9
            exact a_iret rfl dX8_pairTrouble_49 rfl
          · replace hf := iteF hf c9
            refine a_iload_n dX8_pairTrouble_41 rfl 0 rfl ?_
            refine a_bipush (v := -3) dX8_pairTrouble_42 (by decide) ?_
            refine a_icmp_ne dX8_pairTrouble_44 (tgt := 50) (by decide) (fun c9 => ?_) (fun c9 => ?_)
            · replace hf := iteF hf c9
              refine a_aload_n dX8_pairTrouble_50 rfl 2 rfl ?_
              obtain ⟨v5_, ev5_, hf⟩ := bnd hf
              refine a_getI dX8_pairTrouble_51 flX8_108 rfl ev5_ ?_
              refine a_aload_n dX8_pairTrouble_54 rfl 3 rfl ?_
              obtain ⟨v6_, ev6_, hf⟩ := bnd hf
              refine a_getI dX8_pairTrouble_55 flX8_108 rfl ev6_ ?_
              refine a_icmp_ne dX8_pairTrouble_58 (tgt := 65) (by decide) (fun c9 => ?_) (fun c9 => ?_)
              · replace hf := iteF hf c9
                refine a_bipush (v := -2) dX8_pairTrouble_65 (by decide) ?_
                have e9 := Option.some.inj hf
                subst e9
                exact a_iret rfl dX8_pairTrouble_67 rfl
              · replace hf := iteT hf c9
                refine a_iconst (v := 0) dX8_pairTrouble_61 (by decide) ?_
                refine a_goto (tgt := 67) dX8_pairTrouble_62 (by decide) ?_
                have e9 := Option.some.inj hf
                subst e9
                exact a_iret rfl dX8_pairTrouble_67 rfl
            · replace hf := iteT hf c9
              refine a_bipush (v := -3) dX8_pairTrouble_47 (by decide) ?_
              have e9 := Option.some.inj hf
              subst e9
              exact a_iret rfl dX8_pairTrouble_49 rfl
        · replace hf := iteT hf c9
          refine a_bipush (v := -2) dX8_pairTrouble_32 (by decide) ?_
          have e9 := Option.some.inj hf
          subst e9
          exact a_iret rfl dX8_pairTrouble_34 rfl
theorem kX8_copy {a0 : Nat} {x1 : Int32} {x2 : Int32} {x3 : Int32} {x4 : Int32} {x5 : Int32} {M : Mm} {q : Int32 × Mm} (hf : fX8_copy a0 x1 x2 x3 x4 x5 M = some q) : (mK M a0).1 = 9 := by
  unfold fX8_copy at hf
  obtain ⟨u0, eu0, -⟩ := bnd hf
  exact kc_of eu0
set_option maxHeartbeats 4000000 in
set_option maxRecDepth 100000 in
theorem wX8_copy {l : Launch} {Γ : Gx} {a0 : Nat} {x1 : Int32} {x2 : Int32} {x3 : Int32} {x4 : Int32} {x5 : Int32} {M : Mm} {q : Int32 × Mm} (hf : fX8_copy a0 x1 x2 x3 x4 x5 M = some q) : AM l Γ 4 yX8_copy cX8_copy 9 ((some .int)) [.ref a0, .int x1, .int x2, .int x3, .int x4, .int x5] M (some (.int q.1)) q.2 := by
  unfold fX8_copy at hf
  refine AM.of mfX8_copy (Nat.le_of_ble_eq_true rfl) ?_
  generalize mT M = t0
  generalize mW M = w0
  show AW _ _ _ _ _ _ _ _ _ 0 [(0, .ref a0), (1, .int x1), (2, .int x2), (3, .int x3), (4, .int x4), (5, .int x5)] [] _ _ _
  obtain ⟨u0, eu0, hf⟩ := bnd hf
  refine a_aload_n dX8_copy_0 rfl 0 rfl ?_
  refine a_iload_n dX8_copy_1 rfl 1 rfl ?_
  obtain ⟨q1_, eq1_, hf⟩ := bnd hf
  refine a_callV (As := [.int x1]) (rest := []) dX8_copy_2 mfX8_shelfAt cvX8_59 (wX8_shelfAt eq1_) rc8 (kX8_shelfAt eq1_) (by decide) rfl rfl (Nat.le_of_ble_eq_true rfl) ?_
  obtain ⟨n2_, en2_, hf⟩ := bnd hf
  refine a_topN en2_ ?_
  refine a_astoreq (x := n2_) (i := 6) (lv1 := [(6, rv n2_), (0, .ref a0), (1, .int x1), (2, .int x2), (3, .int x3), (4, .int x4), (5, .int x5)]) dX8_copy_5 (by decide) rfl ?_
  refine a_aload_n dX8_copy_7 rfl 1 rfl ?_
  refine a_iload_n dX8_copy_8 rfl 3 rfl ?_
  obtain ⟨q3_, eq3_, hf⟩ := bnd hf
  refine a_callV (As := [.int x2]) (rest := []) dX8_copy_9 mfX8_shelfAt cvX8_59 (wX8_shelfAt eq3_) rc8 (kX8_shelfAt eq3_) (by decide) rfl rfl (Nat.le_of_ble_eq_true rfl) ?_
  obtain ⟨n4_, en4_, hf⟩ := bnd hf
  refine a_topN en4_ ?_
  refine a_astoreq (x := n4_) (i := 7) (lv1 := [(7, rv n4_), (6, rv n2_), (0, .ref a0), (1, .int x1), (2, .int x2), (3, .int x3), (4, .int x4), (5, .int x5)]) dX8_copy_12 (by decide) (by simp [lvS, lvD, rv_cat, vc_int, vc_ref, vc_long, vc_null, rv_some]) ?_
  refine a_aloadq (x := n2_) dX8_copy_14 1 rfl ?_
  refine a_aloadq (x := n4_) dX8_copy_16 0 rfl ?_
  obtain ⟨q5_, eq5_, hf⟩ := bnd hf
  refine a_callS (As := [rv n2_, rv n4_]) (rest := []) dX8_copy_18 mfX8_pairTrouble csX8_83 (wX8_pairTrouble eq5_) (by decide) rfl rfl (Nat.le_of_ble_eq_true rfl) ?_
  refine a_istore (i := 8) (lv1 := [(8, .int q5_.1), (7, rv n4_), (6, rv n2_), (0, .ref a0), (1, .int x1), (2, .int x2), (3, .int x3), (4, .int x4), (5, .int x5)]) dX8_copy_21 (by decide) (by simp [lvS, lvD, rv_cat, vc_int, vc_ref, vc_long, vc_null, rv_some]) ?_
  refine a_aloadq (x := n2_) dX8_copy_23 2 rfl ?_
  cases n2_ with
  | none =>
    replace hf := el0 hf
    refine a_ifnull0 (tgt := 38) dX8_copy_25 (by decide) ?_
    refine a_aload_n dX8_copy_38 rfl 3 rfl ?_
    refine a_iload dX8_copy_39 0 rfl ?_
    obtain ⟨q7_, eq7_, hf⟩ := bnd hf
    refine a_callV (As := [.int q5_.1]) (rest := []) dX8_copy_41 mfX8_refused cvX8_63 (wX8_refused eq7_) rc8 (kX8_refused eq7_) (by decide) rfl rfl (Nat.le_of_ble_eq_true rfl) ?_
    have e9 := Option.some.inj hf
    subst e9
    exact a_iret rfl dX8_copy_44 rfl
  | some o6_ =>
    replace hf := el1 hf
    refine a_ifnull1 dX8_copy_25 ?_
    refine a_aloadq (x := n4_) dX8_copy_28 1 rfl ?_
    cases n4_ with
    | none =>
      replace hf := el0 hf
      refine a_ifnull0 (tgt := 38) dX8_copy_30 (by decide) ?_
      refine a_aload_n dX8_copy_38 rfl 3 rfl ?_
      refine a_iload dX8_copy_39 0 rfl ?_
      obtain ⟨q9_, eq9_, hf⟩ := bnd hf
      refine a_callV (As := [.int q5_.1]) (rest := []) dX8_copy_41 mfX8_refused cvX8_63 (wX8_refused eq9_) rc8 (kX8_refused eq9_) (by decide) rfl rfl (Nat.le_of_ble_eq_true rfl) ?_
      have e9 := Option.some.inj hf
      subst e9
      exact a_iret rfl dX8_copy_44 rfl
    | some o8_ =>
      replace hf := el1 hf
      refine a_ifnull1 dX8_copy_30 ?_
      refine a_iload dX8_copy_33 0 rfl ?_
      refine a_if_eq dX8_copy_35 (tgt := 45) (by decide) (fun c9 => ?_) (fun c9 => ?_)
      · replace hf := iteT hf c9
        refine a_iload dX8_copy_45 8 rfl ?_
        refine a_if_ge dX8_copy_47 (tgt := 57) (by decide) (fun c9 => ?_) (fun c9 => ?_)
        · replace hf := iteT hf c9
          refine a_aload dX8_copy_57 2 rfl ?_
          refine a_iload_n dX8_copy_59 rfl 6 rfl ?_
          refine a_iload dX8_copy_60 8 rfl ?_
          obtain ⟨q10_, eq10_, hf⟩ := bnd hf
          refine a_callV (As := [.int x3, .int x5]) (rest := []) dX8_copy_62 mfX3_hasRun cvX8_75 (wX3_hasRun eq10_) rc3 (kX3_hasRun eq10_) (by decide) rfl rfl (Nat.le_of_ble_eq_true rfl) ?_
          refine a_if_eq dX8_copy_65 (tgt := 80) (by decide) (fun c9 => ?_) (fun c9 => ?_)
          · replace hf := iteT hf c9
            refine a_aload_n dX8_copy_80 rfl 3 rfl ?_
            refine a_bipush (v := -5) dX8_copy_81 (by decide) ?_
            obtain ⟨q11_, eq11_, hf⟩ := bnd hf
            refine a_callV (As := [.int ((-5 : Int32))]) (rest := []) dX8_copy_83 mfX8_refused cvX8_63 (wX8_refused eq11_) rc8 (kX8_refused eq11_) (by decide) rfl rfl (Nat.le_of_ble_eq_true rfl) ?_
            have e9 := Option.some.inj hf
            subst e9
            exact a_iret rfl dX8_copy_86 rfl
          · replace hf := iteF hf c9
            refine a_aload dX8_copy_68 1 rfl ?_
            refine a_iload dX8_copy_70 7 rfl ?_
            refine a_iload dX8_copy_72 8 rfl ?_
            obtain ⟨q12_, eq12_, hf⟩ := bnd hf
            refine a_callV (As := [.int x4, .int x5]) (rest := []) dX8_copy_74 mfX3_hasRun cvX8_75 (wX3_hasRun eq12_) rc3 (kX3_hasRun eq12_) (by decide) rfl rfl (Nat.le_of_ble_eq_true rfl) ?_
            refine a_if_ne dX8_copy_77 (tgt := 87) (by decide) (fun c9 => ?_) (fun c9 => ?_)
            · replace hf := iteF hf c9
              refine a_aload dX8_copy_87 2 rfl ?_
              obtain ⟨o13_, eo13_, hf⟩ := bnd hf
              refine a_getR dX8_copy_89 flX8_87 rfl eo13_ ?_
              refine a_iload_n dX8_copy_92 rfl 6 rfl ?_
              refine a_aload dX8_copy_93 1 rfl ?_
              obtain ⟨o14_, eo14_, hf⟩ := bnd hf
              refine a_getR dX8_copy_95 flX8_87 rfl eo14_ ?_
              refine a_iload dX8_copy_98 7 rfl ?_
              refine a_iload dX8_copy_100 8 rfl ?_
              obtain ⟨M15_, eM15_, hf⟩ := bnd hf
              refine a_copyJ dX8_copy_102 ⟨wmX8_90, wac_n, wac_s, wac_i⟩ eM15_ (by decide) (Nat.le_of_ble_eq_true rfl) ?_
              refine a_iconst (v := 1) dX8_copy_105 (by decide) ?_
              have e9 := Option.some.inj hf
              subst e9
              exact a_iret rfl dX8_copy_106 rfl
            · replace hf := iteT hf c9
              refine a_aload_n dX8_copy_80 rfl 3 rfl ?_
              refine a_bipush (v := -5) dX8_copy_81 (by decide) ?_
              obtain ⟨q16_, eq16_, hf⟩ := bnd hf
              refine a_callV (As := [.int ((-5 : Int32))]) (rest := []) dX8_copy_83 mfX8_refused cvX8_63 (wX8_refused eq16_) rc8 (kX8_refused eq16_) (by decide) rfl rfl (Nat.le_of_ble_eq_true rfl) ?_
              have e9 := Option.some.inj hf
              subst e9
              exact a_iret rfl dX8_copy_86 rfl
        · replace hf := iteF hf c9
          refine a_aload_n dX8_copy_50 rfl 3 rfl ?_
          refine a_bipush (v := -4) dX8_copy_51 (by decide) ?_
          obtain ⟨q17_, eq17_, hf⟩ := bnd hf
          refine a_callV (As := [.int ((-4 : Int32))]) (rest := []) dX8_copy_53 mfX8_refused cvX8_63 (wX8_refused eq17_) rc8 (kX8_refused eq17_) (by decide) rfl rfl (Nat.le_of_ble_eq_true rfl) ?_
          have e9 := Option.some.inj hf
          subst e9
          exact a_iret rfl dX8_copy_56 rfl
      · replace hf := iteF hf c9
        refine a_aload_n dX8_copy_38 rfl 3 rfl ?_
        refine a_iload dX8_copy_39 0 rfl ?_
        obtain ⟨q18_, eq18_, hf⟩ := bnd hf
        refine a_callV (As := [.int q5_.1]) (rest := []) dX8_copy_41 mfX8_refused cvX8_63 (wX8_refused eq18_) rc8 (kX8_refused eq18_) (by decide) rfl rfl (Nat.le_of_ble_eq_true rfl) ?_
        have e9 := Option.some.inj hf
        subst e9
        exact a_iret rfl dX8_copy_44 rfl
theorem kX8_element {a0 : Nat} {x1 : Int32} {x2 : Int32} {M : Mm} {q : Int64 × Mm} (hf : fX8_element a0 x1 x2 M = some q) : (mK M a0).1 = 9 := by
  unfold fX8_element at hf
  obtain ⟨u0, eu0, -⟩ := bnd hf
  exact kc_of eu0
set_option maxHeartbeats 4000000 in
set_option maxRecDepth 100000 in
theorem wX8_element {l : Launch} {Γ : Gx} {a0 : Nat} {x1 : Int32} {x2 : Int32} {M : Mm} {q : Int64 × Mm} (hf : fX8_element a0 x1 x2 M = some q) : AM l Γ 2 yX8_element cX8_element 4 ((some .long)) [.ref a0, .int x1, .int x2] M (some (.long q.1)) q.2 := by
  unfold fX8_element at hf
  refine AM.of mfX8_element (Nat.le_of_ble_eq_true rfl) ?_
  generalize mT M = t0
  generalize mW M = w0
  show AW _ _ _ _ _ _ _ _ _ 0 [(0, .ref a0), (1, .int x1), (2, .int x2)] [] _ _ _
  obtain ⟨u0, eu0, hf⟩ := bnd hf
  refine a_aload_n dX8_element_0 rfl 0 rfl ?_
  refine a_iload_n dX8_element_1 rfl 1 rfl ?_
  obtain ⟨q1_, eq1_, hf⟩ := bnd hf
  refine a_callV (As := [.int x1]) (rest := []) dX8_element_2 mfX8_shelfAt cvX8_59 (wX8_shelfAt eq1_) rc8 (kX8_shelfAt eq1_) (by decide) rfl rfl (Nat.le_of_ble_eq_true rfl) ?_
  obtain ⟨n2_, en2_, hf⟩ := bnd hf
  refine a_topN en2_ ?_
  refine a_astore_nq (x := n2_) (i := 3) (lv1 := [(3, rv n2_), (0, .ref a0), (1, .int x1), (2, .int x2)]) dX8_element_5 rfl (by decide) rfl ?_
  refine a_aload_nq (x := n2_) dX8_element_6 rfl 0 rfl ?_
  cases n2_ with
  | none =>
    replace hf := el0 hf
    refine a_ifnonnull0 dX8_element_7 ?_
    refine a_lconst (v := 0) dX8_element_10 rfl ?_
    refine a_goto (tgt := 19) dX8_element_11 (by decide) ?_
    have e9 := Option.some.inj hf
    subst e9
    exact a_lret rfl dX8_element_19 rfl
  | some o3_ =>
    replace hf := el1 hf
    refine a_ifnonnull1 (tgt := 14) dX8_element_7 (by decide) ?_
    refine a_aload_n dX8_element_14 rfl 0 rfl ?_
    refine a_iload_n dX8_element_15 rfl 3 rfl ?_
    obtain ⟨q4_, eq4_, hf⟩ := bnd hf
    refine a_callV (As := [.int x2]) (rest := []) dX8_element_16 mfX3_valueAt cvX8_96 (wX3_valueAt eq4_) rc3 (kX3_valueAt eq4_) (by decide) rfl rfl (Nat.le_of_ble_eq_true rfl) ?_
    have e9 := Option.some.inj hf
    subst e9
    exact a_lret rfl dX8_element_19 rfl
theorem kX8_show {a0 : Nat} {x1 : Int32} {x2 : Int32} {M : Mm} {q : Int32 × Mm} (hf : fX8_show a0 x1 x2 M = some q) : (mK M a0).1 = 9 := by
  unfold fX8_show at hf
  obtain ⟨u0, eu0, -⟩ := bnd hf
  exact kc_of eu0
set_option maxHeartbeats 4000000 in
set_option maxRecDepth 100000 in
theorem wX8_show_b32 {l : Launch} {Γ : Gx} {t0 w0 : Nat} {q : Int32 × Mm} (x2 : Int32) (a3 : Nat) (M : Mm) (hf : fX8_show_b32 x2 a3 M = some q) : AW l Γ yX8_show cX8_show 4 ((some .int)) 2 t0 w0 32 [(2, .int x2), (3, .ref a3)] [] M (some (.int q.1)) q.2 := by
  unfold fX8_show_b32 at hf
  refine a_aload_n dX8_show_32 rfl 1 rfl ?_
  refine a_iload_n dX8_show_33 rfl 0 rfl ?_
  obtain ⟨M1_, eM1_, hf⟩ := bnd hf
  refine a_callV (As := [.int x2]) (rest := []) dX8_show_34 mfX3_takeSign cvX8_104 (wX3_takeSign eM1_) rc3 (kX3_takeSign eM1_) (by decide) rfl rfl (Nat.le_of_ble_eq_true rfl) ?_
  refine a_iload_n dX8_show_37 rfl 0 rfl ?_
  refine a_iconst (v := -1) dX8_show_38 (by decide) ?_
  refine a_icmp_ne dX8_show_39 (tgt := 46) (by decide) (fun c9 => ?_) (fun c9 => ?_)
  · replace hf := iteF hf c9
    refine a_iconst (v := 1) dX8_show_46 (by decide) ?_
    have e9 := Option.some.inj hf
    subst e9
    exact a_iret rfl dX8_show_47 rfl
  · replace hf := iteT hf c9
    refine a_iconst (v := 0) dX8_show_42 (by decide) ?_
    refine a_goto (tgt := 47) dX8_show_43 (by decide) ?_
    have e9 := Option.some.inj hf
    subst e9
    exact a_iret rfl dX8_show_47 rfl
set_option maxHeartbeats 4000000 in
set_option maxRecDepth 100000 in
theorem wX8_show {l : Launch} {Γ : Gx} {a0 : Nat} {x1 : Int32} {x2 : Int32} {M : Mm} {q : Int32 × Mm} (hf : fX8_show a0 x1 x2 M = some q) : AM l Γ 2 yX8_show cX8_show 4 ((some .int)) [.ref a0, .int x1, .int x2] M (some (.int q.1)) q.2 := by
  unfold fX8_show at hf
  refine AM.of mfX8_show (Nat.le_of_ble_eq_true rfl) ?_
  generalize mT M = t0
  generalize mW M = w0
  show AW _ _ _ _ _ _ _ _ _ 0 [(0, .ref a0), (1, .int x1), (2, .int x2)] [] _ _ _
  obtain ⟨u0, eu0, hf⟩ := bnd hf
  refine a_aload_n dX8_show_0 rfl 0 rfl ?_
  refine a_iload_n dX8_show_1 rfl 1 rfl ?_
  obtain ⟨q1_, eq1_, hf⟩ := bnd hf
  refine a_callV (As := [.int x1]) (rest := []) dX8_show_2 mfX8_shelfAt cvX8_59 (wX8_shelfAt eq1_) rc8 (kX8_shelfAt eq1_) (by decide) rfl rfl (Nat.le_of_ble_eq_true rfl) ?_
  obtain ⟨n2_, en2_, hf⟩ := bnd hf
  refine a_topN en2_ ?_
  refine a_astore_nq (x := n2_) (i := 3) (lv1 := [(3, rv n2_), (0, .ref a0), (1, .int x1), (2, .int x2)]) dX8_show_5 rfl (by decide) rfl ?_
  refine a_aload_nq (x := n2_) dX8_show_6 rfl 0 rfl ?_
  cases n2_ with
  | none =>
    replace hf := el0 hf
    refine a_ifnull0 (tgt := 26) dX8_show_7 (by decide) ?_
    refine a_aload_n dX8_show_26 rfl 1 rfl ?_
    refine a_iconst (v := -1) dX8_show_27 (by decide) ?_
    obtain ⟨q4_, eq4_, hf⟩ := bnd hf
    refine a_callV (As := [.int ((-1 : Int32))]) (rest := []) dX8_show_28 mfX8_refused cvX8_63 (wX8_refused eq4_) rc8 (kX8_refused eq4_) (by decide) rfl rfl (Nat.le_of_ble_eq_true rfl) ?_
    have e9 := Option.some.inj hf
    subst e9
    exact a_iret rfl dX8_show_31 rfl
  | some o3_ =>
    replace hf := el1 hf
    refine a_ifnull1 dX8_show_7 ?_
    refine a_iload_n dX8_show_10 rfl 3 rfl ?_
    refine a_iconst (v := -1) dX8_show_11 (by decide) ?_
    refine a_icmp_eq dX8_show_12 (tgt := 32) (by decide) (fun c9 => ?_) (fun c9 => ?_)
    · replace hf := iteT hf c9
      refine AW.sub (lv1 := [(2, .int x2), (3, .ref o3_)]) [3, 0] rfl ?_
      exact wX8_show_b32 _ _ _ hf
    · replace hf := iteF hf c9
      refine a_aload_n dX8_show_15 rfl 1 rfl ?_
      obtain ⟨o5_, eo5_, hf⟩ := bnd hf
      refine a_getR dX8_show_16 flX8_18 rfl eo5_ ?_
      refine a_iload_n dX8_show_19 rfl 3 rfl ?_
      obtain ⟨q6_, eq6_, hf⟩ := bnd hf
      refine a_callV (As := [.int x2]) (rest := []) dX8_show_20 mfX5_signAt cvX8_100 (wX5_signAt eq6_) rc5 (kX5_signAt eq6_) (by decide) rfl rfl (Nat.le_of_ble_eq_true rfl) ?_
      obtain ⟨n7_, en7_, hf⟩ := bnd hf
      refine a_topN en7_ ?_
      cases n7_ with
      | none =>
        replace hf := el0 hf
        refine a_ifnonnull0 dX8_show_23 ?_
        refine a_aload_n dX8_show_26 rfl 1 rfl ?_
        refine a_iconst (v := -1) dX8_show_27 (by decide) ?_
        obtain ⟨q9_, eq9_, hf⟩ := bnd hf
        refine a_callV (As := [.int ((-1 : Int32))]) (rest := []) dX8_show_28 mfX8_refused cvX8_63 (wX8_refused eq9_) rc8 (kX8_refused eq9_) (by decide) rfl rfl (Nat.le_of_ble_eq_true rfl) ?_
        have e9 := Option.some.inj hf
        subst e9
        exact a_iret rfl dX8_show_31 rfl
      | some o8_ =>
        replace hf := el1 hf
        refine a_ifnonnull1 (tgt := 32) dX8_show_23 (by decide) ?_
        refine AW.sub (lv1 := [(2, .int x2), (3, .ref o3_)]) [3, 0] rfl ?_
        exact wX8_show_b32 _ _ _ hf
theorem kX8_holds {a0 : Nat} {x1 : Int32} {M : Mm} {q : Int32 × Mm} (hf : fX8_holds a0 x1 M = some q) : (mK M a0).1 = 9 := by
  unfold fX8_holds at hf
  obtain ⟨u0, eu0, -⟩ := bnd hf
  exact kc_of eu0
set_option maxHeartbeats 4000000 in
set_option maxRecDepth 100000 in
theorem wX8_holds {l : Launch} {Γ : Gx} {a0 : Nat} {x1 : Int32} {M : Mm} {q : Int32 × Mm} (hf : fX8_holds a0 x1 M = some q) : AM l Γ 2 yX8_holds cX8_holds 3 ((some .int)) [.ref a0, .int x1] M (some (.int q.1)) q.2 := by
  unfold fX8_holds at hf
  refine AM.of mfX8_holds (Nat.le_of_ble_eq_true rfl) ?_
  generalize mT M = t0
  generalize mW M = w0
  show AW _ _ _ _ _ _ _ _ _ 0 [(0, .ref a0), (1, .int x1)] [] _ _ _
  obtain ⟨u0, eu0, hf⟩ := bnd hf
  refine a_aload_n dX8_holds_0 rfl 0 rfl ?_
  refine a_iload_n dX8_holds_1 rfl 1 rfl ?_
  obtain ⟨q1_, eq1_, hf⟩ := bnd hf
  refine a_callV (As := [.int x1]) (rest := []) dX8_holds_2 mfX8_shelfAt cvX8_59 (wX8_shelfAt eq1_) rc8 (kX8_shelfAt eq1_) (by decide) rfl rfl (Nat.le_of_ble_eq_true rfl) ?_
  obtain ⟨n2_, en2_, hf⟩ := bnd hf
  refine a_topN en2_ ?_
  refine a_astore_nq (x := n2_) (i := 2) (lv1 := [(2, rv n2_), (0, .ref a0), (1, .int x1)]) dX8_holds_5 rfl (by decide) rfl ?_
  refine a_aload_nq (x := n2_) dX8_holds_6 rfl 0 rfl ?_
  cases n2_ with
  | none =>
    replace hf := el0 hf
    refine a_ifnonnull0 dX8_holds_7 ?_
    refine a_iconst (v := -1) dX8_holds_10 (by decide) ?_
    refine a_goto (tgt := 18) dX8_holds_11 (by decide) ?_
    have e9 := Option.some.inj hf
    subst e9
    exact a_iret rfl dX8_holds_18 rfl
  | some o3_ =>
    replace hf := el1 hf
    refine a_ifnonnull1 (tgt := 14) dX8_holds_7 (by decide) ?_
    refine a_aload_n dX8_holds_14 rfl 0 rfl ?_
    obtain ⟨v4_, ev4_, hf⟩ := bnd hf
    refine a_getI dX8_holds_15 flX8_108 rfl ev4_ ?_
    have e9 := Option.some.inj hf
    subst e9
    exact a_iret rfl dX8_holds_18 rfl
theorem kX8_says {a0 : Nat} {x1 : Int32} {x2 : Int32} {M : Mm} {q : Int32 × Mm} (hf : fX8_says a0 x1 x2 M = some q) : (mK M a0).1 = 9 := by
  unfold fX8_says at hf
  obtain ⟨u0, eu0, -⟩ := bnd hf
  exact kc_of eu0
set_option maxHeartbeats 4000000 in
set_option maxRecDepth 100000 in
theorem wX8_says {l : Launch} {Γ : Gx} {a0 : Nat} {x1 : Int32} {x2 : Int32} {M : Mm} {q : Int32 × Mm} (hf : fX8_says a0 x1 x2 M = some q) : AM l Γ 4 yX8_says cX8_says 5 ((some .int)) [.ref a0, .int x1, .int x2] M (some (.int q.1)) q.2 := by
  unfold fX8_says at hf
  refine AM.of mfX8_says (Nat.le_of_ble_eq_true rfl) ?_
  generalize mT M = t0
  generalize mW M = w0
  show AW _ _ _ _ _ _ _ _ _ 0 [(0, .ref a0), (1, .int x1), (2, .int x2)] [] _ _ _
  obtain ⟨u0, eu0, hf⟩ := bnd hf
  refine a_aload_n dX8_says_0 rfl 0 rfl ?_
  refine a_iload_n dX8_says_1 rfl 1 rfl ?_
  obtain ⟨q1_, eq1_, hf⟩ := bnd hf
  refine a_callV (As := [.int x1]) (rest := []) dX8_says_2 mfX8_shelfAt cvX8_59 (wX8_shelfAt eq1_) rc8 (kX8_shelfAt eq1_) (by decide) rfl rfl (Nat.le_of_ble_eq_true rfl) ?_
  obtain ⟨n2_, en2_, hf⟩ := bnd hf
  refine a_topN en2_ ?_
  refine a_astore_nq (x := n2_) (i := 3) (lv1 := [(3, rv n2_), (0, .ref a0), (1, .int x1), (2, .int x2)]) dX8_says_5 rfl (by decide) rfl ?_
  refine a_aload_nq (x := n2_) dX8_says_6 rfl 0 rfl ?_
  cases n2_ with
  | none =>
    replace hf := el0 hf
    refine a_ifnull0 (tgt := 20) dX8_says_7 (by decide) ?_
    refine a_aload_n dX8_says_20 rfl 1 rfl ?_
    refine a_iconst (v := -1) dX8_says_21 (by decide) ?_
    obtain ⟨q4_, eq4_, hf⟩ := bnd hf
    refine a_callV (As := [.int ((-1 : Int32))]) (rest := []) dX8_says_22 mfX8_refused cvX8_63 (wX8_refused eq4_) rc8 (kX8_refused eq4_) (by decide) rfl rfl (Nat.le_of_ble_eq_true rfl) ?_
    have e9 := Option.some.inj hf
    subst e9
    exact a_iret rfl dX8_says_25 rfl
  | some o3_ =>
    replace hf := el1 hf
    refine a_ifnull1 dX8_says_7 ?_
    refine a_iload_n dX8_says_10 rfl 3 rfl ?_
    refine a_if_lt dX8_says_11 (tgt := 20) (by decide) (fun c9 => ?_) (fun c9 => ?_)
    · replace hf := iteT hf c9
      refine a_aload_n dX8_says_20 rfl 1 rfl ?_
      refine a_iconst (v := -1) dX8_says_21 (by decide) ?_
      obtain ⟨q5_, eq5_, hf⟩ := bnd hf
      refine a_callV (As := [.int ((-1 : Int32))]) (rest := []) dX8_says_22 mfX8_refused cvX8_63 (wX8_refused eq5_) rc8 (kX8_refused eq5_) (by decide) rfl rfl (Nat.le_of_ble_eq_true rfl) ?_
      have e9 := Option.some.inj hf
      subst e9
      exact a_iret rfl dX8_says_25 rfl
    · replace hf := iteF hf c9
      refine a_iload_n dX8_says_14 rfl 3 rfl ?_
      refine a_bipush (v := 7) dX8_says_15 (by decide) ?_
      refine a_icmp_lt dX8_says_17 (tgt := 26) (by decide) (fun c9 => ?_) (fun c9 => ?_)
      · replace hf := iteT hf c9
        refine a_aload_n dX8_says_26 rfl 0 rfl ?_
        obtain ⟨v6_, ev6_, hf⟩ := bnd hf
        refine a_getI dX8_says_27 flX8_108 rfl ev6_ ?_
        refine a_iconst (v := -1) dX8_says_30 (by decide) ?_
        refine a_icmp_ne dX8_says_31 (tgt := 41) (by decide) (fun c9 => ?_) (fun c9 => ?_)
        · replace hf := iteF hf c9
          refine a_aload_n dX8_says_41 rfl 1 rfl ?_
          obtain ⟨o7_, eo7_, hf⟩ := bnd hf
          refine a_getR dX8_says_42 flX8_18 rfl eo7_ ?_
          refine a_aload_n dX8_says_45 rfl 0 rfl ?_
          obtain ⟨v8_, ev8_, hf⟩ := bnd hf
          refine a_getI dX8_says_46 flX8_108 rfl ev8_ ?_
          obtain ⟨q9_, eq9_, hf⟩ := bnd hf
          refine a_callV (As := [.int v8_]) (rest := []) dX8_says_49 mfX5_signAt cvX8_100 (wX5_signAt eq9_) rc5 (kX5_signAt eq9_) (by decide) rfl rfl (Nat.le_of_ble_eq_true rfl) ?_
          obtain ⟨n10_, en10_, hf⟩ := bnd hf
          refine a_topN en10_ ?_
          refine a_astoreq (x := n10_) (i := 4) (lv1 := [(4, rv n10_), (3, .ref o3_), (0, .ref a0), (1, .int x1), (2, .int x2)]) dX8_says_52 (by decide) rfl ?_
          refine a_aloadq (x := n10_) dX8_says_54 0 rfl ?_
          cases n10_ with
          | none =>
            replace hf := el0 hf
            refine a_ifnull0 (tgt := 68) dX8_says_56 (by decide) ?_
            refine a_aload_n dX8_says_68 rfl 2 rfl ?_
            refine a_bipush (v := -2) dX8_says_69 (by decide) ?_
            obtain ⟨q12_, eq12_, hf⟩ := bnd hf
            refine a_callV (As := [.int ((-2 : Int32))]) (rest := []) dX8_says_71 mfX8_refused cvX8_63 (wX8_refused eq12_) rc8 (kX8_refused eq12_) (by decide) rfl rfl (Nat.le_of_ble_eq_true rfl) ?_
            have e9 := Option.some.inj hf
            subst e9
            exact a_iret rfl dX8_says_74 rfl
          | some o11_ =>
            replace hf := el1 hf
            refine a_ifnull1 dX8_says_56 ?_
            refine a_aload dX8_says_59 0 rfl ?_
            refine a_iload_n dX8_says_61 rfl 4 rfl ?_
            obtain ⟨q13_, eq13_, hf⟩ := bnd hf
            refine a_callV (As := [.int x2]) (rest := []) dX8_says_62 mfX4_isOf cvX8_111 (wX4_isOf eq13_) rc4 (kX4_isOf eq13_) (by decide) rfl rfl (Nat.le_of_ble_eq_true rfl) ?_
            refine a_if_ne dX8_says_65 (tgt := 75) (by decide) (fun c9 => ?_) (fun c9 => ?_)
            · replace hf := iteF hf c9
              refine a_aload_n dX8_says_75 rfl 2 rfl ?_
              obtain ⟨o14_, eo14_, hf⟩ := bnd hf
              refine a_getR dX8_says_76 flX8_18 rfl eo14_ ?_
              refine a_aload dX8_says_79 0 rfl ?_
              refine a_iload_n dX8_says_81 rfl 4 rfl ?_
              obtain ⟨q15_, eq15_, hf⟩ := bnd hf
              refine a_callV (As := [.ref o11_, .int x2]) (rest := []) dX8_says_82 mfX5_saidBy cvX8_117 (wX5_saidBy eq15_) rc5 (kX5_saidBy eq15_) (by decide) rfl rfl (Nat.le_of_ble_eq_true rfl) ?_
              have e9 := Option.some.inj hf
              subst e9
              exact a_iret rfl dX8_says_85 rfl
            · replace hf := iteT hf c9
              refine a_aload_n dX8_says_68 rfl 2 rfl ?_
              refine a_bipush (v := -2) dX8_says_69 (by decide) ?_
              obtain ⟨q16_, eq16_, hf⟩ := bnd hf
              refine a_callV (As := [.int ((-2 : Int32))]) (rest := []) dX8_says_71 mfX8_refused cvX8_63 (wX8_refused eq16_) rc8 (kX8_refused eq16_) (by decide) rfl rfl (Nat.le_of_ble_eq_true rfl) ?_
              have e9 := Option.some.inj hf
              subst e9
              exact a_iret rfl dX8_says_74 rfl
        · replace hf := iteT hf c9
          refine a_aload_n dX8_says_34 rfl 1 rfl ?_
          refine a_bipush (v := -3) dX8_says_35 (by decide) ?_
          obtain ⟨q17_, eq17_, hf⟩ := bnd hf
          refine a_callV (As := [.int ((-3 : Int32))]) (rest := []) dX8_says_37 mfX8_refused cvX8_63 (wX8_refused eq17_) rc8 (kX8_refused eq17_) (by decide) rfl rfl (Nat.le_of_ble_eq_true rfl) ?_
          have e9 := Option.some.inj hf
          subst e9
          exact a_iret rfl dX8_says_40 rfl
      · replace hf := iteF hf c9
        refine a_aload_n dX8_says_20 rfl 1 rfl ?_
        refine a_iconst (v := -1) dX8_says_21 (by decide) ?_
        obtain ⟨q18_, eq18_, hf⟩ := bnd hf
        refine a_callV (As := [.int ((-1 : Int32))]) (rest := []) dX8_says_22 mfX8_refused cvX8_63 (wX8_refused eq18_) rc8 (kX8_refused eq18_) (by decide) rfl rfl (Nat.le_of_ble_eq_true rfl) ?_
        have e9 := Option.some.inj hf
        subst e9
        exact a_iret rfl dX8_says_25 rfl
theorem kX8_dropSignsFrom {a0 : Nat} {x1 : Int32} {M : Mm} {q : Mm} (hf : fX8_dropSignsFrom a0 x1 M = some q) : (mK M a0).1 = 9 := by
  unfold fX8_dropSignsFrom at hf
  obtain ⟨u0, eu0, -⟩ := bnd hf
  exact kc_of eu0
set_option maxHeartbeats 4000000 in
set_option maxRecDepth 100000 in
theorem wX8_dropSignsFrom_b2 {l : Launch} {Γ : Gx} {t0 w0 : Nat} {q : Mm} : ∀ (n : Nat) (a0 : Nat) (x1 : Int32) (x2 : Int32) (M : Mm), fX8_dropSignsFrom_b2 n a0 x1 x2 M = some q → AW l Γ yX8_dropSignsFrom cX8_dropSignsFrom 4 (none) 2 t0 w0 2 [(0, .ref a0), (1, .int x1), (2, .int x2)] [] M none q := by
  intro n
  induction n with
  | zero =>
    intro a0 x1 x2 M hf
    cases hf
  | succ n ih =>
    intro a0 x1 x2 M hf
    rw [fX8_dropSignsFrom_b2.eq_2] at hf
    refine a_iload_n dX8_dropSignsFrom_2 rfl 2 rfl ?_
    refine a_bipush (v := 8) dX8_dropSignsFrom_3 (by decide) ?_
    refine a_icmp_ge dX8_dropSignsFrom_5 (tgt := 45) (by decide) (fun c9 => ?_) (fun c9 => ?_)
    · replace hf := iteT hf c9
      have e9 := Option.some.inj hf
      subst e9
      exact a_vret rfl dX8_dropSignsFrom_45 rfl
    · replace hf := iteF hf c9
      refine a_aload_n dX8_dropSignsFrom_8 rfl 0 rfl ?_
      obtain ⟨o1_, eo1_, hf⟩ := bnd hf
      refine a_getR dX8_dropSignsFrom_9 flX8_11 rfl eo1_ ?_
      refine a_iload_n dX8_dropSignsFrom_12 rfl 2 rfl ?_
      obtain ⟨n2_, en2_, hf⟩ := bnd hf
      refine a_aald (t := 2) dX8_dropSignsFrom_13 (by decide) en2_ ?_
      refine a_astore_nq (x := n2_) (i := 3) (lv1 := [(3, rv n2_), (0, .ref a0), (1, .int x1), (2, .int x2)]) dX8_dropSignsFrom_14 rfl (by decide) rfl ?_
      refine a_aload_nq (x := n2_) dX8_dropSignsFrom_15 rfl 0 rfl ?_
      cases n2_ with
      | none =>
        replace hf := el0 hf
        refine a_ifnull0 (tgt := 39) dX8_dropSignsFrom_16 (by decide) ?_
        refine a_iinc (v := x2 + (1 : Int32)) (lv1 := [(2, .int (x2 + (1 : Int32))), (3, .null), (0, .ref a0), (1, .int x1)]) dX8_dropSignsFrom_39 3 rfl rfl (by decide) rfl ?_
        refine a_goto (tgt := 2) dX8_dropSignsFrom_42 (by decide) ?_
        refine AW.sub (lv1 := [(0, .ref a0), (1, .int x1), (2, .int (x2 + (1 : Int32)))]) [2, 3, 0] rfl ?_
        exact ih _ _ _ _ hf
      | some o3_ =>
        replace hf := el1 hf
        refine a_ifnull1 dX8_dropSignsFrom_16 ?_
        refine a_aload_n dX8_dropSignsFrom_19 rfl 0 rfl ?_
        obtain ⟨q4_, eq4_, hf⟩ := bnd hf
        refine a_callV (As := []) (rest := []) dX8_dropSignsFrom_20 mfX3_holdsRow cvX8_352 (wX3_holdsRow eq4_) rc3 (kX3_holdsRow eq4_) (by decide) rfl rfl (Nat.le_of_ble_eq_true rfl) ?_
        refine a_if_ne dX8_dropSignsFrom_23 (tgt := 39) (by decide) (fun c9 => ?_) (fun c9 => ?_)
        · replace hf := iteF hf c9
          refine a_iinc (v := x2 + (1 : Int32)) (lv1 := [(2, .int (x2 + (1 : Int32))), (3, .ref o3_), (0, .ref a0), (1, .int x1)]) dX8_dropSignsFrom_39 3 rfl rfl (by decide) rfl ?_
          refine a_goto (tgt := 2) dX8_dropSignsFrom_42 (by decide) ?_
          refine AW.sub (lv1 := [(0, .ref a0), (1, .int x1), (2, .int (x2 + (1 : Int32)))]) [2, 3, 0] rfl ?_
          exact ih _ _ _ _ hf
        · replace hf := iteT hf c9
          refine a_aload_n dX8_dropSignsFrom_26 rfl 0 rfl ?_
          obtain ⟨v5_, ev5_, hf⟩ := bnd hf
          refine a_getI dX8_dropSignsFrom_27 flX8_108 rfl ev5_ ?_
          refine a_iload_n dX8_dropSignsFrom_30 rfl 2 rfl ?_
          refine a_icmp_lt dX8_dropSignsFrom_31 (tgt := 39) (by decide) (fun c9 => ?_) (fun c9 => ?_)
          · replace hf := iteT hf c9
            refine a_iinc (v := x2 + (1 : Int32)) (lv1 := [(2, .int (x2 + (1 : Int32))), (3, .ref o3_), (0, .ref a0), (1, .int x1)]) dX8_dropSignsFrom_39 3 rfl rfl (by decide) rfl ?_
            refine a_goto (tgt := 2) dX8_dropSignsFrom_42 (by decide) ?_
            refine AW.sub (lv1 := [(0, .ref a0), (1, .int x1), (2, .int (x2 + (1 : Int32)))]) [2, 3, 0] rfl ?_
            exact ih _ _ _ _ hf
          · replace hf := iteF hf c9
            refine a_aload_n dX8_dropSignsFrom_34 rfl 0 rfl ?_
            refine a_iconst (v := -1) dX8_dropSignsFrom_35 (by decide) ?_
            obtain ⟨M6_, eM6_, hf⟩ := bnd hf
            refine a_callV (As := [.int ((-1 : Int32))]) (rest := []) dX8_dropSignsFrom_36 mfX3_takeSign cvX8_104 (wX3_takeSign eM6_) rc3 (kX3_takeSign eM6_) (by decide) rfl rfl (Nat.le_of_ble_eq_true rfl) ?_
            refine a_iinc (v := x2 + (1 : Int32)) (lv1 := [(2, .int (x2 + (1 : Int32))), (3, .ref o3_), (0, .ref a0), (1, .int x1)]) dX8_dropSignsFrom_39 3 rfl rfl (by decide) rfl ?_
            refine a_goto (tgt := 2) dX8_dropSignsFrom_42 (by decide) ?_
            refine AW.sub (lv1 := [(0, .ref a0), (1, .int x1), (2, .int (x2 + (1 : Int32)))]) [2, 3, 0] rfl ?_
            exact ih _ _ _ _ hf
set_option maxHeartbeats 4000000 in
set_option maxRecDepth 100000 in
theorem wX8_dropSignsFrom {l : Launch} {Γ : Gx} {a0 : Nat} {x1 : Int32} {M : Mm} {q : Mm} (hf : fX8_dropSignsFrom a0 x1 M = some q) : AM l Γ 2 yX8_dropSignsFrom cX8_dropSignsFrom 4 (none) [.ref a0, .int x1] M none q := by
  unfold fX8_dropSignsFrom at hf
  refine AM.of mfX8_dropSignsFrom (Nat.le_of_ble_eq_true rfl) ?_
  generalize mT M = t0
  generalize mW M = w0
  show AW _ _ _ _ _ _ _ _ _ 0 [(0, .ref a0), (1, .int x1)] [] _ _ _
  obtain ⟨u0, eu0, hf⟩ := bnd hf
  refine a_iconst (v := 0) dX8_dropSignsFrom_0 (by decide) ?_
  refine a_istore_n (i := 2) (lv1 := [(2, .int ((0 : Int32))), (0, .ref a0), (1, .int x1)]) dX8_dropSignsFrom_1 rfl (by decide) rfl ?_
  refine AW.sub (lv1 := [(0, .ref a0), (1, .int x1), (2, .int ((0 : Int32)))]) [1, 2, 0] rfl ?_
  exact wX8_dropSignsFrom_b2 _ _ _ _ _ hf
theorem kX8_street {a0 : Nat} {x1 : Int32} {M : Mm} {q : Int32 × Mm} (hf : fX8_street a0 x1 M = some q) : (mK M a0).1 = 9 := by
  unfold fX8_street at hf
  obtain ⟨u0, eu0, -⟩ := bnd hf
  exact kc_of eu0
set_option maxHeartbeats 4000000 in
set_option maxRecDepth 100000 in
theorem wX8_street {l : Launch} {Γ : Gx} {a0 : Nat} {x1 : Int32} {M : Mm} {q : Int32 × Mm} (hf : fX8_street a0 x1 M = some q) : AM l Γ 4 yX8_street cX8_street 3 ((some .int)) [.ref a0, .int x1] M (some (.int q.1)) q.2 := by
  unfold fX8_street at hf
  refine AM.of mfX8_street (Nat.le_of_ble_eq_true rfl) ?_
  generalize mT M = t0
  generalize mW M = w0
  show AW _ _ _ _ _ _ _ _ _ 0 [(0, .ref a0), (1, .int x1)] [] _ _ _
  obtain ⟨u0, eu0, hf⟩ := bnd hf
  refine a_iload_n dX8_street_0 rfl 1 rfl ?_
  refine a_iconst (v := 2) dX8_street_1 (by decide) ?_
  refine a_icmp_lt dX8_street_2 (tgt := 11) (by decide) (fun c9 => ?_) (fun c9 => ?_)
  · replace hf := iteT hf c9
    refine a_aload_n dX8_street_11 rfl 0 rfl ?_
    refine a_bipush (v := -6) dX8_street_12 (by decide) ?_
    obtain ⟨q1_, eq1_, hf⟩ := bnd hf
    refine a_callV (As := [.int ((-6 : Int32))]) (rest := []) dX8_street_14 mfX8_refused cvX8_63 (wX8_refused eq1_) rc8 (kX8_refused eq1_) (by decide) rfl rfl (Nat.le_of_ble_eq_true rfl) ?_
    have e9 := Option.some.inj hf
    subst e9
    exact a_iret rfl dX8_street_17 rfl
  · replace hf := iteF hf c9
    refine a_iload_n dX8_street_5 rfl 1 rfl ?_
    refine a_bipush (v := 24) dX8_street_6 (by decide) ?_
    refine a_icmp_le dX8_street_8 (tgt := 18) (by decide) (fun c9 => ?_) (fun c9 => ?_)
    · replace hf := iteT hf c9
      refine a_aload_n dX8_street_18 rfl 0 rfl ?_
      obtain ⟨o2_, eo2_, hf⟩ := bnd hf
      refine a_getR dX8_street_19 flX8_18 rfl eo2_ ?_
      obtain ⟨v3_, ev3_, hf⟩ := bnd hf
      refine a_getI dX8_street_22 flX8_121 rfl ev3_ ?_
      refine a_istore_n (i := 2) (lv1 := [(2, .int v3_), (0, .ref a0), (1, .int x1)]) dX8_street_25 rfl (by decide) rfl ?_
      refine a_aload_n dX8_street_26 rfl 1 rfl ?_
      obtain ⟨o4_, eo4_, hf⟩ := bnd hf
      refine a_getR dX8_street_27 flX8_18 rfl eo4_ ?_
      refine a_iload_n dX8_street_30 rfl 2 rfl ?_
      obtain ⟨M5_, eM5_, hf⟩ := bnd hf
      refine a_callV (As := [.int x1]) (rest := []) dX8_street_31 mfX5_tellLength cvX8_124 (wX5_tellLength eM5_) rc5 (kX5_tellLength eM5_) (by decide) rfl rfl (Nat.le_of_ble_eq_true rfl) ?_
      refine a_aload_n dX8_street_34 rfl 1 rfl ?_
      refine a_iconst (v := 0) dX8_street_35 (by decide) ?_
      obtain ⟨M6_, eM6_, hf⟩ := bnd hf
      refine a_callV (As := [.int ((0 : Int32))]) (rest := []) dX8_street_36 mfX8_dropSignsFrom cvX8_127 (wX8_dropSignsFrom eM6_) rc8 (kX8_dropSignsFrom eM6_) (by decide) rfl rfl (Nat.le_of_ble_eq_true rfl) ?_
      refine a_iload_n dX8_street_39 rfl 0 rfl ?_
      have e9 := Option.some.inj hf
      subst e9
      exact a_iret rfl dX8_street_40 rfl
    · replace hf := iteF hf c9
      refine a_aload_n dX8_street_11 rfl 0 rfl ?_
      refine a_bipush (v := -6) dX8_street_12 (by decide) ?_
      obtain ⟨q7_, eq7_, hf⟩ := bnd hf
      refine a_callV (As := [.int ((-6 : Int32))]) (rest := []) dX8_street_14 mfX8_refused cvX8_63 (wX8_refused eq7_) rc8 (kX8_refused eq7_) (by decide) rfl rfl (Nat.le_of_ble_eq_true rfl) ?_
      have e9 := Option.some.inj hf
      subst e9
      exact a_iret rfl dX8_street_17 rfl
theorem kX8_sign {a0 : Nat} {x1 : Int32} {x2 : Int32} {x3 : Int32} {x4 : Int32} {M : Mm} {q : Int32 × Mm} (hf : fX8_sign a0 x1 x2 x3 x4 M = some q) : (mK M a0).1 = 9 := by
  unfold fX8_sign at hf
  obtain ⟨u0, eu0, -⟩ := bnd hf
  exact kc_of eu0
set_option maxHeartbeats 4000000 in
set_option maxRecDepth 100000 in
theorem wX8_sign {l : Launch} {Γ : Gx} {a0 : Nat} {x1 : Int32} {x2 : Int32} {x3 : Int32} {x4 : Int32} {M : Mm} {q : Int32 × Mm} (hf : fX8_sign a0 x1 x2 x3 x4 M = some q) : AM l Γ 3 yX8_sign cX8_sign 5 ((some .int)) [.ref a0, .int x1, .int x2, .int x3, .int x4] M (some (.int q.1)) q.2 := by
  unfold fX8_sign at hf
  refine AM.of mfX8_sign (Nat.le_of_ble_eq_true rfl) ?_
  generalize mT M = t0
  generalize mW M = w0
  show AW _ _ _ _ _ _ _ _ _ 0 [(0, .ref a0), (1, .int x1), (2, .int x2), (3, .int x3), (4, .int x4)] [] _ _ _
  obtain ⟨u0, eu0, hf⟩ := bnd hf
  refine a_iload_n dX8_sign_0 rfl 1 rfl ?_
  refine a_if_lt dX8_sign_1 (tgt := 21) (by decide) (fun c9 => ?_) (fun c9 => ?_)
  · replace hf := iteT hf c9
    refine a_aload_n dX8_sign_21 rfl 0 rfl ?_
    refine a_iconst (v := -1) dX8_sign_22 (by decide) ?_
    obtain ⟨q1_, eq1_, hf⟩ := bnd hf
    refine a_callV (As := [.int ((-1 : Int32))]) (rest := []) dX8_sign_23 mfX8_refused cvX8_63 (wX8_refused eq1_) rc8 (kX8_refused eq1_) (by decide) rfl rfl (Nat.le_of_ble_eq_true rfl) ?_
    have e9 := Option.some.inj hf
    subst e9
    exact a_iret rfl dX8_sign_26 rfl
  · replace hf := iteF hf c9
    refine a_iload_n dX8_sign_4 rfl 1 rfl ?_
    refine a_bipush (v := 7) dX8_sign_5 (by decide) ?_
    refine a_icmp_ge dX8_sign_7 (tgt := 21) (by decide) (fun c9 => ?_) (fun c9 => ?_)
    · replace hf := iteT hf c9
      refine a_aload_n dX8_sign_21 rfl 0 rfl ?_
      refine a_iconst (v := -1) dX8_sign_22 (by decide) ?_
      obtain ⟨q2_, eq2_, hf⟩ := bnd hf
      refine a_callV (As := [.int ((-1 : Int32))]) (rest := []) dX8_sign_23 mfX8_refused cvX8_63 (wX8_refused eq2_) rc8 (kX8_refused eq2_) (by decide) rfl rfl (Nat.le_of_ble_eq_true rfl) ?_
      have e9 := Option.some.inj hf
      subst e9
      exact a_iret rfl dX8_sign_26 rfl
    · replace hf := iteF hf c9
      refine a_aload_n dX8_sign_10 rfl 0 rfl ?_
      obtain ⟨o3_, eo3_, hf⟩ := bnd hf
      refine a_getR dX8_sign_11 flX8_18 rfl eo3_ ?_
      refine a_iload_n dX8_sign_14 rfl 2 rfl ?_
      obtain ⟨q4_, eq4_, hf⟩ := bnd hf
      refine a_callV (As := [.int x2]) (rest := []) dX8_sign_15 mfX5_hasCell cvX8_130 (wX5_hasCell eq4_) rc5 (kX5_hasCell eq4_) (by decide) rfl rfl (Nat.le_of_ble_eq_true rfl) ?_
      refine a_if_ne dX8_sign_18 (tgt := 27) (by decide) (fun c9 => ?_) (fun c9 => ?_)
      · replace hf := iteF hf c9
        refine a_iload_n dX8_sign_27 rfl 3 rfl ?_
        refine a_iconst (v := 1) dX8_sign_28 (by decide) ?_
        refine a_icmp_lt dX8_sign_29 (tgt := 51) (by decide) (fun c9 => ?_) (fun c9 => ?_)
        · replace hf := iteT hf c9
          refine a_aload_n dX8_sign_51 rfl 0 rfl ?_
          refine a_bipush (v := -6) dX8_sign_52 (by decide) ?_
          obtain ⟨q5_, eq5_, hf⟩ := bnd hf
          refine a_callV (As := [.int ((-6 : Int32))]) (rest := []) dX8_sign_54 mfX8_refused cvX8_63 (wX8_refused eq5_) rc8 (kX8_refused eq5_) (by decide) rfl rfl (Nat.le_of_ble_eq_true rfl) ?_
          have e9 := Option.some.inj hf
          subst e9
          exact a_iret rfl dX8_sign_57 rfl
        · replace hf := iteF hf c9
          refine a_iload_n dX8_sign_32 rfl 3 rfl ?_
          refine a_bipush (v := 10) dX8_sign_33 (by decide) ?_
          refine a_icmp_gt dX8_sign_35 (tgt := 51) (by decide) (fun c9 => ?_) (fun c9 => ?_)
          · replace hf := iteT hf c9
            refine a_aload_n dX8_sign_51 rfl 0 rfl ?_
            refine a_bipush (v := -6) dX8_sign_52 (by decide) ?_
            obtain ⟨q6_, eq6_, hf⟩ := bnd hf
            refine a_callV (As := [.int ((-6 : Int32))]) (rest := []) dX8_sign_54 mfX8_refused cvX8_63 (wX8_refused eq6_) rc8 (kX8_refused eq6_) (by decide) rfl rfl (Nat.le_of_ble_eq_true rfl) ?_
            have e9 := Option.some.inj hf
            subst e9
            exact a_iret rfl dX8_sign_57 rfl
          · replace hf := iteF hf c9
            refine a_iload dX8_sign_38 4 rfl ?_
            refine a_if_lt dX8_sign_40 (tgt := 51) (by decide) (fun c9 => ?_) (fun c9 => ?_)
            · replace hf := iteT hf c9
              refine a_aload_n dX8_sign_51 rfl 0 rfl ?_
              refine a_bipush (v := -6) dX8_sign_52 (by decide) ?_
              obtain ⟨q7_, eq7_, hf⟩ := bnd hf
              refine a_callV (As := [.int ((-6 : Int32))]) (rest := []) dX8_sign_54 mfX8_refused cvX8_63 (wX8_refused eq7_) rc8 (kX8_refused eq7_) (by decide) rfl rfl (Nat.le_of_ble_eq_true rfl) ?_
              have e9 := Option.some.inj hf
              subst e9
              exact a_iret rfl dX8_sign_57 rfl
            · replace hf := iteF hf c9
              refine a_iload dX8_sign_43 4 rfl ?_
              refine a_sipush (v := 255) dX8_sign_45 (by decide) ?_
              refine a_icmp_le dX8_sign_48 (tgt := 58) (by decide) (fun c9 => ?_) (fun c9 => ?_)
              · replace hf := iteT hf c9
                refine a_aload_n dX8_sign_58 rfl 0 rfl ?_
                obtain ⟨o8_, eo8_, hf⟩ := bnd hf
                refine a_getR dX8_sign_59 flX8_18 rfl eo8_ ?_
                obtain ⟨q9_, eq9_, hf⟩ := bnd hf
                refine a_callV (As := []) (rest := []) dX8_sign_62 mfX5_hasRoomForSign cvX8_133 (wX5_hasRoomForSign eq9_) rc5 (kX5_hasRoomForSign eq9_) (by decide) rfl rfl (Nat.le_of_ble_eq_true rfl) ?_
                refine a_if_ne dX8_sign_65 (tgt := 75) (by decide) (fun c9 => ?_) (fun c9 => ?_)
                · replace hf := iteF hf c9
                  refine a_aload_n dX8_sign_75 rfl 0 rfl ?_
                  obtain ⟨o10_, eo10_, hf⟩ := bnd hf
                  refine a_getR dX8_sign_76 flX8_18 rfl eo10_ ?_
                  refine a_iload_n dX8_sign_79 rfl 1 rfl ?_
                  refine a_iload_n dX8_sign_80 rfl 2 rfl ?_
                  refine a_iload_n dX8_sign_81 rfl 3 rfl ?_
                  refine a_iload dX8_sign_82 4 rfl ?_
                  obtain ⟨q11_, eq11_, hf⟩ := bnd hf
                  refine a_callV (As := [.int x1, .int x2, .int x3, .int x4]) (rest := []) dX8_sign_84 mfX5_addSign cvX8_137 (wX5_addSign eq11_) rc5 (kX5_addSign eq11_) (by decide) rfl rfl (Nat.le_of_ble_eq_true rfl) ?_
                  have e9 := Option.some.inj hf
                  subst e9
                  exact a_iret rfl dX8_sign_87 rfl
                · replace hf := iteT hf c9
                  refine a_aload_n dX8_sign_68 rfl 0 rfl ?_
                  refine a_bipush (v := -7) dX8_sign_69 (by decide) ?_
                  obtain ⟨q12_, eq12_, hf⟩ := bnd hf
                  refine a_callV (As := [.int ((-7 : Int32))]) (rest := []) dX8_sign_71 mfX8_refused cvX8_63 (wX8_refused eq12_) rc8 (kX8_refused eq12_) (by decide) rfl rfl (Nat.le_of_ble_eq_true rfl) ?_
                  have e9 := Option.some.inj hf
                  subst e9
                  exact a_iret rfl dX8_sign_74 rfl
              · replace hf := iteF hf c9
                refine a_aload_n dX8_sign_51 rfl 0 rfl ?_
                refine a_bipush (v := -6) dX8_sign_52 (by decide) ?_
                obtain ⟨q13_, eq13_, hf⟩ := bnd hf
                refine a_callV (As := [.int ((-6 : Int32))]) (rest := []) dX8_sign_54 mfX8_refused cvX8_63 (wX8_refused eq13_) rc8 (kX8_refused eq13_) (by decide) rfl rfl (Nat.le_of_ble_eq_true rfl) ?_
                have e9 := Option.some.inj hf
                subst e9
                exact a_iret rfl dX8_sign_57 rfl
      · replace hf := iteT hf c9
        refine a_aload_n dX8_sign_21 rfl 0 rfl ?_
        refine a_iconst (v := -1) dX8_sign_22 (by decide) ?_
        obtain ⟨q14_, eq14_, hf⟩ := bnd hf
        refine a_callV (As := [.int ((-1 : Int32))]) (rest := []) dX8_sign_23 mfX8_refused cvX8_63 (wX8_refused eq14_) rc8 (kX8_refused eq14_) (by decide) rfl rfl (Nat.le_of_ble_eq_true rfl) ?_
        have e9 := Option.some.inj hf
        subst e9
        exact a_iret rfl dX8_sign_26 rfl
theorem kX8_thing {a0 : Nat} {x1 : Int32} {x2 : Int32} {x3 : Int32} {M : Mm} {q : Int32 × Mm} (hf : fX8_thing a0 x1 x2 x3 M = some q) : (mK M a0).1 = 9 := by
  unfold fX8_thing at hf
  obtain ⟨u0, eu0, -⟩ := bnd hf
  exact kc_of eu0
set_option maxHeartbeats 4000000 in
set_option maxRecDepth 100000 in
theorem wX8_thing {l : Launch} {Γ : Gx} {a0 : Nat} {x1 : Int32} {x2 : Int32} {x3 : Int32} {M : Mm} {q : Int32 × Mm} (hf : fX8_thing a0 x1 x2 x3 M = some q) : AM l Γ 3 yX8_thing cX8_thing 4 ((some .int)) [.ref a0, .int x1, .int x2, .int x3] M (some (.int q.1)) q.2 := by
  unfold fX8_thing at hf
  refine AM.of mfX8_thing (Nat.le_of_ble_eq_true rfl) ?_
  generalize mT M = t0
  generalize mW M = w0
  show AW _ _ _ _ _ _ _ _ _ 0 [(0, .ref a0), (1, .int x1), (2, .int x2), (3, .int x3)] [] _ _ _
  obtain ⟨u0, eu0, hf⟩ := bnd hf
  refine a_aload_n dX8_thing_0 rfl 0 rfl ?_
  obtain ⟨o1_, eo1_, hf⟩ := bnd hf
  refine a_getR dX8_thing_1 flX8_18 rfl eo1_ ?_
  refine a_iload_n dX8_thing_4 rfl 1 rfl ?_
  obtain ⟨q2_, eq2_, hf⟩ := bnd hf
  refine a_callV (As := [.int x1]) (rest := []) dX8_thing_5 mfX5_hasCell cvX8_130 (wX5_hasCell eq2_) rc5 (kX5_hasCell eq2_) (by decide) rfl rfl (Nat.le_of_ble_eq_true rfl) ?_
  refine a_if_ne dX8_thing_8 (tgt := 17) (by decide) (fun c9 => ?_) (fun c9 => ?_)
  · replace hf := iteF hf c9
    refine a_iload_n dX8_thing_17 rfl 3 rfl ?_
    refine a_iconst (v := 1) dX8_thing_18 (by decide) ?_
    refine a_icmp_lt dX8_thing_19 (tgt := 28) (by decide) (fun c9 => ?_) (fun c9 => ?_)
    · replace hf := iteT hf c9
      refine a_aload_n dX8_thing_28 rfl 0 rfl ?_
      refine a_bipush (v := -6) dX8_thing_29 (by decide) ?_
      obtain ⟨q3_, eq3_, hf⟩ := bnd hf
      refine a_callV (As := [.int ((-6 : Int32))]) (rest := []) dX8_thing_31 mfX8_refused cvX8_63 (wX8_refused eq3_) rc8 (kX8_refused eq3_) (by decide) rfl rfl (Nat.le_of_ble_eq_true rfl) ?_
      have e9 := Option.some.inj hf
      subst e9
      exact a_iret rfl dX8_thing_34 rfl
    · replace hf := iteF hf c9
      refine a_iload_n dX8_thing_22 rfl 3 rfl ?_
      refine a_bipush (v := 10) dX8_thing_23 (by decide) ?_
      refine a_icmp_le dX8_thing_25 (tgt := 35) (by decide) (fun c9 => ?_) (fun c9 => ?_)
      · replace hf := iteT hf c9
        refine a_aload_n dX8_thing_35 rfl 0 rfl ?_
        obtain ⟨o4_, eo4_, hf⟩ := bnd hf
        refine a_getR dX8_thing_36 flX8_18 rfl eo4_ ?_
        obtain ⟨q5_, eq5_, hf⟩ := bnd hf
        refine a_callV (As := []) (rest := []) dX8_thing_39 mfX5_hasRoomForThing cvX8_141 (wX5_hasRoomForThing eq5_) rc5 (kX5_hasRoomForThing eq5_) (by decide) rfl rfl (Nat.le_of_ble_eq_true rfl) ?_
        refine a_if_ne dX8_thing_42 (tgt := 52) (by decide) (fun c9 => ?_) (fun c9 => ?_)
        · replace hf := iteF hf c9
          refine a_aload_n dX8_thing_52 rfl 0 rfl ?_
          obtain ⟨o6_, eo6_, hf⟩ := bnd hf
          refine a_getR dX8_thing_53 flX8_18 rfl eo6_ ?_
          refine a_iload_n dX8_thing_56 rfl 1 rfl ?_
          refine a_iload_n dX8_thing_57 rfl 2 rfl ?_
          refine a_iload_n dX8_thing_58 rfl 3 rfl ?_
          obtain ⟨q7_, eq7_, hf⟩ := bnd hf
          refine a_callV (As := [.int x1, .int x2, .int x3]) (rest := []) dX8_thing_59 mfX5_addThing cvX8_144 (wX5_addThing eq7_) rc5 (kX5_addThing eq7_) (by decide) rfl rfl (Nat.le_of_ble_eq_true rfl) ?_
          have e9 := Option.some.inj hf
          subst e9
          exact a_iret rfl dX8_thing_62 rfl
        · replace hf := iteT hf c9
          refine a_aload_n dX8_thing_45 rfl 0 rfl ?_
          refine a_bipush (v := -7) dX8_thing_46 (by decide) ?_
          obtain ⟨q8_, eq8_, hf⟩ := bnd hf
          refine a_callV (As := [.int ((-7 : Int32))]) (rest := []) dX8_thing_48 mfX8_refused cvX8_63 (wX8_refused eq8_) rc8 (kX8_refused eq8_) (by decide) rfl rfl (Nat.le_of_ble_eq_true rfl) ?_
          have e9 := Option.some.inj hf
          subst e9
          exact a_iret rfl dX8_thing_51 rfl
      · replace hf := iteF hf c9
        refine a_aload_n dX8_thing_28 rfl 0 rfl ?_
        refine a_bipush (v := -6) dX8_thing_29 (by decide) ?_
        obtain ⟨q9_, eq9_, hf⟩ := bnd hf
        refine a_callV (As := [.int ((-6 : Int32))]) (rest := []) dX8_thing_31 mfX8_refused cvX8_63 (wX8_refused eq9_) rc8 (kX8_refused eq9_) (by decide) rfl rfl (Nat.le_of_ble_eq_true rfl) ?_
        have e9 := Option.some.inj hf
        subst e9
        exact a_iret rfl dX8_thing_34 rfl
  · replace hf := iteT hf c9
    refine a_aload_n dX8_thing_11 rfl 0 rfl ?_
    refine a_iconst (v := -1) dX8_thing_12 (by decide) ?_
    obtain ⟨q10_, eq10_, hf⟩ := bnd hf
    refine a_callV (As := [.int ((-1 : Int32))]) (rest := []) dX8_thing_13 mfX8_refused cvX8_63 (wX8_refused eq10_) rc8 (kX8_refused eq10_) (by decide) rfl rfl (Nat.le_of_ble_eq_true rfl) ?_
    have e9 := Option.some.inj hf
    subst e9
    exact a_iret rfl dX8_thing_16 rfl
theorem kX8_addThingFrom {a0 : Nat} {a1 : Nat} {x2 : Int32} {M : Mm} {q : Int32 × Mm} (hf : fX8_addThingFrom a0 a1 x2 M = some q) : (mK M a0).1 = 9 := by
  unfold fX8_addThingFrom at hf
  obtain ⟨u0, eu0, -⟩ := bnd hf
  exact kc_of eu0
set_option maxHeartbeats 4000000 in
set_option maxRecDepth 100000 in
theorem wX8_addThingFrom_b21 {l : Launch} {Γ : Gx} {t0 w0 : Nat} {q : Int32 × Mm} (a0 : Nat) (a1 : Nat) (x2 : Int32) (x3 : Int32) (s0 : Int32) (M : Mm) (hf : fX8_addThingFrom_b21 a0 a1 x2 x3 s0 M = some q) : AW l Γ yX8_addThingFrom cX8_addThingFrom 6 ((some .boolean)) 3 t0 w0 21 [(0, .ref a0), (1, .ref a1), (2, .int x2), (3, .int x3)] [.int s0] M (some (.int q.1)) q.2 := by
  unfold fX8_addThingFrom_b21 at hf
  refine a_istore (i := 4) (lv1 := [(4, .int s0), (0, .ref a0), (1, .ref a1), (2, .int x2), (3, .int x3)]) dX8_addThingFrom_21 (by decide) rfl ?_
  refine a_aload_n dX8_addThingFrom_23 rfl 2 rfl ?_
  refine a_iload_n dX8_addThingFrom_24 rfl 3 rfl ?_
  refine a_iconst (v := 2) dX8_addThingFrom_25 (by decide) ?_
  refine a_iadd dX8_addThingFrom_26 ?_
  obtain ⟨q1_, eq1_, hf⟩ := bnd hf
  refine a_callV (As := [.int (x2 + ((2 : Int32)))]) (rest := []) dX8_addThingFrom_27 mfX3_intAt cvX8_355 (wX3_intAt eq1_) rc3 (kX3_intAt eq1_) (by decide) rfl rfl (Nat.le_of_ble_eq_true rfl) ?_
  refine a_istore (i := 5) (lv1 := [(5, .int q1_.1), (4, .int s0), (0, .ref a0), (1, .ref a1), (2, .int x2), (3, .int x3)]) dX8_addThingFrom_30 (by decide) rfl ?_
  refine a_aload_n dX8_addThingFrom_32 rfl 2 rfl ?_
  obtain ⟨o2_, eo2_, hf⟩ := bnd hf
  refine a_getR dX8_addThingFrom_33 flX8_18 rfl eo2_ ?_
  refine a_iload_n dX8_addThingFrom_36 rfl 5 rfl ?_
  obtain ⟨q3_, eq3_, hf⟩ := bnd hf
  refine a_callV (As := [.int x3]) (rest := []) dX8_addThingFrom_37 mfX5_hasCell cvX8_130 (wX5_hasCell eq3_) rc5 (kX5_hasCell eq3_) (by decide) rfl rfl (Nat.le_of_ble_eq_true rfl) ?_
  refine a_if_eq dX8_addThingFrom_40 (tgt := 66) (by decide) (fun c9 => ?_) (fun c9 => ?_)
  · replace hf := iteT hf c9
    refine a_iconst (v := 0) dX8_addThingFrom_66 (by decide) ?_
    have e9 := Option.some.inj hf
    subst e9
    exact a_zret rfl rfl dX8_addThingFrom_67 rfl
  · replace hf := iteF hf c9
    refine a_iload dX8_addThingFrom_43 0 rfl ?_
    refine a_iconst (v := 1) dX8_addThingFrom_45 (by decide) ?_
    refine a_icmp_lt dX8_addThingFrom_46 (tgt := 66) (by decide) (fun c9 => ?_) (fun c9 => ?_)
    · replace hf := iteT hf c9
      refine a_iconst (v := 0) dX8_addThingFrom_66 (by decide) ?_
      have e9 := Option.some.inj hf
      subst e9
      exact a_zret rfl rfl dX8_addThingFrom_67 rfl
    · replace hf := iteF hf c9
      refine a_iload dX8_addThingFrom_49 0 rfl ?_
      refine a_bipush (v := 10) dX8_addThingFrom_51 (by decide) ?_
      refine a_icmp_gt dX8_addThingFrom_53 (tgt := 66) (by decide) (fun c9 => ?_) (fun c9 => ?_)
      · replace hf := iteT hf c9
        refine a_iconst (v := 0) dX8_addThingFrom_66 (by decide) ?_
        have e9 := Option.some.inj hf
        subst e9
        exact a_zret rfl rfl dX8_addThingFrom_67 rfl
      · replace hf := iteF hf c9
        refine a_aload_n dX8_addThingFrom_56 rfl 2 rfl ?_
        obtain ⟨o4_, eo4_, hf⟩ := bnd hf
        refine a_getR dX8_addThingFrom_57 flX8_18 rfl eo4_ ?_
        obtain ⟨q5_, eq5_, hf⟩ := bnd hf
        refine a_callV (As := []) (rest := []) dX8_addThingFrom_60 mfX5_hasRoomForThing cvX8_141 (wX5_hasRoomForThing eq5_) rc5 (kX5_hasRoomForThing eq5_) (by decide) rfl rfl (Nat.le_of_ble_eq_true rfl) ?_
        refine a_if_ne dX8_addThingFrom_63 (tgt := 68) (by decide) (fun c9 => ?_) (fun c9 => ?_)
        · replace hf := iteF hf c9
          refine a_aload_n dX8_addThingFrom_68 rfl 2 rfl ?_
          obtain ⟨o6_, eo6_, hf⟩ := bnd hf
          refine a_getR dX8_addThingFrom_69 flX8_18 rfl eo6_ ?_
          refine a_iload_n dX8_addThingFrom_72 rfl 5 rfl ?_
          refine a_iload dX8_addThingFrom_73 1 rfl ?_
          refine a_iload dX8_addThingFrom_75 0 rfl ?_
          obtain ⟨q7_, eq7_, hf⟩ := bnd hf
          refine a_callV (As := [.int x3, .int s0, .int q1_.1]) (rest := []) dX8_addThingFrom_77 mfX5_addThing cvX8_144 (wX5_addThing eq7_) rc5 (kX5_addThing eq7_) (by decide) rfl rfl (Nat.le_of_ble_eq_true rfl) ?_
          refine a_pop dX8_addThingFrom_80 rfl ?_
          refine a_iconst (v := 1) dX8_addThingFrom_81 (by decide) ?_
          have e9 := Option.some.inj hf
          subst e9
          exact a_zret rfl rfl dX8_addThingFrom_82 rfl
        · replace hf := iteT hf c9
          refine a_iconst (v := 0) dX8_addThingFrom_66 (by decide) ?_
          have e9 := Option.some.inj hf
          subst e9
          exact a_zret rfl rfl dX8_addThingFrom_67 rfl
set_option maxHeartbeats 4000000 in
set_option maxRecDepth 100000 in
theorem wX8_addThingFrom {l : Launch} {Γ : Gx} {a0 : Nat} {a1 : Nat} {x2 : Int32} {M : Mm} {q : Int32 × Mm} (hf : fX8_addThingFrom a0 a1 x2 M = some q) : AM l Γ 3 yX8_addThingFrom cX8_addThingFrom 6 ((some .boolean)) [.ref a0, .ref a1, .int x2] M (some (.int q.1)) q.2 := by
  unfold fX8_addThingFrom at hf
  refine AM.of mfX8_addThingFrom (Nat.le_of_ble_eq_true rfl) ?_
  generalize mT M = t0
  generalize mW M = w0
  show AW _ _ _ _ _ _ _ _ _ 0 [(0, .ref a0), (1, .ref a1), (2, .int x2)] [] _ _ _
  obtain ⟨u0, eu0, hf⟩ := bnd hf
  refine a_aload_n dX8_addThingFrom_0 rfl 1 rfl ?_
  refine a_iload_n dX8_addThingFrom_1 rfl 2 rfl ?_
  obtain ⟨q1_, eq1_, hf⟩ := bnd hf
  refine a_callV (As := [.int x2]) (rest := []) dX8_addThingFrom_2 mfX3_intAt cvX8_355 (wX3_intAt eq1_) rc3 (kX3_intAt eq1_) (by decide) rfl rfl (Nat.le_of_ble_eq_true rfl) ?_
  refine a_istore_n (i := 3) (lv1 := [(3, .int q1_.1), (0, .ref a0), (1, .ref a1), (2, .int x2)]) dX8_addThingFrom_5 rfl (by decide) rfl ?_
  refine a_aload_n dX8_addThingFrom_6 rfl 2 rfl ?_
  refine a_iload_n dX8_addThingFrom_7 rfl 3 rfl ?_
  refine a_iconst (v := 1) dX8_addThingFrom_8 (by decide) ?_
  refine a_iadd dX8_addThingFrom_9 ?_
  obtain ⟨q2_, eq2_, hf⟩ := bnd hf
  refine a_callV (As := [.int (x2 + ((1 : Int32)))]) (rest := []) dX8_addThingFrom_10 mfX3_intAt cvX8_355 (wX3_intAt eq2_) rc3 (kX3_intAt eq2_) (by decide) rfl rfl (Nat.le_of_ble_eq_true rfl) ?_
  refine a_if_eq dX8_addThingFrom_13 (tgt := 20) (by decide) (fun c9 => ?_) (fun c9 => ?_)
  · replace hf := iteT hf c9
    refine a_iconst (v := 0) dX8_addThingFrom_20 (by decide) ?_
    refine AW.sub (lv1 := [(0, .ref a0), (1, .ref a1), (2, .int x2), (3, .int q1_.1)]) [1, 2, 3, 0] rfl ?_
    exact wX8_addThingFrom_b21 _ _ _ _ _ _ hf
  · replace hf := iteF hf c9
    refine a_iconst (v := 1) dX8_addThingFrom_16 (by decide) ?_
    refine a_goto (tgt := 21) dX8_addThingFrom_17 (by decide) ?_
    refine AW.sub (lv1 := [(0, .ref a0), (1, .ref a1), (2, .int x2), (3, .int q1_.1)]) [1, 2, 3, 0] rfl ?_
    exact wX8_addThingFrom_b21 _ _ _ _ _ _ hf
theorem kX8_things {a0 : Nat} {x1 : Int32} {x2 : Int32} {x3 : Int32} {M : Mm} {q : Int32 × Mm} (hf : fX8_things a0 x1 x2 x3 M = some q) : (mK M a0).1 = 9 := by
  unfold fX8_things at hf
  obtain ⟨u0, eu0, -⟩ := bnd hf
  exact kc_of eu0
set_option maxHeartbeats 4000000 in
set_option maxRecDepth 100000 in
theorem wX8_things_b75 {l : Launch} {Γ : Gx} {t0 w0 : Nat} {q : Int32 × Mm} : ∀ (n : Nat) (a0 : Nat) (x2 : Int32) (x3 : Int32) (a4 : Nat) (x6 : Int32) (M : Mm), fX8_things_b75 n a0 x2 x3 a4 x6 M = some q → AW l Γ yX8_things cX8_things 7 ((some .int)) 4 t0 w0 75 [(0, .ref a0), (2, .int x2), (3, .int x3), (4, .ref a4), (6, .int x6)] [] M (some (.int q.1)) q.2 := by
  intro n
  induction n with
  | zero =>
    intro a0 x2 x3 a4 x6 M hf
    cases hf
  | succ n ih =>
    intro a0 x2 x3 a4 x6 M hf
    rw [fX8_things_b75.eq_2] at hf
    refine a_iload dX8_things_75 4 rfl ?_
    refine a_iload_n dX8_things_77 rfl 2 rfl ?_
    refine a_iconst (v := 3) dX8_things_78 (by decide) ?_
    obtain ⟨z1_, ez1_, hf⟩ := bnd hf
    refine a_idiv dX8_things_79 ez1_ ?_
    refine a_icmp_ge dX8_things_80 (tgt := 104) (by decide) (fun c9 => ?_) (fun c9 => ?_)
    · replace hf := iteT hf c9
      refine a_iload dX8_things_104 4 rfl ?_
      have e9 := Option.some.inj hf
      subst e9
      exact a_iret rfl dX8_things_106 rfl
    · replace hf := iteF hf c9
      refine a_aload_n dX8_things_83 rfl 0 rfl ?_
      refine a_aload dX8_things_84 3 rfl ?_
      refine a_iload_n dX8_things_86 rfl 1 rfl ?_
      refine a_iconst (v := 3) dX8_things_87 (by decide) ?_
      refine a_iload dX8_things_88 4 rfl ?_
      refine a_imul dX8_things_90 ?_
      refine a_iadd dX8_things_91 ?_
      obtain ⟨q2_, eq2_, hf⟩ := bnd hf
      refine a_callV (As := [.ref a4, .int (x2 + (((3 : Int32)) * x6))]) (rest := []) dX8_things_92 mfX8_addThingFrom cvX8_148 (wX8_addThingFrom eq2_) rc8 (kX8_addThingFrom eq2_) (by decide) rfl rfl (Nat.le_of_ble_eq_true rfl) ?_
      refine a_if_eq dX8_things_95 (tgt := 104) (by decide) (fun c9 => ?_) (fun c9 => ?_)
      · replace hf := iteT hf c9
        refine a_iload dX8_things_104 4 rfl ?_
        have e9 := Option.some.inj hf
        subst e9
        exact a_iret rfl dX8_things_106 rfl
      · replace hf := iteF hf c9
        refine a_iinc (v := x6 + (1 : Int32)) (lv1 := [(6, .int (x6 + (1 : Int32))), (0, .ref a0), (2, .int x2), (3, .int x3), (4, .ref a4)]) dX8_things_98 4 rfl rfl (by decide) rfl ?_
        refine a_goto (tgt := 75) dX8_things_101 (by decide) ?_
        refine AW.sub (lv1 := [(0, .ref a0), (2, .int x2), (3, .int x3), (4, .ref a4), (6, .int (x6 + (1 : Int32)))]) [1, 2, 3, 4, 0] rfl ?_
        exact ih _ _ _ _ _ _ hf
set_option maxHeartbeats 4000000 in
set_option maxRecDepth 100000 in
theorem wX8_things {l : Launch} {Γ : Gx} {a0 : Nat} {x1 : Int32} {x2 : Int32} {x3 : Int32} {M : Mm} {q : Int32 × Mm} (hf : fX8_things a0 x1 x2 x3 M = some q) : AM l Γ 4 yX8_things cX8_things 7 ((some .int)) [.ref a0, .int x1, .int x2, .int x3] M (some (.int q.1)) q.2 := by
  unfold fX8_things at hf
  refine AM.of mfX8_things (Nat.le_of_ble_eq_true rfl) ?_
  generalize mT M = t0
  generalize mW M = w0
  show AW _ _ _ _ _ _ _ _ _ 0 [(0, .ref a0), (1, .int x1), (2, .int x2), (3, .int x3)] [] _ _ _
  obtain ⟨u0, eu0, hf⟩ := bnd hf
  refine a_aload_n dX8_things_0 rfl 0 rfl ?_
  refine a_iload_n dX8_things_1 rfl 1 rfl ?_
  obtain ⟨q1_, eq1_, hf⟩ := bnd hf
  refine a_callV (As := [.int x1]) (rest := []) dX8_things_2 mfX8_shelfAt cvX8_59 (wX8_shelfAt eq1_) rc8 (kX8_shelfAt eq1_) (by decide) rfl rfl (Nat.le_of_ble_eq_true rfl) ?_
  obtain ⟨n2_, en2_, hf⟩ := bnd hf
  refine a_topN en2_ ?_
  refine a_astoreq (x := n2_) (i := 4) (lv1 := [(4, rv n2_), (0, .ref a0), (1, .int x1), (2, .int x2), (3, .int x3)]) dX8_things_5 (by decide) rfl ?_
  refine a_aloadq (x := n2_) dX8_things_7 0 rfl ?_
  obtain ⟨q3_, eq3_, hf⟩ := bnd hf
  refine a_callS (As := [rv n2_]) (rest := []) dX8_things_9 mfX8_rowTrouble csX8_71 (wX8_rowTrouble eq3_) (by decide) rfl rfl (Nat.le_of_ble_eq_true rfl) ?_
  refine a_istore (i := 5) (lv1 := [(5, .int q3_.1), (4, rv n2_), (0, .ref a0), (1, .int x1), (2, .int x2), (3, .int x3)]) dX8_things_12 (by decide) (by simp [lvS, lvD, rv_cat, vc_int, vc_ref, vc_long, vc_null, rv_some]) ?_
  refine a_aloadq (x := n2_) dX8_things_14 1 rfl ?_
  cases n2_ with
  | none =>
    replace hf := el0 hf
    refine a_ifnull0 (tgt := 24) dX8_things_16 (by decide) ?_
    refine a_aload_n dX8_things_24 rfl 2 rfl ?_
    refine a_iload dX8_things_25 0 rfl ?_
    obtain ⟨q5_, eq5_, hf⟩ := bnd hf
    refine a_callV (As := [.int q3_.1]) (rest := []) dX8_things_27 mfX8_refused cvX8_63 (wX8_refused eq5_) rc8 (kX8_refused eq5_) (by decide) rfl rfl (Nat.le_of_ble_eq_true rfl) ?_
    have e9 := Option.some.inj hf
    subst e9
    exact a_iret rfl dX8_things_30 rfl
  | some o4_ =>
    replace hf := el1 hf
    refine a_ifnull1 dX8_things_16 ?_
    refine a_iload dX8_things_19 0 rfl ?_
    refine a_if_eq dX8_things_21 (tgt := 31) (by decide) (fun c9 => ?_) (fun c9 => ?_)
    · replace hf := iteT hf c9
      refine a_iload_n dX8_things_31 rfl 5 rfl ?_
      refine a_if_ge dX8_things_32 (tgt := 42) (by decide) (fun c9 => ?_) (fun c9 => ?_)
      · replace hf := iteT hf c9
        refine a_aload dX8_things_42 1 rfl ?_
        refine a_iload_n dX8_things_44 rfl 4 rfl ?_
        refine a_iload_n dX8_things_45 rfl 5 rfl ?_
        obtain ⟨q6_, eq6_, hf⟩ := bnd hf
        refine a_callV (As := [.int x2, .int x3]) (rest := []) dX8_things_46 mfX3_hasRun cvX8_75 (wX3_hasRun eq6_) rc3 (kX3_hasRun eq6_) (by decide) rfl rfl (Nat.le_of_ble_eq_true rfl) ?_
        refine a_if_ne dX8_things_49 (tgt := 59) (by decide) (fun c9 => ?_) (fun c9 => ?_)
        · replace hf := iteF hf c9
          refine a_iload_n dX8_things_59 rfl 5 rfl ?_
          refine a_iconst (v := 3) dX8_things_60 (by decide) ?_
          obtain ⟨z7_, ez7_, hf⟩ := bnd hf
          refine a_irem dX8_things_61 ez7_ ?_
          refine a_if_eq dX8_things_62 (tgt := 72) (by decide) (fun c9 => ?_) (fun c9 => ?_)
          · replace hf := iteT hf c9
            refine a_iconst (v := 0) dX8_things_72 (by decide) ?_
            refine a_istore (i := 6) (lv1 := [(6, .int ((0 : Int32))), (5, .int q3_.1), (4, .ref o4_), (0, .ref a0), (1, .int x1), (2, .int x2), (3, .int x3)]) dX8_things_73 (by decide) rfl ?_
            refine AW.sub (lv1 := [(0, .ref a0), (2, .int x2), (3, .int x3), (4, .ref o4_), (6, .int ((0 : Int32)))]) [3, 5, 6, 2, 0] rfl ?_
            exact wX8_things_b75 _ _ _ _ _ _ _ hf
          · replace hf := iteF hf c9
            refine a_aload_n dX8_things_65 rfl 2 rfl ?_
            refine a_bipush (v := -6) dX8_things_66 (by decide) ?_
            obtain ⟨q8_, eq8_, hf⟩ := bnd hf
            refine a_callV (As := [.int ((-6 : Int32))]) (rest := []) dX8_things_68 mfX8_refused cvX8_63 (wX8_refused eq8_) rc8 (kX8_refused eq8_) (by decide) rfl rfl (Nat.le_of_ble_eq_true rfl) ?_
            have e9 := Option.some.inj hf
            subst e9
            exact a_iret rfl dX8_things_71 rfl
        · replace hf := iteT hf c9
          refine a_aload_n dX8_things_52 rfl 2 rfl ?_
          refine a_bipush (v := -5) dX8_things_53 (by decide) ?_
          obtain ⟨q9_, eq9_, hf⟩ := bnd hf
          refine a_callV (As := [.int ((-5 : Int32))]) (rest := []) dX8_things_55 mfX8_refused cvX8_63 (wX8_refused eq9_) rc8 (kX8_refused eq9_) (by decide) rfl rfl (Nat.le_of_ble_eq_true rfl) ?_
          have e9 := Option.some.inj hf
          subst e9
          exact a_iret rfl dX8_things_58 rfl
      · replace hf := iteF hf c9
        refine a_aload_n dX8_things_35 rfl 2 rfl ?_
        refine a_bipush (v := -4) dX8_things_36 (by decide) ?_
        obtain ⟨q10_, eq10_, hf⟩ := bnd hf
        refine a_callV (As := [.int ((-4 : Int32))]) (rest := []) dX8_things_38 mfX8_refused cvX8_63 (wX8_refused eq10_) rc8 (kX8_refused eq10_) (by decide) rfl rfl (Nat.le_of_ble_eq_true rfl) ?_
        have e9 := Option.some.inj hf
        subst e9
        exact a_iret rfl dX8_things_41 rfl
    · replace hf := iteF hf c9
      refine a_aload_n dX8_things_24 rfl 2 rfl ?_
      refine a_iload dX8_things_25 0 rfl ?_
      obtain ⟨q11_, eq11_, hf⟩ := bnd hf
      refine a_callV (As := [.int q3_.1]) (rest := []) dX8_things_27 mfX8_refused cvX8_63 (wX8_refused eq11_) rc8 (kX8_refused eq11_) (by decide) rfl rfl (Nat.le_of_ble_eq_true rfl) ?_
      have e9 := Option.some.inj hf
      subst e9
      exact a_iret rfl dX8_things_30 rfl
theorem kX8_wander {a0 : Nat} {x1 : Int32} {x2 : Int32} {M : Mm} {q : Int32 × Mm} (hf : fX8_wander a0 x1 x2 M = some q) : (mK M a0).1 = 9 := by
  unfold fX8_wander at hf
  obtain ⟨u0, eu0, -⟩ := bnd hf
  exact kc_of eu0
set_option maxHeartbeats 4000000 in
set_option maxRecDepth 100000 in
theorem wX8_wander {l : Launch} {Γ : Gx} {a0 : Nat} {x1 : Int32} {x2 : Int32} {M : Mm} {q : Int32 × Mm} (hf : fX8_wander a0 x1 x2 M = some q) : AM l Γ 2 yX8_wander cX8_wander 4 ((some .int)) [.ref a0, .int x1, .int x2] M (some (.int q.1)) q.2 := by
  unfold fX8_wander at hf
  refine AM.of mfX8_wander (Nat.le_of_ble_eq_true rfl) ?_
  generalize mT M = t0
  generalize mW M = w0
  show AW _ _ _ _ _ _ _ _ _ 0 [(0, .ref a0), (1, .int x1), (2, .int x2)] [] _ _ _
  obtain ⟨u0, eu0, hf⟩ := bnd hf
  refine a_iload_n dX8_wander_0 rfl 1 rfl ?_
  refine a_if_lt dX8_wander_1 (tgt := 22) (by decide) (fun c9 => ?_) (fun c9 => ?_)
  · replace hf := iteT hf c9
    refine a_aload_n dX8_wander_22 rfl 0 rfl ?_
    refine a_bipush (v := -6) dX8_wander_23 (by decide) ?_
    obtain ⟨q1_, eq1_, hf⟩ := bnd hf
    refine a_callV (As := [.int ((-6 : Int32))]) (rest := []) dX8_wander_25 mfX8_refused cvX8_63 (wX8_refused eq1_) rc8 (kX8_refused eq1_) (by decide) rfl rfl (Nat.le_of_ble_eq_true rfl) ?_
    have e9 := Option.some.inj hf
    subst e9
    exact a_iret rfl dX8_wander_28 rfl
  · replace hf := iteF hf c9
    refine a_iload_n dX8_wander_4 rfl 1 rfl ?_
    refine a_bipush (v := 10) dX8_wander_5 (by decide) ?_
    refine a_icmp_gt dX8_wander_7 (tgt := 22) (by decide) (fun c9 => ?_) (fun c9 => ?_)
    · replace hf := iteT hf c9
      refine a_aload_n dX8_wander_22 rfl 0 rfl ?_
      refine a_bipush (v := -6) dX8_wander_23 (by decide) ?_
      obtain ⟨q2_, eq2_, hf⟩ := bnd hf
      refine a_callV (As := [.int ((-6 : Int32))]) (rest := []) dX8_wander_25 mfX8_refused cvX8_63 (wX8_refused eq2_) rc8 (kX8_refused eq2_) (by decide) rfl rfl (Nat.le_of_ble_eq_true rfl) ?_
      have e9 := Option.some.inj hf
      subst e9
      exact a_iret rfl dX8_wander_28 rfl
    · replace hf := iteF hf c9
      refine a_iload_n dX8_wander_10 rfl 2 rfl ?_
      refine a_if_lt dX8_wander_11 (tgt := 22) (by decide) (fun c9 => ?_) (fun c9 => ?_)
      · replace hf := iteT hf c9
        refine a_aload_n dX8_wander_22 rfl 0 rfl ?_
        refine a_bipush (v := -6) dX8_wander_23 (by decide) ?_
        obtain ⟨q3_, eq3_, hf⟩ := bnd hf
        refine a_callV (As := [.int ((-6 : Int32))]) (rest := []) dX8_wander_25 mfX8_refused cvX8_63 (wX8_refused eq3_) rc8 (kX8_refused eq3_) (by decide) rfl rfl (Nat.le_of_ble_eq_true rfl) ?_
        have e9 := Option.some.inj hf
        subst e9
        exact a_iret rfl dX8_wander_28 rfl
      · replace hf := iteF hf c9
        refine a_iload_n dX8_wander_14 rfl 2 rfl ?_
        refine a_bipush (v := 10) dX8_wander_15 (by decide) ?_
        refine a_iload_n dX8_wander_17 rfl 1 rfl ?_
        refine a_isub dX8_wander_18 ?_
        refine a_icmp_le dX8_wander_19 (tgt := 29) (by decide) (fun c9 => ?_) (fun c9 => ?_)
        · replace hf := iteT hf c9
          refine a_bipush (v := 100) dX8_wander_29 (by decide) ?_
          refine a_aload_n dX8_wander_31 rfl 0 rfl ?_
          obtain ⟨o4_, eo4_, hf⟩ := bnd hf
          refine a_getR dX8_wander_32 flX8_18 rfl eo4_ ?_
          obtain ⟨v5_, ev5_, hf⟩ := bnd hf
          refine a_getI dX8_wander_35 flX8_152 rfl ev5_ ?_
          refine a_imul dX8_wander_38 ?_
          refine a_aload_n dX8_wander_39 rfl 0 rfl ?_
          obtain ⟨o6_, eo6_, hf⟩ := bnd hf
          refine a_getR dX8_wander_40 flX8_18 rfl eo6_ ?_
          obtain ⟨v7_, ev7_, hf⟩ := bnd hf
          refine a_getI dX8_wander_43 flX8_155 rfl ev7_ ?_
          refine a_iadd dX8_wander_46 ?_
          refine a_istore_n (i := 3) (lv1 := [(3, .int ((((100 : Int32)) * v5_) + v7_)), (0, .ref a0), (1, .int x1), (2, .int x2)]) dX8_wander_47 rfl (by decide) rfl ?_
          refine a_aload_n dX8_wander_48 rfl 1 rfl ?_
          obtain ⟨o8_, eo8_, hf⟩ := bnd hf
          refine a_getR dX8_wander_49 flX8_18 rfl eo8_ ?_
          refine a_iload_n dX8_wander_52 rfl 2 rfl ?_
          obtain ⟨M9_, eM9_, hf⟩ := bnd hf
          refine a_putI dX8_wander_53 fpX8_152 rfl (Or.inr nf5_1) eM9_ ?_
          refine a_aload_n dX8_wander_56 rfl 1 rfl ?_
          obtain ⟨o10_, eo10_, hf⟩ := bnd hf
          refine a_getR dX8_wander_57 flX8_18 rfl eo10_ ?_
          refine a_iload_n dX8_wander_60 rfl 3 rfl ?_
          obtain ⟨M11_, eM11_, hf⟩ := bnd hf
          refine a_putI dX8_wander_61 fpX8_155 rfl (Or.inr nf5_2) eM11_ ?_
          refine a_iload_n dX8_wander_64 rfl 0 rfl ?_
          have e9 := Option.some.inj hf
          subst e9
          exact a_iret rfl dX8_wander_65 rfl
        · replace hf := iteF hf c9
          refine a_aload_n dX8_wander_22 rfl 0 rfl ?_
          refine a_bipush (v := -6) dX8_wander_23 (by decide) ?_
          obtain ⟨q12_, eq12_, hf⟩ := bnd hf
          refine a_callV (As := [.int ((-6 : Int32))]) (rest := []) dX8_wander_25 mfX8_refused cvX8_63 (wX8_refused eq12_) rc8 (kX8_refused eq12_) (by decide) rfl rfl (Nat.le_of_ble_eq_true rfl) ?_
          have e9 := Option.some.inj hf
          subst e9
          exact a_iret rfl dX8_wander_28 rfl
theorem kX8_askHour {a0 : Nat} {x1 : Int32} {M : Mm} {q : Int32 × Mm} (hf : fX8_askHour a0 x1 M = some q) : (mK M a0).1 = 9 := by
  unfold fX8_askHour at hf
  obtain ⟨u0, eu0, -⟩ := bnd hf
  exact kc_of eu0
set_option maxHeartbeats 4000000 in
set_option maxRecDepth 100000 in
theorem wX8_askHour {l : Launch} {Γ : Gx} {a0 : Nat} {x1 : Int32} {M : Mm} {q : Int32 × Mm} (hf : fX8_askHour a0 x1 M = some q) : AM l Γ 1 yX8_askHour cX8_askHour 3 ((some .int)) [.ref a0, .int x1] M (some (.int q.1)) q.2 := by
  unfold fX8_askHour at hf
  refine AM.of mfX8_askHour (Nat.le_of_ble_eq_true rfl) ?_
  generalize mT M = t0
  generalize mW M = w0
  show AW _ _ _ _ _ _ _ _ _ 0 [(0, .ref a0), (1, .int x1)] [] _ _ _
  obtain ⟨u0, eu0, hf⟩ := bnd hf
  refine a_aload_n dX8_askHour_0 rfl 0 rfl ?_
  obtain ⟨o1_, eo1_, hf⟩ := bnd hf
  refine a_getR dX8_askHour_1 flX8_18 rfl eo1_ ?_
  obtain ⟨v2_, ev2_, hf⟩ := bnd hf
  refine a_getI dX8_askHour_4 flX8_337 rfl ev2_ ?_
  refine a_istore_n (i := 2) (lv1 := [(2, .int v2_), (0, .ref a0), (1, .int x1)]) dX8_askHour_7 rfl (by decide) rfl ?_
  refine a_aload_n dX8_askHour_8 rfl 1 rfl ?_
  obtain ⟨o3_, eo3_, hf⟩ := bnd hf
  refine a_getR dX8_askHour_9 flX8_18 rfl eo3_ ?_
  refine a_iload_n dX8_askHour_12 rfl 2 rfl ?_
  obtain ⟨M4_, eM4_, hf⟩ := bnd hf
  refine a_putI dX8_askHour_13 fpX8_337 rfl (Or.inr nf5_3) eM4_ ?_
  refine a_iload_n dX8_askHour_16 rfl 0 rfl ?_
  have e9 := Option.some.inj hf
  subst e9
  exact a_iret rfl dX8_askHour_17 rfl
theorem kX8_askSnow {a0 : Nat} {x1 : Int32} {M : Mm} {q : Int32 × Mm} (hf : fX8_askSnow a0 x1 M = some q) : (mK M a0).1 = 9 := by
  unfold fX8_askSnow at hf
  obtain ⟨u0, eu0, -⟩ := bnd hf
  exact kc_of eu0
set_option maxHeartbeats 4000000 in
set_option maxRecDepth 100000 in
theorem wX8_askSnow_b15 {l : Launch} {Γ : Gx} {t0 w0 : Nat} {q : Int32 × Mm} (a0 : Nat) (x1 : Int32) (s0 : Int32) (M : Mm) (hf : fX8_askSnow_b15 a0 x1 s0 M = some q) : AW l Γ yX8_askSnow cX8_askSnow 3 ((some .int)) 1 t0 w0 15 [(0, .ref a0), (1, .int x1)] [.int s0] M (some (.int q.1)) q.2 := by
  unfold fX8_askSnow_b15 at hf
  refine a_istore_n (i := 2) (lv1 := [(2, .int s0), (0, .ref a0), (1, .int x1)]) dX8_askSnow_15 rfl (by decide) rfl ?_
  refine a_aload_n dX8_askSnow_16 rfl 1 rfl ?_
  obtain ⟨o1_, eo1_, hf⟩ := bnd hf
  refine a_getR dX8_askSnow_17 flX8_18 rfl eo1_ ?_
  refine a_iload_n dX8_askSnow_20 rfl 2 rfl ?_
  refine a_iconst (v := 1) dX8_askSnow_21 (by decide) ?_
  refine a_icmp_ne dX8_askSnow_22 (tgt := 29) (by decide) (fun c9 => ?_) (fun c9 => ?_)
  · replace hf := iteF hf c9
    refine a_iconst (v := 0) dX8_askSnow_29 (by decide) ?_
    obtain ⟨M2_, eM2_, hf⟩ := bnd hf
    refine a_putZ dX8_askSnow_30 fpX8_340 rfl (Or.inr nf5_4) eM2_ ?_
    refine a_iload_n dX8_askSnow_33 rfl 0 rfl ?_
    have e9 := Option.some.inj hf
    subst e9
    exact a_iret rfl dX8_askSnow_34 rfl
  · replace hf := iteT hf c9
    refine a_iconst (v := 1) dX8_askSnow_25 (by decide) ?_
    refine a_goto (tgt := 30) dX8_askSnow_26 (by decide) ?_
    obtain ⟨M3_, eM3_, hf⟩ := bnd hf
    refine a_putZ dX8_askSnow_30 fpX8_340 rfl (Or.inr nf5_4) eM3_ ?_
    refine a_iload_n dX8_askSnow_33 rfl 0 rfl ?_
    have e9 := Option.some.inj hf
    subst e9
    exact a_iret rfl dX8_askSnow_34 rfl
set_option maxHeartbeats 4000000 in
set_option maxRecDepth 100000 in
theorem wX8_askSnow {l : Launch} {Γ : Gx} {a0 : Nat} {x1 : Int32} {M : Mm} {q : Int32 × Mm} (hf : fX8_askSnow a0 x1 M = some q) : AM l Γ 1 yX8_askSnow cX8_askSnow 3 ((some .int)) [.ref a0, .int x1] M (some (.int q.1)) q.2 := by
  unfold fX8_askSnow at hf
  refine AM.of mfX8_askSnow (Nat.le_of_ble_eq_true rfl) ?_
  generalize mT M = t0
  generalize mW M = w0
  show AW _ _ _ _ _ _ _ _ _ 0 [(0, .ref a0), (1, .int x1)] [] _ _ _
  obtain ⟨u0, eu0, hf⟩ := bnd hf
  refine a_aload_n dX8_askSnow_0 rfl 0 rfl ?_
  obtain ⟨o1_, eo1_, hf⟩ := bnd hf
  refine a_getR dX8_askSnow_1 flX8_18 rfl eo1_ ?_
  obtain ⟨v2_, ev2_, hf⟩ := bnd hf
  refine a_getI dX8_askSnow_4 flX8_340 rfl ev2_ ?_
  refine a_if_eq dX8_askSnow_7 (tgt := 14) (by decide) (fun c9 => ?_) (fun c9 => ?_)
  · replace hf := iteT hf c9
    refine a_iconst (v := 0) dX8_askSnow_14 (by decide) ?_
    exact wX8_askSnow_b15 _ _ _ _ hf
  · replace hf := iteF hf c9
    refine a_iconst (v := 1) dX8_askSnow_10 (by decide) ?_
    refine a_goto (tgt := 15) dX8_askSnow_11 (by decide) ?_
    exact wX8_askSnow_b15 _ _ _ _ hf
theorem kX8_askArc {a0 : Nat} {x1 : Int32} {M : Mm} {q : Int32 × Mm} (hf : fX8_askArc a0 x1 M = some q) : (mK M a0).1 = 9 := by
  unfold fX8_askArc at hf
  obtain ⟨u0, eu0, -⟩ := bnd hf
  exact kc_of eu0
set_option maxHeartbeats 4000000 in
set_option maxRecDepth 100000 in
theorem wX8_askArc {l : Launch} {Γ : Gx} {a0 : Nat} {x1 : Int32} {M : Mm} {q : Int32 × Mm} (hf : fX8_askArc a0 x1 M = some q) : AM l Γ 1 yX8_askArc cX8_askArc 3 ((some .int)) [.ref a0, .int x1] M (some (.int q.1)) q.2 := by
  unfold fX8_askArc at hf
  refine AM.of mfX8_askArc (Nat.le_of_ble_eq_true rfl) ?_
  generalize mT M = t0
  generalize mW M = w0
  show AW _ _ _ _ _ _ _ _ _ 0 [(0, .ref a0), (1, .int x1)] [] _ _ _
  obtain ⟨u0, eu0, hf⟩ := bnd hf
  refine a_aload_n dX8_askArc_0 rfl 0 rfl ?_
  obtain ⟨o1_, eo1_, hf⟩ := bnd hf
  refine a_getR dX8_askArc_1 flX8_18 rfl eo1_ ?_
  obtain ⟨v2_, ev2_, hf⟩ := bnd hf
  refine a_getI dX8_askArc_4 flX8_343 rfl ev2_ ?_
  refine a_istore_n (i := 2) (lv1 := [(2, .int v2_), (0, .ref a0), (1, .int x1)]) dX8_askArc_7 rfl (by decide) rfl ?_
  refine a_aload_n dX8_askArc_8 rfl 1 rfl ?_
  obtain ⟨o3_, eo3_, hf⟩ := bnd hf
  refine a_getR dX8_askArc_9 flX8_18 rfl eo3_ ?_
  refine a_iload_n dX8_askArc_12 rfl 2 rfl ?_
  obtain ⟨M4_, eM4_, hf⟩ := bnd hf
  refine a_putI dX8_askArc_13 fpX8_343 rfl (Or.inr nf5_5) eM4_ ?_
  refine a_iload_n dX8_askArc_16 rfl 0 rfl ?_
  have e9 := Option.some.inj hf
  subst e9
  exact a_iret rfl dX8_askArc_17 rfl
theorem kX8_ask {a0 : Nat} {x1 : Int32} {x2 : Int32} {M : Mm} {q : Int32 × Mm} (hf : fX8_ask a0 x1 x2 M = some q) : (mK M a0).1 = 9 := by
  unfold fX8_ask at hf
  obtain ⟨u0, eu0, -⟩ := bnd hf
  exact kc_of eu0
set_option maxHeartbeats 4000000 in
set_option maxRecDepth 100000 in
theorem wX8_ask {l : Launch} {Γ : Gx} {a0 : Nat} {x1 : Int32} {x2 : Int32} {M : Mm} {q : Int32 × Mm} (hf : fX8_ask a0 x1 x2 M = some q) : AM l Γ 2 yX8_ask cX8_ask 3 ((some .int)) [.ref a0, .int x1, .int x2] M (some (.int q.1)) q.2 := by
  unfold fX8_ask at hf
  refine AM.of mfX8_ask (Nat.le_of_ble_eq_true rfl) ?_
  generalize mT M = t0
  generalize mW M = w0
  show AW _ _ _ _ _ _ _ _ _ 0 [(0, .ref a0), (1, .int x1), (2, .int x2)] [] _ _ _
  obtain ⟨u0, eu0, hf⟩ := bnd hf
  refine a_iload_n dX8_ask_0 rfl 1 rfl ?_
  by_cases c0 : x1 = (0 : Int32)
  · replace hf := iteT hf c0
    refine a_tableAt 0 (off := 27) (tgt := 28) dX8_ask_1 ((congrArg Int32.toInt c0).trans rfl) (by decide) (by decide) ?_
    refine a_iload_n dX8_ask_28 rfl 2 rfl ?_
    refine a_if_lt dX8_ask_29 (tgt := 38) (by decide) (fun c9 => ?_) (fun c9 => ?_)
    · replace hf := iteT hf c9
      refine a_aload_n dX8_ask_38 rfl 0 rfl ?_
      refine a_bipush (v := -6) dX8_ask_39 (by decide) ?_
      obtain ⟨q1_, eq1_, hf⟩ := bnd hf
      refine a_callV (As := [.int ((-6 : Int32))]) (rest := []) dX8_ask_41 mfX8_refused cvX8_63 (wX8_refused eq1_) rc8 (kX8_refused eq1_) (by decide) rfl rfl (Nat.le_of_ble_eq_true rfl) ?_
      refine a_goto (tgt := 52) dX8_ask_44 (by decide) ?_
      have e9 := Option.some.inj hf
      subst e9
      exact a_iret rfl dX8_ask_52 rfl
    · replace hf := iteF hf c9
      refine a_iload_n dX8_ask_32 rfl 2 rfl ?_
      refine a_bipush (v := 7) dX8_ask_33 (by decide) ?_
      refine a_icmp_le dX8_ask_35 (tgt := 47) (by decide) (fun c9 => ?_) (fun c9 => ?_)
      · replace hf := iteT hf c9
        refine a_aload_n dX8_ask_47 rfl 0 rfl ?_
        refine a_iload_n dX8_ask_48 rfl 2 rfl ?_
        obtain ⟨q2_, eq2_, hf⟩ := bnd hf
        refine a_callV (As := [.int x2]) (rest := []) dX8_ask_49 mfX8_askHour cvX8_158 (wX8_askHour eq2_) rc8 (kX8_askHour eq2_) (by decide) rfl rfl (Nat.le_of_ble_eq_true rfl) ?_
        have e9 := Option.some.inj hf
        subst e9
        exact a_iret rfl dX8_ask_52 rfl
      · replace hf := iteF hf c9
        refine a_aload_n dX8_ask_38 rfl 0 rfl ?_
        refine a_bipush (v := -6) dX8_ask_39 (by decide) ?_
        obtain ⟨q3_, eq3_, hf⟩ := bnd hf
        refine a_callV (As := [.int ((-6 : Int32))]) (rest := []) dX8_ask_41 mfX8_refused cvX8_63 (wX8_refused eq3_) rc8 (kX8_refused eq3_) (by decide) rfl rfl (Nat.le_of_ble_eq_true rfl) ?_
        refine a_goto (tgt := 52) dX8_ask_44 (by decide) ?_
        have e9 := Option.some.inj hf
        subst e9
        exact a_iret rfl dX8_ask_52 rfl
  · replace hf := iteF hf c0
    by_cases c1 : x1 = (1 : Int32)
    · replace hf := iteT hf c1
      refine a_tableAt 1 (off := 52) (tgt := 53) dX8_ask_1 ((congrArg Int32.toInt c1).trans rfl) (by decide) (by decide) ?_
      refine a_iload_n dX8_ask_53 rfl 2 rfl ?_
      refine a_if_lt dX8_ask_54 (tgt := 62) (by decide) (fun c9 => ?_) (fun c9 => ?_)
      · replace hf := iteT hf c9
        refine a_aload_n dX8_ask_62 rfl 0 rfl ?_
        refine a_bipush (v := -6) dX8_ask_63 (by decide) ?_
        obtain ⟨q4_, eq4_, hf⟩ := bnd hf
        refine a_callV (As := [.int ((-6 : Int32))]) (rest := []) dX8_ask_65 mfX8_refused cvX8_63 (wX8_refused eq4_) rc8 (kX8_refused eq4_) (by decide) rfl rfl (Nat.le_of_ble_eq_true rfl) ?_
        refine a_goto (tgt := 76) dX8_ask_68 (by decide) ?_
        have e9 := Option.some.inj hf
        subst e9
        exact a_iret rfl dX8_ask_76 rfl
      · replace hf := iteF hf c9
        refine a_iload_n dX8_ask_57 rfl 2 rfl ?_
        refine a_iconst (v := 1) dX8_ask_58 (by decide) ?_
        refine a_icmp_le dX8_ask_59 (tgt := 71) (by decide) (fun c9 => ?_) (fun c9 => ?_)
        · replace hf := iteT hf c9
          refine a_aload_n dX8_ask_71 rfl 0 rfl ?_
          refine a_iload_n dX8_ask_72 rfl 2 rfl ?_
          obtain ⟨q5_, eq5_, hf⟩ := bnd hf
          refine a_callV (As := [.int x2]) (rest := []) dX8_ask_73 mfX8_askSnow cvX8_161 (wX8_askSnow eq5_) rc8 (kX8_askSnow eq5_) (by decide) rfl rfl (Nat.le_of_ble_eq_true rfl) ?_
          have e9 := Option.some.inj hf
          subst e9
          exact a_iret rfl dX8_ask_76 rfl
        · replace hf := iteF hf c9
          refine a_aload_n dX8_ask_62 rfl 0 rfl ?_
          refine a_bipush (v := -6) dX8_ask_63 (by decide) ?_
          obtain ⟨q6_, eq6_, hf⟩ := bnd hf
          refine a_callV (As := [.int ((-6 : Int32))]) (rest := []) dX8_ask_65 mfX8_refused cvX8_63 (wX8_refused eq6_) rc8 (kX8_refused eq6_) (by decide) rfl rfl (Nat.le_of_ble_eq_true rfl) ?_
          refine a_goto (tgt := 76) dX8_ask_68 (by decide) ?_
          have e9 := Option.some.inj hf
          subst e9
          exact a_iret rfl dX8_ask_76 rfl
    · replace hf := iteF hf c1
      by_cases c2 : x1 = (2 : Int32)
      · replace hf := iteT hf c2
        refine a_tableAt 2 (off := 76) (tgt := 77) dX8_ask_1 ((congrArg Int32.toInt c2).trans rfl) (by decide) (by decide) ?_
        refine a_iload_n dX8_ask_77 rfl 2 rfl ?_
        refine a_iconst (v := 1) dX8_ask_78 (by decide) ?_
        refine a_icmp_lt dX8_ask_79 (tgt := 88) (by decide) (fun c9 => ?_) (fun c9 => ?_)
        · replace hf := iteT hf c9
          refine a_aload_n dX8_ask_88 rfl 0 rfl ?_
          refine a_bipush (v := -6) dX8_ask_89 (by decide) ?_
          obtain ⟨q7_, eq7_, hf⟩ := bnd hf
          refine a_callV (As := [.int ((-6 : Int32))]) (rest := []) dX8_ask_91 mfX8_refused cvX8_63 (wX8_refused eq7_) rc8 (kX8_refused eq7_) (by decide) rfl rfl (Nat.le_of_ble_eq_true rfl) ?_
          refine a_goto (tgt := 102) dX8_ask_94 (by decide) ?_
          have e9 := Option.some.inj hf
          subst e9
          exact a_iret rfl dX8_ask_102 rfl
        · replace hf := iteF hf c9
          refine a_iload_n dX8_ask_82 rfl 2 rfl ?_
          refine a_bipush (v := 9) dX8_ask_83 (by decide) ?_
          refine a_icmp_le dX8_ask_85 (tgt := 97) (by decide) (fun c9 => ?_) (fun c9 => ?_)
          · replace hf := iteT hf c9
            refine a_aload_n dX8_ask_97 rfl 0 rfl ?_
            refine a_iload_n dX8_ask_98 rfl 2 rfl ?_
            obtain ⟨q8_, eq8_, hf⟩ := bnd hf
            refine a_callV (As := [.int x2]) (rest := []) dX8_ask_99 mfX8_askArc cvX8_164 (wX8_askArc eq8_) rc8 (kX8_askArc eq8_) (by decide) rfl rfl (Nat.le_of_ble_eq_true rfl) ?_
            have e9 := Option.some.inj hf
            subst e9
            exact a_iret rfl dX8_ask_102 rfl
          · replace hf := iteF hf c9
            refine a_aload_n dX8_ask_88 rfl 0 rfl ?_
            refine a_bipush (v := -6) dX8_ask_89 (by decide) ?_
            obtain ⟨q9_, eq9_, hf⟩ := bnd hf
            refine a_callV (As := [.int ((-6 : Int32))]) (rest := []) dX8_ask_91 mfX8_refused cvX8_63 (wX8_refused eq9_) rc8 (kX8_refused eq9_) (by decide) rfl rfl (Nat.le_of_ble_eq_true rfl) ?_
            refine a_goto (tgt := 102) dX8_ask_94 (by decide) ?_
            have e9 := Option.some.inj hf
            subst e9
            exact a_iret rfl dX8_ask_102 rfl
      · replace hf := iteF hf c2
        refine a_tableOut (tgt := 103) dX8_ask_1 (by have nc0 := swne c0 (k9 := 0) rfl; have nc1 := swne c1 (k9 := 1) rfl; have nc2 := swne c2 (k9 := 2) rfl; omega) (by decide) ?_
        refine a_aload_n dX8_ask_103 rfl 0 rfl ?_
        refine a_bipush (v := -6) dX8_ask_104 (by decide) ?_
        obtain ⟨q10_, eq10_, hf⟩ := bnd hf
        refine a_callV (As := [.int ((-6 : Int32))]) (rest := []) dX8_ask_106 mfX8_refused cvX8_63 (wX8_refused eq10_) rc8 (kX8_refused eq10_) (by decide) rfl rfl (Nat.le_of_ble_eq_true rfl) ?_
        have e9 := Option.some.inj hf
        subst e9
        exact a_iret rfl dX8_ask_109 rfl
theorem kX8_signOf {a0 : Nat} {x1 : Int32} {x2 : Int32} {M : Mm} {q : Int32 × Mm} (hf : fX8_signOf a0 x1 x2 M = some q) : (mK M a0).1 = 9 := by
  unfold fX8_signOf at hf
  obtain ⟨u0, eu0, -⟩ := bnd hf
  exact kc_of eu0
set_option maxHeartbeats 4000000 in
set_option maxRecDepth 100000 in
theorem wX8_signOf {l : Launch} {Γ : Gx} {a0 : Nat} {x1 : Int32} {x2 : Int32} {M : Mm} {q : Int32 × Mm} (hf : fX8_signOf a0 x1 x2 M = some q) : AM l Γ 2 yX8_signOf cX8_signOf 4 ((some .int)) [.ref a0, .int x1, .int x2] M (some (.int q.1)) q.2 := by
  unfold fX8_signOf at hf
  refine AM.of mfX8_signOf (Nat.le_of_ble_eq_true rfl) ?_
  generalize mT M = t0
  generalize mW M = w0
  show AW _ _ _ _ _ _ _ _ _ 0 [(0, .ref a0), (1, .int x1), (2, .int x2)] [] _ _ _
  obtain ⟨u0, eu0, hf⟩ := bnd hf
  refine a_aload_n dX8_signOf_0 rfl 0 rfl ?_
  obtain ⟨o1_, eo1_, hf⟩ := bnd hf
  refine a_getR dX8_signOf_1 flX8_18 rfl eo1_ ?_
  refine a_iload_n dX8_signOf_4 rfl 1 rfl ?_
  obtain ⟨q2_, eq2_, hf⟩ := bnd hf
  refine a_callV (As := [.int x1]) (rest := []) dX8_signOf_5 mfX5_signAt cvX8_100 (wX5_signAt eq2_) rc5 (kX5_signAt eq2_) (by decide) rfl rfl (Nat.le_of_ble_eq_true rfl) ?_
  obtain ⟨n3_, en3_, hf⟩ := bnd hf
  refine a_topN en3_ ?_
  refine a_astore_nq (x := n3_) (i := 3) (lv1 := [(3, rv n3_), (0, .ref a0), (1, .int x1), (2, .int x2)]) dX8_signOf_8 rfl (by decide) rfl ?_
  refine a_aload_nq (x := n3_) dX8_signOf_9 rfl 0 rfl ?_
  cases n3_ with
  | none =>
    replace hf := el0 hf
    refine a_ifnonnull0 dX8_signOf_10 ?_
    refine a_aload_n dX8_signOf_13 rfl 1 rfl ?_
    refine a_bipush (v := -5) dX8_signOf_14 (by decide) ?_
    obtain ⟨q5_, eq5_, hf⟩ := bnd hf
    refine a_callV (As := [.int ((-5 : Int32))]) (rest := []) dX8_signOf_16 mfX8_refused cvX8_63 (wX8_refused eq5_) rc8 (kX8_refused eq5_) (by decide) rfl rfl (Nat.le_of_ble_eq_true rfl) ?_
    have e9 := Option.some.inj hf
    subst e9
    exact a_iret rfl dX8_signOf_19 rfl
  | some o4_ =>
    replace hf := el1 hf
    refine a_ifnonnull1 (tgt := 20) dX8_signOf_10 (by decide) ?_
    refine a_iload_n dX8_signOf_20 rfl 3 rfl ?_
    by_cases c0 : x2 = (0 : Int32)
    · replace hf := iteT hf c0
      refine a_tableAt 0 (off := 31) (tgt := 52) dX8_signOf_21 ((congrArg Int32.toInt c0).trans rfl) (by decide) (by decide) ?_
      refine a_aload_n dX8_signOf_52 rfl 0 rfl ?_
      obtain ⟨v6_, ev6_, hf⟩ := bnd hf
      refine a_getI dX8_signOf_53 flX8_167 rfl ev6_ ?_
      have e9 := Option.some.inj hf
      subst e9
      exact a_iret rfl dX8_signOf_56 rfl
    · replace hf := iteF hf c0
      by_cases c1 : x2 = (1 : Int32)
      · replace hf := iteT hf c1
        refine a_tableAt 1 (off := 36) (tgt := 57) dX8_signOf_21 ((congrArg Int32.toInt c1).trans rfl) (by decide) (by decide) ?_
        refine a_aload_n dX8_signOf_57 rfl 0 rfl ?_
        obtain ⟨v7_, ev7_, hf⟩ := bnd hf
        refine a_getI dX8_signOf_58 flX8_170 rfl ev7_ ?_
        have e9 := Option.some.inj hf
        subst e9
        exact a_iret rfl dX8_signOf_61 rfl
      · replace hf := iteF hf c1
        by_cases c2 : x2 = (2 : Int32)
        · replace hf := iteT hf c2
          refine a_tableAt 2 (off := 41) (tgt := 62) dX8_signOf_21 ((congrArg Int32.toInt c2).trans rfl) (by decide) (by decide) ?_
          refine a_aload_n dX8_signOf_62 rfl 0 rfl ?_
          obtain ⟨v8_, ev8_, hf⟩ := bnd hf
          refine a_getI dX8_signOf_63 flX8_173 rfl ev8_ ?_
          have e9 := Option.some.inj hf
          subst e9
          exact a_iret rfl dX8_signOf_66 rfl
        · replace hf := iteF hf c2
          by_cases c3 : x2 = (3 : Int32)
          · replace hf := iteT hf c3
            refine a_tableAt 3 (off := 46) (tgt := 67) dX8_signOf_21 ((congrArg Int32.toInt c3).trans rfl) (by decide) (by decide) ?_
            refine a_aload_n dX8_signOf_67 rfl 0 rfl ?_
            obtain ⟨v9_, ev9_, hf⟩ := bnd hf
            refine a_getI dX8_signOf_68 flX8_176 rfl ev9_ ?_
            have e9 := Option.some.inj hf
            subst e9
            exact a_iret rfl dX8_signOf_71 rfl
          · replace hf := iteF hf c3
            refine a_tableOut (tgt := 72) dX8_signOf_21 (by have nc0 := swne c0 (k9 := 0) rfl; have nc1 := swne c1 (k9 := 1) rfl; have nc2 := swne c2 (k9 := 2) rfl; have nc3 := swne c3 (k9 := 3) rfl; omega) (by decide) ?_
            refine a_aload_n dX8_signOf_72 rfl 1 rfl ?_
            refine a_bipush (v := -5) dX8_signOf_73 (by decide) ?_
            obtain ⟨q10_, eq10_, hf⟩ := bnd hf
            refine a_callV (As := [.int ((-5 : Int32))]) (rest := []) dX8_signOf_75 mfX8_refused cvX8_63 (wX8_refused eq10_) rc8 (kX8_refused eq10_) (by decide) rfl rfl (Nat.le_of_ble_eq_true rfl) ?_
            have e9 := Option.some.inj hf
            subst e9
            exact a_iret rfl dX8_signOf_78 rfl
theorem kX8_thingOf {a0 : Nat} {x1 : Int32} {x2 : Int32} {M : Mm} {q : Int32 × Mm} (hf : fX8_thingOf a0 x1 x2 M = some q) : (mK M a0).1 = 9 := by
  unfold fX8_thingOf at hf
  obtain ⟨u0, eu0, -⟩ := bnd hf
  exact kc_of eu0
set_option maxHeartbeats 4000000 in
set_option maxRecDepth 100000 in
theorem wX8_thingOf {l : Launch} {Γ : Gx} {a0 : Nat} {x1 : Int32} {x2 : Int32} {M : Mm} {q : Int32 × Mm} (hf : fX8_thingOf a0 x1 x2 M = some q) : AM l Γ 2 yX8_thingOf cX8_thingOf 4 ((some .int)) [.ref a0, .int x1, .int x2] M (some (.int q.1)) q.2 := by
  unfold fX8_thingOf at hf
  refine AM.of mfX8_thingOf (Nat.le_of_ble_eq_true rfl) ?_
  generalize mT M = t0
  generalize mW M = w0
  show AW _ _ _ _ _ _ _ _ _ 0 [(0, .ref a0), (1, .int x1), (2, .int x2)] [] _ _ _
  obtain ⟨u0, eu0, hf⟩ := bnd hf
  refine a_aload_n dX8_thingOf_0 rfl 0 rfl ?_
  obtain ⟨o1_, eo1_, hf⟩ := bnd hf
  refine a_getR dX8_thingOf_1 flX8_18 rfl eo1_ ?_
  refine a_iload_n dX8_thingOf_4 rfl 1 rfl ?_
  obtain ⟨q2_, eq2_, hf⟩ := bnd hf
  refine a_callV (As := [.int x1]) (rest := []) dX8_thingOf_5 mfX5_thingAt cvX8_179 (wX5_thingAt eq2_) rc5 (kX5_thingAt eq2_) (by decide) rfl rfl (Nat.le_of_ble_eq_true rfl) ?_
  obtain ⟨n3_, en3_, hf⟩ := bnd hf
  refine a_topN en3_ ?_
  refine a_astore_nq (x := n3_) (i := 3) (lv1 := [(3, rv n3_), (0, .ref a0), (1, .int x1), (2, .int x2)]) dX8_thingOf_8 rfl (by decide) rfl ?_
  refine a_aload_nq (x := n3_) dX8_thingOf_9 rfl 0 rfl ?_
  cases n3_ with
  | none =>
    replace hf := el0 hf
    refine a_ifnonnull0 dX8_thingOf_10 ?_
    refine a_aload_n dX8_thingOf_13 rfl 1 rfl ?_
    refine a_bipush (v := -5) dX8_thingOf_14 (by decide) ?_
    obtain ⟨q5_, eq5_, hf⟩ := bnd hf
    refine a_callV (As := [.int ((-5 : Int32))]) (rest := []) dX8_thingOf_16 mfX8_refused cvX8_63 (wX8_refused eq5_) rc8 (kX8_refused eq5_) (by decide) rfl rfl (Nat.le_of_ble_eq_true rfl) ?_
    have e9 := Option.some.inj hf
    subst e9
    exact a_iret rfl dX8_thingOf_19 rfl
  | some o4_ =>
    replace hf := el1 hf
    refine a_ifnonnull1 (tgt := 20) dX8_thingOf_10 (by decide) ?_
    refine a_iload_n dX8_thingOf_20 rfl 3 rfl ?_
    by_cases c0 : x2 = (0 : Int32)
    · replace hf := iteT hf c0
      refine a_tableAt 0 (off := 27) (tgt := 48) dX8_thingOf_21 ((congrArg Int32.toInt c0).trans rfl) (by decide) (by decide) ?_
      refine a_aload_n dX8_thingOf_48 rfl 0 rfl ?_
      obtain ⟨v6_, ev6_, hf⟩ := bnd hf
      refine a_getI dX8_thingOf_49 flX8_183 rfl ev6_ ?_
      have e9 := Option.some.inj hf
      subst e9
      exact a_iret rfl dX8_thingOf_52 rfl
    · replace hf := iteF hf c0
      by_cases c1 : x2 = (1 : Int32)
      · replace hf := iteT hf c1
        refine a_tableAt 1 (off := 32) (tgt := 53) dX8_thingOf_21 ((congrArg Int32.toInt c1).trans rfl) (by decide) (by decide) ?_
        refine a_aload_n dX8_thingOf_53 rfl 0 rfl ?_
        obtain ⟨v7_, ev7_, hf⟩ := bnd hf
        refine a_getI dX8_thingOf_54 flX8_186 rfl ev7_ ?_
        refine a_if_eq dX8_thingOf_57 (tgt := 64) (by decide) (fun c9 => ?_) (fun c9 => ?_)
        · replace hf := iteT hf c9
          refine a_iconst (v := 0) dX8_thingOf_64 (by decide) ?_
          have e9 := Option.some.inj hf
          subst e9
          exact a_iret rfl dX8_thingOf_65 rfl
        · replace hf := iteF hf c9
          refine a_iconst (v := 1) dX8_thingOf_60 (by decide) ?_
          refine a_goto (tgt := 65) dX8_thingOf_61 (by decide) ?_
          have e9 := Option.some.inj hf
          subst e9
          exact a_iret rfl dX8_thingOf_65 rfl
      · replace hf := iteF hf c1
        by_cases c2 : x2 = (2 : Int32)
        · replace hf := iteT hf c2
          refine a_tableAt 2 (off := 45) (tgt := 66) dX8_thingOf_21 ((congrArg Int32.toInt c2).trans rfl) (by decide) (by decide) ?_
          refine a_aload_n dX8_thingOf_66 rfl 0 rfl ?_
          obtain ⟨v8_, ev8_, hf⟩ := bnd hf
          refine a_getI dX8_thingOf_67 flX8_189 rfl ev8_ ?_
          have e9 := Option.some.inj hf
          subst e9
          exact a_iret rfl dX8_thingOf_70 rfl
        · replace hf := iteF hf c2
          refine a_tableOut (tgt := 71) dX8_thingOf_21 (by have nc0 := swne c0 (k9 := 0) rfl; have nc1 := swne c1 (k9 := 1) rfl; have nc2 := swne c2 (k9 := 2) rfl; omega) (by decide) ?_
          refine a_aload_n dX8_thingOf_71 rfl 1 rfl ?_
          refine a_bipush (v := -5) dX8_thingOf_72 (by decide) ?_
          obtain ⟨q9_, eq9_, hf⟩ := bnd hf
          refine a_callV (As := [.int ((-5 : Int32))]) (rest := []) dX8_thingOf_74 mfX8_refused cvX8_63 (wX8_refused eq9_) rc8 (kX8_refused eq9_) (by decide) rfl rfl (Nat.le_of_ble_eq_true rfl) ?_
          have e9 := Option.some.inj hf
          subst e9
          exact a_iret rfl dX8_thingOf_77 rfl
theorem kX8_clear {a0 : Nat} {x1 : Int32} {M : Mm} {q : Int32 × Mm} (hf : fX8_clear a0 x1 M = some q) : (mK M a0).1 = 9 := by
  unfold fX8_clear at hf
  obtain ⟨u0, eu0, -⟩ := bnd hf
  exact kc_of eu0
set_option maxHeartbeats 4000000 in
set_option maxRecDepth 100000 in
theorem wX8_clear {l : Launch} {Γ : Gx} {a0 : Nat} {x1 : Int32} {M : Mm} {q : Int32 × Mm} (hf : fX8_clear a0 x1 M = some q) : AM l Γ 2 yX8_clear cX8_clear 2 ((some .int)) [.ref a0, .int x1] M (some (.int q.1)) q.2 := by
  unfold fX8_clear at hf
  refine AM.of mfX8_clear (Nat.le_of_ble_eq_true rfl) ?_
  generalize mT M = t0
  generalize mW M = w0
  show AW _ _ _ _ _ _ _ _ _ 0 [(0, .ref a0), (1, .int x1)] [] _ _ _
  obtain ⟨u0, eu0, hf⟩ := bnd hf
  refine a_aload_n dX8_clear_0 rfl 0 rfl ?_
  obtain ⟨o1_, eo1_, hf⟩ := bnd hf
  refine a_getR dX8_clear_1 flX8_18 rfl eo1_ ?_
  refine a_iload_n dX8_clear_4 rfl 1 rfl ?_
  obtain ⟨q2_, eq2_, hf⟩ := bnd hf
  refine a_callV (As := [.int x1]) (rest := []) dX8_clear_5 mfX5_thingAt cvX8_179 (wX5_thingAt eq2_) rc5 (kX5_thingAt eq2_) (by decide) rfl rfl (Nat.le_of_ble_eq_true rfl) ?_
  obtain ⟨n3_, en3_, hf⟩ := bnd hf
  refine a_topN en3_ ?_
  cases n3_ with
  | none =>
    replace hf := el0 hf
    refine a_ifnonnull0 dX8_clear_8 ?_
    refine a_aload_n dX8_clear_11 rfl 0 rfl ?_
    refine a_iconst (v := -1) dX8_clear_12 (by decide) ?_
    obtain ⟨q5_, eq5_, hf⟩ := bnd hf
    refine a_callV (As := [.int ((-1 : Int32))]) (rest := []) dX8_clear_13 mfX8_refused cvX8_63 (wX8_refused eq5_) rc8 (kX8_refused eq5_) (by decide) rfl rfl (Nat.le_of_ble_eq_true rfl) ?_
    have e9 := Option.some.inj hf
    subst e9
    exact a_iret rfl dX8_clear_16 rfl
  | some o4_ =>
    replace hf := el1 hf
    refine a_ifnonnull1 (tgt := 17) dX8_clear_8 (by decide) ?_
    refine a_aload_n dX8_clear_17 rfl 0 rfl ?_
    obtain ⟨o6_, eo6_, hf⟩ := bnd hf
    refine a_getR dX8_clear_18 flX8_18 rfl eo6_ ?_
    refine a_iload_n dX8_clear_21 rfl 1 rfl ?_
    obtain ⟨M7_, eM7_, hf⟩ := bnd hf
    refine a_callV (As := [.int x1]) (rest := []) dX8_clear_22 mfX5_removeThing cvX8_192 (wX5_removeThing eM7_) rc5 (kX5_removeThing eM7_) (by decide) rfl rfl (Nat.le_of_ble_eq_true rfl) ?_
    refine a_aload_n dX8_clear_25 rfl 0 rfl ?_
    obtain ⟨o8_, eo8_, hf⟩ := bnd hf
    refine a_getR dX8_clear_26 flX8_18 rfl eo8_ ?_
    obtain ⟨v9_, ev9_, hf⟩ := bnd hf
    refine a_getI dX8_clear_29 flX8_195 rfl ev9_ ?_
    have e9 := Option.some.inj hf
    subst e9
    exact a_iret rfl dX8_clear_32 rfl
theorem kX8_town {a0 : Nat} {x1 : Int32} {M : Mm} {q : Int32 × Mm} (hf : fX8_town a0 x1 M = some q) : (mK M a0).1 = 9 := by
  unfold fX8_town at hf
  obtain ⟨u0, eu0, -⟩ := bnd hf
  exact kc_of eu0
set_option maxHeartbeats 4000000 in
set_option maxRecDepth 100000 in
theorem wX8_town {l : Launch} {Γ : Gx} {a0 : Nat} {x1 : Int32} {M : Mm} {q : Int32 × Mm} (hf : fX8_town a0 x1 M = some q) : AM l Γ 8 yX8_town cX8_town 6 ((some .int)) [.ref a0, .int x1] M (some (.int q.1)) q.2 := by
  unfold fX8_town at hf
  refine AM.of mfX8_town (Nat.le_of_ble_eq_true rfl) ?_
  generalize mT M = t0
  generalize mW M = w0
  show AW _ _ _ _ _ _ _ _ _ 0 [(0, .ref a0), (1, .int x1)] [] _ _ _
  obtain ⟨u0, eu0, hf⟩ := bnd hf
  refine a_aload_n dX8_town_0 rfl 0 rfl ?_
  refine a_iload_n dX8_town_1 rfl 1 rfl ?_
  obtain ⟨q1_, eq1_, hf⟩ := bnd hf
  refine a_callV (As := [.int x1]) (rest := []) dX8_town_2 mfX8_shelfAt cvX8_59 (wX8_shelfAt eq1_) rc8 (kX8_shelfAt eq1_) (by decide) rfl rfl (Nat.le_of_ble_eq_true rfl) ?_
  obtain ⟨n2_, en2_, hf⟩ := bnd hf
  refine a_topN en2_ ?_
  refine a_astore_nq (x := n2_) (i := 2) (lv1 := [(2, rv n2_), (0, .ref a0), (1, .int x1)]) dX8_town_5 rfl (by decide) rfl ?_
  refine a_aload_nq (x := n2_) dX8_town_6 rfl 0 rfl ?_
  obtain ⟨q3_, eq3_, hf⟩ := bnd hf
  refine a_callS (As := [rv n2_]) (rest := []) dX8_town_7 mfX8_rowTrouble csX8_71 (wX8_rowTrouble eq3_) (by decide) rfl rfl (Nat.le_of_ble_eq_true rfl) ?_
  refine a_istore_n (i := 3) (lv1 := [(3, .int q3_.1), (2, rv n2_), (0, .ref a0), (1, .int x1)]) dX8_town_10 rfl (by decide) (by simp [lvS, lvD, rv_cat, vc_int, vc_ref, vc_long, vc_null, rv_some]) ?_
  refine a_aload_nq (x := n2_) dX8_town_11 rfl 1 rfl ?_
  cases n2_ with
  | none =>
    replace hf := el0 hf
    refine a_ifnull0 (tgt := 19) dX8_town_12 (by decide) ?_
    refine a_aload_n dX8_town_19 rfl 2 rfl ?_
    refine a_iload_n dX8_town_20 rfl 0 rfl ?_
    obtain ⟨q5_, eq5_, hf⟩ := bnd hf
    refine a_callV (As := [.int q3_.1]) (rest := []) dX8_town_21 mfX8_refused cvX8_63 (wX8_refused eq5_) rc8 (kX8_refused eq5_) (by decide) rfl rfl (Nat.le_of_ble_eq_true rfl) ?_
    have e9 := Option.some.inj hf
    subst e9
    exact a_iret rfl dX8_town_24 rfl
  | some o4_ =>
    replace hf := el1 hf
    refine a_ifnull1 dX8_town_12 ?_
    refine a_iload_n dX8_town_15 rfl 0 rfl ?_
    refine a_if_eq dX8_town_16 (tgt := 25) (by decide) (fun c9 => ?_) (fun c9 => ?_)
    · replace hf := iteT hf c9
      refine a_aload_n dX8_town_25 rfl 2 rfl ?_
      obtain ⟨o6_, eo6_, hf⟩ := bnd hf
      refine a_getR dX8_town_26 flX8_22 rfl eo6_ ?_
      refine a_aload_n dX8_town_29 rfl 2 rfl ?_
      obtain ⟨o7_, eo7_, hf⟩ := bnd hf
      refine a_getR dX8_town_30 flX8_18 rfl eo7_ ?_
      obtain ⟨M8_, eM8_, hf⟩ := bnd hf
      refine a_callV (As := [.ref o7_]) (rest := []) dX8_town_33 mfX5_becomeLike cvX8_198 (wX5_becomeLike eM8_) rc5 (kX5_becomeLike eM8_) (by decide) rfl rfl (Nat.le_of_ble_eq_true rfl) ?_
      obtain ⟨q9_, eq9_, hf⟩ := bnd hf
      refine a_new dX8_town_36 nwX8_202 rfl nz2 eq9_ ?_
      refine a_dup dX8_town_39 rfl ?_
      refine a_aload_n dX8_town_40 rfl 1 rfl ?_
      refine a_aload_n dX8_town_41 rfl 2 rfl ?_
      obtain ⟨o10_, eo10_, hf⟩ := bnd hf
      refine a_getR dX8_town_42 flX8_22 rfl eo10_ ?_
      obtain ⟨M11_, eM11_, hf⟩ := bnd hf
      refine a_callI (As := [.ref o4_, .ref o10_]) (rest := [.ref q9_.1]) dX8_town_45 mfX2_init ciX8_204 (wX2_init eM11_) (by decide) rfl rfl (Nat.le_of_ble_eq_true rfl) ?_
      refine a_astore (i := 4) (lv1 := [(4, .ref q9_.1), (3, .int q3_.1), (2, .ref o4_), (0, .ref a0), (1, .int x1)]) dX8_town_48 (by decide) rfl ?_
      refine a_aload dX8_town_50 0 rfl ?_
      obtain ⟨q12_, eq12_, hf⟩ := bnd hf
      refine a_callV (As := []) (rest := []) dX8_town_52 mfX2_readItems cvX8_207 (wX2_readItems eq12_) rc2 (kX2_readItems eq12_) (by decide) rfl rfl (Nat.le_of_ble_eq_true rfl) ?_
      refine a_istore (i := 5) (lv1 := [(5, .int q12_.1), (4, .ref q9_.1), (3, .int q3_.1), (2, .ref o4_), (0, .ref a0), (1, .int x1)]) dX8_town_55 (by decide) rfl ?_
      refine a_aload_n dX8_town_57 rfl 4 rfl ?_
      refine a_aload dX8_town_58 1 rfl ?_
      obtain ⟨v13_, ev13_, hf⟩ := bnd hf
      refine a_getI dX8_town_60 flX8_211 rfl ev13_ ?_
      obtain ⟨M14_, eM14_, hf⟩ := bnd hf
      refine a_putI dX8_town_63 fpX8_36 rfl (Or.inr nf8_6) eM14_ ?_
      refine a_aload_n dX8_town_66 rfl 4 rfl ?_
      obtain ⟨v15_, ev15_, hf⟩ := bnd hf
      refine a_getI dX8_town_67 flX8_36 rfl ev15_ ?_
      refine a_iconst (v := -1) dX8_town_70 (by decide) ?_
      refine a_icmp_eq dX8_town_71 (tgt := 81) (by decide) (fun c9 => ?_) (fun c9 => ?_)
      · replace hf := iteT hf c9
        refine a_aload_n dX8_town_81 rfl 4 rfl ?_
        obtain ⟨o16_, eo16_, hf⟩ := bnd hf
        refine a_getR dX8_town_82 flX8_22 rfl eo16_ ?_
        obtain ⟨M17_, eM17_, hf⟩ := bnd hf
        refine a_callV (As := []) (rest := []) dX8_town_85 mfX5_knowNothing cvX8_214 (wX5_knowNothing eM17_) rc5 (kX5_knowNothing eM17_) (by decide) rfl rfl (Nat.le_of_ble_eq_true rfl) ?_
        refine a_aload_n dX8_town_88 rfl 4 rfl ?_
        obtain ⟨o18_, eo18_, hf⟩ := bnd hf
        refine a_getR dX8_town_89 flX8_18 rfl eo18_ ?_
        refine a_aload_n dX8_town_92 rfl 4 rfl ?_
        obtain ⟨o19_, eo19_, hf⟩ := bnd hf
        refine a_getR dX8_town_93 flX8_22 rfl eo19_ ?_
        obtain ⟨M20_, eM20_, hf⟩ := bnd hf
        refine a_callV (As := [.ref o19_]) (rest := []) dX8_town_96 mfX5_becomeLike cvX8_198 (wX5_becomeLike eM20_) rc5 (kX5_becomeLike eM20_) (by decide) rfl rfl (Nat.le_of_ble_eq_true rfl) ?_
        refine a_aload dX8_town_99 1 rfl ?_
        obtain ⟨v21_, ev21_, hf⟩ := bnd hf
        refine a_getI dX8_town_101 flX8_217 rfl ev21_ ?_
        refine a_if_eq dX8_town_104 (tgt := 112) (by decide) (fun c9 => ?_) (fun c9 => ?_)
        · replace hf := iteT hf c9
          refine a_iload dX8_town_112 0 rfl ?_
          have e9 := Option.some.inj hf
          subst e9
          exact a_iret rfl dX8_town_114 rfl
        · replace hf := iteF hf c9
          refine a_aload_n dX8_town_107 rfl 4 rfl ?_
          refine a_iconst (v := 0) dX8_town_108 (by decide) ?_
          obtain ⟨M22_, eM22_, hf⟩ := bnd hf
          refine a_callV (As := [.int ((0 : Int32))]) (rest := []) dX8_town_109 mfX8_dropSignsFrom cvX8_127 (wX8_dropSignsFrom eM22_) rc8 (kX8_dropSignsFrom eM22_) (by decide) rfl rfl (Nat.le_of_ble_eq_true rfl) ?_
          refine a_iload dX8_town_112 0 rfl ?_
          have e9 := Option.some.inj hf
          subst e9
          exact a_iret rfl dX8_town_114 rfl
      · replace hf := iteF hf c9
        refine a_aload_n dX8_town_74 rfl 4 rfl ?_
        refine a_bipush (v := -6) dX8_town_75 (by decide) ?_
        obtain ⟨q23_, eq23_, hf⟩ := bnd hf
        refine a_callV (As := [.int ((-6 : Int32))]) (rest := []) dX8_town_77 mfX8_refused cvX8_63 (wX8_refused eq23_) rc8 (kX8_refused eq23_) (by decide) rfl rfl (Nat.le_of_ble_eq_true rfl) ?_
        have e9 := Option.some.inj hf
        subst e9
        exact a_iret rfl dX8_town_80 rfl
    · replace hf := iteF hf c9
      refine a_aload_n dX8_town_19 rfl 2 rfl ?_
      refine a_iload_n dX8_town_20 rfl 0 rfl ?_
      obtain ⟨q24_, eq24_, hf⟩ := bnd hf
      refine a_callV (As := [.int q3_.1]) (rest := []) dX8_town_21 mfX8_refused cvX8_63 (wX8_refused eq24_) rc8 (kX8_refused eq24_) (by decide) rfl rfl (Nat.le_of_ble_eq_true rfl) ?_
      have e9 := Option.some.inj hf
      subst e9
      exact a_iret rfl dX8_town_24 rfl
theorem kX8_fault {a0 : Nat} {M : Mm} {q : Int32 × Mm} (hf : fX8_fault a0 M = some q) : (mK M a0).1 = 9 := by
  unfold fX8_fault at hf
  obtain ⟨u0, eu0, -⟩ := bnd hf
  exact kc_of eu0
set_option maxHeartbeats 4000000 in
set_option maxRecDepth 100000 in
theorem wX8_fault {l : Launch} {Γ : Gx} {a0 : Nat} {M : Mm} {q : Int32 × Mm} (hf : fX8_fault a0 M = some q) : AM l Γ 1 yX8_fault cX8_fault 1 ((some .int)) [.ref a0] M (some (.int q.1)) q.2 := by
  unfold fX8_fault at hf
  refine AM.of mfX8_fault (Nat.le_of_ble_eq_true rfl) ?_
  generalize mT M = t0
  generalize mW M = w0
  show AW _ _ _ _ _ _ _ _ _ 0 [(0, .ref a0)] [] _ _ _
  obtain ⟨u0, eu0, hf⟩ := bnd hf
  refine a_aload_n dX8_fault_0 rfl 0 rfl ?_
  obtain ⟨v1_, ev1_, hf⟩ := bnd hf
  refine a_getI dX8_fault_1 flX8_36 rfl ev1_ ?_
  have e9 := Option.some.inj hf
  subst e9
  exact a_iret rfl dX8_fault_4 rfl
theorem kX8_lost {a0 : Nat} {x1 : Int32} {M : Mm} {q : Int32 × Mm} (hf : fX8_lost a0 x1 M = some q) : (mK M a0).1 = 9 := by
  unfold fX8_lost at hf
  obtain ⟨u0, eu0, -⟩ := bnd hf
  exact kc_of eu0
set_option maxHeartbeats 4000000 in
set_option maxRecDepth 100000 in
theorem wX8_lost_b22 {l : Launch} {Γ : Gx} {t0 w0 : Nat} {q : Int32 × Mm} (a0 : Nat) (x1 : Int32) (M : Mm) (hf : fX8_lost_b22 a0 x1 M = some q) : AW l Γ yX8_lost cX8_lost 3 ((some .int)) 3 t0 w0 22 [(0, .ref a0), (1, .int x1)] [] M (some (.int q.1)) q.2 := by
  unfold fX8_lost_b22 at hf
  refine a_aload_n dX8_lost_22 rfl 0 rfl ?_
  obtain ⟨o1_, eo1_, hf⟩ := bnd hf
  refine a_getR dX8_lost_23 flX8_18 rfl eo1_ ?_
  obtain ⟨v2_, ev2_, hf⟩ := bnd hf
  refine a_getI dX8_lost_26 flX8_220 rfl ev2_ ?_
  refine a_istore_n (i := 2) (lv1 := [(2, .int v2_), (0, .ref a0), (1, .int x1)]) dX8_lost_29 rfl (by decide) rfl ?_
  refine a_iload_n dX8_lost_30 rfl 2 rfl ?_
  refine a_iconst (v := -1) dX8_lost_31 (by decide) ?_
  refine a_icmp_ne dX8_lost_32 (tgt := 45) (by decide) (fun c9 => ?_) (fun c9 => ?_)
  · replace hf := iteF hf c9
    refine a_aload_n dX8_lost_45 rfl 1 rfl ?_
    obtain ⟨o3_, eo3_, hf⟩ := bnd hf
    refine a_getR dX8_lost_46 flX8_18 rfl eo3_ ?_
    refine a_iload_n dX8_lost_49 rfl 2 rfl ?_
    obtain ⟨M4_, eM4_, hf⟩ := bnd hf
    refine a_callV (As := [.int x1]) (rest := []) dX8_lost_50 mfX5_knowCell cvX8_223 (wX5_knowCell eM4_) rc5 (kX5_knowCell eM4_) (by decide) rfl rfl (Nat.le_of_ble_eq_true rfl) ?_
    refine a_iload_n dX8_lost_53 rfl 0 rfl ?_
    have e9 := Option.some.inj hf
    subst e9
    exact a_iret rfl dX8_lost_54 rfl
  · replace hf := iteT hf c9
    refine a_aload_n dX8_lost_35 rfl 1 rfl ?_
    obtain ⟨o5_, eo5_, hf⟩ := bnd hf
    refine a_getR dX8_lost_36 flX8_18 rfl eo5_ ?_
    obtain ⟨M6_, eM6_, hf⟩ := bnd hf
    refine a_callV (As := []) (rest := []) dX8_lost_39 mfX5_knowNothing cvX8_214 (wX5_knowNothing eM6_) rc5 (kX5_knowNothing eM6_) (by decide) rfl rfl (Nat.le_of_ble_eq_true rfl) ?_
    refine a_goto (tgt := 53) dX8_lost_42 (by decide) ?_
    refine a_iload_n dX8_lost_53 rfl 0 rfl ?_
    have e9 := Option.some.inj hf
    subst e9
    exact a_iret rfl dX8_lost_54 rfl
set_option maxHeartbeats 4000000 in
set_option maxRecDepth 100000 in
theorem wX8_lost {l : Launch} {Γ : Gx} {a0 : Nat} {x1 : Int32} {M : Mm} {q : Int32 × Mm} (hf : fX8_lost a0 x1 M = some q) : AM l Γ 3 yX8_lost cX8_lost 3 ((some .int)) [.ref a0, .int x1] M (some (.int q.1)) q.2 := by
  unfold fX8_lost at hf
  refine AM.of mfX8_lost (Nat.le_of_ble_eq_true rfl) ?_
  generalize mT M = t0
  generalize mW M = w0
  show AW _ _ _ _ _ _ _ _ _ 0 [(0, .ref a0), (1, .int x1)] [] _ _ _
  obtain ⟨u0, eu0, hf⟩ := bnd hf
  refine a_iload_n dX8_lost_0 rfl 1 rfl ?_
  refine a_iconst (v := -1) dX8_lost_1 (by decide) ?_
  refine a_icmp_eq dX8_lost_2 (tgt := 22) (by decide) (fun c9 => ?_) (fun c9 => ?_)
  · replace hf := iteT hf c9
    exact wX8_lost_b22 _ _ _ hf
  · replace hf := iteF hf c9
    refine a_aload_n dX8_lost_5 rfl 0 rfl ?_
    obtain ⟨o1_, eo1_, hf⟩ := bnd hf
    refine a_getR dX8_lost_6 flX8_18 rfl eo1_ ?_
    refine a_iload_n dX8_lost_9 rfl 1 rfl ?_
    obtain ⟨q2_, eq2_, hf⟩ := bnd hf
    refine a_callV (As := [.int x1]) (rest := []) dX8_lost_10 mfX5_hasCell cvX8_130 (wX5_hasCell eq2_) rc5 (kX5_hasCell eq2_) (by decide) rfl rfl (Nat.le_of_ble_eq_true rfl) ?_
    refine a_if_ne dX8_lost_13 (tgt := 22) (by decide) (fun c9 => ?_) (fun c9 => ?_)
    · replace hf := iteF hf c9
      exact wX8_lost_b22 _ _ _ hf
    · replace hf := iteT hf c9
      refine a_aload_n dX8_lost_16 rfl 0 rfl ?_
      refine a_iconst (v := -1) dX8_lost_17 (by decide) ?_
      obtain ⟨q3_, eq3_, hf⟩ := bnd hf
      refine a_callV (As := [.int ((-1 : Int32))]) (rest := []) dX8_lost_18 mfX8_refused cvX8_63 (wX8_refused eq3_) rc8 (kX8_refused eq3_) (by decide) rfl rfl (Nat.le_of_ble_eq_true rfl) ?_
      have e9 := Option.some.inj hf
      subst e9
      exact a_iret rfl dX8_lost_21 rfl
theorem kX8_odds {a0 : Nat} {x1 : Int32} {M : Mm} {q : Int64 × Mm} (hf : fX8_odds a0 x1 M = some q) : (mK M a0).1 = 9 := by
  unfold fX8_odds at hf
  obtain ⟨u0, eu0, -⟩ := bnd hf
  exact kc_of eu0
set_option maxHeartbeats 4000000 in
set_option maxRecDepth 100000 in
theorem wX8_odds {l : Launch} {Γ : Gx} {a0 : Nat} {x1 : Int32} {M : Mm} {q : Int64 × Mm} (hf : fX8_odds a0 x1 M = some q) : AM l Γ 2 yX8_odds cX8_odds 2 ((some .long)) [.ref a0, .int x1] M (some (.long q.1)) q.2 := by
  unfold fX8_odds at hf
  refine AM.of mfX8_odds (Nat.le_of_ble_eq_true rfl) ?_
  generalize mT M = t0
  generalize mW M = w0
  show AW _ _ _ _ _ _ _ _ _ 0 [(0, .ref a0), (1, .int x1)] [] _ _ _
  obtain ⟨u0, eu0, hf⟩ := bnd hf
  refine a_iload_n dX8_odds_0 rfl 1 rfl ?_
  refine a_iconst (v := -1) dX8_odds_1 (by decide) ?_
  refine a_icmp_ne dX8_odds_2 (tgt := 16) (by decide) (fun c9 => ?_) (fun c9 => ?_)
  · replace hf := iteF hf c9
    refine a_aload_n dX8_odds_16 rfl 0 rfl ?_
    obtain ⟨o1_, eo1_, hf⟩ := bnd hf
    refine a_getR dX8_odds_17 flX8_18 rfl eo1_ ?_
    refine a_iload_n dX8_odds_20 rfl 1 rfl ?_
    obtain ⟨q2_, eq2_, hf⟩ := bnd hf
    refine a_callV (As := [.int x1]) (rest := []) dX8_odds_21 mfX5_hasCell cvX8_130 (wX5_hasCell eq2_) rc5 (kX5_hasCell eq2_) (by decide) rfl rfl (Nat.le_of_ble_eq_true rfl) ?_
    refine a_if_eq dX8_odds_24 (tgt := 41) (by decide) (fun c9 => ?_) (fun c9 => ?_)
    · replace hf := iteT hf c9
      refine a_aload_n dX8_odds_41 rfl 0 rfl ?_
      refine a_iconst (v := -1) dX8_odds_42 (by decide) ?_
      obtain ⟨q3_, eq3_, hf⟩ := bnd hf
      refine a_callV (As := [.int ((-1 : Int32))]) (rest := []) dX8_odds_43 mfX8_refused cvX8_63 (wX8_refused eq3_) rc8 (kX8_refused eq3_) (by decide) rfl rfl (Nat.le_of_ble_eq_true rfl) ?_
      refine a_i2l dX8_odds_46 ?_
      have e9 := Option.some.inj hf
      subst e9
      exact a_lret rfl dX8_odds_47 rfl
    · replace hf := iteF hf c9
      refine a_aload_n dX8_odds_27 rfl 0 rfl ?_
      obtain ⟨o4_, eo4_, hf⟩ := bnd hf
      refine a_getR dX8_odds_28 flX8_18 rfl eo4_ ?_
      obtain ⟨o5_, eo5_, hf⟩ := bnd hf
      refine a_getR dX8_odds_31 flX8_226 rfl eo5_ ?_
      refine a_iload_n dX8_odds_34 rfl 1 rfl ?_
      obtain ⟨q6_, eq6_, hf⟩ := bnd hf
      refine a_callV (As := [.int x1]) (rest := []) dX8_odds_35 mfX0_at cvX8_236 (wX0_at eq6_) rc0 (kX0_at eq6_) (by decide) rfl rfl (Nat.le_of_ble_eq_true rfl) ?_
      refine a_goto (tgt := 47) dX8_odds_38 (by decide) ?_
      have e9 := Option.some.inj hf
      subst e9
      exact a_lret rfl dX8_odds_47 rfl
  · replace hf := iteT hf c9
    refine a_aload_n dX8_odds_5 rfl 0 rfl ?_
    obtain ⟨o7_, eo7_, hf⟩ := bnd hf
    refine a_getR dX8_odds_6 flX8_18 rfl eo7_ ?_
    obtain ⟨o8_, eo8_, hf⟩ := bnd hf
    refine a_getR dX8_odds_9 flX8_226 rfl eo8_ ?_
    obtain ⟨q9_, eq9_, hf⟩ := bnd hf
    refine a_callV (As := []) (rest := []) dX8_odds_12 mfX0_all cvX8_230 (wX0_all eq9_) rc0 (kX0_all eq9_) (by decide) rfl rfl (Nat.le_of_ble_eq_true rfl) ?_
    have e9 := Option.some.inj hf
    subst e9
    exact a_lret rfl dX8_odds_15 rfl
theorem kX8_strength {a0 : Nat} {x1 : Int32} {x2 : Int32} {M : Mm} {q : Int32 × Mm} (hf : fX8_strength a0 x1 x2 M = some q) : (mK M a0).1 = 9 := by
  unfold fX8_strength at hf
  obtain ⟨u0, eu0, -⟩ := bnd hf
  exact kc_of eu0
set_option maxHeartbeats 4000000 in
set_option maxRecDepth 100000 in
theorem wX8_strength {l : Launch} {Γ : Gx} {a0 : Nat} {x1 : Int32} {x2 : Int32} {M : Mm} {q : Int32 × Mm} (hf : fX8_strength a0 x1 x2 M = some q) : AM l Γ 3 yX8_strength cX8_strength 4 ((some .int)) [.ref a0, .int x1, .int x2] M (some (.int q.1)) q.2 := by
  unfold fX8_strength at hf
  refine AM.of mfX8_strength (Nat.le_of_ble_eq_true rfl) ?_
  generalize mT M = t0
  generalize mW M = w0
  show AW _ _ _ _ _ _ _ _ _ 0 [(0, .ref a0), (1, .int x1), (2, .int x2)] [] _ _ _
  obtain ⟨u0, eu0, hf⟩ := bnd hf
  refine a_aload_n dX8_strength_0 rfl 0 rfl ?_
  obtain ⟨o1_, eo1_, hf⟩ := bnd hf
  refine a_getR dX8_strength_1 flX8_18 rfl eo1_ ?_
  refine a_iload_n dX8_strength_4 rfl 1 rfl ?_
  obtain ⟨q2_, eq2_, hf⟩ := bnd hf
  refine a_callV (As := [.int x1]) (rest := []) dX8_strength_5 mfX5_signAt cvX8_100 (wX5_signAt eq2_) rc5 (kX5_signAt eq2_) (by decide) rfl rfl (Nat.le_of_ble_eq_true rfl) ?_
  obtain ⟨n3_, en3_, hf⟩ := bnd hf
  refine a_topN en3_ ?_
  refine a_astore_nq (x := n3_) (i := 3) (lv1 := [(3, rv n3_), (0, .ref a0), (1, .int x1), (2, .int x2)]) dX8_strength_8 rfl (by decide) rfl ?_
  refine a_aload_nq (x := n3_) dX8_strength_9 rfl 0 rfl ?_
  cases n3_ with
  | none =>
    replace hf := el0 hf
    refine a_ifnull0 (tgt := 24) dX8_strength_10 (by decide) ?_
    refine a_aload_n dX8_strength_24 rfl 1 rfl ?_
    refine a_iconst (v := -1) dX8_strength_25 (by decide) ?_
    obtain ⟨q5_, eq5_, hf⟩ := bnd hf
    refine a_callV (As := [.int ((-1 : Int32))]) (rest := []) dX8_strength_26 mfX8_refused cvX8_63 (wX8_refused eq5_) rc8 (kX8_refused eq5_) (by decide) rfl rfl (Nat.le_of_ble_eq_true rfl) ?_
    have e9 := Option.some.inj hf
    subst e9
    exact a_iret rfl dX8_strength_29 rfl
  | some o4_ =>
    replace hf := el1 hf
    refine a_ifnull1 dX8_strength_10 ?_
    refine a_aload_n dX8_strength_13 rfl 1 rfl ?_
    obtain ⟨o6_, eo6_, hf⟩ := bnd hf
    refine a_getR dX8_strength_14 flX8_18 rfl eo6_ ?_
    refine a_iload_n dX8_strength_17 rfl 3 rfl ?_
    obtain ⟨q7_, eq7_, hf⟩ := bnd hf
    refine a_callV (As := [.int x2]) (rest := []) dX8_strength_18 mfX5_hasCell cvX8_130 (wX5_hasCell eq7_) rc5 (kX5_hasCell eq7_) (by decide) rfl rfl (Nat.le_of_ble_eq_true rfl) ?_
    refine a_if_ne dX8_strength_21 (tgt := 30) (by decide) (fun c9 => ?_) (fun c9 => ?_)
    · replace hf := iteF hf c9
      refine a_aload_n dX8_strength_30 rfl 1 rfl ?_
      obtain ⟨o8_, eo8_, hf⟩ := bnd hf
      refine a_getR dX8_strength_31 flX8_18 rfl eo8_ ?_
      refine a_aload_n dX8_strength_34 rfl 0 rfl ?_
      refine a_iload_n dX8_strength_35 rfl 3 rfl ?_
      obtain ⟨q9_, eq9_, hf⟩ := bnd hf
      refine a_callV (As := [.ref o4_, .int x2]) (rest := []) dX8_strength_36 mfX5_tenthsOf cvX8_239 (wX5_tenthsOf eq9_) rc5 (kX5_tenthsOf eq9_) (by decide) rfl rfl (Nat.le_of_ble_eq_true rfl) ?_
      have e9 := Option.some.inj hf
      subst e9
      exact a_iret rfl dX8_strength_39 rfl
    · replace hf := iteT hf c9
      refine a_aload_n dX8_strength_24 rfl 1 rfl ?_
      refine a_iconst (v := -1) dX8_strength_25 (by decide) ?_
      obtain ⟨q10_, eq10_, hf⟩ := bnd hf
      refine a_callV (As := [.int ((-1 : Int32))]) (rest := []) dX8_strength_26 mfX8_refused cvX8_63 (wX8_refused eq10_) rc8 (kX8_refused eq10_) (by decide) rfl rfl (Nat.le_of_ble_eq_true rfl) ?_
      have e9 := Option.some.inj hf
      subst e9
      exact a_iret rfl dX8_strength_29 rfl
theorem kX8_step {a0 : Nat} {x1 : Int32} {M : Mm} {q : Int32 × Mm} (hf : fX8_step a0 x1 M = some q) : (mK M a0).1 = 9 := by
  unfold fX8_step at hf
  obtain ⟨u0, eu0, -⟩ := bnd hf
  exact kc_of eu0
set_option maxHeartbeats 4000000 in
set_option maxRecDepth 100000 in
theorem wX8_step {l : Launch} {Γ : Gx} {a0 : Nat} {x1 : Int32} {M : Mm} {q : Int32 × Mm} (hf : fX8_step a0 x1 M = some q) : AM l Γ 4 yX8_step cX8_step 2 ((some .int)) [.ref a0, .int x1] M (some (.int q.1)) q.2 := by
  unfold fX8_step at hf
  refine AM.of mfX8_step (Nat.le_of_ble_eq_true rfl) ?_
  generalize mT M = t0
  generalize mW M = w0
  show AW _ _ _ _ _ _ _ _ _ 0 [(0, .ref a0), (1, .int x1)] [] _ _ _
  obtain ⟨u0, eu0, hf⟩ := bnd hf
  refine a_aload_n dX8_step_0 rfl 0 rfl ?_
  obtain ⟨o1_, eo1_, hf⟩ := bnd hf
  refine a_getR dX8_step_1 flX8_18 rfl eo1_ ?_
  obtain ⟨v2_, ev2_, hf⟩ := bnd hf
  refine a_getI dX8_step_4 flX8_220 rfl ev2_ ?_
  refine a_bipush (v := 16) dX8_step_7 (by decide) ?_
  refine a_icmp_lt dX8_step_9 (tgt := 19) (by decide) (fun c9 => ?_) (fun c9 => ?_)
  · replace hf := iteT hf c9
    refine a_aload_n dX8_step_19 rfl 0 rfl ?_
    obtain ⟨o3_, eo3_, hf⟩ := bnd hf
    refine a_getR dX8_step_20 flX8_18 rfl eo3_ ?_
    refine a_iload_n dX8_step_23 rfl 1 rfl ?_
    obtain ⟨M4_, eM4_, hf⟩ := bnd hf
    refine a_callV (As := [.int x1]) (rest := []) dX8_step_24 mfX5_hearStep cvX8_242 (wX5_hearStep eM4_) rc5 (kX5_hearStep eM4_) (by decide) rfl rfl (Nat.le_of_ble_eq_true rfl) ?_
    refine a_aload_n dX8_step_27 rfl 0 rfl ?_
    obtain ⟨o5_, eo5_, hf⟩ := bnd hf
    refine a_getR dX8_step_28 flX8_18 rfl eo5_ ?_
    obtain ⟨v6_, ev6_, hf⟩ := bnd hf
    refine a_getI dX8_step_31 flX8_220 rfl ev6_ ?_
    have e9 := Option.some.inj hf
    subst e9
    exact a_iret rfl dX8_step_34 rfl
  · replace hf := iteF hf c9
    refine a_aload_n dX8_step_12 rfl 0 rfl ?_
    refine a_bipush (v := -7) dX8_step_13 (by decide) ?_
    obtain ⟨q7_, eq7_, hf⟩ := bnd hf
    refine a_callV (As := [.int ((-7 : Int32))]) (rest := []) dX8_step_15 mfX8_refused cvX8_63 (wX8_refused eq7_) rc8 (kX8_refused eq7_) (by decide) rfl rfl (Nat.le_of_ble_eq_true rfl) ?_
    have e9 := Option.some.inj hf
    subst e9
    exact a_iret rfl dX8_step_18 rfl
theorem kX8_feel {a0 : Nat} {x1 : Int32} {x2 : Int32} {M : Mm} {q : Int32 × Mm} (hf : fX8_feel a0 x1 x2 M = some q) : (mK M a0).1 = 9 := by
  unfold fX8_feel at hf
  obtain ⟨u0, eu0, -⟩ := bnd hf
  exact kc_of eu0
set_option maxHeartbeats 4000000 in
set_option maxRecDepth 100000 in
theorem wX8_feel {l : Launch} {Γ : Gx} {a0 : Nat} {x1 : Int32} {x2 : Int32} {M : Mm} {q : Int32 × Mm} (hf : fX8_feel a0 x1 x2 M = some q) : AM l Γ 5 yX8_feel cX8_feel 4 ((some .int)) [.ref a0, .int x1, .int x2] M (some (.int q.1)) q.2 := by
  unfold fX8_feel at hf
  refine AM.of mfX8_feel (Nat.le_of_ble_eq_true rfl) ?_
  generalize mT M = t0
  generalize mW M = w0
  show AW _ _ _ _ _ _ _ _ _ 0 [(0, .ref a0), (1, .int x1), (2, .int x2)] [] _ _ _
  obtain ⟨u0, eu0, hf⟩ := bnd hf
  refine a_aload_n dX8_feel_0 rfl 0 rfl ?_
  obtain ⟨o1_, eo1_, hf⟩ := bnd hf
  refine a_getR dX8_feel_1 flX8_18 rfl eo1_ ?_
  refine a_iload_n dX8_feel_4 rfl 1 rfl ?_
  obtain ⟨q2_, eq2_, hf⟩ := bnd hf
  refine a_callV (As := [.int x1]) (rest := []) dX8_feel_5 mfX5_signAt cvX8_100 (wX5_signAt eq2_) rc5 (kX5_signAt eq2_) (by decide) rfl rfl (Nat.le_of_ble_eq_true rfl) ?_
  obtain ⟨n3_, en3_, hf⟩ := bnd hf
  refine a_topN en3_ ?_
  refine a_astore_nq (x := n3_) (i := 3) (lv1 := [(3, rv n3_), (0, .ref a0), (1, .int x1), (2, .int x2)]) dX8_feel_8 rfl (by decide) rfl ?_
  refine a_aload_nq (x := n3_) dX8_feel_9 rfl 0 rfl ?_
  cases n3_ with
  | none =>
    replace hf := el0 hf
    refine a_ifnonnull0 dX8_feel_10 ?_
    refine a_aload_n dX8_feel_13 rfl 1 rfl ?_
    refine a_iconst (v := -1) dX8_feel_14 (by decide) ?_
    obtain ⟨q5_, eq5_, hf⟩ := bnd hf
    refine a_callV (As := [.int ((-1 : Int32))]) (rest := []) dX8_feel_15 mfX8_refused cvX8_63 (wX8_refused eq5_) rc8 (kX8_refused eq5_) (by decide) rfl rfl (Nat.le_of_ble_eq_true rfl) ?_
    have e9 := Option.some.inj hf
    subst e9
    exact a_iret rfl dX8_feel_18 rfl
  | some o4_ =>
    replace hf := el1 hf
    refine a_ifnonnull1 (tgt := 19) dX8_feel_10 (by decide) ?_
    refine a_aload_n dX8_feel_19 rfl 1 rfl ?_
    obtain ⟨o6_, eo6_, hf⟩ := bnd hf
    refine a_getR dX8_feel_20 flX8_18 rfl eo6_ ?_
    refine a_aload_n dX8_feel_23 rfl 0 rfl ?_
    refine a_iload_n dX8_feel_24 rfl 3 rfl ?_
    obtain ⟨q7_, eq7_, hf⟩ := bnd hf
    refine a_callV (As := [.ref o4_, .int x2]) (rest := []) dX8_feel_25 mfX5_canBe cvX8_246 (wX5_canBe eq7_) rc5 (kX5_canBe eq7_) (by decide) rfl rfl (Nat.le_of_ble_eq_true rfl) ?_
    refine a_if_ne dX8_feel_28 (tgt := 38) (by decide) (fun c9 => ?_) (fun c9 => ?_)
    · replace hf := iteF hf c9
      refine a_aload_n dX8_feel_38 rfl 1 rfl ?_
      obtain ⟨o8_, eo8_, hf⟩ := bnd hf
      refine a_getR dX8_feel_39 flX8_18 rfl eo8_ ?_
      obtain ⟨v9_, ev9_, hf⟩ := bnd hf
      refine a_getI dX8_feel_42 flX8_220 rfl ev9_ ?_
      refine a_bipush (v := 16) dX8_feel_45 (by decide) ?_
      refine a_icmp_lt dX8_feel_47 (tgt := 57) (by decide) (fun c9 => ?_) (fun c9 => ?_)
      · replace hf := iteT hf c9
        refine a_aload_n dX8_feel_57 rfl 1 rfl ?_
        obtain ⟨o10_, eo10_, hf⟩ := bnd hf
        refine a_getR dX8_feel_58 flX8_18 rfl eo10_ ?_
        refine a_aload_n dX8_feel_61 rfl 0 rfl ?_
        refine a_iload_n dX8_feel_62 rfl 3 rfl ?_
        obtain ⟨M11_, eM11_, hf⟩ := bnd hf
        refine a_callV (As := [.ref o4_, .int x2]) (rest := []) dX8_feel_63 mfX5_hearSign cvX8_250 (wX5_hearSign eM11_) rc5 (kX5_hearSign eM11_) (by decide) rfl rfl (Nat.le_of_ble_eq_true rfl) ?_
        refine a_aload_n dX8_feel_66 rfl 1 rfl ?_
        obtain ⟨o12_, eo12_, hf⟩ := bnd hf
        refine a_getR dX8_feel_67 flX8_18 rfl eo12_ ?_
        obtain ⟨v13_, ev13_, hf⟩ := bnd hf
        refine a_getI dX8_feel_70 flX8_220 rfl ev13_ ?_
        have e9 := Option.some.inj hf
        subst e9
        exact a_iret rfl dX8_feel_73 rfl
      · replace hf := iteF hf c9
        refine a_aload_n dX8_feel_50 rfl 1 rfl ?_
        refine a_bipush (v := -7) dX8_feel_51 (by decide) ?_
        obtain ⟨q14_, eq14_, hf⟩ := bnd hf
        refine a_callV (As := [.int ((-7 : Int32))]) (rest := []) dX8_feel_53 mfX8_refused cvX8_63 (wX8_refused eq14_) rc8 (kX8_refused eq14_) (by decide) rfl rfl (Nat.le_of_ble_eq_true rfl) ?_
        have e9 := Option.some.inj hf
        subst e9
        exact a_iret rfl dX8_feel_56 rfl
    · replace hf := iteT hf c9
      refine a_aload_n dX8_feel_31 rfl 1 rfl ?_
      refine a_bipush (v := -6) dX8_feel_32 (by decide) ?_
      obtain ⟨q15_, eq15_, hf⟩ := bnd hf
      refine a_callV (As := [.int ((-6 : Int32))]) (rest := []) dX8_feel_34 mfX8_refused cvX8_63 (wX8_refused eq15_) rc8 (kX8_refused eq15_) (by decide) rfl rfl (Nat.le_of_ble_eq_true rfl) ?_
      have e9 := Option.some.inj hf
      subst e9
      exact a_iret rfl dX8_feel_37 rfl
theorem kX8_where {a0 : Nat} {M : Mm} {q : Int32 × Mm} (hf : fX8_where a0 M = some q) : (mK M a0).1 = 9 := by
  unfold fX8_where at hf
  obtain ⟨u0, eu0, -⟩ := bnd hf
  exact kc_of eu0
set_option maxHeartbeats 4000000 in
set_option maxRecDepth 100000 in
theorem wX8_where {l : Launch} {Γ : Gx} {a0 : Nat} {M : Mm} {q : Int32 × Mm} (hf : fX8_where a0 M = some q) : AM l Γ 2 yX8_where cX8_where 1 ((some .int)) [.ref a0] M (some (.int q.1)) q.2 := by
  unfold fX8_where at hf
  refine AM.of mfX8_where (Nat.le_of_ble_eq_true rfl) ?_
  generalize mT M = t0
  generalize mW M = w0
  show AW _ _ _ _ _ _ _ _ _ 0 [(0, .ref a0)] [] _ _ _
  obtain ⟨u0, eu0, hf⟩ := bnd hf
  refine a_aload_n dX8_where_0 rfl 0 rfl ?_
  obtain ⟨o1_, eo1_, hf⟩ := bnd hf
  refine a_getR dX8_where_1 flX8_18 rfl eo1_ ?_
  obtain ⟨o2_, eo2_, hf⟩ := bnd hf
  refine a_getR dX8_where_4 flX8_226 rfl eo2_ ?_
  obtain ⟨q3_, eq3_, hf⟩ := bnd hf
  refine a_callV (As := []) (rest := []) dX8_where_7 mfX0_surest cvX8_254 (wX0_surest eq3_) rc0 (kX0_surest eq3_) (by decide) rfl rfl (Nat.le_of_ble_eq_true rfl) ?_
  have e9 := Option.some.inj hf
  subst e9
  exact a_iret rfl dX8_where_10 rfl
theorem kX8_isLost {a0 : Nat} {M : Mm} {q : Int32 × Mm} (hf : fX8_isLost a0 M = some q) : (mK M a0).1 = 9 := by
  unfold fX8_isLost at hf
  obtain ⟨u0, eu0, -⟩ := bnd hf
  exact kc_of eu0
set_option maxHeartbeats 4000000 in
set_option maxRecDepth 100000 in
theorem wX8_isLost {l : Launch} {Γ : Gx} {a0 : Nat} {M : Mm} {q : Int32 × Mm} (hf : fX8_isLost a0 M = some q) : AM l Γ 2 yX8_isLost cX8_isLost 2 ((some .int)) [.ref a0] M (some (.int q.1)) q.2 := by
  unfold fX8_isLost at hf
  refine AM.of mfX8_isLost (Nat.le_of_ble_eq_true rfl) ?_
  generalize mT M = t0
  generalize mW M = w0
  show AW _ _ _ _ _ _ _ _ _ 0 [(0, .ref a0)] [] _ _ _
  obtain ⟨u0, eu0, hf⟩ := bnd hf
  refine a_aload_n dX8_isLost_0 rfl 0 rfl ?_
  obtain ⟨o1_, eo1_, hf⟩ := bnd hf
  refine a_getR dX8_isLost_1 flX8_18 rfl eo1_ ?_
  obtain ⟨o2_, eo2_, hf⟩ := bnd hf
  refine a_getR dX8_isLost_4 flX8_226 rfl eo2_ ?_
  refine a_astore_n (i := 1) (lv1 := [(1, .ref o2_), (0, .ref a0)]) dX8_isLost_7 rfl (by decide) rfl ?_
  refine a_ldc2 (v := 2) dX8_isLost_8 wcX8_257 ?_
  refine a_aload_n dX8_isLost_11 rfl 0 rfl ?_
  refine a_aload_n dX8_isLost_12 rfl 0 rfl ?_
  obtain ⟨q3_, eq3_, hf⟩ := bnd hf
  refine a_callV (As := []) (rest := [.ref o2_, .long ((2 : Int64))]) dX8_isLost_13 mfX0_surest cvX8_254 (wX0_surest eq3_) rc0 (kX0_surest eq3_) (by decide) rfl rfl (Nat.le_of_ble_eq_true rfl) ?_
  obtain ⟨q4_, eq4_, hf⟩ := bnd hf
  refine a_callV (As := [.int q3_.1]) (rest := [.long ((2 : Int64))]) dX8_isLost_16 mfX0_at cvX8_236 (wX0_at eq4_) rc0 (kX0_at eq4_) (by decide) rfl rfl (Nat.le_of_ble_eq_true rfl) ?_
  refine a_lmul dX8_isLost_19 ?_
  refine a_aload_n dX8_isLost_20 rfl 0 rfl ?_
  obtain ⟨q5_, eq5_, hf⟩ := bnd hf
  refine a_callV (As := []) (rest := [.long (((2 : Int64)) * q4_.1)]) dX8_isLost_21 mfX0_all cvX8_230 (wX0_all eq5_) rc0 (kX0_all eq5_) (by decide) rfl rfl (Nat.le_of_ble_eq_true rfl) ?_
  refine a_lcmp_ge dX8_isLost_24 dX8_isLost_25 (tgt := 32) (by decide) (fun c9 => ?_) (fun c9 => ?_)
  · replace hf := iteT hf c9
    refine a_iconst (v := 0) dX8_isLost_32 (by decide) ?_
    have e9 := Option.some.inj hf
    subst e9
    exact a_iret rfl dX8_isLost_33 rfl
  · replace hf := iteF hf c9
    refine a_iconst (v := 1) dX8_isLost_28 (by decide) ?_
    refine a_goto (tgt := 33) dX8_isLost_29 (by decide) ?_
    have e9 := Option.some.inj hf
    subst e9
    exact a_iret rfl dX8_isLost_33 rfl
set_option maxHeartbeats 4000000 in
set_option maxRecDepth 100000 in
theorem wX8_newsTrouble {l : Launch} {Γ : Gx} {a0 : Option Nat} {x1 : Int32} {M : Mm} {q : Int32 × Mm} (hf : fX8_newsTrouble a0 x1 M = some q) : AM l Γ 3 yX8_newsTrouble cX8_newsTrouble 3 ((some .int)) [rv a0, .int x1] M (some (.int q.1)) q.2 := by
  unfold fX8_newsTrouble at hf
  refine AM.of mfX8_newsTrouble (by simp [lg_sl, rv_cat, vc_int, vc_ref, vc_long]) ?_
  generalize mT M = t0
  generalize mW M = w0
  rw [show lv_args 0 [rv a0, .int x1] = [(0, rv a0), (1, .int x1)] by simp [lv_args, rv_cat, vc_int, vc_ref, vc_long]]
  refine a_aload_nq (x := a0) dX8_newsTrouble_0 rfl 0 rfl ?_
  obtain ⟨q1_, eq1_, hf⟩ := bnd hf
  refine a_callS (As := [rv a0]) (rest := []) dX8_newsTrouble_1 mfX8_rowTrouble csX8_71 (wX8_rowTrouble eq1_) (by decide) rfl rfl (Nat.le_of_ble_eq_true rfl) ?_
  refine a_istore_n (i := 2) (lv1 := [(2, .int q1_.1), (0, rv a0), (1, .int x1)]) dX8_newsTrouble_4 rfl (by decide) rfl ?_
  refine a_aload_nq (x := a0) dX8_newsTrouble_5 rfl 1 rfl ?_
  cases a0 with
  | none =>
    replace hf := el0 hf
    refine a_ifnull0 (tgt := 13) dX8_newsTrouble_6 (by decide) ?_
    refine a_iload_n dX8_newsTrouble_13 rfl 0 rfl ?_
    have e9 := Option.some.inj hf
    subst e9
    exact a_iret rfl dX8_newsTrouble_14 rfl
  | some o2_ =>
    replace hf := el1 hf
    refine a_ifnull1 dX8_newsTrouble_6 ?_
    refine a_iload_n dX8_newsTrouble_9 rfl 0 rfl ?_
    refine a_if_eq dX8_newsTrouble_10 (tgt := 15) (by decide) (fun c9 => ?_) (fun c9 => ?_)
    · replace hf := iteT hf c9
      refine a_iload_n dX8_newsTrouble_15 rfl 2 rfl ?_
      refine a_if_ge dX8_newsTrouble_16 (tgt := 22) (by decide) (fun c9 => ?_) (fun c9 => ?_)
      · replace hf := iteT hf c9
        refine a_aload_n dX8_newsTrouble_22 rfl 1 rfl ?_
        refine a_iconst (v := 0) dX8_newsTrouble_23 (by decide) ?_
        refine a_iload_n dX8_newsTrouble_24 rfl 2 rfl ?_
        obtain ⟨q3_, eq3_, hf⟩ := bnd hf
        refine a_callV (As := [.int ((0 : Int32)), .int x1]) (rest := []) dX8_newsTrouble_25 mfX3_hasRun cvX8_75 (wX3_hasRun eq3_) rc3 (kX3_hasRun eq3_) (by decide) rfl rfl (Nat.le_of_ble_eq_true rfl) ?_
        refine a_if_ne dX8_newsTrouble_28 (tgt := 34) (by decide) (fun c9 => ?_) (fun c9 => ?_)
        · replace hf := iteF hf c9
          refine a_iload_n dX8_newsTrouble_34 rfl 2 rfl ?_
          refine a_bipush (v := 16) dX8_newsTrouble_35 (by decide) ?_
          refine a_icmp_le dX8_newsTrouble_37 (tgt := 45) (by decide) (fun c9 => ?_) (fun c9 => ?_)
          · replace hf := iteT hf c9
            refine a_iconst (v := 0) dX8_newsTrouble_45 (by decide) ?_
            have e9 := Option.some.inj hf
            subst e9
            exact a_iret rfl dX8_newsTrouble_46 rfl
          · replace hf := iteF hf c9
            refine a_bipush (v := -6) dX8_newsTrouble_40 (by decide) ?_
            refine a_goto (tgt := 46) dX8_newsTrouble_42 (by decide) ?_
            have e9 := Option.some.inj hf
            subst e9
            exact a_iret rfl dX8_newsTrouble_46 rfl
        · replace hf := iteT hf c9
          refine a_bipush (v := -5) dX8_newsTrouble_31 (by decide) ?_
          have e9 := Option.some.inj hf
          subst e9
          exact a_iret rfl dX8_newsTrouble_33 rfl
      · replace hf := iteF hf c9
        refine a_bipush (v := -4) dX8_newsTrouble_19 (by decide) ?_
        have e9 := Option.some.inj hf
        subst e9
        exact a_iret rfl dX8_newsTrouble_21 rfl
    · replace hf := iteF hf c9
      refine a_iload_n dX8_newsTrouble_13 rfl 0 rfl ?_
      have e9 := Option.some.inj hf
      subst e9
      exact a_iret rfl dX8_newsTrouble_14 rfl
theorem kX8_tryNews {a0 : Nat} {a1 : Nat} {x2 : Int32} {M : Mm} {q : Int32 × Mm} (hf : fX8_tryNews a0 a1 x2 M = some q) : (mK M a0).1 = 9 := by
  unfold fX8_tryNews at hf
  obtain ⟨u0, eu0, -⟩ := bnd hf
  exact kc_of eu0
set_option maxHeartbeats 4000000 in
set_option maxRecDepth 100000 in
theorem wX8_tryNews_b13 {l : Launch} {Γ : Gx} {t0 w0 : Nat} {q : Int32 × Mm} : ∀ (n : Nat) (a0 : Nat) (a1 : Nat) (x2 : Int32) (x3 : Int32) (M : Mm), fX8_tryNews_b13 n a0 a1 x2 x3 M = some q → AW l Γ yX8_tryNews cX8_tryNews 4 ((some .int)) 6 t0 w0 13 [(0, .ref a0), (1, .ref a1), (2, .int x2), (3, .int x3)] [] M (some (.int q.1)) q.2 := by
  intro n
  induction n with
  | zero =>
    intro a0 a1 x2 x3 M hf
    cases hf
  | succ n ih =>
    intro a0 a1 x2 x3 M hf
    rw [fX8_tryNews_b13.eq_2] at hf
    refine a_iload_n dX8_tryNews_13 rfl 3 rfl ?_
    refine a_iload_n dX8_tryNews_14 rfl 2 rfl ?_
    refine a_icmp_ge dX8_tryNews_15 (tgt := 41) (by decide) (fun c9 => ?_) (fun c9 => ?_)
    · replace hf := iteT hf c9
      refine a_iconst (v := -1) dX8_tryNews_41 (by decide) ?_
      have e9 := Option.some.inj hf
      subst e9
      exact a_iret rfl dX8_tryNews_42 rfl
    · replace hf := iteF hf c9
      refine a_aload_n dX8_tryNews_18 rfl 0 rfl ?_
      obtain ⟨o1_, eo1_, hf⟩ := bnd hf
      refine a_getR dX8_tryNews_19 flX8_22 rfl eo1_ ?_
      refine a_aload_n dX8_tryNews_22 rfl 1 rfl ?_
      refine a_iload_n dX8_tryNews_23 rfl 3 rfl ?_
      obtain ⟨q2_, eq2_, hf⟩ := bnd hf
      refine a_callV (As := [.int x3]) (rest := [.ref o1_]) dX8_tryNews_24 mfX3_intAt cvX8_355 (wX3_intAt eq2_) rc3 (kX3_intAt eq2_) (by decide) rfl rfl (Nat.le_of_ble_eq_true rfl) ?_
      obtain ⟨q3_, eq3_, hf⟩ := bnd hf
      refine a_callV (As := [.int q2_.1]) (rest := []) dX8_tryNews_27 mfX5_hears cvX8_358 (wX5_hears eq3_) rc5 (kX5_hears eq3_) (by decide) rfl rfl (Nat.le_of_ble_eq_true rfl) ?_
      refine a_if_ne dX8_tryNews_30 (tgt := 35) (by decide) (fun c9 => ?_) (fun c9 => ?_)
      · replace hf := iteF hf c9
        refine a_iinc (v := x3 + (1 : Int32)) (lv1 := [(3, .int (x3 + (1 : Int32))), (0, .ref a0), (1, .ref a1), (2, .int x2)]) dX8_tryNews_35 3 rfl rfl (by decide) rfl ?_
        refine a_goto (tgt := 13) dX8_tryNews_38 (by decide) ?_
        refine AW.sub (lv1 := [(0, .ref a0), (1, .ref a1), (2, .int x2), (3, .int (x3 + (1 : Int32)))]) [1, 2, 3, 0] rfl ?_
        exact ih _ _ _ _ _ hf
      · replace hf := iteT hf c9
        refine a_iload_n dX8_tryNews_33 rfl 3 rfl ?_
        have e9 := Option.some.inj hf
        subst e9
        exact a_iret rfl dX8_tryNews_34 rfl
set_option maxHeartbeats 4000000 in
set_option maxRecDepth 100000 in
theorem wX8_tryNews {l : Launch} {Γ : Gx} {a0 : Nat} {a1 : Nat} {x2 : Int32} {M : Mm} {q : Int32 × Mm} (hf : fX8_tryNews a0 a1 x2 M = some q) : AM l Γ 6 yX8_tryNews cX8_tryNews 4 ((some .int)) [.ref a0, .ref a1, .int x2] M (some (.int q.1)) q.2 := by
  unfold fX8_tryNews at hf
  refine AM.of mfX8_tryNews (Nat.le_of_ble_eq_true rfl) ?_
  generalize mT M = t0
  generalize mW M = w0
  show AW _ _ _ _ _ _ _ _ _ 0 [(0, .ref a0), (1, .ref a1), (2, .int x2)] [] _ _ _
  obtain ⟨u0, eu0, hf⟩ := bnd hf
  refine a_aload_n dX8_tryNews_0 rfl 0 rfl ?_
  obtain ⟨o1_, eo1_, hf⟩ := bnd hf
  refine a_getR dX8_tryNews_1 flX8_22 rfl eo1_ ?_
  refine a_aload_n dX8_tryNews_4 rfl 0 rfl ?_
  obtain ⟨o2_, eo2_, hf⟩ := bnd hf
  refine a_getR dX8_tryNews_5 flX8_18 rfl eo2_ ?_
  obtain ⟨M3_, eM3_, hf⟩ := bnd hf
  refine a_callV (As := [.ref o2_]) (rest := []) dX8_tryNews_8 mfX5_becomeLike cvX8_198 (wX5_becomeLike eM3_) rc5 (kX5_becomeLike eM3_) (by decide) rfl rfl (Nat.le_of_ble_eq_true rfl) ?_
  refine a_iconst (v := 0) dX8_tryNews_11 (by decide) ?_
  refine a_istore_n (i := 3) (lv1 := [(3, .int ((0 : Int32))), (0, .ref a0), (1, .ref a1), (2, .int x2)]) dX8_tryNews_12 rfl (by decide) rfl ?_
  refine AW.sub (lv1 := [(0, .ref a0), (1, .ref a1), (2, .int x2), (3, .int ((0 : Int32)))]) [1, 2, 3, 0] rfl ?_
  exact wX8_tryNews_b13 _ _ _ _ _ _ hf
theorem kX8_judge {a0 : Nat} {x1 : Int32} {x2 : Int32} {M : Mm} {q : Int32 × Mm} (hf : fX8_judge a0 x1 x2 M = some q) : (mK M a0).1 = 9 := by
  unfold fX8_judge at hf
  obtain ⟨u0, eu0, -⟩ := bnd hf
  exact kc_of eu0
set_option maxHeartbeats 4000000 in
set_option maxRecDepth 100000 in
theorem wX8_judge {l : Launch} {Γ : Gx} {a0 : Nat} {x1 : Int32} {x2 : Int32} {M : Mm} {q : Int32 × Mm} (hf : fX8_judge a0 x1 x2 M = some q) : AM l Γ 7 yX8_judge cX8_judge 5 ((some .int)) [.ref a0, .int x1, .int x2] M (some (.int q.1)) q.2 := by
  unfold fX8_judge at hf
  refine AM.of mfX8_judge (Nat.le_of_ble_eq_true rfl) ?_
  generalize mT M = t0
  generalize mW M = w0
  show AW _ _ _ _ _ _ _ _ _ 0 [(0, .ref a0), (1, .int x1), (2, .int x2)] [] _ _ _
  obtain ⟨u0, eu0, hf⟩ := bnd hf
  refine a_aload_n dX8_judge_0 rfl 0 rfl ?_
  refine a_iload_n dX8_judge_1 rfl 1 rfl ?_
  obtain ⟨q1_, eq1_, hf⟩ := bnd hf
  refine a_callV (As := [.int x1]) (rest := []) dX8_judge_2 mfX8_shelfAt cvX8_59 (wX8_shelfAt eq1_) rc8 (kX8_shelfAt eq1_) (by decide) rfl rfl (Nat.le_of_ble_eq_true rfl) ?_
  obtain ⟨n2_, en2_, hf⟩ := bnd hf
  refine a_topN en2_ ?_
  refine a_astore_nq (x := n2_) (i := 3) (lv1 := [(3, rv n2_), (0, .ref a0), (1, .int x1), (2, .int x2)]) dX8_judge_5 rfl (by decide) rfl ?_
  refine a_aload_nq (x := n2_) dX8_judge_6 rfl 0 rfl ?_
  refine a_iload_n dX8_judge_7 rfl 3 rfl ?_
  obtain ⟨q3_, eq3_, hf⟩ := bnd hf
  refine a_callS (As := [rv n2_, .int x2]) (rest := []) dX8_judge_8 mfX8_newsTrouble csX8_259 (wX8_newsTrouble eq3_) (by decide) rfl rfl (Nat.le_of_ble_eq_true rfl) ?_
  refine a_istore (i := 4) (lv1 := [(4, .int q3_.1), (3, rv n2_), (0, .ref a0), (1, .int x1), (2, .int x2)]) dX8_judge_11 (by decide) (by simp [lvS, lvD, rv_cat, vc_int, vc_ref, vc_long, vc_null, rv_some]) ?_
  refine a_aload_nq (x := n2_) dX8_judge_13 rfl 1 rfl ?_
  cases n2_ with
  | none =>
    replace hf := el0 hf
    refine a_ifnull0 (tgt := 22) dX8_judge_14 (by decide) ?_
    refine a_aload_n dX8_judge_22 rfl 2 rfl ?_
    refine a_iload dX8_judge_23 0 rfl ?_
    obtain ⟨q5_, eq5_, hf⟩ := bnd hf
    refine a_callV (As := [.int q3_.1]) (rest := []) dX8_judge_25 mfX8_refused cvX8_63 (wX8_refused eq5_) rc8 (kX8_refused eq5_) (by decide) rfl rfl (Nat.le_of_ble_eq_true rfl) ?_
    have e9 := Option.some.inj hf
    subst e9
    exact a_iret rfl dX8_judge_28 rfl
  | some o4_ =>
    replace hf := el1 hf
    refine a_ifnull1 dX8_judge_14 ?_
    refine a_iload dX8_judge_17 0 rfl ?_
    refine a_if_eq dX8_judge_19 (tgt := 29) (by decide) (fun c9 => ?_) (fun c9 => ?_)
    · replace hf := iteT hf c9
      refine a_aload_n dX8_judge_29 rfl 2 rfl ?_
      refine a_aload_n dX8_judge_30 rfl 1 rfl ?_
      refine a_iload_n dX8_judge_31 rfl 4 rfl ?_
      obtain ⟨q6_, eq6_, hf⟩ := bnd hf
      refine a_callV (As := [.ref o4_, .int x2]) (rest := []) dX8_judge_32 mfX8_tryNews cvX8_263 (wX8_tryNews eq6_) rc8 (kX8_tryNews eq6_) (by decide) rfl rfl (Nat.le_of_ble_eq_true rfl) ?_
      have e9 := Option.some.inj hf
      subst e9
      exact a_iret rfl dX8_judge_35 rfl
    · replace hf := iteF hf c9
      refine a_aload_n dX8_judge_22 rfl 2 rfl ?_
      refine a_iload dX8_judge_23 0 rfl ?_
      obtain ⟨q7_, eq7_, hf⟩ := bnd hf
      refine a_callV (As := [.int q3_.1]) (rest := []) dX8_judge_25 mfX8_refused cvX8_63 (wX8_refused eq7_) rc8 (kX8_refused eq7_) (by decide) rfl rfl (Nat.le_of_ble_eq_true rfl) ?_
      have e9 := Option.some.inj hf
      subst e9
      exact a_iret rfl dX8_judge_28 rfl
theorem kX8_told {a0 : Nat} {x1 : Int32} {x2 : Int32} {M : Mm} {q : Int32 × Mm} (hf : fX8_told a0 x1 x2 M = some q) : (mK M a0).1 = 9 := by
  unfold fX8_told at hf
  obtain ⟨u0, eu0, -⟩ := bnd hf
  exact kc_of eu0
set_option maxHeartbeats 4000000 in
set_option maxRecDepth 100000 in
theorem wX8_told {l : Launch} {Γ : Gx} {a0 : Nat} {x1 : Int32} {x2 : Int32} {M : Mm} {q : Int32 × Mm} (hf : fX8_told a0 x1 x2 M = some q) : AM l Γ 7 yX8_told cX8_told 5 ((some .int)) [.ref a0, .int x1, .int x2] M (some (.int q.1)) q.2 := by
  unfold fX8_told at hf
  refine AM.of mfX8_told (Nat.le_of_ble_eq_true rfl) ?_
  generalize mT M = t0
  generalize mW M = w0
  show AW _ _ _ _ _ _ _ _ _ 0 [(0, .ref a0), (1, .int x1), (2, .int x2)] [] _ _ _
  obtain ⟨u0, eu0, hf⟩ := bnd hf
  refine a_aload_n dX8_told_0 rfl 0 rfl ?_
  refine a_iload_n dX8_told_1 rfl 1 rfl ?_
  obtain ⟨q1_, eq1_, hf⟩ := bnd hf
  refine a_callV (As := [.int x1]) (rest := []) dX8_told_2 mfX8_shelfAt cvX8_59 (wX8_shelfAt eq1_) rc8 (kX8_shelfAt eq1_) (by decide) rfl rfl (Nat.le_of_ble_eq_true rfl) ?_
  obtain ⟨n2_, en2_, hf⟩ := bnd hf
  refine a_topN en2_ ?_
  refine a_astore_nq (x := n2_) (i := 3) (lv1 := [(3, rv n2_), (0, .ref a0), (1, .int x1), (2, .int x2)]) dX8_told_5 rfl (by decide) rfl ?_
  refine a_aload_nq (x := n2_) dX8_told_6 rfl 0 rfl ?_
  refine a_iload_n dX8_told_7 rfl 3 rfl ?_
  obtain ⟨q3_, eq3_, hf⟩ := bnd hf
  refine a_callS (As := [rv n2_, .int x2]) (rest := []) dX8_told_8 mfX8_newsTrouble csX8_259 (wX8_newsTrouble eq3_) (by decide) rfl rfl (Nat.le_of_ble_eq_true rfl) ?_
  refine a_istore (i := 4) (lv1 := [(4, .int q3_.1), (3, rv n2_), (0, .ref a0), (1, .int x1), (2, .int x2)]) dX8_told_11 (by decide) (by simp [lvS, lvD, rv_cat, vc_int, vc_ref, vc_long, vc_null, rv_some]) ?_
  refine a_aload_nq (x := n2_) dX8_told_13 rfl 1 rfl ?_
  cases n2_ with
  | none =>
    replace hf := el0 hf
    refine a_ifnull0 (tgt := 22) dX8_told_14 (by decide) ?_
    refine a_aload_n dX8_told_22 rfl 2 rfl ?_
    refine a_iload dX8_told_23 0 rfl ?_
    obtain ⟨q5_, eq5_, hf⟩ := bnd hf
    refine a_callV (As := [.int q3_.1]) (rest := []) dX8_told_25 mfX8_refused cvX8_63 (wX8_refused eq5_) rc8 (kX8_refused eq5_) (by decide) rfl rfl (Nat.le_of_ble_eq_true rfl) ?_
    have e9 := Option.some.inj hf
    subst e9
    exact a_iret rfl dX8_told_28 rfl
  | some o4_ =>
    replace hf := el1 hf
    refine a_ifnull1 dX8_told_14 ?_
    refine a_iload dX8_told_17 0 rfl ?_
    refine a_if_eq dX8_told_19 (tgt := 29) (by decide) (fun c9 => ?_) (fun c9 => ?_)
    · replace hf := iteT hf c9
      refine a_aload_n dX8_told_29 rfl 2 rfl ?_
      refine a_aload_n dX8_told_30 rfl 1 rfl ?_
      refine a_iload_n dX8_told_31 rfl 4 rfl ?_
      obtain ⟨q6_, eq6_, hf⟩ := bnd hf
      refine a_callV (As := [.ref o4_, .int x2]) (rest := []) dX8_told_32 mfX8_tryNews cvX8_263 (wX8_tryNews eq6_) rc8 (kX8_tryNews eq6_) (by decide) rfl rfl (Nat.le_of_ble_eq_true rfl) ?_
      refine a_iconst (v := -1) dX8_told_35 (by decide) ?_
      refine a_icmp_eq dX8_told_36 (tgt := 46) (by decide) (fun c9 => ?_) (fun c9 => ?_)
      · replace hf := iteT hf c9
        refine a_aload_n dX8_told_46 rfl 2 rfl ?_
        obtain ⟨o7_, eo7_, hf⟩ := bnd hf
        refine a_getR dX8_told_47 flX8_22 rfl eo7_ ?_
        obtain ⟨o8_, eo8_, hf⟩ := bnd hf
        refine a_getR dX8_told_50 flX8_226 rfl eo8_ ?_
        obtain ⟨q9_, eq9_, hf⟩ := bnd hf
        refine a_callV (As := []) (rest := []) dX8_told_53 mfX0_surest cvX8_254 (wX0_surest eq9_) rc0 (kX0_surest eq9_) (by decide) rfl rfl (Nat.le_of_ble_eq_true rfl) ?_
        have e9 := Option.some.inj hf
        subst e9
        exact a_iret rfl dX8_told_56 rfl
      · replace hf := iteF hf c9
        refine a_aload_n dX8_told_39 rfl 2 rfl ?_
        refine a_bipush (v := -6) dX8_told_40 (by decide) ?_
        obtain ⟨q10_, eq10_, hf⟩ := bnd hf
        refine a_callV (As := [.int ((-6 : Int32))]) (rest := []) dX8_told_42 mfX8_refused cvX8_63 (wX8_refused eq10_) rc8 (kX8_refused eq10_) (by decide) rfl rfl (Nat.le_of_ble_eq_true rfl) ?_
        have e9 := Option.some.inj hf
        subst e9
        exact a_iret rfl dX8_told_45 rfl
    · replace hf := iteF hf c9
      refine a_aload_n dX8_told_22 rfl 2 rfl ?_
      refine a_iload dX8_told_23 0 rfl ?_
      obtain ⟨q11_, eq11_, hf⟩ := bnd hf
      refine a_callV (As := [.int q3_.1]) (rest := []) dX8_told_25 mfX8_refused cvX8_63 (wX8_refused eq11_) rc8 (kX8_refused eq11_) (by decide) rfl rfl (Nat.le_of_ble_eq_true rfl) ?_
      have e9 := Option.some.inj hf
      subst e9
      exact a_iret rfl dX8_told_28 rfl
theorem kX8_worth {a0 : Nat} {x1 : Int32} {M : Mm} {q : Int64 × Mm} (hf : fX8_worth a0 x1 M = some q) : (mK M a0).1 = 9 := by
  unfold fX8_worth at hf
  obtain ⟨u0, eu0, -⟩ := bnd hf
  exact kc_of eu0
set_option maxHeartbeats 4000000 in
set_option maxRecDepth 100000 in
theorem wX8_worth {l : Launch} {Γ : Gx} {a0 : Nat} {x1 : Int32} {M : Mm} {q : Int64 × Mm} (hf : fX8_worth a0 x1 M = some q) : AM l Γ 44 yX8_worth cX8_worth 2 ((some .long)) [.ref a0, .int x1] M (some (.long q.1)) q.2 := by
  unfold fX8_worth at hf
  refine AM.of mfX8_worth (Nat.le_of_ble_eq_true rfl) ?_
  generalize mT M = t0
  generalize mW M = w0
  show AW _ _ _ _ _ _ _ _ _ 0 [(0, .ref a0), (1, .int x1)] [] _ _ _
  obtain ⟨u0, eu0, hf⟩ := bnd hf
  refine a_iload_n dX8_worth_0 rfl 1 rfl ?_
  refine a_if_lt dX8_worth_1 (tgt := 16) (by decide) (fun c9 => ?_) (fun c9 => ?_)
  · replace hf := iteT hf c9
    refine a_aload_n dX8_worth_16 rfl 0 rfl ?_
    refine a_iconst (v := -1) dX8_worth_17 (by decide) ?_
    obtain ⟨q1_, eq1_, hf⟩ := bnd hf
    refine a_callV (As := [.int ((-1 : Int32))]) (rest := []) dX8_worth_18 mfX8_refused cvX8_63 (wX8_refused eq1_) rc8 (kX8_refused eq1_) (by decide) rfl rfl (Nat.le_of_ble_eq_true rfl) ?_
    refine a_i2l dX8_worth_21 ?_
    have e9 := Option.some.inj hf
    subst e9
    exact a_lret rfl dX8_worth_22 rfl
  · replace hf := iteF hf c9
    refine a_iload_n dX8_worth_4 rfl 1 rfl ?_
    refine a_aload_n dX8_worth_5 rfl 0 rfl ?_
    obtain ⟨o2_, eo2_, hf⟩ := bnd hf
    refine a_getR dX8_worth_6 flX8_18 rfl eo2_ ?_
    obtain ⟨v3_, ev3_, hf⟩ := bnd hf
    refine a_getI dX8_worth_9 flX8_266 rfl ev3_ ?_
    refine a_ishr dX8_worth_12 ?_
    refine a_if_eq dX8_worth_13 (tgt := 23) (by decide) (fun c9 => ?_) (fun c9 => ?_)
    · replace hf := iteT hf c9
      refine a_aload_n dX8_worth_23 rfl 0 rfl ?_
      obtain ⟨o4_, eo4_, hf⟩ := bnd hf
      refine a_getR dX8_worth_24 flX8_18 rfl eo4_ ?_
      obtain ⟨v5_, ev5_, hf⟩ := bnd hf
      refine a_getI dX8_worth_27 flX8_220 rfl ev5_ ?_
      refine a_iload_n dX8_worth_30 rfl 1 rfl ?_
      obtain ⟨q6_, eq6_, hf⟩ := bnd hf
      refine a_callS (As := [.int x1]) (rest := [.int v5_]) dX8_worth_31 mfJ6_bitCount_0f7a4 csX8_269 (wJ6_bitCount_0f7a4 eq6_) (by decide) rfl rfl (Nat.le_of_ble_eq_true rfl) ?_
      refine a_iadd dX8_worth_34 ?_
      refine a_bipush (v := 17) dX8_worth_35 (by decide) ?_
      refine a_icmp_le dX8_worth_37 (tgt := 48) (by decide) (fun c9 => ?_) (fun c9 => ?_)
      · replace hf := iteT hf c9
        refine a_aload_n dX8_worth_48 rfl 0 rfl ?_
        obtain ⟨o7_, eo7_, hf⟩ := bnd hf
        refine a_getR dX8_worth_49 flX8_43 rfl eo7_ ?_
        refine a_aload_n dX8_worth_52 rfl 0 rfl ?_
        obtain ⟨o8_, eo8_, hf⟩ := bnd hf
        refine a_getR dX8_worth_53 flX8_18 rfl eo8_ ?_
        obtain ⟨M9_, eM9_, hf⟩ := bnd hf
        refine a_callV (As := [.ref o8_]) (rest := []) dX8_worth_56 mfX1_lookFrom cvX8_274 (wX1_lookFrom eM9_) rc1 (kX1_lookFrom eM9_) (by decide) rfl rfl (Nat.le_of_ble_eq_true rfl) ?_
        refine a_aload_n dX8_worth_59 rfl 0 rfl ?_
        obtain ⟨o10_, eo10_, hf⟩ := bnd hf
        refine a_getR dX8_worth_60 flX8_43 rfl eo10_ ?_
        refine a_iload_n dX8_worth_63 rfl 1 rfl ?_
        obtain ⟨q11_, eq11_, hf⟩ := bnd hf
        refine a_callV (As := [.int x1]) (rest := []) dX8_worth_64 mfX1_worthOf cvX8_277 (wX1_worthOf eq11_) rc1 (kX1_worthOf eq11_) (by decide) rfl rfl (Nat.le_of_ble_eq_true rfl) ?_
        have e9 := Option.some.inj hf
        subst e9
        exact a_lret rfl dX8_worth_67 rfl
      · replace hf := iteF hf c9
        refine a_aload_n dX8_worth_40 rfl 0 rfl ?_
        refine a_bipush (v := -7) dX8_worth_41 (by decide) ?_
        obtain ⟨q12_, eq12_, hf⟩ := bnd hf
        refine a_callV (As := [.int ((-7 : Int32))]) (rest := []) dX8_worth_43 mfX8_refused cvX8_63 (wX8_refused eq12_) rc8 (kX8_refused eq12_) (by decide) rfl rfl (Nat.le_of_ble_eq_true rfl) ?_
        refine a_i2l dX8_worth_46 ?_
        have e9 := Option.some.inj hf
        subst e9
        exact a_lret rfl dX8_worth_47 rfl
    · replace hf := iteF hf c9
      refine a_aload_n dX8_worth_16 rfl 0 rfl ?_
      refine a_iconst (v := -1) dX8_worth_17 (by decide) ?_
      obtain ⟨q13_, eq13_, hf⟩ := bnd hf
      refine a_callV (As := [.int ((-1 : Int32))]) (rest := []) dX8_worth_18 mfX8_refused cvX8_63 (wX8_refused eq13_) rc8 (kX8_refused eq13_) (by decide) rfl rfl (Nat.le_of_ble_eq_true rfl) ?_
      refine a_i2l dX8_worth_21 ?_
      have e9 := Option.some.inj hf
      subst e9
      exact a_lret rfl dX8_worth_22 rfl
theorem kX8_next {a0 : Nat} {M : Mm} {q : Int32 × Mm} (hf : fX8_next a0 M = some q) : (mK M a0).1 = 9 := by
  unfold fX8_next at hf
  obtain ⟨u0, eu0, -⟩ := bnd hf
  exact kc_of eu0
set_option maxHeartbeats 4000000 in
set_option maxRecDepth 100000 in
theorem wX8_next {l : Launch} {Γ : Gx} {a0 : Nat} {M : Mm} {q : Int32 × Mm} (hf : fX8_next a0 M = some q) : AM l Γ 44 yX8_next cX8_next 1 ((some .int)) [.ref a0] M (some (.int q.1)) q.2 := by
  unfold fX8_next at hf
  refine AM.of mfX8_next (Nat.le_of_ble_eq_true rfl) ?_
  generalize mT M = t0
  generalize mW M = w0
  show AW _ _ _ _ _ _ _ _ _ 0 [(0, .ref a0)] [] _ _ _
  obtain ⟨u0, eu0, hf⟩ := bnd hf
  refine a_aload_n dX8_next_0 rfl 0 rfl ?_
  obtain ⟨o1_, eo1_, hf⟩ := bnd hf
  refine a_getR dX8_next_1 flX8_18 rfl eo1_ ?_
  obtain ⟨v2_, ev2_, hf⟩ := bnd hf
  refine a_getI dX8_next_4 flX8_266 rfl ev2_ ?_
  refine a_if_ne dX8_next_7 (tgt := 17) (by decide) (fun c9 => ?_) (fun c9 => ?_)
  · replace hf := iteF hf c9
    refine a_aload_n dX8_next_17 rfl 0 rfl ?_
    obtain ⟨o3_, eo3_, hf⟩ := bnd hf
    refine a_getR dX8_next_18 flX8_18 rfl eo3_ ?_
    obtain ⟨v4_, ev4_, hf⟩ := bnd hf
    refine a_getI dX8_next_21 flX8_220 rfl ev4_ ?_
    refine a_iconst (v := 1) dX8_next_24 (by decide) ?_
    refine a_iadd dX8_next_25 ?_
    refine a_bipush (v := 17) dX8_next_26 (by decide) ?_
    refine a_icmp_le dX8_next_28 (tgt := 38) (by decide) (fun c9 => ?_) (fun c9 => ?_)
    · replace hf := iteT hf c9
      refine a_aload_n dX8_next_38 rfl 0 rfl ?_
      obtain ⟨o5_, eo5_, hf⟩ := bnd hf
      refine a_getR dX8_next_39 flX8_43 rfl eo5_ ?_
      refine a_aload_n dX8_next_42 rfl 0 rfl ?_
      obtain ⟨o6_, eo6_, hf⟩ := bnd hf
      refine a_getR dX8_next_43 flX8_18 rfl eo6_ ?_
      obtain ⟨M7_, eM7_, hf⟩ := bnd hf
      refine a_callV (As := [.ref o6_]) (rest := []) dX8_next_46 mfX1_lookFrom cvX8_274 (wX1_lookFrom eM7_) rc1 (kX1_lookFrom eM7_) (by decide) rfl rfl (Nat.le_of_ble_eq_true rfl) ?_
      refine a_aload_n dX8_next_49 rfl 0 rfl ?_
      obtain ⟨o8_, eo8_, hf⟩ := bnd hf
      refine a_getR dX8_next_50 flX8_43 rfl eo8_ ?_
      obtain ⟨q9_, eq9_, hf⟩ := bnd hf
      refine a_callV (As := []) (rest := []) dX8_next_53 mfX1_bestAlone cvX8_280 (wX1_bestAlone eq9_) rc1 (kX1_bestAlone eq9_) (by decide) rfl rfl (Nat.le_of_ble_eq_true rfl) ?_
      have e9 := Option.some.inj hf
      subst e9
      exact a_iret rfl dX8_next_56 rfl
    · replace hf := iteF hf c9
      refine a_aload_n dX8_next_31 rfl 0 rfl ?_
      refine a_bipush (v := -7) dX8_next_32 (by decide) ?_
      obtain ⟨q10_, eq10_, hf⟩ := bnd hf
      refine a_callV (As := [.int ((-7 : Int32))]) (rest := []) dX8_next_34 mfX8_refused cvX8_63 (wX8_refused eq10_) rc8 (kX8_refused eq10_) (by decide) rfl rfl (Nat.le_of_ble_eq_true rfl) ?_
      have e9 := Option.some.inj hf
      subst e9
      exact a_iret rfl dX8_next_37 rfl
  · replace hf := iteT hf c9
    refine a_aload_n dX8_next_10 rfl 0 rfl ?_
    refine a_bipush (v := -5) dX8_next_11 (by decide) ?_
    obtain ⟨q11_, eq11_, hf⟩ := bnd hf
    refine a_callV (As := [.int ((-5 : Int32))]) (rest := []) dX8_next_13 mfX8_refused cvX8_63 (wX8_refused eq11_) rc8 (kX8_refused eq11_) (by decide) rfl rfl (Nat.le_of_ble_eq_true rfl) ?_
    have e9 := Option.some.inj hf
    subst e9
    exact a_iret rfl dX8_next_16 rfl
theorem kX8_ahead {a0 : Nat} {M : Mm} {q : Int32 × Mm} (hf : fX8_ahead a0 M = some q) : (mK M a0).1 = 9 := by
  unfold fX8_ahead at hf
  obtain ⟨u0, eu0, -⟩ := bnd hf
  exact kc_of eu0
set_option maxHeartbeats 4000000 in
set_option maxRecDepth 100000 in
theorem wX8_ahead {l : Launch} {Γ : Gx} {a0 : Nat} {M : Mm} {q : Int32 × Mm} (hf : fX8_ahead a0 M = some q) : AM l Γ 45 yX8_ahead cX8_ahead 1 ((some .int)) [.ref a0] M (some (.int q.1)) q.2 := by
  unfold fX8_ahead at hf
  refine AM.of mfX8_ahead (Nat.le_of_ble_eq_true rfl) ?_
  generalize mT M = t0
  generalize mW M = w0
  show AW _ _ _ _ _ _ _ _ _ 0 [(0, .ref a0)] [] _ _ _
  obtain ⟨u0, eu0, hf⟩ := bnd hf
  refine a_aload_n dX8_ahead_0 rfl 0 rfl ?_
  obtain ⟨o1_, eo1_, hf⟩ := bnd hf
  refine a_getR dX8_ahead_1 flX8_18 rfl eo1_ ?_
  obtain ⟨v2_, ev2_, hf⟩ := bnd hf
  refine a_getI dX8_ahead_4 flX8_266 rfl ev2_ ?_
  refine a_if_ne dX8_ahead_7 (tgt := 17) (by decide) (fun c9 => ?_) (fun c9 => ?_)
  · replace hf := iteF hf c9
    refine a_aload_n dX8_ahead_17 rfl 0 rfl ?_
    obtain ⟨o3_, eo3_, hf⟩ := bnd hf
    refine a_getR dX8_ahead_18 flX8_18 rfl eo3_ ?_
    obtain ⟨v4_, ev4_, hf⟩ := bnd hf
    refine a_getI dX8_ahead_21 flX8_220 rfl ev4_ ?_
    refine a_iconst (v := 2) dX8_ahead_24 (by decide) ?_
    refine a_iadd dX8_ahead_25 ?_
    refine a_bipush (v := 17) dX8_ahead_26 (by decide) ?_
    refine a_icmp_le dX8_ahead_28 (tgt := 38) (by decide) (fun c9 => ?_) (fun c9 => ?_)
    · replace hf := iteT hf c9
      refine a_aload_n dX8_ahead_38 rfl 0 rfl ?_
      obtain ⟨o5_, eo5_, hf⟩ := bnd hf
      refine a_getR dX8_ahead_39 flX8_43 rfl eo5_ ?_
      refine a_aload_n dX8_ahead_42 rfl 0 rfl ?_
      obtain ⟨o6_, eo6_, hf⟩ := bnd hf
      refine a_getR dX8_ahead_43 flX8_18 rfl eo6_ ?_
      obtain ⟨M7_, eM7_, hf⟩ := bnd hf
      refine a_callV (As := [.ref o6_]) (rest := []) dX8_ahead_46 mfX1_lookFrom cvX8_274 (wX1_lookFrom eM7_) rc1 (kX1_lookFrom eM7_) (by decide) rfl rfl (Nat.le_of_ble_eq_true rfl) ?_
      refine a_aload_n dX8_ahead_49 rfl 0 rfl ?_
      obtain ⟨o8_, eo8_, hf⟩ := bnd hf
      refine a_getR dX8_ahead_50 flX8_43 rfl eo8_ ?_
      obtain ⟨q9_, eq9_, hf⟩ := bnd hf
      refine a_callV (As := []) (rest := []) dX8_ahead_53 mfX1_bestOfTwo cvX8_283 (wX1_bestOfTwo eq9_) rc1 (kX1_bestOfTwo eq9_) (by decide) rfl rfl (Nat.le_of_ble_eq_true rfl) ?_
      have e9 := Option.some.inj hf
      subst e9
      exact a_iret rfl dX8_ahead_56 rfl
    · replace hf := iteF hf c9
      refine a_aload_n dX8_ahead_31 rfl 0 rfl ?_
      refine a_bipush (v := -7) dX8_ahead_32 (by decide) ?_
      obtain ⟨q10_, eq10_, hf⟩ := bnd hf
      refine a_callV (As := [.int ((-7 : Int32))]) (rest := []) dX8_ahead_34 mfX8_refused cvX8_63 (wX8_refused eq10_) rc8 (kX8_refused eq10_) (by decide) rfl rfl (Nat.le_of_ble_eq_true rfl) ?_
      have e9 := Option.some.inj hf
      subst e9
      exact a_iret rfl dX8_ahead_37 rfl
  · replace hf := iteT hf c9
    refine a_aload_n dX8_ahead_10 rfl 0 rfl ?_
    refine a_bipush (v := -5) dX8_ahead_11 (by decide) ?_
    obtain ⟨q11_, eq11_, hf⟩ := bnd hf
    refine a_callV (As := [.int ((-5 : Int32))]) (rest := []) dX8_ahead_13 mfX8_refused cvX8_63 (wX8_refused eq11_) rc8 (kX8_refused eq11_) (by decide) rfl rfl (Nat.le_of_ble_eq_true rfl) ?_
    have e9 := Option.some.inj hf
    subst e9
    exact a_iret rfl dX8_ahead_16 rfl
theorem kX8_least {a0 : Nat} {x1 : Int32} {M : Mm} {q : Int32 × Mm} (hf : fX8_least a0 x1 M = some q) : (mK M a0).1 = 9 := by
  unfold fX8_least at hf
  obtain ⟨u0, eu0, -⟩ := bnd hf
  exact kc_of eu0
set_option maxHeartbeats 4000000 in
set_option maxRecDepth 100000 in
theorem wX8_least {l : Launch} {Γ : Gx} {a0 : Nat} {x1 : Int32} {M : Mm} {q : Int32 × Mm} (hf : fX8_least a0 x1 M = some q) : AM l Γ 45 yX8_least cX8_least 2 ((some .int)) [.ref a0, .int x1] M (some (.int q.1)) q.2 := by
  unfold fX8_least at hf
  refine AM.of mfX8_least (Nat.le_of_ble_eq_true rfl) ?_
  generalize mT M = t0
  generalize mW M = w0
  show AW _ _ _ _ _ _ _ _ _ 0 [(0, .ref a0), (1, .int x1)] [] _ _ _
  obtain ⟨u0, eu0, hf⟩ := bnd hf
  refine a_iload_n dX8_least_0 rfl 1 rfl ?_
  refine a_if_lt dX8_least_1 (tgt := 10) (by decide) (fun c9 => ?_) (fun c9 => ?_)
  · replace hf := iteT hf c9
    refine a_aload_n dX8_least_10 rfl 0 rfl ?_
    refine a_bipush (v := -6) dX8_least_11 (by decide) ?_
    obtain ⟨q1_, eq1_, hf⟩ := bnd hf
    refine a_callV (As := [.int ((-6 : Int32))]) (rest := []) dX8_least_13 mfX8_refused cvX8_63 (wX8_refused eq1_) rc8 (kX8_refused eq1_) (by decide) rfl rfl (Nat.le_of_ble_eq_true rfl) ?_
    refine a_bipush (v := -10) dX8_least_16 (by decide) ?_
    refine a_iadd dX8_least_18 ?_
    have e9 := Option.some.inj hf
    subst e9
    exact a_iret rfl dX8_least_19 rfl
  · replace hf := iteF hf c9
    refine a_iload_n dX8_least_4 rfl 1 rfl ?_
    refine a_bipush (v := 10) dX8_least_5 (by decide) ?_
    refine a_icmp_le dX8_least_7 (tgt := 20) (by decide) (fun c9 => ?_) (fun c9 => ?_)
    · replace hf := iteT hf c9
      refine a_aload_n dX8_least_20 rfl 0 rfl ?_
      obtain ⟨o2_, eo2_, hf⟩ := bnd hf
      refine a_getR dX8_least_21 flX8_18 rfl eo2_ ?_
      obtain ⟨v3_, ev3_, hf⟩ := bnd hf
      refine a_getI dX8_least_24 flX8_220 rfl ev3_ ?_
      refine a_bipush (v := 9) dX8_least_27 (by decide) ?_
      refine a_icmp_le dX8_least_29 (tgt := 42) (by decide) (fun c9 => ?_) (fun c9 => ?_)
      · replace hf := iteT hf c9
        refine a_aload_n dX8_least_42 rfl 0 rfl ?_
        obtain ⟨o4_, eo4_, hf⟩ := bnd hf
        refine a_getR dX8_least_43 flX8_43 rfl eo4_ ?_
        refine a_aload_n dX8_least_46 rfl 0 rfl ?_
        obtain ⟨o5_, eo5_, hf⟩ := bnd hf
        refine a_getR dX8_least_47 flX8_18 rfl eo5_ ?_
        obtain ⟨M6_, eM6_, hf⟩ := bnd hf
        refine a_callV (As := [.ref o5_]) (rest := []) dX8_least_50 mfX1_lookFrom cvX8_274 (wX1_lookFrom eM6_) rc1 (kX1_lookFrom eM6_) (by decide) rfl rfl (Nat.le_of_ble_eq_true rfl) ?_
        refine a_aload_n dX8_least_53 rfl 0 rfl ?_
        obtain ⟨o7_, eo7_, hf⟩ := bnd hf
        refine a_getR dX8_least_54 flX8_43 rfl eo7_ ?_
        refine a_iload_n dX8_least_57 rfl 1 rfl ?_
        refine a_aload_n dX8_least_58 rfl 0 rfl ?_
        obtain ⟨o8_, eo8_, hf⟩ := bnd hf
        refine a_getR dX8_least_59 flX8_18 rfl eo8_ ?_
        obtain ⟨o9_, eo9_, hf⟩ := bnd hf
        refine a_getR dX8_least_62 flX8_226 rfl eo9_ ?_
        obtain ⟨q10_, eq10_, hf⟩ := bnd hf
        refine a_callV (As := []) (rest := [.int x1, .ref o7_]) dX8_least_65 mfX0_all cvX8_230 (wX0_all eq10_) rc0 (kX0_all eq10_) (by decide) rfl rfl (Nat.le_of_ble_eq_true rfl) ?_
        obtain ⟨q11_, eq11_, hf⟩ := bnd hf
        refine a_callV (As := [.int x1, .long q10_.1]) (rest := []) dX8_least_68 mfX1_fewestFor cvX8_286 (wX1_fewestFor eq11_) rc1 (kX1_fewestFor eq11_) (by decide) rfl rfl (Nat.le_of_ble_eq_true rfl) ?_
        have e9 := Option.some.inj hf
        subst e9
        exact a_iret rfl dX8_least_71 rfl
      · replace hf := iteF hf c9
        refine a_aload_n dX8_least_32 rfl 0 rfl ?_
        refine a_bipush (v := -7) dX8_least_33 (by decide) ?_
        obtain ⟨q12_, eq12_, hf⟩ := bnd hf
        refine a_callV (As := [.int ((-7 : Int32))]) (rest := []) dX8_least_35 mfX8_refused cvX8_63 (wX8_refused eq12_) rc8 (kX8_refused eq12_) (by decide) rfl rfl (Nat.le_of_ble_eq_true rfl) ?_
        refine a_bipush (v := -10) dX8_least_38 (by decide) ?_
        refine a_iadd dX8_least_40 ?_
        have e9 := Option.some.inj hf
        subst e9
        exact a_iret rfl dX8_least_41 rfl
    · replace hf := iteF hf c9
      refine a_aload_n dX8_least_10 rfl 0 rfl ?_
      refine a_bipush (v := -6) dX8_least_11 (by decide) ?_
      obtain ⟨q13_, eq13_, hf⟩ := bnd hf
      refine a_callV (As := [.int ((-6 : Int32))]) (rest := []) dX8_least_13 mfX8_refused cvX8_63 (wX8_refused eq13_) rc8 (kX8_refused eq13_) (by decide) rfl rfl (Nat.le_of_ble_eq_true rfl) ?_
      refine a_bipush (v := -10) dX8_least_16 (by decide) ?_
      refine a_iadd dX8_least_18 ?_
      have e9 := Option.some.inj hf
      subst e9
      exact a_iret rfl dX8_least_19 rfl
theorem kX8_safe {a0 : Nat} {x1 : Int32} {x2 : Int32} {M : Mm} {q : Int64 × Mm} (hf : fX8_safe a0 x1 x2 M = some q) : (mK M a0).1 = 9 := by
  unfold fX8_safe at hf
  obtain ⟨u0, eu0, -⟩ := bnd hf
  exact kc_of eu0
set_option maxHeartbeats 4000000 in
set_option maxRecDepth 100000 in
theorem wX8_safe {l : Launch} {Γ : Gx} {a0 : Nat} {x1 : Int32} {x2 : Int32} {M : Mm} {q : Int64 × Mm} (hf : fX8_safe a0 x1 x2 M = some q) : AM l Γ 4 yX8_safe cX8_safe 3 ((some .long)) [.ref a0, .int x1, .int x2] M (some (.long q.1)) q.2 := by
  unfold fX8_safe at hf
  refine AM.of mfX8_safe (Nat.le_of_ble_eq_true rfl) ?_
  generalize mT M = t0
  generalize mW M = w0
  show AW _ _ _ _ _ _ _ _ _ 0 [(0, .ref a0), (1, .int x1), (2, .int x2)] [] _ _ _
  obtain ⟨u0, eu0, hf⟩ := bnd hf
  refine a_aload_n dX8_safe_0 rfl 0 rfl ?_
  obtain ⟨o1_, eo1_, hf⟩ := bnd hf
  refine a_getR dX8_safe_1 flX8_18 rfl eo1_ ?_
  refine a_iload_n dX8_safe_4 rfl 1 rfl ?_
  obtain ⟨q2_, eq2_, hf⟩ := bnd hf
  refine a_callV (As := [.int x1]) (rest := []) dX8_safe_5 mfX5_hasCell cvX8_130 (wX5_hasCell eq2_) rc5 (kX5_hasCell eq2_) (by decide) rfl rfl (Nat.le_of_ble_eq_true rfl) ?_
  refine a_if_eq dX8_safe_8 (tgt := 22) (by decide) (fun c9 => ?_) (fun c9 => ?_)
  · replace hf := iteT hf c9
    refine a_aload_n dX8_safe_22 rfl 0 rfl ?_
    refine a_iconst (v := -1) dX8_safe_23 (by decide) ?_
    obtain ⟨q3_, eq3_, hf⟩ := bnd hf
    refine a_callV (As := [.int ((-1 : Int32))]) (rest := []) dX8_safe_24 mfX8_refused cvX8_63 (wX8_refused eq3_) rc8 (kX8_refused eq3_) (by decide) rfl rfl (Nat.le_of_ble_eq_true rfl) ?_
    refine a_i2l dX8_safe_27 ?_
    have e9 := Option.some.inj hf
    subst e9
    exact a_lret rfl dX8_safe_28 rfl
  · replace hf := iteF hf c9
    refine a_aload_n dX8_safe_11 rfl 0 rfl ?_
    obtain ⟨o4_, eo4_, hf⟩ := bnd hf
    refine a_getR dX8_safe_12 flX8_18 rfl eo4_ ?_
    refine a_iload_n dX8_safe_15 rfl 2 rfl ?_
    obtain ⟨q5_, eq5_, hf⟩ := bnd hf
    refine a_callV (As := [.int x2]) (rest := []) dX8_safe_16 mfX5_hasCell cvX8_130 (wX5_hasCell eq5_) rc5 (kX5_hasCell eq5_) (by decide) rfl rfl (Nat.le_of_ble_eq_true rfl) ?_
    refine a_if_ne dX8_safe_19 (tgt := 29) (by decide) (fun c9 => ?_) (fun c9 => ?_)
    · replace hf := iteF hf c9
      refine a_aload_n dX8_safe_29 rfl 0 rfl ?_
      obtain ⟨o6_, eo6_, hf⟩ := bnd hf
      refine a_getR dX8_safe_30 flX8_18 rfl eo6_ ?_
      refine a_iload_n dX8_safe_33 rfl 1 rfl ?_
      refine a_iload_n dX8_safe_34 rfl 2 rfl ?_
      refine a_iconst (v := 0) dX8_safe_35 (by decide) ?_
      obtain ⟨q7_, eq7_, hf⟩ := bnd hf
      refine a_callV (As := [.int x1, .int x2, .int ((0 : Int32))]) (rest := []) dX8_safe_36 mfX5_safeBut cvX8_290 (wX5_safeBut eq7_) rc5 (kX5_safeBut eq7_) (by decide) rfl rfl (Nat.le_of_ble_eq_true rfl) ?_
      have e9 := Option.some.inj hf
      subst e9
      exact a_lret rfl dX8_safe_39 rfl
    · replace hf := iteT hf c9
      refine a_aload_n dX8_safe_22 rfl 0 rfl ?_
      refine a_iconst (v := -1) dX8_safe_23 (by decide) ?_
      obtain ⟨q8_, eq8_, hf⟩ := bnd hf
      refine a_callV (As := [.int ((-1 : Int32))]) (rest := []) dX8_safe_24 mfX8_refused cvX8_63 (wX8_refused eq8_) rc8 (kX8_refused eq8_) (by decide) rfl rfl (Nat.le_of_ble_eq_true rfl) ?_
      refine a_i2l dX8_safe_27 ?_
      have e9 := Option.some.inj hf
      subst e9
      exact a_lret rfl dX8_safe_28 rfl
theorem kX8_first {a0 : Nat} {x1 : Int32} {x2 : Int32} {M : Mm} {q : Int32 × Mm} (hf : fX8_first a0 x1 x2 M = some q) : (mK M a0).1 = 9 := by
  unfold fX8_first at hf
  obtain ⟨u0, eu0, -⟩ := bnd hf
  exact kc_of eu0
set_option maxHeartbeats 4000000 in
set_option maxRecDepth 100000 in
theorem wX8_first {l : Launch} {Γ : Gx} {a0 : Nat} {x1 : Int32} {x2 : Int32} {M : Mm} {q : Int32 × Mm} (hf : fX8_first a0 x1 x2 M = some q) : AM l Γ 5 yX8_first cX8_first 4 ((some .int)) [.ref a0, .int x1, .int x2] M (some (.int q.1)) q.2 := by
  unfold fX8_first at hf
  refine AM.of mfX8_first (Nat.le_of_ble_eq_true rfl) ?_
  generalize mT M = t0
  generalize mW M = w0
  show AW _ _ _ _ _ _ _ _ _ 0 [(0, .ref a0), (1, .int x1), (2, .int x2)] [] _ _ _
  obtain ⟨u0, eu0, hf⟩ := bnd hf
  refine a_aload_n dX8_first_0 rfl 0 rfl ?_
  obtain ⟨o1_, eo1_, hf⟩ := bnd hf
  refine a_getR dX8_first_1 flX8_18 rfl eo1_ ?_
  refine a_iload_n dX8_first_4 rfl 1 rfl ?_
  obtain ⟨q2_, eq2_, hf⟩ := bnd hf
  refine a_callV (As := [.int x1]) (rest := []) dX8_first_5 mfX5_hasCell cvX8_130 (wX5_hasCell eq2_) rc5 (kX5_hasCell eq2_) (by decide) rfl rfl (Nat.le_of_ble_eq_true rfl) ?_
  refine a_if_eq dX8_first_8 (tgt := 22) (by decide) (fun c9 => ?_) (fun c9 => ?_)
  · replace hf := iteT hf c9
    refine a_aload_n dX8_first_22 rfl 0 rfl ?_
    refine a_iconst (v := -1) dX8_first_23 (by decide) ?_
    obtain ⟨q3_, eq3_, hf⟩ := bnd hf
    refine a_callV (As := [.int ((-1 : Int32))]) (rest := []) dX8_first_24 mfX8_refused cvX8_63 (wX8_refused eq3_) rc8 (kX8_refused eq3_) (by decide) rfl rfl (Nat.le_of_ble_eq_true rfl) ?_
    have e9 := Option.some.inj hf
    subst e9
    exact a_iret rfl dX8_first_27 rfl
  · replace hf := iteF hf c9
    refine a_aload_n dX8_first_11 rfl 0 rfl ?_
    obtain ⟨o4_, eo4_, hf⟩ := bnd hf
    refine a_getR dX8_first_12 flX8_18 rfl eo4_ ?_
    refine a_iload_n dX8_first_15 rfl 2 rfl ?_
    obtain ⟨q5_, eq5_, hf⟩ := bnd hf
    refine a_callV (As := [.int x2]) (rest := []) dX8_first_16 mfX5_hasCell cvX8_130 (wX5_hasCell eq5_) rc5 (kX5_hasCell eq5_) (by decide) rfl rfl (Nat.le_of_ble_eq_true rfl) ?_
    refine a_if_ne dX8_first_19 (tgt := 28) (by decide) (fun c9 => ?_) (fun c9 => ?_)
    · replace hf := iteF hf c9
      refine a_aload_n dX8_first_28 rfl 0 rfl ?_
      obtain ⟨o6_, eo6_, hf⟩ := bnd hf
      refine a_getR dX8_first_29 flX8_18 rfl eo6_ ?_
      refine a_iload_n dX8_first_32 rfl 1 rfl ?_
      refine a_iload_n dX8_first_33 rfl 2 rfl ?_
      refine a_iconst (v := 0) dX8_first_34 (by decide) ?_
      obtain ⟨q7_, eq7_, hf⟩ := bnd hf
      refine a_callV (As := [.int x1, .int x2, .int ((0 : Int32))]) (rest := []) dX8_first_35 mfX5_firstBut cvX8_294 (wX5_firstBut eq7_) rc5 (kX5_firstBut eq7_) (by decide) rfl rfl (Nat.le_of_ble_eq_true rfl) ?_
      refine a_istore_n (i := 3) (lv1 := [(3, .int q7_.1), (0, .ref a0), (1, .int x1), (2, .int x2)]) dX8_first_38 rfl (by decide) rfl ?_
      refine a_iload_n dX8_first_39 rfl 0 rfl ?_
      refine a_iconst (v := -1) dX8_first_40 (by decide) ?_
      refine a_icmp_ne dX8_first_41 (tgt := 53) (by decide) (fun c9 => ?_) (fun c9 => ?_)
      · replace hf := iteF hf c9
        refine a_iload_n dX8_first_53 rfl 0 rfl ?_
        have e9 := Option.some.inj hf
        subst e9
        exact a_iret rfl dX8_first_54 rfl
      · replace hf := iteT hf c9
        refine a_aload_n dX8_first_44 rfl 1 rfl ?_
        refine a_bipush (v := -5) dX8_first_45 (by decide) ?_
        obtain ⟨q8_, eq8_, hf⟩ := bnd hf
        refine a_callV (As := [.int ((-5 : Int32))]) (rest := []) dX8_first_47 mfX8_refused cvX8_63 (wX8_refused eq8_) rc8 (kX8_refused eq8_) (by decide) rfl rfl (Nat.le_of_ble_eq_true rfl) ?_
        refine a_goto (tgt := 54) dX8_first_50 (by decide) ?_
        have e9 := Option.some.inj hf
        subst e9
        exact a_iret rfl dX8_first_54 rfl
    · replace hf := iteT hf c9
      refine a_aload_n dX8_first_22 rfl 0 rfl ?_
      refine a_iconst (v := -1) dX8_first_23 (by decide) ?_
      obtain ⟨q9_, eq9_, hf⟩ := bnd hf
      refine a_callV (As := [.int ((-1 : Int32))]) (rest := []) dX8_first_24 mfX8_refused cvX8_63 (wX8_refused eq9_) rc8 (kX8_refused eq9_) (by decide) rfl rfl (Nat.le_of_ble_eq_true rfl) ?_
      have e9 := Option.some.inj hf
      subst e9
      exact a_iret rfl dX8_first_27 rfl
theorem kX8_order {a0 : Nat} {x1 : Int32} {x2 : Int32} {x3 : Int32} {M : Mm} {q : Int32 × Mm} (hf : fX8_order a0 x1 x2 x3 M = some q) : (mK M a0).1 = 9 := by
  unfold fX8_order at hf
  obtain ⟨u0, eu0, -⟩ := bnd hf
  exact kc_of eu0
set_option maxHeartbeats 4000000 in
set_option maxRecDepth 100000 in
theorem wX8_order {l : Launch} {Γ : Gx} {a0 : Nat} {x1 : Int32} {x2 : Int32} {x3 : Int32} {M : Mm} {q : Int32 × Mm} (hf : fX8_order a0 x1 x2 x3 M = some q) : AM l Γ 6 yX8_order cX8_order 5 ((some .int)) [.ref a0, .int x1, .int x2, .int x3] M (some (.int q.1)) q.2 := by
  unfold fX8_order at hf
  refine AM.of mfX8_order (Nat.le_of_ble_eq_true rfl) ?_
  generalize mT M = t0
  generalize mW M = w0
  show AW _ _ _ _ _ _ _ _ _ 0 [(0, .ref a0), (1, .int x1), (2, .int x2), (3, .int x3)] [] _ _ _
  obtain ⟨u0, eu0, hf⟩ := bnd hf
  refine a_aload_n dX8_order_0 rfl 0 rfl ?_
  obtain ⟨o1_, eo1_, hf⟩ := bnd hf
  refine a_getR dX8_order_1 flX8_18 rfl eo1_ ?_
  refine a_iload_n dX8_order_4 rfl 1 rfl ?_
  obtain ⟨q2_, eq2_, hf⟩ := bnd hf
  refine a_callV (As := [.int x1]) (rest := []) dX8_order_5 mfX5_hasCell cvX8_130 (wX5_hasCell eq2_) rc5 (kX5_hasCell eq2_) (by decide) rfl rfl (Nat.le_of_ble_eq_true rfl) ?_
  refine a_if_eq dX8_order_8 (tgt := 22) (by decide) (fun c9 => ?_) (fun c9 => ?_)
  · replace hf := iteT hf c9
    refine a_aload_n dX8_order_22 rfl 0 rfl ?_
    refine a_iconst (v := -1) dX8_order_23 (by decide) ?_
    obtain ⟨q3_, eq3_, hf⟩ := bnd hf
    refine a_callV (As := [.int ((-1 : Int32))]) (rest := []) dX8_order_24 mfX8_refused cvX8_63 (wX8_refused eq3_) rc8 (kX8_refused eq3_) (by decide) rfl rfl (Nat.le_of_ble_eq_true rfl) ?_
    have e9 := Option.some.inj hf
    subst e9
    exact a_iret rfl dX8_order_27 rfl
  · replace hf := iteF hf c9
    refine a_aload_n dX8_order_11 rfl 0 rfl ?_
    obtain ⟨o4_, eo4_, hf⟩ := bnd hf
    refine a_getR dX8_order_12 flX8_18 rfl eo4_ ?_
    refine a_iload_n dX8_order_15 rfl 2 rfl ?_
    obtain ⟨q5_, eq5_, hf⟩ := bnd hf
    refine a_callV (As := [.int x2]) (rest := []) dX8_order_16 mfX5_hasCell cvX8_130 (wX5_hasCell eq5_) rc5 (kX5_hasCell eq5_) (by decide) rfl rfl (Nat.le_of_ble_eq_true rfl) ?_
    refine a_if_ne dX8_order_19 (tgt := 28) (by decide) (fun c9 => ?_) (fun c9 => ?_)
    · replace hf := iteF hf c9
      refine a_aload_n dX8_order_28 rfl 0 rfl ?_
      obtain ⟨o6_, eo6_, hf⟩ := bnd hf
      refine a_getR dX8_order_29 flX8_18 rfl eo6_ ?_
      refine a_iload_n dX8_order_32 rfl 1 rfl ?_
      refine a_iload_n dX8_order_33 rfl 2 rfl ?_
      refine a_iload_n dX8_order_34 rfl 3 rfl ?_
      obtain ⟨q7_, eq7_, hf⟩ := bnd hf
      refine a_callV (As := [.int x1, .int x2, .int x3]) (rest := []) dX8_order_35 mfX5_orderedAt cvX8_298 (wX5_orderedAt eq7_) rc5 (kX5_orderedAt eq7_) (by decide) rfl rfl (Nat.le_of_ble_eq_true rfl) ?_
      refine a_istore (i := 4) (lv1 := [(4, .int q7_.1), (0, .ref a0), (1, .int x1), (2, .int x2), (3, .int x3)]) dX8_order_38 (by decide) rfl ?_
      refine a_iload dX8_order_40 0 rfl ?_
      refine a_iconst (v := -1) dX8_order_42 (by decide) ?_
      refine a_icmp_ne dX8_order_43 (tgt := 55) (by decide) (fun c9 => ?_) (fun c9 => ?_)
      · replace hf := iteF hf c9
        refine a_iload dX8_order_55 0 rfl ?_
        have e9 := Option.some.inj hf
        subst e9
        exact a_iret rfl dX8_order_57 rfl
      · replace hf := iteT hf c9
        refine a_aload_n dX8_order_46 rfl 1 rfl ?_
        refine a_bipush (v := -5) dX8_order_47 (by decide) ?_
        obtain ⟨q8_, eq8_, hf⟩ := bnd hf
        refine a_callV (As := [.int ((-5 : Int32))]) (rest := []) dX8_order_49 mfX8_refused cvX8_63 (wX8_refused eq8_) rc8 (kX8_refused eq8_) (by decide) rfl rfl (Nat.le_of_ble_eq_true rfl) ?_
        refine a_goto (tgt := 57) dX8_order_52 (by decide) ?_
        have e9 := Option.some.inj hf
        subst e9
        exact a_iret rfl dX8_order_57 rfl
    · replace hf := iteT hf c9
      refine a_aload_n dX8_order_22 rfl 0 rfl ?_
      refine a_iconst (v := -1) dX8_order_23 (by decide) ?_
      obtain ⟨q9_, eq9_, hf⟩ := bnd hf
      refine a_callV (As := [.int ((-1 : Int32))]) (rest := []) dX8_order_24 mfX8_refused cvX8_63 (wX8_refused eq9_) rc8 (kX8_refused eq9_) (by decide) rfl rfl (Nat.le_of_ble_eq_true rfl) ?_
      have e9 := Option.some.inj hf
      subst e9
      exact a_iret rfl dX8_order_27 rfl
theorem kX8_driftAt {a0 : Nat} {x1 : Int32} {M : Mm} {q : Int64 × Mm} (hf : fX8_driftAt a0 x1 M = some q) : (mK M a0).1 = 9 := by
  unfold fX8_driftAt at hf
  obtain ⟨u0, eu0, -⟩ := bnd hf
  exact kc_of eu0
set_option maxHeartbeats 4000000 in
set_option maxRecDepth 100000 in
theorem wX8_driftAt {l : Launch} {Γ : Gx} {a0 : Nat} {x1 : Int32} {M : Mm} {q : Int64 × Mm} (hf : fX8_driftAt a0 x1 M = some q) : AM l Γ 1 yX8_driftAt cX8_driftAt 2 ((some .long)) [.ref a0, .int x1] M (some (.long q.1)) q.2 := by
  unfold fX8_driftAt at hf
  refine AM.of mfX8_driftAt (Nat.le_of_ble_eq_true rfl) ?_
  generalize mT M = t0
  generalize mW M = w0
  show AW _ _ _ _ _ _ _ _ _ 0 [(0, .ref a0), (1, .int x1)] [] _ _ _
  obtain ⟨u0, eu0, hf⟩ := bnd hf
  refine a_iload_n dX8_driftAt_0 rfl 1 rfl ?_
  refine a_if_lt dX8_driftAt_1 (tgt := 13) (by decide) (fun c9 => ?_) (fun c9 => ?_)
  · replace hf := iteT hf c9
    refine a_lconst (v := 0) dX8_driftAt_13 rfl ?_
    refine a_goto (tgt := 23) dX8_driftAt_14 (by decide) ?_
    have e9 := Option.some.inj hf
    subst e9
    exact a_lret rfl dX8_driftAt_23 rfl
  · replace hf := iteF hf c9
    refine a_iload_n dX8_driftAt_4 rfl 1 rfl ?_
    refine a_aload_n dX8_driftAt_5 rfl 0 rfl ?_
    obtain ⟨o1_, eo1_, hf⟩ := bnd hf
    refine a_getR dX8_driftAt_6 flX8_54 rfl eo1_ ?_
    obtain ⟨v2_, ev2_, hf⟩ := bnd hf
    refine a_alen dX8_driftAt_9 ev2_ ?_
    refine a_icmp_lt dX8_driftAt_10 (tgt := 17) (by decide) (fun c9 => ?_) (fun c9 => ?_)
    · replace hf := iteT hf c9
      refine a_aload_n dX8_driftAt_17 rfl 0 rfl ?_
      obtain ⟨o3_, eo3_, hf⟩ := bnd hf
      refine a_getR dX8_driftAt_18 flX8_54 rfl eo3_ ?_
      refine a_iload_n dX8_driftAt_21 rfl 1 rfl ?_
      obtain ⟨v4_, ev4_, hf⟩ := bnd hf
      refine a_lald dX8_driftAt_22 ev4_ ?_
      have e9 := Option.some.inj hf
      subst e9
      exact a_lret rfl dX8_driftAt_23 rfl
    · replace hf := iteF hf c9
      refine a_lconst (v := 0) dX8_driftAt_13 rfl ?_
      refine a_goto (tgt := 23) dX8_driftAt_14 (by decide) ?_
      have e9 := Option.some.inj hf
      subst e9
      exact a_lret rfl dX8_driftAt_23 rfl
theorem kX8_driftedBy {a0 : Nat} {x1 : Int32} {x2 : Int32} {x3 : Int32} {x4 : Int32} {M : Mm} {q : Int64 × Mm} (hf : fX8_driftedBy a0 x1 x2 x3 x4 M = some q) : (mK M a0).1 = 9 := by
  unfold fX8_driftedBy at hf
  obtain ⟨u0, eu0, -⟩ := bnd hf
  exact kc_of eu0
set_option maxHeartbeats 4000000 in
set_option maxRecDepth 100000 in
theorem wX8_driftedBy_b41 {l : Launch} {Γ : Gx} {t0 w0 : Nat} {q : Int64 × Mm} (k26 : Nat → Int32 → Int32 → Int32 → Int32 → Int32 → Int32 → Mm → Option (Int64 × Mm)) (hk26 : ∀ (a0 : Nat) (x1 : Int32) (x2 : Int32) (x3 : Int32) (x4 : Int32) (x5 : Int32) (x6 : Int32) (M : Mm), k26 a0 x1 x2 x3 x4 x5 x6 M = some q → AW l Γ yX8_driftedBy cX8_driftedBy 8 ((some .long)) 2 t0 w0 26 [(0, .ref a0), (1, .int x1), (2, .int x2), (3, .int x3), (4, .int x4), (5, .int x5), (6, .int x6)] [] M (some (.long q.1)) q.2) : ∀ (n : Nat) (a0 : Nat) (x1 : Int32) (x2 : Int32) (x3 : Int32) (x4 : Int32) (x5 : Int32) (x6 : Int32) (x7 : Int32) (M : Mm), fX8_driftedBy_b41 k26 n a0 x1 x2 x3 x4 x5 x6 x7 M = some q → AW l Γ yX8_driftedBy cX8_driftedBy 8 ((some .long)) 2 t0 w0 41 [(0, .ref a0), (1, .int x1), (2, .int x2), (3, .int x3), (4, .int x4), (5, .int x5), (6, .int x6), (7, .int x7)] [] M (some (.long q.1)) q.2 := by
  intro n
  induction n with
  | zero =>
    intro a0 x1 x2 x3 x4 x5 x6 x7 M hf
    cases hf
  | succ n ih =>
    intro a0 x1 x2 x3 x4 x5 x6 x7 M hf
    rw [fX8_driftedBy_b41.eq_2] at hf
    refine a_iload dX8_driftedBy_41 7 rfl ?_
    refine a_if_lt dX8_driftedBy_43 (tgt := 93) (by decide) (fun c9 => ?_) (fun c9 => ?_)
    · replace hf := iteT hf c9
      refine a_iinc (v := x6 + (1 : Int32)) (lv1 := [(6, .int (x6 + (1 : Int32))), (0, .ref a0), (1, .int x1), (2, .int x2), (3, .int x3), (4, .int x4), (5, .int x5), (7, .int x7)]) dX8_driftedBy_93 6 rfl rfl (by decide) rfl ?_
      refine a_goto (tgt := 26) dX8_driftedBy_96 (by decide) ?_
      refine AW.sub (lv1 := [(0, .ref a0), (1, .int x1), (2, .int x2), (3, .int x3), (4, .int x4), (5, .int x5), (6, .int (x6 + (1 : Int32)))]) [1, 2, 3, 4, 5, 6, 0] rfl ?_
      exact hk26 _ _ _ _ _ _ _ _ hf
    · replace hf := iteF hf c9
      refine a_aload_n dX8_driftedBy_46 rfl 0 rfl ?_
      obtain ⟨o1_, eo1_, hf⟩ := bnd hf
      refine a_getR dX8_driftedBy_47 flX8_54 rfl eo1_ ?_
      refine a_iload dX8_driftedBy_50 7 rfl ?_
      refine a_iload_n dX8_driftedBy_52 rfl 2 rfl ?_
      refine a_i2l dX8_driftedBy_53 ?_
      refine a_aload_n dX8_driftedBy_54 rfl 0 rfl ?_
      refine a_iload dX8_driftedBy_55 7 rfl ?_
      obtain ⟨q2_, eq2_, hf⟩ := bnd hf
      refine a_callV (As := [.int x7]) (rest := [.long x2.toInt64, .int x7, .ref o1_]) dX8_driftedBy_57 mfX8_driftAt cvX8_367 (wX8_driftAt eq2_) rc8 (kX8_driftAt eq2_) (by decide) rfl rfl (Nat.le_of_ble_eq_true rfl) ?_
      refine a_lmul dX8_driftedBy_60 ?_
      refine a_iload dX8_driftedBy_61 5 rfl ?_
      refine a_i2l dX8_driftedBy_63 ?_
      refine a_aload_n dX8_driftedBy_64 rfl 0 rfl ?_
      refine a_iload dX8_driftedBy_65 7 rfl ?_
      refine a_iconst (v := 1) dX8_driftedBy_67 (by decide) ?_
      refine a_isub dX8_driftedBy_68 ?_
      obtain ⟨q3_, eq3_, hf⟩ := bnd hf
      refine a_callV (As := [.int (x7 - ((1 : Int32)))]) (rest := [.long x5.toInt64, .long (x2.toInt64 * q2_.1), .int x7, .ref o1_]) dX8_driftedBy_69 mfX8_driftAt cvX8_367 (wX8_driftAt eq3_) rc8 (kX8_driftAt eq3_) (by decide) rfl rfl (Nat.le_of_ble_eq_true rfl) ?_
      refine a_lmul dX8_driftedBy_72 ?_
      refine a_ladd dX8_driftedBy_73 ?_
      refine a_iload_n dX8_driftedBy_74 rfl 3 rfl ?_
      refine a_i2l dX8_driftedBy_75 ?_
      refine a_aload_n dX8_driftedBy_76 rfl 0 rfl ?_
      refine a_iload dX8_driftedBy_77 7 rfl ?_
      refine a_iconst (v := 2) dX8_driftedBy_79 (by decide) ?_
      refine a_isub dX8_driftedBy_80 ?_
      obtain ⟨q4_, eq4_, hf⟩ := bnd hf
      refine a_callV (As := [.int (x7 - ((2 : Int32)))]) (rest := [.long x3.toInt64, .long ((x2.toInt64 * q2_.1) + (x5.toInt64 * q3_.1)), .int x7, .ref o1_]) dX8_driftedBy_81 mfX8_driftAt cvX8_367 (wX8_driftAt eq4_) rc8 (kX8_driftAt eq4_) (by decide) rfl rfl (Nat.le_of_ble_eq_true rfl) ?_
      refine a_lmul dX8_driftedBy_84 ?_
      refine a_ladd dX8_driftedBy_85 ?_
      obtain ⟨M5_, eM5_, hf⟩ := bnd hf
      refine a_last dX8_driftedBy_86 eM5_ ?_
      refine a_iinc (v := x7 + (-1 : Int32)) (lv1 := [(7, .int (x7 + (-1 : Int32))), (0, .ref a0), (1, .int x1), (2, .int x2), (3, .int x3), (4, .int x4), (5, .int x5), (6, .int x6)]) dX8_driftedBy_87 7 rfl rfl (by decide) rfl ?_
      refine a_goto (tgt := 41) dX8_driftedBy_90 (by decide) ?_
      refine AW.sub (lv1 := [(0, .ref a0), (1, .int x1), (2, .int x2), (3, .int x3), (4, .int x4), (5, .int x5), (6, .int x6), (7, .int (x7 + (-1 : Int32)))]) [1, 2, 3, 4, 5, 6, 7, 0] rfl ?_
      exact ih _ _ _ _ _ _ _ _ _ hf
set_option maxHeartbeats 4000000 in
set_option maxRecDepth 100000 in
theorem wX8_driftedBy_b26 {l : Launch} {Γ : Gx} {t0 w0 : Nat} {q : Int64 × Mm} : ∀ (n : Nat) (a0 : Nat) (x1 : Int32) (x2 : Int32) (x3 : Int32) (x4 : Int32) (x5 : Int32) (x6 : Int32) (M : Mm), fX8_driftedBy_b26 n a0 x1 x2 x3 x4 x5 x6 M = some q → AW l Γ yX8_driftedBy cX8_driftedBy 8 ((some .long)) 2 t0 w0 26 [(0, .ref a0), (1, .int x1), (2, .int x2), (3, .int x3), (4, .int x4), (5, .int x5), (6, .int x6)] [] M (some (.long q.1)) q.2 := by
  intro n
  induction n with
  | zero =>
    intro a0 x1 x2 x3 x4 x5 x6 M hf
    cases hf
  | succ n ih =>
    intro a0 x1 x2 x3 x4 x5 x6 M hf
    rw [fX8_driftedBy_b26.eq_2] at hf
    refine a_iload dX8_driftedBy_26 6 rfl ?_
    refine a_iload_n dX8_driftedBy_28 rfl 1 rfl ?_
    refine a_icmp_ge dX8_driftedBy_29 (tgt := 99) (by decide) (fun c9 => ?_) (fun c9 => ?_)
    · replace hf := iteT hf c9
      refine a_aload_n dX8_driftedBy_99 rfl 0 rfl ?_
      refine a_iload_n dX8_driftedBy_100 rfl 1 rfl ?_
      refine a_iload dX8_driftedBy_101 4 rfl ?_
      refine a_iadd dX8_driftedBy_103 ?_
      obtain ⟨q1_, eq1_, hf⟩ := bnd hf
      refine a_callV (As := [.int (x1 + x4)]) (rest := []) dX8_driftedBy_104 mfX8_driftAt cvX8_367 (wX8_driftAt eq1_) rc8 (kX8_driftAt eq1_) (by decide) rfl rfl (Nat.le_of_ble_eq_true rfl) ?_
      have e9 := Option.some.inj hf
      subst e9
      exact a_lret rfl dX8_driftedBy_107 rfl
    · replace hf := iteF hf c9
      refine a_aload_n dX8_driftedBy_32 rfl 0 rfl ?_
      obtain ⟨o2_, eo2_, hf⟩ := bnd hf
      refine a_getR dX8_driftedBy_33 flX8_54 rfl eo2_ ?_
      obtain ⟨v3_, ev3_, hf⟩ := bnd hf
      refine a_alen dX8_driftedBy_36 ev3_ ?_
      refine a_iconst (v := 1) dX8_driftedBy_37 (by decide) ?_
      refine a_isub dX8_driftedBy_38 ?_
      refine a_istore (i := 7) (lv1 := [(7, .int (v3_ - ((1 : Int32)))), (0, .ref a0), (1, .int x1), (2, .int x2), (3, .int x3), (4, .int x4), (5, .int x5), (6, .int x6)]) dX8_driftedBy_39 (by decide) rfl ?_
      refine AW.sub (lv1 := [(0, .ref a0), (1, .int x1), (2, .int x2), (3, .int x3), (4, .int x4), (5, .int x5), (6, .int x6), (7, .int (v3_ - ((1 : Int32))))]) [1, 2, 3, 4, 5, 6, 7, 0] rfl ?_
      exact wX8_driftedBy_b41 _ ih _ _ _ _ _ _ _ _ _ _ hf
set_option maxHeartbeats 4000000 in
set_option maxRecDepth 100000 in
theorem wX8_driftedBy {l : Launch} {Γ : Gx} {a0 : Nat} {x1 : Int32} {x2 : Int32} {x3 : Int32} {x4 : Int32} {M : Mm} {q : Int64 × Mm} (hf : fX8_driftedBy a0 x1 x2 x3 x4 M = some q) : AM l Γ 2 yX8_driftedBy cX8_driftedBy 8 ((some .long)) [.ref a0, .int x1, .int x2, .int x3, .int x4] M (some (.long q.1)) q.2 := by
  unfold fX8_driftedBy at hf
  refine AM.of mfX8_driftedBy (Nat.le_of_ble_eq_true rfl) ?_
  generalize mT M = t0
  generalize mW M = w0
  show AW _ _ _ _ _ _ _ _ _ 0 [(0, .ref a0), (1, .int x1), (2, .int x2), (3, .int x3), (4, .int x4)] [] _ _ _
  obtain ⟨u0, eu0, hf⟩ := bnd hf
  refine a_aload_n dX8_driftedBy_0 rfl 0 rfl ?_
  obtain ⟨o1_, eo1_, hf⟩ := bnd hf
  refine a_getR dX8_driftedBy_1 flX8_54 rfl eo1_ ?_
  refine a_lconst (v := 0) dX8_driftedBy_4 rfl ?_
  obtain ⟨M2_, eM2_, hf⟩ := bnd hf
  refine a_callS (As := [.ref o1_, .long ((0 : Int64))]) (rest := []) dX8_driftedBy_5 mfJ7_fill_d0a16 csX8_361 (wJ7_fill_d0a16 eM2_) (by decide) rfl rfl (Nat.le_of_ble_eq_true rfl) ?_
  refine a_aload_n dX8_driftedBy_8 rfl 0 rfl ?_
  obtain ⟨o3_, eo3_, hf⟩ := bnd hf
  refine a_getR dX8_driftedBy_9 flX8_54 rfl eo3_ ?_
  refine a_iconst (v := 0) dX8_driftedBy_12 (by decide) ?_
  refine a_lconst (v := 1) dX8_driftedBy_13 rfl ?_
  obtain ⟨M4_, eM4_, hf⟩ := bnd hf
  refine a_last dX8_driftedBy_14 eM4_ ?_
  refine a_bipush (v := 10) dX8_driftedBy_15 (by decide) ?_
  refine a_iload_n dX8_driftedBy_17 rfl 2 rfl ?_
  refine a_isub dX8_driftedBy_18 ?_
  refine a_iload_n dX8_driftedBy_19 rfl 3 rfl ?_
  refine a_isub dX8_driftedBy_20 ?_
  refine a_istore (i := 5) (lv1 := [(5, .int ((((10 : Int32)) - x2) - x3)), (0, .ref a0), (1, .int x1), (2, .int x2), (3, .int x3), (4, .int x4)]) dX8_driftedBy_21 (by decide) rfl ?_
  refine a_iconst (v := 0) dX8_driftedBy_23 (by decide) ?_
  refine a_istore (i := 6) (lv1 := [(6, .int ((0 : Int32))), (5, .int ((((10 : Int32)) - x2) - x3)), (0, .ref a0), (1, .int x1), (2, .int x2), (3, .int x3), (4, .int x4)]) dX8_driftedBy_24 (by decide) rfl ?_
  refine AW.sub (lv1 := [(0, .ref a0), (1, .int x1), (2, .int x2), (3, .int x3), (4, .int x4), (5, .int ((((10 : Int32)) - x2) - x3)), (6, .int ((0 : Int32)))]) [2, 3, 4, 5, 6, 1, 0] rfl ?_
  exact wX8_driftedBy_b26 _ _ _ _ _ _ _ _ _ hf
theorem kX8_over {a0 : Nat} {x1 : Int32} {x2 : Int32} {x3 : Int32} {x4 : Int32} {M : Mm} {q : Int32 × Mm} (hf : fX8_over a0 x1 x2 x3 x4 M = some q) : (mK M a0).1 = 9 := by
  unfold fX8_over at hf
  obtain ⟨u0, eu0, -⟩ := bnd hf
  exact kc_of eu0
set_option maxHeartbeats 4000000 in
set_option maxRecDepth 100000 in
theorem wX8_over {l : Launch} {Γ : Gx} {a0 : Nat} {x1 : Int32} {x2 : Int32} {x3 : Int32} {x4 : Int32} {M : Mm} {q : Int32 × Mm} (hf : fX8_over a0 x1 x2 x3 x4 M = some q) : AM l Γ 3 yX8_over cX8_over 5 ((some .int)) [.ref a0, .int x1, .int x2, .int x3, .int x4] M (some (.int q.1)) q.2 := by
  unfold fX8_over at hf
  refine AM.of mfX8_over (Nat.le_of_ble_eq_true rfl) ?_
  generalize mT M = t0
  generalize mW M = w0
  show AW _ _ _ _ _ _ _ _ _ 0 [(0, .ref a0), (1, .int x1), (2, .int x2), (3, .int x3), (4, .int x4)] [] _ _ _
  obtain ⟨u0, eu0, hf⟩ := bnd hf
  refine a_iload_n dX8_over_0 rfl 1 rfl ?_
  refine a_iconst (v := 1) dX8_over_1 (by decide) ?_
  refine a_icmp_lt dX8_over_2 (tgt := 46) (by decide) (fun c9 => ?_) (fun c9 => ?_)
  · replace hf := iteT hf c9
    refine a_aload_n dX8_over_46 rfl 0 rfl ?_
    refine a_bipush (v := -6) dX8_over_47 (by decide) ?_
    obtain ⟨q1_, eq1_, hf⟩ := bnd hf
    refine a_callV (As := [.int ((-6 : Int32))]) (rest := []) dX8_over_49 mfX8_refused cvX8_63 (wX8_refused eq1_) rc8 (kX8_refused eq1_) (by decide) rfl rfl (Nat.le_of_ble_eq_true rfl) ?_
    have e9 := Option.some.inj hf
    subst e9
    exact a_iret rfl dX8_over_52 rfl
  · replace hf := iteF hf c9
    refine a_iload_n dX8_over_5 rfl 1 rfl ?_
    refine a_bipush (v := 9) dX8_over_6 (by decide) ?_
    refine a_icmp_gt dX8_over_8 (tgt := 46) (by decide) (fun c9 => ?_) (fun c9 => ?_)
    · replace hf := iteT hf c9
      refine a_aload_n dX8_over_46 rfl 0 rfl ?_
      refine a_bipush (v := -6) dX8_over_47 (by decide) ?_
      obtain ⟨q2_, eq2_, hf⟩ := bnd hf
      refine a_callV (As := [.int ((-6 : Int32))]) (rest := []) dX8_over_49 mfX8_refused cvX8_63 (wX8_refused eq2_) rc8 (kX8_refused eq2_) (by decide) rfl rfl (Nat.le_of_ble_eq_true rfl) ?_
      have e9 := Option.some.inj hf
      subst e9
      exact a_iret rfl dX8_over_52 rfl
    · replace hf := iteF hf c9
      refine a_iload_n dX8_over_11 rfl 2 rfl ?_
      refine a_if_lt dX8_over_12 (tgt := 46) (by decide) (fun c9 => ?_) (fun c9 => ?_)
      · replace hf := iteT hf c9
        refine a_aload_n dX8_over_46 rfl 0 rfl ?_
        refine a_bipush (v := -6) dX8_over_47 (by decide) ?_
        obtain ⟨q3_, eq3_, hf⟩ := bnd hf
        refine a_callV (As := [.int ((-6 : Int32))]) (rest := []) dX8_over_49 mfX8_refused cvX8_63 (wX8_refused eq3_) rc8 (kX8_refused eq3_) (by decide) rfl rfl (Nat.le_of_ble_eq_true rfl) ?_
        have e9 := Option.some.inj hf
        subst e9
        exact a_iret rfl dX8_over_52 rfl
      · replace hf := iteF hf c9
        refine a_iload_n dX8_over_15 rfl 2 rfl ?_
        refine a_bipush (v := 10) dX8_over_16 (by decide) ?_
        refine a_icmp_gt dX8_over_18 (tgt := 46) (by decide) (fun c9 => ?_) (fun c9 => ?_)
        · replace hf := iteT hf c9
          refine a_aload_n dX8_over_46 rfl 0 rfl ?_
          refine a_bipush (v := -6) dX8_over_47 (by decide) ?_
          obtain ⟨q4_, eq4_, hf⟩ := bnd hf
          refine a_callV (As := [.int ((-6 : Int32))]) (rest := []) dX8_over_49 mfX8_refused cvX8_63 (wX8_refused eq4_) rc8 (kX8_refused eq4_) (by decide) rfl rfl (Nat.le_of_ble_eq_true rfl) ?_
          have e9 := Option.some.inj hf
          subst e9
          exact a_iret rfl dX8_over_52 rfl
        · replace hf := iteF hf c9
          refine a_iload_n dX8_over_21 rfl 3 rfl ?_
          refine a_if_lt dX8_over_22 (tgt := 46) (by decide) (fun c9 => ?_) (fun c9 => ?_)
          · replace hf := iteT hf c9
            refine a_aload_n dX8_over_46 rfl 0 rfl ?_
            refine a_bipush (v := -6) dX8_over_47 (by decide) ?_
            obtain ⟨q5_, eq5_, hf⟩ := bnd hf
            refine a_callV (As := [.int ((-6 : Int32))]) (rest := []) dX8_over_49 mfX8_refused cvX8_63 (wX8_refused eq5_) rc8 (kX8_refused eq5_) (by decide) rfl rfl (Nat.le_of_ble_eq_true rfl) ?_
            have e9 := Option.some.inj hf
            subst e9
            exact a_iret rfl dX8_over_52 rfl
          · replace hf := iteF hf c9
            refine a_iload_n dX8_over_25 rfl 3 rfl ?_
            refine a_bipush (v := 10) dX8_over_26 (by decide) ?_
            refine a_iload_n dX8_over_28 rfl 2 rfl ?_
            refine a_isub dX8_over_29 ?_
            refine a_icmp_gt dX8_over_30 (tgt := 46) (by decide) (fun c9 => ?_) (fun c9 => ?_)
            · replace hf := iteT hf c9
              refine a_aload_n dX8_over_46 rfl 0 rfl ?_
              refine a_bipush (v := -6) dX8_over_47 (by decide) ?_
              obtain ⟨q6_, eq6_, hf⟩ := bnd hf
              refine a_callV (As := [.int ((-6 : Int32))]) (rest := []) dX8_over_49 mfX8_refused cvX8_63 (wX8_refused eq6_) rc8 (kX8_refused eq6_) (by decide) rfl rfl (Nat.le_of_ble_eq_true rfl) ?_
              have e9 := Option.some.inj hf
              subst e9
              exact a_iret rfl dX8_over_52 rfl
            · replace hf := iteF hf c9
              refine a_iload dX8_over_33 4 rfl ?_
              refine a_iload_n dX8_over_35 rfl 1 rfl ?_
              refine a_ineg dX8_over_36 ?_
              refine a_icmp_lt dX8_over_37 (tgt := 46) (by decide) (fun c9 => ?_) (fun c9 => ?_)
              · replace hf := iteT hf c9
                refine a_aload_n dX8_over_46 rfl 0 rfl ?_
                refine a_bipush (v := -6) dX8_over_47 (by decide) ?_
                obtain ⟨q7_, eq7_, hf⟩ := bnd hf
                refine a_callV (As := [.int ((-6 : Int32))]) (rest := []) dX8_over_49 mfX8_refused cvX8_63 (wX8_refused eq7_) rc8 (kX8_refused eq7_) (by decide) rfl rfl (Nat.le_of_ble_eq_true rfl) ?_
                have e9 := Option.some.inj hf
                subst e9
                exact a_iret rfl dX8_over_52 rfl
              · replace hf := iteF hf c9
                refine a_iload dX8_over_40 4 rfl ?_
                refine a_iload_n dX8_over_42 rfl 1 rfl ?_
                refine a_icmp_le dX8_over_43 (tgt := 53) (by decide) (fun c9 => ?_) (fun c9 => ?_)
                · replace hf := iteT hf c9
                  refine a_aload_n dX8_over_53 rfl 0 rfl ?_
                  refine a_iload_n dX8_over_54 rfl 1 rfl ?_
                  refine a_iload_n dX8_over_55 rfl 2 rfl ?_
                  refine a_iload_n dX8_over_56 rfl 3 rfl ?_
                  refine a_iload dX8_over_57 4 rfl ?_
                  obtain ⟨q8_, eq8_, hf⟩ := bnd hf
                  refine a_callV (As := [.int x1, .int x2, .int x3, .int x4]) (rest := []) dX8_over_59 mfX8_driftedBy cvX8_301 (wX8_driftedBy eq8_) rc8 (kX8_driftedBy eq8_) (by decide) rfl rfl (Nat.le_of_ble_eq_true rfl) ?_
                  refine a_l2i dX8_over_62 ?_
                  have e9 := Option.some.inj hf
                  subst e9
                  exact a_iret rfl dX8_over_63 rfl
                · replace hf := iteF hf c9
                  refine a_aload_n dX8_over_46 rfl 0 rfl ?_
                  refine a_bipush (v := -6) dX8_over_47 (by decide) ?_
                  obtain ⟨q9_, eq9_, hf⟩ := bnd hf
                  refine a_callV (As := [.int ((-6 : Int32))]) (rest := []) dX8_over_49 mfX8_refused cvX8_63 (wX8_refused eq9_) rc8 (kX8_refused eq9_) (by decide) rfl rfl (Nat.le_of_ble_eq_true rfl) ?_
                  have e9 := Option.some.inj hf
                  subst e9
                  exact a_iret rfl dX8_over_52 rfl
set_option maxHeartbeats 4000000 in
set_option maxRecDepth 100000 in
theorem wX8_knownOfHundred_b34 {l : Launch} {Γ : Gx} {t0 w0 : Nat} {q : Int32 × Mm} : ∀ (n : Nat) (x1 : Int32) (x3 : Int32) (x4 : Int32) (M : Mm), fX8_knownOfHundred_b34 n x1 x3 x4 M = some q → AW l Γ yX8_knownOfHundred cX8_knownOfHundred 5 ((some .int)) 1 t0 w0 34 [(1, .int x1), (3, .int x3), (4, .int x4)] [] M (some (.int q.1)) q.2 := by
  intro n
  induction n with
  | zero =>
    intro x1 x3 x4 M hf
    cases hf
  | succ n ih =>
    intro x1 x3 x4 M hf
    rw [fX8_knownOfHundred_b34.eq_2] at hf
    refine a_iload dX8_knownOfHundred_34 2 rfl ?_
    refine a_iload_n dX8_knownOfHundred_36 rfl 0 rfl ?_
    refine a_icmp_ge dX8_knownOfHundred_37 (tgt := 62) (by decide) (fun c9 => ?_) (fun c9 => ?_)
    · replace hf := iteT hf c9
      refine a_iload_n dX8_knownOfHundred_62 rfl 1 rfl ?_
      have e9 := Option.some.inj hf
      subst e9
      exact a_iret rfl dX8_knownOfHundred_63 rfl
    · replace hf := iteF hf c9
      refine a_iload_n dX8_knownOfHundred_40 rfl 1 rfl ?_
      refine a_if_le dX8_knownOfHundred_41 (tgt := 62) (by decide) (fun c9 => ?_) (fun c9 => ?_)
      · replace hf := iteT hf c9
        refine a_iload_n dX8_knownOfHundred_62 rfl 1 rfl ?_
        have e9 := Option.some.inj hf
        subst e9
        exact a_iret rfl dX8_knownOfHundred_63 rfl
      · replace hf := iteF hf c9
        refine a_iload_n dX8_knownOfHundred_44 rfl 1 rfl ?_
        refine a_iload_n dX8_knownOfHundred_45 rfl 1 rfl ?_
        refine a_bipush (v := 10) dX8_knownOfHundred_46 (by decide) ?_
        refine a_iadd dX8_knownOfHundred_48 ?_
        refine a_iconst (v := 1) dX8_knownOfHundred_49 (by decide) ?_
        refine a_isub dX8_knownOfHundred_50 ?_
        refine a_bipush (v := 10) dX8_knownOfHundred_51 (by decide) ?_
        obtain ⟨z1_, ez1_, hf⟩ := bnd hf
        refine a_idiv dX8_knownOfHundred_53 ez1_ ?_
        refine a_isub dX8_knownOfHundred_54 ?_
        refine a_istore_n (i := 3) (lv1 := [(3, .int (x3 - z1_)), (1, .int x1), (4, .int x4)]) dX8_knownOfHundred_55 rfl (by decide) rfl ?_
        refine a_iinc (v := x4 + (1 : Int32)) (lv1 := [(4, .int (x4 + (1 : Int32))), (3, .int (x3 - z1_)), (1, .int x1)]) dX8_knownOfHundred_56 2 rfl rfl (by decide) rfl ?_
        refine a_goto (tgt := 34) dX8_knownOfHundred_59 (by decide) ?_
        refine AW.sub (lv1 := [(1, .int x1), (3, .int (x3 - z1_)), (4, .int (x4 + (1 : Int32)))]) [2, 1, 0] rfl ?_
        exact ih _ _ _ _ hf
set_option maxHeartbeats 4000000 in
set_option maxRecDepth 100000 in
theorem wX8_knownOfHundred_b26 {l : Launch} {Γ : Gx} {t0 w0 : Nat} {q : Int32 × Mm} (x1 : Int32) (x2 : Int32) (M : Mm) (hf : fX8_knownOfHundred_b26 x1 x2 M = some q) : AW l Γ yX8_knownOfHundred cX8_knownOfHundred 5 ((some .int)) 1 t0 w0 26 [(1, .int x1), (2, .int x2)] [] M (some (.int q.1)) q.2 := by
  unfold fX8_knownOfHundred_b26 at hf
  refine a_bipush (v := 100) dX8_knownOfHundred_26 (by decide) ?_
  refine a_iload_n dX8_knownOfHundred_28 rfl 1 rfl ?_
  refine a_isub dX8_knownOfHundred_29 ?_
  refine a_istore_n (i := 3) (lv1 := [(3, .int (((100 : Int32)) - x2)), (1, .int x1), (2, .int x2)]) dX8_knownOfHundred_30 rfl (by decide) rfl ?_
  refine a_iconst (v := 0) dX8_knownOfHundred_31 (by decide) ?_
  refine a_istore (i := 4) (lv1 := [(4, .int ((0 : Int32))), (3, .int (((100 : Int32)) - x2)), (1, .int x1), (2, .int x2)]) dX8_knownOfHundred_32 (by decide) rfl ?_
  refine AW.sub (lv1 := [(1, .int x1), (3, .int (((100 : Int32)) - x2)), (4, .int ((0 : Int32)))]) [2, 1, 0] rfl ?_
  exact wX8_knownOfHundred_b34 _ _ _ _ _ hf
set_option maxHeartbeats 4000000 in
set_option maxRecDepth 100000 in
theorem wX8_knownOfHundred_b5 {l : Launch} {Γ : Gx} {t0 w0 : Nat} {q : Int32 × Mm} : ∀ (n : Nat) (x0 : Int32) (x1 : Int32) (x2 : Int32) (x3 : Int32) (M : Mm), fX8_knownOfHundred_b5 n x0 x1 x2 x3 M = some q → AW l Γ yX8_knownOfHundred cX8_knownOfHundred 5 ((some .int)) 1 t0 w0 5 [(0, .int x0), (1, .int x1), (2, .int x2), (3, .int x3)] [] M (some (.int q.1)) q.2 := by
  intro n
  induction n with
  | zero =>
    intro x0 x1 x2 x3 M hf
    cases hf
  | succ n ih =>
    intro x0 x1 x2 x3 M hf
    rw [fX8_knownOfHundred_b5.eq_2] at hf
    refine a_iload_n dX8_knownOfHundred_5 rfl 3 rfl ?_
    refine a_iload_n dX8_knownOfHundred_6 rfl 0 rfl ?_
    refine a_icmp_ge dX8_knownOfHundred_7 (tgt := 26) (by decide) (fun c9 => ?_) (fun c9 => ?_)
    · replace hf := iteT hf c9
      refine AW.sub (lv1 := [(1, .int x1), (2, .int x2)]) [1, 2] rfl ?_
      exact wX8_knownOfHundred_b26 _ _ _ hf
    · replace hf := iteF hf c9
      refine a_iload_n dX8_knownOfHundred_10 rfl 2 rfl ?_
      refine a_if_le dX8_knownOfHundred_11 (tgt := 26) (by decide) (fun c9 => ?_) (fun c9 => ?_)
      · replace hf := iteT hf c9
        refine AW.sub (lv1 := [(1, .int x1), (2, .int x2)]) [1, 2] rfl ?_
        exact wX8_knownOfHundred_b26 _ _ _ hf
      · replace hf := iteF hf c9
        refine a_iload_n dX8_knownOfHundred_14 rfl 2 rfl ?_
        refine a_iconst (v := 3) dX8_knownOfHundred_15 (by decide) ?_
        refine a_imul dX8_knownOfHundred_16 ?_
        refine a_iconst (v := 4) dX8_knownOfHundred_17 (by decide) ?_
        obtain ⟨z1_, ez1_, hf⟩ := bnd hf
        refine a_idiv dX8_knownOfHundred_18 ez1_ ?_
        refine a_istore_n (i := 2) (lv1 := [(2, .int z1_), (0, .int x0), (1, .int x1), (3, .int x3)]) dX8_knownOfHundred_19 rfl (by decide) rfl ?_
        refine a_iinc (v := x3 + (1 : Int32)) (lv1 := [(3, .int (x3 + (1 : Int32))), (2, .int z1_), (0, .int x0), (1, .int x1)]) dX8_knownOfHundred_20 3 rfl rfl (by decide) rfl ?_
        refine a_goto (tgt := 5) dX8_knownOfHundred_23 (by decide) ?_
        refine AW.sub (lv1 := [(0, .int x0), (1, .int x1), (2, .int z1_), (3, .int (x3 + (1 : Int32)))]) [2, 3, 1, 0] rfl ?_
        exact ih _ _ _ _ _ hf
set_option maxHeartbeats 4000000 in
set_option maxRecDepth 100000 in
theorem wX8_knownOfHundred {l : Launch} {Γ : Gx} {x0 : Int32} {x1 : Int32} {M : Mm} {q : Int32 × Mm} (hf : fX8_knownOfHundred x0 x1 M = some q) : AM l Γ 1 yX8_knownOfHundred cX8_knownOfHundred 5 ((some .int)) [.int x0, .int x1] M (some (.int q.1)) q.2 := by
  unfold fX8_knownOfHundred at hf
  refine AM.of mfX8_knownOfHundred (Nat.le_of_ble_eq_true rfl) ?_
  generalize mT M = t0
  generalize mW M = w0
  show AW _ _ _ _ _ _ _ _ _ 0 [(0, .int x0), (1, .int x1)] [] _ _ _
  refine a_bipush (v := 100) dX8_knownOfHundred_0 (by decide) ?_
  refine a_istore_n (i := 2) (lv1 := [(2, .int ((100 : Int32))), (0, .int x0), (1, .int x1)]) dX8_knownOfHundred_2 rfl (by decide) rfl ?_
  refine a_iconst (v := 0) dX8_knownOfHundred_3 (by decide) ?_
  refine a_istore_n (i := 3) (lv1 := [(3, .int ((0 : Int32))), (2, .int ((100 : Int32))), (0, .int x0), (1, .int x1)]) dX8_knownOfHundred_4 rfl (by decide) rfl ?_
  refine AW.sub (lv1 := [(0, .int x0), (1, .int x1), (2, .int ((100 : Int32))), (3, .int ((0 : Int32)))]) [2, 3, 1, 0] rfl ?_
  exact wX8_knownOfHundred_b5 _ _ _ _ _ _ hf
theorem kX8_learnt {a0 : Nat} {x1 : Int32} {x2 : Int32} {M : Mm} {q : Int32 × Mm} (hf : fX8_learnt a0 x1 x2 M = some q) : (mK M a0).1 = 9 := by
  unfold fX8_learnt at hf
  obtain ⟨u0, eu0, -⟩ := bnd hf
  exact kc_of eu0
set_option maxHeartbeats 4000000 in
set_option maxRecDepth 100000 in
theorem wX8_learnt {l : Launch} {Γ : Gx} {a0 : Nat} {x1 : Int32} {x2 : Int32} {M : Mm} {q : Int32 × Mm} (hf : fX8_learnt a0 x1 x2 M = some q) : AM l Γ 2 yX8_learnt cX8_learnt 3 ((some .int)) [.ref a0, .int x1, .int x2] M (some (.int q.1)) q.2 := by
  unfold fX8_learnt at hf
  refine AM.of mfX8_learnt (Nat.le_of_ble_eq_true rfl) ?_
  generalize mT M = t0
  generalize mW M = w0
  show AW _ _ _ _ _ _ _ _ _ 0 [(0, .ref a0), (1, .int x1), (2, .int x2)] [] _ _ _
  obtain ⟨u0, eu0, hf⟩ := bnd hf
  refine a_iload_n dX8_learnt_0 rfl 1 rfl ?_
  refine a_if_lt dX8_learnt_1 (tgt := 20) (by decide) (fun c9 => ?_) (fun c9 => ?_)
  · replace hf := iteT hf c9
    refine a_aload_n dX8_learnt_20 rfl 0 rfl ?_
    refine a_bipush (v := -6) dX8_learnt_21 (by decide) ?_
    obtain ⟨q1_, eq1_, hf⟩ := bnd hf
    refine a_callV (As := [.int ((-6 : Int32))]) (rest := []) dX8_learnt_23 mfX8_refused cvX8_63 (wX8_refused eq1_) rc8 (kX8_refused eq1_) (by decide) rfl rfl (Nat.le_of_ble_eq_true rfl) ?_
    have e9 := Option.some.inj hf
    subst e9
    exact a_iret rfl dX8_learnt_26 rfl
  · replace hf := iteF hf c9
    refine a_iload_n dX8_learnt_4 rfl 1 rfl ?_
    refine a_bipush (v := 99) dX8_learnt_5 (by decide) ?_
    refine a_icmp_gt dX8_learnt_7 (tgt := 20) (by decide) (fun c9 => ?_) (fun c9 => ?_)
    · replace hf := iteT hf c9
      refine a_aload_n dX8_learnt_20 rfl 0 rfl ?_
      refine a_bipush (v := -6) dX8_learnt_21 (by decide) ?_
      obtain ⟨q2_, eq2_, hf⟩ := bnd hf
      refine a_callV (As := [.int ((-6 : Int32))]) (rest := []) dX8_learnt_23 mfX8_refused cvX8_63 (wX8_refused eq2_) rc8 (kX8_refused eq2_) (by decide) rfl rfl (Nat.le_of_ble_eq_true rfl) ?_
      have e9 := Option.some.inj hf
      subst e9
      exact a_iret rfl dX8_learnt_26 rfl
    · replace hf := iteF hf c9
      refine a_iload_n dX8_learnt_10 rfl 2 rfl ?_
      refine a_if_lt dX8_learnt_11 (tgt := 20) (by decide) (fun c9 => ?_) (fun c9 => ?_)
      · replace hf := iteT hf c9
        refine a_aload_n dX8_learnt_20 rfl 0 rfl ?_
        refine a_bipush (v := -6) dX8_learnt_21 (by decide) ?_
        obtain ⟨q3_, eq3_, hf⟩ := bnd hf
        refine a_callV (As := [.int ((-6 : Int32))]) (rest := []) dX8_learnt_23 mfX8_refused cvX8_63 (wX8_refused eq3_) rc8 (kX8_refused eq3_) (by decide) rfl rfl (Nat.le_of_ble_eq_true rfl) ?_
        have e9 := Option.some.inj hf
        subst e9
        exact a_iret rfl dX8_learnt_26 rfl
      · replace hf := iteF hf c9
        refine a_iload_n dX8_learnt_14 rfl 2 rfl ?_
        refine a_bipush (v := 99) dX8_learnt_15 (by decide) ?_
        refine a_icmp_le dX8_learnt_17 (tgt := 27) (by decide) (fun c9 => ?_) (fun c9 => ?_)
        · replace hf := iteT hf c9
          refine a_iload_n dX8_learnt_27 rfl 1 rfl ?_
          refine a_iload_n dX8_learnt_28 rfl 2 rfl ?_
          obtain ⟨q4_, eq4_, hf⟩ := bnd hf
          refine a_callS (As := [.int x1, .int x2]) (rest := []) dX8_learnt_29 mfX8_knownOfHundred csX8_305 (wX8_knownOfHundred eq4_) (by decide) rfl rfl (Nat.le_of_ble_eq_true rfl) ?_
          have e9 := Option.some.inj hf
          subst e9
          exact a_iret rfl dX8_learnt_32 rfl
        · replace hf := iteF hf c9
          refine a_aload_n dX8_learnt_20 rfl 0 rfl ?_
          refine a_bipush (v := -6) dX8_learnt_21 (by decide) ?_
          obtain ⟨q5_, eq5_, hf⟩ := bnd hf
          refine a_callV (As := [.int ((-6 : Int32))]) (rest := []) dX8_learnt_23 mfX8_refused cvX8_63 (wX8_refused eq5_) rc8 (kX8_refused eq5_) (by decide) rfl rfl (Nat.le_of_ble_eq_true rfl) ?_
          have e9 := Option.some.inj hf
          subst e9
          exact a_iret rfl dX8_learnt_26 rfl
theorem kX8_goings {a0 : Nat} {x1 : Int32} {x2 : Int32} {M : Mm} {q : Int32 × Mm} (hf : fX8_goings a0 x1 x2 M = some q) : (mK M a0).1 = 9 := by
  unfold fX8_goings at hf
  obtain ⟨u0, eu0, -⟩ := bnd hf
  exact kc_of eu0
set_option maxHeartbeats 4000000 in
set_option maxRecDepth 100000 in
theorem wX8_goings_b32 {l : Launch} {Γ : Gx} {t0 w0 : Nat} {q : Int32 × Mm} : ∀ (n : Nat) (x1 : Int32) (x2 : Int32) (x3 : Int32) (M : Mm), fX8_goings_b32 n x1 x2 x3 M = some q → AW l Γ yX8_goings cX8_goings 4 ((some .int)) 2 t0 w0 32 [(1, .int x1), (2, .int x2), (3, .int x3)] [] M (some (.int q.1)) q.2 := by
  intro n
  induction n with
  | zero =>
    intro x1 x2 x3 M hf
    cases hf
  | succ n ih =>
    intro x1 x2 x3 M hf
    rw [fX8_goings_b32.eq_2] at hf
    refine a_iload_n dX8_goings_32 rfl 2 rfl ?_
    refine a_bipush (v := 99) dX8_goings_33 (by decide) ?_
    refine a_icmp_gt dX8_goings_35 (tgt := 55) (by decide) (fun c9 => ?_) (fun c9 => ?_)
    · replace hf := iteT hf c9
      refine a_iconst (v := -1) dX8_goings_55 (by decide) ?_
      have e9 := Option.some.inj hf
      subst e9
      exact a_iret rfl dX8_goings_56 rfl
    · replace hf := iteF hf c9
      refine a_iload_n dX8_goings_38 rfl 2 rfl ?_
      refine a_iload_n dX8_goings_39 rfl 1 rfl ?_
      obtain ⟨q1_, eq1_, hf⟩ := bnd hf
      refine a_callS (As := [.int x3, .int x2]) (rest := []) dX8_goings_40 mfX8_knownOfHundred csX8_305 (wX8_knownOfHundred eq1_) (by decide) rfl rfl (Nat.le_of_ble_eq_true rfl) ?_
      refine a_iload_n dX8_goings_43 rfl 0 rfl ?_
      refine a_icmp_lt dX8_goings_44 (tgt := 49) (by decide) (fun c9 => ?_) (fun c9 => ?_)
      · replace hf := iteT hf c9
        refine a_iinc (v := x3 + (1 : Int32)) (lv1 := [(3, .int (x3 + (1 : Int32))), (1, .int x1), (2, .int x2)]) dX8_goings_49 2 rfl rfl (by decide) rfl ?_
        refine a_goto (tgt := 32) dX8_goings_52 (by decide) ?_
        refine AW.sub (lv1 := [(1, .int x1), (2, .int x2), (3, .int (x3 + (1 : Int32)))]) [1, 2, 0] rfl ?_
        exact ih _ _ _ _ hf
      · replace hf := iteF hf c9
        refine a_iload_n dX8_goings_47 rfl 2 rfl ?_
        have e9 := Option.some.inj hf
        subst e9
        exact a_iret rfl dX8_goings_48 rfl
set_option maxHeartbeats 4000000 in
set_option maxRecDepth 100000 in
theorem wX8_goings {l : Launch} {Γ : Gx} {a0 : Nat} {x1 : Int32} {x2 : Int32} {M : Mm} {q : Int32 × Mm} (hf : fX8_goings a0 x1 x2 M = some q) : AM l Γ 2 yX8_goings cX8_goings 4 ((some .int)) [.ref a0, .int x1, .int x2] M (some (.int q.1)) q.2 := by
  unfold fX8_goings at hf
  refine AM.of mfX8_goings (Nat.le_of_ble_eq_true rfl) ?_
  generalize mT M = t0
  generalize mW M = w0
  show AW _ _ _ _ _ _ _ _ _ 0 [(0, .ref a0), (1, .int x1), (2, .int x2)] [] _ _ _
  obtain ⟨u0, eu0, hf⟩ := bnd hf
  refine a_iload_n dX8_goings_0 rfl 1 rfl ?_
  refine a_if_lt dX8_goings_1 (tgt := 20) (by decide) (fun c9 => ?_) (fun c9 => ?_)
  · replace hf := iteT hf c9
    refine a_aload_n dX8_goings_20 rfl 0 rfl ?_
    refine a_bipush (v := -6) dX8_goings_21 (by decide) ?_
    obtain ⟨q1_, eq1_, hf⟩ := bnd hf
    refine a_callV (As := [.int ((-6 : Int32))]) (rest := []) dX8_goings_23 mfX8_refused cvX8_63 (wX8_refused eq1_) rc8 (kX8_refused eq1_) (by decide) rfl rfl (Nat.le_of_ble_eq_true rfl) ?_
    refine a_bipush (v := -10) dX8_goings_26 (by decide) ?_
    refine a_iadd dX8_goings_28 ?_
    have e9 := Option.some.inj hf
    subst e9
    exact a_iret rfl dX8_goings_29 rfl
  · replace hf := iteF hf c9
    refine a_iload_n dX8_goings_4 rfl 1 rfl ?_
    refine a_bipush (v := 100) dX8_goings_5 (by decide) ?_
    refine a_icmp_gt dX8_goings_7 (tgt := 20) (by decide) (fun c9 => ?_) (fun c9 => ?_)
    · replace hf := iteT hf c9
      refine a_aload_n dX8_goings_20 rfl 0 rfl ?_
      refine a_bipush (v := -6) dX8_goings_21 (by decide) ?_
      obtain ⟨q2_, eq2_, hf⟩ := bnd hf
      refine a_callV (As := [.int ((-6 : Int32))]) (rest := []) dX8_goings_23 mfX8_refused cvX8_63 (wX8_refused eq2_) rc8 (kX8_refused eq2_) (by decide) rfl rfl (Nat.le_of_ble_eq_true rfl) ?_
      refine a_bipush (v := -10) dX8_goings_26 (by decide) ?_
      refine a_iadd dX8_goings_28 ?_
      have e9 := Option.some.inj hf
      subst e9
      exact a_iret rfl dX8_goings_29 rfl
    · replace hf := iteF hf c9
      refine a_iload_n dX8_goings_10 rfl 2 rfl ?_
      refine a_if_lt dX8_goings_11 (tgt := 20) (by decide) (fun c9 => ?_) (fun c9 => ?_)
      · replace hf := iteT hf c9
        refine a_aload_n dX8_goings_20 rfl 0 rfl ?_
        refine a_bipush (v := -6) dX8_goings_21 (by decide) ?_
        obtain ⟨q3_, eq3_, hf⟩ := bnd hf
        refine a_callV (As := [.int ((-6 : Int32))]) (rest := []) dX8_goings_23 mfX8_refused cvX8_63 (wX8_refused eq3_) rc8 (kX8_refused eq3_) (by decide) rfl rfl (Nat.le_of_ble_eq_true rfl) ?_
        refine a_bipush (v := -10) dX8_goings_26 (by decide) ?_
        refine a_iadd dX8_goings_28 ?_
        have e9 := Option.some.inj hf
        subst e9
        exact a_iret rfl dX8_goings_29 rfl
      · replace hf := iteF hf c9
        refine a_iload_n dX8_goings_14 rfl 2 rfl ?_
        refine a_bipush (v := 99) dX8_goings_15 (by decide) ?_
        refine a_icmp_le dX8_goings_17 (tgt := 30) (by decide) (fun c9 => ?_) (fun c9 => ?_)
        · replace hf := iteT hf c9
          refine a_iconst (v := 0) dX8_goings_30 (by decide) ?_
          refine a_istore_n (i := 3) (lv1 := [(3, .int ((0 : Int32))), (0, .ref a0), (1, .int x1), (2, .int x2)]) dX8_goings_31 rfl (by decide) rfl ?_
          refine AW.sub (lv1 := [(1, .int x1), (2, .int x2), (3, .int ((0 : Int32)))]) [2, 3, 0] rfl ?_
          exact wX8_goings_b32 _ _ _ _ _ hf
        · replace hf := iteF hf c9
          refine a_aload_n dX8_goings_20 rfl 0 rfl ?_
          refine a_bipush (v := -6) dX8_goings_21 (by decide) ?_
          obtain ⟨q4_, eq4_, hf⟩ := bnd hf
          refine a_callV (As := [.int ((-6 : Int32))]) (rest := []) dX8_goings_23 mfX8_refused cvX8_63 (wX8_refused eq4_) rc8 (kX8_refused eq4_) (by decide) rfl rfl (Nat.le_of_ble_eq_true rfl) ?_
          refine a_bipush (v := -10) dX8_goings_26 (by decide) ?_
          refine a_iadd dX8_goings_28 ?_
          have e9 := Option.some.inj hf
          subst e9
          exact a_iret rfl dX8_goings_29 rfl
theorem kX8_begin {a0 : Nat} {x1 : Int32} {M : Mm} {q : Int32 × Mm} (hf : fX8_begin a0 x1 M = some q) : (mK M a0).1 = 9 := by
  unfold fX8_begin at hf
  obtain ⟨u0, eu0, -⟩ := bnd hf
  exact kc_of eu0
set_option maxHeartbeats 4000000 in
set_option maxRecDepth 100000 in
theorem wX8_begin {l : Launch} {Γ : Gx} {a0 : Nat} {x1 : Int32} {M : Mm} {q : Int32 × Mm} (hf : fX8_begin a0 x1 M = some q) : AM l Γ 2 yX8_begin cX8_begin 3 ((some .int)) [.ref a0, .int x1] M (some (.int q.1)) q.2 := by
  unfold fX8_begin at hf
  refine AM.of mfX8_begin (Nat.le_of_ble_eq_true rfl) ?_
  generalize mT M = t0
  generalize mW M = w0
  show AW _ _ _ _ _ _ _ _ _ 0 [(0, .ref a0), (1, .int x1)] [] _ _ _
  obtain ⟨u0, eu0, hf⟩ := bnd hf
  refine a_aload_n dX8_begin_0 rfl 0 rfl ?_
  obtain ⟨o1_, eo1_, hf⟩ := bnd hf
  refine a_getR dX8_begin_1 flX8_18 rfl eo1_ ?_
  refine a_iload_n dX8_begin_4 rfl 1 rfl ?_
  obtain ⟨q2_, eq2_, hf⟩ := bnd hf
  refine a_callV (As := [.int x1]) (rest := []) dX8_begin_5 mfX5_hasCell cvX8_130 (wX5_hasCell eq2_) rc5 (kX5_hasCell eq2_) (by decide) rfl rfl (Nat.le_of_ble_eq_true rfl) ?_
  refine a_if_ne dX8_begin_8 (tgt := 17) (by decide) (fun c9 => ?_) (fun c9 => ?_)
  · replace hf := iteF hf c9
    refine a_aload_n dX8_begin_17 rfl 0 rfl ?_
    obtain ⟨o3_, eo3_, hf⟩ := bnd hf
    refine a_getR dX8_begin_18 flX8_18 rfl eo3_ ?_
    obtain ⟨v4_, ev4_, hf⟩ := bnd hf
    refine a_getI dX8_begin_21 flX8_309 rfl ev4_ ?_
    refine a_istore_n (i := 2) (lv1 := [(2, .int v4_), (0, .ref a0), (1, .int x1)]) dX8_begin_24 rfl (by decide) rfl ?_
    refine a_aload_n dX8_begin_25 rfl 1 rfl ?_
    obtain ⟨o5_, eo5_, hf⟩ := bnd hf
    refine a_getR dX8_begin_26 flX8_18 rfl eo5_ ?_
    refine a_iload_n dX8_begin_29 rfl 2 rfl ?_
    obtain ⟨M6_, eM6_, hf⟩ := bnd hf
    refine a_putI dX8_begin_30 fpX8_309 rfl (Or.inr nf5_13) eM6_ ?_
    refine a_iload_n dX8_begin_33 rfl 0 rfl ?_
    have e9 := Option.some.inj hf
    subst e9
    exact a_iret rfl dX8_begin_34 rfl
  · replace hf := iteT hf c9
    refine a_aload_n dX8_begin_11 rfl 0 rfl ?_
    refine a_iconst (v := -1) dX8_begin_12 (by decide) ?_
    obtain ⟨q7_, eq7_, hf⟩ := bnd hf
    refine a_callV (As := [.int ((-1 : Int32))]) (rest := []) dX8_begin_13 mfX8_refused cvX8_63 (wX8_refused eq7_) rc8 (kX8_refused eq7_) (by decide) rfl rfl (Nat.le_of_ble_eq_true rfl) ?_
    have e9 := Option.some.inj hf
    subst e9
    exact a_iret rfl dX8_begin_16 rfl
set_option maxHeartbeats 4000000 in
set_option maxRecDepth 100000 in
theorem wX8_seedBehind {l : Launch} {Γ : Gx} {x0 : Int32} {M : Mm} {q : Int32 × Mm} (hf : fX8_seedBehind x0 M = some q) : AM l Γ 1 yX8_seedBehind cX8_seedBehind 1 ((some .int)) [.int x0] M (some (.int q.1)) q.2 := by
  unfold fX8_seedBehind at hf
  refine AM.of mfX8_seedBehind (Nat.le_of_ble_eq_true rfl) ?_
  generalize mT M = t0
  generalize mW M = w0
  show AW _ _ _ _ _ _ _ _ _ 0 [(0, .int x0)] [] _ _ _
  refine a_iload_n dX8_seedBehind_0 rfl 0 rfl ?_
  refine a_ldcw (v := 1103515245) dX8_seedBehind_1 wcX8_370 ?_
  refine a_imul dX8_seedBehind_4 ?_
  refine a_sipush (v := 12345) dX8_seedBehind_5 (by decide) ?_
  refine a_iadd dX8_seedBehind_8 ?_
  have e9 := Option.some.inj hf
  subst e9
  exact a_iret rfl dX8_seedBehind_9 rfl
set_option maxHeartbeats 4000000 in
set_option maxRecDepth 100000 in
theorem wX8_drawOf {l : Launch} {Γ : Gx} {x0 : Int32} {M : Mm} {q : Int32 × Mm} (hf : fX8_drawOf x0 M = some q) : AM l Γ 1 yX8_drawOf cX8_drawOf 1 ((some .int)) [.int x0] M (some (.int q.1)) q.2 := by
  unfold fX8_drawOf at hf
  refine AM.of mfX8_drawOf (Nat.le_of_ble_eq_true rfl) ?_
  generalize mT M = t0
  generalize mW M = w0
  show AW _ _ _ _ _ _ _ _ _ 0 [(0, .int x0)] [] _ _ _
  refine a_iload_n dX8_drawOf_0 rfl 0 rfl ?_
  refine a_bipush (v := 16) dX8_drawOf_1 (by decide) ?_
  refine a_iushr dX8_drawOf_3 ?_
  refine a_bipush (v := 10) dX8_drawOf_4 (by decide) ?_
  obtain ⟨z1_, ez1_, hf⟩ := bnd hf
  refine a_irem dX8_drawOf_6 ez1_ ?_
  have e9 := Option.some.inj hf
  subst e9
  exact a_iret rfl dX8_drawOf_7 rfl
theorem kX8_goes {a0 : Nat} {x1 : Int32} {M : Mm} {q : Int32 × Mm} (hf : fX8_goes a0 x1 M = some q) : (mK M a0).1 = 9 := by
  unfold fX8_goes at hf
  obtain ⟨u0, eu0, -⟩ := bnd hf
  exact kc_of eu0
set_option maxHeartbeats 4000000 in
set_option maxRecDepth 100000 in
theorem wX8_goes_b130 {l : Launch} {Γ : Gx} {t0 w0 : Nat} {q : Int32 × Mm} (a0 : Nat) (x1 : Int32) (x3 : Int32) (s0 : Nat) (s1 : Nat) (s2 : Int32) (s3 : Int32) (M : Mm) (hf : fX8_goes_b130 a0 x1 x3 s0 s1 s2 s3 M = some q) : AW l Γ yX8_goes cX8_goes 4 ((some .int)) 4 t0 w0 130 [(0, .ref a0), (1, .int x1), (3, .int x3)] [.int s3, .int s2, .ref s1, .ref s0] M (some (.int q.1)) q.2 := by
  unfold fX8_goes_b130 at hf
  obtain ⟨q1_, eq1_, hf⟩ := bnd hf
  refine a_callV (As := [.int s2, .int s3]) (rest := [.ref s0]) dX8_goes_130 mfX5_reach cvX8_321 (wX5_reach eq1_) rc5 (kX5_reach eq1_) (by decide) rfl rfl (Nat.le_of_ble_eq_true rfl) ?_
  obtain ⟨M2_, eM2_, hf⟩ := bnd hf
  refine a_putI dX8_goes_133 fpX8_309 rfl (Or.inr nf5_13) eM2_ ?_
  refine a_aload_n dX8_goes_136 rfl 0 rfl ?_
  obtain ⟨o3_, eo3_, hf⟩ := bnd hf
  refine a_getR dX8_goes_137 flX8_18 rfl eo3_ ?_
  refine a_iload_n dX8_goes_140 rfl 1 rfl ?_
  obtain ⟨M4_, eM4_, hf⟩ := bnd hf
  refine a_callV (As := [.int x1]) (rest := []) dX8_goes_141 mfX5_hearStep cvX8_242 (wX5_hearStep eM4_) rc5 (kX5_hearStep eM4_) (by decide) rfl rfl (Nat.le_of_ble_eq_true rfl) ?_
  refine a_iload_n dX8_goes_144 rfl 2 rfl ?_
  have e9 := Option.some.inj hf
  subst e9
  exact a_iret rfl dX8_goes_145 rfl
set_option maxHeartbeats 4000000 in
set_option maxRecDepth 100000 in
theorem wX8_goes_b104 {l : Launch} {Γ : Gx} {t0 w0 : Nat} {q : Int32 × Mm} (a0 : Nat) (x1 : Int32) (s0 : Int32) (M : Mm) (hf : fX8_goes_b104 a0 x1 s0 M = some q) : AW l Γ yX8_goes cX8_goes 4 ((some .int)) 4 t0 w0 104 [(0, .ref a0), (1, .int x1)] [.int s0] M (some (.int q.1)) q.2 := by
  unfold fX8_goes_b104 at hf
  refine a_istore_n (i := 3) (lv1 := [(3, .int s0), (0, .ref a0), (1, .int x1)]) dX8_goes_104 rfl (by decide) rfl ?_
  refine a_aload_n dX8_goes_105 rfl 1 rfl ?_
  obtain ⟨o1_, eo1_, hf⟩ := bnd hf
  refine a_getR dX8_goes_106 flX8_18 rfl eo1_ ?_
  refine a_aload_n dX8_goes_109 rfl 1 rfl ?_
  obtain ⟨o2_, eo2_, hf⟩ := bnd hf
  refine a_getR dX8_goes_110 flX8_18 rfl eo2_ ?_
  refine a_aload_n dX8_goes_113 rfl 1 rfl ?_
  obtain ⟨o3_, eo3_, hf⟩ := bnd hf
  refine a_getR dX8_goes_114 flX8_18 rfl eo3_ ?_
  obtain ⟨v4_, ev4_, hf⟩ := bnd hf
  refine a_getI dX8_goes_117 flX8_309 rfl ev4_ ?_
  refine a_iload_n dX8_goes_120 rfl 2 rfl ?_
  refine a_if_eq dX8_goes_121 (tgt := 129) (by decide) (fun c9 => ?_) (fun c9 => ?_)
  · replace hf := iteT hf c9
    refine a_iload_n dX8_goes_129 rfl 0 rfl ?_
    refine AW.sub (lv1 := [(0, .ref a0), (1, .int x1), (3, .int s0)]) [1, 2, 0] rfl ?_
    exact wX8_goes_b130 _ _ _ _ _ _ _ _ hf
  · replace hf := iteF hf c9
    refine a_iload_n dX8_goes_124 rfl 0 rfl ?_
    refine a_ineg dX8_goes_125 ?_
    refine a_goto (tgt := 130) dX8_goes_126 (by decide) ?_
    refine AW.sub (lv1 := [(0, .ref a0), (1, .int x1), (3, .int s0)]) [1, 2, 0] rfl ?_
    exact wX8_goes_b130 _ _ _ _ _ _ _ _ hf
set_option maxHeartbeats 4000000 in
set_option maxRecDepth 100000 in
theorem wX8_goes {l : Launch} {Γ : Gx} {a0 : Nat} {x1 : Int32} {M : Mm} {q : Int32 × Mm} (hf : fX8_goes a0 x1 M = some q) : AM l Γ 4 yX8_goes cX8_goes 4 ((some .int)) [.ref a0, .int x1] M (some (.int q.1)) q.2 := by
  unfold fX8_goes at hf
  refine AM.of mfX8_goes (Nat.le_of_ble_eq_true rfl) ?_
  generalize mT M = t0
  generalize mW M = w0
  show AW _ _ _ _ _ _ _ _ _ 0 [(0, .ref a0), (1, .int x1)] [] _ _ _
  obtain ⟨u0, eu0, hf⟩ := bnd hf
  refine a_aload_n dX8_goes_0 rfl 0 rfl ?_
  obtain ⟨o1_, eo1_, hf⟩ := bnd hf
  refine a_getR dX8_goes_1 flX8_18 rfl eo1_ ?_
  obtain ⟨v2_, ev2_, hf⟩ := bnd hf
  refine a_getI dX8_goes_4 flX8_309 rfl ev2_ ?_
  refine a_iconst (v := -1) dX8_goes_7 (by decide) ?_
  refine a_icmp_ne dX8_goes_8 (tgt := 18) (by decide) (fun c9 => ?_) (fun c9 => ?_)
  · replace hf := iteF hf c9
    refine a_aload_n dX8_goes_18 rfl 0 rfl ?_
    obtain ⟨o3_, eo3_, hf⟩ := bnd hf
    refine a_getR dX8_goes_19 flX8_18 rfl eo3_ ?_
    obtain ⟨v4_, ev4_, hf⟩ := bnd hf
    refine a_getI dX8_goes_22 flX8_220 rfl ev4_ ?_
    refine a_bipush (v := 16) dX8_goes_25 (by decide) ?_
    refine a_icmp_lt dX8_goes_27 (tgt := 37) (by decide) (fun c9 => ?_) (fun c9 => ?_)
    · replace hf := iteT hf c9
      refine a_aload_n dX8_goes_37 rfl 0 rfl ?_
      obtain ⟨o5_, eo5_, hf⟩ := bnd hf
      refine a_getR dX8_goes_38 flX8_18 rfl eo5_ ?_
      refine a_aload_n dX8_goes_41 rfl 0 rfl ?_
      obtain ⟨o6_, eo6_, hf⟩ := bnd hf
      refine a_getR dX8_goes_42 flX8_18 rfl eo6_ ?_
      obtain ⟨v7_, ev7_, hf⟩ := bnd hf
      refine a_getI dX8_goes_45 flX8_312 rfl ev7_ ?_
      obtain ⟨q8_, eq8_, hf⟩ := bnd hf
      refine a_callS (As := [.int v7_]) (rest := [.ref o5_]) dX8_goes_48 mfX8_seedBehind csX8_315 (wX8_seedBehind eq8_) (by decide) rfl rfl (Nat.le_of_ble_eq_true rfl) ?_
      obtain ⟨M9_, eM9_, hf⟩ := bnd hf
      refine a_putI dX8_goes_51 fpX8_312 rfl (Or.inr nf5_14) eM9_ ?_
      refine a_aload_n dX8_goes_54 rfl 0 rfl ?_
      obtain ⟨o10_, eo10_, hf⟩ := bnd hf
      refine a_getR dX8_goes_55 flX8_18 rfl eo10_ ?_
      obtain ⟨v11_, ev11_, hf⟩ := bnd hf
      refine a_getI dX8_goes_58 flX8_312 rfl ev11_ ?_
      obtain ⟨q12_, eq12_, hf⟩ := bnd hf
      refine a_callS (As := [.int v11_]) (rest := []) dX8_goes_61 mfX8_drawOf csX8_318 (wX8_drawOf eq12_) (by decide) rfl rfl (Nat.le_of_ble_eq_true rfl) ?_
      refine a_istore_n (i := 2) (lv1 := [(2, .int q12_.1), (0, .ref a0), (1, .int x1)]) dX8_goes_64 rfl (by decide) rfl ?_
      refine a_iload_n dX8_goes_65 rfl 0 rfl ?_
      refine a_aload_n dX8_goes_66 rfl 1 rfl ?_
      obtain ⟨o13_, eo13_, hf⟩ := bnd hf
      refine a_getR dX8_goes_67 flX8_18 rfl eo13_ ?_
      obtain ⟨v14_, ev14_, hf⟩ := bnd hf
      refine a_getI dX8_goes_70 flX8_152 rfl ev14_ ?_
      refine a_icmp_ge dX8_goes_73 (tgt := 80) (by decide) (fun c9 => ?_) (fun c9 => ?_)
      · replace hf := iteT hf c9
        refine a_iload_n dX8_goes_80 rfl 0 rfl ?_
        refine a_aload_n dX8_goes_81 rfl 1 rfl ?_
        obtain ⟨o15_, eo15_, hf⟩ := bnd hf
        refine a_getR dX8_goes_82 flX8_18 rfl eo15_ ?_
        obtain ⟨v16_, ev16_, hf⟩ := bnd hf
        refine a_getI dX8_goes_85 flX8_152 rfl ev16_ ?_
        refine a_aload_n dX8_goes_88 rfl 1 rfl ?_
        obtain ⟨o17_, eo17_, hf⟩ := bnd hf
        refine a_getR dX8_goes_89 flX8_18 rfl eo17_ ?_
        obtain ⟨v18_, ev18_, hf⟩ := bnd hf
        refine a_getI dX8_goes_92 flX8_155 rfl ev18_ ?_
        refine a_iadd dX8_goes_95 ?_
        refine a_icmp_ge dX8_goes_96 (tgt := 103) (by decide) (fun c9 => ?_) (fun c9 => ?_)
        · replace hf := iteT hf c9
          refine a_iconst (v := 1) dX8_goes_103 (by decide) ?_
          refine AW.sub (lv1 := [(0, .ref a0), (1, .int x1)]) [1, 2] rfl ?_
          exact wX8_goes_b104 _ _ _ _ hf
        · replace hf := iteF hf c9
          refine a_iconst (v := 2) dX8_goes_99 (by decide) ?_
          refine a_goto (tgt := 104) dX8_goes_100 (by decide) ?_
          refine AW.sub (lv1 := [(0, .ref a0), (1, .int x1)]) [1, 2] rfl ?_
          exact wX8_goes_b104 _ _ _ _ hf
      · replace hf := iteF hf c9
        refine a_iconst (v := 0) dX8_goes_76 (by decide) ?_
        refine a_goto (tgt := 104) dX8_goes_77 (by decide) ?_
        refine AW.sub (lv1 := [(0, .ref a0), (1, .int x1)]) [1, 2] rfl ?_
        exact wX8_goes_b104 _ _ _ _ hf
    · replace hf := iteF hf c9
      refine a_aload_n dX8_goes_30 rfl 0 rfl ?_
      refine a_bipush (v := -7) dX8_goes_31 (by decide) ?_
      obtain ⟨q19_, eq19_, hf⟩ := bnd hf
      refine a_callV (As := [.int ((-7 : Int32))]) (rest := []) dX8_goes_33 mfX8_refused cvX8_63 (wX8_refused eq19_) rc8 (kX8_refused eq19_) (by decide) rfl rfl (Nat.le_of_ble_eq_true rfl) ?_
      have e9 := Option.some.inj hf
      subst e9
      exact a_iret rfl dX8_goes_36 rfl
  · replace hf := iteT hf c9
    refine a_aload_n dX8_goes_11 rfl 0 rfl ?_
    refine a_bipush (v := -6) dX8_goes_12 (by decide) ?_
    obtain ⟨q20_, eq20_, hf⟩ := bnd hf
    refine a_callV (As := [.int ((-6 : Int32))]) (rest := []) dX8_goes_14 mfX8_refused cvX8_63 (wX8_refused eq20_) rc8 (kX8_refused eq20_) (by decide) rfl rfl (Nat.le_of_ble_eq_true rfl) ?_
    have e9 := Option.some.inj hf
    subst e9
    exact a_iret rfl dX8_goes_17 rfl
theorem kX8_looks {a0 : Nat} {x1 : Int32} {M : Mm} {q : Int32 × Mm} (hf : fX8_looks a0 x1 M = some q) : (mK M a0).1 = 9 := by
  unfold fX8_looks at hf
  obtain ⟨u0, eu0, -⟩ := bnd hf
  exact kc_of eu0
set_option maxHeartbeats 4000000 in
set_option maxRecDepth 100000 in
theorem wX8_looks_b75 {l : Launch} {Γ : Gx} {t0 w0 : Nat} {q : Int32 × Mm} (a0 : Nat) (a2 : Nat) (x3 : Int32) (s0 : Int32) (M : Mm) (hf : fX8_looks_b75 a0 a2 x3 s0 M = some q) : AW l Γ yX8_looks cX8_looks 5 ((some .int)) 5 t0 w0 75 [(0, .ref a0), (2, .ref a2), (3, .int x3)] [.int s0] M (some (.int q.1)) q.2 := by
  unfold fX8_looks_b75 at hf
  refine a_istore (i := 4) (lv1 := [(4, .int s0), (0, .ref a0), (2, .ref a2), (3, .int x3)]) dX8_looks_75 (by decide) rfl ?_
  refine a_aload_n dX8_looks_77 rfl 1 rfl ?_
  obtain ⟨o1_, eo1_, hf⟩ := bnd hf
  refine a_getR dX8_looks_78 flX8_18 rfl eo1_ ?_
  refine a_aload_n dX8_looks_81 rfl 2 rfl ?_
  refine a_iload dX8_looks_82 0 rfl ?_
  obtain ⟨q2_, eq2_, hf⟩ := bnd hf
  refine a_callV (As := [.ref a2, .int s0]) (rest := []) dX8_looks_84 mfX5_canBe cvX8_246 (wX5_canBe eq2_) rc5 (kX5_canBe eq2_) (by decide) rfl rfl (Nat.le_of_ble_eq_true rfl) ?_
  refine a_if_ne dX8_looks_87 (tgt := 97) (by decide) (fun c9 => ?_) (fun c9 => ?_)
  · replace hf := iteF hf c9
    refine a_aload_n dX8_looks_97 rfl 1 rfl ?_
    obtain ⟨o3_, eo3_, hf⟩ := bnd hf
    refine a_getR dX8_looks_98 flX8_18 rfl eo3_ ?_
    obtain ⟨v4_, ev4_, hf⟩ := bnd hf
    refine a_getI dX8_looks_101 flX8_220 rfl ev4_ ?_
    refine a_bipush (v := 16) dX8_looks_104 (by decide) ?_
    refine a_icmp_lt dX8_looks_106 (tgt := 116) (by decide) (fun c9 => ?_) (fun c9 => ?_)
    · replace hf := iteT hf c9
      refine a_aload_n dX8_looks_116 rfl 1 rfl ?_
      obtain ⟨o5_, eo5_, hf⟩ := bnd hf
      refine a_getR dX8_looks_117 flX8_18 rfl eo5_ ?_
      refine a_iload_n dX8_looks_120 rfl 3 rfl ?_
      obtain ⟨M6_, eM6_, hf⟩ := bnd hf
      refine a_putI dX8_looks_121 fpX8_312 rfl (Or.inr nf5_14) eM6_ ?_
      refine a_aload_n dX8_looks_124 rfl 1 rfl ?_
      obtain ⟨o7_, eo7_, hf⟩ := bnd hf
      refine a_getR dX8_looks_125 flX8_18 rfl eo7_ ?_
      refine a_aload_n dX8_looks_128 rfl 2 rfl ?_
      refine a_iload dX8_looks_129 0 rfl ?_
      obtain ⟨M8_, eM8_, hf⟩ := bnd hf
      refine a_callV (As := [.ref a2, .int s0]) (rest := []) dX8_looks_131 mfX5_hearSign cvX8_250 (wX5_hearSign eM8_) rc5 (kX5_hearSign eM8_) (by decide) rfl rfl (Nat.le_of_ble_eq_true rfl) ?_
      refine a_iload dX8_looks_134 0 rfl ?_
      refine a_if_eq dX8_looks_136 (tgt := 143) (by decide) (fun c9 => ?_) (fun c9 => ?_)
      · replace hf := iteT hf c9
        refine a_iconst (v := 0) dX8_looks_143 (by decide) ?_
        have e9 := Option.some.inj hf
        subst e9
        exact a_iret rfl dX8_looks_144 rfl
      · replace hf := iteF hf c9
        refine a_iconst (v := 1) dX8_looks_139 (by decide) ?_
        refine a_goto (tgt := 144) dX8_looks_140 (by decide) ?_
        have e9 := Option.some.inj hf
        subst e9
        exact a_iret rfl dX8_looks_144 rfl
    · replace hf := iteF hf c9
      refine a_aload_n dX8_looks_109 rfl 1 rfl ?_
      refine a_bipush (v := -7) dX8_looks_110 (by decide) ?_
      obtain ⟨q9_, eq9_, hf⟩ := bnd hf
      refine a_callV (As := [.int ((-7 : Int32))]) (rest := []) dX8_looks_112 mfX8_refused cvX8_63 (wX8_refused eq9_) rc8 (kX8_refused eq9_) (by decide) rfl rfl (Nat.le_of_ble_eq_true rfl) ?_
      have e9 := Option.some.inj hf
      subst e9
      exact a_iret rfl dX8_looks_115 rfl
  · replace hf := iteT hf c9
    refine a_aload_n dX8_looks_90 rfl 1 rfl ?_
    refine a_bipush (v := -6) dX8_looks_91 (by decide) ?_
    obtain ⟨q10_, eq10_, hf⟩ := bnd hf
    refine a_callV (As := [.int ((-6 : Int32))]) (rest := []) dX8_looks_93 mfX8_refused cvX8_63 (wX8_refused eq10_) rc8 (kX8_refused eq10_) (by decide) rfl rfl (Nat.le_of_ble_eq_true rfl) ?_
    have e9 := Option.some.inj hf
    subst e9
    exact a_iret rfl dX8_looks_96 rfl
set_option maxHeartbeats 4000000 in
set_option maxRecDepth 100000 in
theorem wX8_looks {l : Launch} {Γ : Gx} {a0 : Nat} {x1 : Int32} {M : Mm} {q : Int32 × Mm} (hf : fX8_looks a0 x1 M = some q) : AM l Γ 5 yX8_looks cX8_looks 5 ((some .int)) [.ref a0, .int x1] M (some (.int q.1)) q.2 := by
  unfold fX8_looks at hf
  refine AM.of mfX8_looks (Nat.le_of_ble_eq_true rfl) ?_
  generalize mT M = t0
  generalize mW M = w0
  show AW _ _ _ _ _ _ _ _ _ 0 [(0, .ref a0), (1, .int x1)] [] _ _ _
  obtain ⟨u0, eu0, hf⟩ := bnd hf
  refine a_aload_n dX8_looks_0 rfl 0 rfl ?_
  obtain ⟨o1_, eo1_, hf⟩ := bnd hf
  refine a_getR dX8_looks_1 flX8_18 rfl eo1_ ?_
  refine a_iload_n dX8_looks_4 rfl 1 rfl ?_
  obtain ⟨q2_, eq2_, hf⟩ := bnd hf
  refine a_callV (As := [.int x1]) (rest := []) dX8_looks_5 mfX5_signAt cvX8_100 (wX5_signAt eq2_) rc5 (kX5_signAt eq2_) (by decide) rfl rfl (Nat.le_of_ble_eq_true rfl) ?_
  obtain ⟨n3_, en3_, hf⟩ := bnd hf
  refine a_topN en3_ ?_
  refine a_astore_nq (x := n3_) (i := 2) (lv1 := [(2, rv n3_), (0, .ref a0), (1, .int x1)]) dX8_looks_8 rfl (by decide) rfl ?_
  refine a_aload_nq (x := n3_) dX8_looks_9 rfl 0 rfl ?_
  cases n3_ with
  | none =>
    replace hf := el0 hf
    refine a_ifnonnull0 dX8_looks_10 ?_
    refine a_aload_n dX8_looks_13 rfl 1 rfl ?_
    refine a_iconst (v := -1) dX8_looks_14 (by decide) ?_
    obtain ⟨q5_, eq5_, hf⟩ := bnd hf
    refine a_callV (As := [.int ((-1 : Int32))]) (rest := []) dX8_looks_15 mfX8_refused cvX8_63 (wX8_refused eq5_) rc8 (kX8_refused eq5_) (by decide) rfl rfl (Nat.le_of_ble_eq_true rfl) ?_
    have e9 := Option.some.inj hf
    subst e9
    exact a_iret rfl dX8_looks_18 rfl
  | some o4_ =>
    replace hf := el1 hf
    refine a_ifnonnull1 (tgt := 19) dX8_looks_10 (by decide) ?_
    refine a_aload_n dX8_looks_19 rfl 1 rfl ?_
    obtain ⟨o6_, eo6_, hf⟩ := bnd hf
    refine a_getR dX8_looks_20 flX8_18 rfl eo6_ ?_
    obtain ⟨v7_, ev7_, hf⟩ := bnd hf
    refine a_getI dX8_looks_23 flX8_309 rfl ev7_ ?_
    refine a_iconst (v := -1) dX8_looks_26 (by decide) ?_
    refine a_icmp_ne dX8_looks_27 (tgt := 37) (by decide) (fun c9 => ?_) (fun c9 => ?_)
    · replace hf := iteF hf c9
      refine a_aload_n dX8_looks_37 rfl 1 rfl ?_
      obtain ⟨o8_, eo8_, hf⟩ := bnd hf
      refine a_getR dX8_looks_38 flX8_18 rfl eo8_ ?_
      obtain ⟨v9_, ev9_, hf⟩ := bnd hf
      refine a_getI dX8_looks_41 flX8_312 rfl ev9_ ?_
      obtain ⟨q10_, eq10_, hf⟩ := bnd hf
      refine a_callS (As := [.int v9_]) (rest := []) dX8_looks_44 mfX8_seedBehind csX8_315 (wX8_seedBehind eq10_) (by decide) rfl rfl (Nat.le_of_ble_eq_true rfl) ?_
      refine a_istore_n (i := 3) (lv1 := [(3, .int q10_.1), (2, .ref o4_), (0, .ref a0), (1, .int x1)]) dX8_looks_47 rfl (by decide) rfl ?_
      refine a_iload_n dX8_looks_48 rfl 0 rfl ?_
      obtain ⟨q11_, eq11_, hf⟩ := bnd hf
      refine a_callS (As := [.int q10_.1]) (rest := []) dX8_looks_49 mfX8_drawOf csX8_318 (wX8_drawOf eq11_) (by decide) rfl rfl (Nat.le_of_ble_eq_true rfl) ?_
      refine a_aload_n dX8_looks_52 rfl 2 rfl ?_
      obtain ⟨o12_, eo12_, hf⟩ := bnd hf
      refine a_getR dX8_looks_53 flX8_18 rfl eo12_ ?_
      refine a_aload_n dX8_looks_56 rfl 1 rfl ?_
      refine a_aload_n dX8_looks_57 rfl 2 rfl ?_
      obtain ⟨o13_, eo13_, hf⟩ := bnd hf
      refine a_getR dX8_looks_58 flX8_18 rfl eo13_ ?_
      obtain ⟨v14_, ev14_, hf⟩ := bnd hf
      refine a_getI dX8_looks_61 flX8_309 rfl ev14_ ?_
      obtain ⟨q15_, eq15_, hf⟩ := bnd hf
      refine a_callV (As := [.ref o4_, .int v14_]) (rest := [.int q11_.1]) dX8_looks_64 mfX5_tenthsOf cvX8_239 (wX5_tenthsOf eq15_) rc5 (kX5_tenthsOf eq15_) (by decide) rfl rfl (Nat.le_of_ble_eq_true rfl) ?_
      refine a_icmp_ge dX8_looks_67 (tgt := 74) (by decide) (fun c9 => ?_) (fun c9 => ?_)
      · replace hf := iteT hf c9
        refine a_iconst (v := 0) dX8_looks_74 (by decide) ?_
        refine AW.sub (lv1 := [(0, .ref a0), (2, .ref o4_), (3, .int q10_.1)]) [2, 1, 0] rfl ?_
        exact wX8_looks_b75 _ _ _ _ _ hf
      · replace hf := iteF hf c9
        refine a_iconst (v := 1) dX8_looks_70 (by decide) ?_
        refine a_goto (tgt := 75) dX8_looks_71 (by decide) ?_
        refine AW.sub (lv1 := [(0, .ref a0), (2, .ref o4_), (3, .int q10_.1)]) [2, 1, 0] rfl ?_
        exact wX8_looks_b75 _ _ _ _ _ hf
    · replace hf := iteT hf c9
      refine a_aload_n dX8_looks_30 rfl 1 rfl ?_
      refine a_bipush (v := -6) dX8_looks_31 (by decide) ?_
      obtain ⟨q16_, eq16_, hf⟩ := bnd hf
      refine a_callV (As := [.int ((-6 : Int32))]) (rest := []) dX8_looks_33 mfX8_refused cvX8_63 (wX8_refused eq16_) rc8 (kX8_refused eq16_) (by decide) rfl rfl (Nat.le_of_ble_eq_true rfl) ?_
      have e9 := Option.some.inj hf
      subst e9
      exact a_iret rfl dX8_looks_36 rfl
theorem kX8_right {a0 : Nat} {M : Mm} {q : Int32 × Mm} (hf : fX8_right a0 M = some q) : (mK M a0).1 = 9 := by
  unfold fX8_right at hf
  obtain ⟨u0, eu0, -⟩ := bnd hf
  exact kc_of eu0
set_option maxHeartbeats 4000000 in
set_option maxRecDepth 100000 in
theorem wX8_right {l : Launch} {Γ : Gx} {a0 : Nat} {M : Mm} {q : Int32 × Mm} (hf : fX8_right a0 M = some q) : AM l Γ 2 yX8_right cX8_right 1 ((some .int)) [.ref a0] M (some (.int q.1)) q.2 := by
  unfold fX8_right at hf
  refine AM.of mfX8_right (Nat.le_of_ble_eq_true rfl) ?_
  generalize mT M = t0
  generalize mW M = w0
  show AW _ _ _ _ _ _ _ _ _ 0 [(0, .ref a0)] [] _ _ _
  obtain ⟨u0, eu0, hf⟩ := bnd hf
  refine a_aload_n dX8_right_0 rfl 0 rfl ?_
  obtain ⟨o1_, eo1_, hf⟩ := bnd hf
  refine a_getR dX8_right_1 flX8_18 rfl eo1_ ?_
  obtain ⟨v2_, ev2_, hf⟩ := bnd hf
  refine a_getI dX8_right_4 flX8_309 rfl ev2_ ?_
  refine a_iconst (v := -1) dX8_right_7 (by decide) ?_
  refine a_icmp_ne dX8_right_8 (tgt := 18) (by decide) (fun c9 => ?_) (fun c9 => ?_)
  · replace hf := iteF hf c9
    refine a_aload_n dX8_right_18 rfl 0 rfl ?_
    obtain ⟨o3_, eo3_, hf⟩ := bnd hf
    refine a_getR dX8_right_19 flX8_18 rfl eo3_ ?_
    obtain ⟨v4_, ev4_, hf⟩ := bnd hf
    refine a_getI dX8_right_22 flX8_309 rfl ev4_ ?_
    refine a_aload_n dX8_right_25 rfl 0 rfl ?_
    obtain ⟨o5_, eo5_, hf⟩ := bnd hf
    refine a_getR dX8_right_26 flX8_18 rfl eo5_ ?_
    obtain ⟨o6_, eo6_, hf⟩ := bnd hf
    refine a_getR dX8_right_29 flX8_226 rfl eo6_ ?_
    obtain ⟨q7_, eq7_, hf⟩ := bnd hf
    refine a_callV (As := []) (rest := [.int v4_]) dX8_right_32 mfX0_surest cvX8_254 (wX0_surest eq7_) rc0 (kX0_surest eq7_) (by decide) rfl rfl (Nat.le_of_ble_eq_true rfl) ?_
    refine a_icmp_ne dX8_right_35 (tgt := 42) (by decide) (fun c9 => ?_) (fun c9 => ?_)
    · replace hf := iteF hf c9
      refine a_iconst (v := 0) dX8_right_42 (by decide) ?_
      have e9 := Option.some.inj hf
      subst e9
      exact a_iret rfl dX8_right_43 rfl
    · replace hf := iteT hf c9
      refine a_iconst (v := 1) dX8_right_38 (by decide) ?_
      refine a_goto (tgt := 43) dX8_right_39 (by decide) ?_
      have e9 := Option.some.inj hf
      subst e9
      exact a_iret rfl dX8_right_43 rfl
  · replace hf := iteT hf c9
    refine a_aload_n dX8_right_11 rfl 0 rfl ?_
    refine a_bipush (v := -6) dX8_right_12 (by decide) ?_
    obtain ⟨q8_, eq8_, hf⟩ := bnd hf
    refine a_callV (As := [.int ((-6 : Int32))]) (rest := []) dX8_right_14 mfX8_refused cvX8_63 (wX8_refused eq8_) rc8 (kX8_refused eq8_) (by decide) rfl rfl (Nat.le_of_ble_eq_true rfl) ?_
    have e9 := Option.some.inj hf
    subst e9
    exact a_iret rfl dX8_right_17 rfl
theorem kX8_seed {a0 : Nat} {x1 : Int32} {M : Mm} {q : Int32 × Mm} (hf : fX8_seed a0 x1 M = some q) : (mK M a0).1 = 9 := by
  unfold fX8_seed at hf
  obtain ⟨u0, eu0, -⟩ := bnd hf
  exact kc_of eu0
set_option maxHeartbeats 4000000 in
set_option maxRecDepth 100000 in
theorem wX8_seed {l : Launch} {Γ : Gx} {a0 : Nat} {x1 : Int32} {M : Mm} {q : Int32 × Mm} (hf : fX8_seed a0 x1 M = some q) : AM l Γ 1 yX8_seed cX8_seed 3 ((some .int)) [.ref a0, .int x1] M (some (.int q.1)) q.2 := by
  unfold fX8_seed at hf
  refine AM.of mfX8_seed (Nat.le_of_ble_eq_true rfl) ?_
  generalize mT M = t0
  generalize mW M = w0
  show AW _ _ _ _ _ _ _ _ _ 0 [(0, .ref a0), (1, .int x1)] [] _ _ _
  obtain ⟨u0, eu0, hf⟩ := bnd hf
  refine a_aload_n dX8_seed_0 rfl 0 rfl ?_
  obtain ⟨o1_, eo1_, hf⟩ := bnd hf
  refine a_getR dX8_seed_1 flX8_18 rfl eo1_ ?_
  obtain ⟨v2_, ev2_, hf⟩ := bnd hf
  refine a_getI dX8_seed_4 flX8_312 rfl ev2_ ?_
  refine a_istore_n (i := 2) (lv1 := [(2, .int v2_), (0, .ref a0), (1, .int x1)]) dX8_seed_7 rfl (by decide) rfl ?_
  refine a_aload_n dX8_seed_8 rfl 1 rfl ?_
  obtain ⟨o3_, eo3_, hf⟩ := bnd hf
  refine a_getR dX8_seed_9 flX8_18 rfl eo3_ ?_
  refine a_iload_n dX8_seed_12 rfl 2 rfl ?_
  obtain ⟨M4_, eM4_, hf⟩ := bnd hf
  refine a_putI dX8_seed_13 fpX8_312 rfl (Or.inr nf5_14) eM4_ ?_
  refine a_iload_n dX8_seed_16 rfl 0 rfl ?_
  have e9 := Option.some.inj hf
  subst e9
  exact a_iret rfl dX8_seed_17 rfl
set_option maxHeartbeats 4000000 in
set_option maxRecDepth 100000 in
theorem wX8_bodyOf {l : Launch} {Γ : Gx} {x0 : Int32} {x1 : Int32} {M : Mm} {q : Int32 × Mm} (hf : fX8_bodyOf x0 x1 M = some q) : AM l Γ 1 yX8_bodyOf cX8_bodyOf 3 ((some .int)) [.int x0, .int x1] M (some (.int q.1)) q.2 := by
  unfold fX8_bodyOf at hf
  refine AM.of mfX8_bodyOf (Nat.le_of_ble_eq_true rfl) ?_
  generalize mT M = t0
  generalize mW M = w0
  show AW _ _ _ _ _ _ _ _ _ 0 [(0, .int x0), (1, .int x1)] [] _ _ _
  refine a_iload_n dX8_bodyOf_0 rfl 0 rfl ?_
  refine a_iconst (v := 3) dX8_bodyOf_1 (by decide) ?_
  refine a_imul dX8_bodyOf_2 ?_
  refine a_iload_n dX8_bodyOf_3 rfl 1 rfl ?_
  refine a_iadd dX8_bodyOf_4 ?_
  refine a_istore_n (i := 2) (lv1 := [(2, .int ((x0 * ((3 : Int32))) + x1)), (0, .int x0), (1, .int x1)]) dX8_bodyOf_5 rfl (by decide) rfl ?_
  refine a_iload_n dX8_bodyOf_6 rfl 0 rfl ?_
  refine a_if_lt dX8_bodyOf_7 (tgt := 18) (by decide) (fun c9 => ?_) (fun c9 => ?_)
  · replace hf := iteT hf c9
    refine a_iconst (v := 0) dX8_bodyOf_18 (by decide) ?_
    refine a_goto (tgt := 27) dX8_bodyOf_19 (by decide) ?_
    have e9 := Option.some.inj hf
    subst e9
    exact a_iret rfl dX8_bodyOf_27 rfl
  · replace hf := iteF hf c9
    refine a_iload_n dX8_bodyOf_10 rfl 0 rfl ?_
    refine a_gets (v := .ref 2) dX8_bodyOf_11 ws_X8_377 (fun Γ => by simp [gSt]) ?_
    obtain ⟨v1_, ev1_, hf⟩ := bnd hf
    refine a_alen dX8_bodyOf_14 ev1_ ?_
    refine a_icmp_lt dX8_bodyOf_15 (tgt := 22) (by decide) (fun c9 => ?_) (fun c9 => ?_)
    · replace hf := iteT hf c9
      refine a_gets (v := .ref 2) dX8_bodyOf_22 ws_X8_377 (fun Γ => by simp [gSt]) ?_
      refine a_iload_n dX8_bodyOf_25 rfl 0 rfl ?_
      obtain ⟨v2_, ev2_, hf⟩ := bnd hf
      refine a_iald dX8_bodyOf_26 ev2_ ?_
      have e9 := Option.some.inj hf
      subst e9
      exact a_iret rfl dX8_bodyOf_27 rfl
    · replace hf := iteF hf c9
      refine a_iconst (v := 0) dX8_bodyOf_18 (by decide) ?_
      refine a_goto (tgt := 27) dX8_bodyOf_19 (by decide) ?_
      have e9 := Option.some.inj hf
      subst e9
      exact a_iret rfl dX8_bodyOf_27 rfl
set_option maxHeartbeats 4000000 in
set_option maxRecDepth 100000 in
theorem wX8_kindWithBody_b4 {l : Launch} {Γ : Gx} {t0 w0 : Nat} {q : Int32 × Mm} : ∀ (n : Nat) (x1 : Int32) (x2 : Int32) (x3 : Int32) (M : Mm), fX8_kindWithBody_b4 n x1 x2 x3 M = some q → AW l Γ yX8_kindWithBody cX8_kindWithBody 4 ((some .int)) 2 t0 w0 4 [(1, .int x1), (2, .int x2), (3, .int x3)] [] M (some (.int q.1)) q.2 := by
  intro n
  induction n with
  | zero =>
    intro x1 x2 x3 M hf
    cases hf
  | succ n ih =>
    intro x1 x2 x3 M hf
    rw [fX8_kindWithBody_b4.eq_2] at hf
    refine a_iload_n dX8_kindWithBody_4 rfl 2 rfl ?_
    refine a_bipush (v := 7) dX8_kindWithBody_5 (by decide) ?_
    refine a_icmp_ge dX8_kindWithBody_7 (tgt := 42) (by decide) (fun c9 => ?_) (fun c9 => ?_)
    · replace hf := iteT hf c9
      refine a_iconst (v := 0) dX8_kindWithBody_42 (by decide) ?_
      have e9 := Option.some.inj hf
      subst e9
      exact a_iret rfl dX8_kindWithBody_43 rfl
    · replace hf := iteF hf c9
      refine a_iload_n dX8_kindWithBody_10 rfl 1 rfl ?_
      refine a_if_le dX8_kindWithBody_11 (tgt := 42) (by decide) (fun c9 => ?_) (fun c9 => ?_)
      · replace hf := iteT hf c9
        refine a_iconst (v := 0) dX8_kindWithBody_42 (by decide) ?_
        have e9 := Option.some.inj hf
        subst e9
        exact a_iret rfl dX8_kindWithBody_43 rfl
      · replace hf := iteF hf c9
        refine a_iload_n dX8_kindWithBody_14 rfl 1 rfl ?_
        refine a_bipush (v := 7) dX8_kindWithBody_15 (by decide) ?_
        refine a_icmp_ge dX8_kindWithBody_17 (tgt := 42) (by decide) (fun c9 => ?_) (fun c9 => ?_)
        · replace hf := iteT hf c9
          refine a_iconst (v := 0) dX8_kindWithBody_42 (by decide) ?_
          have e9 := Option.some.inj hf
          subst e9
          exact a_iret rfl dX8_kindWithBody_43 rfl
        · replace hf := iteF hf c9
          refine a_iload_n dX8_kindWithBody_20 rfl 1 rfl ?_
          refine a_iload_n dX8_kindWithBody_21 rfl 0 rfl ?_
          obtain ⟨q1_, eq1_, hf⟩ := bnd hf
          refine a_callS (As := [.int x2, .int x1]) (rest := []) dX8_kindWithBody_22 mfX8_bodyOf csX8_371 (wX8_bodyOf eq1_) (by decide) rfl rfl (Nat.le_of_ble_eq_true rfl) ?_
          refine a_if_eq dX8_kindWithBody_25 (tgt := 30) (by decide) (fun c9 => ?_) (fun c9 => ?_)
          · replace hf := iteT hf c9
            refine a_gets (v := .ref 1) dX8_kindWithBody_30 ws_X8_374 (fun Γ => by simp [gSt]) ?_
            refine a_iload_n dX8_kindWithBody_33 rfl 1 rfl ?_
            obtain ⟨v2_, ev2_, hf⟩ := bnd hf
            refine a_iald dX8_kindWithBody_34 ev2_ ?_
            refine a_istore_n (i := 2) (lv1 := [(2, .int v2_), (1, .int x1), (3, .int x3)]) dX8_kindWithBody_35 rfl (by decide) rfl ?_
            refine a_iinc (v := x3 + (1 : Int32)) (lv1 := [(3, .int (x3 + (1 : Int32))), (2, .int v2_), (1, .int x1)]) dX8_kindWithBody_36 2 rfl rfl (by decide) rfl ?_
            refine a_goto (tgt := 4) dX8_kindWithBody_39 (by decide) ?_
            refine AW.sub (lv1 := [(1, .int x1), (2, .int v2_), (3, .int (x3 + (1 : Int32)))]) [2, 1, 0] rfl ?_
            exact ih _ _ _ _ hf
          · replace hf := iteF hf c9
            refine a_iload_n dX8_kindWithBody_28 rfl 1 rfl ?_
            have e9 := Option.some.inj hf
            subst e9
            exact a_iret rfl dX8_kindWithBody_29 rfl
set_option maxHeartbeats 4000000 in
set_option maxRecDepth 100000 in
theorem wX8_kindWithBody {l : Launch} {Γ : Gx} {x0 : Int32} {x1 : Int32} {M : Mm} {q : Int32 × Mm} (hf : fX8_kindWithBody x0 x1 M = some q) : AM l Γ 2 yX8_kindWithBody cX8_kindWithBody 4 ((some .int)) [.int x0, .int x1] M (some (.int q.1)) q.2 := by
  unfold fX8_kindWithBody at hf
  refine AM.of mfX8_kindWithBody (Nat.le_of_ble_eq_true rfl) ?_
  generalize mT M = t0
  generalize mW M = w0
  show AW _ _ _ _ _ _ _ _ _ 0 [(0, .int x0), (1, .int x1)] [] _ _ _
  refine a_iload_n dX8_kindWithBody_0 rfl 0 rfl ?_
  refine a_istore_n (i := 2) (lv1 := [(2, .int x0), (0, .int x0), (1, .int x1)]) dX8_kindWithBody_1 rfl (by decide) rfl ?_
  refine a_iconst (v := 0) dX8_kindWithBody_2 (by decide) ?_
  refine a_istore_n (i := 3) (lv1 := [(3, .int ((0 : Int32))), (2, .int x0), (0, .int x0), (1, .int x1)]) dX8_kindWithBody_3 rfl (by decide) rfl ?_
  refine AW.sub (lv1 := [(1, .int x1), (2, .int x0), (3, .int ((0 : Int32)))]) [3, 1, 0] rfl ?_
  exact wX8_kindWithBody_b4 _ _ _ _ _ hf
set_option maxHeartbeats 4000000 in
set_option maxRecDepth 100000 in
theorem wX8_perform {l : Launch} {Γ : Gx} : ∀ (n : Nat) {a0 : Nat} {x1 : Int32} {x2 : Int32} {x3 : Int32} {a4 : Nat} {x5 : Int32} {M : Mm} {q : Int32 × Mm} (_ : fX8_perform n a0 x1 x2 x3 a4 x5 M = some q), AM l Γ (n + 3) yX8_perform cX8_perform 10 ((some .int)) [.ref a0, .int x1, .int x2, .int x3, .ref a4, .int x5] M (some (.int q.1)) q.2 := by
  intro n
  induction n with
  | zero =>
    intro a0 x1 x2 x3 a4 x5 M q hf
    cases hf
  | succ n ih0 =>
    intro a0 x1 x2 x3 a4 x5 M q hf
    have ih := fun (a0 : Nat) (x1 : Int32) (x2 : Int32) (x3 : Int32) (a4 : Nat) (x5 : Int32) (M : Mm) {q : Int32 × Mm} (hf : fX8_perform n a0 x1 x2 x3 a4 x5 M = some q) => ih0 hf
    rw [fX8_perform.eq_2] at hf
    refine AM.of mfX8_perform (Nat.le_of_ble_eq_true rfl) ?_
    generalize mT M = t0
    generalize mW M = w0
    show AW _ _ _ _ _ _ _ _ _ 0 [(0, .ref a0), (1, .int x1), (2, .int x2), (3, .int x3), (4, .ref a4), (5, .int x5)] [] _ _ _
    refine a_iload dX8_perform_0 5 rfl ?_
    refine a_bipush (v := 21) dX8_perform_2 (by decide) ?_
    refine a_icmp_le dX8_perform_4 (tgt := 9) (by decide) (fun c9 => ?_) (fun c9 => ?_)
    · replace hf := iteT hf c9
      refine a_iload_n dX8_perform_9 rfl 1 rfl ?_
      refine a_iload_n dX8_perform_10 rfl 2 rfl ?_
      obtain ⟨q1_, eq1_, hf⟩ := bnd hf
      refine a_callS (As := [.int x1, .int x2]) (rest := []) dX8_perform_11 mfX8_kindWithBody csX8_380 (wX8_kindWithBody eq1_) (by omega) rfl rfl (Nat.le_of_ble_eq_true rfl) ?_
      refine a_istore (i := 6) (lv1 := [(6, .int q1_.1), (0, .ref a0), (1, .int x1), (2, .int x2), (3, .int x3), (4, .ref a4), (5, .int x5)]) dX8_perform_14 (by decide) rfl ?_
      refine a_iload dX8_perform_16 0 rfl ?_
      refine a_if_le dX8_perform_18 (tgt := 37) (by decide) (fun c9 => ?_) (fun c9 => ?_)
      · replace hf := iteT hf c9
        refine a_iconst (v := 0) dX8_perform_37 (by decide) ?_
        refine a_istore (i := 7) (lv1 := [(7, .int ((0 : Int32))), (6, .int q1_.1), (0, .ref a0), (1, .int x1), (2, .int x2), (3, .int x3), (4, .ref a4), (5, .int x5)]) dX8_perform_38 (by decide) rfl ?_
        refine a_iload dX8_perform_40 1 rfl ?_
        refine a_iload_n dX8_perform_42 rfl 4 rfl ?_
        obtain ⟨q2_, eq2_, hf⟩ := bnd hf
        refine a_callS (As := [.int q1_.1, .int x2]) (rest := []) dX8_perform_43 mfX8_bodyOf csX8_371 (wX8_bodyOf eq2_) (by omega) rfl rfl (Nat.le_of_ble_eq_true rfl) ?_
        refine a_istore (i := 8) (lv1 := [(8, .int q2_.1), (7, .int ((0 : Int32))), (6, .int q1_.1), (0, .ref a0), (1, .int x1), (2, .int x2), (3, .int x3), (4, .ref a4), (5, .int x5)]) dX8_perform_46 (by decide) rfl ?_
        refine a_iload dX8_perform_48 8 rfl ?_
        refine a_iconst (v := 1) dX8_perform_50 (by decide) ?_
        refine a_iadd dX8_perform_51 ?_
        refine a_istore (i := 9) (lv1 := [(9, .int (x5 + ((1 : Int32)))), (8, .int q2_.1), (7, .int ((0 : Int32))), (6, .int q1_.1), (0, .ref a0), (1, .int x1), (2, .int x2), (3, .int x3), (4, .ref a4), (5, .int x5)]) dX8_perform_52 (by decide) rfl ?_
        refine a_aload dX8_perform_54 8 rfl ?_
        refine a_iload dX8_perform_56 1 rfl ?_
        obtain ⟨M3_, eM3_, hf⟩ := bnd hf
        refine a_callV (As := [.int q2_.1]) (rest := []) dX8_perform_58 mfX7_add cvX8_383 (wX7_add eM3_) rc7 (kX7_add eM3_) (by omega) rfl rfl (Nat.le_of_ble_eq_true rfl) ?_
        refine a_iload dX8_perform_61 1 rfl ?_
        by_cases c10 : q2_.1 = (10 : Int32)
        · replace hf := iteT hf c10
          refine a_lookup (off := 97) (tgt := 160) dX8_perform_63 rfl ((congrArg (fun z => Op.lookupswitch.offset _ _ (Int32.toInt z)) c10).trans rfl) (by decide) ?_
          refine a_iload_n dX8_perform_160 rfl 7 rfl ?_
          refine a_aload_n dX8_perform_161 rfl 4 rfl ?_
          obtain ⟨v4_, ev4_, hf⟩ := bnd hf
          refine a_getI dX8_perform_162 flX8_386 rfl ev4_ ?_
          refine a_iadd dX8_perform_165 ?_
          have e9 := Option.some.inj hf
          subst e9
          exact a_iret rfl dX8_perform_166 rfl
        · replace hf := iteF hf c10
          by_cases c11 : q2_.1 = (11 : Int32)
          · replace hf := iteT hf c11
            refine a_lookup (off := 104) (tgt := 167) dX8_perform_63 rfl ((congrArg (fun z => Op.lookupswitch.offset _ _ (Int32.toInt z)) c11).trans rfl) (by decide) ?_
            refine a_aload_n dX8_perform_167 rfl 4 rfl ?_
            refine a_aload_n dX8_perform_168 rfl 4 rfl ?_
            obtain ⟨v5_, ev5_, hf⟩ := bnd hf
            refine a_getI dX8_perform_169 flX8_167 rfl ev5_ ?_
            refine a_iconst (v := 0) dX8_perform_172 (by decide) ?_
            refine a_iload_n dX8_perform_173 rfl 7 rfl ?_
            refine a_aload dX8_perform_174 8 rfl ?_
            refine a_iload dX8_perform_176 0 rfl ?_
            obtain ⟨q6_, eq6_, hf⟩ := bnd hf
            refine a_callS (As := [.ref a0, .int v5_, .int ((0 : Int32)), .int x3, .ref a4, .int (x5 + ((1 : Int32)))]) (rest := []) dX8_perform_178 mfX8_perform csX8_327 (ih _ _ _ _ _ _ _ eq6_) (by omega) rfl rfl (Nat.le_of_ble_eq_true rfl) ?_
            refine a_iconst (v := 2) dX8_perform_181 (by decide) ?_
            refine a_imul dX8_perform_182 ?_
            have e9 := Option.some.inj hf
            subst e9
            exact a_iret rfl dX8_perform_183 rfl
          · replace hf := iteF hf c11
            by_cases c12 : q2_.1 = (12 : Int32)
            · replace hf := iteT hf c12
              refine a_lookup (off := 121) (tgt := 184) dX8_perform_63 rfl ((congrArg (fun z => Op.lookupswitch.offset _ _ (Int32.toInt z)) c12).trans rfl) (by decide) ?_
              refine a_aload_n dX8_perform_184 rfl 4 rfl ?_
              refine a_aload_n dX8_perform_185 rfl 4 rfl ?_
              obtain ⟨v7_, ev7_, hf⟩ := bnd hf
              refine a_getI dX8_perform_186 flX8_167 rfl ev7_ ?_
              refine a_iconst (v := 1) dX8_perform_189 (by decide) ?_
              refine a_iload_n dX8_perform_190 rfl 7 rfl ?_
              refine a_aload dX8_perform_191 8 rfl ?_
              refine a_iload dX8_perform_193 0 rfl ?_
              obtain ⟨q8_, eq8_, hf⟩ := bnd hf
              refine a_callS (As := [.ref a0, .int v7_, .int ((1 : Int32)), .int x3, .ref a4, .int (x5 + ((1 : Int32)))]) (rest := []) dX8_perform_195 mfX8_perform csX8_327 (ih _ _ _ _ _ _ _ eq8_) (by omega) rfl rfl (Nat.le_of_ble_eq_true rfl) ?_
              refine a_aload_n dX8_perform_198 rfl 4 rfl ?_
              refine a_aload_n dX8_perform_199 rfl 4 rfl ?_
              obtain ⟨v9_, ev9_, hf⟩ := bnd hf
              refine a_getI dX8_perform_200 flX8_167 rfl ev9_ ?_
              refine a_iconst (v := 0) dX8_perform_203 (by decide) ?_
              refine a_iload_n dX8_perform_204 rfl 7 rfl ?_
              refine a_aload_n dX8_perform_205 rfl 4 rfl ?_
              obtain ⟨v10_, ev10_, hf⟩ := bnd hf
              refine a_getI dX8_perform_206 flX8_176 rfl ev10_ ?_
              refine a_isub dX8_perform_209 ?_
              refine a_aload dX8_perform_210 8 rfl ?_
              refine a_iload dX8_perform_212 0 rfl ?_
              obtain ⟨q11_, eq11_, hf⟩ := bnd hf
              refine a_callS (As := [.ref a0, .int v9_, .int ((0 : Int32)), .int (x3 - v10_), .ref a4, .int (x5 + ((1 : Int32)))]) (rest := [.int q8_.1]) dX8_perform_214 mfX8_perform csX8_327 (ih _ _ _ _ _ _ _ eq11_) (by omega) rfl rfl (Nat.le_of_ble_eq_true rfl) ?_
              refine a_ixor dX8_perform_217 ?_
              have e9 := Option.some.inj hf
              subst e9
              exact a_iret rfl dX8_perform_218 rfl
            · replace hf := iteF hf c12
              by_cases c20 : q2_.1 = (20 : Int32)
              · replace hf := iteT hf c20
                refine a_lookup (off := 156) (tgt := 219) dX8_perform_63 rfl ((congrArg (fun z => Op.lookupswitch.offset _ _ (Int32.toInt z)) c20).trans rfl) (by decide) ?_
                refine a_aload_n dX8_perform_219 rfl 4 rfl ?_
                refine a_iload dX8_perform_220 2 rfl ?_
                refine a_iconst (v := 0) dX8_perform_222 (by decide) ?_
                refine a_iload_n dX8_perform_223 rfl 7 rfl ?_
                refine a_aload dX8_perform_224 8 rfl ?_
                refine a_iload dX8_perform_226 0 rfl ?_
                obtain ⟨q12_, eq12_, hf⟩ := bnd hf
                refine a_callS (As := [.ref a0, .int ((0 : Int32)), .int ((0 : Int32)), .int x3, .ref a4, .int (x5 + ((1 : Int32)))]) (rest := []) dX8_perform_228 mfX8_perform csX8_327 (ih _ _ _ _ _ _ _ eq12_) (by omega) rfl rfl (Nat.le_of_ble_eq_true rfl) ?_
                refine a_aload_n dX8_perform_231 rfl 4 rfl ?_
                obtain ⟨v13_, ev13_, hf⟩ := bnd hf
                refine a_getI dX8_perform_232 flX8_176 rfl ev13_ ?_
                refine a_iadd dX8_perform_235 ?_
                have e9 := Option.some.inj hf
                subst e9
                exact a_iret rfl dX8_perform_236 rfl
              · replace hf := iteF hf c20
                by_cases c30 : q2_.1 = (30 : Int32)
                · replace hf := iteT hf c30
                  refine a_lookup (off := 174) (tgt := 237) dX8_perform_63 rfl ((congrArg (fun z => Op.lookupswitch.offset _ _ (Int32.toInt z)) c30).trans rfl) (by decide) ?_
                  refine a_aload_n dX8_perform_237 rfl 4 rfl ?_
                  refine a_iload dX8_perform_238 2 rfl ?_
                  refine a_iconst (v := 1) dX8_perform_240 (by decide) ?_
                  refine a_iload_n dX8_perform_241 rfl 7 rfl ?_
                  refine a_aload dX8_perform_242 8 rfl ?_
                  refine a_iload dX8_perform_244 0 rfl ?_
                  obtain ⟨q14_, eq14_, hf⟩ := bnd hf
                  refine a_callS (As := [.ref a0, .int ((0 : Int32)), .int ((1 : Int32)), .int x3, .ref a4, .int (x5 + ((1 : Int32)))]) (rest := []) dX8_perform_246 mfX8_perform csX8_327 (ih _ _ _ _ _ _ _ eq14_) (by omega) rfl rfl (Nat.le_of_ble_eq_true rfl) ?_
                  refine a_iconst (v := 3) dX8_perform_249 (by decide) ?_
                  refine a_imul dX8_perform_250 ?_
                  have e9 := Option.some.inj hf
                  subst e9
                  exact a_iret rfl dX8_perform_251 rfl
                · replace hf := iteF hf c30
                  by_cases c40 : q2_.1 = (40 : Int32)
                  · replace hf := iteT hf c40
                    refine a_lookup (off := 189) (tgt := 252) dX8_perform_63 rfl ((congrArg (fun z => Op.lookupswitch.offset _ _ (Int32.toInt z)) c40).trans rfl) (by decide) ?_
                    refine a_aload_n dX8_perform_252 rfl 4 rfl ?_
                    refine a_iload dX8_perform_253 2 rfl ?_
                    refine a_iconst (v := 1) dX8_perform_255 (by decide) ?_
                    refine a_iload_n dX8_perform_256 rfl 7 rfl ?_
                    refine a_iconst (v := 1) dX8_perform_257 (by decide) ?_
                    refine a_iadd dX8_perform_258 ?_
                    refine a_aload dX8_perform_259 8 rfl ?_
                    refine a_iload dX8_perform_261 0 rfl ?_
                    obtain ⟨q15_, eq15_, hf⟩ := bnd hf
                    refine a_callS (As := [.ref a0, .int ((0 : Int32)), .int ((1 : Int32)), .int (x3 + ((1 : Int32))), .ref a4, .int (x5 + ((1 : Int32)))]) (rest := []) dX8_perform_263 mfX8_perform csX8_327 (ih _ _ _ _ _ _ _ eq15_) (by omega) rfl rfl (Nat.le_of_ble_eq_true rfl) ?_
                    have e9 := Option.some.inj hf
                    subst e9
                    exact a_iret rfl dX8_perform_266 rfl
                  · replace hf := iteF hf c40
                    by_cases c41 : q2_.1 = (41 : Int32)
                    · replace hf := iteT hf c41
                      refine a_lookup (off := 204) (tgt := 267) dX8_perform_63 rfl ((congrArg (fun z => Op.lookupswitch.offset _ _ (Int32.toInt z)) c41).trans rfl) (by decide) ?_
                      refine a_aload_n dX8_perform_267 rfl 4 rfl ?_
                      refine a_iload dX8_perform_268 2 rfl ?_
                      refine a_iconst (v := 2) dX8_perform_270 (by decide) ?_
                      refine a_iload_n dX8_perform_271 rfl 7 rfl ?_
                      refine a_aload dX8_perform_272 8 rfl ?_
                      refine a_iload dX8_perform_274 0 rfl ?_
                      obtain ⟨q16_, eq16_, hf⟩ := bnd hf
                      refine a_callS (As := [.ref a0, .int ((0 : Int32)), .int ((2 : Int32)), .int x3, .ref a4, .int (x5 + ((1 : Int32)))]) (rest := []) dX8_perform_276 mfX8_perform csX8_327 (ih _ _ _ _ _ _ _ eq16_) (by omega) rfl rfl (Nat.le_of_ble_eq_true rfl) ?_
                      refine a_aload_n dX8_perform_279 rfl 4 rfl ?_
                      obtain ⟨v17_, ev17_, hf⟩ := bnd hf
                      refine a_getI dX8_perform_280 flX8_386 rfl ev17_ ?_
                      refine a_isub dX8_perform_283 ?_
                      have e9 := Option.some.inj hf
                      subst e9
                      exact a_iret rfl dX8_perform_284 rfl
                    · replace hf := iteF hf c41
                      by_cases c50 : q2_.1 = (50 : Int32)
                      · replace hf := iteT hf c50
                        refine a_lookup (off := 222) (tgt := 285) dX8_perform_63 rfl ((congrArg (fun z => Op.lookupswitch.offset _ _ (Int32.toInt z)) c50).trans rfl) (by decide) ?_
                        refine a_aload_n dX8_perform_285 rfl 4 rfl ?_
                        refine a_iload dX8_perform_286 2 rfl ?_
                        refine a_iconst (v := 2) dX8_perform_288 (by decide) ?_
                        refine a_iload_n dX8_perform_289 rfl 7 rfl ?_
                        refine a_aload dX8_perform_290 8 rfl ?_
                        refine a_iload dX8_perform_292 0 rfl ?_
                        obtain ⟨q18_, eq18_, hf⟩ := bnd hf
                        refine a_callS (As := [.ref a0, .int ((0 : Int32)), .int ((2 : Int32)), .int x3, .ref a4, .int (x5 + ((1 : Int32)))]) (rest := []) dX8_perform_294 mfX8_perform csX8_327 (ih _ _ _ _ _ _ _ eq18_) (by omega) rfl rfl (Nat.le_of_ble_eq_true rfl) ?_
                        refine a_ineg dX8_perform_297 ?_
                        have e9 := Option.some.inj hf
                        subst e9
                        exact a_iret rfl dX8_perform_298 rfl
                      · replace hf := iteF hf c50
                        by_cases c60 : q2_.1 = (60 : Int32)
                        · replace hf := iteT hf c60
                          refine a_lookup (off := 236) (tgt := 299) dX8_perform_63 rfl ((congrArg (fun z => Op.lookupswitch.offset _ _ (Int32.toInt z)) c60).trans rfl) (by decide) ?_
                          refine a_aload_n dX8_perform_299 rfl 4 rfl ?_
                          refine a_iload dX8_perform_300 2 rfl ?_
                          refine a_iconst (v := 2) dX8_perform_302 (by decide) ?_
                          refine a_iload_n dX8_perform_303 rfl 7 rfl ?_
                          refine a_aload dX8_perform_304 8 rfl ?_
                          refine a_iload dX8_perform_306 0 rfl ?_
                          obtain ⟨q19_, eq19_, hf⟩ := bnd hf
                          refine a_callS (As := [.ref a0, .int ((0 : Int32)), .int ((2 : Int32)), .int x3, .ref a4, .int (x5 + ((1 : Int32)))]) (rest := []) dX8_perform_308 mfX8_perform csX8_327 (ih _ _ _ _ _ _ _ eq19_) (by omega) rfl rfl (Nat.le_of_ble_eq_true rfl) ?_
                          refine a_iconst (v := 5) dX8_perform_311 (by decide) ?_
                          refine a_ixor dX8_perform_312 ?_
                          have e9 := Option.some.inj hf
                          subst e9
                          exact a_iret rfl dX8_perform_313 rfl
                        · replace hf := iteF hf c60
                          by_cases c70 : q2_.1 = (70 : Int32)
                          · replace hf := iteT hf c70
                            refine a_lookup (off := 251) (tgt := 314) dX8_perform_63 rfl ((congrArg (fun z => Op.lookupswitch.offset _ _ (Int32.toInt z)) c70).trans rfl) (by decide) ?_
                            refine a_aload_n dX8_perform_314 rfl 4 rfl ?_
                            refine a_iload dX8_perform_315 2 rfl ?_
                            refine a_iconst (v := 0) dX8_perform_317 (by decide) ?_
                            refine a_iload_n dX8_perform_318 rfl 7 rfl ?_
                            refine a_aload dX8_perform_319 8 rfl ?_
                            refine a_iload dX8_perform_321 0 rfl ?_
                            obtain ⟨q20_, eq20_, hf⟩ := bnd hf
                            refine a_callS (As := [.ref a0, .int ((0 : Int32)), .int ((0 : Int32)), .int x3, .ref a4, .int (x5 + ((1 : Int32)))]) (rest := []) dX8_perform_323 mfX8_perform csX8_327 (ih _ _ _ _ _ _ _ eq20_) (by omega) rfl rfl (Nat.le_of_ble_eq_true rfl) ?_
                            refine a_iconst (v := 2) dX8_perform_326 (by decide) ?_
                            refine a_imul dX8_perform_327 ?_
                            have e9 := Option.some.inj hf
                            subst e9
                            exact a_iret rfl dX8_perform_328 rfl
                          · replace hf := iteF hf c70
                            by_cases c71 : q2_.1 = (71 : Int32)
                            · replace hf := iteT hf c71
                              refine a_lookup (off := 266) (tgt := 329) dX8_perform_63 rfl ((congrArg (fun z => Op.lookupswitch.offset _ _ (Int32.toInt z)) c71).trans rfl) (by decide) ?_
                              refine a_aload_n dX8_perform_329 rfl 4 rfl ?_
                              refine a_iload dX8_perform_330 2 rfl ?_
                              refine a_iconst (v := 1) dX8_perform_332 (by decide) ?_
                              refine a_iload_n dX8_perform_333 rfl 7 rfl ?_
                              refine a_aload_n dX8_perform_334 rfl 4 rfl ?_
                              obtain ⟨v21_, ev21_, hf⟩ := bnd hf
                              refine a_getI dX8_perform_335 flX8_176 rfl ev21_ ?_
                              refine a_isub dX8_perform_338 ?_
                              refine a_aload dX8_perform_339 8 rfl ?_
                              refine a_iload dX8_perform_341 0 rfl ?_
                              obtain ⟨q22_, eq22_, hf⟩ := bnd hf
                              refine a_callS (As := [.ref a0, .int ((0 : Int32)), .int ((1 : Int32)), .int (x3 - v21_), .ref a4, .int (x5 + ((1 : Int32)))]) (rest := []) dX8_perform_343 mfX8_perform csX8_327 (ih _ _ _ _ _ _ _ eq22_) (by omega) rfl rfl (Nat.le_of_ble_eq_true rfl) ?_
                              have e9 := Option.some.inj hf
                              subst e9
                              exact a_iret rfl dX8_perform_346 rfl
                            · replace hf := iteF hf c71
                              refine a_lookup (off := 284) (tgt := 347) dX8_perform_63 rfl ((lv_osw c10 rfl).trans ((lv_osw c11 rfl).trans ((lv_osw c12 rfl).trans ((lv_osw c20 rfl).trans ((lv_osw c30 rfl).trans ((lv_osw c40 rfl).trans ((lv_osw c41 rfl).trans ((lv_osw c50 rfl).trans ((lv_osw c60 rfl).trans ((lv_osw c70 rfl).trans ((lv_osw c71 rfl).trans (rfl)))))))))))) (by decide) ?_
                              refine a_iconst (v := 0) dX8_perform_347 (by decide) ?_
                              have e9 := Option.some.inj hf
                              subst e9
                              exact a_iret rfl dX8_perform_348 rfl
      · replace hf := iteF hf c9
        refine a_iload dX8_perform_21 0 rfl ?_
        refine a_bipush (v := 7) dX8_perform_23 (by decide) ?_
        refine a_icmp_ge dX8_perform_25 (tgt := 37) (by decide) (fun c9 => ?_) (fun c9 => ?_)
        · replace hf := iteT hf c9
          refine a_iconst (v := 0) dX8_perform_37 (by decide) ?_
          refine a_istore (i := 7) (lv1 := [(7, .int ((0 : Int32))), (6, .int q1_.1), (0, .ref a0), (1, .int x1), (2, .int x2), (3, .int x3), (4, .ref a4), (5, .int x5)]) dX8_perform_38 (by decide) rfl ?_
          refine a_iload dX8_perform_40 1 rfl ?_
          refine a_iload_n dX8_perform_42 rfl 4 rfl ?_
          obtain ⟨q23_, eq23_, hf⟩ := bnd hf
          refine a_callS (As := [.int q1_.1, .int x2]) (rest := []) dX8_perform_43 mfX8_bodyOf csX8_371 (wX8_bodyOf eq23_) (by omega) rfl rfl (Nat.le_of_ble_eq_true rfl) ?_
          refine a_istore (i := 8) (lv1 := [(8, .int q23_.1), (7, .int ((0 : Int32))), (6, .int q1_.1), (0, .ref a0), (1, .int x1), (2, .int x2), (3, .int x3), (4, .ref a4), (5, .int x5)]) dX8_perform_46 (by decide) rfl ?_
          refine a_iload dX8_perform_48 8 rfl ?_
          refine a_iconst (v := 1) dX8_perform_50 (by decide) ?_
          refine a_iadd dX8_perform_51 ?_
          refine a_istore (i := 9) (lv1 := [(9, .int (x5 + ((1 : Int32)))), (8, .int q23_.1), (7, .int ((0 : Int32))), (6, .int q1_.1), (0, .ref a0), (1, .int x1), (2, .int x2), (3, .int x3), (4, .ref a4), (5, .int x5)]) dX8_perform_52 (by decide) rfl ?_
          refine a_aload dX8_perform_54 8 rfl ?_
          refine a_iload dX8_perform_56 1 rfl ?_
          obtain ⟨M24_, eM24_, hf⟩ := bnd hf
          refine a_callV (As := [.int q23_.1]) (rest := []) dX8_perform_58 mfX7_add cvX8_383 (wX7_add eM24_) rc7 (kX7_add eM24_) (by omega) rfl rfl (Nat.le_of_ble_eq_true rfl) ?_
          refine a_iload dX8_perform_61 1 rfl ?_
          by_cases c10 : q23_.1 = (10 : Int32)
          · replace hf := iteT hf c10
            refine a_lookup (off := 97) (tgt := 160) dX8_perform_63 rfl ((congrArg (fun z => Op.lookupswitch.offset _ _ (Int32.toInt z)) c10).trans rfl) (by decide) ?_
            refine a_iload_n dX8_perform_160 rfl 7 rfl ?_
            refine a_aload_n dX8_perform_161 rfl 4 rfl ?_
            obtain ⟨v25_, ev25_, hf⟩ := bnd hf
            refine a_getI dX8_perform_162 flX8_386 rfl ev25_ ?_
            refine a_iadd dX8_perform_165 ?_
            have e9 := Option.some.inj hf
            subst e9
            exact a_iret rfl dX8_perform_166 rfl
          · replace hf := iteF hf c10
            by_cases c11 : q23_.1 = (11 : Int32)
            · replace hf := iteT hf c11
              refine a_lookup (off := 104) (tgt := 167) dX8_perform_63 rfl ((congrArg (fun z => Op.lookupswitch.offset _ _ (Int32.toInt z)) c11).trans rfl) (by decide) ?_
              refine a_aload_n dX8_perform_167 rfl 4 rfl ?_
              refine a_aload_n dX8_perform_168 rfl 4 rfl ?_
              obtain ⟨v26_, ev26_, hf⟩ := bnd hf
              refine a_getI dX8_perform_169 flX8_167 rfl ev26_ ?_
              refine a_iconst (v := 0) dX8_perform_172 (by decide) ?_
              refine a_iload_n dX8_perform_173 rfl 7 rfl ?_
              refine a_aload dX8_perform_174 8 rfl ?_
              refine a_iload dX8_perform_176 0 rfl ?_
              obtain ⟨q27_, eq27_, hf⟩ := bnd hf
              refine a_callS (As := [.ref a0, .int v26_, .int ((0 : Int32)), .int x3, .ref a4, .int (x5 + ((1 : Int32)))]) (rest := []) dX8_perform_178 mfX8_perform csX8_327 (ih _ _ _ _ _ _ _ eq27_) (by omega) rfl rfl (Nat.le_of_ble_eq_true rfl) ?_
              refine a_iconst (v := 2) dX8_perform_181 (by decide) ?_
              refine a_imul dX8_perform_182 ?_
              have e9 := Option.some.inj hf
              subst e9
              exact a_iret rfl dX8_perform_183 rfl
            · replace hf := iteF hf c11
              by_cases c12 : q23_.1 = (12 : Int32)
              · replace hf := iteT hf c12
                refine a_lookup (off := 121) (tgt := 184) dX8_perform_63 rfl ((congrArg (fun z => Op.lookupswitch.offset _ _ (Int32.toInt z)) c12).trans rfl) (by decide) ?_
                refine a_aload_n dX8_perform_184 rfl 4 rfl ?_
                refine a_aload_n dX8_perform_185 rfl 4 rfl ?_
                obtain ⟨v28_, ev28_, hf⟩ := bnd hf
                refine a_getI dX8_perform_186 flX8_167 rfl ev28_ ?_
                refine a_iconst (v := 1) dX8_perform_189 (by decide) ?_
                refine a_iload_n dX8_perform_190 rfl 7 rfl ?_
                refine a_aload dX8_perform_191 8 rfl ?_
                refine a_iload dX8_perform_193 0 rfl ?_
                obtain ⟨q29_, eq29_, hf⟩ := bnd hf
                refine a_callS (As := [.ref a0, .int v28_, .int ((1 : Int32)), .int x3, .ref a4, .int (x5 + ((1 : Int32)))]) (rest := []) dX8_perform_195 mfX8_perform csX8_327 (ih _ _ _ _ _ _ _ eq29_) (by omega) rfl rfl (Nat.le_of_ble_eq_true rfl) ?_
                refine a_aload_n dX8_perform_198 rfl 4 rfl ?_
                refine a_aload_n dX8_perform_199 rfl 4 rfl ?_
                obtain ⟨v30_, ev30_, hf⟩ := bnd hf
                refine a_getI dX8_perform_200 flX8_167 rfl ev30_ ?_
                refine a_iconst (v := 0) dX8_perform_203 (by decide) ?_
                refine a_iload_n dX8_perform_204 rfl 7 rfl ?_
                refine a_aload_n dX8_perform_205 rfl 4 rfl ?_
                obtain ⟨v31_, ev31_, hf⟩ := bnd hf
                refine a_getI dX8_perform_206 flX8_176 rfl ev31_ ?_
                refine a_isub dX8_perform_209 ?_
                refine a_aload dX8_perform_210 8 rfl ?_
                refine a_iload dX8_perform_212 0 rfl ?_
                obtain ⟨q32_, eq32_, hf⟩ := bnd hf
                refine a_callS (As := [.ref a0, .int v30_, .int ((0 : Int32)), .int (x3 - v31_), .ref a4, .int (x5 + ((1 : Int32)))]) (rest := [.int q29_.1]) dX8_perform_214 mfX8_perform csX8_327 (ih _ _ _ _ _ _ _ eq32_) (by omega) rfl rfl (Nat.le_of_ble_eq_true rfl) ?_
                refine a_ixor dX8_perform_217 ?_
                have e9 := Option.some.inj hf
                subst e9
                exact a_iret rfl dX8_perform_218 rfl
              · replace hf := iteF hf c12
                by_cases c20 : q23_.1 = (20 : Int32)
                · replace hf := iteT hf c20
                  refine a_lookup (off := 156) (tgt := 219) dX8_perform_63 rfl ((congrArg (fun z => Op.lookupswitch.offset _ _ (Int32.toInt z)) c20).trans rfl) (by decide) ?_
                  refine a_aload_n dX8_perform_219 rfl 4 rfl ?_
                  refine a_iload dX8_perform_220 2 rfl ?_
                  refine a_iconst (v := 0) dX8_perform_222 (by decide) ?_
                  refine a_iload_n dX8_perform_223 rfl 7 rfl ?_
                  refine a_aload dX8_perform_224 8 rfl ?_
                  refine a_iload dX8_perform_226 0 rfl ?_
                  obtain ⟨q33_, eq33_, hf⟩ := bnd hf
                  refine a_callS (As := [.ref a0, .int ((0 : Int32)), .int ((0 : Int32)), .int x3, .ref a4, .int (x5 + ((1 : Int32)))]) (rest := []) dX8_perform_228 mfX8_perform csX8_327 (ih _ _ _ _ _ _ _ eq33_) (by omega) rfl rfl (Nat.le_of_ble_eq_true rfl) ?_
                  refine a_aload_n dX8_perform_231 rfl 4 rfl ?_
                  obtain ⟨v34_, ev34_, hf⟩ := bnd hf
                  refine a_getI dX8_perform_232 flX8_176 rfl ev34_ ?_
                  refine a_iadd dX8_perform_235 ?_
                  have e9 := Option.some.inj hf
                  subst e9
                  exact a_iret rfl dX8_perform_236 rfl
                · replace hf := iteF hf c20
                  by_cases c30 : q23_.1 = (30 : Int32)
                  · replace hf := iteT hf c30
                    refine a_lookup (off := 174) (tgt := 237) dX8_perform_63 rfl ((congrArg (fun z => Op.lookupswitch.offset _ _ (Int32.toInt z)) c30).trans rfl) (by decide) ?_
                    refine a_aload_n dX8_perform_237 rfl 4 rfl ?_
                    refine a_iload dX8_perform_238 2 rfl ?_
                    refine a_iconst (v := 1) dX8_perform_240 (by decide) ?_
                    refine a_iload_n dX8_perform_241 rfl 7 rfl ?_
                    refine a_aload dX8_perform_242 8 rfl ?_
                    refine a_iload dX8_perform_244 0 rfl ?_
                    obtain ⟨q35_, eq35_, hf⟩ := bnd hf
                    refine a_callS (As := [.ref a0, .int ((0 : Int32)), .int ((1 : Int32)), .int x3, .ref a4, .int (x5 + ((1 : Int32)))]) (rest := []) dX8_perform_246 mfX8_perform csX8_327 (ih _ _ _ _ _ _ _ eq35_) (by omega) rfl rfl (Nat.le_of_ble_eq_true rfl) ?_
                    refine a_iconst (v := 3) dX8_perform_249 (by decide) ?_
                    refine a_imul dX8_perform_250 ?_
                    have e9 := Option.some.inj hf
                    subst e9
                    exact a_iret rfl dX8_perform_251 rfl
                  · replace hf := iteF hf c30
                    by_cases c40 : q23_.1 = (40 : Int32)
                    · replace hf := iteT hf c40
                      refine a_lookup (off := 189) (tgt := 252) dX8_perform_63 rfl ((congrArg (fun z => Op.lookupswitch.offset _ _ (Int32.toInt z)) c40).trans rfl) (by decide) ?_
                      refine a_aload_n dX8_perform_252 rfl 4 rfl ?_
                      refine a_iload dX8_perform_253 2 rfl ?_
                      refine a_iconst (v := 1) dX8_perform_255 (by decide) ?_
                      refine a_iload_n dX8_perform_256 rfl 7 rfl ?_
                      refine a_iconst (v := 1) dX8_perform_257 (by decide) ?_
                      refine a_iadd dX8_perform_258 ?_
                      refine a_aload dX8_perform_259 8 rfl ?_
                      refine a_iload dX8_perform_261 0 rfl ?_
                      obtain ⟨q36_, eq36_, hf⟩ := bnd hf
                      refine a_callS (As := [.ref a0, .int ((0 : Int32)), .int ((1 : Int32)), .int (x3 + ((1 : Int32))), .ref a4, .int (x5 + ((1 : Int32)))]) (rest := []) dX8_perform_263 mfX8_perform csX8_327 (ih _ _ _ _ _ _ _ eq36_) (by omega) rfl rfl (Nat.le_of_ble_eq_true rfl) ?_
                      have e9 := Option.some.inj hf
                      subst e9
                      exact a_iret rfl dX8_perform_266 rfl
                    · replace hf := iteF hf c40
                      by_cases c41 : q23_.1 = (41 : Int32)
                      · replace hf := iteT hf c41
                        refine a_lookup (off := 204) (tgt := 267) dX8_perform_63 rfl ((congrArg (fun z => Op.lookupswitch.offset _ _ (Int32.toInt z)) c41).trans rfl) (by decide) ?_
                        refine a_aload_n dX8_perform_267 rfl 4 rfl ?_
                        refine a_iload dX8_perform_268 2 rfl ?_
                        refine a_iconst (v := 2) dX8_perform_270 (by decide) ?_
                        refine a_iload_n dX8_perform_271 rfl 7 rfl ?_
                        refine a_aload dX8_perform_272 8 rfl ?_
                        refine a_iload dX8_perform_274 0 rfl ?_
                        obtain ⟨q37_, eq37_, hf⟩ := bnd hf
                        refine a_callS (As := [.ref a0, .int ((0 : Int32)), .int ((2 : Int32)), .int x3, .ref a4, .int (x5 + ((1 : Int32)))]) (rest := []) dX8_perform_276 mfX8_perform csX8_327 (ih _ _ _ _ _ _ _ eq37_) (by omega) rfl rfl (Nat.le_of_ble_eq_true rfl) ?_
                        refine a_aload_n dX8_perform_279 rfl 4 rfl ?_
                        obtain ⟨v38_, ev38_, hf⟩ := bnd hf
                        refine a_getI dX8_perform_280 flX8_386 rfl ev38_ ?_
                        refine a_isub dX8_perform_283 ?_
                        have e9 := Option.some.inj hf
                        subst e9
                        exact a_iret rfl dX8_perform_284 rfl
                      · replace hf := iteF hf c41
                        by_cases c50 : q23_.1 = (50 : Int32)
                        · replace hf := iteT hf c50
                          refine a_lookup (off := 222) (tgt := 285) dX8_perform_63 rfl ((congrArg (fun z => Op.lookupswitch.offset _ _ (Int32.toInt z)) c50).trans rfl) (by decide) ?_
                          refine a_aload_n dX8_perform_285 rfl 4 rfl ?_
                          refine a_iload dX8_perform_286 2 rfl ?_
                          refine a_iconst (v := 2) dX8_perform_288 (by decide) ?_
                          refine a_iload_n dX8_perform_289 rfl 7 rfl ?_
                          refine a_aload dX8_perform_290 8 rfl ?_
                          refine a_iload dX8_perform_292 0 rfl ?_
                          obtain ⟨q39_, eq39_, hf⟩ := bnd hf
                          refine a_callS (As := [.ref a0, .int ((0 : Int32)), .int ((2 : Int32)), .int x3, .ref a4, .int (x5 + ((1 : Int32)))]) (rest := []) dX8_perform_294 mfX8_perform csX8_327 (ih _ _ _ _ _ _ _ eq39_) (by omega) rfl rfl (Nat.le_of_ble_eq_true rfl) ?_
                          refine a_ineg dX8_perform_297 ?_
                          have e9 := Option.some.inj hf
                          subst e9
                          exact a_iret rfl dX8_perform_298 rfl
                        · replace hf := iteF hf c50
                          by_cases c60 : q23_.1 = (60 : Int32)
                          · replace hf := iteT hf c60
                            refine a_lookup (off := 236) (tgt := 299) dX8_perform_63 rfl ((congrArg (fun z => Op.lookupswitch.offset _ _ (Int32.toInt z)) c60).trans rfl) (by decide) ?_
                            refine a_aload_n dX8_perform_299 rfl 4 rfl ?_
                            refine a_iload dX8_perform_300 2 rfl ?_
                            refine a_iconst (v := 2) dX8_perform_302 (by decide) ?_
                            refine a_iload_n dX8_perform_303 rfl 7 rfl ?_
                            refine a_aload dX8_perform_304 8 rfl ?_
                            refine a_iload dX8_perform_306 0 rfl ?_
                            obtain ⟨q40_, eq40_, hf⟩ := bnd hf
                            refine a_callS (As := [.ref a0, .int ((0 : Int32)), .int ((2 : Int32)), .int x3, .ref a4, .int (x5 + ((1 : Int32)))]) (rest := []) dX8_perform_308 mfX8_perform csX8_327 (ih _ _ _ _ _ _ _ eq40_) (by omega) rfl rfl (Nat.le_of_ble_eq_true rfl) ?_
                            refine a_iconst (v := 5) dX8_perform_311 (by decide) ?_
                            refine a_ixor dX8_perform_312 ?_
                            have e9 := Option.some.inj hf
                            subst e9
                            exact a_iret rfl dX8_perform_313 rfl
                          · replace hf := iteF hf c60
                            by_cases c70 : q23_.1 = (70 : Int32)
                            · replace hf := iteT hf c70
                              refine a_lookup (off := 251) (tgt := 314) dX8_perform_63 rfl ((congrArg (fun z => Op.lookupswitch.offset _ _ (Int32.toInt z)) c70).trans rfl) (by decide) ?_
                              refine a_aload_n dX8_perform_314 rfl 4 rfl ?_
                              refine a_iload dX8_perform_315 2 rfl ?_
                              refine a_iconst (v := 0) dX8_perform_317 (by decide) ?_
                              refine a_iload_n dX8_perform_318 rfl 7 rfl ?_
                              refine a_aload dX8_perform_319 8 rfl ?_
                              refine a_iload dX8_perform_321 0 rfl ?_
                              obtain ⟨q41_, eq41_, hf⟩ := bnd hf
                              refine a_callS (As := [.ref a0, .int ((0 : Int32)), .int ((0 : Int32)), .int x3, .ref a4, .int (x5 + ((1 : Int32)))]) (rest := []) dX8_perform_323 mfX8_perform csX8_327 (ih _ _ _ _ _ _ _ eq41_) (by omega) rfl rfl (Nat.le_of_ble_eq_true rfl) ?_
                              refine a_iconst (v := 2) dX8_perform_326 (by decide) ?_
                              refine a_imul dX8_perform_327 ?_
                              have e9 := Option.some.inj hf
                              subst e9
                              exact a_iret rfl dX8_perform_328 rfl
                            · replace hf := iteF hf c70
                              by_cases c71 : q23_.1 = (71 : Int32)
                              · replace hf := iteT hf c71
                                refine a_lookup (off := 266) (tgt := 329) dX8_perform_63 rfl ((congrArg (fun z => Op.lookupswitch.offset _ _ (Int32.toInt z)) c71).trans rfl) (by decide) ?_
                                refine a_aload_n dX8_perform_329 rfl 4 rfl ?_
                                refine a_iload dX8_perform_330 2 rfl ?_
                                refine a_iconst (v := 1) dX8_perform_332 (by decide) ?_
                                refine a_iload_n dX8_perform_333 rfl 7 rfl ?_
                                refine a_aload_n dX8_perform_334 rfl 4 rfl ?_
                                obtain ⟨v42_, ev42_, hf⟩ := bnd hf
                                refine a_getI dX8_perform_335 flX8_176 rfl ev42_ ?_
                                refine a_isub dX8_perform_338 ?_
                                refine a_aload dX8_perform_339 8 rfl ?_
                                refine a_iload dX8_perform_341 0 rfl ?_
                                obtain ⟨q43_, eq43_, hf⟩ := bnd hf
                                refine a_callS (As := [.ref a0, .int ((0 : Int32)), .int ((1 : Int32)), .int (x3 - v42_), .ref a4, .int (x5 + ((1 : Int32)))]) (rest := []) dX8_perform_343 mfX8_perform csX8_327 (ih _ _ _ _ _ _ _ eq43_) (by omega) rfl rfl (Nat.le_of_ble_eq_true rfl) ?_
                                have e9 := Option.some.inj hf
                                subst e9
                                exact a_iret rfl dX8_perform_346 rfl
                              · replace hf := iteF hf c71
                                refine a_lookup (off := 284) (tgt := 347) dX8_perform_63 rfl ((lv_osw c10 rfl).trans ((lv_osw c11 rfl).trans ((lv_osw c12 rfl).trans ((lv_osw c20 rfl).trans ((lv_osw c30 rfl).trans ((lv_osw c40 rfl).trans ((lv_osw c41 rfl).trans ((lv_osw c50 rfl).trans ((lv_osw c60 rfl).trans ((lv_osw c70 rfl).trans ((lv_osw c71 rfl).trans (rfl)))))))))))) (by decide) ?_
                                refine a_iconst (v := 0) dX8_perform_347 (by decide) ?_
                                have e9 := Option.some.inj hf
                                subst e9
                                exact a_iret rfl dX8_perform_348 rfl
        · replace hf := iteF hf c9
          refine a_gets (v := .ref 1) dX8_perform_28 ws_X8_374 (fun Γ => by simp [gSt]) ?_
          refine a_iload dX8_perform_31 0 rfl ?_
          obtain ⟨v44_, ev44_, hf⟩ := bnd hf
          refine a_iald dX8_perform_33 ev44_ ?_
          refine a_goto (tgt := 38) dX8_perform_34 (by decide) ?_
          refine a_istore (i := 7) (lv1 := [(7, .int v44_), (6, .int q1_.1), (0, .ref a0), (1, .int x1), (2, .int x2), (3, .int x3), (4, .ref a4), (5, .int x5)]) dX8_perform_38 (by decide) rfl ?_
          refine a_iload dX8_perform_40 1 rfl ?_
          refine a_iload_n dX8_perform_42 rfl 4 rfl ?_
          obtain ⟨q45_, eq45_, hf⟩ := bnd hf
          refine a_callS (As := [.int q1_.1, .int x2]) (rest := []) dX8_perform_43 mfX8_bodyOf csX8_371 (wX8_bodyOf eq45_) (by omega) rfl rfl (Nat.le_of_ble_eq_true rfl) ?_
          refine a_istore (i := 8) (lv1 := [(8, .int q45_.1), (7, .int v44_), (6, .int q1_.1), (0, .ref a0), (1, .int x1), (2, .int x2), (3, .int x3), (4, .ref a4), (5, .int x5)]) dX8_perform_46 (by decide) rfl ?_
          refine a_iload dX8_perform_48 8 rfl ?_
          refine a_iconst (v := 1) dX8_perform_50 (by decide) ?_
          refine a_iadd dX8_perform_51 ?_
          refine a_istore (i := 9) (lv1 := [(9, .int (x5 + ((1 : Int32)))), (8, .int q45_.1), (7, .int v44_), (6, .int q1_.1), (0, .ref a0), (1, .int x1), (2, .int x2), (3, .int x3), (4, .ref a4), (5, .int x5)]) dX8_perform_52 (by decide) rfl ?_
          refine a_aload dX8_perform_54 8 rfl ?_
          refine a_iload dX8_perform_56 1 rfl ?_
          obtain ⟨M46_, eM46_, hf⟩ := bnd hf
          refine a_callV (As := [.int q45_.1]) (rest := []) dX8_perform_58 mfX7_add cvX8_383 (wX7_add eM46_) rc7 (kX7_add eM46_) (by omega) rfl rfl (Nat.le_of_ble_eq_true rfl) ?_
          refine a_iload dX8_perform_61 1 rfl ?_
          by_cases c10 : q45_.1 = (10 : Int32)
          · replace hf := iteT hf c10
            refine a_lookup (off := 97) (tgt := 160) dX8_perform_63 rfl ((congrArg (fun z => Op.lookupswitch.offset _ _ (Int32.toInt z)) c10).trans rfl) (by decide) ?_
            refine a_iload_n dX8_perform_160 rfl 7 rfl ?_
            refine a_aload_n dX8_perform_161 rfl 4 rfl ?_
            obtain ⟨v47_, ev47_, hf⟩ := bnd hf
            refine a_getI dX8_perform_162 flX8_386 rfl ev47_ ?_
            refine a_iadd dX8_perform_165 ?_
            have e9 := Option.some.inj hf
            subst e9
            exact a_iret rfl dX8_perform_166 rfl
          · replace hf := iteF hf c10
            by_cases c11 : q45_.1 = (11 : Int32)
            · replace hf := iteT hf c11
              refine a_lookup (off := 104) (tgt := 167) dX8_perform_63 rfl ((congrArg (fun z => Op.lookupswitch.offset _ _ (Int32.toInt z)) c11).trans rfl) (by decide) ?_
              refine a_aload_n dX8_perform_167 rfl 4 rfl ?_
              refine a_aload_n dX8_perform_168 rfl 4 rfl ?_
              obtain ⟨v48_, ev48_, hf⟩ := bnd hf
              refine a_getI dX8_perform_169 flX8_167 rfl ev48_ ?_
              refine a_iconst (v := 0) dX8_perform_172 (by decide) ?_
              refine a_iload_n dX8_perform_173 rfl 7 rfl ?_
              refine a_aload dX8_perform_174 8 rfl ?_
              refine a_iload dX8_perform_176 0 rfl ?_
              obtain ⟨q49_, eq49_, hf⟩ := bnd hf
              refine a_callS (As := [.ref a0, .int v48_, .int ((0 : Int32)), .int x3, .ref a4, .int (x5 + ((1 : Int32)))]) (rest := []) dX8_perform_178 mfX8_perform csX8_327 (ih _ _ _ _ _ _ _ eq49_) (by omega) rfl rfl (Nat.le_of_ble_eq_true rfl) ?_
              refine a_iconst (v := 2) dX8_perform_181 (by decide) ?_
              refine a_imul dX8_perform_182 ?_
              have e9 := Option.some.inj hf
              subst e9
              exact a_iret rfl dX8_perform_183 rfl
            · replace hf := iteF hf c11
              by_cases c12 : q45_.1 = (12 : Int32)
              · replace hf := iteT hf c12
                refine a_lookup (off := 121) (tgt := 184) dX8_perform_63 rfl ((congrArg (fun z => Op.lookupswitch.offset _ _ (Int32.toInt z)) c12).trans rfl) (by decide) ?_
                refine a_aload_n dX8_perform_184 rfl 4 rfl ?_
                refine a_aload_n dX8_perform_185 rfl 4 rfl ?_
                obtain ⟨v50_, ev50_, hf⟩ := bnd hf
                refine a_getI dX8_perform_186 flX8_167 rfl ev50_ ?_
                refine a_iconst (v := 1) dX8_perform_189 (by decide) ?_
                refine a_iload_n dX8_perform_190 rfl 7 rfl ?_
                refine a_aload dX8_perform_191 8 rfl ?_
                refine a_iload dX8_perform_193 0 rfl ?_
                obtain ⟨q51_, eq51_, hf⟩ := bnd hf
                refine a_callS (As := [.ref a0, .int v50_, .int ((1 : Int32)), .int x3, .ref a4, .int (x5 + ((1 : Int32)))]) (rest := []) dX8_perform_195 mfX8_perform csX8_327 (ih _ _ _ _ _ _ _ eq51_) (by omega) rfl rfl (Nat.le_of_ble_eq_true rfl) ?_
                refine a_aload_n dX8_perform_198 rfl 4 rfl ?_
                refine a_aload_n dX8_perform_199 rfl 4 rfl ?_
                obtain ⟨v52_, ev52_, hf⟩ := bnd hf
                refine a_getI dX8_perform_200 flX8_167 rfl ev52_ ?_
                refine a_iconst (v := 0) dX8_perform_203 (by decide) ?_
                refine a_iload_n dX8_perform_204 rfl 7 rfl ?_
                refine a_aload_n dX8_perform_205 rfl 4 rfl ?_
                obtain ⟨v53_, ev53_, hf⟩ := bnd hf
                refine a_getI dX8_perform_206 flX8_176 rfl ev53_ ?_
                refine a_isub dX8_perform_209 ?_
                refine a_aload dX8_perform_210 8 rfl ?_
                refine a_iload dX8_perform_212 0 rfl ?_
                obtain ⟨q54_, eq54_, hf⟩ := bnd hf
                refine a_callS (As := [.ref a0, .int v52_, .int ((0 : Int32)), .int (x3 - v53_), .ref a4, .int (x5 + ((1 : Int32)))]) (rest := [.int q51_.1]) dX8_perform_214 mfX8_perform csX8_327 (ih _ _ _ _ _ _ _ eq54_) (by omega) rfl rfl (Nat.le_of_ble_eq_true rfl) ?_
                refine a_ixor dX8_perform_217 ?_
                have e9 := Option.some.inj hf
                subst e9
                exact a_iret rfl dX8_perform_218 rfl
              · replace hf := iteF hf c12
                by_cases c20 : q45_.1 = (20 : Int32)
                · replace hf := iteT hf c20
                  refine a_lookup (off := 156) (tgt := 219) dX8_perform_63 rfl ((congrArg (fun z => Op.lookupswitch.offset _ _ (Int32.toInt z)) c20).trans rfl) (by decide) ?_
                  refine a_aload_n dX8_perform_219 rfl 4 rfl ?_
                  refine a_iload dX8_perform_220 2 rfl ?_
                  refine a_iconst (v := 0) dX8_perform_222 (by decide) ?_
                  refine a_iload_n dX8_perform_223 rfl 7 rfl ?_
                  refine a_aload dX8_perform_224 8 rfl ?_
                  refine a_iload dX8_perform_226 0 rfl ?_
                  obtain ⟨q55_, eq55_, hf⟩ := bnd hf
                  refine a_callS (As := [.ref a0, .int v44_, .int ((0 : Int32)), .int x3, .ref a4, .int (x5 + ((1 : Int32)))]) (rest := []) dX8_perform_228 mfX8_perform csX8_327 (ih _ _ _ _ _ _ _ eq55_) (by omega) rfl rfl (Nat.le_of_ble_eq_true rfl) ?_
                  refine a_aload_n dX8_perform_231 rfl 4 rfl ?_
                  obtain ⟨v56_, ev56_, hf⟩ := bnd hf
                  refine a_getI dX8_perform_232 flX8_176 rfl ev56_ ?_
                  refine a_iadd dX8_perform_235 ?_
                  have e9 := Option.some.inj hf
                  subst e9
                  exact a_iret rfl dX8_perform_236 rfl
                · replace hf := iteF hf c20
                  by_cases c30 : q45_.1 = (30 : Int32)
                  · replace hf := iteT hf c30
                    refine a_lookup (off := 174) (tgt := 237) dX8_perform_63 rfl ((congrArg (fun z => Op.lookupswitch.offset _ _ (Int32.toInt z)) c30).trans rfl) (by decide) ?_
                    refine a_aload_n dX8_perform_237 rfl 4 rfl ?_
                    refine a_iload dX8_perform_238 2 rfl ?_
                    refine a_iconst (v := 1) dX8_perform_240 (by decide) ?_
                    refine a_iload_n dX8_perform_241 rfl 7 rfl ?_
                    refine a_aload dX8_perform_242 8 rfl ?_
                    refine a_iload dX8_perform_244 0 rfl ?_
                    obtain ⟨q57_, eq57_, hf⟩ := bnd hf
                    refine a_callS (As := [.ref a0, .int v44_, .int ((1 : Int32)), .int x3, .ref a4, .int (x5 + ((1 : Int32)))]) (rest := []) dX8_perform_246 mfX8_perform csX8_327 (ih _ _ _ _ _ _ _ eq57_) (by omega) rfl rfl (Nat.le_of_ble_eq_true rfl) ?_
                    refine a_iconst (v := 3) dX8_perform_249 (by decide) ?_
                    refine a_imul dX8_perform_250 ?_
                    have e9 := Option.some.inj hf
                    subst e9
                    exact a_iret rfl dX8_perform_251 rfl
                  · replace hf := iteF hf c30
                    by_cases c40 : q45_.1 = (40 : Int32)
                    · replace hf := iteT hf c40
                      refine a_lookup (off := 189) (tgt := 252) dX8_perform_63 rfl ((congrArg (fun z => Op.lookupswitch.offset _ _ (Int32.toInt z)) c40).trans rfl) (by decide) ?_
                      refine a_aload_n dX8_perform_252 rfl 4 rfl ?_
                      refine a_iload dX8_perform_253 2 rfl ?_
                      refine a_iconst (v := 1) dX8_perform_255 (by decide) ?_
                      refine a_iload_n dX8_perform_256 rfl 7 rfl ?_
                      refine a_iconst (v := 1) dX8_perform_257 (by decide) ?_
                      refine a_iadd dX8_perform_258 ?_
                      refine a_aload dX8_perform_259 8 rfl ?_
                      refine a_iload dX8_perform_261 0 rfl ?_
                      obtain ⟨q58_, eq58_, hf⟩ := bnd hf
                      refine a_callS (As := [.ref a0, .int v44_, .int ((1 : Int32)), .int (x3 + ((1 : Int32))), .ref a4, .int (x5 + ((1 : Int32)))]) (rest := []) dX8_perform_263 mfX8_perform csX8_327 (ih _ _ _ _ _ _ _ eq58_) (by omega) rfl rfl (Nat.le_of_ble_eq_true rfl) ?_
                      have e9 := Option.some.inj hf
                      subst e9
                      exact a_iret rfl dX8_perform_266 rfl
                    · replace hf := iteF hf c40
                      by_cases c41 : q45_.1 = (41 : Int32)
                      · replace hf := iteT hf c41
                        refine a_lookup (off := 204) (tgt := 267) dX8_perform_63 rfl ((congrArg (fun z => Op.lookupswitch.offset _ _ (Int32.toInt z)) c41).trans rfl) (by decide) ?_
                        refine a_aload_n dX8_perform_267 rfl 4 rfl ?_
                        refine a_iload dX8_perform_268 2 rfl ?_
                        refine a_iconst (v := 2) dX8_perform_270 (by decide) ?_
                        refine a_iload_n dX8_perform_271 rfl 7 rfl ?_
                        refine a_aload dX8_perform_272 8 rfl ?_
                        refine a_iload dX8_perform_274 0 rfl ?_
                        obtain ⟨q59_, eq59_, hf⟩ := bnd hf
                        refine a_callS (As := [.ref a0, .int v44_, .int ((2 : Int32)), .int x3, .ref a4, .int (x5 + ((1 : Int32)))]) (rest := []) dX8_perform_276 mfX8_perform csX8_327 (ih _ _ _ _ _ _ _ eq59_) (by omega) rfl rfl (Nat.le_of_ble_eq_true rfl) ?_
                        refine a_aload_n dX8_perform_279 rfl 4 rfl ?_
                        obtain ⟨v60_, ev60_, hf⟩ := bnd hf
                        refine a_getI dX8_perform_280 flX8_386 rfl ev60_ ?_
                        refine a_isub dX8_perform_283 ?_
                        have e9 := Option.some.inj hf
                        subst e9
                        exact a_iret rfl dX8_perform_284 rfl
                      · replace hf := iteF hf c41
                        by_cases c50 : q45_.1 = (50 : Int32)
                        · replace hf := iteT hf c50
                          refine a_lookup (off := 222) (tgt := 285) dX8_perform_63 rfl ((congrArg (fun z => Op.lookupswitch.offset _ _ (Int32.toInt z)) c50).trans rfl) (by decide) ?_
                          refine a_aload_n dX8_perform_285 rfl 4 rfl ?_
                          refine a_iload dX8_perform_286 2 rfl ?_
                          refine a_iconst (v := 2) dX8_perform_288 (by decide) ?_
                          refine a_iload_n dX8_perform_289 rfl 7 rfl ?_
                          refine a_aload dX8_perform_290 8 rfl ?_
                          refine a_iload dX8_perform_292 0 rfl ?_
                          obtain ⟨q61_, eq61_, hf⟩ := bnd hf
                          refine a_callS (As := [.ref a0, .int v44_, .int ((2 : Int32)), .int x3, .ref a4, .int (x5 + ((1 : Int32)))]) (rest := []) dX8_perform_294 mfX8_perform csX8_327 (ih _ _ _ _ _ _ _ eq61_) (by omega) rfl rfl (Nat.le_of_ble_eq_true rfl) ?_
                          refine a_ineg dX8_perform_297 ?_
                          have e9 := Option.some.inj hf
                          subst e9
                          exact a_iret rfl dX8_perform_298 rfl
                        · replace hf := iteF hf c50
                          by_cases c60 : q45_.1 = (60 : Int32)
                          · replace hf := iteT hf c60
                            refine a_lookup (off := 236) (tgt := 299) dX8_perform_63 rfl ((congrArg (fun z => Op.lookupswitch.offset _ _ (Int32.toInt z)) c60).trans rfl) (by decide) ?_
                            refine a_aload_n dX8_perform_299 rfl 4 rfl ?_
                            refine a_iload dX8_perform_300 2 rfl ?_
                            refine a_iconst (v := 2) dX8_perform_302 (by decide) ?_
                            refine a_iload_n dX8_perform_303 rfl 7 rfl ?_
                            refine a_aload dX8_perform_304 8 rfl ?_
                            refine a_iload dX8_perform_306 0 rfl ?_
                            obtain ⟨q62_, eq62_, hf⟩ := bnd hf
                            refine a_callS (As := [.ref a0, .int v44_, .int ((2 : Int32)), .int x3, .ref a4, .int (x5 + ((1 : Int32)))]) (rest := []) dX8_perform_308 mfX8_perform csX8_327 (ih _ _ _ _ _ _ _ eq62_) (by omega) rfl rfl (Nat.le_of_ble_eq_true rfl) ?_
                            refine a_iconst (v := 5) dX8_perform_311 (by decide) ?_
                            refine a_ixor dX8_perform_312 ?_
                            have e9 := Option.some.inj hf
                            subst e9
                            exact a_iret rfl dX8_perform_313 rfl
                          · replace hf := iteF hf c60
                            by_cases c70 : q45_.1 = (70 : Int32)
                            · replace hf := iteT hf c70
                              refine a_lookup (off := 251) (tgt := 314) dX8_perform_63 rfl ((congrArg (fun z => Op.lookupswitch.offset _ _ (Int32.toInt z)) c70).trans rfl) (by decide) ?_
                              refine a_aload_n dX8_perform_314 rfl 4 rfl ?_
                              refine a_iload dX8_perform_315 2 rfl ?_
                              refine a_iconst (v := 0) dX8_perform_317 (by decide) ?_
                              refine a_iload_n dX8_perform_318 rfl 7 rfl ?_
                              refine a_aload dX8_perform_319 8 rfl ?_
                              refine a_iload dX8_perform_321 0 rfl ?_
                              obtain ⟨q63_, eq63_, hf⟩ := bnd hf
                              refine a_callS (As := [.ref a0, .int v44_, .int ((0 : Int32)), .int x3, .ref a4, .int (x5 + ((1 : Int32)))]) (rest := []) dX8_perform_323 mfX8_perform csX8_327 (ih _ _ _ _ _ _ _ eq63_) (by omega) rfl rfl (Nat.le_of_ble_eq_true rfl) ?_
                              refine a_iconst (v := 2) dX8_perform_326 (by decide) ?_
                              refine a_imul dX8_perform_327 ?_
                              have e9 := Option.some.inj hf
                              subst e9
                              exact a_iret rfl dX8_perform_328 rfl
                            · replace hf := iteF hf c70
                              by_cases c71 : q45_.1 = (71 : Int32)
                              · replace hf := iteT hf c71
                                refine a_lookup (off := 266) (tgt := 329) dX8_perform_63 rfl ((congrArg (fun z => Op.lookupswitch.offset _ _ (Int32.toInt z)) c71).trans rfl) (by decide) ?_
                                refine a_aload_n dX8_perform_329 rfl 4 rfl ?_
                                refine a_iload dX8_perform_330 2 rfl ?_
                                refine a_iconst (v := 1) dX8_perform_332 (by decide) ?_
                                refine a_iload_n dX8_perform_333 rfl 7 rfl ?_
                                refine a_aload_n dX8_perform_334 rfl 4 rfl ?_
                                obtain ⟨v64_, ev64_, hf⟩ := bnd hf
                                refine a_getI dX8_perform_335 flX8_176 rfl ev64_ ?_
                                refine a_isub dX8_perform_338 ?_
                                refine a_aload dX8_perform_339 8 rfl ?_
                                refine a_iload dX8_perform_341 0 rfl ?_
                                obtain ⟨q65_, eq65_, hf⟩ := bnd hf
                                refine a_callS (As := [.ref a0, .int v44_, .int ((1 : Int32)), .int (x3 - v64_), .ref a4, .int (x5 + ((1 : Int32)))]) (rest := []) dX8_perform_343 mfX8_perform csX8_327 (ih _ _ _ _ _ _ _ eq65_) (by omega) rfl rfl (Nat.le_of_ble_eq_true rfl) ?_
                                have e9 := Option.some.inj hf
                                subst e9
                                exact a_iret rfl dX8_perform_346 rfl
                              · replace hf := iteF hf c71
                                refine a_lookup (off := 284) (tgt := 347) dX8_perform_63 rfl ((lv_osw c10 rfl).trans ((lv_osw c11 rfl).trans ((lv_osw c12 rfl).trans ((lv_osw c20 rfl).trans ((lv_osw c30 rfl).trans ((lv_osw c40 rfl).trans ((lv_osw c41 rfl).trans ((lv_osw c50 rfl).trans ((lv_osw c60 rfl).trans ((lv_osw c70 rfl).trans ((lv_osw c71 rfl).trans (rfl)))))))))))) (by decide) ?_
                                refine a_iconst (v := 0) dX8_perform_347 (by decide) ?_
                                have e9 := Option.some.inj hf
                                subst e9
                                exact a_iret rfl dX8_perform_348 rfl
    · replace hf := iteF hf c9
      refine a_iconst (v := 0) dX8_perform_7 (by decide) ?_
      have e9 := Option.some.inj hf
      subst e9
      exact a_iret rfl dX8_perform_8 rfl
theorem kX8_act {a0 : Nat} {x1 : Int32} {x2 : Int32} {x3 : Int32} {M : Mm} {q : Int32 × Mm} (hf : fX8_act a0 x1 x2 x3 M = some q) : (mK M a0).1 = 9 := by
  unfold fX8_act at hf
  obtain ⟨u0, eu0, -⟩ := bnd hf
  exact kc_of eu0
set_option maxHeartbeats 4000000 in
set_option maxRecDepth 100000 in
theorem wX8_act {l : Launch} {Γ : Gx} {a0 : Nat} {x1 : Int32} {x2 : Int32} {x3 : Int32} {M : Mm} {q : Int32 × Mm} (hf : fX8_act a0 x1 x2 x3 M = some q) : AM l Γ 44 yX8_act cX8_act 5 ((some .int)) [.ref a0, .int x1, .int x2, .int x3] M (some (.int q.1)) q.2 := by
  unfold fX8_act at hf
  refine AM.of mfX8_act (Nat.le_of_ble_eq_true rfl) ?_
  generalize mT M = t0
  generalize mW M = w0
  show AW _ _ _ _ _ _ _ _ _ 0 [(0, .ref a0), (1, .int x1), (2, .int x2), (3, .int x3)] [] _ _ _
  obtain ⟨u0, eu0, hf⟩ := bnd hf
  refine a_aload_n dX8_act_0 rfl 0 rfl ?_
  obtain ⟨o1_, eo1_, hf⟩ := bnd hf
  refine a_getR dX8_act_1 flX8_50 rfl eo1_ ?_
  obtain ⟨M2_, eM2_, hf⟩ := bnd hf
  refine a_callV (As := []) (rest := []) dX8_act_4 mfX7_wipe cvX8_324 (wX7_wipe eM2_) rc7 (kX7_wipe eM2_) (by decide) rfl rfl (Nat.le_of_ble_eq_true rfl) ?_
  refine a_aload_n dX8_act_7 rfl 0 rfl ?_
  obtain ⟨o3_, eo3_, hf⟩ := bnd hf
  refine a_getR dX8_act_8 flX8_18 rfl eo3_ ?_
  refine a_iload_n dX8_act_11 rfl 1 rfl ?_
  obtain ⟨q4_, eq4_, hf⟩ := bnd hf
  refine a_callV (As := [.int x1]) (rest := []) dX8_act_12 mfX5_signAt cvX8_100 (wX5_signAt eq4_) rc5 (kX5_signAt eq4_) (by decide) rfl rfl (Nat.le_of_ble_eq_true rfl) ?_
  obtain ⟨n5_, en5_, hf⟩ := bnd hf
  refine a_topN en5_ ?_
  refine a_astoreq (x := n5_) (i := 4) (lv1 := [(4, rv n5_), (0, .ref a0), (1, .int x1), (2, .int x2), (3, .int x3)]) dX8_act_15 (by decide) rfl ?_
  refine a_aloadq (x := n5_) dX8_act_17 0 rfl ?_
  cases n5_ with
  | none =>
    replace hf := el0 hf
    refine a_ifnull0 (tgt := 31) dX8_act_19 (by decide) ?_
    refine a_iconst (v := 0) dX8_act_31 (by decide) ?_
    have e9 := Option.some.inj hf
    subst e9
    exact a_iret rfl dX8_act_32 rfl
  | some o6_ =>
    replace hf := el1 hf
    refine a_ifnull1 dX8_act_19 ?_
    refine a_iload_n dX8_act_22 rfl 3 rfl ?_
    refine a_if_lt dX8_act_23 (tgt := 31) (by decide) (fun c9 => ?_) (fun c9 => ?_)
    · replace hf := iteT hf c9
      refine a_iconst (v := 0) dX8_act_31 (by decide) ?_
      have e9 := Option.some.inj hf
      subst e9
      exact a_iret rfl dX8_act_32 rfl
    · replace hf := iteF hf c9
      refine a_iload_n dX8_act_26 rfl 3 rfl ?_
      refine a_iconst (v := 3) dX8_act_27 (by decide) ?_
      refine a_icmp_lt dX8_act_28 (tgt := 33) (by decide) (fun c9 => ?_) (fun c9 => ?_)
      · replace hf := iteT hf c9
        refine a_aload dX8_act_33 0 rfl ?_
        refine a_aload dX8_act_35 0 rfl ?_
        obtain ⟨v7_, ev7_, hf⟩ := bnd hf
        refine a_getI dX8_act_37 flX8_167 rfl ev7_ ?_
        refine a_iload_n dX8_act_40 rfl 3 rfl ?_
        refine a_iload_n dX8_act_41 rfl 4 rfl ?_
        refine a_aload_n dX8_act_42 rfl 1 rfl ?_
        obtain ⟨o8_, eo8_, hf⟩ := bnd hf
        refine a_getR dX8_act_43 flX8_50 rfl eo8_ ?_
        refine a_iconst (v := 0) dX8_act_46 (by decide) ?_
        obtain ⟨q9_, eq9_, hf⟩ := bnd hf
        refine a_callS (As := [.ref o6_, .int v7_, .int x2, .int x3, .ref o8_, .int ((0 : Int32))]) (rest := []) dX8_act_47 mfX8_perform csX8_327 (wX8_perform _ eq9_) (by decide) rfl rfl (Nat.le_of_ble_eq_true rfl) ?_
        have e9 := Option.some.inj hf
        subst e9
        exact a_iret rfl dX8_act_50 rfl
      · replace hf := iteF hf c9
        refine a_iconst (v := 0) dX8_act_31 (by decide) ?_
        have e9 := Option.some.inj hf
        subst e9
        exact a_iret rfl dX8_act_32 rfl
theorem kX8_trace {a0 : Nat} {x1 : Int32} {M : Mm} {q : Int32 × Mm} (hf : fX8_trace a0 x1 M = some q) : (mK M a0).1 = 9 := by
  unfold fX8_trace at hf
  obtain ⟨u0, eu0, -⟩ := bnd hf
  exact kc_of eu0
set_option maxHeartbeats 4000000 in
set_option maxRecDepth 100000 in
theorem wX8_trace {l : Launch} {Γ : Gx} {a0 : Nat} {x1 : Int32} {M : Mm} {q : Int32 × Mm} (hf : fX8_trace a0 x1 M = some q) : AM l Γ 2 yX8_trace cX8_trace 2 ((some .int)) [.ref a0, .int x1] M (some (.int q.1)) q.2 := by
  unfold fX8_trace at hf
  refine AM.of mfX8_trace (Nat.le_of_ble_eq_true rfl) ?_
  generalize mT M = t0
  generalize mW M = w0
  show AW _ _ _ _ _ _ _ _ _ 0 [(0, .ref a0), (1, .int x1)] [] _ _ _
  obtain ⟨u0, eu0, hf⟩ := bnd hf
  refine a_aload_n dX8_trace_0 rfl 0 rfl ?_
  obtain ⟨o1_, eo1_, hf⟩ := bnd hf
  refine a_getR dX8_trace_1 flX8_50 rfl eo1_ ?_
  refine a_iload_n dX8_trace_4 rfl 1 rfl ?_
  obtain ⟨q2_, eq2_, hf⟩ := bnd hf
  refine a_callV (As := [.int x1]) (rest := []) dX8_trace_5 mfX7_bodyAt cvX8_331 (wX7_bodyAt eq2_) rc7 (kX7_bodyAt eq2_) (by decide) rfl rfl (Nat.le_of_ble_eq_true rfl) ?_
  have e9 := Option.some.inj hf
  subst e9
  exact a_iret rfl dX8_trace_8 rfl
theorem kX8_image {a0 : Nat} {M : Mm} {q : Int32 × Mm} (hf : fX8_image a0 M = some q) : (mK M a0).1 = 9 := by
  unfold fX8_image at hf
  obtain ⟨u0, eu0, -⟩ := bnd hf
  exact kc_of eu0
set_option maxHeartbeats 4000000 in
set_option maxRecDepth 100000 in
theorem wX8_image {l : Launch} {Γ : Gx} {a0 : Nat} {M : Mm} {q : Int32 × Mm} (hf : fX8_image a0 M = some q) : AM l Γ 3 yX8_image cX8_image 1 ((some .int)) [.ref a0] M (some (.int q.1)) q.2 := by
  unfold fX8_image at hf
  refine AM.of mfX8_image (Nat.le_of_ble_eq_true rfl) ?_
  generalize mT M = t0
  generalize mW M = w0
  show AW _ _ _ _ _ _ _ _ _ 0 [(0, .ref a0)] [] _ _ _
  obtain ⟨u0, eu0, hf⟩ := bnd hf
  refine a_aload_n dX8_image_0 rfl 0 rfl ?_
  obtain ⟨o1_, eo1_, hf⟩ := bnd hf
  refine a_getR dX8_image_1 flX8_25 rfl eo1_ ?_
  refine a_aload_n dX8_image_4 rfl 0 rfl ?_
  obtain ⟨o2_, eo2_, hf⟩ := bnd hf
  refine a_getR dX8_image_5 flX8_18 rfl eo2_ ?_
  obtain ⟨M3_, eM3_, hf⟩ := bnd hf
  refine a_callV (As := [.ref o2_]) (rest := []) dX8_image_8 mfX5_becomeLike cvX8_198 (wX5_becomeLike eM3_) rc5 (kX5_becomeLike eM3_) (by decide) rfl rfl (Nat.le_of_ble_eq_true rfl) ?_
  refine a_aload_n dX8_image_11 rfl 0 rfl ?_
  refine a_iconst (v := 1) dX8_image_12 (by decide) ?_
  obtain ⟨M4_, eM4_, hf⟩ := bnd hf
  refine a_putZ dX8_image_13 fpX8_28 rfl (Or.inr nf8_4) eM4_ ?_
  refine a_aload_n dX8_image_16 rfl 0 rfl ?_
  obtain ⟨o5_, eo5_, hf⟩ := bnd hf
  refine a_getR dX8_image_17 flX8_18 rfl eo5_ ?_
  obtain ⟨v6_, ev6_, hf⟩ := bnd hf
  refine a_getI dX8_image_20 flX8_266 rfl ev6_ ?_
  have e9 := Option.some.inj hf
  subst e9
  exact a_iret rfl dX8_image_23 rfl
theorem kX8_restore {a0 : Nat} {M : Mm} {q : Int32 × Mm} (hf : fX8_restore a0 M = some q) : (mK M a0).1 = 9 := by
  unfold fX8_restore at hf
  obtain ⟨u0, eu0, -⟩ := bnd hf
  exact kc_of eu0
set_option maxHeartbeats 4000000 in
set_option maxRecDepth 100000 in
theorem wX8_restore {l : Launch} {Γ : Gx} {a0 : Nat} {M : Mm} {q : Int32 × Mm} (hf : fX8_restore a0 M = some q) : AM l Γ 3 yX8_restore cX8_restore 1 ((some .int)) [.ref a0] M (some (.int q.1)) q.2 := by
  unfold fX8_restore at hf
  refine AM.of mfX8_restore (Nat.le_of_ble_eq_true rfl) ?_
  generalize mT M = t0
  generalize mW M = w0
  show AW _ _ _ _ _ _ _ _ _ 0 [(0, .ref a0)] [] _ _ _
  obtain ⟨u0, eu0, hf⟩ := bnd hf
  refine a_aload_n dX8_restore_0 rfl 0 rfl ?_
  obtain ⟨v1_, ev1_, hf⟩ := bnd hf
  refine a_getI dX8_restore_1 flX8_28 rfl ev1_ ?_
  refine a_if_ne dX8_restore_4 (tgt := 14) (by decide) (fun c9 => ?_) (fun c9 => ?_)
  · replace hf := iteF hf c9
    refine a_aload_n dX8_restore_14 rfl 0 rfl ?_
    obtain ⟨o2_, eo2_, hf⟩ := bnd hf
    refine a_getR dX8_restore_15 flX8_18 rfl eo2_ ?_
    refine a_aload_n dX8_restore_18 rfl 0 rfl ?_
    obtain ⟨o3_, eo3_, hf⟩ := bnd hf
    refine a_getR dX8_restore_19 flX8_25 rfl eo3_ ?_
    obtain ⟨M4_, eM4_, hf⟩ := bnd hf
    refine a_callV (As := [.ref o3_]) (rest := []) dX8_restore_22 mfX5_becomeLike cvX8_198 (wX5_becomeLike eM4_) rc5 (kX5_becomeLike eM4_) (by decide) rfl rfl (Nat.le_of_ble_eq_true rfl) ?_
    refine a_aload_n dX8_restore_25 rfl 0 rfl ?_
    refine a_aload_n dX8_restore_26 rfl 0 rfl ?_
    obtain ⟨o5_, eo5_, hf⟩ := bnd hf
    refine a_getR dX8_restore_27 flX8_18 rfl eo5_ ?_
    obtain ⟨v6_, ev6_, hf⟩ := bnd hf
    refine a_getI dX8_restore_30 flX8_266 rfl ev6_ ?_
    obtain ⟨M7_, eM7_, hf⟩ := bnd hf
    refine a_callV (As := [.int v6_]) (rest := []) dX8_restore_33 mfX8_dropSignsFrom cvX8_127 (wX8_dropSignsFrom eM7_) rc8 (kX8_dropSignsFrom eM7_) (by decide) rfl rfl (Nat.le_of_ble_eq_true rfl) ?_
    refine a_aload_n dX8_restore_36 rfl 0 rfl ?_
    obtain ⟨o8_, eo8_, hf⟩ := bnd hf
    refine a_getR dX8_restore_37 flX8_18 rfl eo8_ ?_
    obtain ⟨v9_, ev9_, hf⟩ := bnd hf
    refine a_getI dX8_restore_40 flX8_266 rfl ev9_ ?_
    have e9 := Option.some.inj hf
    subst e9
    exact a_iret rfl dX8_restore_43 rfl
  · replace hf := iteT hf c9
    refine a_aload_n dX8_restore_7 rfl 0 rfl ?_
    refine a_bipush (v := -6) dX8_restore_8 (by decide) ?_
    obtain ⟨q10_, eq10_, hf⟩ := bnd hf
    refine a_callV (As := [.int ((-6 : Int32))]) (rest := []) dX8_restore_10 mfX8_refused cvX8_63 (wX8_refused eq10_) rc8 (kX8_refused eq10_) (by decide) rfl rfl (Nat.le_of_ble_eq_true rfl) ?_
    have e9 := Option.some.inj hf
    subst e9
    exact a_iret rfl dX8_restore_13 rfl
theorem kX8_refusalsOf {a0 : Nat} {x1 : Int32} {M : Mm} {q : Int32 × Mm} (hf : fX8_refusalsOf a0 x1 M = some q) : (mK M a0).1 = 9 := by
  unfold fX8_refusalsOf at hf
  obtain ⟨u0, eu0, -⟩ := bnd hf
  exact kc_of eu0
set_option maxHeartbeats 4000000 in
set_option maxRecDepth 100000 in
theorem wX8_refusalsOf {l : Launch} {Γ : Gx} {a0 : Nat} {x1 : Int32} {M : Mm} {q : Int32 × Mm} (hf : fX8_refusalsOf a0 x1 M = some q) : AM l Γ 1 yX8_refusalsOf cX8_refusalsOf 3 ((some .int)) [.ref a0, .int x1] M (some (.int q.1)) q.2 := by
  unfold fX8_refusalsOf at hf
  refine AM.of mfX8_refusalsOf (Nat.le_of_ble_eq_true rfl) ?_
  generalize mT M = t0
  generalize mW M = w0
  show AW _ _ _ _ _ _ _ _ _ 0 [(0, .ref a0), (1, .int x1)] [] _ _ _
  obtain ⟨u0, eu0, hf⟩ := bnd hf
  refine a_iload_n dX8_refusalsOf_0 rfl 1 rfl ?_
  refine a_ineg dX8_refusalsOf_1 ?_
  refine a_istore_n (i := 2) (lv1 := [(2, .int (-x1)), (0, .ref a0), (1, .int x1)]) dX8_refusalsOf_2 rfl (by decide) rfl ?_
  refine a_iload_n dX8_refusalsOf_3 rfl 0 rfl ?_
  refine a_if_le dX8_refusalsOf_4 (tgt := 25) (by decide) (fun c9 => ?_) (fun c9 => ?_)
  · replace hf := iteT hf c9
    refine a_iconst (v := -1) dX8_refusalsOf_25 (by decide) ?_
    have e9 := Option.some.inj hf
    subst e9
    exact a_iret rfl dX8_refusalsOf_26 rfl
  · replace hf := iteF hf c9
    refine a_iload_n dX8_refusalsOf_7 rfl 0 rfl ?_
    refine a_aload_n dX8_refusalsOf_8 rfl 1 rfl ?_
    obtain ⟨o1_, eo1_, hf⟩ := bnd hf
    refine a_getR dX8_refusalsOf_9 flX8_32 rfl eo1_ ?_
    obtain ⟨v2_, ev2_, hf⟩ := bnd hf
    refine a_alen dX8_refusalsOf_12 ev2_ ?_
    refine a_icmp_ge dX8_refusalsOf_13 (tgt := 25) (by decide) (fun c9 => ?_) (fun c9 => ?_)
    · replace hf := iteT hf c9
      refine a_iconst (v := -1) dX8_refusalsOf_25 (by decide) ?_
      have e9 := Option.some.inj hf
      subst e9
      exact a_iret rfl dX8_refusalsOf_26 rfl
    · replace hf := iteF hf c9
      refine a_aload_n dX8_refusalsOf_16 rfl 1 rfl ?_
      obtain ⟨o3_, eo3_, hf⟩ := bnd hf
      refine a_getR dX8_refusalsOf_17 flX8_32 rfl eo3_ ?_
      refine a_iload_n dX8_refusalsOf_20 rfl 0 rfl ?_
      obtain ⟨v4_, ev4_, hf⟩ := bnd hf
      refine a_iald dX8_refusalsOf_21 ev4_ ?_
      refine a_goto (tgt := 26) dX8_refusalsOf_22 (by decide) ?_
      have e9 := Option.some.inj hf
      subst e9
      exact a_iret rfl dX8_refusalsOf_26 rfl
theorem kX8_status {a0 : Nat} {x1 : Int32} {M : Mm} {q : Int32 × Mm} (hf : fX8_status a0 x1 M = some q) : (mK M a0).1 = 9 := by
  unfold fX8_status at hf
  obtain ⟨u0, eu0, -⟩ := bnd hf
  exact kc_of eu0
set_option maxHeartbeats 4000000 in
set_option maxRecDepth 100000 in
theorem wX8_status {l : Launch} {Γ : Gx} {a0 : Nat} {x1 : Int32} {M : Mm} {q : Int32 × Mm} (hf : fX8_status a0 x1 M = some q) : AM l Γ 2 yX8_status cX8_status 2 ((some .int)) [.ref a0, .int x1] M (some (.int q.1)) q.2 := by
  unfold fX8_status at hf
  refine AM.of mfX8_status (Nat.le_of_ble_eq_true rfl) ?_
  generalize mT M = t0
  generalize mW M = w0
  show AW _ _ _ _ _ _ _ _ _ 0 [(0, .ref a0), (1, .int x1)] [] _ _ _
  obtain ⟨u0, eu0, hf⟩ := bnd hf
  refine a_iload_n dX8_status_0 rfl 1 rfl ?_
  by_cases c0 : x1 = (0 : Int32)
  · replace hf := iteT hf c0
    refine a_tableAt 0 (off := 55) (tgt := 56) dX8_status_1 ((congrArg Int32.toInt c0).trans rfl) (by decide) (by decide) ?_
    refine a_aload_n dX8_status_56 rfl 0 rfl ?_
    obtain ⟨o1_, eo1_, hf⟩ := bnd hf
    refine a_getR dX8_status_57 flX8_18 rfl eo1_ ?_
    obtain ⟨v2_, ev2_, hf⟩ := bnd hf
    refine a_getI dX8_status_60 flX8_121 rfl ev2_ ?_
    have e9 := Option.some.inj hf
    subst e9
    exact a_iret rfl dX8_status_63 rfl
  · replace hf := iteF hf c0
    by_cases c1 : x1 = (1 : Int32)
    · replace hf := iteT hf c1
      refine a_tableAt 1 (off := 63) (tgt := 64) dX8_status_1 ((congrArg Int32.toInt c1).trans rfl) (by decide) (by decide) ?_
      refine a_aload_n dX8_status_64 rfl 0 rfl ?_
      obtain ⟨o3_, eo3_, hf⟩ := bnd hf
      refine a_getR dX8_status_65 flX8_18 rfl eo3_ ?_
      obtain ⟨v4_, ev4_, hf⟩ := bnd hf
      refine a_getI dX8_status_68 flX8_266 rfl ev4_ ?_
      have e9 := Option.some.inj hf
      subst e9
      exact a_iret rfl dX8_status_71 rfl
    · replace hf := iteF hf c1
      by_cases c2 : x1 = (2 : Int32)
      · replace hf := iteT hf c2
        refine a_tableAt 2 (off := 71) (tgt := 72) dX8_status_1 ((congrArg Int32.toInt c2).trans rfl) (by decide) (by decide) ?_
        refine a_aload_n dX8_status_72 rfl 0 rfl ?_
        obtain ⟨o5_, eo5_, hf⟩ := bnd hf
        refine a_getR dX8_status_73 flX8_18 rfl eo5_ ?_
        obtain ⟨v6_, ev6_, hf⟩ := bnd hf
        refine a_getI dX8_status_76 flX8_195 rfl ev6_ ?_
        have e9 := Option.some.inj hf
        subst e9
        exact a_iret rfl dX8_status_79 rfl
      · replace hf := iteF hf c2
        by_cases c3 : x1 = (3 : Int32)
        · replace hf := iteT hf c3
          refine a_tableAt 3 (off := 79) (tgt := 80) dX8_status_1 ((congrArg Int32.toInt c3).trans rfl) (by decide) (by decide) ?_
          refine a_aload_n dX8_status_80 rfl 0 rfl ?_
          obtain ⟨o7_, eo7_, hf⟩ := bnd hf
          refine a_getR dX8_status_81 flX8_18 rfl eo7_ ?_
          obtain ⟨v8_, ev8_, hf⟩ := bnd hf
          refine a_getI dX8_status_84 flX8_220 rfl ev8_ ?_
          have e9 := Option.some.inj hf
          subst e9
          exact a_iret rfl dX8_status_87 rfl
        · replace hf := iteF hf c3
          by_cases c4 : x1 = (4 : Int32)
          · replace hf := iteT hf c4
            refine a_tableAt 4 (off := 87) (tgt := 88) dX8_status_1 ((congrArg Int32.toInt c4).trans rfl) (by decide) (by decide) ?_
            refine a_aload_n dX8_status_88 rfl 0 rfl ?_
            obtain ⟨o9_, eo9_, hf⟩ := bnd hf
            refine a_getR dX8_status_89 flX8_18 rfl eo9_ ?_
            obtain ⟨v10_, ev10_, hf⟩ := bnd hf
            refine a_getI dX8_status_92 flX8_334 rfl ev10_ ?_
            have e9 := Option.some.inj hf
            subst e9
            exact a_iret rfl dX8_status_95 rfl
          · replace hf := iteF hf c4
            by_cases c5 : x1 = (5 : Int32)
            · replace hf := iteT hf c5
              refine a_tableAt 5 (off := 95) (tgt := 96) dX8_status_1 ((congrArg Int32.toInt c5).trans rfl) (by decide) (by decide) ?_
              refine a_aload_n dX8_status_96 rfl 0 rfl ?_
              obtain ⟨o11_, eo11_, hf⟩ := bnd hf
              refine a_getR dX8_status_97 flX8_18 rfl eo11_ ?_
              obtain ⟨v12_, ev12_, hf⟩ := bnd hf
              refine a_getI dX8_status_100 flX8_337 rfl ev12_ ?_
              have e9 := Option.some.inj hf
              subst e9
              exact a_iret rfl dX8_status_103 rfl
            · replace hf := iteF hf c5
              by_cases c6 : x1 = (6 : Int32)
              · replace hf := iteT hf c6
                refine a_tableAt 6 (off := 103) (tgt := 104) dX8_status_1 ((congrArg Int32.toInt c6).trans rfl) (by decide) (by decide) ?_
                refine a_aload_n dX8_status_104 rfl 0 rfl ?_
                obtain ⟨o13_, eo13_, hf⟩ := bnd hf
                refine a_getR dX8_status_105 flX8_18 rfl eo13_ ?_
                obtain ⟨v14_, ev14_, hf⟩ := bnd hf
                refine a_getI dX8_status_108 flX8_340 rfl ev14_ ?_
                refine a_if_eq dX8_status_111 (tgt := 118) (by decide) (fun c9 => ?_) (fun c9 => ?_)
                · replace hf := iteT hf c9
                  refine a_iconst (v := 0) dX8_status_118 (by decide) ?_
                  have e9 := Option.some.inj hf
                  subst e9
                  exact a_iret rfl dX8_status_119 rfl
                · replace hf := iteF hf c9
                  refine a_iconst (v := 1) dX8_status_114 (by decide) ?_
                  refine a_goto (tgt := 119) dX8_status_115 (by decide) ?_
                  have e9 := Option.some.inj hf
                  subst e9
                  exact a_iret rfl dX8_status_119 rfl
              · replace hf := iteF hf c6
                by_cases c7 : x1 = (7 : Int32)
                · replace hf := iteT hf c7
                  refine a_tableAt 7 (off := 119) (tgt := 120) dX8_status_1 ((congrArg Int32.toInt c7).trans rfl) (by decide) (by decide) ?_
                  refine a_aload_n dX8_status_120 rfl 0 rfl ?_
                  obtain ⟨o15_, eo15_, hf⟩ := bnd hf
                  refine a_getR dX8_status_121 flX8_18 rfl eo15_ ?_
                  obtain ⟨v16_, ev16_, hf⟩ := bnd hf
                  refine a_getI dX8_status_124 flX8_343 rfl ev16_ ?_
                  have e9 := Option.some.inj hf
                  subst e9
                  exact a_iret rfl dX8_status_127 rfl
                · replace hf := iteF hf c7
                  by_cases c8 : x1 = (8 : Int32)
                  · replace hf := iteT hf c8
                    refine a_tableAt 8 (off := 127) (tgt := 128) dX8_status_1 ((congrArg Int32.toInt c8).trans rfl) (by decide) (by decide) ?_
                    refine a_aload_n dX8_status_128 rfl 0 rfl ?_
                    obtain ⟨o17_, eo17_, hf⟩ := bnd hf
                    refine a_getR dX8_status_129 flX8_50 rfl eo17_ ?_
                    obtain ⟨v18_, ev18_, hf⟩ := bnd hf
                    refine a_getI dX8_status_132 flX8_346 rfl ev18_ ?_
                    have e9 := Option.some.inj hf
                    subst e9
                    exact a_iret rfl dX8_status_135 rfl
                  · replace hf := iteF hf c8
                    by_cases c9 : x1 = (9 : Int32)
                    · replace hf := iteT hf c9
                      refine a_tableAt 9 (off := 135) (tgt := 136) dX8_status_1 ((congrArg Int32.toInt c9).trans rfl) (by decide) (by decide) ?_
                      refine a_aload_n dX8_status_136 rfl 0 rfl ?_
                      obtain ⟨o19_, eo19_, hf⟩ := bnd hf
                      refine a_getR dX8_status_137 flX8_18 rfl eo19_ ?_
                      obtain ⟨v20_, ev20_, hf⟩ := bnd hf
                      refine a_getI dX8_status_140 flX8_312 rfl ev20_ ?_
                      have e9 := Option.some.inj hf
                      subst e9
                      exact a_iret rfl dX8_status_143 rfl
                    · replace hf := iteF hf c9
                      refine a_tableOut (tgt := 144) dX8_status_1 (by have nc0 := swne c0 (k9 := 0) rfl; have nc1 := swne c1 (k9 := 1) rfl; have nc2 := swne c2 (k9 := 2) rfl; have nc3 := swne c3 (k9 := 3) rfl; have nc4 := swne c4 (k9 := 4) rfl; have nc5 := swne c5 (k9 := 5) rfl; have nc6 := swne c6 (k9 := 6) rfl; have nc7 := swne c7 (k9 := 7) rfl; have nc8 := swne c8 (k9 := 8) rfl; have nc9 := swne c9 (k9 := 9) rfl; omega) (by decide) ?_
                      refine a_aload_n dX8_status_144 rfl 0 rfl ?_
                      refine a_bipush (v := 10) dX8_status_145 (by decide) ?_
                      refine a_iload_n dX8_status_147 rfl 1 rfl ?_
                      refine a_isub dX8_status_148 ?_
                      obtain ⟨q21_, eq21_, hf⟩ := bnd hf
                      refine a_callV (As := [.int (((10 : Int32)) - x1)]) (rest := []) dX8_status_149 mfX8_refusalsOf cvX8_349 (wX8_refusalsOf eq21_) rc8 (kX8_refusalsOf eq21_) (by decide) rfl rfl (Nat.le_of_ble_eq_true rfl) ?_
                      have e9 := Option.some.inj hf
                      subst e9
                      exact a_iret rfl dX8_status_152 rfl
