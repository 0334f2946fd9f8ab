/-! the walks (written by wip/whole/gen.py) -/
theorem kX9_knows {a0 : Nat} {x1 : Int32} {M : Mm} {q : Mm} (hf : fX9_knows a0 x1 M = some q) : (mK M a0).1 = 10 := by
  unfold fX9_knows at hf
  obtain ⟨u0, eu0, -⟩ := bnd hf
  exact kc_of eu0
set_option maxHeartbeats 4000000 in
set_option maxRecDepth 100000 in
theorem wX9_knows_b35 {l : Launch} {Γ : Gx} {t0 w0 : Nat} {q : Mm} (k2 : Nat → Int32 → Int32 → Mm → Option (Mm)) (hk2 : ∀ (a0 : Nat) (x1 : Int32) (x2 : Int32) (M : Mm), k2 a0 x1 x2 M = some q → AW l Γ yX9_knows cX9_knows 3 (none) 1 t0 w0 2 [(0, .ref a0), (1, .int x1), (2, .int x2)] [] M none q) (a0 : Nat) (x1 : Int32) (x2 : Int32) (s0 : Nat) (s1 : Int32) (M : Mm) (hf : fX9_knows_b35 k2 a0 x1 x2 s0 s1 M = some q) : AW l Γ yX9_knows cX9_knows 3 (none) 1 t0 w0 35 [(0, .ref a0), (1, .int x1), (2, .int x2)] [.int s1, .ref s0] M none q := by
  unfold fX9_knows_b35 at hf
  refine a_lconst (v := 1) dX9_knows_35 rfl ?_
  refine a_goto (tgt := 40) dX9_knows_36 (by decide) ?_
  obtain ⟨M1_, eM1_, hf⟩ := bnd hf
  refine a_last dX9_knows_40 eM1_ ?_
  refine a_iinc (v := x2 + (1 : Int32)) (lv1 := [(2, .int (x2 + (1 : Int32))), (0, .ref a0), (1, .int x1)]) dX9_knows_41 2 rfl rfl (by decide) rfl ?_
  refine a_goto (tgt := 2) dX9_knows_44 (by decide) ?_
  refine AW.sub (lv1 := [(0, .ref a0), (1, .int x1), (2, .int (x2 + (1 : Int32)))]) [1, 2, 0] rfl ?_
  exact hk2 _ _ _ _ hf
set_option maxHeartbeats 4000000 in
set_option maxRecDepth 100000 in
theorem wX9_knows_b2 {l : Launch} {Γ : Gx} {t0 w0 : Nat} {q : Mm} : ∀ (n : Nat) (a0 : Nat) (x1 : Int32) (x2 : Int32) (M : Mm), fX9_knows_b2 n a0 x1 x2 M = some q → AW l Γ yX9_knows cX9_knows 3 (none) 1 t0 w0 2 [(0, .ref a0), (1, .int x1), (2, .int x2)] [] M none q := by
  intro n
  induction n with
  | zero =>
    intro a0 x1 x2 M hf
    cases hf
  | succ n ih =>
    intro a0 x1 x2 M hf
    rw [fX9_knows_b2.eq_2] at hf
    refine a_iload_n dX9_knows_2 rfl 2 rfl ?_
    refine a_bipush (v := 24) dX9_knows_3 (by decide) ?_
    refine a_icmp_ge dX9_knows_5 (tgt := 47) (by decide) (fun c9 => ?_) (fun c9 => ?_)
    · replace hf := iteT hf c9
      refine a_aload_n dX9_knows_47 rfl 0 rfl ?_
      refine a_iconst (v := 0) dX9_knows_48 (by decide) ?_
      obtain ⟨M1_, eM1_, hf⟩ := bnd hf
      refine a_putI dX9_knows_49 fpX9_136 rfl (Or.inr nf9_8) eM1_ ?_
      refine a_aload_n dX9_knows_52 rfl 0 rfl ?_
      refine a_iconst (v := 0) dX9_knows_53 (by decide) ?_
      obtain ⟨M2_, eM2_, hf⟩ := bnd hf
      refine a_putI dX9_knows_54 fpX9_129 rfl (Or.inr nf9_9) eM2_ ?_
      have e9 := Option.some.inj hf
      subst e9
      exact a_vret rfl dX9_knows_57 rfl
    · replace hf := iteF hf c9
      refine a_aload_n dX9_knows_8 rfl 0 rfl ?_
      obtain ⟨o3_, eo3_, hf⟩ := bnd hf
      refine a_getR dX9_knows_9 flX9_56 rfl eo3_ ?_
      refine a_iload_n dX9_knows_12 rfl 2 rfl ?_
      refine a_iload_n dX9_knows_13 rfl 2 rfl ?_
      refine a_aload_n dX9_knows_14 rfl 0 rfl ?_
      obtain ⟨v4_, ev4_, hf⟩ := bnd hf
      refine a_getI dX9_knows_15 flX9_7 rfl ev4_ ?_
      refine a_icmp_lt dX9_knows_18 (tgt := 25) (by decide) (fun c9 => ?_) (fun c9 => ?_)
      · replace hf := iteT hf c9
        refine a_iload_n dX9_knows_25 rfl 1 rfl ?_
        refine a_iconst (v := -1) dX9_knows_26 (by decide) ?_
        refine a_icmp_eq dX9_knows_27 (tgt := 35) (by decide) (fun c9 => ?_) (fun c9 => ?_)
        · replace hf := iteT hf c9
          exact wX9_knows_b35 _ ih _ _ _ _ _ _ hf
        · replace hf := iteF hf c9
          refine a_iload_n dX9_knows_30 rfl 1 rfl ?_
          refine a_iload_n dX9_knows_31 rfl 2 rfl ?_
          refine a_icmp_ne dX9_knows_32 (tgt := 39) (by decide) (fun c9 => ?_) (fun c9 => ?_)
          · replace hf := iteF hf c9
            refine a_lconst (v := 0) dX9_knows_39 rfl ?_
            obtain ⟨M5_, eM5_, hf⟩ := bnd hf
            refine a_last dX9_knows_40 eM5_ ?_
            refine a_iinc (v := x2 + (1 : Int32)) (lv1 := [(2, .int (x2 + (1 : Int32))), (0, .ref a0), (1, .int x1)]) dX9_knows_41 2 rfl rfl (by decide) rfl ?_
            refine a_goto (tgt := 2) dX9_knows_44 (by decide) ?_
            refine AW.sub (lv1 := [(0, .ref a0), (1, .int x1), (2, .int (x2 + (1 : Int32)))]) [1, 2, 0] rfl ?_
            exact ih _ _ _ _ hf
          · replace hf := iteT hf c9
            exact wX9_knows_b35 _ ih _ _ _ _ _ _ hf
      · replace hf := iteF hf c9
        refine a_lconst (v := 0) dX9_knows_21 rfl ?_
        refine a_goto (tgt := 40) dX9_knows_22 (by decide) ?_
        obtain ⟨M6_, eM6_, hf⟩ := bnd hf
        refine a_last dX9_knows_40 eM6_ ?_
        refine a_iinc (v := x2 + (1 : Int32)) (lv1 := [(2, .int (x2 + (1 : Int32))), (0, .ref a0), (1, .int x1)]) dX9_knows_41 2 rfl rfl (by decide) rfl ?_
        refine a_goto (tgt := 2) dX9_knows_44 (by decide) ?_
        refine AW.sub (lv1 := [(0, .ref a0), (1, .int x1), (2, .int (x2 + (1 : Int32)))]) [1, 2, 0] rfl ?_
        exact ih _ _ _ _ hf
set_option maxHeartbeats 4000000 in
set_option maxRecDepth 100000 in
theorem wX9_knows {l : Launch} {Γ : Gx} {a0 : Nat} {x1 : Int32} {M : Mm} {q : Mm} (hf : fX9_knows a0 x1 M = some q) : AM l Γ 1 yX9_knows cX9_knows 3 (none) [.ref a0, .int x1] M none q := by
  unfold fX9_knows at hf
  refine AM.of mfX9_knows (Nat.le_of_ble_eq_true rfl) ?_
  generalize mT M = t0
  generalize mW M = w0
  show AW _ _ _ _ _ _ _ _ _ 0 [(0, .ref a0), (1, .int x1)] [] _ _ _
  obtain ⟨u0, eu0, hf⟩ := bnd hf
  refine a_iconst (v := 0) dX9_knows_0 (by decide) ?_
  refine a_istore_n (i := 2) (lv1 := [(2, .int ((0 : Int32))), (0, .ref a0), (1, .int x1)]) dX9_knows_1 rfl (by decide) rfl ?_
  refine AW.sub (lv1 := [(0, .ref a0), (1, .int x1), (2, .int ((0 : Int32)))]) [1, 2, 0] rfl ?_
  exact wX9_knows_b2 _ _ _ _ _ hf
theorem kX9_init {a0 : Nat} {M : Mm} {q : Mm} (hf : fX9_init a0 M = some q) : (mK M a0).1 = 10 := by
  unfold fX9_init at hf
  obtain ⟨u0, eu0, -⟩ := bnd hf
  exact kc_of eu0
set_option maxHeartbeats 4000000 in
set_option maxRecDepth 100000 in
theorem wX9_init {l : Launch} {Γ : Gx} {a0 : Nat} {M : Mm} {q : Mm} (hf : fX9_init a0 M = some q) : AM l Γ 2 yX9_init cX9_init 1 (none) [.ref a0] M none q := by
  unfold fX9_init at hf
  refine AM.of mfX9_init (Nat.le_of_ble_eq_true rfl) ?_
  generalize mT M = t0
  generalize mW M = w0
  show AW _ _ _ _ _ _ _ _ _ 0 [(0, .ref a0)] [] _ _ _
  obtain ⟨u0, eu0, hf⟩ := bnd hf
  refine a_aload_n dX9_init_0 rfl 0 rfl ?_
  refine a_objI dX9_init_1 wmX9_1 wob1 wob2 (by decide) (Nat.le_of_ble_eq_true rfl) ?_
  refine a_aload_n dX9_init_4 rfl 0 rfl ?_
  refine a_bipush (v := 12) dX9_init_5 (by decide) ?_
  obtain ⟨M1_, eM1_, hf⟩ := bnd hf
  refine a_putI dX9_init_7 fpX9_7 rfl (Or.inl rfl) eM1_ ?_
  refine a_aload_n dX9_init_10 rfl 0 rfl ?_
  refine a_iconst (v := 1) dX9_init_11 (by decide) ?_
  obtain ⟨M2_, eM2_, hf⟩ := bnd hf
  refine a_putI dX9_init_12 fpX9_13 rfl (Or.inl rfl) eM2_ ?_
  refine a_aload_n dX9_init_15 rfl 0 rfl ?_
  refine a_iconst (v := 1) dX9_init_16 (by decide) ?_
  obtain ⟨M3_, eM3_, hf⟩ := bnd hf
  refine a_putI dX9_init_17 fpX9_16 rfl (Or.inl rfl) eM3_ ?_
  refine a_aload_n dX9_init_20 rfl 0 rfl ?_
  refine a_iconst (v := 5) dX9_init_21 (by decide) ?_
  obtain ⟨M4_, eM4_, hf⟩ := bnd hf
  refine a_putI dX9_init_22 fpX9_19 rfl (Or.inl rfl) eM4_ ?_
  refine a_aload_n dX9_init_25 rfl 0 rfl ?_
  refine a_iconst (v := -1) dX9_init_26 (by decide) ?_
  obtain ⟨M5_, eM5_, hf⟩ := bnd hf
  refine a_putI dX9_init_27 fpX9_22 rfl (Or.inl rfl) eM5_ ?_
  refine a_aload_n dX9_init_30 rfl 0 rfl ?_
  refine a_iconst (v := 1) dX9_init_31 (by decide) ?_
  obtain ⟨M6_, eM6_, hf⟩ := bnd hf
  refine a_putI dX9_init_32 fpX9_25 rfl (Or.inl rfl) eM6_ ?_
  refine a_aload_n dX9_init_35 rfl 0 rfl ?_
  refine a_iconst (v := -1) dX9_init_36 (by decide) ?_
  obtain ⟨M7_, eM7_, hf⟩ := bnd hf
  refine a_putI dX9_init_37 fpX9_28 rfl (Or.inl rfl) eM7_ ?_
  refine a_aload_n dX9_init_40 rfl 0 rfl ?_
  refine a_bipush (v := 8) dX9_init_41 (by decide) ?_
  obtain ⟨q8_, eq8_, hf⟩ := bnd hf
  refine a_newarr (t := 0) dX9_init_43 rfl (by decide) rfl (fun _ => rfl) (fun _ h => by cases h) rfl wac0 (by decide) eq8_ ?_
  obtain ⟨M9_, eM9_, hf⟩ := bnd hf
  refine a_putR dX9_init_45 fpX9_31 rfl (Or.inl rfl) eM9_ ?_
  refine a_aload_n dX9_init_48 rfl 0 rfl ?_
  refine a_bipush (v := 8) dX9_init_49 (by decide) ?_
  obtain ⟨q10_, eq10_, hf⟩ := bnd hf
  refine a_newarr (t := 0) dX9_init_51 rfl (by decide) rfl (fun _ => rfl) (fun _ h => by cases h) rfl wac0 (by decide) eq10_ ?_
  obtain ⟨M11_, eM11_, hf⟩ := bnd hf
  refine a_putR dX9_init_53 fpX9_35 rfl (Or.inl rfl) eM11_ ?_
  refine a_aload_n dX9_init_56 rfl 0 rfl ?_
  refine a_bipush (v := 8) dX9_init_57 (by decide) ?_
  obtain ⟨q12_, eq12_, hf⟩ := bnd hf
  refine a_newarr (t := 0) dX9_init_59 rfl (by decide) rfl (fun _ => rfl) (fun _ h => by cases h) rfl wac0 (by decide) eq12_ ?_
  obtain ⟨M13_, eM13_, hf⟩ := bnd hf
  refine a_putR dX9_init_61 fpX9_38 rfl (Or.inl rfl) eM13_ ?_
  refine a_aload_n dX9_init_64 rfl 0 rfl ?_
  refine a_bipush (v := 8) dX9_init_65 (by decide) ?_
  obtain ⟨q14_, eq14_, hf⟩ := bnd hf
  refine a_newarr (t := 0) dX9_init_67 rfl (by decide) rfl (fun _ => rfl) (fun _ h => by cases h) rfl wac0 (by decide) eq14_ ?_
  obtain ⟨M15_, eM15_, hf⟩ := bnd hf
  refine a_putR dX9_init_69 fpX9_41 rfl (Or.inl rfl) eM15_ ?_
  refine a_aload_n dX9_init_72 rfl 0 rfl ?_
  refine a_bipush (v := 8) dX9_init_73 (by decide) ?_
  obtain ⟨q16_, eq16_, hf⟩ := bnd hf
  refine a_newarr (t := 0) dX9_init_75 rfl (by decide) rfl (fun _ => rfl) (fun _ h => by cases h) rfl wac0 (by decide) eq16_ ?_
  obtain ⟨M17_, eM17_, hf⟩ := bnd hf
  refine a_putR dX9_init_77 fpX9_44 rfl (Or.inl rfl) eM17_ ?_
  refine a_aload_n dX9_init_80 rfl 0 rfl ?_
  refine a_bipush (v := 8) dX9_init_81 (by decide) ?_
  obtain ⟨q18_, eq18_, hf⟩ := bnd hf
  refine a_newarr (t := 0) dX9_init_83 rfl (by decide) rfl (fun _ => rfl) (fun _ h => by cases h) rfl wac0 (by decide) eq18_ ?_
  obtain ⟨M19_, eM19_, hf⟩ := bnd hf
  refine a_putR dX9_init_85 fpX9_47 rfl (Or.inl rfl) eM19_ ?_
  refine a_aload_n dX9_init_88 rfl 0 rfl ?_
  refine a_bipush (v := 8) dX9_init_89 (by decide) ?_
  obtain ⟨q20_, eq20_, hf⟩ := bnd hf
  refine a_newarr (t := 0) dX9_init_91 rfl (by decide) rfl (fun _ => rfl) (fun _ h => by cases h) rfl wac0 (by decide) eq20_ ?_
  obtain ⟨M21_, eM21_, hf⟩ := bnd hf
  refine a_putR dX9_init_93 fpX9_50 rfl (Or.inl rfl) eM21_ ?_
  refine a_aload_n dX9_init_96 rfl 0 rfl ?_
  refine a_bipush (v := 8) dX9_init_97 (by decide) ?_
  obtain ⟨q22_, eq22_, hf⟩ := bnd hf
  refine a_newarr (t := 0) dX9_init_99 rfl (by decide) rfl (fun _ => rfl) (fun _ h => by cases h) rfl wac0 (by decide) eq22_ ?_
  obtain ⟨M23_, eM23_, hf⟩ := bnd hf
  refine a_putR dX9_init_101 fpX9_53 rfl (Or.inl rfl) eM23_ ?_
  refine a_aload_n dX9_init_104 rfl 0 rfl ?_
  refine a_bipush (v := 24) dX9_init_105 (by decide) ?_
  obtain ⟨q24_, eq24_, hf⟩ := bnd hf
  refine a_newarr (t := 1) dX9_init_107 rfl (by decide) rfl (fun _ => rfl) (fun _ h => by cases h) rfl wac1 (by decide) eq24_ ?_
  obtain ⟨M25_, eM25_, hf⟩ := bnd hf
  refine a_putR dX9_init_109 fpX9_56 rfl (Or.inl rfl) eM25_ ?_
  refine a_aload_n dX9_init_112 rfl 0 rfl ?_
  refine a_bipush (v := 24) dX9_init_113 (by decide) ?_
  obtain ⟨q26_, eq26_, hf⟩ := bnd hf
  refine a_newarr (t := 1) dX9_init_115 rfl (by decide) rfl (fun _ => rfl) (fun _ h => by cases h) rfl wac1 (by decide) eq26_ ?_
  obtain ⟨M27_, eM27_, hf⟩ := bnd hf
  refine a_putR dX9_init_117 fpX9_60 rfl (Or.inl rfl) eM27_ ?_
  refine a_aload_n dX9_init_120 rfl 0 rfl ?_
  refine a_bipush (v := 8) dX9_init_121 (by decide) ?_
  obtain ⟨q28_, eq28_, hf⟩ := bnd hf
  refine a_newarr (t := 0) dX9_init_123 rfl (by decide) rfl (fun _ => rfl) (fun _ h => by cases h) rfl wac0 (by decide) eq28_ ?_
  obtain ⟨M29_, eM29_, hf⟩ := bnd hf
  refine a_putR dX9_init_125 fpX9_63 rfl (Or.inl rfl) eM29_ ?_
  refine a_aload_n dX9_init_128 rfl 0 rfl ?_
  refine a_bipush (v := 8) dX9_init_129 (by decide) ?_
  obtain ⟨q30_, eq30_, hf⟩ := bnd hf
  refine a_newarr (t := 0) dX9_init_131 rfl (by decide) rfl (fun _ => rfl) (fun _ h => by cases h) rfl wac0 (by decide) eq30_ ?_
  obtain ⟨M31_, eM31_, hf⟩ := bnd hf
  refine a_putR dX9_init_133 fpX9_66 rfl (Or.inl rfl) eM31_ ?_
  refine a_aload_n dX9_init_136 rfl 0 rfl ?_
  refine a_bipush (v := 8) dX9_init_137 (by decide) ?_
  obtain ⟨q32_, eq32_, hf⟩ := bnd hf
  refine a_newarr (t := 0) dX9_init_139 rfl (by decide) rfl (fun _ => rfl) (fun _ h => by cases h) rfl wac0 (by decide) eq32_ ?_
  obtain ⟨M33_, eM33_, hf⟩ := bnd hf
  refine a_putR dX9_init_141 fpX9_69 rfl (Or.inl rfl) eM33_ ?_
  refine a_aload_n dX9_init_144 rfl 0 rfl ?_
  refine a_bipush (v := 8) dX9_init_145 (by decide) ?_
  obtain ⟨q34_, eq34_, hf⟩ := bnd hf
  refine a_newarr (t := 0) dX9_init_147 rfl (by decide) rfl (fun _ => rfl) (fun _ h => by cases h) rfl wac0 (by decide) eq34_ ?_
  obtain ⟨M35_, eM35_, hf⟩ := bnd hf
  refine a_putR dX9_init_149 fpX9_72 rfl (Or.inl rfl) eM35_ ?_
  refine a_aload_n dX9_init_152 rfl 0 rfl ?_
  refine a_sipush (v := 1280) dX9_init_153 (by decide) ?_
  obtain ⟨q36_, eq36_, hf⟩ := bnd hf
  refine a_newarr (t := 1) dX9_init_156 rfl (by decide) rfl (fun _ => rfl) (fun _ h => by cases h) rfl wac1 (by decide) eq36_ ?_
  obtain ⟨M37_, eM37_, hf⟩ := bnd hf
  refine a_putR dX9_init_158 fpX9_75 rfl (Or.inl rfl) eM37_ ?_
  refine a_aload_n dX9_init_161 rfl 0 rfl ?_
  refine a_sipush (v := 160) dX9_init_162 (by decide) ?_
  obtain ⟨q38_, eq38_, hf⟩ := bnd hf
  refine a_newarr (t := 1) dX9_init_165 rfl (by decide) rfl (fun _ => rfl) (fun _ h => by cases h) rfl wac1 (by decide) eq38_ ?_
  obtain ⟨M39_, eM39_, hf⟩ := bnd hf
  refine a_putR dX9_init_167 fpX9_78 rfl (Or.inl rfl) eM39_ ?_
  refine a_aload_n dX9_init_170 rfl 0 rfl ?_
  refine a_bipush (v := 38) dX9_init_171 (by decide) ?_
  obtain ⟨q40_, eq40_, hf⟩ := bnd hf
  refine a_newarr (t := 0) dX9_init_173 rfl (by decide) rfl (fun _ => rfl) (fun _ h => by cases h) rfl wac0 (by decide) eq40_ ?_
  refine a_dup dX9_init_175 rfl ?_
  refine a_iconst (v := 0) dX9_init_176 (by decide) ?_
  refine a_bipush (v := 108) dX9_init_177 (by decide) ?_
  obtain ⟨M41_, eM41_, hf⟩ := bnd hf
  refine a_iast dX9_init_179 eM41_ ?_
  refine a_dup dX9_init_180 rfl ?_
  refine a_iconst (v := 1) dX9_init_181 (by decide) ?_
  refine a_bipush (v := 111) dX9_init_182 (by decide) ?_
  obtain ⟨M42_, eM42_, hf⟩ := bnd hf
  refine a_iast dX9_init_184 eM42_ ?_
  refine a_dup dX9_init_185 rfl ?_
  refine a_iconst (v := 2) dX9_init_186 (by decide) ?_
  refine a_bipush (v := 110) dX9_init_187 (by decide) ?_
  obtain ⟨M43_, eM43_, hf⟩ := bnd hf
  refine a_iast dX9_init_189 eM43_ ?_
  refine a_dup dX9_init_190 rfl ?_
  refine a_iconst (v := 3) dX9_init_191 (by decide) ?_
  refine a_bipush (v := 103) dX9_init_192 (by decide) ?_
  obtain ⟨M44_, eM44_, hf⟩ := bnd hf
  refine a_iast dX9_init_194 eM44_ ?_
  refine a_dup dX9_init_195 rfl ?_
  refine a_iconst (v := 4) dX9_init_196 (by decide) ?_
  refine a_bipush (v := 32) dX9_init_197 (by decide) ?_
  obtain ⟨M45_, eM45_, hf⟩ := bnd hf
  refine a_iast dX9_init_199 eM45_ ?_
  refine a_dup dX9_init_200 rfl ?_
  refine a_iconst (v := 5) dX9_init_201 (by decide) ?_
  refine a_iconst (v := 0) dX9_init_202 (by decide) ?_
  obtain ⟨M46_, eM46_, hf⟩ := bnd hf
  refine a_iast dX9_init_203 eM46_ ?_
  refine a_dup dX9_init_204 rfl ?_
  refine a_bipush (v := 6) dX9_init_205 (by decide) ?_
  refine a_bipush (v := 115) dX9_init_207 (by decide) ?_
  obtain ⟨M47_, eM47_, hf⟩ := bnd hf
  refine a_iast dX9_init_209 eM47_ ?_
  refine a_dup dX9_init_210 rfl ?_
  refine a_bipush (v := 7) dX9_init_211 (by decide) ?_
  refine a_bipush (v := 105) dX9_init_213 (by decide) ?_
  obtain ⟨M48_, eM48_, hf⟩ := bnd hf
  refine a_iast dX9_init_215 eM48_ ?_
  refine a_dup dX9_init_216 rfl ?_
  refine a_bipush (v := 8) dX9_init_217 (by decide) ?_
  refine a_bipush (v := 103) dX9_init_219 (by decide) ?_
  obtain ⟨M49_, eM49_, hf⟩ := bnd hf
  refine a_iast dX9_init_221 eM49_ ?_
  refine a_dup dX9_init_222 rfl ?_
  refine a_bipush (v := 9) dX9_init_223 (by decide) ?_
  refine a_bipush (v := 110) dX9_init_225 (by decide) ?_
  obtain ⟨M50_, eM50_, hf⟩ := bnd hf
  refine a_iast dX9_init_227 eM50_ ?_
  refine a_dup dX9_init_228 rfl ?_
  refine a_bipush (v := 10) dX9_init_229 (by decide) ?_
  refine a_bipush (v := 32) dX9_init_231 (by decide) ?_
  obtain ⟨M51_, eM51_, hf⟩ := bnd hf
  refine a_iast dX9_init_233 eM51_ ?_
  refine a_dup dX9_init_234 rfl ?_
  refine a_bipush (v := 11) dX9_init_235 (by decide) ?_
  refine a_iconst (v := 0) dX9_init_237 (by decide) ?_
  obtain ⟨M52_, eM52_, hf⟩ := bnd hf
  refine a_iast dX9_init_238 eM52_ ?_
  refine a_dup dX9_init_239 rfl ?_
  refine a_bipush (v := 12) dX9_init_240 (by decide) ?_
  refine a_bipush (v := 116) dX9_init_242 (by decide) ?_
  obtain ⟨M53_, eM53_, hf⟩ := bnd hf
  refine a_iast dX9_init_244 eM53_ ?_
  refine a_dup dX9_init_245 rfl ?_
  refine a_bipush (v := 13) dX9_init_246 (by decide) ?_
  refine a_bipush (v := 104) dX9_init_248 (by decide) ?_
  obtain ⟨M54_, eM54_, hf⟩ := bnd hf
  refine a_iast dX9_init_250 eM54_ ?_
  refine a_dup dX9_init_251 rfl ?_
  refine a_bipush (v := 14) dX9_init_252 (by decide) ?_
  refine a_bipush (v := 105) dX9_init_254 (by decide) ?_
  obtain ⟨M55_, eM55_, hf⟩ := bnd hf
  refine a_iast dX9_init_256 eM55_ ?_
  refine a_dup dX9_init_257 rfl ?_
  refine a_bipush (v := 15) dX9_init_258 (by decide) ?_
  refine a_bipush (v := 110) dX9_init_260 (by decide) ?_
  obtain ⟨M56_, eM56_, hf⟩ := bnd hf
  refine a_iast dX9_init_262 eM56_ ?_
  refine a_dup dX9_init_263 rfl ?_
  refine a_bipush (v := 16) dX9_init_264 (by decide) ?_
  refine a_bipush (v := 103) dX9_init_266 (by decide) ?_
  obtain ⟨M57_, eM57_, hf⟩ := bnd hf
  refine a_iast dX9_init_268 eM57_ ?_
  refine a_dup dX9_init_269 rfl ?_
  refine a_bipush (v := 17) dX9_init_270 (by decide) ?_
  refine a_bipush (v := 32) dX9_init_272 (by decide) ?_
  obtain ⟨M58_, eM58_, hf⟩ := bnd hf
  refine a_iast dX9_init_274 eM58_ ?_
  refine a_dup dX9_init_275 rfl ?_
  refine a_bipush (v := 18) dX9_init_276 (by decide) ?_
  refine a_iconst (v := 0) dX9_init_278 (by decide) ?_
  obtain ⟨M59_, eM59_, hf⟩ := bnd hf
  refine a_iast dX9_init_279 eM59_ ?_
  refine a_dup dX9_init_280 rfl ?_
  refine a_bipush (v := 19) dX9_init_281 (by decide) ?_
  refine a_bipush (v := 119) dX9_init_283 (by decide) ?_
  obtain ⟨M60_, eM60_, hf⟩ := bnd hf
  refine a_iast dX9_init_285 eM60_ ?_
  refine a_dup dX9_init_286 rfl ?_
  refine a_bipush (v := 20) dX9_init_287 (by decide) ?_
  refine a_bipush (v := 97) dX9_init_289 (by decide) ?_
  obtain ⟨M61_, eM61_, hf⟩ := bnd hf
  refine a_iast dX9_init_291 eM61_ ?_
  refine a_dup dX9_init_292 rfl ?_
  refine a_bipush (v := 21) dX9_init_293 (by decide) ?_
  refine a_bipush (v := 110) dX9_init_295 (by decide) ?_
  obtain ⟨M62_, eM62_, hf⟩ := bnd hf
  refine a_iast dX9_init_297 eM62_ ?_
  refine a_dup dX9_init_298 rfl ?_
  refine a_bipush (v := 22) dX9_init_299 (by decide) ?_
  refine a_bipush (v := 100) dX9_init_301 (by decide) ?_
  obtain ⟨M63_, eM63_, hf⟩ := bnd hf
  refine a_iast dX9_init_303 eM63_ ?_
  refine a_dup dX9_init_304 rfl ?_
  refine a_bipush (v := 23) dX9_init_305 (by decide) ?_
  refine a_bipush (v := 101) dX9_init_307 (by decide) ?_
  obtain ⟨M64_, eM64_, hf⟩ := bnd hf
  refine a_iast dX9_init_309 eM64_ ?_
  refine a_dup dX9_init_310 rfl ?_
  refine a_bipush (v := 24) dX9_init_311 (by decide) ?_
  refine a_bipush (v := 114) dX9_init_313 (by decide) ?_
  obtain ⟨M65_, eM65_, hf⟩ := bnd hf
  refine a_iast dX9_init_315 eM65_ ?_
  refine a_dup dX9_init_316 rfl ?_
  refine a_bipush (v := 25) dX9_init_317 (by decide) ?_
  refine a_bipush (v := 32) dX9_init_319 (by decide) ?_
  obtain ⟨M66_, eM66_, hf⟩ := bnd hf
  refine a_iast dX9_init_321 eM66_ ?_
  refine a_dup dX9_init_322 rfl ?_
  refine a_bipush (v := 26) dX9_init_323 (by decide) ?_
  refine a_iconst (v := 0) dX9_init_325 (by decide) ?_
  obtain ⟨M67_, eM67_, hf⟩ := bnd hf
  refine a_iast dX9_init_326 eM67_ ?_
  refine a_dup dX9_init_327 rfl ?_
  refine a_bipush (v := 27) dX9_init_328 (by decide) ?_
  refine a_bipush (v := 97) dX9_init_330 (by decide) ?_
  obtain ⟨M68_, eM68_, hf⟩ := bnd hf
  refine a_iast dX9_init_332 eM68_ ?_
  refine a_dup dX9_init_333 rfl ?_
  refine a_bipush (v := 28) dX9_init_334 (by decide) ?_
  refine a_bipush (v := 114) dX9_init_336 (by decide) ?_
  obtain ⟨M69_, eM69_, hf⟩ := bnd hf
  refine a_iast dX9_init_338 eM69_ ?_
  refine a_dup dX9_init_339 rfl ?_
  refine a_bipush (v := 29) dX9_init_340 (by decide) ?_
  refine a_bipush (v := 99) dX9_init_342 (by decide) ?_
  obtain ⟨M70_, eM70_, hf⟩ := bnd hf
  refine a_iast dX9_init_344 eM70_ ?_
  refine a_dup dX9_init_345 rfl ?_
  refine a_bipush (v := 30) dX9_init_346 (by decide) ?_
  refine a_bipush (v := 32) dX9_init_348 (by decide) ?_
  obtain ⟨M71_, eM71_, hf⟩ := bnd hf
  refine a_iast dX9_init_350 eM71_ ?_
  refine a_dup dX9_init_351 rfl ?_
  refine a_bipush (v := 31) dX9_init_352 (by decide) ?_
  refine a_iconst (v := 0) dX9_init_354 (by decide) ?_
  obtain ⟨M72_, eM72_, hf⟩ := bnd hf
  refine a_iast dX9_init_355 eM72_ ?_
  refine a_dup dX9_init_356 rfl ?_
  refine a_bipush (v := 32) dX9_init_357 (by decide) ?_
  refine a_bipush (v := 104) dX9_init_359 (by decide) ?_
  obtain ⟨M73_, eM73_, hf⟩ := bnd hf
  refine a_iast dX9_init_361 eM73_ ?_
  refine a_dup dX9_init_362 rfl ?_
  refine a_bipush (v := 33) dX9_init_363 (by decide) ?_
  refine a_bipush (v := 111) dX9_init_365 (by decide) ?_
  obtain ⟨M74_, eM74_, hf⟩ := bnd hf
  refine a_iast dX9_init_367 eM74_ ?_
  refine a_dup dX9_init_368 rfl ?_
  refine a_bipush (v := 34) dX9_init_369 (by decide) ?_
  refine a_bipush (v := 117) dX9_init_371 (by decide) ?_
  obtain ⟨M75_, eM75_, hf⟩ := bnd hf
  refine a_iast dX9_init_373 eM75_ ?_
  refine a_dup dX9_init_374 rfl ?_
  refine a_bipush (v := 35) dX9_init_375 (by decide) ?_
  refine a_bipush (v := 114) dX9_init_377 (by decide) ?_
  obtain ⟨M76_, eM76_, hf⟩ := bnd hf
  refine a_iast dX9_init_379 eM76_ ?_
  refine a_dup dX9_init_380 rfl ?_
  refine a_bipush (v := 36) dX9_init_381 (by decide) ?_
  refine a_bipush (v := 32) dX9_init_383 (by decide) ?_
  obtain ⟨M77_, eM77_, hf⟩ := bnd hf
  refine a_iast dX9_init_385 eM77_ ?_
  refine a_dup dX9_init_386 rfl ?_
  refine a_bipush (v := 37) dX9_init_387 (by decide) ?_
  refine a_iconst (v := 0) dX9_init_389 (by decide) ?_
  obtain ⟨M78_, eM78_, hf⟩ := bnd hf
  refine a_iast dX9_init_390 eM78_ ?_
  obtain ⟨M79_, eM79_, hf⟩ := bnd hf
  refine a_putR dX9_init_391 fpX9_81 rfl (Or.inl rfl) eM79_ ?_
  refine a_aload_n dX9_init_394 rfl 0 rfl ?_
  refine a_iconst (v := 4) dX9_init_395 (by decide) ?_
  obtain ⟨q80_, eq80_, hf⟩ := bnd hf
  refine a_newarr (t := 0) dX9_init_396 rfl (by decide) rfl (fun _ => rfl) (fun _ h => by cases h) rfl wac0 (by decide) eq80_ ?_
  obtain ⟨M81_, eM81_, hf⟩ := bnd hf
  refine a_putR dX9_init_398 fpX9_84 rfl (Or.inl rfl) eM81_ ?_
  refine a_aload_n dX9_init_401 rfl 0 rfl ?_
  refine a_bipush (v := 80) dX9_init_402 (by decide) ?_
  obtain ⟨q82_, eq82_, hf⟩ := bnd hf
  refine a_newarr (t := 0) dX9_init_404 rfl (by decide) rfl (fun _ => rfl) (fun _ h => by cases h) rfl wac0 (by decide) eq82_ ?_
  obtain ⟨M83_, eM83_, hf⟩ := bnd hf
  refine a_putR dX9_init_406 fpX9_87 rfl (Or.inl rfl) eM83_ ?_
  refine a_aload_n dX9_init_409 rfl 0 rfl ?_
  refine a_bipush (v := 80) dX9_init_410 (by decide) ?_
  obtain ⟨q84_, eq84_, hf⟩ := bnd hf
  refine a_newarr (t := 0) dX9_init_412 rfl (by decide) rfl (fun _ => rfl) (fun _ h => by cases h) rfl wac0 (by decide) eq84_ ?_
  obtain ⟨M85_, eM85_, hf⟩ := bnd hf
  refine a_putR dX9_init_414 fpX9_90 rfl (Or.inl rfl) eM85_ ?_
  refine a_aload_n dX9_init_417 rfl 0 rfl ?_
  refine a_bipush (v := 24) dX9_init_418 (by decide) ?_
  obtain ⟨q86_, eq86_, hf⟩ := bnd hf
  refine a_newarr (t := 1) dX9_init_420 rfl (by decide) rfl (fun _ => rfl) (fun _ h => by cases h) rfl wac1 (by decide) eq86_ ?_
  obtain ⟨M87_, eM87_, hf⟩ := bnd hf
  refine a_putR dX9_init_422 fpX9_93 rfl (Or.inl rfl) eM87_ ?_
  refine a_aload_n dX9_init_425 rfl 0 rfl ?_
  refine a_bipush (v := 24) dX9_init_426 (by decide) ?_
  obtain ⟨q88_, eq88_, hf⟩ := bnd hf
  refine a_newarr (t := 1) dX9_init_428 rfl (by decide) rfl (fun _ => rfl) (fun _ h => by cases h) rfl wac1 (by decide) eq88_ ?_
  obtain ⟨M89_, eM89_, hf⟩ := bnd hf
  refine a_putR dX9_init_430 fpX9_96 rfl (Or.inl rfl) eM89_ ?_
  refine a_aload_n dX9_init_433 rfl 0 rfl ?_
  refine a_bipush (v := 24) dX9_init_434 (by decide) ?_
  obtain ⟨q90_, eq90_, hf⟩ := bnd hf
  refine a_newarr (t := 1) dX9_init_436 rfl (by decide) rfl (fun _ => rfl) (fun _ h => by cases h) rfl wac1 (by decide) eq90_ ?_
  obtain ⟨M91_, eM91_, hf⟩ := bnd hf
  refine a_putR dX9_init_438 fpX9_99 rfl (Or.inl rfl) eM91_ ?_
  refine a_aload_n dX9_init_441 rfl 0 rfl ?_
  refine a_bipush (v := 21) dX9_init_442 (by decide) ?_
  obtain ⟨q92_, eq92_, hf⟩ := bnd hf
  refine a_newarr (t := 0) dX9_init_444 rfl (by decide) rfl (fun _ => rfl) (fun _ h => by cases h) rfl wac0 (by decide) eq92_ ?_
  obtain ⟨M93_, eM93_, hf⟩ := bnd hf
  refine a_putR dX9_init_446 fpX9_102 rfl (Or.inl rfl) eM93_ ?_
  refine a_aload_n dX9_init_449 rfl 0 rfl ?_
  refine a_bipush (v := 21) dX9_init_450 (by decide) ?_
  obtain ⟨q94_, eq94_, hf⟩ := bnd hf
  refine a_newarr (t := 0) dX9_init_452 rfl (by decide) rfl (fun _ => rfl) (fun _ h => by cases h) rfl wac0 (by decide) eq94_ ?_
  obtain ⟨M95_, eM95_, hf⟩ := bnd hf
  refine a_putR dX9_init_454 fpX9_105 rfl (Or.inl rfl) eM95_ ?_
  refine a_aload_n dX9_init_457 rfl 0 rfl ?_
  refine a_bipush (v := 20) dX9_init_458 (by decide) ?_
  obtain ⟨q96_, eq96_, hf⟩ := bnd hf
  refine a_newarr (t := 0) dX9_init_460 rfl (by decide) rfl (fun _ => rfl) (fun _ h => by cases h) rfl wac0 (by decide) eq96_ ?_
  obtain ⟨M97_, eM97_, hf⟩ := bnd hf
  refine a_putR dX9_init_462 fpX9_108 rfl (Or.inl rfl) eM97_ ?_
  refine a_aload_n dX9_init_465 rfl 0 rfl ?_
  refine a_iconst (v := -1) dX9_init_466 (by decide) ?_
  obtain ⟨M98_, eM98_, hf⟩ := bnd hf
  refine a_callV (As := [.int ((-1 : Int32))]) (rest := []) dX9_init_467 mfX9_knows cvX9_111 (wX9_knows eM98_) rc9 (kX9_knows eM98_) (by decide) rfl rfl (Nat.le_of_ble_eq_true rfl) ?_
  have e9 := Option.some.inj hf
  subst e9
  exact a_vret rfl dX9_init_470 rfl
theorem kX9_isShelf {a0 : Nat} {x1 : Int32} {M : Mm} {q : Int32 × Mm} (hf : fX9_isShelf a0 x1 M = some q) : (mK M a0).1 = 10 := by
  unfold fX9_isShelf at hf
  obtain ⟨u0, eu0, -⟩ := bnd hf
  exact kc_of eu0
set_option maxHeartbeats 4000000 in
set_option maxRecDepth 100000 in
theorem wX9_isShelf {l : Launch} {Γ : Gx} {a0 : Nat} {x1 : Int32} {M : Mm} {q : Int32 × Mm} (hf : fX9_isShelf a0 x1 M = some q) : AM l Γ 1 yX9_isShelf cX9_isShelf 2 ((some .boolean)) [.ref a0, .int x1] M (some (.int q.1)) q.2 := by
  unfold fX9_isShelf at hf
  refine AM.of mfX9_isShelf (Nat.le_of_ble_eq_true rfl) ?_
  generalize mT M = t0
  generalize mW M = w0
  show AW _ _ _ _ _ _ _ _ _ 0 [(0, .ref a0), (1, .int x1)] [] _ _ _
  obtain ⟨u0, eu0, hf⟩ := bnd hf
  refine a_iload_n dX9_isShelf_0 rfl 1 rfl ?_
  refine a_if_lt dX9_isShelf_1 (tgt := 14) (by decide) (fun c9 => ?_) (fun c9 => ?_)
  · replace hf := iteT hf c9
    refine a_iconst (v := 0) dX9_isShelf_14 (by decide) ?_
    have e9 := Option.some.inj hf
    subst e9
    exact a_zret rfl rfl dX9_isShelf_15 rfl
  · replace hf := iteF hf c9
    refine a_iload_n dX9_isShelf_4 rfl 1 rfl ?_
    refine a_bipush (v := 8) dX9_isShelf_5 (by decide) ?_
    refine a_icmp_ge dX9_isShelf_7 (tgt := 14) (by decide) (fun c9 => ?_) (fun c9 => ?_)
    · replace hf := iteT hf c9
      refine a_iconst (v := 0) dX9_isShelf_14 (by decide) ?_
      have e9 := Option.some.inj hf
      subst e9
      exact a_zret rfl rfl dX9_isShelf_15 rfl
    · replace hf := iteF hf c9
      refine a_iconst (v := 1) dX9_isShelf_10 (by decide) ?_
      refine a_goto (tgt := 15) dX9_isShelf_11 (by decide) ?_
      have e9 := Option.some.inj hf
      subst e9
      exact a_zret rfl rfl dX9_isShelf_15 rfl
theorem kX9_no {a0 : Nat} {x1 : Int32} {M : Mm} {q : Int32 × Mm} (hf : fX9_no a0 x1 M = some q) : (mK M a0).1 = 10 := by
  unfold fX9_no at hf
  obtain ⟨u0, eu0, -⟩ := bnd hf
  exact kc_of eu0
set_option maxHeartbeats 4000000 in
set_option maxRecDepth 100000 in
theorem wX9_no {l : Launch} {Γ : Gx} {a0 : Nat} {x1 : Int32} {M : Mm} {q : Int32 × Mm} (hf : fX9_no a0 x1 M = some q) : AM l Γ 1 yX9_no cX9_no 2 ((some .int)) [.ref a0, .int x1] M (some (.int q.1)) q.2 := by
  unfold fX9_no at hf
  refine AM.of mfX9_no (Nat.le_of_ble_eq_true rfl) ?_
  generalize mT M = t0
  generalize mW M = w0
  show AW _ _ _ _ _ _ _ _ _ 0 [(0, .ref a0), (1, .int x1)] [] _ _ _
  obtain ⟨u0, eu0, hf⟩ := bnd hf
  refine a_aload_n dX9_no_0 rfl 0 rfl ?_
  obtain ⟨o1_, eo1_, hf⟩ := bnd hf
  refine a_getR dX9_no_1 flX9_31 rfl eo1_ ?_
  refine a_iload_n dX9_no_4 rfl 1 rfl ?_
  refine a_ineg dX9_no_5 ?_
  refine a_dup2 dX9_no_6 rfl rfl ?_
  obtain ⟨v2_, ev2_, hf⟩ := bnd hf
  refine a_iald dX9_no_7 ev2_ ?_
  refine a_iconst (v := 1) dX9_no_8 (by decide) ?_
  refine a_iadd dX9_no_9 ?_
  obtain ⟨M3_, eM3_, hf⟩ := bnd hf
  refine a_iast dX9_no_10 eM3_ ?_
  refine a_iload_n dX9_no_11 rfl 1 rfl ?_
  have e9 := Option.some.inj hf
  subst e9
  exact a_iret rfl dX9_no_12 rfl
theorem kX9_row {a0 : Nat} {x1 : Int32} {x2 : Int32} {x3 : Int32} {M : Mm} {q : Int32 × Mm} (hf : fX9_row a0 x1 x2 x3 M = some q) : (mK M a0).1 = 10 := by
  unfold fX9_row at hf
  obtain ⟨u0, eu0, -⟩ := bnd hf
  exact kc_of eu0
set_option maxHeartbeats 4000000 in
set_option maxRecDepth 100000 in
theorem wX9_row_b79 {l : Launch} {Γ : Gx} {t0 w0 : Nat} {q : Int32 × Mm} : ∀ (n : Nat) (a0 : Nat) (x1 : Int32) (x4 : Int32) (M : Mm), fX9_row_b79 n a0 x1 x4 M = some q → AW l Γ yX9_row cX9_row 5 ((some .int)) 2 t0 w0 79 [(0, .ref a0), (1, .int x1), (4, .int x4)] [] M (some (.int q.1)) q.2 := by
  intro n
  induction n with
  | zero =>
    intro a0 x1 x4 M hf
    cases hf
  | succ n ih =>
    intro a0 x1 x4 M hf
    rw [fX9_row_b79.eq_2] at hf
    refine a_iload dX9_row_79 2 rfl ?_
    refine a_sipush (v := 160) dX9_row_81 (by decide) ?_
    refine a_icmp_ge dX9_row_84 (tgt := 107) (by decide) (fun c9 => ?_) (fun c9 => ?_)
    · replace hf := iteT hf c9
      refine a_iconst (v := 1) dX9_row_107 (by decide) ?_
      have e9 := Option.some.inj hf
      subst e9
      exact a_iret rfl dX9_row_108 rfl
    · replace hf := iteF hf c9
      refine a_aload_n dX9_row_87 rfl 0 rfl ?_
      obtain ⟨o1_, eo1_, hf⟩ := bnd hf
      refine a_getR dX9_row_88 flX9_75 rfl eo1_ ?_
      refine a_sipush (v := 160) dX9_row_91 (by decide) ?_
      refine a_iload_n dX9_row_94 rfl 1 rfl ?_
      refine a_imul dX9_row_95 ?_
      refine a_iload dX9_row_96 2 rfl ?_
      refine a_iadd dX9_row_98 ?_
      refine a_lconst (v := 0) dX9_row_99 rfl ?_
      obtain ⟨M2_, eM2_, hf⟩ := bnd hf
      refine a_last dX9_row_100 eM2_ ?_
      refine a_iinc (v := x4 + (1 : Int32)) (lv1 := [(4, .int (x4 + (1 : Int32))), (0, .ref a0), (1, .int x1)]) dX9_row_101 2 rfl rfl (by decide) rfl ?_
      refine a_goto (tgt := 79) dX9_row_104 (by decide) ?_
      refine AW.sub (lv1 := [(0, .ref a0), (1, .int x1), (4, .int (x4 + (1 : Int32)))]) [1, 2, 0] rfl ?_
      exact ih _ _ _ _ hf
set_option maxHeartbeats 4000000 in
set_option maxRecDepth 100000 in
theorem wX9_row {l : Launch} {Γ : Gx} {a0 : Nat} {x1 : Int32} {x2 : Int32} {x3 : Int32} {M : Mm} {q : Int32 × Mm} (hf : fX9_row a0 x1 x2 x3 M = some q) : AM l Γ 2 yX9_row cX9_row 5 ((some .int)) [.ref a0, .int x1, .int x2, .int x3] M (some (.int q.1)) q.2 := by
  unfold fX9_row at hf
  refine AM.of mfX9_row (Nat.le_of_ble_eq_true rfl) ?_
  generalize mT M = t0
  generalize mW M = w0
  show AW _ _ _ _ _ _ _ _ _ 0 [(0, .ref a0), (1, .int x1), (2, .int x2), (3, .int x3)] [] _ _ _
  obtain ⟨u0, eu0, hf⟩ := bnd hf
  refine a_aload_n dX9_row_0 rfl 0 rfl ?_
  refine a_iload_n dX9_row_1 rfl 1 rfl ?_
  obtain ⟨q1_, eq1_, hf⟩ := bnd hf
  refine a_callV (As := [.int x1]) (rest := []) dX9_row_2 mfX9_isShelf cvX9_118 (wX9_isShelf eq1_) rc9 (kX9_isShelf eq1_) (by decide) rfl rfl (Nat.le_of_ble_eq_true rfl) ?_
  refine a_if_ne dX9_row_5 (tgt := 14) (by decide) (fun c9 => ?_) (fun c9 => ?_)
  · replace hf := iteF hf c9
    refine a_iload_n dX9_row_14 rfl 3 rfl ?_
    refine a_if_ge dX9_row_15 (tgt := 25) (by decide) (fun c9 => ?_) (fun c9 => ?_)
    · replace hf := iteT hf c9
      refine a_iload_n dX9_row_25 rfl 2 rfl ?_
      refine a_if_lt dX9_row_26 (tgt := 34) (by decide) (fun c9 => ?_) (fun c9 => ?_)
      · replace hf := iteT hf c9
        refine a_aload_n dX9_row_34 rfl 0 rfl ?_
        refine a_bipush (v := -6) dX9_row_35 (by decide) ?_
        obtain ⟨q2_, eq2_, hf⟩ := bnd hf
        refine a_callV (As := [.int ((-6 : Int32))]) (rest := []) dX9_row_37 mfX9_no cvX9_122 (wX9_no eq2_) rc9 (kX9_no eq2_) (by decide) rfl rfl (Nat.le_of_ble_eq_true rfl) ?_
        have e9 := Option.some.inj hf
        subst e9
        exact a_iret rfl dX9_row_40 rfl
      · replace hf := iteF hf c9
        refine a_iload_n dX9_row_29 rfl 2 rfl ?_
        refine a_iconst (v := 3) dX9_row_30 (by decide) ?_
        refine a_icmp_le dX9_row_31 (tgt := 41) (by decide) (fun c9 => ?_) (fun c9 => ?_)
        · replace hf := iteT hf c9
          refine a_iload_n dX9_row_41 rfl 3 rfl ?_
          refine a_sipush (v := 160) dX9_row_42 (by decide) ?_
          refine a_icmp_le dX9_row_45 (tgt := 55) (by decide) (fun c9 => ?_) (fun c9 => ?_)
          · replace hf := iteT hf c9
            refine a_aload_n dX9_row_55 rfl 0 rfl ?_
            obtain ⟨o3_, eo3_, hf⟩ := bnd hf
            refine a_getR dX9_row_56 flX9_63 rfl eo3_ ?_
            refine a_iload_n dX9_row_59 rfl 1 rfl ?_
            refine a_iconst (v := 1) dX9_row_60 (by decide) ?_
            obtain ⟨M4_, eM4_, hf⟩ := bnd hf
            refine a_iast dX9_row_61 eM4_ ?_
            refine a_aload_n dX9_row_62 rfl 0 rfl ?_
            obtain ⟨o5_, eo5_, hf⟩ := bnd hf
            refine a_getR dX9_row_63 flX9_66 rfl eo5_ ?_
            refine a_iload_n dX9_row_66 rfl 1 rfl ?_
            refine a_iload_n dX9_row_67 rfl 2 rfl ?_
            obtain ⟨M6_, eM6_, hf⟩ := bnd hf
            refine a_iast dX9_row_68 eM6_ ?_
            refine a_aload_n dX9_row_69 rfl 0 rfl ?_
            obtain ⟨o7_, eo7_, hf⟩ := bnd hf
            refine a_getR dX9_row_70 flX9_69 rfl eo7_ ?_
            refine a_iload_n dX9_row_73 rfl 1 rfl ?_
            refine a_iload_n dX9_row_74 rfl 3 rfl ?_
            obtain ⟨M8_, eM8_, hf⟩ := bnd hf
            refine a_iast dX9_row_75 eM8_ ?_
            refine a_iconst (v := 0) dX9_row_76 (by decide) ?_
            refine a_istore (i := 4) (lv1 := [(4, .int ((0 : Int32))), (0, .ref a0), (1, .int x1), (2, .int x2), (3, .int x3)]) dX9_row_77 (by decide) rfl ?_
            refine AW.sub (lv1 := [(0, .ref a0), (1, .int x1), (4, .int ((0 : Int32)))]) [1, 2, 0] rfl ?_
            exact wX9_row_b79 _ _ _ _ _ hf
          · replace hf := iteF hf c9
            refine a_aload_n dX9_row_48 rfl 0 rfl ?_
            refine a_bipush (v := -7) dX9_row_49 (by decide) ?_
            obtain ⟨q9_, eq9_, hf⟩ := bnd hf
            refine a_callV (As := [.int ((-7 : Int32))]) (rest := []) dX9_row_51 mfX9_no cvX9_122 (wX9_no eq9_) rc9 (kX9_no eq9_) (by decide) rfl rfl (Nat.le_of_ble_eq_true rfl) ?_
            have e9 := Option.some.inj hf
            subst e9
            exact a_iret rfl dX9_row_54 rfl
        · replace hf := iteF hf c9
          refine a_aload_n dX9_row_34 rfl 0 rfl ?_
          refine a_bipush (v := -6) dX9_row_35 (by decide) ?_
          obtain ⟨q10_, eq10_, hf⟩ := bnd hf
          refine a_callV (As := [.int ((-6 : Int32))]) (rest := []) dX9_row_37 mfX9_no cvX9_122 (wX9_no eq10_) rc9 (kX9_no eq10_) (by decide) rfl rfl (Nat.le_of_ble_eq_true rfl) ?_
          have e9 := Option.some.inj hf
          subst e9
          exact a_iret rfl dX9_row_40 rfl
    · replace hf := iteF hf c9
      refine a_aload_n dX9_row_18 rfl 0 rfl ?_
      refine a_bipush (v := -4) dX9_row_19 (by decide) ?_
      obtain ⟨q11_, eq11_, hf⟩ := bnd hf
      refine a_callV (As := [.int ((-4 : Int32))]) (rest := []) dX9_row_21 mfX9_no cvX9_122 (wX9_no eq11_) rc9 (kX9_no eq11_) (by decide) rfl rfl (Nat.le_of_ble_eq_true rfl) ?_
      have e9 := Option.some.inj hf
      subst e9
      exact a_iret rfl dX9_row_24 rfl
  · replace hf := iteT hf c9
    refine a_aload_n dX9_row_8 rfl 0 rfl ?_
    refine a_iconst (v := -1) dX9_row_9 (by decide) ?_
    obtain ⟨q12_, eq12_, hf⟩ := bnd hf
    refine a_callV (As := [.int ((-1 : Int32))]) (rest := []) dX9_row_10 mfX9_no cvX9_122 (wX9_no eq12_) rc9 (kX9_no eq12_) (by decide) rfl rfl (Nat.le_of_ble_eq_true rfl) ?_
    have e9 := Option.some.inj hf
    subst e9
    exact a_iret rfl dX9_row_13 rfl
theorem kX9_set {a0 : Nat} {x1 : Int32} {x2 : Int32} {x3 : Int64} {M : Mm} {q : Int32 × Mm} (hf : fX9_set a0 x1 x2 x3 M = some q) : (mK M a0).1 = 10 := by
  unfold fX9_set at hf
  obtain ⟨u0, eu0, -⟩ := bnd hf
  exact kc_of eu0
set_option maxHeartbeats 4000000 in
set_option maxRecDepth 100000 in
theorem wX9_set {l : Launch} {Γ : Gx} {a0 : Nat} {x1 : Int32} {x2 : Int32} {x3 : Int64} {M : Mm} {q : Int32 × Mm} (hf : fX9_set a0 x1 x2 x3 M = some q) : AM l Γ 2 yX9_set cX9_set 5 ((some .int)) [.ref a0, .int x1, .int x2, .long x3] M (some (.int q.1)) q.2 := by
  unfold fX9_set at hf
  refine AM.of mfX9_set (Nat.le_of_ble_eq_true rfl) ?_
  generalize mT M = t0
  generalize mW M = w0
  show AW _ _ _ _ _ _ _ _ _ 0 [(0, .ref a0), (1, .int x1), (2, .int x2), (3, .long x3)] [] _ _ _
  obtain ⟨u0, eu0, hf⟩ := bnd hf
  refine a_aload_n dX9_set_0 rfl 0 rfl ?_
  refine a_iload_n dX9_set_1 rfl 1 rfl ?_
  obtain ⟨q1_, eq1_, hf⟩ := bnd hf
  refine a_callV (As := [.int x1]) (rest := []) dX9_set_2 mfX9_isShelf cvX9_118 (wX9_isShelf eq1_) rc9 (kX9_isShelf eq1_) (by decide) rfl rfl (Nat.le_of_ble_eq_true rfl) ?_
  refine a_if_ne dX9_set_5 (tgt := 14) (by decide) (fun c9 => ?_) (fun c9 => ?_)
  · replace hf := iteF hf c9
    refine a_aload_n dX9_set_14 rfl 0 rfl ?_
    obtain ⟨o2_, eo2_, hf⟩ := bnd hf
    refine a_getR dX9_set_15 flX9_63 rfl eo2_ ?_
    refine a_iload_n dX9_set_18 rfl 1 rfl ?_
    obtain ⟨v3_, ev3_, hf⟩ := bnd hf
    refine a_iald dX9_set_19 ev3_ ?_
    refine a_iconst (v := 2) dX9_set_20 (by decide) ?_
    refine a_icmp_ne dX9_set_21 (tgt := 31) (by decide) (fun c9 => ?_) (fun c9 => ?_)
    · replace hf := iteF hf c9
      refine a_aload_n dX9_set_31 rfl 0 rfl ?_
      obtain ⟨o4_, eo4_, hf⟩ := bnd hf
      refine a_getR dX9_set_32 flX9_63 rfl eo4_ ?_
      refine a_iload_n dX9_set_35 rfl 1 rfl ?_
      obtain ⟨v5_, ev5_, hf⟩ := bnd hf
      refine a_iald dX9_set_36 ev5_ ?_
      refine a_if_ne dX9_set_37 (tgt := 47) (by decide) (fun c9 => ?_) (fun c9 => ?_)
      · replace hf := iteF hf c9
        refine a_iload_n dX9_set_47 rfl 2 rfl ?_
        refine a_if_lt dX9_set_48 (tgt := 61) (by decide) (fun c9 => ?_) (fun c9 => ?_)
        · replace hf := iteT hf c9
          refine a_aload_n dX9_set_61 rfl 0 rfl ?_
          refine a_bipush (v := -5) dX9_set_62 (by decide) ?_
          obtain ⟨q6_, eq6_, hf⟩ := bnd hf
          refine a_callV (As := [.int ((-5 : Int32))]) (rest := []) dX9_set_64 mfX9_no cvX9_122 (wX9_no eq6_) rc9 (kX9_no eq6_) (by decide) rfl rfl (Nat.le_of_ble_eq_true rfl) ?_
          have e9 := Option.some.inj hf
          subst e9
          exact a_iret rfl dX9_set_67 rfl
        · replace hf := iteF hf c9
          refine a_iload_n dX9_set_51 rfl 2 rfl ?_
          refine a_aload_n dX9_set_52 rfl 0 rfl ?_
          obtain ⟨o7_, eo7_, hf⟩ := bnd hf
          refine a_getR dX9_set_53 flX9_69 rfl eo7_ ?_
          refine a_iload_n dX9_set_56 rfl 1 rfl ?_
          obtain ⟨v8_, ev8_, hf⟩ := bnd hf
          refine a_iald dX9_set_57 ev8_ ?_
          refine a_icmp_lt dX9_set_58 (tgt := 68) (by decide) (fun c9 => ?_) (fun c9 => ?_)
          · replace hf := iteT hf c9
            refine a_aload_n dX9_set_68 rfl 0 rfl ?_
            obtain ⟨o9_, eo9_, hf⟩ := bnd hf
            refine a_getR dX9_set_69 flX9_75 rfl eo9_ ?_
            refine a_sipush (v := 160) dX9_set_72 (by decide) ?_
            refine a_iload_n dX9_set_75 rfl 1 rfl ?_
            refine a_imul dX9_set_76 ?_
            refine a_iload_n dX9_set_77 rfl 2 rfl ?_
            refine a_iadd dX9_set_78 ?_
            refine a_aload_n dX9_set_79 rfl 0 rfl ?_
            obtain ⟨o10_, eo10_, hf⟩ := bnd hf
            refine a_getR dX9_set_80 flX9_66 rfl eo10_ ?_
            refine a_iload_n dX9_set_83 rfl 1 rfl ?_
            obtain ⟨v11_, ev11_, hf⟩ := bnd hf
            refine a_iald dX9_set_84 ev11_ ?_
            refine a_if_ne dX9_set_85 (tgt := 95) (by decide) (fun c9 => ?_) (fun c9 => ?_)
            · replace hf := iteF hf c9
              refine a_aload_n dX9_set_95 rfl 0 rfl ?_
              obtain ⟨o12_, eo12_, hf⟩ := bnd hf
              refine a_getR dX9_set_96 flX9_66 rfl eo12_ ?_
              refine a_iload_n dX9_set_99 rfl 1 rfl ?_
              obtain ⟨v13_, ev13_, hf⟩ := bnd hf
              refine a_iald dX9_set_100 ev13_ ?_
              refine a_iconst (v := 1) dX9_set_101 (by decide) ?_
              refine a_icmp_ne dX9_set_102 (tgt := 112) (by decide) (fun c9 => ?_) (fun c9 => ?_)
              · replace hf := iteF hf c9
                refine a_aload_n dX9_set_112 rfl 0 rfl ?_
                obtain ⟨o14_, eo14_, hf⟩ := bnd hf
                refine a_getR dX9_set_113 flX9_66 rfl eo14_ ?_
                refine a_iload_n dX9_set_116 rfl 1 rfl ?_
                obtain ⟨v15_, ev15_, hf⟩ := bnd hf
                refine a_iald dX9_set_117 ev15_ ?_
                refine a_iconst (v := 2) dX9_set_118 (by decide) ?_
                refine a_icmp_ne dX9_set_119 (tgt := 128) (by decide) (fun c9 => ?_) (fun c9 => ?_)
                · replace hf := iteF hf c9
                  refine a_lload_n dX9_set_128 rfl 3 rfl ?_
                  obtain ⟨M16_, eM16_, hf⟩ := bnd hf
                  refine a_last dX9_set_129 eM16_ ?_
                  refine a_iconst (v := 1) dX9_set_130 (by decide) ?_
                  have e9 := Option.some.inj hf
                  subst e9
                  exact a_iret rfl dX9_set_131 rfl
                · replace hf := iteT hf c9
                  refine a_lload_n dX9_set_122 rfl 3 rfl ?_
                  refine a_l2i dX9_set_123 ?_
                  refine a_i2l dX9_set_124 ?_
                  refine a_goto (tgt := 129) dX9_set_125 (by decide) ?_
                  obtain ⟨M17_, eM17_, hf⟩ := bnd hf
                  refine a_last dX9_set_129 eM17_ ?_
                  refine a_iconst (v := 1) dX9_set_130 (by decide) ?_
                  have e9 := Option.some.inj hf
                  subst e9
                  exact a_iret rfl dX9_set_131 rfl
              · replace hf := iteT hf c9
                refine a_lload_n dX9_set_105 rfl 3 rfl ?_
                refine a_l2i dX9_set_106 ?_
                refine a_i2s dX9_set_107 ?_
                refine a_i2l dX9_set_108 ?_
                refine a_goto (tgt := 129) dX9_set_109 (by decide) ?_
                obtain ⟨M18_, eM18_, hf⟩ := bnd hf
                refine a_last dX9_set_129 eM18_ ?_
                refine a_iconst (v := 1) dX9_set_130 (by decide) ?_
                have e9 := Option.some.inj hf
                subst e9
                exact a_iret rfl dX9_set_131 rfl
            · replace hf := iteT hf c9
              refine a_lload_n dX9_set_88 rfl 3 rfl ?_
              refine a_l2i dX9_set_89 ?_
              refine a_i2b dX9_set_90 ?_
              refine a_i2l dX9_set_91 ?_
              refine a_goto (tgt := 129) dX9_set_92 (by decide) ?_
              obtain ⟨M19_, eM19_, hf⟩ := bnd hf
              refine a_last dX9_set_129 eM19_ ?_
              refine a_iconst (v := 1) dX9_set_130 (by decide) ?_
              have e9 := Option.some.inj hf
              subst e9
              exact a_iret rfl dX9_set_131 rfl
          · replace hf := iteF hf c9
            refine a_aload_n dX9_set_61 rfl 0 rfl ?_
            refine a_bipush (v := -5) dX9_set_62 (by decide) ?_
            obtain ⟨q20_, eq20_, hf⟩ := bnd hf
            refine a_callV (As := [.int ((-5 : Int32))]) (rest := []) dX9_set_64 mfX9_no cvX9_122 (wX9_no eq20_) rc9 (kX9_no eq20_) (by decide) rfl rfl (Nat.le_of_ble_eq_true rfl) ?_
            have e9 := Option.some.inj hf
            subst e9
            exact a_iret rfl dX9_set_67 rfl
      · replace hf := iteT hf c9
        refine a_aload_n dX9_set_40 rfl 0 rfl ?_
        refine a_bipush (v := -3) dX9_set_41 (by decide) ?_
        obtain ⟨q21_, eq21_, hf⟩ := bnd hf
        refine a_callV (As := [.int ((-3 : Int32))]) (rest := []) dX9_set_43 mfX9_no cvX9_122 (wX9_no eq21_) rc9 (kX9_no eq21_) (by decide) rfl rfl (Nat.le_of_ble_eq_true rfl) ?_
        have e9 := Option.some.inj hf
        subst e9
        exact a_iret rfl dX9_set_46 rfl
    · replace hf := iteT hf c9
      refine a_aload_n dX9_set_24 rfl 0 rfl ?_
      refine a_bipush (v := -2) dX9_set_25 (by decide) ?_
      obtain ⟨q22_, eq22_, hf⟩ := bnd hf
      refine a_callV (As := [.int ((-2 : Int32))]) (rest := []) dX9_set_27 mfX9_no cvX9_122 (wX9_no eq22_) rc9 (kX9_no eq22_) (by decide) rfl rfl (Nat.le_of_ble_eq_true rfl) ?_
      have e9 := Option.some.inj hf
      subst e9
      exact a_iret rfl dX9_set_30 rfl
  · replace hf := iteT hf c9
    refine a_aload_n dX9_set_8 rfl 0 rfl ?_
    refine a_iconst (v := -1) dX9_set_9 (by decide) ?_
    obtain ⟨q23_, eq23_, hf⟩ := bnd hf
    refine a_callV (As := [.int ((-1 : Int32))]) (rest := []) dX9_set_10 mfX9_no cvX9_122 (wX9_no eq23_) rc9 (kX9_no eq23_) (by decide) rfl rfl (Nat.le_of_ble_eq_true rfl) ?_
    have e9 := Option.some.inj hf
    subst e9
    exact a_iret rfl dX9_set_13 rfl
theorem kX9_copy {a0 : Nat} {x1 : Int32} {x2 : Int32} {x3 : Int32} {x4 : Int32} {x5 : Int32} {M : Mm} {q : Int32 × Mm} (hf : fX9_copy a0 x1 x2 x3 x4 x5 M = some q) : (mK M a0).1 = 10 := by
  unfold fX9_copy at hf
  obtain ⟨u0, eu0, -⟩ := bnd hf
  exact kc_of eu0
set_option maxHeartbeats 4000000 in
set_option maxRecDepth 100000 in
theorem wX9_copy_b205 {l : Launch} {Γ : Gx} {t0 w0 : Nat} {q : Int32 × Mm} : ∀ (n : Nat) (a0 : Nat) (x2 : Int32) (x4 : Int32) (x5 : Int32) (x6 : Int32) (M : Mm), fX9_copy_b205 n a0 x2 x4 x5 x6 M = some q → AW l Γ yX9_copy cX9_copy 7 ((some .int)) 2 t0 w0 205 [(0, .ref a0), (2, .int x2), (4, .int x4), (5, .int x5), (6, .int x6)] [] M (some (.int q.1)) q.2 := by
  intro n
  induction n with
  | zero =>
    intro a0 x2 x4 x5 x6 M hf
    cases hf
  | succ n ih =>
    intro a0 x2 x4 x5 x6 M hf
    rw [fX9_copy_b205.eq_2] at hf
    refine a_iload dX9_copy_205 4 rfl ?_
    refine a_iload dX9_copy_207 3 rfl ?_
    refine a_icmp_ge dX9_copy_209 (tgt := 241) (by decide) (fun c9 => ?_) (fun c9 => ?_)
    · replace hf := iteT hf c9
      refine a_iconst (v := 1) dX9_copy_241 (by decide) ?_
      have e9 := Option.some.inj hf
      subst e9
      exact a_iret rfl dX9_copy_242 rfl
    · replace hf := iteF hf c9
      refine a_aload_n dX9_copy_212 rfl 0 rfl ?_
      obtain ⟨o1_, eo1_, hf⟩ := bnd hf
      refine a_getR dX9_copy_213 flX9_75 rfl eo1_ ?_
      refine a_sipush (v := 160) dX9_copy_216 (by decide) ?_
      refine a_iload_n dX9_copy_219 rfl 1 rfl ?_
      refine a_imul dX9_copy_220 ?_
      refine a_iload dX9_copy_221 2 rfl ?_
      refine a_iadd dX9_copy_223 ?_
      refine a_iload dX9_copy_224 4 rfl ?_
      refine a_iadd dX9_copy_226 ?_
      refine a_aload_n dX9_copy_227 rfl 0 rfl ?_
      obtain ⟨o2_, eo2_, hf⟩ := bnd hf
      refine a_getR dX9_copy_228 flX9_78 rfl eo2_ ?_
      refine a_iload dX9_copy_231 4 rfl ?_
      obtain ⟨v3_, ev3_, hf⟩ := bnd hf
      refine a_lald dX9_copy_233 ev3_ ?_
      obtain ⟨M4_, eM4_, hf⟩ := bnd hf
      refine a_last dX9_copy_234 eM4_ ?_
      refine a_iinc (v := x6 + (1 : Int32)) (lv1 := [(6, .int (x6 + (1 : Int32))), (0, .ref a0), (2, .int x2), (4, .int x4), (5, .int x5)]) dX9_copy_235 4 rfl rfl (by decide) rfl ?_
      refine a_goto (tgt := 205) dX9_copy_238 (by decide) ?_
      refine AW.sub (lv1 := [(0, .ref a0), (2, .int x2), (4, .int x4), (5, .int x5), (6, .int (x6 + (1 : Int32)))]) [1, 2, 3, 4, 0] rfl ?_
      exact ih _ _ _ _ _ _ hf
set_option maxHeartbeats 4000000 in
set_option maxRecDepth 100000 in
theorem wX9_copy_b167 {l : Launch} {Γ : Gx} {t0 w0 : Nat} {q : Int32 × Mm} : ∀ (n : Nat) (a0 : Nat) (x1 : Int32) (x2 : Int32) (x3 : Int32) (x4 : Int32) (x5 : Int32) (x6 : Int32) (M : Mm), fX9_copy_b167 n a0 x1 x2 x3 x4 x5 x6 M = some q → AW l Γ yX9_copy cX9_copy 7 ((some .int)) 2 t0 w0 167 [(0, .ref a0), (1, .int x1), (2, .int x2), (3, .int x3), (4, .int x4), (5, .int x5), (6, .int x6)] [] M (some (.int q.1)) q.2 := by
  intro n
  induction n with
  | zero =>
    intro a0 x1 x2 x3 x4 x5 x6 M hf
    cases hf
  | succ n ih =>
    intro a0 x1 x2 x3 x4 x5 x6 M hf
    rw [fX9_copy_b167.eq_2] at hf
    refine a_iload dX9_copy_167 6 rfl ?_
    refine a_iload dX9_copy_169 5 rfl ?_
    refine a_icmp_ge dX9_copy_171 (tgt := 202) (by decide) (fun c9 => ?_) (fun c9 => ?_)
    · replace hf := iteT hf c9
      refine a_iconst (v := 0) dX9_copy_202 (by decide) ?_
      refine a_istore (i := 6) (lv1 := [(6, .int ((0 : Int32))), (0, .ref a0), (1, .int x1), (2, .int x2), (3, .int x3), (4, .int x4), (5, .int x5)]) dX9_copy_203 (by decide) rfl ?_
      refine AW.sub (lv1 := [(0, .ref a0), (2, .int x2), (4, .int x4), (5, .int x5), (6, .int ((0 : Int32)))]) [1, 3, 5, 6, 0] rfl ?_
      exact wX9_copy_b205 _ _ _ _ _ _ _ hf
    · replace hf := iteF hf c9
      refine a_aload_n dX9_copy_174 rfl 0 rfl ?_
      obtain ⟨o1_, eo1_, hf⟩ := bnd hf
      refine a_getR dX9_copy_175 flX9_78 rfl eo1_ ?_
      refine a_iload dX9_copy_178 6 rfl ?_
      refine a_aload_n dX9_copy_180 rfl 0 rfl ?_
      obtain ⟨o2_, eo2_, hf⟩ := bnd hf
      refine a_getR dX9_copy_181 flX9_75 rfl eo2_ ?_
      refine a_sipush (v := 160) dX9_copy_184 (by decide) ?_
      refine a_iload_n dX9_copy_187 rfl 1 rfl ?_
      refine a_imul dX9_copy_188 ?_
      refine a_iload_n dX9_copy_189 rfl 3 rfl ?_
      refine a_iadd dX9_copy_190 ?_
      refine a_iload dX9_copy_191 6 rfl ?_
      refine a_iadd dX9_copy_193 ?_
      obtain ⟨v3_, ev3_, hf⟩ := bnd hf
      refine a_lald dX9_copy_194 ev3_ ?_
      obtain ⟨M4_, eM4_, hf⟩ := bnd hf
      refine a_last dX9_copy_195 eM4_ ?_
      refine a_iinc (v := x6 + (1 : Int32)) (lv1 := [(6, .int (x6 + (1 : Int32))), (0, .ref a0), (1, .int x1), (2, .int x2), (3, .int x3), (4, .int x4), (5, .int x5)]) dX9_copy_196 6 rfl rfl (by decide) rfl ?_
      refine a_goto (tgt := 167) dX9_copy_199 (by decide) ?_
      refine AW.sub (lv1 := [(0, .ref a0), (1, .int x1), (2, .int x2), (3, .int x3), (4, .int x4), (5, .int x5), (6, .int (x6 + (1 : Int32)))]) [1, 2, 3, 4, 5, 6, 0] rfl ?_
      exact ih _ _ _ _ _ _ _ _ hf
set_option maxHeartbeats 4000000 in
set_option maxRecDepth 100000 in
theorem wX9_copy_b84 {l : Launch} {Γ : Gx} {t0 w0 : Nat} {q : Int32 × Mm} (a0 : Nat) (x1 : Int32) (x2 : Int32) (x3 : Int32) (x4 : Int32) (x5 : Int32) (M : Mm) (hf : fX9_copy_b84 a0 x1 x2 x3 x4 x5 M = some q) : AW l Γ yX9_copy cX9_copy 7 ((some .int)) 2 t0 w0 84 [(0, .ref a0), (1, .int x1), (2, .int x2), (3, .int x3), (4, .int x4), (5, .int x5)] [] M (some (.int q.1)) q.2 := by
  unfold fX9_copy_b84 at hf
  refine a_aload_n dX9_copy_84 rfl 0 rfl ?_
  obtain ⟨o1_, eo1_, hf⟩ := bnd hf
  refine a_getR dX9_copy_85 flX9_63 rfl eo1_ ?_
  refine a_iload_n dX9_copy_88 rfl 1 rfl ?_
  obtain ⟨v2_, ev2_, hf⟩ := bnd hf
  refine a_iald dX9_copy_89 ev2_ ?_
  refine a_if_eq dX9_copy_90 (tgt := 102) (by decide) (fun c9 => ?_) (fun c9 => ?_)
  · replace hf := iteT hf c9
    refine a_aload_n dX9_copy_102 rfl 0 rfl ?_
    refine a_bipush (v := -3) dX9_copy_103 (by decide) ?_
    obtain ⟨q3_, eq3_, hf⟩ := bnd hf
    refine a_callV (As := [.int ((-3 : Int32))]) (rest := []) dX9_copy_105 mfX9_no cvX9_122 (wX9_no eq3_) rc9 (kX9_no eq3_) (by decide) rfl rfl (Nat.le_of_ble_eq_true rfl) ?_
    have e9 := Option.some.inj hf
    subst e9
    exact a_iret rfl dX9_copy_108 rfl
  · replace hf := iteF hf c9
    refine a_aload_n dX9_copy_93 rfl 0 rfl ?_
    obtain ⟨o4_, eo4_, hf⟩ := bnd hf
    refine a_getR dX9_copy_94 flX9_63 rfl eo4_ ?_
    refine a_iload_n dX9_copy_97 rfl 2 rfl ?_
    obtain ⟨v5_, ev5_, hf⟩ := bnd hf
    refine a_iald dX9_copy_98 ev5_ ?_
    refine a_if_ne dX9_copy_99 (tgt := 109) (by decide) (fun c9 => ?_) (fun c9 => ?_)
    · replace hf := iteF hf c9
      refine a_iload dX9_copy_109 5 rfl ?_
      refine a_if_ge dX9_copy_111 (tgt := 121) (by decide) (fun c9 => ?_) (fun c9 => ?_)
      · replace hf := iteT hf c9
        refine a_iload_n dX9_copy_121 rfl 3 rfl ?_
        refine a_if_lt dX9_copy_122 (tgt := 157) (by decide) (fun c9 => ?_) (fun c9 => ?_)
        · replace hf := iteT hf c9
          refine a_aload_n dX9_copy_157 rfl 0 rfl ?_
          refine a_bipush (v := -5) dX9_copy_158 (by decide) ?_
          obtain ⟨q6_, eq6_, hf⟩ := bnd hf
          refine a_callV (As := [.int ((-5 : Int32))]) (rest := []) dX9_copy_160 mfX9_no cvX9_122 (wX9_no eq6_) rc9 (kX9_no eq6_) (by decide) rfl rfl (Nat.le_of_ble_eq_true rfl) ?_
          have e9 := Option.some.inj hf
          subst e9
          exact a_iret rfl dX9_copy_163 rfl
        · replace hf := iteF hf c9
          refine a_iload dX9_copy_125 4 rfl ?_
          refine a_if_lt dX9_copy_127 (tgt := 157) (by decide) (fun c9 => ?_) (fun c9 => ?_)
          · replace hf := iteT hf c9
            refine a_aload_n dX9_copy_157 rfl 0 rfl ?_
            refine a_bipush (v := -5) dX9_copy_158 (by decide) ?_
            obtain ⟨q7_, eq7_, hf⟩ := bnd hf
            refine a_callV (As := [.int ((-5 : Int32))]) (rest := []) dX9_copy_160 mfX9_no cvX9_122 (wX9_no eq7_) rc9 (kX9_no eq7_) (by decide) rfl rfl (Nat.le_of_ble_eq_true rfl) ?_
            have e9 := Option.some.inj hf
            subst e9
            exact a_iret rfl dX9_copy_163 rfl
          · replace hf := iteF hf c9
            refine a_iload_n dX9_copy_130 rfl 3 rfl ?_
            refine a_aload_n dX9_copy_131 rfl 0 rfl ?_
            obtain ⟨o8_, eo8_, hf⟩ := bnd hf
            refine a_getR dX9_copy_132 flX9_69 rfl eo8_ ?_
            refine a_iload_n dX9_copy_135 rfl 1 rfl ?_
            obtain ⟨v9_, ev9_, hf⟩ := bnd hf
            refine a_iald dX9_copy_136 ev9_ ?_
            refine a_iload dX9_copy_137 5 rfl ?_
            refine a_isub dX9_copy_139 ?_
            refine a_icmp_gt dX9_copy_140 (tgt := 157) (by decide) (fun c9 => ?_) (fun c9 => ?_)
            · replace hf := iteT hf c9
              refine a_aload_n dX9_copy_157 rfl 0 rfl ?_
              refine a_bipush (v := -5) dX9_copy_158 (by decide) ?_
              obtain ⟨q10_, eq10_, hf⟩ := bnd hf
              refine a_callV (As := [.int ((-5 : Int32))]) (rest := []) dX9_copy_160 mfX9_no cvX9_122 (wX9_no eq10_) rc9 (kX9_no eq10_) (by decide) rfl rfl (Nat.le_of_ble_eq_true rfl) ?_
              have e9 := Option.some.inj hf
              subst e9
              exact a_iret rfl dX9_copy_163 rfl
            · replace hf := iteF hf c9
              refine a_iload dX9_copy_143 4 rfl ?_
              refine a_aload_n dX9_copy_145 rfl 0 rfl ?_
              obtain ⟨o11_, eo11_, hf⟩ := bnd hf
              refine a_getR dX9_copy_146 flX9_69 rfl eo11_ ?_
              refine a_iload_n dX9_copy_149 rfl 2 rfl ?_
              obtain ⟨v12_, ev12_, hf⟩ := bnd hf
              refine a_iald dX9_copy_150 ev12_ ?_
              refine a_iload dX9_copy_151 5 rfl ?_
              refine a_isub dX9_copy_153 ?_
              refine a_icmp_le dX9_copy_154 (tgt := 164) (by decide) (fun c9 => ?_) (fun c9 => ?_)
              · replace hf := iteT hf c9
                refine a_iconst (v := 0) dX9_copy_164 (by decide) ?_
                refine a_istore (i := 6) (lv1 := [(6, .int ((0 : Int32))), (0, .ref a0), (1, .int x1), (2, .int x2), (3, .int x3), (4, .int x4), (5, .int x5)]) dX9_copy_165 (by decide) rfl ?_
                refine AW.sub (lv1 := [(0, .ref a0), (1, .int x1), (2, .int x2), (3, .int x3), (4, .int x4), (5, .int x5), (6, .int ((0 : Int32)))]) [1, 2, 3, 4, 5, 6, 0] rfl ?_
                exact wX9_copy_b167 _ _ _ _ _ _ _ _ _ hf
              · replace hf := iteF hf c9
                refine a_aload_n dX9_copy_157 rfl 0 rfl ?_
                refine a_bipush (v := -5) dX9_copy_158 (by decide) ?_
                obtain ⟨q13_, eq13_, hf⟩ := bnd hf
                refine a_callV (As := [.int ((-5 : Int32))]) (rest := []) dX9_copy_160 mfX9_no cvX9_122 (wX9_no eq13_) rc9 (kX9_no eq13_) (by decide) rfl rfl (Nat.le_of_ble_eq_true rfl) ?_
                have e9 := Option.some.inj hf
                subst e9
                exact a_iret rfl dX9_copy_163 rfl
      · replace hf := iteF hf c9
        refine a_aload_n dX9_copy_114 rfl 0 rfl ?_
        refine a_bipush (v := -4) dX9_copy_115 (by decide) ?_
        obtain ⟨q14_, eq14_, hf⟩ := bnd hf
        refine a_callV (As := [.int ((-4 : Int32))]) (rest := []) dX9_copy_117 mfX9_no cvX9_122 (wX9_no eq14_) rc9 (kX9_no eq14_) (by decide) rfl rfl (Nat.le_of_ble_eq_true rfl) ?_
        have e9 := Option.some.inj hf
        subst e9
        exact a_iret rfl dX9_copy_120 rfl
    · replace hf := iteT hf c9
      refine a_aload_n dX9_copy_102 rfl 0 rfl ?_
      refine a_bipush (v := -3) dX9_copy_103 (by decide) ?_
      obtain ⟨q15_, eq15_, hf⟩ := bnd hf
      refine a_callV (As := [.int ((-3 : Int32))]) (rest := []) dX9_copy_105 mfX9_no cvX9_122 (wX9_no eq15_) rc9 (kX9_no eq15_) (by decide) rfl rfl (Nat.le_of_ble_eq_true rfl) ?_
      have e9 := Option.some.inj hf
      subst e9
      exact a_iret rfl dX9_copy_108 rfl
set_option maxHeartbeats 4000000 in
set_option maxRecDepth 100000 in
theorem wX9_copy {l : Launch} {Γ : Gx} {a0 : Nat} {x1 : Int32} {x2 : Int32} {x3 : Int32} {x4 : Int32} {x5 : Int32} {M : Mm} {q : Int32 × Mm} (hf : fX9_copy a0 x1 x2 x3 x4 x5 M = some q) : AM l Γ 2 yX9_copy cX9_copy 7 ((some .int)) [.ref a0, .int x1, .int x2, .int x3, .int x4, .int x5] M (some (.int q.1)) q.2 := by
  unfold fX9_copy at hf
  refine AM.of mfX9_copy (Nat.le_of_ble_eq_true rfl) ?_
  generalize mT M = t0
  generalize mW M = w0
  show AW _ _ _ _ _ _ _ _ _ 0 [(0, .ref a0), (1, .int x1), (2, .int x2), (3, .int x3), (4, .int x4), (5, .int x5)] [] _ _ _
  obtain ⟨u0, eu0, hf⟩ := bnd hf
  refine a_aload_n dX9_copy_0 rfl 0 rfl ?_
  refine a_iload_n dX9_copy_1 rfl 1 rfl ?_
  obtain ⟨q1_, eq1_, hf⟩ := bnd hf
  refine a_callV (As := [.int x1]) (rest := []) dX9_copy_2 mfX9_isShelf cvX9_118 (wX9_isShelf eq1_) rc9 (kX9_isShelf eq1_) (by decide) rfl rfl (Nat.le_of_ble_eq_true rfl) ?_
  refine a_if_eq dX9_copy_5 (tgt := 16) (by decide) (fun c9 => ?_) (fun c9 => ?_)
  · replace hf := iteT hf c9
    refine a_aload_n dX9_copy_16 rfl 0 rfl ?_
    refine a_iconst (v := -1) dX9_copy_17 (by decide) ?_
    obtain ⟨q2_, eq2_, hf⟩ := bnd hf
    refine a_callV (As := [.int ((-1 : Int32))]) (rest := []) dX9_copy_18 mfX9_no cvX9_122 (wX9_no eq2_) rc9 (kX9_no eq2_) (by decide) rfl rfl (Nat.le_of_ble_eq_true rfl) ?_
    have e9 := Option.some.inj hf
    subst e9
    exact a_iret rfl dX9_copy_21 rfl
  · replace hf := iteF hf c9
    refine a_aload_n dX9_copy_8 rfl 0 rfl ?_
    refine a_iload_n dX9_copy_9 rfl 2 rfl ?_
    obtain ⟨q3_, eq3_, hf⟩ := bnd hf
    refine a_callV (As := [.int x2]) (rest := []) dX9_copy_10 mfX9_isShelf cvX9_118 (wX9_isShelf eq3_) rc9 (kX9_isShelf eq3_) (by decide) rfl rfl (Nat.le_of_ble_eq_true rfl) ?_
    refine a_if_ne dX9_copy_13 (tgt := 22) (by decide) (fun c9 => ?_) (fun c9 => ?_)
    · replace hf := iteF hf c9
      refine a_aload_n dX9_copy_22 rfl 0 rfl ?_
      obtain ⟨o4_, eo4_, hf⟩ := bnd hf
      refine a_getR dX9_copy_23 flX9_63 rfl eo4_ ?_
      refine a_iload_n dX9_copy_26 rfl 1 rfl ?_
      obtain ⟨v5_, ev5_, hf⟩ := bnd hf
      refine a_iald dX9_copy_27 ev5_ ?_
      refine a_iconst (v := 2) dX9_copy_28 (by decide) ?_
      refine a_icmp_eq dX9_copy_29 (tgt := 77) (by decide) (fun c9 => ?_) (fun c9 => ?_)
      · replace hf := iteT hf c9
        refine a_aload_n dX9_copy_77 rfl 0 rfl ?_
        refine a_bipush (v := -2) dX9_copy_78 (by decide) ?_
        obtain ⟨q6_, eq6_, hf⟩ := bnd hf
        refine a_callV (As := [.int ((-2 : Int32))]) (rest := []) dX9_copy_80 mfX9_no cvX9_122 (wX9_no eq6_) rc9 (kX9_no eq6_) (by decide) rfl rfl (Nat.le_of_ble_eq_true rfl) ?_
        have e9 := Option.some.inj hf
        subst e9
        exact a_iret rfl dX9_copy_83 rfl
      · replace hf := iteF hf c9
        refine a_aload_n dX9_copy_32 rfl 0 rfl ?_
        obtain ⟨o7_, eo7_, hf⟩ := bnd hf
        refine a_getR dX9_copy_33 flX9_63 rfl eo7_ ?_
        refine a_iload_n dX9_copy_36 rfl 2 rfl ?_
        obtain ⟨v8_, ev8_, hf⟩ := bnd hf
        refine a_iald dX9_copy_37 ev8_ ?_
        refine a_iconst (v := 2) dX9_copy_38 (by decide) ?_
        refine a_icmp_eq dX9_copy_39 (tgt := 77) (by decide) (fun c9 => ?_) (fun c9 => ?_)
        · replace hf := iteT hf c9
          refine a_aload_n dX9_copy_77 rfl 0 rfl ?_
          refine a_bipush (v := -2) dX9_copy_78 (by decide) ?_
          obtain ⟨q9_, eq9_, hf⟩ := bnd hf
          refine a_callV (As := [.int ((-2 : Int32))]) (rest := []) dX9_copy_80 mfX9_no cvX9_122 (wX9_no eq9_) rc9 (kX9_no eq9_) (by decide) rfl rfl (Nat.le_of_ble_eq_true rfl) ?_
          have e9 := Option.some.inj hf
          subst e9
          exact a_iret rfl dX9_copy_83 rfl
        · replace hf := iteF hf c9
          refine a_aload_n dX9_copy_42 rfl 0 rfl ?_
          obtain ⟨o10_, eo10_, hf⟩ := bnd hf
          refine a_getR dX9_copy_43 flX9_63 rfl eo10_ ?_
          refine a_iload_n dX9_copy_46 rfl 1 rfl ?_
          obtain ⟨v11_, ev11_, hf⟩ := bnd hf
          refine a_iald dX9_copy_47 ev11_ ?_
          refine a_iconst (v := 1) dX9_copy_48 (by decide) ?_
          refine a_icmp_ne dX9_copy_49 (tgt := 84) (by decide) (fun c9 => ?_) (fun c9 => ?_)
          · replace hf := iteF hf c9
            exact wX9_copy_b84 _ _ _ _ _ _ _ hf
          · replace hf := iteT hf c9
            refine a_aload_n dX9_copy_52 rfl 0 rfl ?_
            obtain ⟨o12_, eo12_, hf⟩ := bnd hf
            refine a_getR dX9_copy_53 flX9_63 rfl eo12_ ?_
            refine a_iload_n dX9_copy_56 rfl 2 rfl ?_
            obtain ⟨v13_, ev13_, hf⟩ := bnd hf
            refine a_iald dX9_copy_57 ev13_ ?_
            refine a_iconst (v := 1) dX9_copy_58 (by decide) ?_
            refine a_icmp_ne dX9_copy_59 (tgt := 84) (by decide) (fun c9 => ?_) (fun c9 => ?_)
            · replace hf := iteF hf c9
              exact wX9_copy_b84 _ _ _ _ _ _ _ hf
            · replace hf := iteT hf c9
              refine a_aload_n dX9_copy_62 rfl 0 rfl ?_
              obtain ⟨o14_, eo14_, hf⟩ := bnd hf
              refine a_getR dX9_copy_63 flX9_66 rfl eo14_ ?_
              refine a_iload_n dX9_copy_66 rfl 1 rfl ?_
              obtain ⟨v15_, ev15_, hf⟩ := bnd hf
              refine a_iald dX9_copy_67 ev15_ ?_
              refine a_aload_n dX9_copy_68 rfl 0 rfl ?_
              obtain ⟨o16_, eo16_, hf⟩ := bnd hf
              refine a_getR dX9_copy_69 flX9_66 rfl eo16_ ?_
              refine a_iload_n dX9_copy_72 rfl 2 rfl ?_
              obtain ⟨v17_, ev17_, hf⟩ := bnd hf
              refine a_iald dX9_copy_73 ev17_ ?_
              refine a_icmp_eq dX9_copy_74 (tgt := 84) (by decide) (fun c9 => ?_) (fun c9 => ?_)
              · replace hf := iteT hf c9
                exact wX9_copy_b84 _ _ _ _ _ _ _ hf
              · replace hf := iteF hf c9
                refine a_aload_n dX9_copy_77 rfl 0 rfl ?_
                refine a_bipush (v := -2) dX9_copy_78 (by decide) ?_
                obtain ⟨q18_, eq18_, hf⟩ := bnd hf
                refine a_callV (As := [.int ((-2 : Int32))]) (rest := []) dX9_copy_80 mfX9_no cvX9_122 (wX9_no eq18_) rc9 (kX9_no eq18_) (by decide) rfl rfl (Nat.le_of_ble_eq_true rfl) ?_
                have e9 := Option.some.inj hf
                subst e9
                exact a_iret rfl dX9_copy_83 rfl
    · replace hf := iteT hf c9
      refine a_aload_n dX9_copy_16 rfl 0 rfl ?_
      refine a_iconst (v := -1) dX9_copy_17 (by decide) ?_
      obtain ⟨q19_, eq19_, hf⟩ := bnd hf
      refine a_callV (As := [.int ((-1 : Int32))]) (rest := []) dX9_copy_18 mfX9_no cvX9_122 (wX9_no eq19_) rc9 (kX9_no eq19_) (by decide) rfl rfl (Nat.le_of_ble_eq_true rfl) ?_
      have e9 := Option.some.inj hf
      subst e9
      exact a_iret rfl dX9_copy_21 rfl
theorem kX9_element {a0 : Nat} {x1 : Int32} {x2 : Int32} {M : Mm} {q : Int64 × Mm} (hf : fX9_element a0 x1 x2 M = some q) : (mK M a0).1 = 10 := by
  unfold fX9_element at hf
  obtain ⟨u0, eu0, -⟩ := bnd hf
  exact kc_of eu0
set_option maxHeartbeats 4000000 in
set_option maxRecDepth 100000 in
theorem wX9_element {l : Launch} {Γ : Gx} {a0 : Nat} {x1 : Int32} {x2 : Int32} {M : Mm} {q : Int64 × Mm} (hf : fX9_element a0 x1 x2 M = some q) : AM l Γ 2 yX9_element cX9_element 3 ((some .long)) [.ref a0, .int x1, .int x2] M (some (.long q.1)) q.2 := by
  unfold fX9_element at hf
  refine AM.of mfX9_element (Nat.le_of_ble_eq_true rfl) ?_
  generalize mT M = t0
  generalize mW M = w0
  show AW _ _ _ _ _ _ _ _ _ 0 [(0, .ref a0), (1, .int x1), (2, .int x2)] [] _ _ _
  obtain ⟨u0, eu0, hf⟩ := bnd hf
  refine a_aload_n dX9_element_0 rfl 0 rfl ?_
  refine a_iload_n dX9_element_1 rfl 1 rfl ?_
  obtain ⟨q1_, eq1_, hf⟩ := bnd hf
  refine a_callV (As := [.int x1]) (rest := []) dX9_element_2 mfX9_isShelf cvX9_118 (wX9_isShelf eq1_) rc9 (kX9_isShelf eq1_) (by decide) rfl rfl (Nat.le_of_ble_eq_true rfl) ?_
  refine a_if_eq dX9_element_5 (tgt := 47) (by decide) (fun c9 => ?_) (fun c9 => ?_)
  · replace hf := iteT hf c9
    refine a_lconst (v := 0) dX9_element_47 rfl ?_
    have e9 := Option.some.inj hf
    subst e9
    exact a_lret rfl dX9_element_48 rfl
  · replace hf := iteF hf c9
    refine a_aload_n dX9_element_8 rfl 0 rfl ?_
    obtain ⟨o2_, eo2_, hf⟩ := bnd hf
    refine a_getR dX9_element_9 flX9_63 rfl eo2_ ?_
    refine a_iload_n dX9_element_12 rfl 1 rfl ?_
    obtain ⟨v3_, ev3_, hf⟩ := bnd hf
    refine a_iald dX9_element_13 ev3_ ?_
    refine a_iconst (v := 1) dX9_element_14 (by decide) ?_
    refine a_icmp_ne dX9_element_15 (tgt := 47) (by decide) (fun c9 => ?_) (fun c9 => ?_)
    · replace hf := iteF hf c9
      refine a_lconst (v := 0) dX9_element_47 rfl ?_
      have e9 := Option.some.inj hf
      subst e9
      exact a_lret rfl dX9_element_48 rfl
    · replace hf := iteT hf c9
      refine a_iload_n dX9_element_18 rfl 2 rfl ?_
      refine a_if_lt dX9_element_19 (tgt := 47) (by decide) (fun c9 => ?_) (fun c9 => ?_)
      · replace hf := iteT hf c9
        refine a_lconst (v := 0) dX9_element_47 rfl ?_
        have e9 := Option.some.inj hf
        subst e9
        exact a_lret rfl dX9_element_48 rfl
      · replace hf := iteF hf c9
        refine a_iload_n dX9_element_22 rfl 2 rfl ?_
        refine a_aload_n dX9_element_23 rfl 0 rfl ?_
        obtain ⟨o4_, eo4_, hf⟩ := bnd hf
        refine a_getR dX9_element_24 flX9_69 rfl eo4_ ?_
        refine a_iload_n dX9_element_27 rfl 1 rfl ?_
        obtain ⟨v5_, ev5_, hf⟩ := bnd hf
        refine a_iald dX9_element_28 ev5_ ?_
        refine a_icmp_ge dX9_element_29 (tgt := 47) (by decide) (fun c9 => ?_) (fun c9 => ?_)
        · replace hf := iteT hf c9
          refine a_lconst (v := 0) dX9_element_47 rfl ?_
          have e9 := Option.some.inj hf
          subst e9
          exact a_lret rfl dX9_element_48 rfl
        · replace hf := iteF hf c9
          refine a_aload_n dX9_element_32 rfl 0 rfl ?_
          obtain ⟨o6_, eo6_, hf⟩ := bnd hf
          refine a_getR dX9_element_33 flX9_75 rfl eo6_ ?_
          refine a_sipush (v := 160) dX9_element_36 (by decide) ?_
          refine a_iload_n dX9_element_39 rfl 1 rfl ?_
          refine a_imul dX9_element_40 ?_
          refine a_iload_n dX9_element_41 rfl 2 rfl ?_
          refine a_iadd dX9_element_42 ?_
          obtain ⟨v7_, ev7_, hf⟩ := bnd hf
          refine a_lald dX9_element_43 ev7_ ?_
          refine a_goto (tgt := 48) dX9_element_44 (by decide) ?_
          have e9 := Option.some.inj hf
          subst e9
          exact a_lret rfl dX9_element_48 rfl
theorem kX9_isSign {a0 : Nat} {x1 : Int32} {M : Mm} {q : Int32 × Mm} (hf : fX9_isSign a0 x1 M = some q) : (mK M a0).1 = 10 := by
  unfold fX9_isSign at hf
  obtain ⟨u0, eu0, -⟩ := bnd hf
  exact kc_of eu0
set_option maxHeartbeats 4000000 in
set_option maxRecDepth 100000 in
theorem wX9_isSign {l : Launch} {Γ : Gx} {a0 : Nat} {x1 : Int32} {M : Mm} {q : Int32 × Mm} (hf : fX9_isSign a0 x1 M = some q) : AM l Γ 1 yX9_isSign cX9_isSign 2 ((some .boolean)) [.ref a0, .int x1] M (some (.int q.1)) q.2 := by
  unfold fX9_isSign at hf
  refine AM.of mfX9_isSign (Nat.le_of_ble_eq_true rfl) ?_
  generalize mT M = t0
  generalize mW M = w0
  show AW _ _ _ _ _ _ _ _ _ 0 [(0, .ref a0), (1, .int x1)] [] _ _ _
  obtain ⟨u0, eu0, hf⟩ := bnd hf
  refine a_iload_n dX9_isSign_0 rfl 1 rfl ?_
  refine a_if_lt dX9_isSign_1 (tgt := 16) (by decide) (fun c9 => ?_) (fun c9 => ?_)
  · replace hf := iteT hf c9
    refine a_iconst (v := 0) dX9_isSign_16 (by decide) ?_
    have e9 := Option.some.inj hf
    subst e9
    exact a_zret rfl rfl dX9_isSign_17 rfl
  · replace hf := iteF hf c9
    refine a_iload_n dX9_isSign_4 rfl 1 rfl ?_
    refine a_aload_n dX9_isSign_5 rfl 0 rfl ?_
    obtain ⟨v1_, ev1_, hf⟩ := bnd hf
    refine a_getI dX9_isSign_6 flX9_115 rfl ev1_ ?_
    refine a_icmp_ge dX9_isSign_9 (tgt := 16) (by decide) (fun c9 => ?_) (fun c9 => ?_)
    · replace hf := iteT hf c9
      refine a_iconst (v := 0) dX9_isSign_16 (by decide) ?_
      have e9 := Option.some.inj hf
      subst e9
      exact a_zret rfl rfl dX9_isSign_17 rfl
    · replace hf := iteF hf c9
      refine a_iconst (v := 1) dX9_isSign_12 (by decide) ?_
      refine a_goto (tgt := 17) dX9_isSign_13 (by decide) ?_
      have e9 := Option.some.inj hf
      subst e9
      exact a_zret rfl rfl dX9_isSign_17 rfl
theorem kX9_show {a0 : Nat} {x1 : Int32} {x2 : Int32} {M : Mm} {q : Int32 × Mm} (hf : fX9_show a0 x1 x2 M = some q) : (mK M a0).1 = 10 := by
  unfold fX9_show at hf
  obtain ⟨u0, eu0, -⟩ := bnd hf
  exact kc_of eu0
set_option maxHeartbeats 4000000 in
set_option maxRecDepth 100000 in
theorem wX9_show_b42 {l : Launch} {Γ : Gx} {t0 w0 : Nat} {q : Int32 × Mm} (a0 : Nat) (x1 : Int32) (x2 : Int32) (s0 : Nat) (s1 : Int32) (s2 : Int32) (M : Mm) (hf : fX9_show_b42 a0 x1 x2 s0 s1 s2 M = some q) : AW l Γ yX9_show cX9_show 3 ((some .int)) 2 t0 w0 42 [(0, .ref a0), (1, .int x1), (2, .int x2)] [.int s2, .int s1, .ref s0] M (some (.int q.1)) q.2 := by
  unfold fX9_show_b42 at hf
  obtain ⟨M1_, eM1_, hf⟩ := bnd hf
  refine a_iast dX9_show_42 eM1_ ?_
  refine a_aload_n dX9_show_43 rfl 0 rfl ?_
  obtain ⟨o2_, eo2_, hf⟩ := bnd hf
  refine a_getR dX9_show_44 flX9_72 rfl eo2_ ?_
  refine a_iload_n dX9_show_47 rfl 1 rfl ?_
  refine a_iload_n dX9_show_48 rfl 2 rfl ?_
  obtain ⟨M3_, eM3_, hf⟩ := bnd hf
  refine a_iast dX9_show_49 eM3_ ?_
  refine a_iload_n dX9_show_50 rfl 2 rfl ?_
  refine a_iconst (v := -1) dX9_show_51 (by decide) ?_
  refine a_icmp_ne dX9_show_52 (tgt := 59) (by decide) (fun c9 => ?_) (fun c9 => ?_)
  · replace hf := iteF hf c9
    refine a_iconst (v := 1) dX9_show_59 (by decide) ?_
    have e9 := Option.some.inj hf
    subst e9
    exact a_iret rfl dX9_show_60 rfl
  · replace hf := iteT hf c9
    refine a_iconst (v := 0) dX9_show_55 (by decide) ?_
    refine a_goto (tgt := 60) dX9_show_56 (by decide) ?_
    have e9 := Option.some.inj hf
    subst e9
    exact a_iret rfl dX9_show_60 rfl
set_option maxHeartbeats 4000000 in
set_option maxRecDepth 100000 in
theorem wX9_show_b27 {l : Launch} {Γ : Gx} {t0 w0 : Nat} {q : Int32 × Mm} (a0 : Nat) (x1 : Int32) (x2 : Int32) (M : Mm) (hf : fX9_show_b27 a0 x1 x2 M = some q) : AW l Γ yX9_show cX9_show 3 ((some .int)) 2 t0 w0 27 [(0, .ref a0), (1, .int x1), (2, .int x2)] [] M (some (.int q.1)) q.2 := by
  unfold fX9_show_b27 at hf
  refine a_aload_n dX9_show_27 rfl 0 rfl ?_
  obtain ⟨o1_, eo1_, hf⟩ := bnd hf
  refine a_getR dX9_show_28 flX9_63 rfl eo1_ ?_
  refine a_iload_n dX9_show_31 rfl 1 rfl ?_
  refine a_iload_n dX9_show_32 rfl 2 rfl ?_
  refine a_iconst (v := -1) dX9_show_33 (by decide) ?_
  refine a_icmp_ne dX9_show_34 (tgt := 41) (by decide) (fun c9 => ?_) (fun c9 => ?_)
  · replace hf := iteF hf c9
    refine a_iconst (v := 2) dX9_show_41 (by decide) ?_
    exact wX9_show_b42 _ _ _ _ _ _ _ hf
  · replace hf := iteT hf c9
    refine a_iconst (v := 0) dX9_show_37 (by decide) ?_
    refine a_goto (tgt := 42) dX9_show_38 (by decide) ?_
    exact wX9_show_b42 _ _ _ _ _ _ _ hf
set_option maxHeartbeats 4000000 in
set_option maxRecDepth 100000 in
theorem wX9_show {l : Launch} {Γ : Gx} {a0 : Nat} {x1 : Int32} {x2 : Int32} {M : Mm} {q : Int32 × Mm} (hf : fX9_show a0 x1 x2 M = some q) : AM l Γ 2 yX9_show cX9_show 3 ((some .int)) [.ref a0, .int x1, .int x2] M (some (.int q.1)) q.2 := by
  unfold fX9_show at hf
  refine AM.of mfX9_show (Nat.le_of_ble_eq_true rfl) ?_
  generalize mT M = t0
  generalize mW M = w0
  show AW _ _ _ _ _ _ _ _ _ 0 [(0, .ref a0), (1, .int x1), (2, .int x2)] [] _ _ _
  obtain ⟨u0, eu0, hf⟩ := bnd hf
  refine a_aload_n dX9_show_0 rfl 0 rfl ?_
  refine a_iload_n dX9_show_1 rfl 1 rfl ?_
  obtain ⟨q1_, eq1_, hf⟩ := bnd hf
  refine a_callV (As := [.int x1]) (rest := []) dX9_show_2 mfX9_isShelf cvX9_118 (wX9_isShelf eq1_) rc9 (kX9_isShelf eq1_) (by decide) rfl rfl (Nat.le_of_ble_eq_true rfl) ?_
  refine a_if_eq dX9_show_5 (tgt := 21) (by decide) (fun c9 => ?_) (fun c9 => ?_)
  · replace hf := iteT hf c9
    refine a_aload_n dX9_show_21 rfl 0 rfl ?_
    refine a_iconst (v := -1) dX9_show_22 (by decide) ?_
    obtain ⟨q2_, eq2_, hf⟩ := bnd hf
    refine a_callV (As := [.int ((-1 : Int32))]) (rest := []) dX9_show_23 mfX9_no cvX9_122 (wX9_no eq2_) rc9 (kX9_no eq2_) (by decide) rfl rfl (Nat.le_of_ble_eq_true rfl) ?_
    have e9 := Option.some.inj hf
    subst e9
    exact a_iret rfl dX9_show_26 rfl
  · replace hf := iteF hf c9
    refine a_iload_n dX9_show_8 rfl 2 rfl ?_
    refine a_iconst (v := -1) dX9_show_9 (by decide) ?_
    refine a_icmp_eq dX9_show_10 (tgt := 27) (by decide) (fun c9 => ?_) (fun c9 => ?_)
    · replace hf := iteT hf c9
      exact wX9_show_b27 _ _ _ _ hf
    · replace hf := iteF hf c9
      refine a_aload_n dX9_show_13 rfl 0 rfl ?_
      refine a_iload_n dX9_show_14 rfl 2 rfl ?_
      obtain ⟨q3_, eq3_, hf⟩ := bnd hf
      refine a_callV (As := [.int x2]) (rest := []) dX9_show_15 mfX9_isSign cvX9_126 (wX9_isSign eq3_) rc9 (kX9_isSign eq3_) (by decide) rfl rfl (Nat.le_of_ble_eq_true rfl) ?_
      refine a_if_ne dX9_show_18 (tgt := 27) (by decide) (fun c9 => ?_) (fun c9 => ?_)
      · replace hf := iteF hf c9
        exact wX9_show_b27 _ _ _ _ hf
      · replace hf := iteT hf c9
        refine a_aload_n dX9_show_21 rfl 0 rfl ?_
        refine a_iconst (v := -1) dX9_show_22 (by decide) ?_
        obtain ⟨q4_, eq4_, hf⟩ := bnd hf
        refine a_callV (As := [.int ((-1 : Int32))]) (rest := []) dX9_show_23 mfX9_no cvX9_122 (wX9_no eq4_) rc9 (kX9_no eq4_) (by decide) rfl rfl (Nat.le_of_ble_eq_true rfl) ?_
        have e9 := Option.some.inj hf
        subst e9
        exact a_iret rfl dX9_show_26 rfl
theorem kX9_holds {a0 : Nat} {x1 : Int32} {M : Mm} {q : Int32 × Mm} (hf : fX9_holds a0 x1 M = some q) : (mK M a0).1 = 10 := by
  unfold fX9_holds at hf
  obtain ⟨u0, eu0, -⟩ := bnd hf
  exact kc_of eu0
set_option maxHeartbeats 4000000 in
set_option maxRecDepth 100000 in
theorem wX9_holds {l : Launch} {Γ : Gx} {a0 : Nat} {x1 : Int32} {M : Mm} {q : Int32 × Mm} (hf : fX9_holds a0 x1 M = some q) : AM l Γ 2 yX9_holds cX9_holds 2 ((some .int)) [.ref a0, .int x1] M (some (.int q.1)) q.2 := by
  unfold fX9_holds at hf
  refine AM.of mfX9_holds (Nat.le_of_ble_eq_true rfl) ?_
  generalize mT M = t0
  generalize mW M = w0
  show AW _ _ _ _ _ _ _ _ _ 0 [(0, .ref a0), (1, .int x1)] [] _ _ _
  obtain ⟨u0, eu0, hf⟩ := bnd hf
  refine a_aload_n dX9_holds_0 rfl 0 rfl ?_
  refine a_iload_n dX9_holds_1 rfl 1 rfl ?_
  obtain ⟨q1_, eq1_, hf⟩ := bnd hf
  refine a_callV (As := [.int x1]) (rest := []) dX9_holds_2 mfX9_isShelf cvX9_118 (wX9_isShelf eq1_) rc9 (kX9_isShelf eq1_) (by decide) rfl rfl (Nat.le_of_ble_eq_true rfl) ?_
  refine a_if_eq dX9_holds_5 (tgt := 17) (by decide) (fun c9 => ?_) (fun c9 => ?_)
  · replace hf := iteT hf c9
    refine a_iconst (v := -1) dX9_holds_17 (by decide) ?_
    have e9 := Option.some.inj hf
    subst e9
    exact a_iret rfl dX9_holds_18 rfl
  · replace hf := iteF hf c9
    refine a_aload_n dX9_holds_8 rfl 0 rfl ?_
    obtain ⟨o2_, eo2_, hf⟩ := bnd hf
    refine a_getR dX9_holds_9 flX9_63 rfl eo2_ ?_
    refine a_iload_n dX9_holds_12 rfl 1 rfl ?_
    obtain ⟨v3_, ev3_, hf⟩ := bnd hf
    refine a_iald dX9_holds_13 ev3_ ?_
    refine a_if_ne dX9_holds_14 (tgt := 19) (by decide) (fun c9 => ?_) (fun c9 => ?_)
    · replace hf := iteF hf c9
      refine a_aload_n dX9_holds_19 rfl 0 rfl ?_
      obtain ⟨o4_, eo4_, hf⟩ := bnd hf
      refine a_getR dX9_holds_20 flX9_63 rfl eo4_ ?_
      refine a_iload_n dX9_holds_23 rfl 1 rfl ?_
      obtain ⟨v5_, ev5_, hf⟩ := bnd hf
      refine a_iald dX9_holds_24 ev5_ ?_
      refine a_iconst (v := 1) dX9_holds_25 (by decide) ?_
      refine a_icmp_ne dX9_holds_26 (tgt := 41) (by decide) (fun c9 => ?_) (fun c9 => ?_)
      · replace hf := iteF hf c9
        refine a_aload_n dX9_holds_41 rfl 0 rfl ?_
        obtain ⟨o6_, eo6_, hf⟩ := bnd hf
        refine a_getR dX9_holds_42 flX9_72 rfl eo6_ ?_
        refine a_iload_n dX9_holds_45 rfl 1 rfl ?_
        obtain ⟨v7_, ev7_, hf⟩ := bnd hf
        refine a_iald dX9_holds_46 ev7_ ?_
        have e9 := Option.some.inj hf
        subst e9
        exact a_iret rfl dX9_holds_47 rfl
      · replace hf := iteT hf c9
        refine a_bipush (v := 100) dX9_holds_29 (by decide) ?_
        refine a_aload_n dX9_holds_31 rfl 0 rfl ?_
        obtain ⟨o8_, eo8_, hf⟩ := bnd hf
        refine a_getR dX9_holds_32 flX9_66 rfl eo8_ ?_
        refine a_iload_n dX9_holds_35 rfl 1 rfl ?_
        obtain ⟨v9_, ev9_, hf⟩ := bnd hf
        refine a_iald dX9_holds_36 ev9_ ?_
        refine a_iadd dX9_holds_37 ?_
        refine a_goto (tgt := 47) dX9_holds_38 (by decide) ?_
        have e9 := Option.some.inj hf
        subst e9
        exact a_iret rfl dX9_holds_47 rfl
    · replace hf := iteT hf c9
      refine a_iconst (v := -1) dX9_holds_17 (by decide) ?_
      have e9 := Option.some.inj hf
      subst e9
      exact a_iret rfl dX9_holds_18 rfl
theorem kX9_strengthOf {a0 : Nat} {x1 : Int32} {x2 : Int32} {M : Mm} {q : Int32 × Mm} (hf : fX9_strengthOf a0 x1 x2 M = some q) : (mK M a0).1 = 10 := by
  unfold fX9_strengthOf at hf
  obtain ⟨u0, eu0, -⟩ := bnd hf
  exact kc_of eu0
set_option maxHeartbeats 4000000 in
set_option maxRecDepth 100000 in
theorem wX9_strengthOf_b147 {l : Launch} {Γ : Gx} {t0 w0 : Nat} {q : Int32 × Mm} (a0 : Nat) (x3 : Int32) (M : Mm) (hf : fX9_strengthOf_b147 a0 x3 M = some q) : AW l Γ yX9_strengthOf cX9_strengthOf 5 ((some .int)) 1 t0 w0 147 [(0, .ref a0), (3, .int x3)] [] M (some (.int q.1)) q.2 := by
  unfold fX9_strengthOf_b147 at hf
  refine a_aload_n dX9_strengthOf_147 rfl 0 rfl ?_
  obtain ⟨v1_, ev1_, hf⟩ := bnd hf
  refine a_getI dX9_strengthOf_148 flX9_170 rfl ev1_ ?_
  refine a_if_ne dX9_strengthOf_151 (tgt := 158) (by decide) (fun c9 => ?_) (fun c9 => ?_)
  · replace hf := iteF hf c9
    refine a_iconst (v := 0) dX9_strengthOf_158 (by decide) ?_
    have e9 := Option.some.inj hf
    subst e9
    exact a_iret rfl dX9_strengthOf_159 rfl
  · replace hf := iteT hf c9
    refine a_iload_n dX9_strengthOf_154 rfl 1 rfl ?_
    refine a_goto (tgt := 159) dX9_strengthOf_155 (by decide) ?_
    have e9 := Option.some.inj hf
    subst e9
    exact a_iret rfl dX9_strengthOf_159 rfl
set_option maxHeartbeats 4000000 in
set_option maxRecDepth 100000 in
theorem wX9_strengthOf_b36 {l : Launch} {Γ : Gx} {t0 w0 : Nat} {q : Int32 × Mm} (a0 : Nat) (x1 : Int32) (x2 : Int32) (x3 : Int32) (s0 : Int32) (M : Mm) (hf : fX9_strengthOf_b36 a0 x1 x2 x3 s0 M = some q) : AW l Γ yX9_strengthOf cX9_strengthOf 5 ((some .int)) 1 t0 w0 36 [(0, .ref a0), (1, .int x1), (2, .int x2), (3, .int x3)] [.int s0] M (some (.int q.1)) q.2 := by
  unfold fX9_strengthOf_b36 at hf
  refine a_istore (i := 4) (lv1 := [(4, .int s0), (0, .ref a0), (1, .int x1), (2, .int x2), (3, .int x3)]) dX9_strengthOf_36 (by decide) rfl ?_
  refine a_aload_n dX9_strengthOf_38 rfl 1 rfl ?_
  obtain ⟨o1_, eo1_, hf⟩ := bnd hf
  refine a_getR dX9_strengthOf_39 flX9_35 rfl eo1_ ?_
  refine a_iload_n dX9_strengthOf_42 rfl 2 rfl ?_
  obtain ⟨v2_, ev2_, hf⟩ := bnd hf
  refine a_iald dX9_strengthOf_43 ev2_ ?_
  by_cases c1 : v2_ = (1 : Int32)
  · replace hf := iteT hf c1
    refine a_tableAt 1 (off := 40) (tgt := 84) dX9_strengthOf_44 ((congrArg Int32.toInt c1).trans rfl) (by decide) (by decide) ?_
    refine a_iload dX9_strengthOf_84 0 rfl ?_
    refine a_if_ne dX9_strengthOf_86 (tgt := 100) (by decide) (fun c9 => ?_) (fun c9 => ?_)
    · replace hf := iteF hf c9
      refine a_iconst (v := 0) dX9_strengthOf_100 (by decide) ?_
      have e9 := Option.some.inj hf
      subst e9
      exact a_iret rfl dX9_strengthOf_101 rfl
    · replace hf := iteT hf c9
      refine a_aload_n dX9_strengthOf_89 rfl 1 rfl ?_
      obtain ⟨v3_, ev3_, hf⟩ := bnd hf
      refine a_getI dX9_strengthOf_90 flX9_170 rfl ev3_ ?_
      refine a_if_ne dX9_strengthOf_93 (tgt := 100) (by decide) (fun c9 => ?_) (fun c9 => ?_)
      · replace hf := iteF hf c9
        refine a_iconst (v := 0) dX9_strengthOf_100 (by decide) ?_
        have e9 := Option.some.inj hf
        subst e9
        exact a_iret rfl dX9_strengthOf_101 rfl
      · replace hf := iteT hf c9
        refine a_iload_n dX9_strengthOf_96 rfl 4 rfl ?_
        refine a_goto (tgt := 101) dX9_strengthOf_97 (by decide) ?_
        have e9 := Option.some.inj hf
        subst e9
        exact a_iret rfl dX9_strengthOf_101 rfl
  · replace hf := iteF hf c1
    by_cases c2 : v2_ = (2 : Int32)
    · replace hf := iteT hf c2
      refine a_tableAt 2 (off := 157) (tgt := 201) dX9_strengthOf_44 ((congrArg Int32.toInt c2).trans rfl) (by decide) (by decide) ?_
      refine a_iload dX9_strengthOf_201 0 rfl ?_
      refine a_if_ne dX9_strengthOf_203 (tgt := 210) (by decide) (fun c9 => ?_) (fun c9 => ?_)
      · replace hf := iteF hf c9
        refine a_iload dX9_strengthOf_210 0 rfl ?_
        refine a_iconst (v := 1) dX9_strengthOf_212 (by decide) ?_
        refine a_icmp_ne dX9_strengthOf_213 (tgt := 222) (by decide) (fun c9 => ?_) (fun c9 => ?_)
        · replace hf := iteF hf c9
          refine a_iconst (v := 0) dX9_strengthOf_222 (by decide) ?_
          have e9 := Option.some.inj hf
          subst e9
          exact a_iret rfl dX9_strengthOf_223 rfl
        · replace hf := iteT hf c9
          refine a_iload_n dX9_strengthOf_216 rfl 4 rfl ?_
          refine a_iconst (v := 2) dX9_strengthOf_217 (by decide) ?_
          obtain ⟨z4_, ez4_, hf⟩ := bnd hf
          refine a_idiv dX9_strengthOf_218 ez4_ ?_
          refine a_goto (tgt := 223) dX9_strengthOf_219 (by decide) ?_
          have e9 := Option.some.inj hf
          subst e9
          exact a_iret rfl dX9_strengthOf_223 rfl
      · replace hf := iteT hf c9
        refine a_iload_n dX9_strengthOf_206 rfl 4 rfl ?_
        refine a_goto (tgt := 223) dX9_strengthOf_207 (by decide) ?_
        have e9 := Option.some.inj hf
        subst e9
        exact a_iret rfl dX9_strengthOf_223 rfl
    · replace hf := iteF hf c2
      by_cases c3 : v2_ = (3 : Int32)
      · replace hf := iteT hf c3
        refine a_tableAt 3 (off := 116) (tgt := 160) dX9_strengthOf_44 ((congrArg Int32.toInt c3).trans rfl) (by decide) (by decide) ?_
        refine a_aload_n dX9_strengthOf_160 rfl 1 rfl ?_
        obtain ⟨o5_, eo5_, hf⟩ := bnd hf
        refine a_getR dX9_strengthOf_161 flX9_44 rfl eo5_ ?_
        refine a_iload_n dX9_strengthOf_164 rfl 2 rfl ?_
        obtain ⟨v6_, ev6_, hf⟩ := bnd hf
        refine a_iald dX9_strengthOf_165 ev6_ ?_
        refine a_aload_n dX9_strengthOf_166 rfl 1 rfl ?_
        obtain ⟨v7_, ev7_, hf⟩ := bnd hf
        refine a_getI dX9_strengthOf_167 flX9_167 rfl ev7_ ?_
        refine a_ishr dX9_strengthOf_170 ?_
        refine a_iconst (v := 1) dX9_strengthOf_171 (by decide) ?_
        refine a_iand dX9_strengthOf_172 ?_
        refine a_if_ne dX9_strengthOf_173 (tgt := 178) (by decide) (fun c9 => ?_) (fun c9 => ?_)
        · replace hf := iteF hf c9
          refine a_iload dX9_strengthOf_178 0 rfl ?_
          refine a_if_ne dX9_strengthOf_180 (tgt := 187) (by decide) (fun c9 => ?_) (fun c9 => ?_)
          · replace hf := iteF hf c9
            refine a_iload dX9_strengthOf_187 0 rfl ?_
            refine a_iconst (v := 1) dX9_strengthOf_189 (by decide) ?_
            refine a_icmp_ne dX9_strengthOf_190 (tgt := 199) (by decide) (fun c9 => ?_) (fun c9 => ?_)
            · replace hf := iteF hf c9
              refine a_iconst (v := 0) dX9_strengthOf_199 (by decide) ?_
              have e9 := Option.some.inj hf
              subst e9
              exact a_iret rfl dX9_strengthOf_200 rfl
            · replace hf := iteT hf c9
              refine a_iload_n dX9_strengthOf_193 rfl 4 rfl ?_
              refine a_iconst (v := 2) dX9_strengthOf_194 (by decide) ?_
              obtain ⟨z8_, ez8_, hf⟩ := bnd hf
              refine a_idiv dX9_strengthOf_195 ez8_ ?_
              refine a_goto (tgt := 200) dX9_strengthOf_196 (by decide) ?_
              have e9 := Option.some.inj hf
              subst e9
              exact a_iret rfl dX9_strengthOf_200 rfl
          · replace hf := iteT hf c9
            refine a_iload_n dX9_strengthOf_183 rfl 4 rfl ?_
            refine a_goto (tgt := 200) dX9_strengthOf_184 (by decide) ?_
            have e9 := Option.some.inj hf
            subst e9
            exact a_iret rfl dX9_strengthOf_200 rfl
        · replace hf := iteT hf c9
          refine a_iconst (v := 0) dX9_strengthOf_176 (by decide) ?_
          have e9 := Option.some.inj hf
          subst e9
          exact a_iret rfl dX9_strengthOf_177 rfl
      · replace hf := iteF hf c3
        by_cases c4 : v2_ = (4 : Int32)
        · replace hf := iteT hf c4
          refine a_tableAt 4 (off := 58) (tgt := 102) dX9_strengthOf_44 ((congrArg Int32.toInt c4).trans rfl) (by decide) (by decide) ?_
          refine a_iload dX9_strengthOf_102 0 rfl ?_
          refine a_if_eq dX9_strengthOf_104 (tgt := 111) (by decide) (fun c9 => ?_) (fun c9 => ?_)
          · replace hf := iteT hf c9
            refine a_aload_n dX9_strengthOf_111 rfl 1 rfl ?_
            obtain ⟨v9_, ev9_, hf⟩ := bnd hf
            refine a_getI dX9_strengthOf_112 flX9_170 rfl ev9_ ?_
            refine a_iconst (v := 1) dX9_strengthOf_115 (by decide) ?_
            refine a_icmp_ne dX9_strengthOf_116 (tgt := 125) (by decide) (fun c9 => ?_) (fun c9 => ?_)
            · replace hf := iteF hf c9
              refine a_iload_n dX9_strengthOf_125 rfl 4 rfl ?_
              have e9 := Option.some.inj hf
              subst e9
              exact a_iret rfl dX9_strengthOf_126 rfl
            · replace hf := iteT hf c9
              refine a_iload_n dX9_strengthOf_119 rfl 4 rfl ?_
              refine a_iconst (v := 2) dX9_strengthOf_120 (by decide) ?_
              obtain ⟨z10_, ez10_, hf⟩ := bnd hf
              refine a_idiv dX9_strengthOf_121 ez10_ ?_
              refine a_goto (tgt := 126) dX9_strengthOf_122 (by decide) ?_
              have e9 := Option.some.inj hf
              subst e9
              exact a_iret rfl dX9_strengthOf_126 rfl
          · replace hf := iteF hf c9
            refine a_iconst (v := 0) dX9_strengthOf_107 (by decide) ?_
            refine a_goto (tgt := 126) dX9_strengthOf_108 (by decide) ?_
            have e9 := Option.some.inj hf
            subst e9
            exact a_iret rfl dX9_strengthOf_126 rfl
        · replace hf := iteF hf c4
          by_cases c5 : v2_ = (5 : Int32)
          · replace hf := iteT hf c5
            refine a_tableAt 5 (off := 180) (tgt := 224) dX9_strengthOf_44 ((congrArg Int32.toInt c5).trans rfl) (by decide) (by decide) ?_
            refine a_aload_n dX9_strengthOf_224 rfl 1 rfl ?_
            obtain ⟨v11_, ev11_, hf⟩ := bnd hf
            refine a_getI dX9_strengthOf_225 flX9_129 rfl ev11_ ?_
            refine a_aload_n dX9_strengthOf_228 rfl 1 rfl ?_
            obtain ⟨o12_, eo12_, hf⟩ := bnd hf
            refine a_getR dX9_strengthOf_229 flX9_44 rfl eo12_ ?_
            refine a_iload_n dX9_strengthOf_232 rfl 2 rfl ?_
            obtain ⟨v13_, ev13_, hf⟩ := bnd hf
            refine a_iald dX9_strengthOf_233 ev13_ ?_
            refine a_icmp_ne dX9_strengthOf_234 (tgt := 241) (by decide) (fun c9 => ?_) (fun c9 => ?_)
            · replace hf := iteF hf c9
              refine a_iconst (v := 0) dX9_strengthOf_241 (by decide) ?_
              have e9 := Option.some.inj hf
              subst e9
              exact a_iret rfl dX9_strengthOf_242 rfl
            · replace hf := iteT hf c9
              refine a_iload_n dX9_strengthOf_237 rfl 4 rfl ?_
              refine a_goto (tgt := 242) dX9_strengthOf_238 (by decide) ?_
              have e9 := Option.some.inj hf
              subst e9
              exact a_iret rfl dX9_strengthOf_242 rfl
          · replace hf := iteF hf c5
            by_cases c6 : v2_ = (6 : Int32)
            · replace hf := iteT hf c6
              refine a_tableAt 6 (off := 83) (tgt := 127) dX9_strengthOf_44 ((congrArg Int32.toInt c6).trans rfl) (by decide) (by decide) ?_
              refine a_iload dX9_strengthOf_127 0 rfl ?_
              refine a_if_eq dX9_strengthOf_129 (tgt := 147) (by decide) (fun c9 => ?_) (fun c9 => ?_)
              · replace hf := iteT hf c9
                refine AW.sub (lv1 := [(0, .ref a0), (3, .int x3)]) [1, 4] rfl ?_
                exact wX9_strengthOf_b147 _ _ _ hf
              · replace hf := iteF hf c9
                refine a_iload_n dX9_strengthOf_132 rfl 3 rfl ?_
                refine a_aload_n dX9_strengthOf_133 rfl 1 rfl ?_
                obtain ⟨o14_, eo14_, hf⟩ := bnd hf
                refine a_getR dX9_strengthOf_134 flX9_44 rfl eo14_ ?_
                refine a_iload_n dX9_strengthOf_137 rfl 2 rfl ?_
                obtain ⟨v15_, ev15_, hf⟩ := bnd hf
                refine a_iald dX9_strengthOf_138 ev15_ ?_
                refine a_aload_n dX9_strengthOf_139 rfl 1 rfl ?_
                obtain ⟨v16_, ev16_, hf⟩ := bnd hf
                refine a_getI dX9_strengthOf_140 flX9_7 rfl ev16_ ?_
                obtain ⟨z17_, ez17_, hf⟩ := bnd hf
                refine a_irem dX9_strengthOf_143 ez17_ ?_
                refine a_icmp_ne dX9_strengthOf_144 (tgt := 158) (by decide) (fun c9 => ?_) (fun c9 => ?_)
                · replace hf := iteF hf c9
                  refine a_iconst (v := 0) dX9_strengthOf_158 (by decide) ?_
                  have e9 := Option.some.inj hf
                  subst e9
                  exact a_iret rfl dX9_strengthOf_159 rfl
                · replace hf := iteT hf c9
                  refine AW.sub (lv1 := [(0, .ref a0), (3, .int x3)]) [1, 4] rfl ?_
                  exact wX9_strengthOf_b147 _ _ _ hf
            · replace hf := iteF hf c6
              refine a_tableOut (tgt := 243) dX9_strengthOf_44 (by have nc1 := swne c1 (k9 := 1) rfl; have nc2 := swne c2 (k9 := 2) rfl; have nc3 := swne c3 (k9 := 3) rfl; have nc4 := swne c4 (k9 := 4) rfl; have nc5 := swne c5 (k9 := 5) rfl; have nc6 := swne c6 (k9 := 6) rfl; omega) (by decide) ?_
              refine a_iload dX9_strengthOf_243 0 rfl ?_
              refine a_if_ne dX9_strengthOf_245 (tgt := 252) (by decide) (fun c9 => ?_) (fun c9 => ?_)
              · replace hf := iteF hf c9
                refine a_iconst (v := 0) dX9_strengthOf_252 (by decide) ?_
                have e9 := Option.some.inj hf
                subst e9
                exact a_iret rfl dX9_strengthOf_253 rfl
              · replace hf := iteT hf c9
                refine a_iload_n dX9_strengthOf_248 rfl 4 rfl ?_
                refine a_goto (tgt := 253) dX9_strengthOf_249 (by decide) ?_
                have e9 := Option.some.inj hf
                subst e9
                exact a_iret rfl dX9_strengthOf_253 rfl
set_option maxHeartbeats 4000000 in
set_option maxRecDepth 100000 in
theorem wX9_strengthOf {l : Launch} {Γ : Gx} {a0 : Nat} {x1 : Int32} {x2 : Int32} {M : Mm} {q : Int32 × Mm} (hf : fX9_strengthOf a0 x1 x2 M = some q) : AM l Γ 1 yX9_strengthOf cX9_strengthOf 5 ((some .int)) [.ref a0, .int x1, .int x2] M (some (.int q.1)) q.2 := by
  unfold fX9_strengthOf at hf
  refine AM.of mfX9_strengthOf (Nat.le_of_ble_eq_true rfl) ?_
  generalize mT M = t0
  generalize mW M = w0
  show AW _ _ _ _ _ _ _ _ _ 0 [(0, .ref a0), (1, .int x1), (2, .int x2)] [] _ _ _
  obtain ⟨u0, eu0, hf⟩ := bnd hf
  refine a_aload_n dX9_strengthOf_0 rfl 0 rfl ?_
  obtain ⟨o1_, eo1_, hf⟩ := bnd hf
  refine a_getR dX9_strengthOf_1 flX9_41 rfl eo1_ ?_
  refine a_iload_n dX9_strengthOf_4 rfl 1 rfl ?_
  obtain ⟨v2_, ev2_, hf⟩ := bnd hf
  refine a_iald dX9_strengthOf_5 ev2_ ?_
  refine a_istore_n (i := 3) (lv1 := [(3, .int v2_), (0, .ref a0), (1, .int x1), (2, .int x2)]) dX9_strengthOf_6 rfl (by decide) rfl ?_
  refine a_iload_n dX9_strengthOf_7 rfl 3 rfl ?_
  refine a_aload_n dX9_strengthOf_8 rfl 1 rfl ?_
  obtain ⟨o3_, eo3_, hf⟩ := bnd hf
  refine a_getR dX9_strengthOf_9 flX9_38 rfl eo3_ ?_
  refine a_iload_n dX9_strengthOf_12 rfl 2 rfl ?_
  obtain ⟨v4_, ev4_, hf⟩ := bnd hf
  refine a_iald dX9_strengthOf_13 ev4_ ?_
  refine a_icmp_le dX9_strengthOf_14 (tgt := 28) (by decide) (fun c9 => ?_) (fun c9 => ?_)
  · replace hf := iteT hf c9
    refine a_aload_n dX9_strengthOf_28 rfl 1 rfl ?_
    obtain ⟨o5_, eo5_, hf⟩ := bnd hf
    refine a_getR dX9_strengthOf_29 flX9_38 rfl eo5_ ?_
    refine a_iload_n dX9_strengthOf_32 rfl 2 rfl ?_
    obtain ⟨v6_, ev6_, hf⟩ := bnd hf
    refine a_iald dX9_strengthOf_33 ev6_ ?_
    refine a_iload_n dX9_strengthOf_34 rfl 3 rfl ?_
    refine a_isub dX9_strengthOf_35 ?_
    refine AW.sub (lv1 := [(0, .ref a0), (1, .int x1), (2, .int x2), (3, .int v2_)]) [1, 2, 3, 0] rfl ?_
    exact wX9_strengthOf_b36 _ _ _ _ _ _ hf
  · replace hf := iteF hf c9
    refine a_iload_n dX9_strengthOf_17 rfl 3 rfl ?_
    refine a_aload_n dX9_strengthOf_18 rfl 1 rfl ?_
    obtain ⟨o7_, eo7_, hf⟩ := bnd hf
    refine a_getR dX9_strengthOf_19 flX9_38 rfl eo7_ ?_
    refine a_iload_n dX9_strengthOf_22 rfl 2 rfl ?_
    obtain ⟨v8_, ev8_, hf⟩ := bnd hf
    refine a_iald dX9_strengthOf_23 ev8_ ?_
    refine a_isub dX9_strengthOf_24 ?_
    refine a_goto (tgt := 36) dX9_strengthOf_25 (by decide) ?_
    refine AW.sub (lv1 := [(0, .ref a0), (1, .int x1), (2, .int x2), (3, .int v2_)]) [1, 2, 3, 0] rfl ?_
    exact wX9_strengthOf_b36 _ _ _ _ _ _ hf
theorem kX9_says {a0 : Nat} {x1 : Int32} {x2 : Int32} {M : Mm} {q : Int32 × Mm} (hf : fX9_says a0 x1 x2 M = some q) : (mK M a0).1 = 10 := by
  unfold fX9_says at hf
  obtain ⟨u0, eu0, -⟩ := bnd hf
  exact kc_of eu0
set_option maxHeartbeats 4000000 in
set_option maxRecDepth 100000 in
theorem wX9_says_b182 {l : Launch} {Γ : Gx} {t0 w0 : Nat} {q : Int32 × Mm} : ∀ (n : Nat) (a0 : Nat) (x3 : Int32) (x5 : Int32) (x6 : Int32) (M : Mm), fX9_says_b182 n a0 x3 x5 x6 M = some q → AW l Γ yX9_says cX9_says 7 ((some .int)) 2 t0 w0 182 [(0, .ref a0), (3, .int x3), (5, .int x5), (6, .int x6)] [] M (some (.int q.1)) q.2 := by
  intro n
  induction n with
  | zero =>
    intro a0 x3 x5 x6 M hf
    cases hf
  | succ n ih =>
    intro a0 x3 x5 x6 M hf
    rw [fX9_says_b182.eq_2] at hf
    refine a_iload dX9_says_182 3 rfl ?_
    refine a_bipush (v := 8) dX9_says_184 (by decide) ?_
    refine a_icmp_ge dX9_says_186 (tgt := 211) (by decide) (fun c9 => ?_) (fun c9 => ?_)
    · replace hf := iteT hf c9
      refine a_iload dX9_says_211 2 rfl ?_
      have e9 := Option.some.inj hf
      subst e9
      exact a_iret rfl dX9_says_213 rfl
    · replace hf := iteF hf c9
      refine a_iload dX9_says_189 2 rfl ?_
      refine a_aload_n dX9_says_191 rfl 0 rfl ?_
      obtain ⟨o1_, eo1_, hf⟩ := bnd hf
      refine a_getR dX9_says_192 flX9_44 rfl eo1_ ?_
      refine a_iload_n dX9_says_195 rfl 1 rfl ?_
      obtain ⟨v2_, ev2_, hf⟩ := bnd hf
      refine a_iald dX9_says_196 ev2_ ?_
      refine a_iload dX9_says_197 3 rfl ?_
      refine a_ishr dX9_says_199 ?_
      refine a_iconst (v := 1) dX9_says_200 (by decide) ?_
      refine a_iand dX9_says_201 ?_
      refine a_iadd dX9_says_202 ?_
      refine a_istore (i := 5) (lv1 := [(5, .int (x5 + ((v2_ >>> (x6 &&& 31)) &&& ((1 : Int32))))), (0, .ref a0), (3, .int x3), (6, .int x6)]) dX9_says_203 (by decide) rfl ?_
      refine a_iinc (v := x6 + (1 : Int32)) (lv1 := [(6, .int (x6 + (1 : Int32))), (5, .int (x5 + ((v2_ >>> (x6 &&& 31)) &&& ((1 : Int32))))), (0, .ref a0), (3, .int x3)]) dX9_says_205 3 rfl rfl (by decide) rfl ?_
      refine a_goto (tgt := 182) dX9_says_208 (by decide) ?_
      refine AW.sub (lv1 := [(0, .ref a0), (3, .int x3), (5, .int (x5 + ((v2_ >>> (x6 &&& 31)) &&& ((1 : Int32))))), (6, .int (x6 + (1 : Int32)))]) [2, 3, 1, 0] rfl ?_
      exact ih _ _ _ _ _ hf
set_option maxHeartbeats 4000000 in
set_option maxRecDepth 100000 in
theorem wX9_says_b118 {l : Launch} {Γ : Gx} {t0 w0 : Nat} {q : Int32 × Mm} (a0 : Nat) (x2 : Int32) (x3 : Int32) (M : Mm) (hf : fX9_says_b118 a0 x2 x3 M = some q) : AW l Γ yX9_says cX9_says 7 ((some .int)) 2 t0 w0 118 [(0, .ref a0), (2, .int x2), (3, .int x3)] [] M (some (.int q.1)) q.2 := by
  unfold fX9_says_b118 at hf
  refine a_iload_n dX9_says_118 rfl 1 rfl ?_
  by_cases c0 : x2 = (0 : Int32)
  · replace hf := iteT hf c0
    refine a_tableAt 0 (off := 41) (tgt := 160) dX9_says_119 ((congrArg Int32.toInt c0).trans rfl) (by decide) (by decide) ?_
    refine a_aload_n dX9_says_160 rfl 0 rfl ?_
    obtain ⟨o1_, eo1_, hf⟩ := bnd hf
    refine a_getR dX9_says_161 flX9_41 rfl eo1_ ?_
    refine a_iload_n dX9_says_164 rfl 2 rfl ?_
    obtain ⟨v2_, ev2_, hf⟩ := bnd hf
    refine a_iald dX9_says_165 ev2_ ?_
    have e9 := Option.some.inj hf
    subst e9
    exact a_iret rfl dX9_says_166 rfl
  · replace hf := iteF hf c0
    by_cases c1 : x2 = (1 : Int32)
    · replace hf := iteT hf c1
      refine a_tableAt 1 (off := 136) (tgt := 255) dX9_says_119 ((congrArg Int32.toInt c1).trans rfl) (by decide) (by decide) ?_
      refine a_aload_n dX9_says_255 rfl 0 rfl ?_
      refine a_iload_n dX9_says_256 rfl 2 rfl ?_
      refine a_aload_n dX9_says_257 rfl 0 rfl ?_
      obtain ⟨o3_, eo3_, hf⟩ := bnd hf
      refine a_getR dX9_says_258 flX9_38 rfl eo3_ ?_
      refine a_iload_n dX9_says_261 rfl 2 rfl ?_
      obtain ⟨v4_, ev4_, hf⟩ := bnd hf
      refine a_iald dX9_says_262 ev4_ ?_
      obtain ⟨q5_, eq5_, hf⟩ := bnd hf
      refine a_callV (As := [.int x3, .int v4_]) (rest := []) dX9_says_263 mfX9_strengthOf cvX9_132 (wX9_strengthOf eq5_) rc9 (kX9_strengthOf eq5_) (by decide) rfl rfl (Nat.le_of_ble_eq_true rfl) ?_
      have e9 := Option.some.inj hf
      subst e9
      exact a_iret rfl dX9_says_266 rfl
    · replace hf := iteF hf c1
      by_cases c2 : x2 = (2 : Int32)
      · replace hf := iteT hf c2
        refine a_tableAt 2 (off := 48) (tgt := 167) dX9_says_119 ((congrArg Int32.toInt c2).trans rfl) (by decide) (by decide) ?_
        refine a_aload_n dX9_says_167 rfl 0 rfl ?_
        obtain ⟨o6_, eo6_, hf⟩ := bnd hf
        refine a_getR dX9_says_168 flX9_41 rfl eo6_ ?_
        refine a_iload_n dX9_says_171 rfl 2 rfl ?_
        obtain ⟨v7_, ev7_, hf⟩ := bnd hf
        refine a_iald dX9_says_172 ev7_ ?_
        refine a_iconst (v := 2) dX9_says_173 (by decide) ?_
        obtain ⟨z8_, ez8_, hf⟩ := bnd hf
        refine a_idiv dX9_says_174 ez8_ ?_
        have e9 := Option.some.inj hf
        subst e9
        exact a_iret rfl dX9_says_175 rfl
      · replace hf := iteF hf c2
        by_cases c3 : x2 = (3 : Int32)
        · replace hf := iteT hf c3
          refine a_tableAt 3 (off := 57) (tgt := 176) dX9_says_119 ((congrArg Int32.toInt c3).trans rfl) (by decide) (by decide) ?_
          refine a_iconst (v := 0) dX9_says_176 (by decide) ?_
          refine a_istore (i := 5) (lv1 := [(5, .int ((0 : Int32))), (0, .ref a0), (2, .int x2), (3, .int x3)]) dX9_says_177 (by decide) rfl ?_
          refine a_iconst (v := 0) dX9_says_179 (by decide) ?_
          refine a_istore (i := 6) (lv1 := [(6, .int ((0 : Int32))), (5, .int ((0 : Int32))), (0, .ref a0), (2, .int x2), (3, .int x3)]) dX9_says_180 (by decide) rfl ?_
          refine AW.sub (lv1 := [(0, .ref a0), (3, .int x3), (5, .int ((0 : Int32))), (6, .int ((0 : Int32)))]) [2, 4, 1, 0] rfl ?_
          exact wX9_says_b182 _ _ _ _ _ _ hf
        · replace hf := iteF hf c3
          by_cases c4 : x2 = (4 : Int32)
          · replace hf := iteT hf c4
            refine a_tableAt 4 (off := 136) (tgt := 255) dX9_says_119 ((congrArg Int32.toInt c4).trans rfl) (by decide) (by decide) ?_
            refine a_aload_n dX9_says_255 rfl 0 rfl ?_
            refine a_iload_n dX9_says_256 rfl 2 rfl ?_
            refine a_aload_n dX9_says_257 rfl 0 rfl ?_
            obtain ⟨o9_, eo9_, hf⟩ := bnd hf
            refine a_getR dX9_says_258 flX9_38 rfl eo9_ ?_
            refine a_iload_n dX9_says_261 rfl 2 rfl ?_
            obtain ⟨v10_, ev10_, hf⟩ := bnd hf
            refine a_iald dX9_says_262 ev10_ ?_
            obtain ⟨q11_, eq11_, hf⟩ := bnd hf
            refine a_callV (As := [.int x3, .int v10_]) (rest := []) dX9_says_263 mfX9_strengthOf cvX9_132 (wX9_strengthOf eq11_) rc9 (kX9_strengthOf eq11_) (by decide) rfl rfl (Nat.le_of_ble_eq_true rfl) ?_
            have e9 := Option.some.inj hf
            subst e9
            exact a_iret rfl dX9_says_266 rfl
          · replace hf := iteF hf c4
            by_cases c5 : x2 = (5 : Int32)
            · replace hf := iteT hf c5
              refine a_tableAt 5 (off := 95) (tgt := 214) dX9_says_119 ((congrArg Int32.toInt c5).trans rfl) (by decide) (by decide) ?_
              refine a_aload_n dX9_says_214 rfl 0 rfl ?_
              obtain ⟨o12_, eo12_, hf⟩ := bnd hf
              refine a_getR dX9_says_215 flX9_44 rfl eo12_ ?_
              refine a_iload_n dX9_says_218 rfl 2 rfl ?_
              obtain ⟨v13_, ev13_, hf⟩ := bnd hf
              refine a_iald dX9_says_219 ev13_ ?_
              refine a_aload_n dX9_says_220 rfl 0 rfl ?_
              obtain ⟨v14_, ev14_, hf⟩ := bnd hf
              refine a_getI dX9_says_221 flX9_129 rfl ev14_ ?_
              refine a_icmp_le dX9_says_224 (tgt := 241) (by decide) (fun c9 => ?_) (fun c9 => ?_)
              · replace hf := iteT hf c9
                refine a_iconst (v := 0) dX9_says_241 (by decide) ?_
                have e9 := Option.some.inj hf
                subst e9
                exact a_iret rfl dX9_says_242 rfl
              · replace hf := iteF hf c9
                refine a_aload_n dX9_says_227 rfl 0 rfl ?_
                obtain ⟨o15_, eo15_, hf⟩ := bnd hf
                refine a_getR dX9_says_228 flX9_44 rfl eo15_ ?_
                refine a_iload_n dX9_says_231 rfl 2 rfl ?_
                obtain ⟨v16_, ev16_, hf⟩ := bnd hf
                refine a_iald dX9_says_232 ev16_ ?_
                refine a_aload_n dX9_says_233 rfl 0 rfl ?_
                obtain ⟨v17_, ev17_, hf⟩ := bnd hf
                refine a_getI dX9_says_234 flX9_129 rfl ev17_ ?_
                refine a_isub dX9_says_237 ?_
                refine a_goto (tgt := 242) dX9_says_238 (by decide) ?_
                have e9 := Option.some.inj hf
                subst e9
                exact a_iret rfl dX9_says_242 rfl
            · replace hf := iteF hf c5
              by_cases c6 : x2 = (6 : Int32)
              · replace hf := iteT hf c6
                refine a_tableAt 6 (off := 124) (tgt := 243) dX9_says_119 ((congrArg Int32.toInt c6).trans rfl) (by decide) (by decide) ?_
                refine a_aload_n dX9_says_243 rfl 0 rfl ?_
                obtain ⟨o18_, eo18_, hf⟩ := bnd hf
                refine a_getR dX9_says_244 flX9_44 rfl eo18_ ?_
                refine a_iload_n dX9_says_247 rfl 2 rfl ?_
                obtain ⟨v19_, ev19_, hf⟩ := bnd hf
                refine a_iald dX9_says_248 ev19_ ?_
                refine a_aload_n dX9_says_249 rfl 0 rfl ?_
                obtain ⟨v20_, ev20_, hf⟩ := bnd hf
                refine a_getI dX9_says_250 flX9_7 rfl ev20_ ?_
                obtain ⟨z21_, ez21_, hf⟩ := bnd hf
                refine a_irem dX9_says_253 ez21_ ?_
                have e9 := Option.some.inj hf
                subst e9
                exact a_iret rfl dX9_says_254 rfl
              · replace hf := iteF hf c6
                refine a_tableOut (tgt := 255) dX9_says_119 (by have nc0 := swne c0 (k9 := 0) rfl; have nc1 := swne c1 (k9 := 1) rfl; have nc2 := swne c2 (k9 := 2) rfl; have nc3 := swne c3 (k9 := 3) rfl; have nc4 := swne c4 (k9 := 4) rfl; have nc5 := swne c5 (k9 := 5) rfl; have nc6 := swne c6 (k9 := 6) rfl; omega) (by decide) ?_
                refine a_aload_n dX9_says_255 rfl 0 rfl ?_
                refine a_iload_n dX9_says_256 rfl 2 rfl ?_
                refine a_aload_n dX9_says_257 rfl 0 rfl ?_
                obtain ⟨o22_, eo22_, hf⟩ := bnd hf
                refine a_getR dX9_says_258 flX9_38 rfl eo22_ ?_
                refine a_iload_n dX9_says_261 rfl 2 rfl ?_
                obtain ⟨v23_, ev23_, hf⟩ := bnd hf
                refine a_iald dX9_says_262 ev23_ ?_
                obtain ⟨q24_, eq24_, hf⟩ := bnd hf
                refine a_callV (As := [.int x3, .int v23_]) (rest := []) dX9_says_263 mfX9_strengthOf cvX9_132 (wX9_strengthOf eq24_) rc9 (kX9_strengthOf eq24_) (by decide) rfl rfl (Nat.le_of_ble_eq_true rfl) ?_
                have e9 := Option.some.inj hf
                subst e9
                exact a_iret rfl dX9_says_266 rfl
set_option maxHeartbeats 4000000 in
set_option maxRecDepth 100000 in
theorem wX9_says_b100 {l : Launch} {Γ : Gx} {t0 w0 : Nat} {q : Int32 × Mm} (a0 : Nat) (x2 : Int32) (x3 : Int32) (x4 : Int32) (M : Mm) (hf : fX9_says_b100 a0 x2 x3 x4 M = some q) : AW l Γ yX9_says cX9_says 7 ((some .int)) 2 t0 w0 100 [(0, .ref a0), (2, .int x2), (3, .int x3), (4, .int x4)] [] M (some (.int q.1)) q.2 := by
  unfold fX9_says_b100 at hf
  refine a_iload_n dX9_says_100 rfl 1 rfl ?_
  refine a_iconst (v := 2) dX9_says_101 (by decide) ?_
  refine a_icmp_ne dX9_says_102 (tgt := 111) (by decide) (fun c9 => ?_) (fun c9 => ?_)
  · replace hf := iteF hf c9
    refine a_aload_n dX9_says_111 rfl 0 rfl ?_
    refine a_bipush (v := -2) dX9_says_112 (by decide) ?_
    obtain ⟨q1_, eq1_, hf⟩ := bnd hf
    refine a_callV (As := [.int ((-2 : Int32))]) (rest := []) dX9_says_114 mfX9_no cvX9_122 (wX9_no eq1_) rc9 (kX9_no eq1_) (by decide) rfl rfl (Nat.le_of_ble_eq_true rfl) ?_
    have e9 := Option.some.inj hf
    subst e9
    exact a_iret rfl dX9_says_117 rfl
  · replace hf := iteT hf c9
    refine a_iload dX9_says_105 3 rfl ?_
    refine a_iconst (v := 3) dX9_says_107 (by decide) ?_
    refine a_icmp_eq dX9_says_108 (tgt := 118) (by decide) (fun c9 => ?_) (fun c9 => ?_)
    · replace hf := iteT hf c9
      refine AW.sub (lv1 := [(0, .ref a0), (2, .int x2), (3, .int x3)]) [0, 1, 2] rfl ?_
      exact wX9_says_b118 _ _ _ _ hf
    · replace hf := iteF hf c9
      refine a_aload_n dX9_says_111 rfl 0 rfl ?_
      refine a_bipush (v := -2) dX9_says_112 (by decide) ?_
      obtain ⟨q2_, eq2_, hf⟩ := bnd hf
      refine a_callV (As := [.int ((-2 : Int32))]) (rest := []) dX9_says_114 mfX9_no cvX9_122 (wX9_no eq2_) rc9 (kX9_no eq2_) (by decide) rfl rfl (Nat.le_of_ble_eq_true rfl) ?_
      have e9 := Option.some.inj hf
      subst e9
      exact a_iret rfl dX9_says_117 rfl
set_option maxHeartbeats 4000000 in
set_option maxRecDepth 100000 in
theorem wX9_says {l : Launch} {Γ : Gx} {a0 : Nat} {x1 : Int32} {x2 : Int32} {M : Mm} {q : Int32 × Mm} (hf : fX9_says a0 x1 x2 M = some q) : AM l Γ 2 yX9_says cX9_says 7 ((some .int)) [.ref a0, .int x1, .int x2] M (some (.int q.1)) q.2 := by
  unfold fX9_says at hf
  refine AM.of mfX9_says (Nat.le_of_ble_eq_true rfl) ?_
  generalize mT M = t0
  generalize mW M = w0
  show AW _ _ _ _ _ _ _ _ _ 0 [(0, .ref a0), (1, .int x1), (2, .int x2)] [] _ _ _
  obtain ⟨u0, eu0, hf⟩ := bnd hf
  refine a_aload_n dX9_says_0 rfl 0 rfl ?_
  refine a_iload_n dX9_says_1 rfl 1 rfl ?_
  obtain ⟨q1_, eq1_, hf⟩ := bnd hf
  refine a_callV (As := [.int x1]) (rest := []) dX9_says_2 mfX9_isShelf cvX9_118 (wX9_isShelf eq1_) rc9 (kX9_isShelf eq1_) (by decide) rfl rfl (Nat.le_of_ble_eq_true rfl) ?_
  refine a_if_eq dX9_says_5 (tgt := 18) (by decide) (fun c9 => ?_) (fun c9 => ?_)
  · replace hf := iteT hf c9
    refine a_aload_n dX9_says_18 rfl 0 rfl ?_
    refine a_iconst (v := -1) dX9_says_19 (by decide) ?_
    obtain ⟨q2_, eq2_, hf⟩ := bnd hf
    refine a_callV (As := [.int ((-1 : Int32))]) (rest := []) dX9_says_20 mfX9_no cvX9_122 (wX9_no eq2_) rc9 (kX9_no eq2_) (by decide) rfl rfl (Nat.le_of_ble_eq_true rfl) ?_
    have e9 := Option.some.inj hf
    subst e9
    exact a_iret rfl dX9_says_23 rfl
  · replace hf := iteF hf c9
    refine a_iload_n dX9_says_8 rfl 2 rfl ?_
    refine a_if_lt dX9_says_9 (tgt := 18) (by decide) (fun c9 => ?_) (fun c9 => ?_)
    · replace hf := iteT hf c9
      refine a_aload_n dX9_says_18 rfl 0 rfl ?_
      refine a_iconst (v := -1) dX9_says_19 (by decide) ?_
      obtain ⟨q3_, eq3_, hf⟩ := bnd hf
      refine a_callV (As := [.int ((-1 : Int32))]) (rest := []) dX9_says_20 mfX9_no cvX9_122 (wX9_no eq3_) rc9 (kX9_no eq3_) (by decide) rfl rfl (Nat.le_of_ble_eq_true rfl) ?_
      have e9 := Option.some.inj hf
      subst e9
      exact a_iret rfl dX9_says_23 rfl
    · replace hf := iteF hf c9
      refine a_iload_n dX9_says_12 rfl 2 rfl ?_
      refine a_bipush (v := 6) dX9_says_13 (by decide) ?_
      refine a_icmp_le dX9_says_15 (tgt := 24) (by decide) (fun c9 => ?_) (fun c9 => ?_)
      · replace hf := iteT hf c9
        refine a_aload_n dX9_says_24 rfl 0 rfl ?_
        obtain ⟨o4_, eo4_, hf⟩ := bnd hf
        refine a_getR dX9_says_25 flX9_63 rfl eo4_ ?_
        refine a_iload_n dX9_says_28 rfl 1 rfl ?_
        obtain ⟨v5_, ev5_, hf⟩ := bnd hf
        refine a_iald dX9_says_29 ev5_ ?_
        refine a_iconst (v := 1) dX9_says_30 (by decide) ?_
        refine a_icmp_ne dX9_says_31 (tgt := 41) (by decide) (fun c9 => ?_) (fun c9 => ?_)
        · replace hf := iteF hf c9
          refine a_aload_n dX9_says_41 rfl 0 rfl ?_
          obtain ⟨o6_, eo6_, hf⟩ := bnd hf
          refine a_getR dX9_says_42 flX9_63 rfl eo6_ ?_
          refine a_iload_n dX9_says_45 rfl 1 rfl ?_
          obtain ⟨v7_, ev7_, hf⟩ := bnd hf
          refine a_iald dX9_says_46 ev7_ ?_
          refine a_if_ne dX9_says_47 (tgt := 57) (by decide) (fun c9 => ?_) (fun c9 => ?_)
          · replace hf := iteF hf c9
            refine a_aload_n dX9_says_57 rfl 0 rfl ?_
            obtain ⟨o8_, eo8_, hf⟩ := bnd hf
            refine a_getR dX9_says_58 flX9_72 rfl eo8_ ?_
            refine a_iload_n dX9_says_61 rfl 1 rfl ?_
            obtain ⟨v9_, ev9_, hf⟩ := bnd hf
            refine a_iald dX9_says_62 ev9_ ?_
            refine a_istore_n (i := 3) (lv1 := [(3, .int v9_), (0, .ref a0), (1, .int x1), (2, .int x2)]) dX9_says_63 rfl (by decide) rfl ?_
            refine a_aload_n dX9_says_64 rfl 1 rfl ?_
            obtain ⟨o10_, eo10_, hf⟩ := bnd hf
            refine a_getR dX9_says_65 flX9_35 rfl eo10_ ?_
            refine a_iload_n dX9_says_68 rfl 0 rfl ?_
            obtain ⟨v11_, ev11_, hf⟩ := bnd hf
            refine a_iald dX9_says_69 ev11_ ?_
            refine a_istore (i := 4) (lv1 := [(4, .int v11_), (3, .int v9_), (0, .ref a0), (1, .int x1), (2, .int x2)]) dX9_says_70 (by decide) rfl ?_
            refine a_iload_n dX9_says_72 rfl 4 rfl ?_
            refine a_if_eq dX9_says_73 (tgt := 118) (by decide) (fun c9 => ?_) (fun c9 => ?_)
            · replace hf := iteT hf c9
              refine AW.sub (lv1 := [(0, .ref a0), (2, .int x2), (3, .int v9_)]) [2, 4, 1] rfl ?_
              exact wX9_says_b118 _ _ _ _ hf
            · replace hf := iteF hf c9
              refine a_iload_n dX9_says_76 rfl 4 rfl ?_
              refine a_iload dX9_says_77 0 rfl ?_
              refine a_icmp_eq dX9_says_79 (tgt := 118) (by decide) (fun c9 => ?_) (fun c9 => ?_)
              · replace hf := iteT hf c9
                refine AW.sub (lv1 := [(0, .ref a0), (2, .int x2), (3, .int v9_)]) [2, 4, 1] rfl ?_
                exact wX9_says_b118 _ _ _ _ hf
              · replace hf := iteF hf c9
                refine a_iload_n dX9_says_82 rfl 4 rfl ?_
                refine a_iconst (v := 1) dX9_says_83 (by decide) ?_
                refine a_icmp_ne dX9_says_84 (tgt := 100) (by decide) (fun c9 => ?_) (fun c9 => ?_)
                · replace hf := iteF hf c9
                  refine AW.sub (lv1 := [(0, .ref a0), (2, .int x2), (3, .int v9_), (4, .int v11_)]) [2, 4, 1, 0] rfl ?_
                  exact wX9_says_b100 _ _ _ _ _ hf
                · replace hf := iteT hf c9
                  refine a_iload dX9_says_87 0 rfl ?_
                  refine a_iconst (v := 4) dX9_says_89 (by decide) ?_
                  refine a_icmp_eq dX9_says_90 (tgt := 118) (by decide) (fun c9 => ?_) (fun c9 => ?_)
                  · replace hf := iteT hf c9
                    refine AW.sub (lv1 := [(0, .ref a0), (2, .int x2), (3, .int v9_)]) [2, 4, 1] rfl ?_
                    exact wX9_says_b118 _ _ _ _ hf
                  · replace hf := iteF hf c9
                    refine a_iload dX9_says_93 0 rfl ?_
                    refine a_bipush (v := 6) dX9_says_95 (by decide) ?_
                    refine a_icmp_eq dX9_says_97 (tgt := 118) (by decide) (fun c9 => ?_) (fun c9 => ?_)
                    · replace hf := iteT hf c9
                      refine AW.sub (lv1 := [(0, .ref a0), (2, .int x2), (3, .int v9_)]) [2, 4, 1] rfl ?_
                      exact wX9_says_b118 _ _ _ _ hf
                    · replace hf := iteF hf c9
                      refine AW.sub (lv1 := [(0, .ref a0), (2, .int x2), (3, .int v9_), (4, .int v11_)]) [2, 4, 1, 0] rfl ?_
                      exact wX9_says_b100 _ _ _ _ _ hf
          · replace hf := iteT hf c9
            refine a_aload_n dX9_says_50 rfl 0 rfl ?_
            refine a_bipush (v := -3) dX9_says_51 (by decide) ?_
            obtain ⟨q12_, eq12_, hf⟩ := bnd hf
            refine a_callV (As := [.int ((-3 : Int32))]) (rest := []) dX9_says_53 mfX9_no cvX9_122 (wX9_no eq12_) rc9 (kX9_no eq12_) (by decide) rfl rfl (Nat.le_of_ble_eq_true rfl) ?_
            have e9 := Option.some.inj hf
            subst e9
            exact a_iret rfl dX9_says_56 rfl
        · replace hf := iteT hf c9
          refine a_aload_n dX9_says_34 rfl 0 rfl ?_
          refine a_bipush (v := -2) dX9_says_35 (by decide) ?_
          obtain ⟨q13_, eq13_, hf⟩ := bnd hf
          refine a_callV (As := [.int ((-2 : Int32))]) (rest := []) dX9_says_37 mfX9_no cvX9_122 (wX9_no eq13_) rc9 (kX9_no eq13_) (by decide) rfl rfl (Nat.le_of_ble_eq_true rfl) ?_
          have e9 := Option.some.inj hf
          subst e9
          exact a_iret rfl dX9_says_40 rfl
      · replace hf := iteF hf c9
        refine a_aload_n dX9_says_18 rfl 0 rfl ?_
        refine a_iconst (v := -1) dX9_says_19 (by decide) ?_
        obtain ⟨q14_, eq14_, hf⟩ := bnd hf
        refine a_callV (As := [.int ((-1 : Int32))]) (rest := []) dX9_says_20 mfX9_no cvX9_122 (wX9_no eq14_) rc9 (kX9_no eq14_) (by decide) rfl rfl (Nat.le_of_ble_eq_true rfl) ?_
        have e9 := Option.some.inj hf
        subst e9
        exact a_iret rfl dX9_says_23 rfl
theorem kX9_along {a0 : Nat} {x1 : Int32} {M : Mm} {q : Mm} (hf : fX9_along a0 x1 M = some q) : (mK M a0).1 = 10 := by
  unfold fX9_along at hf
  obtain ⟨u0, eu0, -⟩ := bnd hf
  exact kc_of eu0
set_option maxHeartbeats 4000000 in
set_option maxRecDepth 100000 in
theorem wX9_along {l : Launch} {Γ : Gx} {a0 : Nat} {x1 : Int32} {M : Mm} {q : Mm} (hf : fX9_along a0 x1 M = some q) : AM l Γ 2 yX9_along cX9_along 2 (none) [.ref a0, .int x1] M none q := by
  unfold fX9_along at hf
  refine AM.of mfX9_along (Nat.le_of_ble_eq_true rfl) ?_
  generalize mT M = t0
  generalize mW M = w0
  show AW _ _ _ _ _ _ _ _ _ 0 [(0, .ref a0), (1, .int x1)] [] _ _ _
  obtain ⟨u0, eu0, hf⟩ := bnd hf
  refine a_aload_n dX9_along_0 rfl 0 rfl ?_
  refine a_iload_n dX9_along_1 rfl 1 rfl ?_
  obtain ⟨M1_, eM1_, hf⟩ := bnd hf
  refine a_putI dX9_along_2 fpX9_7 rfl (Or.inr nf9_0) eM1_ ?_
  refine a_aload_n dX9_along_5 rfl 0 rfl ?_
  refine a_iconst (v := 1) dX9_along_6 (by decide) ?_
  obtain ⟨M2_, eM2_, hf⟩ := bnd hf
  refine a_putZ dX9_along_7 fpX9_139 rfl (Or.inr nf9_29) eM2_ ?_
  refine a_aload_n dX9_along_10 rfl 0 rfl ?_
  refine a_iconst (v := 0) dX9_along_11 (by decide) ?_
  obtain ⟨M3_, eM3_, hf⟩ := bnd hf
  refine a_putI dX9_along_12 fpX9_115 rfl (Or.inr nf9_6) eM3_ ?_
  refine a_aload_n dX9_along_15 rfl 0 rfl ?_
  refine a_iconst (v := 0) dX9_along_16 (by decide) ?_
  obtain ⟨M4_, eM4_, hf⟩ := bnd hf
  refine a_putI dX9_along_17 fpX9_143 rfl (Or.inr nf9_7) eM4_ ?_
  refine a_aload_n dX9_along_20 rfl 0 rfl ?_
  refine a_iconst (v := -1) dX9_along_21 (by decide) ?_
  obtain ⟨M5_, eM5_, hf⟩ := bnd hf
  refine a_putI dX9_along_22 fpX9_22 rfl (Or.inr nf9_10) eM5_ ?_
  refine a_aload_n dX9_along_25 rfl 0 rfl ?_
  refine a_iconst (v := -1) dX9_along_26 (by decide) ?_
  obtain ⟨M6_, eM6_, hf⟩ := bnd hf
  refine a_callV (As := [.int ((-1 : Int32))]) (rest := []) dX9_along_27 mfX9_knows cvX9_111 (wX9_knows eM6_) rc9 (kX9_knows eM6_) (by decide) rfl rfl (Nat.le_of_ble_eq_true rfl) ?_
  have e9 := Option.some.inj hf
  subst e9
  exact a_vret rfl dX9_along_30 rfl
theorem kX9_empties {a0 : Nat} {M : Mm} {q : Mm} (hf : fX9_empties a0 M = some q) : (mK M a0).1 = 10 := by
  unfold fX9_empties at hf
  obtain ⟨u0, eu0, -⟩ := bnd hf
  exact kc_of eu0
set_option maxHeartbeats 4000000 in
set_option maxRecDepth 100000 in
theorem wX9_empties_b2 {l : Launch} {Γ : Gx} {t0 w0 : Nat} {q : Mm} : ∀ (n : Nat) (a0 : Nat) (x1 : Int32) (M : Mm), fX9_empties_b2 n a0 x1 M = some q → AW l Γ yX9_empties cX9_empties 2 (none) 1 t0 w0 2 [(0, .ref a0), (1, .int x1)] [] M none q := by
  intro n
  induction n with
  | zero =>
    intro a0 x1 M hf
    cases hf
  | succ n ih =>
    intro a0 x1 M hf
    rw [fX9_empties_b2.eq_2] at hf
    refine a_iload_n dX9_empties_2 rfl 1 rfl ?_
    refine a_bipush (v := 8) dX9_empties_3 (by decide) ?_
    refine a_icmp_ge dX9_empties_5 (tgt := 31) (by decide) (fun c9 => ?_) (fun c9 => ?_)
    · replace hf := iteT hf c9
      have e9 := Option.some.inj hf
      subst e9
      exact a_vret rfl dX9_empties_31 rfl
    · replace hf := iteF hf c9
      refine a_aload_n dX9_empties_8 rfl 0 rfl ?_
      obtain ⟨o1_, eo1_, hf⟩ := bnd hf
      refine a_getR dX9_empties_9 flX9_63 rfl eo1_ ?_
      refine a_iload_n dX9_empties_12 rfl 1 rfl ?_
      obtain ⟨v2_, ev2_, hf⟩ := bnd hf
      refine a_iald dX9_empties_13 ev2_ ?_
      refine a_iconst (v := 2) dX9_empties_14 (by decide) ?_
      refine a_icmp_ne dX9_empties_15 (tgt := 25) (by decide) (fun c9 => ?_) (fun c9 => ?_)
      · replace hf := iteF hf c9
        refine a_iinc (v := x1 + (1 : Int32)) (lv1 := [(1, .int (x1 + (1 : Int32))), (0, .ref a0)]) dX9_empties_25 1 rfl rfl (by decide) rfl ?_
        refine a_goto (tgt := 2) dX9_empties_28 (by decide) ?_
        refine AW.sub (lv1 := [(0, .ref a0), (1, .int (x1 + (1 : Int32)))]) [1, 0] rfl ?_
        exact ih _ _ _ hf
      · replace hf := iteT hf c9
        refine a_aload_n dX9_empties_18 rfl 0 rfl ?_
        obtain ⟨o3_, eo3_, hf⟩ := bnd hf
        refine a_getR dX9_empties_19 flX9_63 rfl eo3_ ?_
        refine a_iload_n dX9_empties_22 rfl 1 rfl ?_
        refine a_iconst (v := 0) dX9_empties_23 (by decide) ?_
        obtain ⟨M4_, eM4_, hf⟩ := bnd hf
        refine a_iast dX9_empties_24 eM4_ ?_
        refine a_iinc (v := x1 + (1 : Int32)) (lv1 := [(1, .int (x1 + (1 : Int32))), (0, .ref a0)]) dX9_empties_25 1 rfl rfl (by decide) rfl ?_
        refine a_goto (tgt := 2) dX9_empties_28 (by decide) ?_
        refine AW.sub (lv1 := [(0, .ref a0), (1, .int (x1 + (1 : Int32)))]) [1, 0] rfl ?_
        exact ih _ _ _ hf
set_option maxHeartbeats 4000000 in
set_option maxRecDepth 100000 in
theorem wX9_empties {l : Launch} {Γ : Gx} {a0 : Nat} {M : Mm} {q : Mm} (hf : fX9_empties a0 M = some q) : AM l Γ 1 yX9_empties cX9_empties 2 (none) [.ref a0] M none q := by
  unfold fX9_empties at hf
  refine AM.of mfX9_empties (Nat.le_of_ble_eq_true rfl) ?_
  generalize mT M = t0
  generalize mW M = w0
  show AW _ _ _ _ _ _ _ _ _ 0 [(0, .ref a0)] [] _ _ _
  obtain ⟨u0, eu0, hf⟩ := bnd hf
  refine a_iconst (v := 0) dX9_empties_0 (by decide) ?_
  refine a_istore_n (i := 1) (lv1 := [(1, .int ((0 : Int32))), (0, .ref a0)]) dX9_empties_1 rfl (by decide) rfl ?_
  refine AW.sub (lv1 := [(0, .ref a0), (1, .int ((0 : Int32)))]) [1, 0] rfl ?_
  exact wX9_empties_b2 _ _ _ _ hf
theorem kX9_street {a0 : Nat} {x1 : Int32} {M : Mm} {q : Int32 × Mm} (hf : fX9_street a0 x1 M = some q) : (mK M a0).1 = 10 := by
  unfold fX9_street at hf
  obtain ⟨u0, eu0, -⟩ := bnd hf
  exact kc_of eu0
set_option maxHeartbeats 4000000 in
set_option maxRecDepth 100000 in
theorem wX9_street {l : Launch} {Γ : Gx} {a0 : Nat} {x1 : Int32} {M : Mm} {q : Int32 × Mm} (hf : fX9_street a0 x1 M = some q) : AM l Γ 3 yX9_street cX9_street 3 ((some .int)) [.ref a0, .int x1] M (some (.int q.1)) q.2 := by
  unfold fX9_street at hf
  refine AM.of mfX9_street (Nat.le_of_ble_eq_true rfl) ?_
  generalize mT M = t0
  generalize mW M = w0
  show AW _ _ _ _ _ _ _ _ _ 0 [(0, .ref a0), (1, .int x1)] [] _ _ _
  obtain ⟨u0, eu0, hf⟩ := bnd hf
  refine a_iload_n dX9_street_0 rfl 1 rfl ?_
  refine a_iconst (v := 2) dX9_street_1 (by decide) ?_
  refine a_icmp_lt dX9_street_2 (tgt := 11) (by decide) (fun c9 => ?_) (fun c9 => ?_)
  · replace hf := iteT hf c9
    refine a_aload_n dX9_street_11 rfl 0 rfl ?_
    refine a_bipush (v := -6) dX9_street_12 (by decide) ?_
    obtain ⟨q1_, eq1_, hf⟩ := bnd hf
    refine a_callV (As := [.int ((-6 : Int32))]) (rest := []) dX9_street_14 mfX9_no cvX9_122 (wX9_no eq1_) rc9 (kX9_no eq1_) (by decide) rfl rfl (Nat.le_of_ble_eq_true rfl) ?_
    have e9 := Option.some.inj hf
    subst e9
    exact a_iret rfl dX9_street_17 rfl
  · replace hf := iteF hf c9
    refine a_iload_n dX9_street_5 rfl 1 rfl ?_
    refine a_bipush (v := 24) dX9_street_6 (by decide) ?_
    refine a_icmp_le dX9_street_8 (tgt := 18) (by decide) (fun c9 => ?_) (fun c9 => ?_)
    · replace hf := iteT hf c9
      refine a_aload_n dX9_street_18 rfl 0 rfl ?_
      obtain ⟨v2_, ev2_, hf⟩ := bnd hf
      refine a_getI dX9_street_19 flX9_7 rfl ev2_ ?_
      refine a_istore_n (i := 2) (lv1 := [(2, .int v2_), (0, .ref a0), (1, .int x1)]) dX9_street_22 rfl (by decide) rfl ?_
      refine a_aload_n dX9_street_23 rfl 1 rfl ?_
      refine a_iload_n dX9_street_24 rfl 2 rfl ?_
      obtain ⟨M3_, eM3_, hf⟩ := bnd hf
      refine a_callV (As := [.int x1]) (rest := []) dX9_street_25 mfX9_along cvX9_146 (wX9_along eM3_) rc9 (kX9_along eM3_) (by decide) rfl rfl (Nat.le_of_ble_eq_true rfl) ?_
      refine a_aload_n dX9_street_28 rfl 1 rfl ?_
      obtain ⟨M4_, eM4_, hf⟩ := bnd hf
      refine a_callV (As := []) (rest := []) dX9_street_29 mfX9_empties cvX9_148 (wX9_empties eM4_) rc9 (kX9_empties eM4_) (by decide) rfl rfl (Nat.le_of_ble_eq_true rfl) ?_
      refine a_iload_n dX9_street_32 rfl 0 rfl ?_
      have e9 := Option.some.inj hf
      subst e9
      exact a_iret rfl dX9_street_33 rfl
    · replace hf := iteF hf c9
      refine a_aload_n dX9_street_11 rfl 0 rfl ?_
      refine a_bipush (v := -6) dX9_street_12 (by decide) ?_
      obtain ⟨q5_, eq5_, hf⟩ := bnd hf
      refine a_callV (As := [.int ((-6 : Int32))]) (rest := []) dX9_street_14 mfX9_no cvX9_122 (wX9_no eq5_) rc9 (kX9_no eq5_) (by decide) rfl rfl (Nat.le_of_ble_eq_true rfl) ?_
      have e9 := Option.some.inj hf
      subst e9
      exact a_iret rfl dX9_street_17 rfl
theorem kX9_isCell {a0 : Nat} {x1 : Int32} {M : Mm} {q : Int32 × Mm} (hf : fX9_isCell a0 x1 M = some q) : (mK M a0).1 = 10 := by
  unfold fX9_isCell at hf
  obtain ⟨u0, eu0, -⟩ := bnd hf
  exact kc_of eu0
set_option maxHeartbeats 4000000 in
set_option maxRecDepth 100000 in
theorem wX9_isCell {l : Launch} {Γ : Gx} {a0 : Nat} {x1 : Int32} {M : Mm} {q : Int32 × Mm} (hf : fX9_isCell a0 x1 M = some q) : AM l Γ 1 yX9_isCell cX9_isCell 2 ((some .boolean)) [.ref a0, .int x1] M (some (.int q.1)) q.2 := by
  unfold fX9_isCell at hf
  refine AM.of mfX9_isCell (Nat.le_of_ble_eq_true rfl) ?_
  generalize mT M = t0
  generalize mW M = w0
  show AW _ _ _ _ _ _ _ _ _ 0 [(0, .ref a0), (1, .int x1)] [] _ _ _
  obtain ⟨u0, eu0, hf⟩ := bnd hf
  refine a_iload_n dX9_isCell_0 rfl 1 rfl ?_
  refine a_if_lt dX9_isCell_1 (tgt := 16) (by decide) (fun c9 => ?_) (fun c9 => ?_)
  · replace hf := iteT hf c9
    refine a_iconst (v := 0) dX9_isCell_16 (by decide) ?_
    have e9 := Option.some.inj hf
    subst e9
    exact a_zret rfl rfl dX9_isCell_17 rfl
  · replace hf := iteF hf c9
    refine a_iload_n dX9_isCell_4 rfl 1 rfl ?_
    refine a_aload_n dX9_isCell_5 rfl 0 rfl ?_
    obtain ⟨v1_, ev1_, hf⟩ := bnd hf
    refine a_getI dX9_isCell_6 flX9_7 rfl ev1_ ?_
    refine a_icmp_ge dX9_isCell_9 (tgt := 16) (by decide) (fun c9 => ?_) (fun c9 => ?_)
    · replace hf := iteT hf c9
      refine a_iconst (v := 0) dX9_isCell_16 (by decide) ?_
      have e9 := Option.some.inj hf
      subst e9
      exact a_zret rfl rfl dX9_isCell_17 rfl
    · replace hf := iteF hf c9
      refine a_iconst (v := 1) dX9_isCell_12 (by decide) ?_
      refine a_goto (tgt := 17) dX9_isCell_13 (by decide) ?_
      have e9 := Option.some.inj hf
      subst e9
      exact a_zret rfl rfl dX9_isCell_17 rfl
theorem kX9_signs {a0 : Nat} {x1 : Int32} {x2 : Int32} {x3 : Int32} {x4 : Int32} {M : Mm} {q : Int32 × Mm} (hf : fX9_signs a0 x1 x2 x3 x4 M = some q) : (mK M a0).1 = 10 := by
  unfold fX9_signs at hf
  obtain ⟨u0, eu0, -⟩ := bnd hf
  exact kc_of eu0
set_option maxHeartbeats 4000000 in
set_option maxRecDepth 100000 in
theorem wX9_signs {l : Launch} {Γ : Gx} {a0 : Nat} {x1 : Int32} {x2 : Int32} {x3 : Int32} {x4 : Int32} {M : Mm} {q : Int32 × Mm} (hf : fX9_signs a0 x1 x2 x3 x4 M = some q) : AM l Γ 1 yX9_signs cX9_signs 5 ((some .int)) [.ref a0, .int x1, .int x2, .int x3, .int x4] M (some (.int q.1)) q.2 := by
  unfold fX9_signs at hf
  refine AM.of mfX9_signs (Nat.le_of_ble_eq_true rfl) ?_
  generalize mT M = t0
  generalize mW M = w0
  show AW _ _ _ _ _ _ _ _ _ 0 [(0, .ref a0), (1, .int x1), (2, .int x2), (3, .int x3), (4, .int x4)] [] _ _ _
  obtain ⟨u0, eu0, hf⟩ := bnd hf
  refine a_aload_n dX9_signs_0 rfl 0 rfl ?_
  obtain ⟨o1_, eo1_, hf⟩ := bnd hf
  refine a_getR dX9_signs_1 flX9_35 rfl eo1_ ?_
  refine a_aload_n dX9_signs_4 rfl 0 rfl ?_
  obtain ⟨v2_, ev2_, hf⟩ := bnd hf
  refine a_getI dX9_signs_5 flX9_115 rfl ev2_ ?_
  refine a_iload_n dX9_signs_8 rfl 1 rfl ?_
  obtain ⟨M3_, eM3_, hf⟩ := bnd hf
  refine a_iast dX9_signs_9 eM3_ ?_
  refine a_aload_n dX9_signs_10 rfl 0 rfl ?_
  obtain ⟨o4_, eo4_, hf⟩ := bnd hf
  refine a_getR dX9_signs_11 flX9_38 rfl eo4_ ?_
  refine a_aload_n dX9_signs_14 rfl 0 rfl ?_
  obtain ⟨v5_, ev5_, hf⟩ := bnd hf
  refine a_getI dX9_signs_15 flX9_115 rfl ev5_ ?_
  refine a_iload_n dX9_signs_18 rfl 2 rfl ?_
  obtain ⟨M6_, eM6_, hf⟩ := bnd hf
  refine a_iast dX9_signs_19 eM6_ ?_
  refine a_aload_n dX9_signs_20 rfl 0 rfl ?_
  obtain ⟨o7_, eo7_, hf⟩ := bnd hf
  refine a_getR dX9_signs_21 flX9_41 rfl eo7_ ?_
  refine a_aload_n dX9_signs_24 rfl 0 rfl ?_
  obtain ⟨v8_, ev8_, hf⟩ := bnd hf
  refine a_getI dX9_signs_25 flX9_115 rfl ev8_ ?_
  refine a_iload_n dX9_signs_28 rfl 3 rfl ?_
  obtain ⟨M9_, eM9_, hf⟩ := bnd hf
  refine a_iast dX9_signs_29 eM9_ ?_
  refine a_aload_n dX9_signs_30 rfl 0 rfl ?_
  obtain ⟨o10_, eo10_, hf⟩ := bnd hf
  refine a_getR dX9_signs_31 flX9_44 rfl eo10_ ?_
  refine a_aload_n dX9_signs_34 rfl 0 rfl ?_
  obtain ⟨v11_, ev11_, hf⟩ := bnd hf
  refine a_getI dX9_signs_35 flX9_115 rfl ev11_ ?_
  refine a_iload dX9_signs_38 4 rfl ?_
  obtain ⟨M12_, eM12_, hf⟩ := bnd hf
  refine a_iast dX9_signs_40 eM12_ ?_
  refine a_aload_n dX9_signs_41 rfl 0 rfl ?_
  refine a_dup dX9_signs_42 rfl ?_
  obtain ⟨v13_, ev13_, hf⟩ := bnd hf
  refine a_getI dX9_signs_43 flX9_115 rfl ev13_ ?_
  refine a_dup_x1 dX9_signs_46 rfl rfl ?_
  refine a_iconst (v := 1) dX9_signs_47 (by decide) ?_
  refine a_iadd dX9_signs_48 ?_
  obtain ⟨M14_, eM14_, hf⟩ := bnd hf
  refine a_putI dX9_signs_49 fpX9_115 rfl (Or.inr nf9_6) eM14_ ?_
  have e9 := Option.some.inj hf
  subst e9
  exact a_iret rfl dX9_signs_52 rfl
theorem kX9_sign {a0 : Nat} {x1 : Int32} {x2 : Int32} {x3 : Int32} {x4 : Int32} {M : Mm} {q : Int32 × Mm} (hf : fX9_sign a0 x1 x2 x3 x4 M = some q) : (mK M a0).1 = 10 := by
  unfold fX9_sign at hf
  obtain ⟨u0, eu0, -⟩ := bnd hf
  exact kc_of eu0
set_option maxHeartbeats 4000000 in
set_option maxRecDepth 100000 in
theorem wX9_sign {l : Launch} {Γ : Gx} {a0 : Nat} {x1 : Int32} {x2 : Int32} {x3 : Int32} {x4 : Int32} {M : Mm} {q : Int32 × Mm} (hf : fX9_sign a0 x1 x2 x3 x4 M = some q) : AM l Γ 2 yX9_sign cX9_sign 5 ((some .int)) [.ref a0, .int x1, .int x2, .int x3, .int x4] M (some (.int q.1)) q.2 := by
  unfold fX9_sign at hf
  refine AM.of mfX9_sign (Nat.le_of_ble_eq_true rfl) ?_
  generalize mT M = t0
  generalize mW M = w0
  show AW _ _ _ _ _ _ _ _ _ 0 [(0, .ref a0), (1, .int x1), (2, .int x2), (3, .int x3), (4, .int x4)] [] _ _ _
  obtain ⟨u0, eu0, hf⟩ := bnd hf
  refine a_iload_n dX9_sign_0 rfl 1 rfl ?_
  refine a_if_lt dX9_sign_1 (tgt := 18) (by decide) (fun c9 => ?_) (fun c9 => ?_)
  · replace hf := iteT hf c9
    refine a_aload_n dX9_sign_18 rfl 0 rfl ?_
    refine a_iconst (v := -1) dX9_sign_19 (by decide) ?_
    obtain ⟨q1_, eq1_, hf⟩ := bnd hf
    refine a_callV (As := [.int ((-1 : Int32))]) (rest := []) dX9_sign_20 mfX9_no cvX9_122 (wX9_no eq1_) rc9 (kX9_no eq1_) (by decide) rfl rfl (Nat.le_of_ble_eq_true rfl) ?_
    have e9 := Option.some.inj hf
    subst e9
    exact a_iret rfl dX9_sign_23 rfl
  · replace hf := iteF hf c9
    refine a_iload_n dX9_sign_4 rfl 1 rfl ?_
    refine a_bipush (v := 6) dX9_sign_5 (by decide) ?_
    refine a_icmp_gt dX9_sign_7 (tgt := 18) (by decide) (fun c9 => ?_) (fun c9 => ?_)
    · replace hf := iteT hf c9
      refine a_aload_n dX9_sign_18 rfl 0 rfl ?_
      refine a_iconst (v := -1) dX9_sign_19 (by decide) ?_
      obtain ⟨q2_, eq2_, hf⟩ := bnd hf
      refine a_callV (As := [.int ((-1 : Int32))]) (rest := []) dX9_sign_20 mfX9_no cvX9_122 (wX9_no eq2_) rc9 (kX9_no eq2_) (by decide) rfl rfl (Nat.le_of_ble_eq_true rfl) ?_
      have e9 := Option.some.inj hf
      subst e9
      exact a_iret rfl dX9_sign_23 rfl
    · replace hf := iteF hf c9
      refine a_aload_n dX9_sign_10 rfl 0 rfl ?_
      refine a_iload_n dX9_sign_11 rfl 2 rfl ?_
      obtain ⟨q3_, eq3_, hf⟩ := bnd hf
      refine a_callV (As := [.int x2]) (rest := []) dX9_sign_12 mfX9_isCell cvX9_151 (wX9_isCell eq3_) rc9 (kX9_isCell eq3_) (by decide) rfl rfl (Nat.le_of_ble_eq_true rfl) ?_
      refine a_if_ne dX9_sign_15 (tgt := 24) (by decide) (fun c9 => ?_) (fun c9 => ?_)
      · replace hf := iteF hf c9
        refine a_iload_n dX9_sign_24 rfl 3 rfl ?_
        refine a_iconst (v := 1) dX9_sign_25 (by decide) ?_
        refine a_icmp_lt dX9_sign_26 (tgt := 48) (by decide) (fun c9 => ?_) (fun c9 => ?_)
        · replace hf := iteT hf c9
          refine a_aload_n dX9_sign_48 rfl 0 rfl ?_
          refine a_bipush (v := -6) dX9_sign_49 (by decide) ?_
          obtain ⟨q4_, eq4_, hf⟩ := bnd hf
          refine a_callV (As := [.int ((-6 : Int32))]) (rest := []) dX9_sign_51 mfX9_no cvX9_122 (wX9_no eq4_) rc9 (kX9_no eq4_) (by decide) rfl rfl (Nat.le_of_ble_eq_true rfl) ?_
          have e9 := Option.some.inj hf
          subst e9
          exact a_iret rfl dX9_sign_54 rfl
        · replace hf := iteF hf c9
          refine a_iload_n dX9_sign_29 rfl 3 rfl ?_
          refine a_bipush (v := 10) dX9_sign_30 (by decide) ?_
          refine a_icmp_gt dX9_sign_32 (tgt := 48) (by decide) (fun c9 => ?_) (fun c9 => ?_)
          · replace hf := iteT hf c9
            refine a_aload_n dX9_sign_48 rfl 0 rfl ?_
            refine a_bipush (v := -6) dX9_sign_49 (by decide) ?_
            obtain ⟨q5_, eq5_, hf⟩ := bnd hf
            refine a_callV (As := [.int ((-6 : Int32))]) (rest := []) dX9_sign_51 mfX9_no cvX9_122 (wX9_no eq5_) rc9 (kX9_no eq5_) (by decide) rfl rfl (Nat.le_of_ble_eq_true rfl) ?_
            have e9 := Option.some.inj hf
            subst e9
            exact a_iret rfl dX9_sign_54 rfl
          · replace hf := iteF hf c9
            refine a_iload dX9_sign_35 4 rfl ?_
            refine a_if_lt dX9_sign_37 (tgt := 48) (by decide) (fun c9 => ?_) (fun c9 => ?_)
            · replace hf := iteT hf c9
              refine a_aload_n dX9_sign_48 rfl 0 rfl ?_
              refine a_bipush (v := -6) dX9_sign_49 (by decide) ?_
              obtain ⟨q6_, eq6_, hf⟩ := bnd hf
              refine a_callV (As := [.int ((-6 : Int32))]) (rest := []) dX9_sign_51 mfX9_no cvX9_122 (wX9_no eq6_) rc9 (kX9_no eq6_) (by decide) rfl rfl (Nat.le_of_ble_eq_true rfl) ?_
              have e9 := Option.some.inj hf
              subst e9
              exact a_iret rfl dX9_sign_54 rfl
            · replace hf := iteF hf c9
              refine a_iload dX9_sign_40 4 rfl ?_
              refine a_sipush (v := 255) dX9_sign_42 (by decide) ?_
              refine a_icmp_le dX9_sign_45 (tgt := 55) (by decide) (fun c9 => ?_) (fun c9 => ?_)
              · replace hf := iteT hf c9
                refine a_aload_n dX9_sign_55 rfl 0 rfl ?_
                obtain ⟨v7_, ev7_, hf⟩ := bnd hf
                refine a_getI dX9_sign_56 flX9_115 rfl ev7_ ?_
                refine a_bipush (v := 8) dX9_sign_59 (by decide) ?_
                refine a_icmp_ne dX9_sign_61 (tgt := 73) (by decide) (fun c9 => ?_) (fun c9 => ?_)
                · replace hf := iteF hf c9
                  refine a_aload_n dX9_sign_73 rfl 0 rfl ?_
                  refine a_iload_n dX9_sign_74 rfl 1 rfl ?_
                  refine a_iload_n dX9_sign_75 rfl 2 rfl ?_
                  refine a_iload_n dX9_sign_76 rfl 3 rfl ?_
                  refine a_iload dX9_sign_77 4 rfl ?_
                  obtain ⟨q8_, eq8_, hf⟩ := bnd hf
                  refine a_callV (As := [.int x1, .int x2, .int x3, .int x4]) (rest := []) dX9_sign_79 mfX9_signs cvX9_154 (wX9_signs eq8_) rc9 (kX9_signs eq8_) (by decide) rfl rfl (Nat.le_of_ble_eq_true rfl) ?_
                  have e9 := Option.some.inj hf
                  subst e9
                  exact a_iret rfl dX9_sign_82 rfl
                · replace hf := iteT hf c9
                  refine a_aload_n dX9_sign_64 rfl 0 rfl ?_
                  refine a_bipush (v := -7) dX9_sign_65 (by decide) ?_
                  obtain ⟨q9_, eq9_, hf⟩ := bnd hf
                  refine a_callV (As := [.int ((-7 : Int32))]) (rest := []) dX9_sign_67 mfX9_no cvX9_122 (wX9_no eq9_) rc9 (kX9_no eq9_) (by decide) rfl rfl (Nat.le_of_ble_eq_true rfl) ?_
                  refine a_goto (tgt := 82) dX9_sign_70 (by decide) ?_
                  have e9 := Option.some.inj hf
                  subst e9
                  exact a_iret rfl dX9_sign_82 rfl
              · replace hf := iteF hf c9
                refine a_aload_n dX9_sign_48 rfl 0 rfl ?_
                refine a_bipush (v := -6) dX9_sign_49 (by decide) ?_
                obtain ⟨q10_, eq10_, hf⟩ := bnd hf
                refine a_callV (As := [.int ((-6 : Int32))]) (rest := []) dX9_sign_51 mfX9_no cvX9_122 (wX9_no eq10_) rc9 (kX9_no eq10_) (by decide) rfl rfl (Nat.le_of_ble_eq_true rfl) ?_
                have e9 := Option.some.inj hf
                subst e9
                exact a_iret rfl dX9_sign_54 rfl
      · replace hf := iteT hf c9
        refine a_aload_n dX9_sign_18 rfl 0 rfl ?_
        refine a_iconst (v := -1) dX9_sign_19 (by decide) ?_
        obtain ⟨q11_, eq11_, hf⟩ := bnd hf
        refine a_callV (As := [.int ((-1 : Int32))]) (rest := []) dX9_sign_20 mfX9_no cvX9_122 (wX9_no eq11_) rc9 (kX9_no eq11_) (by decide) rfl rfl (Nat.le_of_ble_eq_true rfl) ?_
        have e9 := Option.some.inj hf
        subst e9
        exact a_iret rfl dX9_sign_23 rfl
theorem kX9_stands {a0 : Nat} {x1 : Int32} {x2 : Int32} {x3 : Int32} {M : Mm} {q : Int32 × Mm} (hf : fX9_stands a0 x1 x2 x3 M = some q) : (mK M a0).1 = 10 := by
  unfold fX9_stands at hf
  obtain ⟨u0, eu0, -⟩ := bnd hf
  exact kc_of eu0
set_option maxHeartbeats 4000000 in
set_option maxRecDepth 100000 in
theorem wX9_stands {l : Launch} {Γ : Gx} {a0 : Nat} {x1 : Int32} {x2 : Int32} {x3 : Int32} {M : Mm} {q : Int32 × Mm} (hf : fX9_stands a0 x1 x2 x3 M = some q) : AM l Γ 1 yX9_stands cX9_stands 4 ((some .int)) [.ref a0, .int x1, .int x2, .int x3] M (some (.int q.1)) q.2 := by
  unfold fX9_stands at hf
  refine AM.of mfX9_stands (Nat.le_of_ble_eq_true rfl) ?_
  generalize mT M = t0
  generalize mW M = w0
  show AW _ _ _ _ _ _ _ _ _ 0 [(0, .ref a0), (1, .int x1), (2, .int x2), (3, .int x3)] [] _ _ _
  obtain ⟨u0, eu0, hf⟩ := bnd hf
  refine a_aload_n dX9_stands_0 rfl 0 rfl ?_
  obtain ⟨o1_, eo1_, hf⟩ := bnd hf
  refine a_getR dX9_stands_1 flX9_47 rfl eo1_ ?_
  refine a_aload_n dX9_stands_4 rfl 0 rfl ?_
  obtain ⟨v2_, ev2_, hf⟩ := bnd hf
  refine a_getI dX9_stands_5 flX9_143 rfl ev2_ ?_
  refine a_iload_n dX9_stands_8 rfl 1 rfl ?_
  obtain ⟨M3_, eM3_, hf⟩ := bnd hf
  refine a_iast dX9_stands_9 eM3_ ?_
  refine a_aload_n dX9_stands_10 rfl 0 rfl ?_
  obtain ⟨o4_, eo4_, hf⟩ := bnd hf
  refine a_getR dX9_stands_11 flX9_50 rfl eo4_ ?_
  refine a_aload_n dX9_stands_14 rfl 0 rfl ?_
  obtain ⟨v5_, ev5_, hf⟩ := bnd hf
  refine a_getI dX9_stands_15 flX9_143 rfl ev5_ ?_
  refine a_iload_n dX9_stands_18 rfl 2 rfl ?_
  obtain ⟨M6_, eM6_, hf⟩ := bnd hf
  refine a_iast dX9_stands_19 eM6_ ?_
  refine a_aload_n dX9_stands_20 rfl 0 rfl ?_
  obtain ⟨o7_, eo7_, hf⟩ := bnd hf
  refine a_getR dX9_stands_21 flX9_53 rfl eo7_ ?_
  refine a_aload_n dX9_stands_24 rfl 0 rfl ?_
  obtain ⟨v8_, ev8_, hf⟩ := bnd hf
  refine a_getI dX9_stands_25 flX9_143 rfl ev8_ ?_
  refine a_iload_n dX9_stands_28 rfl 3 rfl ?_
  obtain ⟨M9_, eM9_, hf⟩ := bnd hf
  refine a_iast dX9_stands_29 eM9_ ?_
  refine a_aload_n dX9_stands_30 rfl 0 rfl ?_
  refine a_dup dX9_stands_31 rfl ?_
  obtain ⟨v10_, ev10_, hf⟩ := bnd hf
  refine a_getI dX9_stands_32 flX9_143 rfl ev10_ ?_
  refine a_dup_x1 dX9_stands_35 rfl rfl ?_
  refine a_iconst (v := 1) dX9_stands_36 (by decide) ?_
  refine a_iadd dX9_stands_37 ?_
  obtain ⟨M11_, eM11_, hf⟩ := bnd hf
  refine a_putI dX9_stands_38 fpX9_143 rfl (Or.inr nf9_7) eM11_ ?_
  have e9 := Option.some.inj hf
  subst e9
  exact a_iret rfl dX9_stands_41 rfl
theorem kX9_thing {a0 : Nat} {x1 : Int32} {x2 : Int32} {x3 : Int32} {M : Mm} {q : Int32 × Mm} (hf : fX9_thing a0 x1 x2 x3 M = some q) : (mK M a0).1 = 10 := by
  unfold fX9_thing at hf
  obtain ⟨u0, eu0, -⟩ := bnd hf
  exact kc_of eu0
set_option maxHeartbeats 4000000 in
set_option maxRecDepth 100000 in
theorem wX9_thing {l : Launch} {Γ : Gx} {a0 : Nat} {x1 : Int32} {x2 : Int32} {x3 : Int32} {M : Mm} {q : Int32 × Mm} (hf : fX9_thing a0 x1 x2 x3 M = some q) : AM l Γ 2 yX9_thing cX9_thing 4 ((some .int)) [.ref a0, .int x1, .int x2, .int x3] M (some (.int q.1)) q.2 := by
  unfold fX9_thing at hf
  refine AM.of mfX9_thing (Nat.le_of_ble_eq_true rfl) ?_
  generalize mT M = t0
  generalize mW M = w0
  show AW _ _ _ _ _ _ _ _ _ 0 [(0, .ref a0), (1, .int x1), (2, .int x2), (3, .int x3)] [] _ _ _
  obtain ⟨u0, eu0, hf⟩ := bnd hf
  refine a_aload_n dX9_thing_0 rfl 0 rfl ?_
  refine a_iload_n dX9_thing_1 rfl 1 rfl ?_
  obtain ⟨q1_, eq1_, hf⟩ := bnd hf
  refine a_callV (As := [.int x1]) (rest := []) dX9_thing_2 mfX9_isCell cvX9_151 (wX9_isCell eq1_) rc9 (kX9_isCell eq1_) (by decide) rfl rfl (Nat.le_of_ble_eq_true rfl) ?_
  refine a_if_ne dX9_thing_5 (tgt := 14) (by decide) (fun c9 => ?_) (fun c9 => ?_)
  · replace hf := iteF hf c9
    refine a_iload_n dX9_thing_14 rfl 3 rfl ?_
    refine a_iconst (v := 1) dX9_thing_15 (by decide) ?_
    refine a_icmp_lt dX9_thing_16 (tgt := 25) (by decide) (fun c9 => ?_) (fun c9 => ?_)
    · replace hf := iteT hf c9
      refine a_aload_n dX9_thing_25 rfl 0 rfl ?_
      refine a_bipush (v := -6) dX9_thing_26 (by decide) ?_
      obtain ⟨q2_, eq2_, hf⟩ := bnd hf
      refine a_callV (As := [.int ((-6 : Int32))]) (rest := []) dX9_thing_28 mfX9_no cvX9_122 (wX9_no eq2_) rc9 (kX9_no eq2_) (by decide) rfl rfl (Nat.le_of_ble_eq_true rfl) ?_
      have e9 := Option.some.inj hf
      subst e9
      exact a_iret rfl dX9_thing_31 rfl
    · replace hf := iteF hf c9
      refine a_iload_n dX9_thing_19 rfl 3 rfl ?_
      refine a_bipush (v := 10) dX9_thing_20 (by decide) ?_
      refine a_icmp_le dX9_thing_22 (tgt := 32) (by decide) (fun c9 => ?_) (fun c9 => ?_)
      · replace hf := iteT hf c9
        refine a_aload_n dX9_thing_32 rfl 0 rfl ?_
        obtain ⟨v3_, ev3_, hf⟩ := bnd hf
        refine a_getI dX9_thing_33 flX9_143 rfl ev3_ ?_
        refine a_bipush (v := 8) dX9_thing_36 (by decide) ?_
        refine a_icmp_ne dX9_thing_38 (tgt := 50) (by decide) (fun c9 => ?_) (fun c9 => ?_)
        · replace hf := iteF hf c9
          refine a_aload_n dX9_thing_50 rfl 0 rfl ?_
          refine a_iload_n dX9_thing_51 rfl 1 rfl ?_
          refine a_iload_n dX9_thing_52 rfl 2 rfl ?_
          refine a_if_eq dX9_thing_53 (tgt := 60) (by decide) (fun c9 => ?_) (fun c9 => ?_)
          · replace hf := iteT hf c9
            refine a_iconst (v := 0) dX9_thing_60 (by decide) ?_
            refine a_iload_n dX9_thing_61 rfl 3 rfl ?_
            obtain ⟨q4_, eq4_, hf⟩ := bnd hf
            refine a_callV (As := [.int x1, .int ((0 : Int32)), .int x3]) (rest := []) dX9_thing_62 mfX9_stands cvX9_157 (wX9_stands eq4_) rc9 (kX9_stands eq4_) (by decide) rfl rfl (Nat.le_of_ble_eq_true rfl) ?_
            have e9 := Option.some.inj hf
            subst e9
            exact a_iret rfl dX9_thing_65 rfl
          · replace hf := iteF hf c9
            refine a_iconst (v := 1) dX9_thing_56 (by decide) ?_
            refine a_goto (tgt := 61) dX9_thing_57 (by decide) ?_
            refine a_iload_n dX9_thing_61 rfl 3 rfl ?_
            obtain ⟨q5_, eq5_, hf⟩ := bnd hf
            refine a_callV (As := [.int x1, .int ((1 : Int32)), .int x3]) (rest := []) dX9_thing_62 mfX9_stands cvX9_157 (wX9_stands eq5_) rc9 (kX9_stands eq5_) (by decide) rfl rfl (Nat.le_of_ble_eq_true rfl) ?_
            have e9 := Option.some.inj hf
            subst e9
            exact a_iret rfl dX9_thing_65 rfl
        · replace hf := iteT hf c9
          refine a_aload_n dX9_thing_41 rfl 0 rfl ?_
          refine a_bipush (v := -7) dX9_thing_42 (by decide) ?_
          obtain ⟨q6_, eq6_, hf⟩ := bnd hf
          refine a_callV (As := [.int ((-7 : Int32))]) (rest := []) dX9_thing_44 mfX9_no cvX9_122 (wX9_no eq6_) rc9 (kX9_no eq6_) (by decide) rfl rfl (Nat.le_of_ble_eq_true rfl) ?_
          refine a_goto (tgt := 65) dX9_thing_47 (by decide) ?_
          have e9 := Option.some.inj hf
          subst e9
          exact a_iret rfl dX9_thing_65 rfl
      · replace hf := iteF hf c9
        refine a_aload_n dX9_thing_25 rfl 0 rfl ?_
        refine a_bipush (v := -6) dX9_thing_26 (by decide) ?_
        obtain ⟨q7_, eq7_, hf⟩ := bnd hf
        refine a_callV (As := [.int ((-6 : Int32))]) (rest := []) dX9_thing_28 mfX9_no cvX9_122 (wX9_no eq7_) rc9 (kX9_no eq7_) (by decide) rfl rfl (Nat.le_of_ble_eq_true rfl) ?_
        have e9 := Option.some.inj hf
        subst e9
        exact a_iret rfl dX9_thing_31 rfl
  · replace hf := iteT hf c9
    refine a_aload_n dX9_thing_8 rfl 0 rfl ?_
    refine a_iconst (v := -1) dX9_thing_9 (by decide) ?_
    obtain ⟨q8_, eq8_, hf⟩ := bnd hf
    refine a_callV (As := [.int ((-1 : Int32))]) (rest := []) dX9_thing_10 mfX9_no cvX9_122 (wX9_no eq8_) rc9 (kX9_no eq8_) (by decide) rfl rfl (Nat.le_of_ble_eq_true rfl) ?_
    have e9 := Option.some.inj hf
    subst e9
    exact a_iret rfl dX9_thing_13 rfl
theorem kX9_wants {a0 : Nat} {x1 : Int32} {M : Mm} {q : Int32 × Mm} (hf : fX9_wants a0 x1 M = some q) : (mK M a0).1 = 10 := by
  unfold fX9_wants at hf
  obtain ⟨u0, eu0, -⟩ := bnd hf
  exact kc_of eu0
set_option maxHeartbeats 4000000 in
set_option maxRecDepth 100000 in
theorem wX9_wants {l : Launch} {Γ : Gx} {a0 : Nat} {x1 : Int32} {M : Mm} {q : Int32 × Mm} (hf : fX9_wants a0 x1 M = some q) : AM l Γ 2 yX9_wants cX9_wants 2 ((some .int)) [.ref a0, .int x1] M (some (.int q.1)) q.2 := by
  unfold fX9_wants at hf
  refine AM.of mfX9_wants (Nat.le_of_ble_eq_true rfl) ?_
  generalize mT M = t0
  generalize mW M = w0
  show AW _ _ _ _ _ _ _ _ _ 0 [(0, .ref a0), (1, .int x1)] [] _ _ _
  obtain ⟨u0, eu0, hf⟩ := bnd hf
  refine a_aload_n dX9_wants_0 rfl 0 rfl ?_
  refine a_iload_n dX9_wants_1 rfl 1 rfl ?_
  obtain ⟨q1_, eq1_, hf⟩ := bnd hf
  refine a_callV (As := [.int x1]) (rest := []) dX9_wants_2 mfX9_isShelf cvX9_118 (wX9_isShelf eq1_) rc9 (kX9_isShelf eq1_) (by decide) rfl rfl (Nat.le_of_ble_eq_true rfl) ?_
  refine a_if_ne dX9_wants_5 (tgt := 12) (by decide) (fun c9 => ?_) (fun c9 => ?_)
  · replace hf := iteF hf c9
    refine a_aload_n dX9_wants_12 rfl 0 rfl ?_
    obtain ⟨o2_, eo2_, hf⟩ := bnd hf
    refine a_getR dX9_wants_13 flX9_63 rfl eo2_ ?_
    refine a_iload_n dX9_wants_16 rfl 1 rfl ?_
    obtain ⟨v3_, ev3_, hf⟩ := bnd hf
    refine a_iald dX9_wants_17 ev3_ ?_
    refine a_iconst (v := 2) dX9_wants_18 (by decide) ?_
    refine a_icmp_ne dX9_wants_19 (tgt := 27) (by decide) (fun c9 => ?_) (fun c9 => ?_)
    · replace hf := iteF hf c9
      refine a_aload_n dX9_wants_27 rfl 0 rfl ?_
      obtain ⟨o4_, eo4_, hf⟩ := bnd hf
      refine a_getR dX9_wants_28 flX9_63 rfl eo4_ ?_
      refine a_iload_n dX9_wants_31 rfl 1 rfl ?_
      obtain ⟨v5_, ev5_, hf⟩ := bnd hf
      refine a_iald dX9_wants_32 ev5_ ?_
      refine a_if_ne dX9_wants_33 (tgt := 41) (by decide) (fun c9 => ?_) (fun c9 => ?_)
      · replace hf := iteF hf c9
        refine a_iconst (v := 0) dX9_wants_41 (by decide) ?_
        have e9 := Option.some.inj hf
        subst e9
        exact a_iret rfl dX9_wants_42 rfl
      · replace hf := iteT hf c9
        refine a_bipush (v := -3) dX9_wants_36 (by decide) ?_
        refine a_goto (tgt := 42) dX9_wants_38 (by decide) ?_
        have e9 := Option.some.inj hf
        subst e9
        exact a_iret rfl dX9_wants_42 rfl
    · replace hf := iteT hf c9
      refine a_bipush (v := -2) dX9_wants_22 (by decide) ?_
      refine a_goto (tgt := 42) dX9_wants_24 (by decide) ?_
      have e9 := Option.some.inj hf
      subst e9
      exact a_iret rfl dX9_wants_42 rfl
  · replace hf := iteT hf c9
    refine a_iconst (v := -1) dX9_wants_8 (by decide) ?_
    refine a_goto (tgt := 42) dX9_wants_9 (by decide) ?_
    have e9 := Option.some.inj hf
    subst e9
    exact a_iret rfl dX9_wants_42 rfl
theorem kX9_intAt {a0 : Nat} {x1 : Int32} {x2 : Int32} {M : Mm} {q : Int32 × Mm} (hf : fX9_intAt a0 x1 x2 M = some q) : (mK M a0).1 = 10 := by
  unfold fX9_intAt at hf
  obtain ⟨u0, eu0, -⟩ := bnd hf
  exact kc_of eu0
set_option maxHeartbeats 4000000 in
set_option maxRecDepth 100000 in
theorem wX9_intAt {l : Launch} {Γ : Gx} {a0 : Nat} {x1 : Int32} {x2 : Int32} {M : Mm} {q : Int32 × Mm} (hf : fX9_intAt a0 x1 x2 M = some q) : AM l Γ 1 yX9_intAt cX9_intAt 3 ((some .int)) [.ref a0, .int x1, .int x2] M (some (.int q.1)) q.2 := by
  unfold fX9_intAt at hf
  refine AM.of mfX9_intAt (Nat.le_of_ble_eq_true rfl) ?_
  generalize mT M = t0
  generalize mW M = w0
  show AW _ _ _ _ _ _ _ _ _ 0 [(0, .ref a0), (1, .int x1), (2, .int x2)] [] _ _ _
  obtain ⟨u0, eu0, hf⟩ := bnd hf
  refine a_aload_n dX9_intAt_0 rfl 0 rfl ?_
  obtain ⟨o1_, eo1_, hf⟩ := bnd hf
  refine a_getR dX9_intAt_1 flX9_75 rfl eo1_ ?_
  refine a_sipush (v := 160) dX9_intAt_4 (by decide) ?_
  refine a_iload_n dX9_intAt_7 rfl 1 rfl ?_
  refine a_imul dX9_intAt_8 ?_
  refine a_iload_n dX9_intAt_9 rfl 2 rfl ?_
  refine a_iadd dX9_intAt_10 ?_
  obtain ⟨v2_, ev2_, hf⟩ := bnd hf
  refine a_lald dX9_intAt_11 ev2_ ?_
  refine a_l2i dX9_intAt_12 ?_
  have e9 := Option.some.inj hf
  subst e9
  exact a_iret rfl dX9_intAt_13 rfl
theorem kX9_things {a0 : Nat} {x1 : Int32} {x2 : Int32} {x3 : Int32} {M : Mm} {q : Int32 × Mm} (hf : fX9_things a0 x1 x2 x3 M = some q) : (mK M a0).1 = 10 := by
  unfold fX9_things at hf
  obtain ⟨u0, eu0, -⟩ := bnd hf
  exact kc_of eu0
set_option maxHeartbeats 4000000 in
set_option maxRecDepth 100000 in
theorem wX9_things_b154 {l : Launch} {Γ : Gx} {t0 w0 : Nat} {q : Int32 × Mm} (k72 : Nat → Int32 → Int32 → Int32 → Int32 → Int32 → Mm → Option (Int32 × Mm)) (hk72 : ∀ (a0 : Nat) (x1 : Int32) (x2 : Int32) (x3 : Int32) (x5 : Int32) (x6 : Int32) (M : Mm), k72 a0 x1 x2 x3 x5 x6 M = some q → AW l Γ yX9_things cX9_things 9 ((some .int)) 3 t0 w0 72 [(0, .ref a0), (1, .int x1), (2, .int x2), (3, .int x3), (5, .int x5), (6, .int x6)] [] M (some (.int q.1)) q.2) (a0 : Nat) (x1 : Int32) (x2 : Int32) (x3 : Int32) (x5 : Int32) (x6 : Int32) (x8 : Int32) (s0 : Nat) (s1 : Int32) (s2 : Int32) (M : Mm) (hf : fX9_things_b154 k72 a0 x1 x2 x3 x5 x6 x8 s0 s1 s2 M = some q) : AW l Γ yX9_things cX9_things 9 ((some .int)) 3 t0 w0 154 [(0, .ref a0), (1, .int x1), (2, .int x2), (3, .int x3), (5, .int x5), (6, .int x6), (8, .int x8)] [.int s2, .int s1, .ref s0] M (some (.int q.1)) q.2 := by
  unfold fX9_things_b154 at hf
  refine a_iload dX9_things_154 6 rfl ?_
  obtain ⟨q1_, eq1_, hf⟩ := bnd hf
  refine a_callV (As := [.int s1, .int s2, .int x8]) (rest := []) dX9_things_156 mfX9_stands cvX9_157 (wX9_stands eq1_) rc9 (kX9_stands eq1_) (by decide) rfl rfl (Nat.le_of_ble_eq_true rfl) ?_
  refine a_pop dX9_things_159 rfl ?_
  refine a_iinc (v := x5 + (1 : Int32)) (lv1 := [(5, .int (x5 + (1 : Int32))), (0, .ref a0), (1, .int x1), (2, .int x2), (3, .int x3), (6, .int x6), (8, .int x8)]) dX9_things_160 4 rfl rfl (by decide) rfl ?_
  refine a_iinc (v := x6 + (3 : Int32)) (lv1 := [(6, .int (x6 + (3 : Int32))), (5, .int (x5 + (1 : Int32))), (0, .ref a0), (1, .int x1), (2, .int x2), (3, .int x3), (8, .int x8)]) dX9_things_163 5 rfl rfl (by decide) rfl ?_
  refine a_goto (tgt := 72) dX9_things_166 (by decide) ?_
  refine AW.sub (lv1 := [(0, .ref a0), (1, .int x1), (2, .int x2), (3, .int x3), (5, .int (x5 + (1 : Int32))), (6, .int (x6 + (3 : Int32)))]) [2, 3, 4, 5, 1, 0] rfl ?_
  exact hk72 _ _ _ _ _ _ _ hf
set_option maxHeartbeats 4000000 in
set_option maxRecDepth 100000 in
theorem wX9_things_b72 {l : Launch} {Γ : Gx} {t0 w0 : Nat} {q : Int32 × Mm} : ∀ (n : Nat) (a0 : Nat) (x1 : Int32) (x2 : Int32) (x3 : Int32) (x5 : Int32) (x6 : Int32) (M : Mm), fX9_things_b72 n a0 x1 x2 x3 x5 x6 M = some q → AW l Γ yX9_things cX9_things 9 ((some .int)) 3 t0 w0 72 [(0, .ref a0), (1, .int x1), (2, .int x2), (3, .int x3), (5, .int x5), (6, .int x6)] [] M (some (.int q.1)) q.2 := by
  intro n
  induction n with
  | zero =>
    intro a0 x1 x2 x3 x5 x6 M hf
    cases hf
  | succ n ih =>
    intro a0 x1 x2 x3 x5 x6 M hf
    rw [fX9_things_b72.eq_2] at hf
    refine a_iload dX9_things_72 5 rfl ?_
    refine a_iload_n dX9_things_74 rfl 2 rfl ?_
    refine a_iload_n dX9_things_75 rfl 3 rfl ?_
    refine a_iadd dX9_things_76 ?_
    refine a_icmp_ge dX9_things_77 (tgt := 169) (by decide) (fun c9 => ?_) (fun c9 => ?_)
    · replace hf := iteT hf c9
      refine a_iload dX9_things_169 4 rfl ?_
      have e9 := Option.some.inj hf
      subst e9
      exact a_iret rfl dX9_things_171 rfl
    · replace hf := iteF hf c9
      refine a_aload_n dX9_things_80 rfl 0 rfl ?_
      refine a_iload_n dX9_things_81 rfl 1 rfl ?_
      refine a_iload dX9_things_82 5 rfl ?_
      obtain ⟨q1_, eq1_, hf⟩ := bnd hf
      refine a_callV (As := [.int x1, .int x6]) (rest := []) dX9_things_84 mfX9_intAt cvX9_164 (wX9_intAt eq1_) rc9 (kX9_intAt eq1_) (by decide) rfl rfl (Nat.le_of_ble_eq_true rfl) ?_
      refine a_istore (i := 7) (lv1 := [(7, .int q1_.1), (0, .ref a0), (1, .int x1), (2, .int x2), (3, .int x3), (5, .int x5), (6, .int x6)]) dX9_things_87 (by decide) rfl ?_
      refine a_aload_n dX9_things_89 rfl 1 rfl ?_
      refine a_iload_n dX9_things_90 rfl 2 rfl ?_
      refine a_iload dX9_things_91 6 rfl ?_
      refine a_iconst (v := 2) dX9_things_93 (by decide) ?_
      refine a_iadd dX9_things_94 ?_
      obtain ⟨q2_, eq2_, hf⟩ := bnd hf
      refine a_callV (As := [.int x1, .int (x6 + ((2 : Int32)))]) (rest := []) dX9_things_95 mfX9_intAt cvX9_164 (wX9_intAt eq2_) rc9 (kX9_intAt eq2_) (by decide) rfl rfl (Nat.le_of_ble_eq_true rfl) ?_
      refine a_istore (i := 8) (lv1 := [(8, .int q2_.1), (7, .int q1_.1), (0, .ref a0), (1, .int x1), (2, .int x2), (3, .int x3), (5, .int x5), (6, .int x6)]) dX9_things_98 (by decide) rfl ?_
      refine a_aload_n dX9_things_100 rfl 2 rfl ?_
      obtain ⟨v3_, ev3_, hf⟩ := bnd hf
      refine a_getI dX9_things_101 flX9_143 rfl ev3_ ?_
      refine a_bipush (v := 8) dX9_things_104 (by decide) ?_
      refine a_icmp_eq dX9_things_106 (tgt := 131) (by decide) (fun c9 => ?_) (fun c9 => ?_)
      · replace hf := iteT hf c9
        refine a_iload dX9_things_131 6 rfl ?_
        have e9 := Option.some.inj hf
        subst e9
        exact a_iret rfl dX9_things_133 rfl
      · replace hf := iteF hf c9
        refine a_aload_n dX9_things_109 rfl 2 rfl ?_
        refine a_iload dX9_things_110 1 rfl ?_
        obtain ⟨q4_, eq4_, hf⟩ := bnd hf
        refine a_callV (As := [.int q1_.1]) (rest := []) dX9_things_112 mfX9_isCell cvX9_151 (wX9_isCell eq4_) rc9 (kX9_isCell eq4_) (by decide) rfl rfl (Nat.le_of_ble_eq_true rfl) ?_
        refine a_if_eq dX9_things_115 (tgt := 131) (by decide) (fun c9 => ?_) (fun c9 => ?_)
        · replace hf := iteT hf c9
          refine a_iload dX9_things_131 6 rfl ?_
          have e9 := Option.some.inj hf
          subst e9
          exact a_iret rfl dX9_things_133 rfl
        · replace hf := iteF hf c9
          refine a_iload dX9_things_118 0 rfl ?_
          refine a_iconst (v := 1) dX9_things_120 (by decide) ?_
          refine a_icmp_lt dX9_things_121 (tgt := 131) (by decide) (fun c9 => ?_) (fun c9 => ?_)
          · replace hf := iteT hf c9
            refine a_iload dX9_things_131 6 rfl ?_
            have e9 := Option.some.inj hf
            subst e9
            exact a_iret rfl dX9_things_133 rfl
          · replace hf := iteF hf c9
            refine a_iload dX9_things_124 0 rfl ?_
            refine a_bipush (v := 10) dX9_things_126 (by decide) ?_
            refine a_icmp_le dX9_things_128 (tgt := 134) (by decide) (fun c9 => ?_) (fun c9 => ?_)
            · replace hf := iteT hf c9
              refine a_aload_n dX9_things_134 rfl 2 rfl ?_
              refine a_iload dX9_things_135 1 rfl ?_
              refine a_aload_n dX9_things_137 rfl 2 rfl ?_
              refine a_iload_n dX9_things_138 rfl 3 rfl ?_
              refine a_iload dX9_things_139 7 rfl ?_
              refine a_iconst (v := 1) dX9_things_141 (by decide) ?_
              refine a_iadd dX9_things_142 ?_
              obtain ⟨q5_, eq5_, hf⟩ := bnd hf
              refine a_callV (As := [.int x1, .int (x6 + ((1 : Int32)))]) (rest := [.int q1_.1, .ref a0]) dX9_things_143 mfX9_intAt cvX9_164 (wX9_intAt eq5_) rc9 (kX9_intAt eq5_) (by decide) rfl rfl (Nat.le_of_ble_eq_true rfl) ?_
              refine a_if_eq dX9_things_146 (tgt := 153) (by decide) (fun c9 => ?_) (fun c9 => ?_)
              · replace hf := iteT hf c9
                refine a_iconst (v := 0) dX9_things_153 (by decide) ?_
                refine AW.sub (lv1 := [(0, .ref a0), (1, .int x1), (2, .int x2), (3, .int x3), (5, .int x5), (6, .int x6), (8, .int q2_.1)]) [2, 3, 4, 5, 6, 7, 0] rfl ?_
                exact wX9_things_b154 _ ih _ _ _ _ _ _ _ _ _ _ _ hf
              · replace hf := iteF hf c9
                refine a_iconst (v := 1) dX9_things_149 (by decide) ?_
                refine a_goto (tgt := 154) dX9_things_150 (by decide) ?_
                refine AW.sub (lv1 := [(0, .ref a0), (1, .int x1), (2, .int x2), (3, .int x3), (5, .int x5), (6, .int x6), (8, .int q2_.1)]) [2, 3, 4, 5, 6, 7, 0] rfl ?_
                exact wX9_things_b154 _ ih _ _ _ _ _ _ _ _ _ _ _ hf
            · replace hf := iteF hf c9
              refine a_iload dX9_things_131 6 rfl ?_
              have e9 := Option.some.inj hf
              subst e9
              exact a_iret rfl dX9_things_133 rfl
set_option maxHeartbeats 4000000 in
set_option maxRecDepth 100000 in
theorem wX9_things {l : Launch} {Γ : Gx} {a0 : Nat} {x1 : Int32} {x2 : Int32} {x3 : Int32} {M : Mm} {q : Int32 × Mm} (hf : fX9_things a0 x1 x2 x3 M = some q) : AM l Γ 3 yX9_things cX9_things 9 ((some .int)) [.ref a0, .int x1, .int x2, .int x3] M (some (.int q.1)) q.2 := by
  unfold fX9_things at hf
  refine AM.of mfX9_things (Nat.le_of_ble_eq_true rfl) ?_
  generalize mT M = t0
  generalize mW M = w0
  show AW _ _ _ _ _ _ _ _ _ 0 [(0, .ref a0), (1, .int x1), (2, .int x2), (3, .int x3)] [] _ _ _
  obtain ⟨u0, eu0, hf⟩ := bnd hf
  refine a_aload_n dX9_things_0 rfl 0 rfl ?_
  refine a_iload_n dX9_things_1 rfl 1 rfl ?_
  obtain ⟨q1_, eq1_, hf⟩ := bnd hf
  refine a_callV (As := [.int x1]) (rest := []) dX9_things_2 mfX9_wants cvX9_161 (wX9_wants eq1_) rc9 (kX9_wants eq1_) (by decide) rfl rfl (Nat.le_of_ble_eq_true rfl) ?_
  refine a_istore (i := 4) (lv1 := [(4, .int q1_.1), (0, .ref a0), (1, .int x1), (2, .int x2), (3, .int x3)]) dX9_things_5 (by decide) rfl ?_
  refine a_iload dX9_things_7 0 rfl ?_
  refine a_if_eq dX9_things_9 (tgt := 19) (by decide) (fun c9 => ?_) (fun c9 => ?_)
  · replace hf := iteT hf c9
    refine a_iload_n dX9_things_19 rfl 4 rfl ?_
    refine a_if_ge dX9_things_20 (tgt := 30) (by decide) (fun c9 => ?_) (fun c9 => ?_)
    · replace hf := iteT hf c9
      refine a_iload_n dX9_things_30 rfl 3 rfl ?_
      refine a_if_lt dX9_things_31 (tgt := 46) (by decide) (fun c9 => ?_) (fun c9 => ?_)
      · replace hf := iteT hf c9
        refine a_aload_n dX9_things_46 rfl 1 rfl ?_
        refine a_bipush (v := -5) dX9_things_47 (by decide) ?_
        obtain ⟨q2_, eq2_, hf⟩ := bnd hf
        refine a_callV (As := [.int ((-5 : Int32))]) (rest := []) dX9_things_49 mfX9_no cvX9_122 (wX9_no eq2_) rc9 (kX9_no eq2_) (by decide) rfl rfl (Nat.le_of_ble_eq_true rfl) ?_
        have e9 := Option.some.inj hf
        subst e9
        exact a_iret rfl dX9_things_52 rfl
      · replace hf := iteF hf c9
        refine a_iload_n dX9_things_34 rfl 3 rfl ?_
        refine a_aload_n dX9_things_35 rfl 1 rfl ?_
        obtain ⟨o3_, eo3_, hf⟩ := bnd hf
        refine a_getR dX9_things_36 flX9_69 rfl eo3_ ?_
        refine a_iload_n dX9_things_39 rfl 2 rfl ?_
        obtain ⟨v4_, ev4_, hf⟩ := bnd hf
        refine a_iald dX9_things_40 ev4_ ?_
        refine a_iload_n dX9_things_41 rfl 4 rfl ?_
        refine a_isub dX9_things_42 ?_
        refine a_icmp_le dX9_things_43 (tgt := 53) (by decide) (fun c9 => ?_) (fun c9 => ?_)
        · replace hf := iteT hf c9
          refine a_iload_n dX9_things_53 rfl 4 rfl ?_
          refine a_iconst (v := 3) dX9_things_54 (by decide) ?_
          obtain ⟨z5_, ez5_, hf⟩ := bnd hf
          refine a_irem dX9_things_55 ez5_ ?_
          refine a_if_eq dX9_things_56 (tgt := 66) (by decide) (fun c9 => ?_) (fun c9 => ?_)
          · replace hf := iteT hf c9
            refine a_iconst (v := 0) dX9_things_66 (by decide) ?_
            refine a_istore (i := 5) (lv1 := [(5, .int ((0 : Int32))), (4, .int q1_.1), (0, .ref a0), (1, .int x1), (2, .int x2), (3, .int x3)]) dX9_things_67 (by decide) rfl ?_
            refine a_iload_n dX9_things_69 rfl 4 rfl ?_
            refine a_istore (i := 6) (lv1 := [(6, .int x2), (5, .int ((0 : Int32))), (4, .int q1_.1), (0, .ref a0), (1, .int x1), (2, .int x2), (3, .int x3)]) dX9_things_70 (by decide) rfl ?_
            refine AW.sub (lv1 := [(0, .ref a0), (1, .int x1), (2, .int x2), (3, .int x3), (5, .int ((0 : Int32))), (6, .int x2)]) [3, 4, 5, 6, 1, 0] rfl ?_
            exact wX9_things_b72 _ _ _ _ _ _ _ _ hf
          · replace hf := iteF hf c9
            refine a_aload_n dX9_things_59 rfl 1 rfl ?_
            refine a_bipush (v := -6) dX9_things_60 (by decide) ?_
            obtain ⟨q6_, eq6_, hf⟩ := bnd hf
            refine a_callV (As := [.int ((-6 : Int32))]) (rest := []) dX9_things_62 mfX9_no cvX9_122 (wX9_no eq6_) rc9 (kX9_no eq6_) (by decide) rfl rfl (Nat.le_of_ble_eq_true rfl) ?_
            have e9 := Option.some.inj hf
            subst e9
            exact a_iret rfl dX9_things_65 rfl
        · replace hf := iteF hf c9
          refine a_aload_n dX9_things_46 rfl 1 rfl ?_
          refine a_bipush (v := -5) dX9_things_47 (by decide) ?_
          obtain ⟨q7_, eq7_, hf⟩ := bnd hf
          refine a_callV (As := [.int ((-5 : Int32))]) (rest := []) dX9_things_49 mfX9_no cvX9_122 (wX9_no eq7_) rc9 (kX9_no eq7_) (by decide) rfl rfl (Nat.le_of_ble_eq_true rfl) ?_
          have e9 := Option.some.inj hf
          subst e9
          exact a_iret rfl dX9_things_52 rfl
    · replace hf := iteF hf c9
      refine a_aload_n dX9_things_23 rfl 1 rfl ?_
      refine a_bipush (v := -4) dX9_things_24 (by decide) ?_
      obtain ⟨q8_, eq8_, hf⟩ := bnd hf
      refine a_callV (As := [.int ((-4 : Int32))]) (rest := []) dX9_things_26 mfX9_no cvX9_122 (wX9_no eq8_) rc9 (kX9_no eq8_) (by decide) rfl rfl (Nat.le_of_ble_eq_true rfl) ?_
      have e9 := Option.some.inj hf
      subst e9
      exact a_iret rfl dX9_things_29 rfl
  · replace hf := iteF hf c9
    refine a_aload_n dX9_things_12 rfl 1 rfl ?_
    refine a_iload dX9_things_13 0 rfl ?_
    obtain ⟨q9_, eq9_, hf⟩ := bnd hf
    refine a_callV (As := [.int q1_.1]) (rest := []) dX9_things_15 mfX9_no cvX9_122 (wX9_no eq9_) rc9 (kX9_no eq9_) (by decide) rfl rfl (Nat.le_of_ble_eq_true rfl) ?_
    have e9 := Option.some.inj hf
    subst e9
    exact a_iret rfl dX9_things_18 rfl
theorem kX9_wander {a0 : Nat} {x1 : Int32} {x2 : Int32} {M : Mm} {q : Int32 × Mm} (hf : fX9_wander a0 x1 x2 M = some q) : (mK M a0).1 = 10 := by
  unfold fX9_wander at hf
  obtain ⟨u0, eu0, -⟩ := bnd hf
  exact kc_of eu0
set_option maxHeartbeats 4000000 in
set_option maxRecDepth 100000 in
theorem wX9_wander {l : Launch} {Γ : Gx} {a0 : Nat} {x1 : Int32} {x2 : Int32} {M : Mm} {q : Int32 × Mm} (hf : fX9_wander a0 x1 x2 M = some q) : AM l Γ 2 yX9_wander cX9_wander 4 ((some .int)) [.ref a0, .int x1, .int x2] M (some (.int q.1)) q.2 := by
  unfold fX9_wander at hf
  refine AM.of mfX9_wander (Nat.le_of_ble_eq_true rfl) ?_
  generalize mT M = t0
  generalize mW M = w0
  show AW _ _ _ _ _ _ _ _ _ 0 [(0, .ref a0), (1, .int x1), (2, .int x2)] [] _ _ _
  obtain ⟨u0, eu0, hf⟩ := bnd hf
  refine a_iload_n dX9_wander_0 rfl 1 rfl ?_
  refine a_if_lt dX9_wander_1 (tgt := 22) (by decide) (fun c9 => ?_) (fun c9 => ?_)
  · replace hf := iteT hf c9
    refine a_aload_n dX9_wander_22 rfl 0 rfl ?_
    refine a_bipush (v := -6) dX9_wander_23 (by decide) ?_
    obtain ⟨q1_, eq1_, hf⟩ := bnd hf
    refine a_callV (As := [.int ((-6 : Int32))]) (rest := []) dX9_wander_25 mfX9_no cvX9_122 (wX9_no eq1_) rc9 (kX9_no eq1_) (by decide) rfl rfl (Nat.le_of_ble_eq_true rfl) ?_
    have e9 := Option.some.inj hf
    subst e9
    exact a_iret rfl dX9_wander_28 rfl
  · replace hf := iteF hf c9
    refine a_iload_n dX9_wander_4 rfl 2 rfl ?_
    refine a_if_lt dX9_wander_5 (tgt := 22) (by decide) (fun c9 => ?_) (fun c9 => ?_)
    · replace hf := iteT hf c9
      refine a_aload_n dX9_wander_22 rfl 0 rfl ?_
      refine a_bipush (v := -6) dX9_wander_23 (by decide) ?_
      obtain ⟨q2_, eq2_, hf⟩ := bnd hf
      refine a_callV (As := [.int ((-6 : Int32))]) (rest := []) dX9_wander_25 mfX9_no cvX9_122 (wX9_no eq2_) rc9 (kX9_no eq2_) (by decide) rfl rfl (Nat.le_of_ble_eq_true rfl) ?_
      have e9 := Option.some.inj hf
      subst e9
      exact a_iret rfl dX9_wander_28 rfl
    · replace hf := iteF hf c9
      refine a_iload_n dX9_wander_8 rfl 1 rfl ?_
      refine a_bipush (v := 10) dX9_wander_9 (by decide) ?_
      refine a_icmp_gt dX9_wander_11 (tgt := 22) (by decide) (fun c9 => ?_) (fun c9 => ?_)
      · replace hf := iteT hf c9
        refine a_aload_n dX9_wander_22 rfl 0 rfl ?_
        refine a_bipush (v := -6) dX9_wander_23 (by decide) ?_
        obtain ⟨q3_, eq3_, hf⟩ := bnd hf
        refine a_callV (As := [.int ((-6 : Int32))]) (rest := []) dX9_wander_25 mfX9_no cvX9_122 (wX9_no eq3_) rc9 (kX9_no eq3_) (by decide) rfl rfl (Nat.le_of_ble_eq_true rfl) ?_
        have e9 := Option.some.inj hf
        subst e9
        exact a_iret rfl dX9_wander_28 rfl
      · replace hf := iteF hf c9
        refine a_iload_n dX9_wander_14 rfl 2 rfl ?_
        refine a_bipush (v := 10) dX9_wander_15 (by decide) ?_
        refine a_iload_n dX9_wander_17 rfl 1 rfl ?_
        refine a_isub dX9_wander_18 ?_
        refine a_icmp_le dX9_wander_19 (tgt := 29) (by decide) (fun c9 => ?_) (fun c9 => ?_)
        · replace hf := iteT hf c9
          refine a_bipush (v := 100) dX9_wander_29 (by decide) ?_
          refine a_aload_n dX9_wander_31 rfl 0 rfl ?_
          obtain ⟨v4_, ev4_, hf⟩ := bnd hf
          refine a_getI dX9_wander_32 flX9_13 rfl ev4_ ?_
          refine a_imul dX9_wander_35 ?_
          refine a_aload_n dX9_wander_36 rfl 0 rfl ?_
          obtain ⟨v5_, ev5_, hf⟩ := bnd hf
          refine a_getI dX9_wander_37 flX9_16 rfl ev5_ ?_
          refine a_iadd dX9_wander_40 ?_
          refine a_istore_n (i := 3) (lv1 := [(3, .int ((((100 : Int32)) * v4_) + v5_)), (0, .ref a0), (1, .int x1), (2, .int x2)]) dX9_wander_41 rfl (by decide) rfl ?_
          refine a_aload_n dX9_wander_42 rfl 1 rfl ?_
          refine a_iload_n dX9_wander_43 rfl 2 rfl ?_
          obtain ⟨M6_, eM6_, hf⟩ := bnd hf
          refine a_putI dX9_wander_44 fpX9_13 rfl (Or.inr nf9_1) eM6_ ?_
          refine a_aload_n dX9_wander_47 rfl 1 rfl ?_
          refine a_iload_n dX9_wander_48 rfl 3 rfl ?_
          obtain ⟨M7_, eM7_, hf⟩ := bnd hf
          refine a_putI dX9_wander_49 fpX9_16 rfl (Or.inr nf9_2) eM7_ ?_
          refine a_iload_n dX9_wander_52 rfl 0 rfl ?_
          have e9 := Option.some.inj hf
          subst e9
          exact a_iret rfl dX9_wander_53 rfl
        · replace hf := iteF hf c9
          refine a_aload_n dX9_wander_22 rfl 0 rfl ?_
          refine a_bipush (v := -6) dX9_wander_23 (by decide) ?_
          obtain ⟨q8_, eq8_, hf⟩ := bnd hf
          refine a_callV (As := [.int ((-6 : Int32))]) (rest := []) dX9_wander_25 mfX9_no cvX9_122 (wX9_no eq8_) rc9 (kX9_no eq8_) (by decide) rfl rfl (Nat.le_of_ble_eq_true rfl) ?_
          have e9 := Option.some.inj hf
          subst e9
          exact a_iret rfl dX9_wander_28 rfl
theorem kX9_ask {a0 : Nat} {x1 : Int32} {x2 : Int32} {M : Mm} {q : Int32 × Mm} (hf : fX9_ask a0 x1 x2 M = some q) : (mK M a0).1 = 10 := by
  unfold fX9_ask at hf
  obtain ⟨u0, eu0, -⟩ := bnd hf
  exact kc_of eu0
set_option maxHeartbeats 4000000 in
set_option maxRecDepth 100000 in
theorem wX9_ask_b54 {l : Launch} {Γ : Gx} {t0 w0 : Nat} {q : Int32 × Mm} (a0 : Nat) (x1 : Int32) (x2 : Int32) (M : Mm) (hf : fX9_ask_b54 a0 x1 x2 M = some q) : AW l Γ yX9_ask cX9_ask 4 ((some .int)) 2 t0 w0 54 [(0, .ref a0), (1, .int x1), (2, .int x2)] [] M (some (.int q.1)) q.2 := by
  unfold fX9_ask_b54 at hf
  refine a_iload_n dX9_ask_54 rfl 1 rfl ?_
  refine a_iconst (v := 2) dX9_ask_55 (by decide) ?_
  refine a_icmp_ne dX9_ask_56 (tgt := 83) (by decide) (fun c9 => ?_) (fun c9 => ?_)
  · replace hf := iteF hf c9
    refine a_aload_n dX9_ask_83 rfl 0 rfl ?_
    refine a_bipush (v := -6) dX9_ask_84 (by decide) ?_
    obtain ⟨q1_, eq1_, hf⟩ := bnd hf
    refine a_callV (As := [.int ((-6 : Int32))]) (rest := []) dX9_ask_86 mfX9_no cvX9_122 (wX9_no eq1_) rc9 (kX9_no eq1_) (by decide) rfl rfl (Nat.le_of_ble_eq_true rfl) ?_
    have e9 := Option.some.inj hf
    subst e9
    exact a_iret rfl dX9_ask_89 rfl
  · replace hf := iteT hf c9
    refine a_iload_n dX9_ask_59 rfl 2 rfl ?_
    refine a_iconst (v := 1) dX9_ask_60 (by decide) ?_
    refine a_icmp_lt dX9_ask_61 (tgt := 83) (by decide) (fun c9 => ?_) (fun c9 => ?_)
    · replace hf := iteT hf c9
      refine a_aload_n dX9_ask_83 rfl 0 rfl ?_
      refine a_bipush (v := -6) dX9_ask_84 (by decide) ?_
      obtain ⟨q2_, eq2_, hf⟩ := bnd hf
      refine a_callV (As := [.int ((-6 : Int32))]) (rest := []) dX9_ask_86 mfX9_no cvX9_122 (wX9_no eq2_) rc9 (kX9_no eq2_) (by decide) rfl rfl (Nat.le_of_ble_eq_true rfl) ?_
      have e9 := Option.some.inj hf
      subst e9
      exact a_iret rfl dX9_ask_89 rfl
    · replace hf := iteF hf c9
      refine a_iload_n dX9_ask_64 rfl 2 rfl ?_
      refine a_bipush (v := 9) dX9_ask_65 (by decide) ?_
      refine a_icmp_gt dX9_ask_67 (tgt := 83) (by decide) (fun c9 => ?_) (fun c9 => ?_)
      · replace hf := iteT hf c9
        refine a_aload_n dX9_ask_83 rfl 0 rfl ?_
        refine a_bipush (v := -6) dX9_ask_84 (by decide) ?_
        obtain ⟨q3_, eq3_, hf⟩ := bnd hf
        refine a_callV (As := [.int ((-6 : Int32))]) (rest := []) dX9_ask_86 mfX9_no cvX9_122 (wX9_no eq3_) rc9 (kX9_no eq3_) (by decide) rfl rfl (Nat.le_of_ble_eq_true rfl) ?_
        have e9 := Option.some.inj hf
        subst e9
        exact a_iret rfl dX9_ask_89 rfl
      · replace hf := iteF hf c9
        refine a_aload_n dX9_ask_70 rfl 0 rfl ?_
        obtain ⟨v4_, ev4_, hf⟩ := bnd hf
        refine a_getI dX9_ask_71 flX9_19 rfl ev4_ ?_
        refine a_istore_n (i := 3) (lv1 := [(3, .int v4_), (0, .ref a0), (1, .int x1), (2, .int x2)]) dX9_ask_74 rfl (by decide) rfl ?_
        refine a_aload_n dX9_ask_75 rfl 1 rfl ?_
        refine a_iload_n dX9_ask_76 rfl 3 rfl ?_
        obtain ⟨M5_, eM5_, hf⟩ := bnd hf
        refine a_putI dX9_ask_77 fpX9_19 rfl (Or.inr nf9_5) eM5_ ?_
        refine a_goto (tgt := 90) dX9_ask_80 (by decide) ?_
        refine a_iload_n dX9_ask_90 rfl 0 rfl ?_
        have e9 := Option.some.inj hf
        subst e9
        exact a_iret rfl dX9_ask_91 rfl
set_option maxHeartbeats 4000000 in
set_option maxRecDepth 100000 in
theorem wX9_ask_b27 {l : Launch} {Γ : Gx} {t0 w0 : Nat} {q : Int32 × Mm} (a0 : Nat) (x1 : Int32) (x2 : Int32) (M : Mm) (hf : fX9_ask_b27 a0 x1 x2 M = some q) : AW l Γ yX9_ask cX9_ask 4 ((some .int)) 2 t0 w0 27 [(0, .ref a0), (1, .int x1), (2, .int x2)] [] M (some (.int q.1)) q.2 := by
  unfold fX9_ask_b27 at hf
  refine a_iload_n dX9_ask_27 rfl 1 rfl ?_
  refine a_iconst (v := 1) dX9_ask_28 (by decide) ?_
  refine a_icmp_ne dX9_ask_29 (tgt := 54) (by decide) (fun c9 => ?_) (fun c9 => ?_)
  · replace hf := iteF hf c9
    exact wX9_ask_b54 _ _ _ _ hf
  · replace hf := iteT hf c9
    refine a_iload_n dX9_ask_32 rfl 2 rfl ?_
    refine a_if_lt dX9_ask_33 (tgt := 54) (by decide) (fun c9 => ?_) (fun c9 => ?_)
    · replace hf := iteT hf c9
      exact wX9_ask_b54 _ _ _ _ hf
    · replace hf := iteF hf c9
      refine a_iload_n dX9_ask_36 rfl 2 rfl ?_
      refine a_iconst (v := 1) dX9_ask_37 (by decide) ?_
      refine a_icmp_gt dX9_ask_38 (tgt := 54) (by decide) (fun c9 => ?_) (fun c9 => ?_)
      · replace hf := iteT hf c9
        exact wX9_ask_b54 _ _ _ _ hf
      · replace hf := iteF hf c9
        refine a_aload_n dX9_ask_41 rfl 0 rfl ?_
        obtain ⟨v1_, ev1_, hf⟩ := bnd hf
        refine a_getI dX9_ask_42 flX9_170 rfl ev1_ ?_
        refine a_istore_n (i := 3) (lv1 := [(3, .int v1_), (0, .ref a0), (1, .int x1), (2, .int x2)]) dX9_ask_45 rfl (by decide) rfl ?_
        refine a_aload_n dX9_ask_46 rfl 1 rfl ?_
        refine a_iload_n dX9_ask_47 rfl 3 rfl ?_
        obtain ⟨M2_, eM2_, hf⟩ := bnd hf
        refine a_putI dX9_ask_48 fpX9_170 rfl (Or.inr nf9_4) eM2_ ?_
        refine a_goto (tgt := 90) dX9_ask_51 (by decide) ?_
        refine a_iload_n dX9_ask_90 rfl 0 rfl ?_
        have e9 := Option.some.inj hf
        subst e9
        exact a_iret rfl dX9_ask_91 rfl
set_option maxHeartbeats 4000000 in
set_option maxRecDepth 100000 in
theorem wX9_ask {l : Launch} {Γ : Gx} {a0 : Nat} {x1 : Int32} {x2 : Int32} {M : Mm} {q : Int32 × Mm} (hf : fX9_ask a0 x1 x2 M = some q) : AM l Γ 2 yX9_ask cX9_ask 4 ((some .int)) [.ref a0, .int x1, .int x2] M (some (.int q.1)) q.2 := by
  unfold fX9_ask at hf
  refine AM.of mfX9_ask (Nat.le_of_ble_eq_true rfl) ?_
  generalize mT M = t0
  generalize mW M = w0
  show AW _ _ _ _ _ _ _ _ _ 0 [(0, .ref a0), (1, .int x1), (2, .int x2)] [] _ _ _
  obtain ⟨u0, eu0, hf⟩ := bnd hf
  refine a_iload_n dX9_ask_0 rfl 1 rfl ?_
  refine a_if_ne dX9_ask_1 (tgt := 27) (by decide) (fun c9 => ?_) (fun c9 => ?_)
  · replace hf := iteF hf c9
    exact wX9_ask_b27 _ _ _ _ hf
  · replace hf := iteT hf c9
    refine a_iload_n dX9_ask_4 rfl 2 rfl ?_
    refine a_if_lt dX9_ask_5 (tgt := 27) (by decide) (fun c9 => ?_) (fun c9 => ?_)
    · replace hf := iteT hf c9
      exact wX9_ask_b27 _ _ _ _ hf
    · replace hf := iteF hf c9
      refine a_iload_n dX9_ask_8 rfl 2 rfl ?_
      refine a_bipush (v := 7) dX9_ask_9 (by decide) ?_
      refine a_icmp_gt dX9_ask_11 (tgt := 27) (by decide) (fun c9 => ?_) (fun c9 => ?_)
      · replace hf := iteT hf c9
        exact wX9_ask_b27 _ _ _ _ hf
      · replace hf := iteF hf c9
        refine a_aload_n dX9_ask_14 rfl 0 rfl ?_
        obtain ⟨v1_, ev1_, hf⟩ := bnd hf
        refine a_getI dX9_ask_15 flX9_167 rfl ev1_ ?_
        refine a_istore_n (i := 3) (lv1 := [(3, .int v1_), (0, .ref a0), (1, .int x1), (2, .int x2)]) dX9_ask_18 rfl (by decide) rfl ?_
        refine a_aload_n dX9_ask_19 rfl 1 rfl ?_
        refine a_iload_n dX9_ask_20 rfl 3 rfl ?_
        obtain ⟨M2_, eM2_, hf⟩ := bnd hf
        refine a_putI dX9_ask_21 fpX9_167 rfl (Or.inr nf9_3) eM2_ ?_
        refine a_goto (tgt := 90) dX9_ask_24 (by decide) ?_
        refine a_iload_n dX9_ask_90 rfl 0 rfl ?_
        have e9 := Option.some.inj hf
        subst e9
        exact a_iret rfl dX9_ask_91 rfl
theorem kX9_signOf {a0 : Nat} {x1 : Int32} {x2 : Int32} {M : Mm} {q : Int32 × Mm} (hf : fX9_signOf a0 x1 x2 M = some q) : (mK M a0).1 = 10 := by
  unfold fX9_signOf at hf
  obtain ⟨u0, eu0, -⟩ := bnd hf
  exact kc_of eu0
set_option maxHeartbeats 4000000 in
set_option maxRecDepth 100000 in
theorem wX9_signOf {l : Launch} {Γ : Gx} {a0 : Nat} {x1 : Int32} {x2 : Int32} {M : Mm} {q : Int32 × Mm} (hf : fX9_signOf a0 x1 x2 M = some q) : AM l Γ 2 yX9_signOf cX9_signOf 3 ((some .int)) [.ref a0, .int x1, .int x2] M (some (.int q.1)) q.2 := by
  unfold fX9_signOf at hf
  refine AM.of mfX9_signOf (Nat.le_of_ble_eq_true rfl) ?_
  generalize mT M = t0
  generalize mW M = w0
  show AW _ _ _ _ _ _ _ _ _ 0 [(0, .ref a0), (1, .int x1), (2, .int x2)] [] _ _ _
  obtain ⟨u0, eu0, hf⟩ := bnd hf
  refine a_aload_n dX9_signOf_0 rfl 0 rfl ?_
  refine a_iload_n dX9_signOf_1 rfl 1 rfl ?_
  obtain ⟨q1_, eq1_, hf⟩ := bnd hf
  refine a_callV (As := [.int x1]) (rest := []) dX9_signOf_2 mfX9_isSign cvX9_126 (wX9_isSign eq1_) rc9 (kX9_isSign eq1_) (by decide) rfl rfl (Nat.le_of_ble_eq_true rfl) ?_
  refine a_if_eq dX9_signOf_5 (tgt := 17) (by decide) (fun c9 => ?_) (fun c9 => ?_)
  · replace hf := iteT hf c9
    refine a_aload_n dX9_signOf_17 rfl 0 rfl ?_
    refine a_bipush (v := -5) dX9_signOf_18 (by decide) ?_
    obtain ⟨q2_, eq2_, hf⟩ := bnd hf
    refine a_callV (As := [.int ((-5 : Int32))]) (rest := []) dX9_signOf_20 mfX9_no cvX9_122 (wX9_no eq2_) rc9 (kX9_no eq2_) (by decide) rfl rfl (Nat.le_of_ble_eq_true rfl) ?_
    have e9 := Option.some.inj hf
    subst e9
    exact a_iret rfl dX9_signOf_23 rfl
  · replace hf := iteF hf c9
    refine a_iload_n dX9_signOf_8 rfl 2 rfl ?_
    refine a_if_lt dX9_signOf_9 (tgt := 17) (by decide) (fun c9 => ?_) (fun c9 => ?_)
    · replace hf := iteT hf c9
      refine a_aload_n dX9_signOf_17 rfl 0 rfl ?_
      refine a_bipush (v := -5) dX9_signOf_18 (by decide) ?_
      obtain ⟨q3_, eq3_, hf⟩ := bnd hf
      refine a_callV (As := [.int ((-5 : Int32))]) (rest := []) dX9_signOf_20 mfX9_no cvX9_122 (wX9_no eq3_) rc9 (kX9_no eq3_) (by decide) rfl rfl (Nat.le_of_ble_eq_true rfl) ?_
      have e9 := Option.some.inj hf
      subst e9
      exact a_iret rfl dX9_signOf_23 rfl
    · replace hf := iteF hf c9
      refine a_iload_n dX9_signOf_12 rfl 2 rfl ?_
      refine a_iconst (v := 3) dX9_signOf_13 (by decide) ?_
      refine a_icmp_le dX9_signOf_14 (tgt := 24) (by decide) (fun c9 => ?_) (fun c9 => ?_)
      · replace hf := iteT hf c9
        refine a_iload_n dX9_signOf_24 rfl 2 rfl ?_
        refine a_if_ne dX9_signOf_25 (tgt := 37) (by decide) (fun c9 => ?_) (fun c9 => ?_)
        · replace hf := iteF hf c9
          refine a_iload_n dX9_signOf_37 rfl 2 rfl ?_
          refine a_iconst (v := 1) dX9_signOf_38 (by decide) ?_
          refine a_icmp_ne dX9_signOf_39 (tgt := 51) (by decide) (fun c9 => ?_) (fun c9 => ?_)
          · replace hf := iteF hf c9
            refine a_iload_n dX9_signOf_51 rfl 2 rfl ?_
            refine a_iconst (v := 2) dX9_signOf_52 (by decide) ?_
            refine a_icmp_ne dX9_signOf_53 (tgt := 65) (by decide) (fun c9 => ?_) (fun c9 => ?_)
            · replace hf := iteF hf c9
              refine a_aload_n dX9_signOf_65 rfl 0 rfl ?_
              obtain ⟨o4_, eo4_, hf⟩ := bnd hf
              refine a_getR dX9_signOf_66 flX9_44 rfl eo4_ ?_
              refine a_iload_n dX9_signOf_69 rfl 1 rfl ?_
              obtain ⟨v5_, ev5_, hf⟩ := bnd hf
              refine a_iald dX9_signOf_70 ev5_ ?_
              have e9 := Option.some.inj hf
              subst e9
              exact a_iret rfl dX9_signOf_71 rfl
            · replace hf := iteT hf c9
              refine a_aload_n dX9_signOf_56 rfl 0 rfl ?_
              obtain ⟨o6_, eo6_, hf⟩ := bnd hf
              refine a_getR dX9_signOf_57 flX9_41 rfl eo6_ ?_
              refine a_iload_n dX9_signOf_60 rfl 1 rfl ?_
              obtain ⟨v7_, ev7_, hf⟩ := bnd hf
              refine a_iald dX9_signOf_61 ev7_ ?_
              refine a_goto (tgt := 71) dX9_signOf_62 (by decide) ?_
              have e9 := Option.some.inj hf
              subst e9
              exact a_iret rfl dX9_signOf_71 rfl
          · replace hf := iteT hf c9
            refine a_aload_n dX9_signOf_42 rfl 0 rfl ?_
            obtain ⟨o8_, eo8_, hf⟩ := bnd hf
            refine a_getR dX9_signOf_43 flX9_38 rfl eo8_ ?_
            refine a_iload_n dX9_signOf_46 rfl 1 rfl ?_
            obtain ⟨v9_, ev9_, hf⟩ := bnd hf
            refine a_iald dX9_signOf_47 ev9_ ?_
            refine a_goto (tgt := 71) dX9_signOf_48 (by decide) ?_
            have e9 := Option.some.inj hf
            subst e9
            exact a_iret rfl dX9_signOf_71 rfl
        · replace hf := iteT hf c9
          refine a_aload_n dX9_signOf_28 rfl 0 rfl ?_
          obtain ⟨o10_, eo10_, hf⟩ := bnd hf
          refine a_getR dX9_signOf_29 flX9_35 rfl eo10_ ?_
          refine a_iload_n dX9_signOf_32 rfl 1 rfl ?_
          obtain ⟨v11_, ev11_, hf⟩ := bnd hf
          refine a_iald dX9_signOf_33 ev11_ ?_
          refine a_goto (tgt := 71) dX9_signOf_34 (by decide) ?_
          have e9 := Option.some.inj hf
          subst e9
          exact a_iret rfl dX9_signOf_71 rfl
      · replace hf := iteF hf c9
        refine a_aload_n dX9_signOf_17 rfl 0 rfl ?_
        refine a_bipush (v := -5) dX9_signOf_18 (by decide) ?_
        obtain ⟨q12_, eq12_, hf⟩ := bnd hf
        refine a_callV (As := [.int ((-5 : Int32))]) (rest := []) dX9_signOf_20 mfX9_no cvX9_122 (wX9_no eq12_) rc9 (kX9_no eq12_) (by decide) rfl rfl (Nat.le_of_ble_eq_true rfl) ?_
        have e9 := Option.some.inj hf
        subst e9
        exact a_iret rfl dX9_signOf_23 rfl
theorem kX9_thingOf {a0 : Nat} {x1 : Int32} {x2 : Int32} {M : Mm} {q : Int32 × Mm} (hf : fX9_thingOf a0 x1 x2 M = some q) : (mK M a0).1 = 10 := by
  unfold fX9_thingOf at hf
  obtain ⟨u0, eu0, -⟩ := bnd hf
  exact kc_of eu0
set_option maxHeartbeats 4000000 in
set_option maxRecDepth 100000 in
theorem wX9_thingOf {l : Launch} {Γ : Gx} {a0 : Nat} {x1 : Int32} {x2 : Int32} {M : Mm} {q : Int32 × Mm} (hf : fX9_thingOf a0 x1 x2 M = some q) : AM l Γ 2 yX9_thingOf cX9_thingOf 3 ((some .int)) [.ref a0, .int x1, .int x2] M (some (.int q.1)) q.2 := by
  unfold fX9_thingOf at hf
  refine AM.of mfX9_thingOf (Nat.le_of_ble_eq_true rfl) ?_
  generalize mT M = t0
  generalize mW M = w0
  show AW _ _ _ _ _ _ _ _ _ 0 [(0, .ref a0), (1, .int x1), (2, .int x2)] [] _ _ _
  obtain ⟨u0, eu0, hf⟩ := bnd hf
  refine a_iload_n dX9_thingOf_0 rfl 1 rfl ?_
  refine a_if_lt dX9_thingOf_1 (tgt := 21) (by decide) (fun c9 => ?_) (fun c9 => ?_)
  · replace hf := iteT hf c9
    refine a_aload_n dX9_thingOf_21 rfl 0 rfl ?_
    refine a_bipush (v := -5) dX9_thingOf_22 (by decide) ?_
    obtain ⟨q1_, eq1_, hf⟩ := bnd hf
    refine a_callV (As := [.int ((-5 : Int32))]) (rest := []) dX9_thingOf_24 mfX9_no cvX9_122 (wX9_no eq1_) rc9 (kX9_no eq1_) (by decide) rfl rfl (Nat.le_of_ble_eq_true rfl) ?_
    have e9 := Option.some.inj hf
    subst e9
    exact a_iret rfl dX9_thingOf_27 rfl
  · replace hf := iteF hf c9
    refine a_iload_n dX9_thingOf_4 rfl 1 rfl ?_
    refine a_aload_n dX9_thingOf_5 rfl 0 rfl ?_
    obtain ⟨v2_, ev2_, hf⟩ := bnd hf
    refine a_getI dX9_thingOf_6 flX9_143 rfl ev2_ ?_
    refine a_icmp_ge dX9_thingOf_9 (tgt := 21) (by decide) (fun c9 => ?_) (fun c9 => ?_)
    · replace hf := iteT hf c9
      refine a_aload_n dX9_thingOf_21 rfl 0 rfl ?_
      refine a_bipush (v := -5) dX9_thingOf_22 (by decide) ?_
      obtain ⟨q3_, eq3_, hf⟩ := bnd hf
      refine a_callV (As := [.int ((-5 : Int32))]) (rest := []) dX9_thingOf_24 mfX9_no cvX9_122 (wX9_no eq3_) rc9 (kX9_no eq3_) (by decide) rfl rfl (Nat.le_of_ble_eq_true rfl) ?_
      have e9 := Option.some.inj hf
      subst e9
      exact a_iret rfl dX9_thingOf_27 rfl
    · replace hf := iteF hf c9
      refine a_iload_n dX9_thingOf_12 rfl 2 rfl ?_
      refine a_if_lt dX9_thingOf_13 (tgt := 21) (by decide) (fun c9 => ?_) (fun c9 => ?_)
      · replace hf := iteT hf c9
        refine a_aload_n dX9_thingOf_21 rfl 0 rfl ?_
        refine a_bipush (v := -5) dX9_thingOf_22 (by decide) ?_
        obtain ⟨q4_, eq4_, hf⟩ := bnd hf
        refine a_callV (As := [.int ((-5 : Int32))]) (rest := []) dX9_thingOf_24 mfX9_no cvX9_122 (wX9_no eq4_) rc9 (kX9_no eq4_) (by decide) rfl rfl (Nat.le_of_ble_eq_true rfl) ?_
        have e9 := Option.some.inj hf
        subst e9
        exact a_iret rfl dX9_thingOf_27 rfl
      · replace hf := iteF hf c9
        refine a_iload_n dX9_thingOf_16 rfl 2 rfl ?_
        refine a_iconst (v := 2) dX9_thingOf_17 (by decide) ?_
        refine a_icmp_le dX9_thingOf_18 (tgt := 28) (by decide) (fun c9 => ?_) (fun c9 => ?_)
        · replace hf := iteT hf c9
          refine a_iload_n dX9_thingOf_28 rfl 2 rfl ?_
          refine a_if_ne dX9_thingOf_29 (tgt := 41) (by decide) (fun c9 => ?_) (fun c9 => ?_)
          · replace hf := iteF hf c9
            refine a_iload_n dX9_thingOf_41 rfl 2 rfl ?_
            refine a_iconst (v := 1) dX9_thingOf_42 (by decide) ?_
            refine a_icmp_ne dX9_thingOf_43 (tgt := 55) (by decide) (fun c9 => ?_) (fun c9 => ?_)
            · replace hf := iteF hf c9
              refine a_aload_n dX9_thingOf_55 rfl 0 rfl ?_
              obtain ⟨o5_, eo5_, hf⟩ := bnd hf
              refine a_getR dX9_thingOf_56 flX9_53 rfl eo5_ ?_
              refine a_iload_n dX9_thingOf_59 rfl 1 rfl ?_
              obtain ⟨v6_, ev6_, hf⟩ := bnd hf
              refine a_iald dX9_thingOf_60 ev6_ ?_
              have e9 := Option.some.inj hf
              subst e9
              exact a_iret rfl dX9_thingOf_61 rfl
            · replace hf := iteT hf c9
              refine a_aload_n dX9_thingOf_46 rfl 0 rfl ?_
              obtain ⟨o7_, eo7_, hf⟩ := bnd hf
              refine a_getR dX9_thingOf_47 flX9_50 rfl eo7_ ?_
              refine a_iload_n dX9_thingOf_50 rfl 1 rfl ?_
              obtain ⟨v8_, ev8_, hf⟩ := bnd hf
              refine a_iald dX9_thingOf_51 ev8_ ?_
              refine a_goto (tgt := 61) dX9_thingOf_52 (by decide) ?_
              have e9 := Option.some.inj hf
              subst e9
              exact a_iret rfl dX9_thingOf_61 rfl
          · replace hf := iteT hf c9
            refine a_aload_n dX9_thingOf_32 rfl 0 rfl ?_
            obtain ⟨o9_, eo9_, hf⟩ := bnd hf
            refine a_getR dX9_thingOf_33 flX9_47 rfl eo9_ ?_
            refine a_iload_n dX9_thingOf_36 rfl 1 rfl ?_
            obtain ⟨v10_, ev10_, hf⟩ := bnd hf
            refine a_iald dX9_thingOf_37 ev10_ ?_
            refine a_goto (tgt := 61) dX9_thingOf_38 (by decide) ?_
            have e9 := Option.some.inj hf
            subst e9
            exact a_iret rfl dX9_thingOf_61 rfl
        · replace hf := iteF hf c9
          refine a_aload_n dX9_thingOf_21 rfl 0 rfl ?_
          refine a_bipush (v := -5) dX9_thingOf_22 (by decide) ?_
          obtain ⟨q11_, eq11_, hf⟩ := bnd hf
          refine a_callV (As := [.int ((-5 : Int32))]) (rest := []) dX9_thingOf_24 mfX9_no cvX9_122 (wX9_no eq11_) rc9 (kX9_no eq11_) (by decide) rfl rfl (Nat.le_of_ble_eq_true rfl) ?_
          have e9 := Option.some.inj hf
          subst e9
          exact a_iret rfl dX9_thingOf_27 rfl
theorem kX9_clear {a0 : Nat} {x1 : Int32} {M : Mm} {q : Int32 × Mm} (hf : fX9_clear a0 x1 M = some q) : (mK M a0).1 = 10 := by
  unfold fX9_clear at hf
  obtain ⟨u0, eu0, -⟩ := bnd hf
  exact kc_of eu0
set_option maxHeartbeats 4000000 in
set_option maxRecDepth 100000 in
theorem wX9_clear_b30 {l : Launch} {Γ : Gx} {t0 w0 : Nat} {q : Int32 × Mm} : ∀ (n : Nat) (a0 : Nat) (x2 : Int32) (M : Mm), fX9_clear_b30 n a0 x2 M = some q → AW l Γ yX9_clear cX9_clear 3 ((some .int)) 2 t0 w0 30 [(0, .ref a0), (2, .int x2)] [] M (some (.int q.1)) q.2 := by
  intro n
  induction n with
  | zero =>
    intro a0 x2 M hf
    cases hf
  | succ n ih =>
    intro a0 x2 M hf
    rw [fX9_clear_b30.eq_2] at hf
    refine a_iload_n dX9_clear_30 rfl 1 rfl ?_
    refine a_aload_n dX9_clear_31 rfl 0 rfl ?_
    obtain ⟨v1_, ev1_, hf⟩ := bnd hf
    refine a_getI dX9_clear_32 flX9_143 rfl ev1_ ?_
    refine a_icmp_ge dX9_clear_35 (tgt := 86) (by decide) (fun c9 => ?_) (fun c9 => ?_)
    · replace hf := iteT hf c9
      refine a_aload_n dX9_clear_86 rfl 0 rfl ?_
      obtain ⟨v2_, ev2_, hf⟩ := bnd hf
      refine a_getI dX9_clear_87 flX9_143 rfl ev2_ ?_
      have e9 := Option.some.inj hf
      subst e9
      exact a_iret rfl dX9_clear_90 rfl
    · replace hf := iteF hf c9
      refine a_aload_n dX9_clear_38 rfl 0 rfl ?_
      obtain ⟨o3_, eo3_, hf⟩ := bnd hf
      refine a_getR dX9_clear_39 flX9_47 rfl eo3_ ?_
      refine a_iload_n dX9_clear_42 rfl 1 rfl ?_
      refine a_aload_n dX9_clear_43 rfl 0 rfl ?_
      obtain ⟨o4_, eo4_, hf⟩ := bnd hf
      refine a_getR dX9_clear_44 flX9_47 rfl eo4_ ?_
      refine a_iload_n dX9_clear_47 rfl 1 rfl ?_
      refine a_iconst (v := 1) dX9_clear_48 (by decide) ?_
      refine a_iadd dX9_clear_49 ?_
      obtain ⟨v5_, ev5_, hf⟩ := bnd hf
      refine a_iald dX9_clear_50 ev5_ ?_
      obtain ⟨M6_, eM6_, hf⟩ := bnd hf
      refine a_iast dX9_clear_51 eM6_ ?_
      refine a_aload_n dX9_clear_52 rfl 0 rfl ?_
      obtain ⟨o7_, eo7_, hf⟩ := bnd hf
      refine a_getR dX9_clear_53 flX9_50 rfl eo7_ ?_
      refine a_iload_n dX9_clear_56 rfl 1 rfl ?_
      refine a_aload_n dX9_clear_57 rfl 0 rfl ?_
      obtain ⟨o8_, eo8_, hf⟩ := bnd hf
      refine a_getR dX9_clear_58 flX9_50 rfl eo8_ ?_
      refine a_iload_n dX9_clear_61 rfl 1 rfl ?_
      refine a_iconst (v := 1) dX9_clear_62 (by decide) ?_
      refine a_iadd dX9_clear_63 ?_
      obtain ⟨v9_, ev9_, hf⟩ := bnd hf
      refine a_iald dX9_clear_64 ev9_ ?_
      obtain ⟨M10_, eM10_, hf⟩ := bnd hf
      refine a_iast dX9_clear_65 eM10_ ?_
      refine a_aload_n dX9_clear_66 rfl 0 rfl ?_
      obtain ⟨o11_, eo11_, hf⟩ := bnd hf
      refine a_getR dX9_clear_67 flX9_53 rfl eo11_ ?_
      refine a_iload_n dX9_clear_70 rfl 1 rfl ?_
      refine a_aload_n dX9_clear_71 rfl 0 rfl ?_
      obtain ⟨o12_, eo12_, hf⟩ := bnd hf
      refine a_getR dX9_clear_72 flX9_53 rfl eo12_ ?_
      refine a_iload_n dX9_clear_75 rfl 1 rfl ?_
      refine a_iconst (v := 1) dX9_clear_76 (by decide) ?_
      refine a_iadd dX9_clear_77 ?_
      obtain ⟨v13_, ev13_, hf⟩ := bnd hf
      refine a_iald dX9_clear_78 ev13_ ?_
      obtain ⟨M14_, eM14_, hf⟩ := bnd hf
      refine a_iast dX9_clear_79 eM14_ ?_
      refine a_iinc (v := x2 + (1 : Int32)) (lv1 := [(2, .int (x2 + (1 : Int32))), (0, .ref a0)]) dX9_clear_80 1 rfl rfl (by decide) rfl ?_
      refine a_goto (tgt := 30) dX9_clear_83 (by decide) ?_
      refine AW.sub (lv1 := [(0, .ref a0), (2, .int (x2 + (1 : Int32)))]) [1, 0] rfl ?_
      exact ih _ _ _ hf
set_option maxHeartbeats 4000000 in
set_option maxRecDepth 100000 in
theorem wX9_clear {l : Launch} {Γ : Gx} {a0 : Nat} {x1 : Int32} {M : Mm} {q : Int32 × Mm} (hf : fX9_clear a0 x1 M = some q) : AM l Γ 2 yX9_clear cX9_clear 3 ((some .int)) [.ref a0, .int x1] M (some (.int q.1)) q.2 := by
  unfold fX9_clear at hf
  refine AM.of mfX9_clear (Nat.le_of_ble_eq_true rfl) ?_
  generalize mT M = t0
  generalize mW M = w0
  show AW _ _ _ _ _ _ _ _ _ 0 [(0, .ref a0), (1, .int x1)] [] _ _ _
  obtain ⟨u0, eu0, hf⟩ := bnd hf
  refine a_iload_n dX9_clear_0 rfl 1 rfl ?_
  refine a_if_lt dX9_clear_1 (tgt := 12) (by decide) (fun c9 => ?_) (fun c9 => ?_)
  · replace hf := iteT hf c9
    refine a_aload_n dX9_clear_12 rfl 0 rfl ?_
    refine a_iconst (v := -1) dX9_clear_13 (by decide) ?_
    obtain ⟨q1_, eq1_, hf⟩ := bnd hf
    refine a_callV (As := [.int ((-1 : Int32))]) (rest := []) dX9_clear_14 mfX9_no cvX9_122 (wX9_no eq1_) rc9 (kX9_no eq1_) (by decide) rfl rfl (Nat.le_of_ble_eq_true rfl) ?_
    have e9 := Option.some.inj hf
    subst e9
    exact a_iret rfl dX9_clear_17 rfl
  · replace hf := iteF hf c9
    refine a_iload_n dX9_clear_4 rfl 1 rfl ?_
    refine a_aload_n dX9_clear_5 rfl 0 rfl ?_
    obtain ⟨v2_, ev2_, hf⟩ := bnd hf
    refine a_getI dX9_clear_6 flX9_143 rfl ev2_ ?_
    refine a_icmp_lt dX9_clear_9 (tgt := 18) (by decide) (fun c9 => ?_) (fun c9 => ?_)
    · replace hf := iteT hf c9
      refine a_aload_n dX9_clear_18 rfl 0 rfl ?_
      refine a_dup dX9_clear_19 rfl ?_
      obtain ⟨v3_, ev3_, hf⟩ := bnd hf
      refine a_getI dX9_clear_20 flX9_143 rfl ev3_ ?_
      refine a_iconst (v := 1) dX9_clear_23 (by decide) ?_
      refine a_isub dX9_clear_24 ?_
      obtain ⟨M4_, eM4_, hf⟩ := bnd hf
      refine a_putI dX9_clear_25 fpX9_143 rfl (Or.inr nf9_7) eM4_ ?_
      refine a_iload_n dX9_clear_28 rfl 1 rfl ?_
      refine a_istore_n (i := 2) (lv1 := [(2, .int x1), (0, .ref a0), (1, .int x1)]) dX9_clear_29 rfl (by decide) rfl ?_
      refine AW.sub (lv1 := [(0, .ref a0), (2, .int x1)]) [1, 0] rfl ?_
      exact wX9_clear_b30 _ _ _ _ hf
    · replace hf := iteF hf c9
      refine a_aload_n dX9_clear_12 rfl 0 rfl ?_
      refine a_iconst (v := -1) dX9_clear_13 (by decide) ?_
      obtain ⟨q5_, eq5_, hf⟩ := bnd hf
      refine a_callV (As := [.int ((-1 : Int32))]) (rest := []) dX9_clear_14 mfX9_no cvX9_122 (wX9_no eq5_) rc9 (kX9_no eq5_) (by decide) rfl rfl (Nat.le_of_ble_eq_true rfl) ?_
      have e9 := Option.some.inj hf
      subst e9
      exact a_iret rfl dX9_clear_17 rfl
theorem kX9_keeps {a0 : Nat} {a1 : Nat} {x2 : Int32} {a3 : Nat} {x4 : Int32} {x5 : Int32} {M : Mm} {q : Int32 × Mm} (hf : fX9_keeps a0 a1 x2 a3 x4 x5 M = some q) : (mK M a0).1 = 10 := by
  unfold fX9_keeps at hf
  obtain ⟨u0, eu0, -⟩ := bnd hf
  exact kc_of eu0
set_option maxHeartbeats 4000000 in
set_option maxRecDepth 100000 in
theorem wX9_keeps_b3 {l : Launch} {Γ : Gx} {t0 w0 : Nat} {q : Int32 × Mm} : ∀ (n : Nat) (a1 : Nat) (x2 : Int32) (a3 : Nat) (x4 : Int32) (x5 : Int32) (x6 : Int32) (M : Mm), fX9_keeps_b3 n a1 x2 a3 x4 x5 x6 M = some q → AW l Γ yX9_keeps cX9_keeps 7 ((some .int)) 1 t0 w0 3 [(1, .ref a1), (2, .int x2), (3, .ref a3), (4, .int x4), (5, .int x5), (6, .int x6)] [] M (some (.int q.1)) q.2 := by
  intro n
  induction n with
  | zero =>
    intro a1 x2 a3 x4 x5 x6 M hf
    cases hf
  | succ n ih =>
    intro a1 x2 a3 x4 x5 x6 M hf
    rw [fX9_keeps_b3.eq_2] at hf
    refine a_iload dX9_keeps_3 5 rfl ?_
    refine a_iload_n dX9_keeps_5 rfl 1 rfl ?_
    refine a_icmp_ge dX9_keeps_6 (tgt := 45) (by decide) (fun c9 => ?_) (fun c9 => ?_)
    · replace hf := iteT hf c9
      refine a_iload dX9_keeps_45 3 rfl ?_
      refine a_iload_n dX9_keeps_47 rfl 1 rfl ?_
      refine a_iadd dX9_keeps_48 ?_
      have e9 := Option.some.inj hf
      subst e9
      exact a_iret rfl dX9_keeps_49 rfl
    · replace hf := iteF hf c9
      refine a_iload dX9_keeps_9 4 rfl ?_
      refine a_if_eq dX9_keeps_11 (tgt := 28) (by decide) (fun c9 => ?_) (fun c9 => ?_)
      · replace hf := iteT hf c9
        refine a_aload_n dX9_keeps_28 rfl 2 rfl ?_
        refine a_iload dX9_keeps_29 3 rfl ?_
        refine a_iload dX9_keeps_31 5 rfl ?_
        refine a_iadd dX9_keeps_33 ?_
        refine a_aload_n dX9_keeps_34 rfl 0 rfl ?_
        refine a_iload dX9_keeps_35 5 rfl ?_
        obtain ⟨v1_, ev1_, hf⟩ := bnd hf
        refine a_iald dX9_keeps_37 ev1_ ?_
        obtain ⟨M2_, eM2_, hf⟩ := bnd hf
        refine a_iast dX9_keeps_38 eM2_ ?_
        refine a_iinc (v := x6 + (1 : Int32)) (lv1 := [(6, .int (x6 + (1 : Int32))), (1, .ref a1), (2, .int x2), (3, .ref a3), (4, .int x4), (5, .int x5)]) dX9_keeps_39 5 rfl rfl (by decide) rfl ?_
        refine a_goto (tgt := 3) dX9_keeps_42 (by decide) ?_
        refine AW.sub (lv1 := [(1, .ref a1), (2, .int x2), (3, .ref a3), (4, .int x4), (5, .int x5), (6, .int (x6 + (1 : Int32)))]) [1, 2, 3, 4, 5, 0] rfl ?_
        exact ih _ _ _ _ _ _ _ hf
      · replace hf := iteF hf c9
        refine a_aload_n dX9_keeps_14 rfl 0 rfl ?_
        refine a_iload dX9_keeps_15 5 rfl ?_
        refine a_aload_n dX9_keeps_17 rfl 2 rfl ?_
        refine a_iload dX9_keeps_18 3 rfl ?_
        refine a_iload dX9_keeps_20 5 rfl ?_
        refine a_iadd dX9_keeps_22 ?_
        obtain ⟨v3_, ev3_, hf⟩ := bnd hf
        refine a_iald dX9_keeps_23 ev3_ ?_
        obtain ⟨M4_, eM4_, hf⟩ := bnd hf
        refine a_iast dX9_keeps_24 eM4_ ?_
        refine a_goto (tgt := 39) dX9_keeps_25 (by decide) ?_
        refine a_iinc (v := x6 + (1 : Int32)) (lv1 := [(6, .int (x6 + (1 : Int32))), (1, .ref a1), (2, .int x2), (3, .ref a3), (4, .int x4), (5, .int x5)]) dX9_keeps_39 5 rfl rfl (by decide) rfl ?_
        refine a_goto (tgt := 3) dX9_keeps_42 (by decide) ?_
        refine AW.sub (lv1 := [(1, .ref a1), (2, .int x2), (3, .ref a3), (4, .int x4), (5, .int x5), (6, .int (x6 + (1 : Int32)))]) [1, 2, 3, 4, 5, 0] rfl ?_
        exact ih _ _ _ _ _ _ _ hf
set_option maxHeartbeats 4000000 in
set_option maxRecDepth 100000 in
theorem wX9_keeps {l : Launch} {Γ : Gx} {a0 : Nat} {a1 : Nat} {x2 : Int32} {a3 : Nat} {x4 : Int32} {x5 : Int32} {M : Mm} {q : Int32 × Mm} (hf : fX9_keeps a0 a1 x2 a3 x4 x5 M = some q) : AM l Γ 1 yX9_keeps cX9_keeps 7 ((some .int)) [.ref a0, .ref a1, .int x2, .ref a3, .int x4, .int x5] M (some (.int q.1)) q.2 := by
  unfold fX9_keeps at hf
  refine AM.of mfX9_keeps (Nat.le_of_ble_eq_true rfl) ?_
  generalize mT M = t0
  generalize mW M = w0
  show AW _ _ _ _ _ _ _ _ _ 0 [(0, .ref a0), (1, .ref a1), (2, .int x2), (3, .ref a3), (4, .int x4), (5, .int x5)] [] _ _ _
  obtain ⟨u0, eu0, hf⟩ := bnd hf
  refine a_iconst (v := 0) dX9_keeps_0 (by decide) ?_
  refine a_istore (i := 6) (lv1 := [(6, .int ((0 : Int32))), (0, .ref a0), (1, .ref a1), (2, .int x2), (3, .ref a3), (4, .int x4), (5, .int x5)]) dX9_keeps_1 (by decide) rfl ?_
  refine AW.sub (lv1 := [(1, .ref a1), (2, .int x2), (3, .ref a3), (4, .int x4), (5, .int x5), (6, .int ((0 : Int32)))]) [2, 3, 4, 5, 6, 0] rfl ?_
  exact wX9_keeps_b3 _ _ _ _ _ _ _ _ hf
theorem kX9_all {a0 : Nat} {a1 : Nat} {a2 : Nat} {x3 : Int32} {M : Mm} {q : Mm} (hf : fX9_all a0 a1 a2 x3 M = some q) : (mK M a0).1 = 10 := by
  unfold fX9_all at hf
  obtain ⟨u0, eu0, -⟩ := bnd hf
  exact kc_of eu0
set_option maxHeartbeats 4000000 in
set_option maxRecDepth 100000 in
theorem wX9_all_b114 {l : Launch} {Γ : Gx} {t0 w0 : Nat} {q : Mm} : ∀ (n : Nat) (a0 : Nat) (a1 : Nat) (a2 : Nat) (x3 : Int32) (x4 : Int32) (x5 : Int32) (M : Mm), fX9_all_b114 n a0 a1 a2 x3 x4 x5 M = some q → AW l Γ yX9_all cX9_all 6 (none) 2 t0 w0 114 [(0, .ref a0), (1, .ref a1), (2, .ref a2), (3, .int x3), (4, .int x4), (5, .int x5)] [] M none q := by
  intro n
  induction n with
  | zero =>
    intro a0 a1 a2 x3 x4 x5 M hf
    cases hf
  | succ n ih =>
    intro a0 a1 a2 x3 x4 x5 M hf
    rw [fX9_all_b114.eq_2] at hf
    refine a_iload dX9_all_114 5 rfl ?_
    refine a_bipush (v := 24) dX9_all_116 (by decide) ?_
    refine a_icmp_ge dX9_all_118 (tgt := 156) (by decide) (fun c9 => ?_) (fun c9 => ?_)
    · replace hf := iteT hf c9
      refine a_iload_n dX9_all_156 rfl 3 rfl ?_
      refine a_if_eq dX9_all_157 (tgt := 287) (by decide) (fun c9 => ?_) (fun c9 => ?_)
      · replace hf := iteT hf c9
        refine a_aload_n dX9_all_287 rfl 1 rfl ?_
        refine a_iload dX9_all_288 4 rfl ?_
        refine a_aload_n dX9_all_290 rfl 0 rfl ?_
        obtain ⟨v1_, ev1_, hf⟩ := bnd hf
        refine a_getI dX9_all_291 flX9_7 rfl ev1_ ?_
        obtain ⟨M2_, eM2_, hf⟩ := bnd hf
        refine a_iast dX9_all_294 eM2_ ?_
        refine a_aload_n dX9_all_295 rfl 1 rfl ?_
        refine a_iload dX9_all_296 4 rfl ?_
        refine a_iconst (v := 1) dX9_all_298 (by decide) ?_
        refine a_iadd dX9_all_299 ?_
        refine a_aload_n dX9_all_300 rfl 0 rfl ?_
        obtain ⟨v3_, ev3_, hf⟩ := bnd hf
        refine a_getI dX9_all_301 flX9_13 rfl ev3_ ?_
        obtain ⟨M4_, eM4_, hf⟩ := bnd hf
        refine a_iast dX9_all_304 eM4_ ?_
        refine a_aload_n dX9_all_305 rfl 1 rfl ?_
        refine a_iload dX9_all_306 4 rfl ?_
        refine a_iconst (v := 2) dX9_all_308 (by decide) ?_
        refine a_iadd dX9_all_309 ?_
        refine a_aload_n dX9_all_310 rfl 0 rfl ?_
        obtain ⟨v5_, ev5_, hf⟩ := bnd hf
        refine a_getI dX9_all_311 flX9_16 rfl ev5_ ?_
        obtain ⟨M6_, eM6_, hf⟩ := bnd hf
        refine a_iast dX9_all_314 eM6_ ?_
        refine a_aload_n dX9_all_315 rfl 1 rfl ?_
        refine a_iload dX9_all_316 4 rfl ?_
        refine a_iconst (v := 3) dX9_all_318 (by decide) ?_
        refine a_iadd dX9_all_319 ?_
        refine a_aload_n dX9_all_320 rfl 0 rfl ?_
        obtain ⟨v7_, ev7_, hf⟩ := bnd hf
        refine a_getI dX9_all_321 flX9_167 rfl ev7_ ?_
        obtain ⟨M8_, eM8_, hf⟩ := bnd hf
        refine a_iast dX9_all_324 eM8_ ?_
        refine a_aload_n dX9_all_325 rfl 1 rfl ?_
        refine a_iload dX9_all_326 4 rfl ?_
        refine a_iconst (v := 4) dX9_all_328 (by decide) ?_
        refine a_iadd dX9_all_329 ?_
        refine a_aload_n dX9_all_330 rfl 0 rfl ?_
        obtain ⟨v9_, ev9_, hf⟩ := bnd hf
        refine a_getI dX9_all_331 flX9_170 rfl ev9_ ?_
        obtain ⟨M10_, eM10_, hf⟩ := bnd hf
        refine a_iast dX9_all_334 eM10_ ?_
        refine a_aload_n dX9_all_335 rfl 1 rfl ?_
        refine a_iload dX9_all_336 4 rfl ?_
        refine a_iconst (v := 5) dX9_all_338 (by decide) ?_
        refine a_iadd dX9_all_339 ?_
        refine a_aload_n dX9_all_340 rfl 0 rfl ?_
        obtain ⟨v11_, ev11_, hf⟩ := bnd hf
        refine a_getI dX9_all_341 flX9_19 rfl ev11_ ?_
        obtain ⟨M12_, eM12_, hf⟩ := bnd hf
        refine a_iast dX9_all_344 eM12_ ?_
        refine a_aload_n dX9_all_345 rfl 1 rfl ?_
        refine a_iload dX9_all_346 4 rfl ?_
        refine a_bipush (v := 6) dX9_all_348 (by decide) ?_
        refine a_iadd dX9_all_350 ?_
        refine a_aload_n dX9_all_351 rfl 0 rfl ?_
        obtain ⟨v13_, ev13_, hf⟩ := bnd hf
        refine a_getI dX9_all_352 flX9_115 rfl ev13_ ?_
        obtain ⟨M14_, eM14_, hf⟩ := bnd hf
        refine a_iast dX9_all_355 eM14_ ?_
        refine a_aload_n dX9_all_356 rfl 1 rfl ?_
        refine a_iload dX9_all_357 4 rfl ?_
        refine a_bipush (v := 7) dX9_all_359 (by decide) ?_
        refine a_iadd dX9_all_361 ?_
        refine a_aload_n dX9_all_362 rfl 0 rfl ?_
        obtain ⟨v15_, ev15_, hf⟩ := bnd hf
        refine a_getI dX9_all_363 flX9_143 rfl ev15_ ?_
        obtain ⟨M16_, eM16_, hf⟩ := bnd hf
        refine a_iast dX9_all_366 eM16_ ?_
        refine a_aload_n dX9_all_367 rfl 1 rfl ?_
        refine a_iload dX9_all_368 4 rfl ?_
        refine a_bipush (v := 8) dX9_all_370 (by decide) ?_
        refine a_iadd dX9_all_372 ?_
        refine a_aload_n dX9_all_373 rfl 0 rfl ?_
        obtain ⟨v17_, ev17_, hf⟩ := bnd hf
        refine a_getI dX9_all_374 flX9_136 rfl ev17_ ?_
        obtain ⟨M18_, eM18_, hf⟩ := bnd hf
        refine a_iast dX9_all_377 eM18_ ?_
        refine a_aload_n dX9_all_378 rfl 1 rfl ?_
        refine a_iload dX9_all_379 4 rfl ?_
        refine a_bipush (v := 9) dX9_all_381 (by decide) ?_
        refine a_iadd dX9_all_383 ?_
        refine a_aload_n dX9_all_384 rfl 0 rfl ?_
        obtain ⟨v19_, ev19_, hf⟩ := bnd hf
        refine a_getI dX9_all_385 flX9_129 rfl ev19_ ?_
        obtain ⟨M20_, eM20_, hf⟩ := bnd hf
        refine a_iast dX9_all_388 eM20_ ?_
        refine a_aload_n dX9_all_389 rfl 1 rfl ?_
        refine a_iload dX9_all_390 4 rfl ?_
        refine a_bipush (v := 10) dX9_all_392 (by decide) ?_
        refine a_iadd dX9_all_394 ?_
        refine a_aload_n dX9_all_395 rfl 0 rfl ?_
        obtain ⟨v21_, ev21_, hf⟩ := bnd hf
        refine a_getI dX9_all_396 flX9_22 rfl ev21_ ?_
        obtain ⟨M22_, eM22_, hf⟩ := bnd hf
        refine a_iast dX9_all_399 eM22_ ?_
        refine a_aload_n dX9_all_400 rfl 1 rfl ?_
        refine a_iload dX9_all_401 4 rfl ?_
        refine a_bipush (v := 11) dX9_all_403 (by decide) ?_
        refine a_iadd dX9_all_405 ?_
        refine a_aload_n dX9_all_406 rfl 0 rfl ?_
        obtain ⟨v23_, ev23_, hf⟩ := bnd hf
        refine a_getI dX9_all_407 flX9_25 rfl ev23_ ?_
        obtain ⟨M24_, eM24_, hf⟩ := bnd hf
        refine a_iast dX9_all_410 eM24_ ?_
        have e9 := Option.some.inj hf
        subst e9
        exact a_vret rfl dX9_all_411 rfl
      · replace hf := iteF hf c9
        refine a_aload_n dX9_all_160 rfl 0 rfl ?_
        refine a_aload_n dX9_all_161 rfl 1 rfl ?_
        refine a_iload dX9_all_162 4 rfl ?_
        obtain ⟨v25_, ev25_, hf⟩ := bnd hf
        refine a_iald dX9_all_164 ev25_ ?_
        obtain ⟨M26_, eM26_, hf⟩ := bnd hf
        refine a_putI dX9_all_165 fpX9_7 rfl (Or.inr nf9_0) eM26_ ?_
        refine a_aload_n dX9_all_168 rfl 0 rfl ?_
        refine a_aload_n dX9_all_169 rfl 1 rfl ?_
        refine a_iload dX9_all_170 4 rfl ?_
        refine a_iconst (v := 1) dX9_all_172 (by decide) ?_
        refine a_iadd dX9_all_173 ?_
        obtain ⟨v27_, ev27_, hf⟩ := bnd hf
        refine a_iald dX9_all_174 ev27_ ?_
        obtain ⟨M28_, eM28_, hf⟩ := bnd hf
        refine a_putI dX9_all_175 fpX9_13 rfl (Or.inr nf9_1) eM28_ ?_
        refine a_aload_n dX9_all_178 rfl 0 rfl ?_
        refine a_aload_n dX9_all_179 rfl 1 rfl ?_
        refine a_iload dX9_all_180 4 rfl ?_
        refine a_iconst (v := 2) dX9_all_182 (by decide) ?_
        refine a_iadd dX9_all_183 ?_
        obtain ⟨v29_, ev29_, hf⟩ := bnd hf
        refine a_iald dX9_all_184 ev29_ ?_
        obtain ⟨M30_, eM30_, hf⟩ := bnd hf
        refine a_putI dX9_all_185 fpX9_16 rfl (Or.inr nf9_2) eM30_ ?_
        refine a_aload_n dX9_all_188 rfl 0 rfl ?_
        refine a_aload_n dX9_all_189 rfl 1 rfl ?_
        refine a_iload dX9_all_190 4 rfl ?_
        refine a_iconst (v := 3) dX9_all_192 (by decide) ?_
        refine a_iadd dX9_all_193 ?_
        obtain ⟨v31_, ev31_, hf⟩ := bnd hf
        refine a_iald dX9_all_194 ev31_ ?_
        obtain ⟨M32_, eM32_, hf⟩ := bnd hf
        refine a_putI dX9_all_195 fpX9_167 rfl (Or.inr nf9_3) eM32_ ?_
        refine a_aload_n dX9_all_198 rfl 0 rfl ?_
        refine a_aload_n dX9_all_199 rfl 1 rfl ?_
        refine a_iload dX9_all_200 4 rfl ?_
        refine a_iconst (v := 4) dX9_all_202 (by decide) ?_
        refine a_iadd dX9_all_203 ?_
        obtain ⟨v33_, ev33_, hf⟩ := bnd hf
        refine a_iald dX9_all_204 ev33_ ?_
        obtain ⟨M34_, eM34_, hf⟩ := bnd hf
        refine a_putI dX9_all_205 fpX9_170 rfl (Or.inr nf9_4) eM34_ ?_
        refine a_aload_n dX9_all_208 rfl 0 rfl ?_
        refine a_aload_n dX9_all_209 rfl 1 rfl ?_
        refine a_iload dX9_all_210 4 rfl ?_
        refine a_iconst (v := 5) dX9_all_212 (by decide) ?_
        refine a_iadd dX9_all_213 ?_
        obtain ⟨v35_, ev35_, hf⟩ := bnd hf
        refine a_iald dX9_all_214 ev35_ ?_
        obtain ⟨M36_, eM36_, hf⟩ := bnd hf
        refine a_putI dX9_all_215 fpX9_19 rfl (Or.inr nf9_5) eM36_ ?_
        refine a_aload_n dX9_all_218 rfl 0 rfl ?_
        refine a_aload_n dX9_all_219 rfl 1 rfl ?_
        refine a_iload dX9_all_220 4 rfl ?_
        refine a_bipush (v := 6) dX9_all_222 (by decide) ?_
        refine a_iadd dX9_all_224 ?_
        obtain ⟨v37_, ev37_, hf⟩ := bnd hf
        refine a_iald dX9_all_225 ev37_ ?_
        obtain ⟨M38_, eM38_, hf⟩ := bnd hf
        refine a_putI dX9_all_226 fpX9_115 rfl (Or.inr nf9_6) eM38_ ?_
        refine a_aload_n dX9_all_229 rfl 0 rfl ?_
        refine a_aload_n dX9_all_230 rfl 1 rfl ?_
        refine a_iload dX9_all_231 4 rfl ?_
        refine a_bipush (v := 7) dX9_all_233 (by decide) ?_
        refine a_iadd dX9_all_235 ?_
        obtain ⟨v39_, ev39_, hf⟩ := bnd hf
        refine a_iald dX9_all_236 ev39_ ?_
        obtain ⟨M40_, eM40_, hf⟩ := bnd hf
        refine a_putI dX9_all_237 fpX9_143 rfl (Or.inr nf9_7) eM40_ ?_
        refine a_aload_n dX9_all_240 rfl 0 rfl ?_
        refine a_aload_n dX9_all_241 rfl 1 rfl ?_
        refine a_iload dX9_all_242 4 rfl ?_
        refine a_bipush (v := 8) dX9_all_244 (by decide) ?_
        refine a_iadd dX9_all_246 ?_
        obtain ⟨v41_, ev41_, hf⟩ := bnd hf
        refine a_iald dX9_all_247 ev41_ ?_
        obtain ⟨M42_, eM42_, hf⟩ := bnd hf
        refine a_putI dX9_all_248 fpX9_136 rfl (Or.inr nf9_8) eM42_ ?_
        refine a_aload_n dX9_all_251 rfl 0 rfl ?_
        refine a_aload_n dX9_all_252 rfl 1 rfl ?_
        refine a_iload dX9_all_253 4 rfl ?_
        refine a_bipush (v := 9) dX9_all_255 (by decide) ?_
        refine a_iadd dX9_all_257 ?_
        obtain ⟨v43_, ev43_, hf⟩ := bnd hf
        refine a_iald dX9_all_258 ev43_ ?_
        obtain ⟨M44_, eM44_, hf⟩ := bnd hf
        refine a_putI dX9_all_259 fpX9_129 rfl (Or.inr nf9_9) eM44_ ?_
        refine a_aload_n dX9_all_262 rfl 0 rfl ?_
        refine a_aload_n dX9_all_263 rfl 1 rfl ?_
        refine a_iload dX9_all_264 4 rfl ?_
        refine a_bipush (v := 10) dX9_all_266 (by decide) ?_
        refine a_iadd dX9_all_268 ?_
        obtain ⟨v45_, ev45_, hf⟩ := bnd hf
        refine a_iald dX9_all_269 ev45_ ?_
        obtain ⟨M46_, eM46_, hf⟩ := bnd hf
        refine a_putI dX9_all_270 fpX9_22 rfl (Or.inr nf9_10) eM46_ ?_
        refine a_aload_n dX9_all_273 rfl 0 rfl ?_
        refine a_aload_n dX9_all_274 rfl 1 rfl ?_
        refine a_iload dX9_all_275 4 rfl ?_
        refine a_bipush (v := 11) dX9_all_277 (by decide) ?_
        refine a_iadd dX9_all_279 ?_
        obtain ⟨v47_, ev47_, hf⟩ := bnd hf
        refine a_iald dX9_all_280 ev47_ ?_
        obtain ⟨M48_, eM48_, hf⟩ := bnd hf
        refine a_putI dX9_all_281 fpX9_25 rfl (Or.inr nf9_11) eM48_ ?_
        refine a_goto (tgt := 411) dX9_all_284 (by decide) ?_
        have e9 := Option.some.inj hf
        subst e9
        exact a_vret rfl dX9_all_411 rfl
    · replace hf := iteF hf c9
      refine a_iload_n dX9_all_121 rfl 3 rfl ?_
      refine a_if_eq dX9_all_122 (tgt := 139) (by decide) (fun c9 => ?_) (fun c9 => ?_)
      · replace hf := iteT hf c9
        refine a_aload_n dX9_all_139 rfl 2 rfl ?_
        refine a_iload dX9_all_140 5 rfl ?_
        refine a_aload_n dX9_all_142 rfl 0 rfl ?_
        obtain ⟨o49_, eo49_, hf⟩ := bnd hf
        refine a_getR dX9_all_143 flX9_56 rfl eo49_ ?_
        refine a_iload dX9_all_146 5 rfl ?_
        obtain ⟨v50_, ev50_, hf⟩ := bnd hf
        refine a_lald dX9_all_148 ev50_ ?_
        obtain ⟨M51_, eM51_, hf⟩ := bnd hf
        refine a_last dX9_all_149 eM51_ ?_
        refine a_iinc (v := x5 + (1 : Int32)) (lv1 := [(5, .int (x5 + (1 : Int32))), (0, .ref a0), (1, .ref a1), (2, .ref a2), (3, .int x3), (4, .int x4)]) dX9_all_150 5 rfl rfl (by decide) rfl ?_
        refine a_goto (tgt := 114) dX9_all_153 (by decide) ?_
        refine AW.sub (lv1 := [(0, .ref a0), (1, .ref a1), (2, .ref a2), (3, .int x3), (4, .int x4), (5, .int (x5 + (1 : Int32)))]) [1, 2, 3, 4, 5, 0] rfl ?_
        exact ih _ _ _ _ _ _ _ hf
      · replace hf := iteF hf c9
        refine a_aload_n dX9_all_125 rfl 0 rfl ?_
        obtain ⟨o52_, eo52_, hf⟩ := bnd hf
        refine a_getR dX9_all_126 flX9_56 rfl eo52_ ?_
        refine a_iload dX9_all_129 5 rfl ?_
        refine a_aload_n dX9_all_131 rfl 2 rfl ?_
        refine a_iload dX9_all_132 5 rfl ?_
        obtain ⟨v53_, ev53_, hf⟩ := bnd hf
        refine a_lald dX9_all_134 ev53_ ?_
        obtain ⟨M54_, eM54_, hf⟩ := bnd hf
        refine a_last dX9_all_135 eM54_ ?_
        refine a_goto (tgt := 150) dX9_all_136 (by decide) ?_
        refine a_iinc (v := x5 + (1 : Int32)) (lv1 := [(5, .int (x5 + (1 : Int32))), (0, .ref a0), (1, .ref a1), (2, .ref a2), (3, .int x3), (4, .int x4)]) dX9_all_150 5 rfl rfl (by decide) rfl ?_
        refine a_goto (tgt := 114) dX9_all_153 (by decide) ?_
        refine AW.sub (lv1 := [(0, .ref a0), (1, .ref a1), (2, .ref a2), (3, .int x3), (4, .int x4), (5, .int (x5 + (1 : Int32)))]) [1, 2, 3, 4, 5, 0] rfl ?_
        exact ih _ _ _ _ _ _ _ hf
set_option maxHeartbeats 4000000 in
set_option maxRecDepth 100000 in
theorem wX9_all {l : Launch} {Γ : Gx} {a0 : Nat} {a1 : Nat} {a2 : Nat} {x3 : Int32} {M : Mm} {q : Mm} (hf : fX9_all a0 a1 a2 x3 M = some q) : AM l Γ 2 yX9_all cX9_all 6 (none) [.ref a0, .ref a1, .ref a2, .int x3] M none q := by
  unfold fX9_all at hf
  refine AM.of mfX9_all (Nat.le_of_ble_eq_true rfl) ?_
  generalize mT M = t0
  generalize mW M = w0
  show AW _ _ _ _ _ _ _ _ _ 0 [(0, .ref a0), (1, .ref a1), (2, .ref a2), (3, .int x3)] [] _ _ _
  obtain ⟨u0, eu0, hf⟩ := bnd hf
  refine a_aload_n dX9_all_0 rfl 0 rfl ?_
  refine a_aload_n dX9_all_1 rfl 0 rfl ?_
  obtain ⟨o1_, eo1_, hf⟩ := bnd hf
  refine a_getR dX9_all_2 flX9_35 rfl eo1_ ?_
  refine a_bipush (v := 8) dX9_all_5 (by decide) ?_
  refine a_aload_n dX9_all_7 rfl 1 rfl ?_
  refine a_iconst (v := 0) dX9_all_8 (by decide) ?_
  refine a_iload_n dX9_all_9 rfl 3 rfl ?_
  obtain ⟨q2_, eq2_, hf⟩ := bnd hf
  refine a_callV (As := [.ref o1_, .int ((8 : Int32)), .ref a1, .int ((0 : Int32)), .int x3]) (rest := []) dX9_all_10 mfX9_keeps cvX9_215 (wX9_keeps eq2_) rc9 (kX9_keeps eq2_) (by decide) rfl rfl (Nat.le_of_ble_eq_true rfl) ?_
  refine a_istore (i := 4) (lv1 := [(4, .int q2_.1), (0, .ref a0), (1, .ref a1), (2, .ref a2), (3, .int x3)]) dX9_all_13 (by decide) rfl ?_
  refine a_aload_n dX9_all_15 rfl 1 rfl ?_
  refine a_aload_n dX9_all_16 rfl 1 rfl ?_
  obtain ⟨o3_, eo3_, hf⟩ := bnd hf
  refine a_getR dX9_all_17 flX9_38 rfl eo3_ ?_
  refine a_bipush (v := 8) dX9_all_20 (by decide) ?_
  refine a_aload_n dX9_all_22 rfl 2 rfl ?_
  refine a_iload dX9_all_23 0 rfl ?_
  refine a_iload_n dX9_all_25 rfl 4 rfl ?_
  obtain ⟨q4_, eq4_, hf⟩ := bnd hf
  refine a_callV (As := [.ref o3_, .int ((8 : Int32)), .ref a1, .int q2_.1, .int x3]) (rest := []) dX9_all_26 mfX9_keeps cvX9_215 (wX9_keeps eq4_) rc9 (kX9_keeps eq4_) (by decide) rfl rfl (Nat.le_of_ble_eq_true rfl) ?_
  refine a_istore (i := 4) (lv1 := [(4, .int q4_.1), (0, .ref a0), (1, .ref a1), (2, .ref a2), (3, .int x3)]) dX9_all_29 (by decide) rfl ?_
  refine a_aload_n dX9_all_31 rfl 1 rfl ?_
  refine a_aload_n dX9_all_32 rfl 1 rfl ?_
  obtain ⟨o5_, eo5_, hf⟩ := bnd hf
  refine a_getR dX9_all_33 flX9_41 rfl eo5_ ?_
  refine a_bipush (v := 8) dX9_all_36 (by decide) ?_
  refine a_aload_n dX9_all_38 rfl 2 rfl ?_
  refine a_iload dX9_all_39 0 rfl ?_
  refine a_iload_n dX9_all_41 rfl 4 rfl ?_
  obtain ⟨q6_, eq6_, hf⟩ := bnd hf
  refine a_callV (As := [.ref o5_, .int ((8 : Int32)), .ref a1, .int q4_.1, .int x3]) (rest := []) dX9_all_42 mfX9_keeps cvX9_215 (wX9_keeps eq6_) rc9 (kX9_keeps eq6_) (by decide) rfl rfl (Nat.le_of_ble_eq_true rfl) ?_
  refine a_istore (i := 4) (lv1 := [(4, .int q6_.1), (0, .ref a0), (1, .ref a1), (2, .ref a2), (3, .int x3)]) dX9_all_45 (by decide) rfl ?_
  refine a_aload_n dX9_all_47 rfl 1 rfl ?_
  refine a_aload_n dX9_all_48 rfl 1 rfl ?_
  obtain ⟨o7_, eo7_, hf⟩ := bnd hf
  refine a_getR dX9_all_49 flX9_44 rfl eo7_ ?_
  refine a_bipush (v := 8) dX9_all_52 (by decide) ?_
  refine a_aload_n dX9_all_54 rfl 2 rfl ?_
  refine a_iload dX9_all_55 0 rfl ?_
  refine a_iload_n dX9_all_57 rfl 4 rfl ?_
  obtain ⟨q8_, eq8_, hf⟩ := bnd hf
  refine a_callV (As := [.ref o7_, .int ((8 : Int32)), .ref a1, .int q6_.1, .int x3]) (rest := []) dX9_all_58 mfX9_keeps cvX9_215 (wX9_keeps eq8_) rc9 (kX9_keeps eq8_) (by decide) rfl rfl (Nat.le_of_ble_eq_true rfl) ?_
  refine a_istore (i := 4) (lv1 := [(4, .int q8_.1), (0, .ref a0), (1, .ref a1), (2, .ref a2), (3, .int x3)]) dX9_all_61 (by decide) rfl ?_
  refine a_aload_n dX9_all_63 rfl 1 rfl ?_
  refine a_aload_n dX9_all_64 rfl 1 rfl ?_
  obtain ⟨o9_, eo9_, hf⟩ := bnd hf
  refine a_getR dX9_all_65 flX9_47 rfl eo9_ ?_
  refine a_bipush (v := 8) dX9_all_68 (by decide) ?_
  refine a_aload_n dX9_all_70 rfl 2 rfl ?_
  refine a_iload dX9_all_71 0 rfl ?_
  refine a_iload_n dX9_all_73 rfl 4 rfl ?_
  obtain ⟨q10_, eq10_, hf⟩ := bnd hf
  refine a_callV (As := [.ref o9_, .int ((8 : Int32)), .ref a1, .int q8_.1, .int x3]) (rest := []) dX9_all_74 mfX9_keeps cvX9_215 (wX9_keeps eq10_) rc9 (kX9_keeps eq10_) (by decide) rfl rfl (Nat.le_of_ble_eq_true rfl) ?_
  refine a_istore (i := 4) (lv1 := [(4, .int q10_.1), (0, .ref a0), (1, .ref a1), (2, .ref a2), (3, .int x3)]) dX9_all_77 (by decide) rfl ?_
  refine a_aload_n dX9_all_79 rfl 1 rfl ?_
  refine a_aload_n dX9_all_80 rfl 1 rfl ?_
  obtain ⟨o11_, eo11_, hf⟩ := bnd hf
  refine a_getR dX9_all_81 flX9_50 rfl eo11_ ?_
  refine a_bipush (v := 8) dX9_all_84 (by decide) ?_
  refine a_aload_n dX9_all_86 rfl 2 rfl ?_
  refine a_iload dX9_all_87 0 rfl ?_
  refine a_iload_n dX9_all_89 rfl 4 rfl ?_
  obtain ⟨q12_, eq12_, hf⟩ := bnd hf
  refine a_callV (As := [.ref o11_, .int ((8 : Int32)), .ref a1, .int q10_.1, .int x3]) (rest := []) dX9_all_90 mfX9_keeps cvX9_215 (wX9_keeps eq12_) rc9 (kX9_keeps eq12_) (by decide) rfl rfl (Nat.le_of_ble_eq_true rfl) ?_
  refine a_istore (i := 4) (lv1 := [(4, .int q12_.1), (0, .ref a0), (1, .ref a1), (2, .ref a2), (3, .int x3)]) dX9_all_93 (by decide) rfl ?_
  refine a_aload_n dX9_all_95 rfl 1 rfl ?_
  refine a_aload_n dX9_all_96 rfl 1 rfl ?_
  obtain ⟨o13_, eo13_, hf⟩ := bnd hf
  refine a_getR dX9_all_97 flX9_53 rfl eo13_ ?_
  refine a_bipush (v := 8) dX9_all_100 (by decide) ?_
  refine a_aload_n dX9_all_102 rfl 2 rfl ?_
  refine a_iload dX9_all_103 0 rfl ?_
  refine a_iload_n dX9_all_105 rfl 4 rfl ?_
  obtain ⟨q14_, eq14_, hf⟩ := bnd hf
  refine a_callV (As := [.ref o13_, .int ((8 : Int32)), .ref a1, .int q12_.1, .int x3]) (rest := []) dX9_all_106 mfX9_keeps cvX9_215 (wX9_keeps eq14_) rc9 (kX9_keeps eq14_) (by decide) rfl rfl (Nat.le_of_ble_eq_true rfl) ?_
  refine a_istore (i := 4) (lv1 := [(4, .int q14_.1), (0, .ref a0), (1, .ref a1), (2, .ref a2), (3, .int x3)]) dX9_all_109 (by decide) rfl ?_
  refine a_iconst (v := 0) dX9_all_111 (by decide) ?_
  refine a_istore (i := 5) (lv1 := [(5, .int ((0 : Int32))), (4, .int q14_.1), (0, .ref a0), (1, .ref a1), (2, .ref a2), (3, .int x3)]) dX9_all_112 (by decide) rfl ?_
  refine AW.sub (lv1 := [(0, .ref a0), (1, .ref a1), (2, .ref a2), (3, .int x3), (4, .int q14_.1), (5, .int ((0 : Int32)))]) [2, 3, 4, 5, 1, 0] rfl ?_
  exact wX9_all_b114 _ _ _ _ _ _ _ _ hf
theorem kX9_isWordAt {a0 : Nat} {x1 : Int32} {M : Mm} {q : Int32 × Mm} (hf : fX9_isWordAt a0 x1 M = some q) : (mK M a0).1 = 10 := by
  unfold fX9_isWordAt at hf
  obtain ⟨u0, eu0, -⟩ := bnd hf
  exact kc_of eu0
set_option maxHeartbeats 4000000 in
set_option maxRecDepth 100000 in
theorem wX9_isWordAt_b86 {l : Launch} {Γ : Gx} {t0 w0 : Nat} {q : Int32 × Mm} (a0 : Nat) (x2 : Int32) (M : Mm) (hf : fX9_isWordAt_b86 a0 x2 M = some q) : AW l Γ yX9_isWordAt cX9_isWordAt 4 ((some .boolean)) 1 t0 w0 86 [(0, .ref a0), (2, .int x2)] [] M (some (.int q.1)) q.2 := by
  unfold fX9_isWordAt_b86 at hf
  refine a_aload_n dX9_isWordAt_86 rfl 0 rfl ?_
  obtain ⟨o1_, eo1_, hf⟩ := bnd hf
  refine a_getR dX9_isWordAt_87 flX9_81 rfl eo1_ ?_
  refine a_iload_n dX9_isWordAt_90 rfl 1 rfl ?_
  obtain ⟨v2_, ev2_, hf⟩ := bnd hf
  refine a_iald dX9_isWordAt_91 ev2_ ?_
  refine a_bipush (v := 32) dX9_isWordAt_92 (by decide) ?_
  refine a_icmp_gt dX9_isWordAt_94 (tgt := 101) (by decide) (fun c9 => ?_) (fun c9 => ?_)
  · replace hf := iteT hf c9
    refine a_iconst (v := 0) dX9_isWordAt_101 (by decide) ?_
    have e9 := Option.some.inj hf
    subst e9
    exact a_zret rfl rfl dX9_isWordAt_102 rfl
  · replace hf := iteF hf c9
    refine a_iconst (v := 1) dX9_isWordAt_97 (by decide) ?_
    refine a_goto (tgt := 102) dX9_isWordAt_98 (by decide) ?_
    have e9 := Option.some.inj hf
    subst e9
    exact a_zret rfl rfl dX9_isWordAt_102 rfl
set_option maxHeartbeats 4000000 in
set_option maxRecDepth 100000 in
theorem wX9_isWordAt_b37 {l : Launch} {Γ : Gx} {t0 w0 : Nat} {q : Int32 × Mm} : ∀ (n : Nat) (a0 : Nat) (x2 : Int32) (x3 : Int32) (M : Mm), fX9_isWordAt_b37 n a0 x2 x3 M = some q → AW l Γ yX9_isWordAt cX9_isWordAt 4 ((some .boolean)) 1 t0 w0 37 [(0, .ref a0), (2, .int x2), (3, .int x3)] [] M (some (.int q.1)) q.2 := by
  intro n
  induction n with
  | zero =>
    intro a0 x2 x3 M hf
    cases hf
  | succ n ih =>
    intro a0 x2 x3 M hf
    rw [fX9_isWordAt_b37.eq_2] at hf
    refine a_aload_n dX9_isWordAt_37 rfl 0 rfl ?_
    obtain ⟨o1_, eo1_, hf⟩ := bnd hf
    refine a_getR dX9_isWordAt_38 flX9_81 rfl eo1_ ?_
    refine a_iload_n dX9_isWordAt_41 rfl 1 rfl ?_
    obtain ⟨v2_, ev2_, hf⟩ := bnd hf
    refine a_iald dX9_isWordAt_42 ev2_ ?_
    refine a_bipush (v := 32) dX9_isWordAt_43 (by decide) ?_
    refine a_icmp_le dX9_isWordAt_45 (tgt := 86) (by decide) (fun c9 => ?_) (fun c9 => ?_)
    · replace hf := iteT hf c9
      refine AW.sub (lv1 := [(0, .ref a0), (2, .int x2)]) [0, 1] rfl ?_
      exact wX9_isWordAt_b86 _ _ _ hf
    · replace hf := iteF hf c9
      refine a_iload_n dX9_isWordAt_48 rfl 2 rfl ?_
      refine a_aload_n dX9_isWordAt_49 rfl 0 rfl ?_
      obtain ⟨v3_, ev3_, hf⟩ := bnd hf
      refine a_getI dX9_isWordAt_50 flX9_179 rfl ev3_ ?_
      refine a_icmp_ge dX9_isWordAt_53 (tgt := 86) (by decide) (fun c9 => ?_) (fun c9 => ?_)
      · replace hf := iteT hf c9
        refine AW.sub (lv1 := [(0, .ref a0), (2, .int x2)]) [0, 1] rfl ?_
        exact wX9_isWordAt_b86 _ _ _ hf
      · replace hf := iteF hf c9
        refine a_aload_n dX9_isWordAt_56 rfl 0 rfl ?_
        obtain ⟨o4_, eo4_, hf⟩ := bnd hf
        refine a_getR dX9_isWordAt_57 flX9_75 rfl eo4_ ?_
        refine a_aload_n dX9_isWordAt_60 rfl 0 rfl ?_
        obtain ⟨v5_, ev5_, hf⟩ := bnd hf
        refine a_getI dX9_isWordAt_61 flX9_182 rfl ev5_ ?_
        refine a_iload_n dX9_isWordAt_64 rfl 2 rfl ?_
        refine a_iadd dX9_isWordAt_65 ?_
        obtain ⟨v6_, ev6_, hf⟩ := bnd hf
        refine a_lald dX9_isWordAt_66 ev6_ ?_
        refine a_l2i dX9_isWordAt_67 ?_
        refine a_aload_n dX9_isWordAt_68 rfl 0 rfl ?_
        obtain ⟨o7_, eo7_, hf⟩ := bnd hf
        refine a_getR dX9_isWordAt_69 flX9_81 rfl eo7_ ?_
        refine a_iload_n dX9_isWordAt_72 rfl 1 rfl ?_
        obtain ⟨v8_, ev8_, hf⟩ := bnd hf
        refine a_iald dX9_isWordAt_73 ev8_ ?_
        refine a_icmp_ne dX9_isWordAt_74 (tgt := 86) (by decide) (fun c9 => ?_) (fun c9 => ?_)
        · replace hf := iteF hf c9
          refine AW.sub (lv1 := [(0, .ref a0), (2, .int x2)]) [0, 1] rfl ?_
          exact wX9_isWordAt_b86 _ _ _ hf
        · replace hf := iteT hf c9
          refine a_iinc (v := x3 + (1 : Int32)) (lv1 := [(3, .int (x3 + (1 : Int32))), (0, .ref a0), (2, .int x2)]) dX9_isWordAt_77 2 rfl rfl (by decide) rfl ?_
          refine a_iinc (v := x2 + (1 : Int32)) (lv1 := [(2, .int (x2 + (1 : Int32))), (3, .int (x3 + (1 : Int32))), (0, .ref a0)]) dX9_isWordAt_80 2 rfl rfl (by decide) rfl ?_
          refine a_goto (tgt := 37) dX9_isWordAt_83 (by decide) ?_
          refine AW.sub (lv1 := [(0, .ref a0), (2, .int (x2 + (1 : Int32))), (3, .int (x3 + (1 : Int32)))]) [2, 0, 1] rfl ?_
          exact ih _ _ _ _ hf
set_option maxHeartbeats 4000000 in
set_option maxRecDepth 100000 in
theorem wX9_isWordAt_b24 {l : Launch} {Γ : Gx} {t0 w0 : Nat} {q : Int32 × Mm} (k4 : Nat → Int32 → Int32 → Int32 → Mm → Option (Int32 × Mm)) (hk4 : ∀ (a0 : Nat) (x1 : Int32) (x2 : Int32) (x3 : Int32) (M : Mm), k4 a0 x1 x2 x3 M = some q → AW l Γ yX9_isWordAt cX9_isWordAt 4 ((some .boolean)) 1 t0 w0 4 [(0, .ref a0), (1, .int x1), (2, .int x2), (3, .int x3)] [] M (some (.int q.1)) q.2) (a0 : Nat) (x1 : Int32) (x2 : Int32) (s0 : Int32) (s1 : Int32) (M : Mm) (hf : fX9_isWordAt_b24 k4 a0 x1 x2 s0 s1 M = some q) : AW l Γ yX9_isWordAt cX9_isWordAt 4 ((some .boolean)) 1 t0 w0 24 [(0, .ref a0), (1, .int x1), (2, .int x2)] [.int s1, .int s0] M (some (.int q.1)) q.2 := by
  unfold fX9_isWordAt_b24 at hf
  refine a_iadd dX9_isWordAt_24 ?_
  refine a_istore_n (i := 3) (lv1 := [(3, .int (s0 + s1)), (0, .ref a0), (1, .int x1), (2, .int x2)]) dX9_isWordAt_25 rfl (by decide) rfl ?_
  refine a_iinc (v := x2 + (1 : Int32)) (lv1 := [(2, .int (x2 + (1 : Int32))), (3, .int (s0 + s1)), (0, .ref a0), (1, .int x1)]) dX9_isWordAt_26 3 rfl rfl (by decide) rfl ?_
  refine a_goto (tgt := 4) dX9_isWordAt_29 (by decide) ?_
  refine AW.sub (lv1 := [(0, .ref a0), (1, .int x1), (2, .int (x2 + (1 : Int32))), (3, .int (s0 + s1))]) [2, 3, 0, 1] rfl ?_
  exact hk4 _ _ _ _ _ hf
set_option maxHeartbeats 4000000 in
set_option maxRecDepth 100000 in
theorem wX9_isWordAt_b4 {l : Launch} {Γ : Gx} {t0 w0 : Nat} {q : Int32 × Mm} : ∀ (n : Nat) (a0 : Nat) (x1 : Int32) (x2 : Int32) (x3 : Int32) (M : Mm), fX9_isWordAt_b4 n a0 x1 x2 x3 M = some q → AW l Γ yX9_isWordAt cX9_isWordAt 4 ((some .boolean)) 1 t0 w0 4 [(0, .ref a0), (1, .int x1), (2, .int x2), (3, .int x3)] [] M (some (.int q.1)) q.2 := by
  intro n
  induction n with
  | zero =>
    intro a0 x1 x2 x3 M hf
    cases hf
  | succ n ih =>
    intro a0 x1 x2 x3 M hf
    rw [fX9_isWordAt_b4.eq_2] at hf
    refine a_iload_n dX9_isWordAt_4 rfl 3 rfl ?_
    refine a_iload_n dX9_isWordAt_5 rfl 1 rfl ?_
    refine a_icmp_ge dX9_isWordAt_6 (tgt := 32) (by decide) (fun c9 => ?_) (fun c9 => ?_)
    · replace hf := iteT hf c9
      refine a_aload_n dX9_isWordAt_32 rfl 0 rfl ?_
      obtain ⟨v1_, ev1_, hf⟩ := bnd hf
      refine a_getI dX9_isWordAt_33 flX9_176 rfl ev1_ ?_
      refine a_istore_n (i := 3) (lv1 := [(3, .int v1_), (0, .ref a0), (1, .int x1), (2, .int x2)]) dX9_isWordAt_36 rfl (by decide) rfl ?_
      refine AW.sub (lv1 := [(0, .ref a0), (2, .int x2), (3, .int v1_)]) [1, 3, 0] rfl ?_
      exact wX9_isWordAt_b37 _ _ _ _ _ hf
    · replace hf := iteF hf c9
      refine a_iload_n dX9_isWordAt_9 rfl 3 rfl ?_
      refine a_aload_n dX9_isWordAt_10 rfl 0 rfl ?_
      obtain ⟨o2_, eo2_, hf⟩ := bnd hf
      refine a_getR dX9_isWordAt_11 flX9_81 rfl eo2_ ?_
      refine a_iload_n dX9_isWordAt_14 rfl 2 rfl ?_
      obtain ⟨v3_, ev3_, hf⟩ := bnd hf
      refine a_iald dX9_isWordAt_15 ev3_ ?_
      refine a_if_ne dX9_isWordAt_16 (tgt := 23) (by decide) (fun c9 => ?_) (fun c9 => ?_)
      · replace hf := iteF hf c9
        refine a_iconst (v := 0) dX9_isWordAt_23 (by decide) ?_
        refine AW.sub (lv1 := [(0, .ref a0), (1, .int x1), (2, .int x2)]) [0, 1, 2] rfl ?_
        exact wX9_isWordAt_b24 _ ih _ _ _ _ _ _ hf
      · replace hf := iteT hf c9
        refine a_iconst (v := 1) dX9_isWordAt_19 (by decide) ?_
        refine a_goto (tgt := 24) dX9_isWordAt_20 (by decide) ?_
        refine AW.sub (lv1 := [(0, .ref a0), (1, .int x1), (2, .int x2)]) [0, 1, 2] rfl ?_
        exact wX9_isWordAt_b24 _ ih _ _ _ _ _ _ hf
set_option maxHeartbeats 4000000 in
set_option maxRecDepth 100000 in
theorem wX9_isWordAt {l : Launch} {Γ : Gx} {a0 : Nat} {x1 : Int32} {M : Mm} {q : Int32 × Mm} (hf : fX9_isWordAt a0 x1 M = some q) : AM l Γ 1 yX9_isWordAt cX9_isWordAt 4 ((some .boolean)) [.ref a0, .int x1] M (some (.int q.1)) q.2 := by
  unfold fX9_isWordAt at hf
  refine AM.of mfX9_isWordAt (Nat.le_of_ble_eq_true rfl) ?_
  generalize mT M = t0
  generalize mW M = w0
  show AW _ _ _ _ _ _ _ _ _ 0 [(0, .ref a0), (1, .int x1)] [] _ _ _
  obtain ⟨u0, eu0, hf⟩ := bnd hf
  refine a_iconst (v := 0) dX9_isWordAt_0 (by decide) ?_
  refine a_istore_n (i := 2) (lv1 := [(2, .int ((0 : Int32))), (0, .ref a0), (1, .int x1)]) dX9_isWordAt_1 rfl (by decide) rfl ?_
  refine a_iconst (v := 0) dX9_isWordAt_2 (by decide) ?_
  refine a_istore_n (i := 3) (lv1 := [(3, .int ((0 : Int32))), (2, .int ((0 : Int32))), (0, .ref a0), (1, .int x1)]) dX9_isWordAt_3 rfl (by decide) rfl ?_
  refine AW.sub (lv1 := [(0, .ref a0), (1, .int x1), (2, .int ((0 : Int32))), (3, .int ((0 : Int32)))]) [2, 3, 1, 0] rfl ?_
  exact wX9_isWordAt_b4 _ _ _ _ _ _ hf
theorem kX9_isFull {a0 : Nat} {x1 : Int32} {M : Mm} {q : Int32 × Mm} (hf : fX9_isFull a0 x1 M = some q) : (mK M a0).1 = 10 := by
  unfold fX9_isFull at hf
  obtain ⟨u0, eu0, -⟩ := bnd hf
  exact kc_of eu0
set_option maxHeartbeats 4000000 in
set_option maxRecDepth 100000 in
theorem wX9_isFull_b14 {l : Launch} {Γ : Gx} {t0 w0 : Nat} {q : Int32 × Mm} (a0 : Nat) (x1 : Int32) (M : Mm) (hf : fX9_isFull_b14 a0 x1 M = some q) : AW l Γ yX9_isFull cX9_isFull 2 ((some .boolean)) 1 t0 w0 14 [(0, .ref a0), (1, .int x1)] [] M (some (.int q.1)) q.2 := by
  unfold fX9_isFull_b14 at hf
  refine a_iload_n dX9_isFull_14 rfl 1 rfl ?_
  refine a_iconst (v := 2) dX9_isFull_15 (by decide) ?_
  refine a_icmp_ne dX9_isFull_16 (tgt := 32) (by decide) (fun c9 => ?_) (fun c9 => ?_)
  · replace hf := iteF hf c9
    refine a_iconst (v := 0) dX9_isFull_32 (by decide) ?_
    have e9 := Option.some.inj hf
    subst e9
    exact a_zret rfl rfl dX9_isFull_33 rfl
  · replace hf := iteT hf c9
    refine a_aload_n dX9_isFull_19 rfl 0 rfl ?_
    obtain ⟨v1_, ev1_, hf⟩ := bnd hf
    refine a_getI dX9_isFull_20 flX9_143 rfl ev1_ ?_
    refine a_bipush (v := 8) dX9_isFull_23 (by decide) ?_
    refine a_icmp_ne dX9_isFull_25 (tgt := 32) (by decide) (fun c9 => ?_) (fun c9 => ?_)
    · replace hf := iteF hf c9
      refine a_iconst (v := 0) dX9_isFull_32 (by decide) ?_
      have e9 := Option.some.inj hf
      subst e9
      exact a_zret rfl rfl dX9_isFull_33 rfl
    · replace hf := iteT hf c9
      refine a_iconst (v := 1) dX9_isFull_28 (by decide) ?_
      refine a_goto (tgt := 33) dX9_isFull_29 (by decide) ?_
      have e9 := Option.some.inj hf
      subst e9
      exact a_zret rfl rfl dX9_isFull_33 rfl
set_option maxHeartbeats 4000000 in
set_option maxRecDepth 100000 in
theorem wX9_isFull {l : Launch} {Γ : Gx} {a0 : Nat} {x1 : Int32} {M : Mm} {q : Int32 × Mm} (hf : fX9_isFull a0 x1 M = some q) : AM l Γ 1 yX9_isFull cX9_isFull 2 ((some .boolean)) [.ref a0, .int x1] M (some (.int q.1)) q.2 := by
  unfold fX9_isFull at hf
  refine AM.of mfX9_isFull (Nat.le_of_ble_eq_true rfl) ?_
  generalize mT M = t0
  generalize mW M = w0
  show AW _ _ _ _ _ _ _ _ _ 0 [(0, .ref a0), (1, .int x1)] [] _ _ _
  obtain ⟨u0, eu0, hf⟩ := bnd hf
  refine a_iload_n dX9_isFull_0 rfl 1 rfl ?_
  refine a_iconst (v := 1) dX9_isFull_1 (by decide) ?_
  refine a_icmp_ne dX9_isFull_2 (tgt := 14) (by decide) (fun c9 => ?_) (fun c9 => ?_)
  · replace hf := iteF hf c9
    exact wX9_isFull_b14 _ _ _ hf
  · replace hf := iteT hf c9
    refine a_aload_n dX9_isFull_5 rfl 0 rfl ?_
    obtain ⟨v1_, ev1_, hf⟩ := bnd hf
    refine a_getI dX9_isFull_6 flX9_115 rfl ev1_ ?_
    refine a_bipush (v := 8) dX9_isFull_9 (by decide) ?_
    refine a_icmp_eq dX9_isFull_11 (tgt := 28) (by decide) (fun c9 => ?_) (fun c9 => ?_)
    · replace hf := iteT hf c9
      refine a_iconst (v := 1) dX9_isFull_28 (by decide) ?_
      refine a_goto (tgt := 33) dX9_isFull_29 (by decide) ?_
      have e9 := Option.some.inj hf
      subst e9
      exact a_zret rfl rfl dX9_isFull_33 rfl
    · replace hf := iteF hf c9
      exact wX9_isFull_b14 _ _ _ hf
theorem kX9_wrong {a0 : Nat} {x1 : Int32} {M : Mm} {q : Int32 × Mm} (hf : fX9_wrong a0 x1 M = some q) : (mK M a0).1 = 10 := by
  unfold fX9_wrong at hf
  obtain ⟨u0, eu0, -⟩ := bnd hf
  exact kc_of eu0
set_option maxHeartbeats 4000000 in
set_option maxRecDepth 100000 in
theorem wX9_wrong {l : Launch} {Γ : Gx} {a0 : Nat} {x1 : Int32} {M : Mm} {q : Int32 × Mm} (hf : fX9_wrong a0 x1 M = some q) : AM l Γ 1 yX9_wrong cX9_wrong 2 ((some .boolean)) [.ref a0, .int x1] M (some (.int q.1)) q.2 := by
  unfold fX9_wrong at hf
  refine AM.of mfX9_wrong (Nat.le_of_ble_eq_true rfl) ?_
  generalize mT M = t0
  generalize mW M = w0
  show AW _ _ _ _ _ _ _ _ _ 0 [(0, .ref a0), (1, .int x1)] [] _ _ _
  obtain ⟨u0, eu0, hf⟩ := bnd hf
  refine a_aload_n dX9_wrong_0 rfl 0 rfl ?_
  refine a_iload_n dX9_wrong_1 rfl 1 rfl ?_
  obtain ⟨M1_, eM1_, hf⟩ := bnd hf
  refine a_putI dX9_wrong_2 fpX9_173 rfl (Or.inr nf9_36) eM1_ ?_
  refine a_iconst (v := 0) dX9_wrong_5 (by decide) ?_
  have e9 := Option.some.inj hf
  subst e9
  exact a_zret rfl rfl dX9_wrong_6 rfl
theorem kX9_word {a0 : Nat} {M : Mm} {q : Int32 × Mm} (hf : fX9_word a0 M = some q) : (mK M a0).1 = 10 := by
  unfold fX9_word at hf
  obtain ⟨u0, eu0, -⟩ := bnd hf
  exact kc_of eu0
set_option maxHeartbeats 4000000 in
set_option maxRecDepth 100000 in
theorem wX9_word_b106 {l : Launch} {Γ : Gx} {t0 w0 : Nat} {q : Int32 × Mm} (k9 : Nat → Int32 → Int32 → Int32 → Mm → Option (Int32 × Mm)) (hk9 : ∀ (a0 : Nat) (x1 : Int32) (x2 : Int32) (x3 : Int32) (M : Mm), k9 a0 x1 x2 x3 M = some q → AW l Γ yX9_word cX9_word 6 ((some .int)) 1 t0 w0 9 [(0, .ref a0), (1, .int x1), (2, .int x2), (3, .int x3)] [] M (some (.int q.1)) q.2) : ∀ (n : Nat) (a0 : Nat) (x1 : Int32) (x2 : Int32) (x3 : Int32) (M : Mm), fX9_word_b106 k9 n a0 x1 x2 x3 M = some q → AW l Γ yX9_word cX9_word 6 ((some .int)) 1 t0 w0 106 [(0, .ref a0), (1, .int x1), (2, .int x2), (3, .int x3)] [] M (some (.int q.1)) q.2 := by
  intro n
  induction n with
  | zero =>
    intro a0 x1 x2 x3 M hf
    cases hf
  | succ n ih =>
    intro a0 x1 x2 x3 M hf
    rw [fX9_word_b106.eq_2] at hf
    refine a_aload_n dX9_word_106 rfl 0 rfl ?_
    obtain ⟨o1_, eo1_, hf⟩ := bnd hf
    refine a_getR dX9_word_107 flX9_81 rfl eo1_ ?_
    refine a_iload_n dX9_word_110 rfl 1 rfl ?_
    obtain ⟨v2_, ev2_, hf⟩ := bnd hf
    refine a_iald dX9_word_111 ev2_ ?_
    refine a_if_eq dX9_word_112 (tgt := 121) (by decide) (fun c9 => ?_) (fun c9 => ?_)
    · replace hf := iteT hf c9
      refine a_iinc (v := x1 + (1 : Int32)) (lv1 := [(1, .int (x1 + (1 : Int32))), (0, .ref a0), (2, .int x2), (3, .int x3)]) dX9_word_121 1 rfl rfl (by decide) rfl ?_
      refine a_iinc (v := x3 + (1 : Int32)) (lv1 := [(3, .int (x3 + (1 : Int32))), (1, .int (x1 + (1 : Int32))), (0, .ref a0), (2, .int x2)]) dX9_word_124 3 rfl rfl (by decide) rfl ?_
      refine a_goto (tgt := 9) dX9_word_127 (by decide) ?_
      refine AW.sub (lv1 := [(0, .ref a0), (1, .int (x1 + (1 : Int32))), (2, .int x2), (3, .int (x3 + (1 : Int32)))]) [2, 1, 3, 0] rfl ?_
      exact hk9 _ _ _ _ _ hf
    · replace hf := iteF hf c9
      refine a_iinc (v := x1 + (1 : Int32)) (lv1 := [(1, .int (x1 + (1 : Int32))), (0, .ref a0), (2, .int x2), (3, .int x3)]) dX9_word_115 1 rfl rfl (by decide) rfl ?_
      refine a_goto (tgt := 106) dX9_word_118 (by decide) ?_
      refine AW.sub (lv1 := [(0, .ref a0), (1, .int (x1 + (1 : Int32))), (2, .int x2), (3, .int x3)]) [1, 0, 2, 3] rfl ?_
      exact ih _ _ _ _ _ hf
set_option maxHeartbeats 4000000 in
set_option maxRecDepth 100000 in
theorem wX9_word_b75 {l : Launch} {Γ : Gx} {t0 w0 : Nat} {q : Int32 × Mm} (k9 : Nat → Int32 → Int32 → Int32 → Mm → Option (Int32 × Mm)) (hk9 : ∀ (a0 : Nat) (x1 : Int32) (x2 : Int32) (x3 : Int32) (M : Mm), k9 a0 x1 x2 x3 M = some q → AW l Γ yX9_word cX9_word 6 ((some .int)) 1 t0 w0 9 [(0, .ref a0), (1, .int x1), (2, .int x2), (3, .int x3)] [] M (some (.int q.1)) q.2) (a0 : Nat) (x1 : Int32) (x2 : Int32) (x3 : Int32) (x4 : Int32) (x5 : Int32) (M : Mm) (hf : fX9_word_b75 k9 a0 x1 x2 x3 x4 x5 M = some q) : AW l Γ yX9_word cX9_word 6 ((some .int)) 1 t0 w0 75 [(0, .ref a0), (1, .int x1), (2, .int x2), (3, .int x3), (4, .int x4), (5, .int x5)] [] M (some (.int q.1)) q.2 := by
  unfold fX9_word_b75 at hf
  refine a_aload_n dX9_word_75 rfl 0 rfl ?_
  obtain ⟨o1_, eo1_, hf⟩ := bnd hf
  refine a_getR dX9_word_76 flX9_81 rfl eo1_ ?_
  refine a_iload dX9_word_79 5 rfl ?_
  obtain ⟨v2_, ev2_, hf⟩ := bnd hf
  refine a_iald dX9_word_81 ev2_ ?_
  refine a_if_ne dX9_word_82 (tgt := 93) (by decide) (fun c9 => ?_) (fun c9 => ?_)
  · replace hf := iteF hf c9
    refine a_iload dX9_word_93 4 rfl ?_
    refine a_iload_n dX9_word_95 rfl 2 rfl ?_
    refine a_icmp_le dX9_word_96 (tgt := 104) (by decide) (fun c9 => ?_) (fun c9 => ?_)
    · replace hf := iteT hf c9
      refine a_iload_n dX9_word_104 rfl 2 rfl ?_
      refine a_istore_n (i := 2) (lv1 := [(2, .int x2), (0, .ref a0), (1, .int x1), (3, .int x3), (4, .int x4), (5, .int x5)]) dX9_word_105 rfl (by decide) rfl ?_
      refine AW.sub (lv1 := [(0, .ref a0), (1, .int x1), (2, .int x2), (3, .int x3)]) [1, 2, 0, 3] rfl ?_
      exact wX9_word_b106 _ hk9 _ _ _ _ _ _ hf
    · replace hf := iteF hf c9
      refine a_iload dX9_word_99 4 rfl ?_
      refine a_goto (tgt := 105) dX9_word_101 (by decide) ?_
      refine a_istore_n (i := 2) (lv1 := [(2, .int x4), (0, .ref a0), (1, .int x1), (3, .int x3), (4, .int x4), (5, .int x5)]) dX9_word_105 rfl (by decide) rfl ?_
      refine AW.sub (lv1 := [(0, .ref a0), (1, .int x1), (2, .int x4), (3, .int x3)]) [1, 2, 0, 3] rfl ?_
      exact wX9_word_b106 _ hk9 _ _ _ _ _ _ hf
  · replace hf := iteT hf c9
    refine a_aload_n dX9_word_85 rfl 0 rfl ?_
    refine a_iload dX9_word_86 4 rfl ?_
    obtain ⟨M3_, eM3_, hf⟩ := bnd hf
    refine a_putI dX9_word_88 fpX9_176 rfl (Or.inr nf9_33) eM3_ ?_
    refine a_iload_n dX9_word_91 rfl 3 rfl ?_
    have e9 := Option.some.inj hf
    subst e9
    exact a_iret rfl dX9_word_92 rfl
set_option maxHeartbeats 4000000 in
set_option maxRecDepth 100000 in
theorem wX9_word_b24 {l : Launch} {Γ : Gx} {t0 w0 : Nat} {q : Int32 × Mm} (k9 : Nat → Int32 → Int32 → Int32 → Mm → Option (Int32 × Mm)) (hk9 : ∀ (a0 : Nat) (x1 : Int32) (x2 : Int32) (x3 : Int32) (M : Mm), k9 a0 x1 x2 x3 M = some q → AW l Γ yX9_word cX9_word 6 ((some .int)) 1 t0 w0 9 [(0, .ref a0), (1, .int x1), (2, .int x2), (3, .int x3)] [] M (some (.int q.1)) q.2) : ∀ (n : Nat) (a0 : Nat) (x1 : Int32) (x2 : Int32) (x3 : Int32) (x4 : Int32) (x5 : Int32) (M : Mm), fX9_word_b24 k9 n a0 x1 x2 x3 x4 x5 M = some q → AW l Γ yX9_word cX9_word 6 ((some .int)) 1 t0 w0 24 [(0, .ref a0), (1, .int x1), (2, .int x2), (3, .int x3), (4, .int x4), (5, .int x5)] [] M (some (.int q.1)) q.2 := by
  intro n
  induction n with
  | zero =>
    intro a0 x1 x2 x3 x4 x5 M hf
    cases hf
  | succ n ih =>
    intro a0 x1 x2 x3 x4 x5 M hf
    rw [fX9_word_b24.eq_2] at hf
    refine a_aload_n dX9_word_24 rfl 0 rfl ?_
    obtain ⟨o1_, eo1_, hf⟩ := bnd hf
    refine a_getR dX9_word_25 flX9_81 rfl eo1_ ?_
    refine a_iload dX9_word_28 5 rfl ?_
    obtain ⟨v2_, ev2_, hf⟩ := bnd hf
    refine a_iald dX9_word_30 ev2_ ?_
    refine a_if_eq dX9_word_31 (tgt := 75) (by decide) (fun c9 => ?_) (fun c9 => ?_)
    · replace hf := iteT hf c9
      exact wX9_word_b75 _ hk9 _ _ _ _ _ _ _ hf
    · replace hf := iteF hf c9
      refine a_iload dX9_word_34 4 rfl ?_
      refine a_aload_n dX9_word_36 rfl 0 rfl ?_
      obtain ⟨v3_, ev3_, hf⟩ := bnd hf
      refine a_getI dX9_word_37 flX9_179 rfl ev3_ ?_
      refine a_icmp_ge dX9_word_40 (tgt := 75) (by decide) (fun c9 => ?_) (fun c9 => ?_)
      · replace hf := iteT hf c9
        exact wX9_word_b75 _ hk9 _ _ _ _ _ _ _ hf
      · replace hf := iteF hf c9
        refine a_aload_n dX9_word_43 rfl 0 rfl ?_
        obtain ⟨o4_, eo4_, hf⟩ := bnd hf
        refine a_getR dX9_word_44 flX9_75 rfl eo4_ ?_
        refine a_aload_n dX9_word_47 rfl 0 rfl ?_
        obtain ⟨v5_, ev5_, hf⟩ := bnd hf
        refine a_getI dX9_word_48 flX9_182 rfl ev5_ ?_
        refine a_iload dX9_word_51 4 rfl ?_
        refine a_iadd dX9_word_53 ?_
        obtain ⟨v6_, ev6_, hf⟩ := bnd hf
        refine a_lald dX9_word_54 ev6_ ?_
        refine a_l2i dX9_word_55 ?_
        refine a_aload_n dX9_word_56 rfl 0 rfl ?_
        obtain ⟨o7_, eo7_, hf⟩ := bnd hf
        refine a_getR dX9_word_57 flX9_81 rfl eo7_ ?_
        refine a_iload dX9_word_60 5 rfl ?_
        obtain ⟨v8_, ev8_, hf⟩ := bnd hf
        refine a_iald dX9_word_62 ev8_ ?_
        refine a_icmp_ne dX9_word_63 (tgt := 75) (by decide) (fun c9 => ?_) (fun c9 => ?_)
        · replace hf := iteF hf c9
          exact wX9_word_b75 _ hk9 _ _ _ _ _ _ _ hf
        · replace hf := iteT hf c9
          refine a_iinc (v := x4 + (1 : Int32)) (lv1 := [(4, .int (x4 + (1 : Int32))), (0, .ref a0), (1, .int x1), (2, .int x2), (3, .int x3), (5, .int x5)]) dX9_word_66 4 rfl rfl (by decide) rfl ?_
          refine a_iinc (v := x5 + (1 : Int32)) (lv1 := [(5, .int (x5 + (1 : Int32))), (4, .int (x4 + (1 : Int32))), (0, .ref a0), (1, .int x1), (2, .int x2), (3, .int x3)]) dX9_word_69 5 rfl rfl (by decide) rfl ?_
          refine a_goto (tgt := 24) dX9_word_72 (by decide) ?_
          refine AW.sub (lv1 := [(0, .ref a0), (1, .int x1), (2, .int x2), (3, .int x3), (4, .int (x4 + (1 : Int32))), (5, .int (x5 + (1 : Int32)))]) [2, 3, 4, 5, 1, 0] rfl ?_
          exact ih _ _ _ _ _ _ _ hf
set_option maxHeartbeats 4000000 in
set_option maxRecDepth 100000 in
theorem wX9_word_b9 {l : Launch} {Γ : Gx} {t0 w0 : Nat} {q : Int32 × Mm} : ∀ (n : Nat) (a0 : Nat) (x1 : Int32) (x2 : Int32) (x3 : Int32) (M : Mm), fX9_word_b9 n a0 x1 x2 x3 M = some q → AW l Γ yX9_word cX9_word 6 ((some .int)) 1 t0 w0 9 [(0, .ref a0), (1, .int x1), (2, .int x2), (3, .int x3)] [] M (some (.int q.1)) q.2 := by
  intro n
  induction n with
  | zero =>
    intro a0 x1 x2 x3 M hf
    cases hf
  | succ n ih =>
    intro a0 x1 x2 x3 M hf
    rw [fX9_word_b9.eq_2] at hf
    refine a_iload_n dX9_word_9 rfl 3 rfl ?_
    refine a_bipush (v := 6) dX9_word_10 (by decide) ?_
    refine a_icmp_ge dX9_word_12 (tgt := 130) (by decide) (fun c9 => ?_) (fun c9 => ?_)
    · replace hf := iteT hf c9
      refine a_aload_n dX9_word_130 rfl 0 rfl ?_
      refine a_iload_n dX9_word_131 rfl 2 rfl ?_
      obtain ⟨M1_, eM1_, hf⟩ := bnd hf
      refine a_putI dX9_word_132 fpX9_173 rfl (Or.inr nf9_36) eM1_ ?_
      refine a_iconst (v := -1) dX9_word_135 (by decide) ?_
      have e9 := Option.some.inj hf
      subst e9
      exact a_iret rfl dX9_word_136 rfl
    · replace hf := iteF hf c9
      refine a_aload_n dX9_word_15 rfl 0 rfl ?_
      obtain ⟨v2_, ev2_, hf⟩ := bnd hf
      refine a_getI dX9_word_16 flX9_176 rfl ev2_ ?_
      refine a_istore (i := 4) (lv1 := [(4, .int v2_), (0, .ref a0), (1, .int x1), (2, .int x2), (3, .int x3)]) dX9_word_19 (by decide) rfl ?_
      refine a_iload_n dX9_word_21 rfl 2 rfl ?_
      refine a_istore (i := 5) (lv1 := [(5, .int x1), (4, .int v2_), (0, .ref a0), (1, .int x1), (2, .int x2), (3, .int x3)]) dX9_word_22 (by decide) rfl ?_
      refine AW.sub (lv1 := [(0, .ref a0), (1, .int x1), (2, .int x2), (3, .int x3), (4, .int v2_), (5, .int x1)]) [2, 3, 4, 5, 1, 0] rfl ?_
      exact wX9_word_b24 _ ih _ _ _ _ _ _ _ _ hf
set_option maxHeartbeats 4000000 in
set_option maxRecDepth 100000 in
theorem wX9_word {l : Launch} {Γ : Gx} {a0 : Nat} {M : Mm} {q : Int32 × Mm} (hf : fX9_word a0 M = some q) : AM l Γ 1 yX9_word cX9_word 6 ((some .int)) [.ref a0] M (some (.int q.1)) q.2 := by
  unfold fX9_word at hf
  refine AM.of mfX9_word (Nat.le_of_ble_eq_true rfl) ?_
  generalize mT M = t0
  generalize mW M = w0
  show AW _ _ _ _ _ _ _ _ _ 0 [(0, .ref a0)] [] _ _ _
  obtain ⟨u0, eu0, hf⟩ := bnd hf
  refine a_iconst (v := 0) dX9_word_0 (by decide) ?_
  refine a_istore_n (i := 1) (lv1 := [(1, .int ((0 : Int32))), (0, .ref a0)]) dX9_word_1 rfl (by decide) rfl ?_
  refine a_aload_n dX9_word_2 rfl 1 rfl ?_
  obtain ⟨v1_, ev1_, hf⟩ := bnd hf
  refine a_getI dX9_word_3 flX9_176 rfl ev1_ ?_
  refine a_istore_n (i := 2) (lv1 := [(2, .int v1_), (1, .int ((0 : Int32))), (0, .ref a0)]) dX9_word_6 rfl (by decide) rfl ?_
  refine a_iconst (v := 0) dX9_word_7 (by decide) ?_
  refine a_istore_n (i := 3) (lv1 := [(3, .int ((0 : Int32))), (2, .int v1_), (1, .int ((0 : Int32))), (0, .ref a0)]) dX9_word_8 rfl (by decide) rfl ?_
  refine AW.sub (lv1 := [(0, .ref a0), (1, .int ((0 : Int32))), (2, .int v1_), (3, .int ((0 : Int32)))]) [3, 2, 1, 0] rfl ?_
  exact wX9_word_b9 _ _ _ _ _ _ hf
theorem kX9_low {a0 : Nat} {x1 : Int32} {x2 : Int32} {M : Mm} {q : Int32 × Mm} (hf : fX9_low a0 x1 x2 M = some q) : (mK M a0).1 = 10 := by
  unfold fX9_low at hf
  obtain ⟨u0, eu0, -⟩ := bnd hf
  exact kc_of eu0
set_option maxHeartbeats 4000000 in
set_option maxRecDepth 100000 in
theorem wX9_low_b28 {l : Launch} {Γ : Gx} {t0 w0 : Nat} {q : Int32 × Mm} (x1 : Int32) (M : Mm) (hf : fX9_low_b28 x1 M = some q) : AW l Γ yX9_low cX9_low 3 ((some .int)) 1 t0 w0 28 [(1, .int x1)] [] M (some (.int q.1)) q.2 := by
  unfold fX9_low_b28 at hf
  refine a_iload_n dX9_low_28 rfl 0 rfl ?_
  refine a_iconst (v := 4) dX9_low_29 (by decide) ?_
  refine a_icmp_ne dX9_low_30 (tgt := 37) (by decide) (fun c9 => ?_) (fun c9 => ?_)
  · replace hf := iteF hf c9
    refine a_iconst (v := 0) dX9_low_37 (by decide) ?_
    have e9 := Option.some.inj hf
    subst e9
    exact a_iret rfl dX9_low_38 rfl
  · replace hf := iteT hf c9
    refine a_iconst (v := 1) dX9_low_33 (by decide) ?_
    refine a_goto (tgt := 38) dX9_low_34 (by decide) ?_
    have e9 := Option.some.inj hf
    subst e9
    exact a_iret rfl dX9_low_38 rfl
set_option maxHeartbeats 4000000 in
set_option maxRecDepth 100000 in
theorem wX9_low_b18 {l : Launch} {Γ : Gx} {t0 w0 : Nat} {q : Int32 × Mm} (x1 : Int32) (x2 : Int32) (M : Mm) (hf : fX9_low_b18 x1 x2 M = some q) : AW l Γ yX9_low cX9_low 3 ((some .int)) 1 t0 w0 18 [(1, .int x1), (2, .int x2)] [] M (some (.int q.1)) q.2 := by
  unfold fX9_low_b18 at hf
  refine a_iload_n dX9_low_18 rfl 0 rfl ?_
  refine a_iconst (v := 2) dX9_low_19 (by decide) ?_
  refine a_icmp_ne dX9_low_20 (tgt := 28) (by decide) (fun c9 => ?_) (fun c9 => ?_)
  · replace hf := iteF hf c9
    refine AW.sub (lv1 := [(1, .int x1)]) [0] rfl ?_
    exact wX9_low_b28 _ _ hf
  · replace hf := iteT hf c9
    refine a_iload_n dX9_low_23 rfl 1 rfl ?_
    refine a_iconst (v := 2) dX9_low_24 (by decide) ?_
    refine a_icmp_eq dX9_low_25 (tgt := 33) (by decide) (fun c9 => ?_) (fun c9 => ?_)
    · replace hf := iteT hf c9
      refine a_iconst (v := 1) dX9_low_33 (by decide) ?_
      refine a_goto (tgt := 38) dX9_low_34 (by decide) ?_
      have e9 := Option.some.inj hf
      subst e9
      exact a_iret rfl dX9_low_38 rfl
    · replace hf := iteF hf c9
      refine AW.sub (lv1 := [(1, .int x1)]) [0] rfl ?_
      exact wX9_low_b28 _ _ hf
set_option maxHeartbeats 4000000 in
set_option maxRecDepth 100000 in
theorem wX9_low {l : Launch} {Γ : Gx} {a0 : Nat} {x1 : Int32} {x2 : Int32} {M : Mm} {q : Int32 × Mm} (hf : fX9_low a0 x1 x2 M = some q) : AM l Γ 1 yX9_low cX9_low 3 ((some .int)) [.ref a0, .int x1, .int x2] M (some (.int q.1)) q.2 := by
  unfold fX9_low at hf
  refine AM.of mfX9_low (Nat.le_of_ble_eq_true rfl) ?_
  generalize mT M = t0
  generalize mW M = w0
  show AW _ _ _ _ _ _ _ _ _ 0 [(0, .ref a0), (1, .int x1), (2, .int x2)] [] _ _ _
  obtain ⟨u0, eu0, hf⟩ := bnd hf
  refine a_iload_n dX9_low_0 rfl 1 rfl ?_
  refine a_if_ne dX9_low_1 (tgt := 8) (by decide) (fun c9 => ?_) (fun c9 => ?_)
  · replace hf := iteF hf c9
    refine a_iload_n dX9_low_8 rfl 1 rfl ?_
    refine a_iconst (v := 1) dX9_low_9 (by decide) ?_
    refine a_icmp_ne dX9_low_10 (tgt := 18) (by decide) (fun c9 => ?_) (fun c9 => ?_)
    · replace hf := iteF hf c9
      refine AW.sub (lv1 := [(1, .int x1), (2, .int x2)]) [1, 2] rfl ?_
      exact wX9_low_b18 _ _ _ hf
    · replace hf := iteT hf c9
      refine a_iload_n dX9_low_13 rfl 2 rfl ?_
      refine a_iconst (v := 2) dX9_low_14 (by decide) ?_
      refine a_icmp_eq dX9_low_15 (tgt := 33) (by decide) (fun c9 => ?_) (fun c9 => ?_)
      · replace hf := iteT hf c9
        refine a_iconst (v := 1) dX9_low_33 (by decide) ?_
        refine a_goto (tgt := 38) dX9_low_34 (by decide) ?_
        have e9 := Option.some.inj hf
        subst e9
        exact a_iret rfl dX9_low_38 rfl
      · replace hf := iteF hf c9
        refine AW.sub (lv1 := [(1, .int x1), (2, .int x2)]) [1, 2] rfl ?_
        exact wX9_low_b18 _ _ _ hf
  · replace hf := iteT hf c9
    refine a_iconst (v := 2) dX9_low_4 (by decide) ?_
    refine a_goto (tgt := 38) dX9_low_5 (by decide) ?_
    have e9 := Option.some.inj hf
    subst e9
    exact a_iret rfl dX9_low_38 rfl
theorem kX9_top {a0 : Nat} {x1 : Int32} {x2 : Int32} {M : Mm} {q : Int32 × Mm} (hf : fX9_top a0 x1 x2 M = some q) : (mK M a0).1 = 10 := by
  unfold fX9_top at hf
  obtain ⟨u0, eu0, -⟩ := bnd hf
  exact kc_of eu0
set_option maxHeartbeats 4000000 in
set_option maxRecDepth 100000 in
theorem wX9_top {l : Launch} {Γ : Gx} {a0 : Nat} {x1 : Int32} {x2 : Int32} {M : Mm} {q : Int32 × Mm} (hf : fX9_top a0 x1 x2 M = some q) : AM l Γ 1 yX9_top cX9_top 3 ((some .int)) [.ref a0, .int x1, .int x2] M (some (.int q.1)) q.2 := by
  unfold fX9_top at hf
  refine AM.of mfX9_top (Nat.le_of_ble_eq_true rfl) ?_
  generalize mT M = t0
  generalize mW M = w0
  show AW _ _ _ _ _ _ _ _ _ 0 [(0, .ref a0), (1, .int x1), (2, .int x2)] [] _ _ _
  obtain ⟨u0, eu0, hf⟩ := bnd hf
  refine a_iload_n dX9_top_0 rfl 1 rfl ?_
  by_cases c0 : x1 = (0 : Int32)
  · replace hf := iteT hf c0
    refine a_tableAt 0 (off := 35) (tgt := 36) dX9_top_1 ((congrArg Int32.toInt c0).trans rfl) (by decide) (by decide) ?_
    refine a_bipush (v := 24) dX9_top_36 (by decide) ?_
    have e9 := Option.some.inj hf
    subst e9
    exact a_iret rfl dX9_top_38 rfl
  · replace hf := iteF hf c0
    by_cases c1 : x1 = (1 : Int32)
    · replace hf := iteT hf c1
      refine a_tableAt 1 (off := 38) (tgt := 39) dX9_top_1 ((congrArg Int32.toInt c1).trans rfl) (by decide) (by decide) ?_
      refine a_iload_n dX9_top_39 rfl 2 rfl ?_
      refine a_if_ne dX9_top_40 (tgt := 48) (by decide) (fun c9 => ?_) (fun c9 => ?_)
      · replace hf := iteF hf c9
        refine a_iload_n dX9_top_48 rfl 2 rfl ?_
        refine a_iconst (v := 1) dX9_top_49 (by decide) ?_
        refine a_icmp_ne dX9_top_50 (tgt := 62) (by decide) (fun c9 => ?_) (fun c9 => ?_)
        · replace hf := iteF hf c9
          refine a_iload_n dX9_top_62 rfl 2 rfl ?_
          refine a_iconst (v := 2) dX9_top_63 (by decide) ?_
          refine a_icmp_ne dX9_top_64 (tgt := 72) (by decide) (fun c9 => ?_) (fun c9 => ?_)
          · replace hf := iteF hf c9
            refine a_sipush (v := 255) dX9_top_72 (by decide) ?_
            have e9 := Option.some.inj hf
            subst e9
            exact a_iret rfl dX9_top_75 rfl
          · replace hf := iteT hf c9
            refine a_bipush (v := 10) dX9_top_67 (by decide) ?_
            refine a_goto (tgt := 75) dX9_top_69 (by decide) ?_
            have e9 := Option.some.inj hf
            subst e9
            exact a_iret rfl dX9_top_75 rfl
        · replace hf := iteT hf c9
          refine a_aload_n dX9_top_53 rfl 0 rfl ?_
          obtain ⟨v1_, ev1_, hf⟩ := bnd hf
          refine a_getI dX9_top_54 flX9_7 rfl ev1_ ?_
          refine a_iconst (v := 1) dX9_top_57 (by decide) ?_
          refine a_isub dX9_top_58 ?_
          refine a_goto (tgt := 75) dX9_top_59 (by decide) ?_
          have e9 := Option.some.inj hf
          subst e9
          exact a_iret rfl dX9_top_75 rfl
      · replace hf := iteT hf c9
        refine a_bipush (v := 6) dX9_top_43 (by decide) ?_
        refine a_goto (tgt := 75) dX9_top_45 (by decide) ?_
        have e9 := Option.some.inj hf
        subst e9
        exact a_iret rfl dX9_top_75 rfl
    · replace hf := iteF hf c1
      by_cases c2 : x1 = (2 : Int32)
      · replace hf := iteT hf c2
        refine a_tableAt 2 (off := 75) (tgt := 76) dX9_top_1 ((congrArg Int32.toInt c2).trans rfl) (by decide) (by decide) ?_
        refine a_iload_n dX9_top_76 rfl 2 rfl ?_
        refine a_if_ne dX9_top_77 (tgt := 89) (by decide) (fun c9 => ?_) (fun c9 => ?_)
        · replace hf := iteF hf c9
          refine a_iload_n dX9_top_89 rfl 2 rfl ?_
          refine a_iconst (v := 1) dX9_top_90 (by decide) ?_
          refine a_icmp_ne dX9_top_91 (tgt := 98) (by decide) (fun c9 => ?_) (fun c9 => ?_)
          · replace hf := iteF hf c9
            refine a_bipush (v := 10) dX9_top_98 (by decide) ?_
            have e9 := Option.some.inj hf
            subst e9
            exact a_iret rfl dX9_top_100 rfl
          · replace hf := iteT hf c9
            refine a_iconst (v := 1) dX9_top_94 (by decide) ?_
            refine a_goto (tgt := 100) dX9_top_95 (by decide) ?_
            have e9 := Option.some.inj hf
            subst e9
            exact a_iret rfl dX9_top_100 rfl
        · replace hf := iteT hf c9
          refine a_aload_n dX9_top_80 rfl 0 rfl ?_
          obtain ⟨v2_, ev2_, hf⟩ := bnd hf
          refine a_getI dX9_top_81 flX9_7 rfl ev2_ ?_
          refine a_iconst (v := 1) dX9_top_84 (by decide) ?_
          refine a_isub dX9_top_85 ?_
          refine a_goto (tgt := 100) dX9_top_86 (by decide) ?_
          have e9 := Option.some.inj hf
          subst e9
          exact a_iret rfl dX9_top_100 rfl
      · replace hf := iteF hf c2
        by_cases c3 : x1 = (3 : Int32)
        · replace hf := iteT hf c3
          refine a_tableAt 3 (off := 100) (tgt := 101) dX9_top_1 ((congrArg Int32.toInt c3).trans rfl) (by decide) (by decide) ?_
          refine a_iload_n dX9_top_101 rfl 2 rfl ?_
          refine a_if_ne dX9_top_102 (tgt := 110) (by decide) (fun c9 => ?_) (fun c9 => ?_)
          · replace hf := iteF hf c9
            refine a_bipush (v := 10) dX9_top_110 (by decide) ?_
            refine a_aload_n dX9_top_112 rfl 0 rfl ?_
            obtain ⟨o3_, eo3_, hf⟩ := bnd hf
            refine a_getR dX9_top_113 flX9_84 rfl eo3_ ?_
            refine a_iconst (v := 0) dX9_top_116 (by decide) ?_
            obtain ⟨v4_, ev4_, hf⟩ := bnd hf
            refine a_iald dX9_top_117 ev4_ ?_
            refine a_isub dX9_top_118 ?_
            have e9 := Option.some.inj hf
            subst e9
            exact a_iret rfl dX9_top_119 rfl
          · replace hf := iteT hf c9
            refine a_bipush (v := 10) dX9_top_105 (by decide) ?_
            refine a_goto (tgt := 119) dX9_top_107 (by decide) ?_
            have e9 := Option.some.inj hf
            subst e9
            exact a_iret rfl dX9_top_119 rfl
        · replace hf := iteF hf c3
          by_cases c4 : x1 = (4 : Int32)
          · replace hf := iteT hf c4
            refine a_tableAt 4 (off := 119) (tgt := 120) dX9_top_1 ((congrArg Int32.toInt c4).trans rfl) (by decide) (by decide) ?_
            refine a_bipush (v := 9) dX9_top_120 (by decide) ?_
            have e9 := Option.some.inj hf
            subst e9
            exact a_iret rfl dX9_top_122 rfl
          · replace hf := iteF hf c4
            refine a_tableOut (tgt := 123) dX9_top_1 (by have nc0 := swne c0 (k9 := 0) rfl; have nc1 := swne c1 (k9 := 1) rfl; have nc2 := swne c2 (k9 := 2) rfl; have nc3 := swne c3 (k9 := 3) rfl; have nc4 := swne c4 (k9 := 4) rfl; omega) (by decide) ?_
            refine a_bipush (v := 7) dX9_top_123 (by decide) ?_
            have e9 := Option.some.inj hf
            subst e9
            exact a_iret rfl dX9_top_125 rfl
theorem kX9_isDigit {a0 : Nat} {M : Mm} {q : Int32 × Mm} (hf : fX9_isDigit a0 M = some q) : (mK M a0).1 = 10 := by
  unfold fX9_isDigit at hf
  obtain ⟨u0, eu0, -⟩ := bnd hf
  exact kc_of eu0
set_option maxHeartbeats 4000000 in
set_option maxRecDepth 100000 in
theorem wX9_isDigit {l : Launch} {Γ : Gx} {a0 : Nat} {M : Mm} {q : Int32 × Mm} (hf : fX9_isDigit a0 M = some q) : AM l Γ 1 yX9_isDigit cX9_isDigit 1 ((some .boolean)) [.ref a0] M (some (.int q.1)) q.2 := by
  unfold fX9_isDigit at hf
  refine AM.of mfX9_isDigit (Nat.le_of_ble_eq_true rfl) ?_
  generalize mT M = t0
  generalize mW M = w0
  show AW _ _ _ _ _ _ _ _ _ 0 [(0, .ref a0)] [] _ _ _
  obtain ⟨u0, eu0, hf⟩ := bnd hf
  refine a_aload_n dX9_isDigit_0 rfl 0 rfl ?_
  obtain ⟨v1_, ev1_, hf⟩ := bnd hf
  refine a_getI dX9_isDigit_1 flX9_176 rfl ev1_ ?_
  refine a_aload_n dX9_isDigit_4 rfl 0 rfl ?_
  obtain ⟨v2_, ev2_, hf⟩ := bnd hf
  refine a_getI dX9_isDigit_5 flX9_179 rfl ev2_ ?_
  refine a_icmp_ge dX9_isDigit_8 (tgt := 55) (by decide) (fun c9 => ?_) (fun c9 => ?_)
  · replace hf := iteT hf c9
    refine a_iconst (v := 0) dX9_isDigit_55 (by decide) ?_
    have e9 := Option.some.inj hf
    subst e9
    exact a_zret rfl rfl dX9_isDigit_56 rfl
  · replace hf := iteF hf c9
    refine a_aload_n dX9_isDigit_11 rfl 0 rfl ?_
    obtain ⟨o3_, eo3_, hf⟩ := bnd hf
    refine a_getR dX9_isDigit_12 flX9_75 rfl eo3_ ?_
    refine a_aload_n dX9_isDigit_15 rfl 0 rfl ?_
    obtain ⟨v4_, ev4_, hf⟩ := bnd hf
    refine a_getI dX9_isDigit_16 flX9_182 rfl ev4_ ?_
    refine a_aload_n dX9_isDigit_19 rfl 0 rfl ?_
    obtain ⟨v5_, ev5_, hf⟩ := bnd hf
    refine a_getI dX9_isDigit_20 flX9_176 rfl ev5_ ?_
    refine a_iadd dX9_isDigit_23 ?_
    obtain ⟨v6_, ev6_, hf⟩ := bnd hf
    refine a_lald dX9_isDigit_24 ev6_ ?_
    refine a_l2i dX9_isDigit_25 ?_
    refine a_bipush (v := 48) dX9_isDigit_26 (by decide) ?_
    refine a_icmp_lt dX9_isDigit_28 (tgt := 55) (by decide) (fun c9 => ?_) (fun c9 => ?_)
    · replace hf := iteT hf c9
      refine a_iconst (v := 0) dX9_isDigit_55 (by decide) ?_
      have e9 := Option.some.inj hf
      subst e9
      exact a_zret rfl rfl dX9_isDigit_56 rfl
    · replace hf := iteF hf c9
      refine a_aload_n dX9_isDigit_31 rfl 0 rfl ?_
      obtain ⟨o7_, eo7_, hf⟩ := bnd hf
      refine a_getR dX9_isDigit_32 flX9_75 rfl eo7_ ?_
      refine a_aload_n dX9_isDigit_35 rfl 0 rfl ?_
      obtain ⟨v8_, ev8_, hf⟩ := bnd hf
      refine a_getI dX9_isDigit_36 flX9_182 rfl ev8_ ?_
      refine a_aload_n dX9_isDigit_39 rfl 0 rfl ?_
      obtain ⟨v9_, ev9_, hf⟩ := bnd hf
      refine a_getI dX9_isDigit_40 flX9_176 rfl ev9_ ?_
      refine a_iadd dX9_isDigit_43 ?_
      obtain ⟨v10_, ev10_, hf⟩ := bnd hf
      refine a_lald dX9_isDigit_44 ev10_ ?_
      refine a_l2i dX9_isDigit_45 ?_
      refine a_bipush (v := 57) dX9_isDigit_46 (by decide) ?_
      refine a_icmp_gt dX9_isDigit_48 (tgt := 55) (by decide) (fun c9 => ?_) (fun c9 => ?_)
      · replace hf := iteT hf c9
        refine a_iconst (v := 0) dX9_isDigit_55 (by decide) ?_
        have e9 := Option.some.inj hf
        subst e9
        exact a_zret rfl rfl dX9_isDigit_56 rfl
      · replace hf := iteF hf c9
        refine a_iconst (v := 1) dX9_isDigit_51 (by decide) ?_
        refine a_goto (tgt := 56) dX9_isDigit_52 (by decide) ?_
        have e9 := Option.some.inj hf
        subst e9
        exact a_zret rfl rfl dX9_isDigit_56 rfl
theorem kX9_number {a0 : Nat} {x1 : Int32} {x2 : Int32} {M : Mm} {q : Int32 × Mm} (hf : fX9_number a0 x1 x2 M = some q) : (mK M a0).1 = 10 := by
  unfold fX9_number at hf
  obtain ⟨u0, eu0, -⟩ := bnd hf
  exact kc_of eu0
set_option maxHeartbeats 4000000 in
set_option maxRecDepth 100000 in
theorem wX9_number_b104 {l : Launch} {Γ : Gx} {t0 w0 : Nat} {q : Int32 × Mm} (a0 : Nat) (x3 : Int32) (M : Mm) (hf : fX9_number_b104 a0 x3 M = some q) : AW l Γ yX9_number cX9_number 5 ((some .boolean)) 2 t0 w0 104 [(0, .ref a0), (3, .int x3)] [] M (some (.int q.1)) q.2 := by
  unfold fX9_number_b104 at hf
  refine a_aload_n dX9_number_104 rfl 0 rfl ?_
  refine a_iload_n dX9_number_105 rfl 1 rfl ?_
  obtain ⟨q1_, eq1_, hf⟩ := bnd hf
  refine a_callV (As := [.int x3]) (rest := []) dX9_number_106 mfX9_wrong cvX9_192 (wX9_wrong eq1_) rc9 (kX9_wrong eq1_) (by decide) rfl rfl (Nat.le_of_ble_eq_true rfl) ?_
  refine a_if_eq dX9_number_109 (tgt := 116) (by decide) (fun c9 => ?_) (fun c9 => ?_)
  · replace hf := iteT hf c9
    refine a_iconst (v := 0) dX9_number_116 (by decide) ?_
    have e9 := Option.some.inj hf
    subst e9
    exact a_zret rfl rfl dX9_number_117 rfl
  · replace hf := iteF hf c9
    refine a_iconst (v := 1) dX9_number_112 (by decide) ?_
    refine a_goto (tgt := 117) dX9_number_113 (by decide) ?_
    have e9 := Option.some.inj hf
    subst e9
    exact a_zret rfl rfl dX9_number_117 rfl
set_option maxHeartbeats 4000000 in
set_option maxRecDepth 100000 in
theorem wX9_number_b88 {l : Launch} {Γ : Gx} {t0 w0 : Nat} {q : Int32 × Mm} (a0 : Nat) (x1 : Int32) (x2 : Int32) (x3 : Int32) (M : Mm) (hf : fX9_number_b88 a0 x1 x2 x3 M = some q) : AW l Γ yX9_number cX9_number 5 ((some .boolean)) 2 t0 w0 88 [(0, .ref a0), (1, .int x1), (2, .int x2), (3, .int x3)] [] M (some (.int q.1)) q.2 := by
  unfold fX9_number_b88 at hf
  refine a_aload_n dX9_number_88 rfl 0 rfl ?_
  obtain ⟨v1_, ev1_, hf⟩ := bnd hf
  refine a_getI dX9_number_89 flX9_185 rfl ev1_ ?_
  refine a_iload_n dX9_number_92 rfl 1 rfl ?_
  refine a_icmp_lt dX9_number_93 (tgt := 104) (by decide) (fun c9 => ?_) (fun c9 => ?_)
  · replace hf := iteT hf c9
    refine AW.sub (lv1 := [(0, .ref a0), (3, .int x3)]) [0, 3] rfl ?_
    exact wX9_number_b104 _ _ _ hf
  · replace hf := iteF hf c9
    refine a_aload_n dX9_number_96 rfl 0 rfl ?_
    obtain ⟨v2_, ev2_, hf⟩ := bnd hf
    refine a_getI dX9_number_97 flX9_185 rfl ev2_ ?_
    refine a_iload_n dX9_number_100 rfl 2 rfl ?_
    refine a_icmp_le dX9_number_101 (tgt := 112) (by decide) (fun c9 => ?_) (fun c9 => ?_)
    · replace hf := iteT hf c9
      refine a_iconst (v := 1) dX9_number_112 (by decide) ?_
      refine a_goto (tgt := 117) dX9_number_113 (by decide) ?_
      have e9 := Option.some.inj hf
      subst e9
      exact a_zret rfl rfl dX9_number_117 rfl
    · replace hf := iteF hf c9
      refine AW.sub (lv1 := [(0, .ref a0), (3, .int x3)]) [0, 3] rfl ?_
      exact wX9_number_b104 _ _ _ hf
set_option maxHeartbeats 4000000 in
set_option maxRecDepth 100000 in
theorem wX9_number_b29 {l : Launch} {Γ : Gx} {t0 w0 : Nat} {q : Int32 × Mm} : ∀ (n : Nat) (a0 : Nat) (x1 : Int32) (x2 : Int32) (x3 : Int32) (x4 : Int32) (M : Mm), fX9_number_b29 n a0 x1 x2 x3 x4 M = some q → AW l Γ yX9_number cX9_number 5 ((some .boolean)) 2 t0 w0 29 [(0, .ref a0), (1, .int x1), (2, .int x2), (3, .int x3), (4, .int x4)] [] M (some (.int q.1)) q.2 := by
  intro n
  induction n with
  | zero =>
    intro a0 x1 x2 x3 x4 M hf
    cases hf
  | succ n ih =>
    intro a0 x1 x2 x3 x4 M hf
    rw [fX9_number_b29.eq_2] at hf
    refine a_iload dX9_number_29 4 rfl ?_
    refine a_iconst (v := 3) dX9_number_31 (by decide) ?_
    refine a_icmp_ge dX9_number_32 (tgt := 88) (by decide) (fun c9 => ?_) (fun c9 => ?_)
    · replace hf := iteT hf c9
      refine AW.sub (lv1 := [(0, .ref a0), (1, .int x1), (2, .int x2), (3, .int x3)]) [0, 1, 2, 3] rfl ?_
      exact wX9_number_b88 _ _ _ _ _ hf
    · replace hf := iteF hf c9
      refine a_aload_n dX9_number_35 rfl 0 rfl ?_
      obtain ⟨q1_, eq1_, hf⟩ := bnd hf
      refine a_callV (As := []) (rest := []) dX9_number_36 mfX9_isDigit cvX9_188 (wX9_isDigit eq1_) rc9 (kX9_isDigit eq1_) (by decide) rfl rfl (Nat.le_of_ble_eq_true rfl) ?_
      refine a_if_eq dX9_number_39 (tgt := 88) (by decide) (fun c9 => ?_) (fun c9 => ?_)
      · replace hf := iteT hf c9
        refine AW.sub (lv1 := [(0, .ref a0), (1, .int x1), (2, .int x2), (3, .int x3)]) [0, 1, 2, 3] rfl ?_
        exact wX9_number_b88 _ _ _ _ _ hf
      · replace hf := iteF hf c9
        refine a_aload_n dX9_number_42 rfl 0 rfl ?_
        refine a_bipush (v := 10) dX9_number_43 (by decide) ?_
        refine a_aload_n dX9_number_45 rfl 0 rfl ?_
        obtain ⟨v2_, ev2_, hf⟩ := bnd hf
        refine a_getI dX9_number_46 flX9_185 rfl ev2_ ?_
        refine a_imul dX9_number_49 ?_
        refine a_aload_n dX9_number_50 rfl 0 rfl ?_
        obtain ⟨o3_, eo3_, hf⟩ := bnd hf
        refine a_getR dX9_number_51 flX9_75 rfl eo3_ ?_
        refine a_aload_n dX9_number_54 rfl 0 rfl ?_
        obtain ⟨v4_, ev4_, hf⟩ := bnd hf
        refine a_getI dX9_number_55 flX9_182 rfl ev4_ ?_
        refine a_aload_n dX9_number_58 rfl 0 rfl ?_
        obtain ⟨v5_, ev5_, hf⟩ := bnd hf
        refine a_getI dX9_number_59 flX9_176 rfl ev5_ ?_
        refine a_iadd dX9_number_62 ?_
        obtain ⟨v6_, ev6_, hf⟩ := bnd hf
        refine a_lald dX9_number_63 ev6_ ?_
        refine a_l2i dX9_number_64 ?_
        refine a_iadd dX9_number_65 ?_
        refine a_bipush (v := 48) dX9_number_66 (by decide) ?_
        refine a_isub dX9_number_68 ?_
        obtain ⟨M7_, eM7_, hf⟩ := bnd hf
        refine a_putI dX9_number_69 fpX9_185 rfl (Or.inr nf9_35) eM7_ ?_
        refine a_aload_n dX9_number_72 rfl 0 rfl ?_
        refine a_dup dX9_number_73 rfl ?_
        obtain ⟨v8_, ev8_, hf⟩ := bnd hf
        refine a_getI dX9_number_74 flX9_176 rfl ev8_ ?_
        refine a_iconst (v := 1) dX9_number_77 (by decide) ?_
        refine a_iadd dX9_number_78 ?_
        obtain ⟨M9_, eM9_, hf⟩ := bnd hf
        refine a_putI dX9_number_79 fpX9_176 rfl (Or.inr nf9_33) eM9_ ?_
        refine a_iinc (v := x4 + (1 : Int32)) (lv1 := [(4, .int (x4 + (1 : Int32))), (0, .ref a0), (1, .int x1), (2, .int x2), (3, .int x3)]) dX9_number_82 4 rfl rfl (by decide) rfl ?_
        refine a_goto (tgt := 29) dX9_number_85 (by decide) ?_
        refine AW.sub (lv1 := [(0, .ref a0), (1, .int x1), (2, .int x2), (3, .int x3), (4, .int (x4 + (1 : Int32)))]) [1, 2, 3, 4, 0] rfl ?_
        exact ih _ _ _ _ _ _ hf
set_option maxHeartbeats 4000000 in
set_option maxRecDepth 100000 in
theorem wX9_number {l : Launch} {Γ : Gx} {a0 : Nat} {x1 : Int32} {x2 : Int32} {M : Mm} {q : Int32 × Mm} (hf : fX9_number a0 x1 x2 M = some q) : AM l Γ 2 yX9_number cX9_number 5 ((some .boolean)) [.ref a0, .int x1, .int x2] M (some (.int q.1)) q.2 := by
  unfold fX9_number at hf
  refine AM.of mfX9_number (Nat.le_of_ble_eq_true rfl) ?_
  generalize mT M = t0
  generalize mW M = w0
  show AW _ _ _ _ _ _ _ _ _ 0 [(0, .ref a0), (1, .int x1), (2, .int x2)] [] _ _ _
  obtain ⟨u0, eu0, hf⟩ := bnd hf
  refine a_aload_n dX9_number_0 rfl 0 rfl ?_
  obtain ⟨v1_, ev1_, hf⟩ := bnd hf
  refine a_getI dX9_number_1 flX9_176 rfl ev1_ ?_
  refine a_istore_n (i := 3) (lv1 := [(3, .int v1_), (0, .ref a0), (1, .int x1), (2, .int x2)]) dX9_number_4 rfl (by decide) rfl ?_
  refine a_aload_n dX9_number_5 rfl 1 rfl ?_
  refine a_iconst (v := 0) dX9_number_6 (by decide) ?_
  obtain ⟨M2_, eM2_, hf⟩ := bnd hf
  refine a_putI dX9_number_7 fpX9_185 rfl (Or.inr nf9_35) eM2_ ?_
  refine a_aload_n dX9_number_10 rfl 1 rfl ?_
  obtain ⟨q3_, eq3_, hf⟩ := bnd hf
  refine a_callV (As := []) (rest := []) dX9_number_11 mfX9_isDigit cvX9_188 (wX9_isDigit eq3_) rc9 (kX9_isDigit eq3_) (by decide) rfl rfl (Nat.le_of_ble_eq_true rfl) ?_
  refine a_if_ne dX9_number_14 (tgt := 26) (by decide) (fun c9 => ?_) (fun c9 => ?_)
  · replace hf := iteF hf c9
    refine a_iconst (v := 0) dX9_number_26 (by decide) ?_
    refine a_istore (i := 4) (lv1 := [(4, .int ((0 : Int32))), (3, .int v1_), (0, .ref a0), (1, .int x1), (2, .int x2)]) dX9_number_27 (by decide) rfl ?_
    refine AW.sub (lv1 := [(0, .ref a0), (1, .int x1), (2, .int x2), (3, .int v1_), (4, .int ((0 : Int32)))]) [2, 3, 4, 1, 0] rfl ?_
    exact wX9_number_b29 _ _ _ _ _ _ _ hf
  · replace hf := iteT hf c9
    refine a_aload_n dX9_number_17 rfl 1 rfl ?_
    refine a_aload_n dX9_number_18 rfl 1 rfl ?_
    obtain ⟨v4_, ev4_, hf⟩ := bnd hf
    refine a_getI dX9_number_19 flX9_176 rfl ev4_ ?_
    obtain ⟨q5_, eq5_, hf⟩ := bnd hf
    refine a_callV (As := [.int v4_]) (rest := []) dX9_number_22 mfX9_wrong cvX9_192 (wX9_wrong eq5_) rc9 (kX9_wrong eq5_) (by decide) rfl rfl (Nat.le_of_ble_eq_true rfl) ?_
    obtain ⟨v6_, ev6_, hf⟩ := bnd hf
    have e9 := Option.some.inj hf
    subst e9
    exact a_zretZ rfl dX9_number_25 ev6_ rfl
theorem kX9_item {a0 : Nat} {M : Mm} {q : Int32 × Mm} (hf : fX9_item a0 M = some q) : (mK M a0).1 = 10 := by
  unfold fX9_item at hf
  obtain ⟨u0, eu0, -⟩ := bnd hf
  exact kc_of eu0
set_option maxHeartbeats 4000000 in
set_option maxRecDepth 100000 in
theorem wX9_item_b183 {l : Launch} {Γ : Gx} {t0 w0 : Nat} {q : Int32 × Mm} (k122 : Nat → Int32 → Int32 → Int32 → Mm → Option (Int32 × Mm)) (hk122 : ∀ (a0 : Nat) (x2 : Int32) (x3 : Int32) (x4 : Int32) (M : Mm), k122 a0 x2 x3 x4 M = some q → AW l Γ yX9_item cX9_item 5 ((some .boolean)) 3 t0 w0 122 [(0, .ref a0), (2, .int x2), (3, .int x3), (4, .int x4)] [] M (some (.int q.1)) q.2) (a0 : Nat) (x2 : Int32) (x3 : Int32) (x4 : Int32) (M : Mm) (hf : fX9_item_b183 k122 a0 x2 x3 x4 M = some q) : AW l Γ yX9_item cX9_item 5 ((some .boolean)) 3 t0 w0 183 [(0, .ref a0), (2, .int x2), (3, .int x3), (4, .int x4)] [] M (some (.int q.1)) q.2 := by
  unfold fX9_item_b183 at hf
  refine a_aload_n dX9_item_183 rfl 0 rfl ?_
  refine a_aload_n dX9_item_184 rfl 0 rfl ?_
  refine a_iload_n dX9_item_185 rfl 1 rfl ?_
  refine a_iload dX9_item_186 3 rfl ?_
  obtain ⟨q1_, eq1_, hf⟩ := bnd hf
  refine a_callV (As := [.int x2, .int x4]) (rest := [.ref a0]) dX9_item_188 mfX9_low cvX9_205 (wX9_low eq1_) rc9 (kX9_low eq1_) (by decide) rfl rfl (Nat.le_of_ble_eq_true rfl) ?_
  refine a_aload_n dX9_item_191 rfl 0 rfl ?_
  refine a_iload_n dX9_item_192 rfl 1 rfl ?_
  refine a_iload dX9_item_193 3 rfl ?_
  obtain ⟨q2_, eq2_, hf⟩ := bnd hf
  refine a_callV (As := [.int x2, .int x4]) (rest := [.int q1_.1, .ref a0]) dX9_item_195 mfX9_top cvX9_208 (wX9_top eq2_) rc9 (kX9_top eq2_) (by decide) rfl rfl (Nat.le_of_ble_eq_true rfl) ?_
  obtain ⟨q3_, eq3_, hf⟩ := bnd hf
  refine a_callV (As := [.int q1_.1, .int q2_.1]) (rest := []) dX9_item_198 mfX9_number cvX9_211 (wX9_number eq3_) rc9 (kX9_number eq3_) (by decide) rfl rfl (Nat.le_of_ble_eq_true rfl) ?_
  refine a_if_ne dX9_item_201 (tgt := 206) (by decide) (fun c9 => ?_) (fun c9 => ?_)
  · replace hf := iteF hf c9
    refine a_aload_n dX9_item_206 rfl 0 rfl ?_
    obtain ⟨o4_, eo4_, hf⟩ := bnd hf
    refine a_getR dX9_item_207 flX9_84 rfl eo4_ ?_
    refine a_iload dX9_item_210 3 rfl ?_
    refine a_aload_n dX9_item_212 rfl 0 rfl ?_
    obtain ⟨v5_, ev5_, hf⟩ := bnd hf
    refine a_getI dX9_item_213 flX9_185 rfl ev5_ ?_
    obtain ⟨M6_, eM6_, hf⟩ := bnd hf
    refine a_iast dX9_item_216 eM6_ ?_
    refine a_iinc (v := x4 + (1 : Int32)) (lv1 := [(4, .int (x4 + (1 : Int32))), (0, .ref a0), (2, .int x2), (3, .int x3)]) dX9_item_217 3 rfl rfl (by decide) rfl ?_
    refine a_goto (tgt := 122) dX9_item_220 (by decide) ?_
    refine AW.sub (lv1 := [(0, .ref a0), (2, .int x2), (3, .int x3), (4, .int (x4 + (1 : Int32)))]) [1, 2, 3, 0] rfl ?_
    exact hk122 _ _ _ _ _ hf
  · replace hf := iteT hf c9
    refine a_iconst (v := 0) dX9_item_204 (by decide) ?_
    have e9 := Option.some.inj hf
    subst e9
    exact a_zret rfl rfl dX9_item_205 rfl
set_option maxHeartbeats 4000000 in
set_option maxRecDepth 100000 in
theorem wX9_item_b122 {l : Launch} {Γ : Gx} {t0 w0 : Nat} {q : Int32 × Mm} : ∀ (n : Nat) (a0 : Nat) (x2 : Int32) (x3 : Int32) (x4 : Int32) (M : Mm), fX9_item_b122 n a0 x2 x3 x4 M = some q → AW l Γ yX9_item cX9_item 5 ((some .boolean)) 3 t0 w0 122 [(0, .ref a0), (2, .int x2), (3, .int x3), (4, .int x4)] [] M (some (.int q.1)) q.2 := by
  intro n
  induction n with
  | zero =>
    intro a0 x2 x3 x4 M hf
    cases hf
  | succ n ih =>
    intro a0 x2 x3 x4 M hf
    rw [fX9_item_b122.eq_2] at hf
    refine a_iload dX9_item_122 3 rfl ?_
    refine a_iload_n dX9_item_124 rfl 2 rfl ?_
    refine a_icmp_ge dX9_item_125 (tgt := 223) (by decide) (fun c9 => ?_) (fun c9 => ?_)
    · replace hf := iteT hf c9
      refine a_iload_n dX9_item_223 rfl 1 rfl ?_
      by_cases c0 : x2 = (0 : Int32)
      · replace hf := iteT hf c0
        refine a_tableAt 0 (off := 36) (tgt := 260) dX9_item_224 ((congrArg Int32.toInt c0).trans rfl) (by decide) (by decide) ?_
        refine a_aload_n dX9_item_260 rfl 0 rfl ?_
        refine a_aload_n dX9_item_261 rfl 0 rfl ?_
        obtain ⟨o1_, eo1_, hf⟩ := bnd hf
        refine a_getR dX9_item_262 flX9_84 rfl eo1_ ?_
        refine a_iconst (v := 0) dX9_item_265 (by decide) ?_
        obtain ⟨v2_, ev2_, hf⟩ := bnd hf
        refine a_iald dX9_item_266 ev2_ ?_
        obtain ⟨M3_, eM3_, hf⟩ := bnd hf
        refine a_callV (As := [.int v2_]) (rest := []) dX9_item_267 mfX9_along cvX9_146 (wX9_along eM3_) rc9 (kX9_along eM3_) (by decide) rfl rfl (Nat.le_of_ble_eq_true rfl) ?_
        refine a_goto (tgt := 377) dX9_item_270 (by decide) ?_
        refine a_iconst (v := 1) dX9_item_377 (by decide) ?_
        have e9 := Option.some.inj hf
        subst e9
        exact a_zret rfl rfl dX9_item_378 rfl
      · replace hf := iteF hf c0
        by_cases c1 : x2 = (1 : Int32)
        · replace hf := iteT hf c1
          refine a_tableAt 1 (off := 49) (tgt := 273) dX9_item_224 ((congrArg Int32.toInt c1).trans rfl) (by decide) (by decide) ?_
          refine a_aload_n dX9_item_273 rfl 0 rfl ?_
          refine a_aload_n dX9_item_274 rfl 0 rfl ?_
          obtain ⟨o4_, eo4_, hf⟩ := bnd hf
          refine a_getR dX9_item_275 flX9_84 rfl eo4_ ?_
          refine a_iconst (v := 0) dX9_item_278 (by decide) ?_
          obtain ⟨v5_, ev5_, hf⟩ := bnd hf
          refine a_iald dX9_item_279 ev5_ ?_
          refine a_aload_n dX9_item_280 rfl 0 rfl ?_
          obtain ⟨o6_, eo6_, hf⟩ := bnd hf
          refine a_getR dX9_item_281 flX9_84 rfl eo6_ ?_
          refine a_iconst (v := 1) dX9_item_284 (by decide) ?_
          obtain ⟨v7_, ev7_, hf⟩ := bnd hf
          refine a_iald dX9_item_285 ev7_ ?_
          refine a_aload_n dX9_item_286 rfl 0 rfl ?_
          obtain ⟨o8_, eo8_, hf⟩ := bnd hf
          refine a_getR dX9_item_287 flX9_84 rfl eo8_ ?_
          refine a_iconst (v := 2) dX9_item_290 (by decide) ?_
          obtain ⟨v9_, ev9_, hf⟩ := bnd hf
          refine a_iald dX9_item_291 ev9_ ?_
          refine a_aload_n dX9_item_292 rfl 0 rfl ?_
          obtain ⟨o10_, eo10_, hf⟩ := bnd hf
          refine a_getR dX9_item_293 flX9_84 rfl eo10_ ?_
          refine a_iconst (v := 3) dX9_item_296 (by decide) ?_
          obtain ⟨v11_, ev11_, hf⟩ := bnd hf
          refine a_iald dX9_item_297 ev11_ ?_
          obtain ⟨q12_, eq12_, hf⟩ := bnd hf
          refine a_callV (As := [.int v5_, .int v7_, .int v9_, .int v11_]) (rest := []) dX9_item_298 mfX9_signs cvX9_154 (wX9_signs eq12_) rc9 (kX9_signs eq12_) (by decide) rfl rfl (Nat.le_of_ble_eq_true rfl) ?_
          refine a_pop dX9_item_301 rfl ?_
          refine a_goto (tgt := 377) dX9_item_302 (by decide) ?_
          refine a_iconst (v := 1) dX9_item_377 (by decide) ?_
          have e9 := Option.some.inj hf
          subst e9
          exact a_zret rfl rfl dX9_item_378 rfl
        · replace hf := iteF hf c1
          by_cases c2 : x2 = (2 : Int32)
          · replace hf := iteT hf c2
            refine a_tableAt 2 (off := 81) (tgt := 305) dX9_item_224 ((congrArg Int32.toInt c2).trans rfl) (by decide) (by decide) ?_
            refine a_aload_n dX9_item_305 rfl 0 rfl ?_
            refine a_aload_n dX9_item_306 rfl 0 rfl ?_
            obtain ⟨o13_, eo13_, hf⟩ := bnd hf
            refine a_getR dX9_item_307 flX9_84 rfl eo13_ ?_
            refine a_iconst (v := 0) dX9_item_310 (by decide) ?_
            obtain ⟨v14_, ev14_, hf⟩ := bnd hf
            refine a_iald dX9_item_311 ev14_ ?_
            refine a_aload_n dX9_item_312 rfl 0 rfl ?_
            obtain ⟨o15_, eo15_, hf⟩ := bnd hf
            refine a_getR dX9_item_313 flX9_84 rfl eo15_ ?_
            refine a_iconst (v := 1) dX9_item_316 (by decide) ?_
            obtain ⟨v16_, ev16_, hf⟩ := bnd hf
            refine a_iald dX9_item_317 ev16_ ?_
            refine a_aload_n dX9_item_318 rfl 0 rfl ?_
            obtain ⟨o17_, eo17_, hf⟩ := bnd hf
            refine a_getR dX9_item_319 flX9_84 rfl eo17_ ?_
            refine a_iconst (v := 2) dX9_item_322 (by decide) ?_
            obtain ⟨v18_, ev18_, hf⟩ := bnd hf
            refine a_iald dX9_item_323 ev18_ ?_
            obtain ⟨q19_, eq19_, hf⟩ := bnd hf
            refine a_callV (As := [.int v14_, .int v16_, .int v18_]) (rest := []) dX9_item_324 mfX9_stands cvX9_157 (wX9_stands eq19_) rc9 (kX9_stands eq19_) (by decide) rfl rfl (Nat.le_of_ble_eq_true rfl) ?_
            refine a_pop dX9_item_327 rfl ?_
            refine a_goto (tgt := 377) dX9_item_328 (by decide) ?_
            refine a_iconst (v := 1) dX9_item_377 (by decide) ?_
            have e9 := Option.some.inj hf
            subst e9
            exact a_zret rfl rfl dX9_item_378 rfl
          · replace hf := iteF hf c2
            by_cases c3 : x2 = (3 : Int32)
            · replace hf := iteT hf c3
              refine a_tableAt 3 (off := 107) (tgt := 331) dX9_item_224 ((congrArg Int32.toInt c3).trans rfl) (by decide) (by decide) ?_
              refine a_aload_n dX9_item_331 rfl 0 rfl ?_
              refine a_aload_n dX9_item_332 rfl 0 rfl ?_
              obtain ⟨o20_, eo20_, hf⟩ := bnd hf
              refine a_getR dX9_item_333 flX9_84 rfl eo20_ ?_
              refine a_iconst (v := 0) dX9_item_336 (by decide) ?_
              obtain ⟨v21_, ev21_, hf⟩ := bnd hf
              refine a_iald dX9_item_337 ev21_ ?_
              obtain ⟨M22_, eM22_, hf⟩ := bnd hf
              refine a_putI dX9_item_338 fpX9_13 rfl (Or.inr nf9_1) eM22_ ?_
              refine a_aload_n dX9_item_341 rfl 0 rfl ?_
              refine a_aload_n dX9_item_342 rfl 0 rfl ?_
              obtain ⟨o23_, eo23_, hf⟩ := bnd hf
              refine a_getR dX9_item_343 flX9_84 rfl eo23_ ?_
              refine a_iconst (v := 1) dX9_item_346 (by decide) ?_
              obtain ⟨v24_, ev24_, hf⟩ := bnd hf
              refine a_iald dX9_item_347 ev24_ ?_
              obtain ⟨M25_, eM25_, hf⟩ := bnd hf
              refine a_putI dX9_item_348 fpX9_16 rfl (Or.inr nf9_2) eM25_ ?_
              refine a_goto (tgt := 377) dX9_item_351 (by decide) ?_
              refine a_iconst (v := 1) dX9_item_377 (by decide) ?_
              have e9 := Option.some.inj hf
              subst e9
              exact a_zret rfl rfl dX9_item_378 rfl
            · replace hf := iteF hf c3
              by_cases c4 : x2 = (4 : Int32)
              · replace hf := iteT hf c4
                refine a_tableAt 4 (off := 130) (tgt := 354) dX9_item_224 ((congrArg Int32.toInt c4).trans rfl) (by decide) (by decide) ?_
                refine a_aload_n dX9_item_354 rfl 0 rfl ?_
                refine a_aload_n dX9_item_355 rfl 0 rfl ?_
                obtain ⟨o26_, eo26_, hf⟩ := bnd hf
                refine a_getR dX9_item_356 flX9_84 rfl eo26_ ?_
                refine a_iconst (v := 0) dX9_item_359 (by decide) ?_
                obtain ⟨v27_, ev27_, hf⟩ := bnd hf
                refine a_iald dX9_item_360 ev27_ ?_
                obtain ⟨M28_, eM28_, hf⟩ := bnd hf
                refine a_putI dX9_item_361 fpX9_19 rfl (Or.inr nf9_5) eM28_ ?_
                refine a_goto (tgt := 377) dX9_item_364 (by decide) ?_
                refine a_iconst (v := 1) dX9_item_377 (by decide) ?_
                have e9 := Option.some.inj hf
                subst e9
                exact a_zret rfl rfl dX9_item_378 rfl
              · replace hf := iteF hf c4
                refine a_tableOut (tgt := 367) dX9_item_224 (by have nc0 := swne c0 (k9 := 0) rfl; have nc1 := swne c1 (k9 := 1) rfl; have nc2 := swne c2 (k9 := 2) rfl; have nc3 := swne c3 (k9 := 3) rfl; have nc4 := swne c4 (k9 := 4) rfl; omega) (by decide) ?_
                refine a_aload_n dX9_item_367 rfl 0 rfl ?_
                refine a_aload_n dX9_item_368 rfl 0 rfl ?_
                obtain ⟨o29_, eo29_, hf⟩ := bnd hf
                refine a_getR dX9_item_369 flX9_84 rfl eo29_ ?_
                refine a_iconst (v := 0) dX9_item_372 (by decide) ?_
                obtain ⟨v30_, ev30_, hf⟩ := bnd hf
                refine a_iald dX9_item_373 ev30_ ?_
                obtain ⟨M31_, eM31_, hf⟩ := bnd hf
                refine a_putI dX9_item_374 fpX9_167 rfl (Or.inr nf9_3) eM31_ ?_
                refine a_iconst (v := 1) dX9_item_377 (by decide) ?_
                have e9 := Option.some.inj hf
                subst e9
                exact a_zret rfl rfl dX9_item_378 rfl
    · replace hf := iteF hf c9
      refine a_iload dX9_item_128 3 rfl ?_
      refine a_if_le dX9_item_130 (tgt := 183) (by decide) (fun c9 => ?_) (fun c9 => ?_)
      · replace hf := iteT hf c9
        exact wX9_item_b183 _ ih _ _ _ _ _ hf
      · replace hf := iteF hf c9
        refine a_aload_n dX9_item_133 rfl 0 rfl ?_
        obtain ⟨v32_, ev32_, hf⟩ := bnd hf
        refine a_getI dX9_item_134 flX9_176 rfl ev32_ ?_
        refine a_aload_n dX9_item_137 rfl 0 rfl ?_
        obtain ⟨v33_, ev33_, hf⟩ := bnd hf
        refine a_getI dX9_item_138 flX9_179 rfl ev33_ ?_
        refine a_icmp_ge dX9_item_141 (tgt := 164) (by decide) (fun c9 => ?_) (fun c9 => ?_)
        · replace hf := iteT hf c9
          refine a_aload_n dX9_item_164 rfl 0 rfl ?_
          refine a_aload_n dX9_item_165 rfl 0 rfl ?_
          obtain ⟨v34_, ev34_, hf⟩ := bnd hf
          refine a_getI dX9_item_166 flX9_176 rfl ev34_ ?_
          obtain ⟨q35_, eq35_, hf⟩ := bnd hf
          refine a_callV (As := [.int v34_]) (rest := []) dX9_item_169 mfX9_wrong cvX9_192 (wX9_wrong eq35_) rc9 (kX9_wrong eq35_) (by decide) rfl rfl (Nat.le_of_ble_eq_true rfl) ?_
          obtain ⟨v36_, ev36_, hf⟩ := bnd hf
          have e9 := Option.some.inj hf
          subst e9
          exact a_zretZ rfl dX9_item_172 ev36_ rfl
        · replace hf := iteF hf c9
          refine a_aload_n dX9_item_144 rfl 0 rfl ?_
          obtain ⟨o37_, eo37_, hf⟩ := bnd hf
          refine a_getR dX9_item_145 flX9_75 rfl eo37_ ?_
          refine a_aload_n dX9_item_148 rfl 0 rfl ?_
          obtain ⟨v38_, ev38_, hf⟩ := bnd hf
          refine a_getI dX9_item_149 flX9_182 rfl ev38_ ?_
          refine a_aload_n dX9_item_152 rfl 0 rfl ?_
          obtain ⟨v39_, ev39_, hf⟩ := bnd hf
          refine a_getI dX9_item_153 flX9_176 rfl ev39_ ?_
          refine a_iadd dX9_item_156 ?_
          obtain ⟨v40_, ev40_, hf⟩ := bnd hf
          refine a_lald dX9_item_157 ev40_ ?_
          refine a_l2i dX9_item_158 ?_
          refine a_bipush (v := 32) dX9_item_159 (by decide) ?_
          refine a_icmp_eq dX9_item_161 (tgt := 173) (by decide) (fun c9 => ?_) (fun c9 => ?_)
          · replace hf := iteT hf c9
            refine a_aload_n dX9_item_173 rfl 0 rfl ?_
            refine a_dup dX9_item_174 rfl ?_
            obtain ⟨v41_, ev41_, hf⟩ := bnd hf
            refine a_getI dX9_item_175 flX9_176 rfl ev41_ ?_
            refine a_iconst (v := 1) dX9_item_178 (by decide) ?_
            refine a_iadd dX9_item_179 ?_
            obtain ⟨M42_, eM42_, hf⟩ := bnd hf
            refine a_putI dX9_item_180 fpX9_176 rfl (Or.inr nf9_33) eM42_ ?_
            exact wX9_item_b183 _ ih _ _ _ _ _ hf
          · replace hf := iteF hf c9
            refine a_aload_n dX9_item_164 rfl 0 rfl ?_
            refine a_aload_n dX9_item_165 rfl 0 rfl ?_
            obtain ⟨v43_, ev43_, hf⟩ := bnd hf
            refine a_getI dX9_item_166 flX9_176 rfl ev43_ ?_
            obtain ⟨q44_, eq44_, hf⟩ := bnd hf
            refine a_callV (As := [.int v43_]) (rest := []) dX9_item_169 mfX9_wrong cvX9_192 (wX9_wrong eq44_) rc9 (kX9_wrong eq44_) (by decide) rfl rfl (Nat.le_of_ble_eq_true rfl) ?_
            obtain ⟨v45_, ev45_, hf⟩ := bnd hf
            have e9 := Option.some.inj hf
            subst e9
            exact a_zretZ rfl dX9_item_172 ev45_ rfl
set_option maxHeartbeats 4000000 in
set_option maxRecDepth 100000 in
theorem wX9_item_b90 {l : Launch} {Γ : Gx} {t0 w0 : Nat} {q : Int32 × Mm} (a0 : Nat) (x2 : Int32) (M : Mm) (hf : fX9_item_b90 a0 x2 M = some q) : AW l Γ yX9_item cX9_item 5 ((some .boolean)) 3 t0 w0 90 [(0, .ref a0), (2, .int x2)] [] M (some (.int q.1)) q.2 := by
  unfold fX9_item_b90 at hf
  refine a_iload_n dX9_item_90 rfl 1 rfl ?_
  refine a_iconst (v := 1) dX9_item_91 (by decide) ?_
  refine a_icmp_ne dX9_item_92 (tgt := 99) (by decide) (fun c9 => ?_) (fun c9 => ?_)
  · replace hf := iteF hf c9
    refine a_iload_n dX9_item_99 rfl 1 rfl ?_
    refine a_iconst (v := 2) dX9_item_100 (by decide) ?_
    refine a_icmp_ne dX9_item_101 (tgt := 108) (by decide) (fun c9 => ?_) (fun c9 => ?_)
    · replace hf := iteF hf c9
      refine a_iload_n dX9_item_108 rfl 1 rfl ?_
      refine a_iconst (v := 3) dX9_item_109 (by decide) ?_
      refine a_icmp_ne dX9_item_110 (tgt := 117) (by decide) (fun c9 => ?_) (fun c9 => ?_)
      · replace hf := iteF hf c9
        refine a_iconst (v := 1) dX9_item_117 (by decide) ?_
        refine a_istore_n (i := 3) (lv1 := [(3, .int ((1 : Int32))), (0, .ref a0), (2, .int x2)]) dX9_item_118 rfl (by decide) rfl ?_
        refine a_iconst (v := 0) dX9_item_119 (by decide) ?_
        refine a_istore (i := 4) (lv1 := [(4, .int ((0 : Int32))), (3, .int ((1 : Int32))), (0, .ref a0), (2, .int x2)]) dX9_item_120 (by decide) rfl ?_
        refine AW.sub (lv1 := [(0, .ref a0), (2, .int x2), (3, .int ((1 : Int32))), (4, .int ((0 : Int32)))]) [2, 3, 1, 0] rfl ?_
        exact wX9_item_b122 _ _ _ _ _ _ hf
      · replace hf := iteT hf c9
        refine a_iconst (v := 2) dX9_item_113 (by decide) ?_
        refine a_goto (tgt := 118) dX9_item_114 (by decide) ?_
        refine a_istore_n (i := 3) (lv1 := [(3, .int ((2 : Int32))), (0, .ref a0), (2, .int x2)]) dX9_item_118 rfl (by decide) rfl ?_
        refine a_iconst (v := 0) dX9_item_119 (by decide) ?_
        refine a_istore (i := 4) (lv1 := [(4, .int ((0 : Int32))), (3, .int ((2 : Int32))), (0, .ref a0), (2, .int x2)]) dX9_item_120 (by decide) rfl ?_
        refine AW.sub (lv1 := [(0, .ref a0), (2, .int x2), (3, .int ((2 : Int32))), (4, .int ((0 : Int32)))]) [2, 3, 1, 0] rfl ?_
        exact wX9_item_b122 _ _ _ _ _ _ hf
    · replace hf := iteT hf c9
      refine a_iconst (v := 3) dX9_item_104 (by decide) ?_
      refine a_goto (tgt := 118) dX9_item_105 (by decide) ?_
      refine a_istore_n (i := 3) (lv1 := [(3, .int ((3 : Int32))), (0, .ref a0), (2, .int x2)]) dX9_item_118 rfl (by decide) rfl ?_
      refine a_iconst (v := 0) dX9_item_119 (by decide) ?_
      refine a_istore (i := 4) (lv1 := [(4, .int ((0 : Int32))), (3, .int ((3 : Int32))), (0, .ref a0), (2, .int x2)]) dX9_item_120 (by decide) rfl ?_
      refine AW.sub (lv1 := [(0, .ref a0), (2, .int x2), (3, .int ((3 : Int32))), (4, .int ((0 : Int32)))]) [2, 3, 1, 0] rfl ?_
      exact wX9_item_b122 _ _ _ _ _ _ hf
  · replace hf := iteT hf c9
    refine a_iconst (v := 4) dX9_item_95 (by decide) ?_
    refine a_goto (tgt := 118) dX9_item_96 (by decide) ?_
    refine a_istore_n (i := 3) (lv1 := [(3, .int ((4 : Int32))), (0, .ref a0), (2, .int x2)]) dX9_item_118 rfl (by decide) rfl ?_
    refine a_iconst (v := 0) dX9_item_119 (by decide) ?_
    refine a_istore (i := 4) (lv1 := [(4, .int ((0 : Int32))), (3, .int ((4 : Int32))), (0, .ref a0), (2, .int x2)]) dX9_item_120 (by decide) rfl ?_
    refine AW.sub (lv1 := [(0, .ref a0), (2, .int x2), (3, .int ((4 : Int32))), (4, .int ((0 : Int32)))]) [2, 3, 1, 0] rfl ?_
    exact wX9_item_b122 _ _ _ _ _ _ hf
set_option maxHeartbeats 4000000 in
set_option maxRecDepth 100000 in
theorem wX9_item_b70 {l : Launch} {Γ : Gx} {t0 w0 : Nat} {q : Int32 × Mm} (a0 : Nat) (x1 : Int32) (x2 : Int32) (M : Mm) (hf : fX9_item_b70 a0 x1 x2 M = some q) : AW l Γ yX9_item cX9_item 5 ((some .boolean)) 3 t0 w0 70 [(0, .ref a0), (1, .int x1), (2, .int x2)] [] M (some (.int q.1)) q.2 := by
  unfold fX9_item_b70 at hf
  refine a_iload_n dX9_item_70 rfl 2 rfl ?_
  refine a_iconst (v := 2) dX9_item_71 (by decide) ?_
  refine a_icmp_ne dX9_item_72 (tgt := 90) (by decide) (fun c9 => ?_) (fun c9 => ?_)
  · replace hf := iteF hf c9
    refine AW.sub (lv1 := [(0, .ref a0), (2, .int x2)]) [0, 2] rfl ?_
    exact wX9_item_b90 _ _ _ hf
  · replace hf := iteT hf c9
    refine a_aload_n dX9_item_75 rfl 0 rfl ?_
    obtain ⟨v1_, ev1_, hf⟩ := bnd hf
    refine a_getI dX9_item_76 flX9_143 rfl ev1_ ?_
    refine a_bipush (v := 8) dX9_item_79 (by decide) ?_
    refine a_icmp_ne dX9_item_81 (tgt := 90) (by decide) (fun c9 => ?_) (fun c9 => ?_)
    · replace hf := iteF hf c9
      refine AW.sub (lv1 := [(0, .ref a0), (2, .int x2)]) [0, 2] rfl ?_
      exact wX9_item_b90 _ _ _ hf
    · replace hf := iteT hf c9
      refine a_aload_n dX9_item_84 rfl 0 rfl ?_
      refine a_iload_n dX9_item_85 rfl 1 rfl ?_
      obtain ⟨q2_, eq2_, hf⟩ := bnd hf
      refine a_callV (As := [.int x1]) (rest := []) dX9_item_86 mfX9_wrong cvX9_192 (wX9_wrong eq2_) rc9 (kX9_wrong eq2_) (by decide) rfl rfl (Nat.le_of_ble_eq_true rfl) ?_
      obtain ⟨v3_, ev3_, hf⟩ := bnd hf
      have e9 := Option.some.inj hf
      subst e9
      exact a_zretZ rfl dX9_item_89 ev3_ rfl
set_option maxHeartbeats 4000000 in
set_option maxRecDepth 100000 in
theorem wX9_item_b2 {l : Launch} {Γ : Gx} {t0 w0 : Nat} {q : Int32 × Mm} : ∀ (n : Nat) (a0 : Nat) (x1 : Int32) (M : Mm), fX9_item_b2 n a0 x1 M = some q → AW l Γ yX9_item cX9_item 5 ((some .boolean)) 3 t0 w0 2 [(0, .ref a0), (1, .int x1)] [] M (some (.int q.1)) q.2 := by
  intro n
  induction n with
  | zero =>
    intro a0 x1 M hf
    cases hf
  | succ n ih =>
    intro a0 x1 M hf
    rw [fX9_item_b2.eq_2] at hf
    refine a_iload_n dX9_item_2 rfl 1 rfl ?_
    refine a_bipush (v := 6) dX9_item_3 (by decide) ?_
    refine a_icmp_ge dX9_item_5 (tgt := 39) (by decide) (fun c9 => ?_) (fun c9 => ?_)
    · replace hf := iteT hf c9
      refine a_aload_n dX9_item_39 rfl 0 rfl ?_
      obtain ⟨v1_, ev1_, hf⟩ := bnd hf
      refine a_getI dX9_item_40 flX9_176 rfl ev1_ ?_
      refine a_istore_n (i := 1) (lv1 := [(1, .int v1_), (0, .ref a0)]) dX9_item_43 rfl (by decide) rfl ?_
      refine a_aload_n dX9_item_44 rfl 1 rfl ?_
      obtain ⟨q2_, eq2_, hf⟩ := bnd hf
      refine a_callV (As := []) (rest := []) dX9_item_45 mfX9_word cvX9_201 (wX9_word eq2_) rc9 (kX9_word eq2_) (by decide) rfl rfl (Nat.le_of_ble_eq_true rfl) ?_
      refine a_istore_n (i := 2) (lv1 := [(2, .int q2_.1), (1, .int v1_), (0, .ref a0)]) dX9_item_48 rfl (by decide) rfl ?_
      refine a_iload_n dX9_item_49 rfl 0 rfl ?_
      refine a_iconst (v := -1) dX9_item_50 (by decide) ?_
      refine a_icmp_ne dX9_item_51 (tgt := 56) (by decide) (fun c9 => ?_) (fun c9 => ?_)
      · replace hf := iteF hf c9
        refine a_iload_n dX9_item_56 rfl 0 rfl ?_
        refine a_iconst (v := 1) dX9_item_57 (by decide) ?_
        refine a_icmp_ne dX9_item_58 (tgt := 70) (by decide) (fun c9 => ?_) (fun c9 => ?_)
        · replace hf := iteF hf c9
          refine AW.sub (lv1 := [(0, .ref a0), (1, .int v1_), (2, .int q2_.1)]) [2, 1, 0] rfl ?_
          exact wX9_item_b70 _ _ _ _ hf
        · replace hf := iteT hf c9
          refine a_aload_n dX9_item_61 rfl 2 rfl ?_
          obtain ⟨v3_, ev3_, hf⟩ := bnd hf
          refine a_getI dX9_item_62 flX9_115 rfl ev3_ ?_
          refine a_bipush (v := 8) dX9_item_65 (by decide) ?_
          refine a_icmp_eq dX9_item_67 (tgt := 84) (by decide) (fun c9 => ?_) (fun c9 => ?_)
          · replace hf := iteT hf c9
            refine a_aload_n dX9_item_84 rfl 2 rfl ?_
            refine a_iload_n dX9_item_85 rfl 1 rfl ?_
            obtain ⟨q4_, eq4_, hf⟩ := bnd hf
            refine a_callV (As := [.int v1_]) (rest := []) dX9_item_86 mfX9_wrong cvX9_192 (wX9_wrong eq4_) rc9 (kX9_wrong eq4_) (by decide) rfl rfl (Nat.le_of_ble_eq_true rfl) ?_
            obtain ⟨v5_, ev5_, hf⟩ := bnd hf
            have e9 := Option.some.inj hf
            subst e9
            exact a_zretZ rfl dX9_item_89 ev5_ rfl
          · replace hf := iteF hf c9
            refine AW.sub (lv1 := [(0, .ref a0), (1, .int v1_), (2, .int q2_.1)]) [2, 1, 0] rfl ?_
            exact wX9_item_b70 _ _ _ _ hf
      · replace hf := iteT hf c9
        refine a_iconst (v := 0) dX9_item_54 (by decide) ?_
        have e9 := Option.some.inj hf
        subst e9
        exact a_zret rfl rfl dX9_item_55 rfl
    · replace hf := iteF hf c9
      refine a_aload_n dX9_item_8 rfl 0 rfl ?_
      refine a_iload_n dX9_item_9 rfl 1 rfl ?_
      obtain ⟨q6_, eq6_, hf⟩ := bnd hf
      refine a_callV (As := [.int x1]) (rest := []) dX9_item_10 mfX9_isWordAt cvX9_195 (wX9_isWordAt eq6_) rc9 (kX9_isWordAt eq6_) (by decide) rfl rfl (Nat.le_of_ble_eq_true rfl) ?_
      refine a_if_eq dX9_item_13 (tgt := 33) (by decide) (fun c9 => ?_) (fun c9 => ?_)
      · replace hf := iteT hf c9
        refine a_iinc (v := x1 + (1 : Int32)) (lv1 := [(1, .int (x1 + (1 : Int32))), (0, .ref a0)]) dX9_item_33 1 rfl rfl (by decide) rfl ?_
        refine a_goto (tgt := 2) dX9_item_36 (by decide) ?_
        refine AW.sub (lv1 := [(0, .ref a0), (1, .int (x1 + (1 : Int32)))]) [1, 0] rfl ?_
        exact ih _ _ _ hf
      · replace hf := iteF hf c9
        refine a_aload_n dX9_item_16 rfl 0 rfl ?_
        refine a_iload_n dX9_item_17 rfl 1 rfl ?_
        obtain ⟨q7_, eq7_, hf⟩ := bnd hf
        refine a_callV (As := [.int x1]) (rest := []) dX9_item_18 mfX9_isFull cvX9_198 (wX9_isFull eq7_) rc9 (kX9_isFull eq7_) (by decide) rfl rfl (Nat.le_of_ble_eq_true rfl) ?_
        refine a_if_eq dX9_item_21 (tgt := 33) (by decide) (fun c9 => ?_) (fun c9 => ?_)
        · replace hf := iteT hf c9
          refine a_iinc (v := x1 + (1 : Int32)) (lv1 := [(1, .int (x1 + (1 : Int32))), (0, .ref a0)]) dX9_item_33 1 rfl rfl (by decide) rfl ?_
          refine a_goto (tgt := 2) dX9_item_36 (by decide) ?_
          refine AW.sub (lv1 := [(0, .ref a0), (1, .int (x1 + (1 : Int32)))]) [1, 0] rfl ?_
          exact ih _ _ _ hf
        · replace hf := iteF hf c9
          refine a_aload_n dX9_item_24 rfl 0 rfl ?_
          refine a_aload_n dX9_item_25 rfl 0 rfl ?_
          obtain ⟨v8_, ev8_, hf⟩ := bnd hf
          refine a_getI dX9_item_26 flX9_176 rfl ev8_ ?_
          obtain ⟨q9_, eq9_, hf⟩ := bnd hf
          refine a_callV (As := [.int v8_]) (rest := []) dX9_item_29 mfX9_wrong cvX9_192 (wX9_wrong eq9_) rc9 (kX9_wrong eq9_) (by decide) rfl rfl (Nat.le_of_ble_eq_true rfl) ?_
          obtain ⟨v10_, ev10_, hf⟩ := bnd hf
          have e9 := Option.some.inj hf
          subst e9
          exact a_zretZ rfl dX9_item_32 ev10_ rfl
set_option maxHeartbeats 4000000 in
set_option maxRecDepth 100000 in
theorem wX9_item {l : Launch} {Γ : Gx} {a0 : Nat} {M : Mm} {q : Int32 × Mm} (hf : fX9_item a0 M = some q) : AM l Γ 3 yX9_item cX9_item 5 ((some .boolean)) [.ref a0] M (some (.int q.1)) q.2 := by
  unfold fX9_item at hf
  refine AM.of mfX9_item (Nat.le_of_ble_eq_true rfl) ?_
  generalize mT M = t0
  generalize mW M = w0
  show AW _ _ _ _ _ _ _ _ _ 0 [(0, .ref a0)] [] _ _ _
  obtain ⟨u0, eu0, hf⟩ := bnd hf
  refine a_iconst (v := 0) dX9_item_0 (by decide) ?_
  refine a_istore_n (i := 1) (lv1 := [(1, .int ((0 : Int32))), (0, .ref a0)]) dX9_item_1 rfl (by decide) rfl ?_
  refine AW.sub (lv1 := [(0, .ref a0), (1, .int ((0 : Int32)))]) [1, 0] rfl ?_
  exact wX9_item_b2 _ _ _ _ hf
theorem kX9_town {a0 : Nat} {x1 : Int32} {M : Mm} {q : Int32 × Mm} (hf : fX9_town a0 x1 M = some q) : (mK M a0).1 = 10 := by
  unfold fX9_town at hf
  obtain ⟨u0, eu0, -⟩ := bnd hf
  exact kc_of eu0
set_option maxHeartbeats 4000000 in
set_option maxRecDepth 100000 in
theorem wX9_town_b142 {l : Launch} {Γ : Gx} {t0 w0 : Nat} {q : Int32 × Mm} (a0 : Nat) (x3 : Int32) (x4 : Int32) (M : Mm) (hf : fX9_town_b142 a0 x3 x4 M = some q) : AW l Γ yX9_town cX9_town 5 ((some .int)) 4 t0 w0 142 [(0, .ref a0), (3, .int x3), (4, .int x4)] [] M (some (.int q.1)) q.2 := by
  unfold fX9_town_b142 at hf
  refine a_iload dX9_town_142 2 rfl ?_
  refine a_if_eq dX9_town_144 (tgt := 165) (by decide) (fun c9 => ?_) (fun c9 => ?_)
  · replace hf := iteT hf c9
    refine a_aload_n dX9_town_165 rfl 0 rfl ?_
    refine a_aload_n dX9_town_166 rfl 0 rfl ?_
    obtain ⟨o1_, eo1_, hf⟩ := bnd hf
    refine a_getR dX9_town_167 flX9_87 rfl eo1_ ?_
    refine a_aload_n dX9_town_170 rfl 0 rfl ?_
    obtain ⟨o2_, eo2_, hf⟩ := bnd hf
    refine a_getR dX9_town_171 flX9_93 rfl eo2_ ?_
    refine a_iconst (v := 1) dX9_town_174 (by decide) ?_
    obtain ⟨M3_, eM3_, hf⟩ := bnd hf
    refine a_callV (As := [.ref o1_, .ref o2_, .int ((1 : Int32))]) (rest := []) dX9_town_175 mfX9_all cvX9_219 (wX9_all eM3_) rc9 (kX9_all eM3_) (by decide) rfl rfl (Nat.le_of_ble_eq_true rfl) ?_
    refine a_aload_n dX9_town_178 rfl 0 rfl ?_
    refine a_aload_n dX9_town_179 rfl 0 rfl ?_
    obtain ⟨v4_, ev4_, hf⟩ := bnd hf
    refine a_getI dX9_town_180 flX9_173 rfl ev4_ ?_
    obtain ⟨M5_, eM5_, hf⟩ := bnd hf
    refine a_putI dX9_town_183 fpX9_28 rfl (Or.inr nf9_12) eM5_ ?_
    refine a_aload_n dX9_town_186 rfl 0 rfl ?_
    refine a_bipush (v := -6) dX9_town_187 (by decide) ?_
    obtain ⟨q6_, eq6_, hf⟩ := bnd hf
    refine a_callV (As := [.int ((-6 : Int32))]) (rest := []) dX9_town_189 mfX9_no cvX9_122 (wX9_no eq6_) rc9 (kX9_no eq6_) (by decide) rfl rfl (Nat.le_of_ble_eq_true rfl) ?_
    have e9 := Option.some.inj hf
    subst e9
    exact a_iret rfl dX9_town_192 rfl
  · replace hf := iteF hf c9
    refine a_aload_n dX9_town_147 rfl 0 rfl ?_
    obtain ⟨v7_, ev7_, hf⟩ := bnd hf
    refine a_getI dX9_town_148 flX9_139 rfl ev7_ ?_
    refine a_if_eq dX9_town_151 (tgt := 158) (by decide) (fun c9 => ?_) (fun c9 => ?_)
    · replace hf := iteT hf c9
      refine a_aload_n dX9_town_158 rfl 0 rfl ?_
      refine a_iconst (v := -1) dX9_town_159 (by decide) ?_
      obtain ⟨M8_, eM8_, hf⟩ := bnd hf
      refine a_callV (As := [.int ((-1 : Int32))]) (rest := []) dX9_town_160 mfX9_knows cvX9_111 (wX9_knows eM8_) rc9 (kX9_knows eM8_) (by decide) rfl rfl (Nat.le_of_ble_eq_true rfl) ?_
      refine a_iload_n dX9_town_163 rfl 1 rfl ?_
      have e9 := Option.some.inj hf
      subst e9
      exact a_iret rfl dX9_town_164 rfl
    · replace hf := iteF hf c9
      refine a_aload_n dX9_town_154 rfl 0 rfl ?_
      obtain ⟨M9_, eM9_, hf⟩ := bnd hf
      refine a_callV (As := []) (rest := []) dX9_town_155 mfX9_empties cvX9_148 (wX9_empties eM9_) rc9 (kX9_empties eM9_) (by decide) rfl rfl (Nat.le_of_ble_eq_true rfl) ?_
      refine a_aload_n dX9_town_158 rfl 0 rfl ?_
      refine a_iconst (v := -1) dX9_town_159 (by decide) ?_
      obtain ⟨M10_, eM10_, hf⟩ := bnd hf
      refine a_callV (As := [.int ((-1 : Int32))]) (rest := []) dX9_town_160 mfX9_knows cvX9_111 (wX9_knows eM10_) rc9 (kX9_knows eM10_) (by decide) rfl rfl (Nat.le_of_ble_eq_true rfl) ?_
      refine a_iload_n dX9_town_163 rfl 1 rfl ?_
      have e9 := Option.some.inj hf
      subst e9
      exact a_iret rfl dX9_town_164 rfl
set_option maxHeartbeats 4000000 in
set_option maxRecDepth 100000 in
theorem wX9_town_b71 {l : Launch} {Γ : Gx} {t0 w0 : Nat} {q : Int32 × Mm} : ∀ (n : Nat) (a0 : Nat) (x3 : Int32) (x4 : Int32) (M : Mm), fX9_town_b71 n a0 x3 x4 M = some q → AW l Γ yX9_town cX9_town 5 ((some .int)) 4 t0 w0 71 [(0, .ref a0), (3, .int x3), (4, .int x4)] [] M (some (.int q.1)) q.2 := by
  intro n
  induction n with
  | zero =>
    intro a0 x3 x4 M hf
    cases hf
  | succ n ih =>
    intro a0 x3 x4 M hf
    rw [fX9_town_b71.eq_2] at hf
    refine a_iload dX9_town_71 2 rfl ?_
    refine a_if_eq dX9_town_73 (tgt := 142) (by decide) (fun c9 => ?_) (fun c9 => ?_)
    · replace hf := iteT hf c9
      exact wX9_town_b142 _ _ _ _ hf
    · replace hf := iteF hf c9
      refine a_aload_n dX9_town_76 rfl 0 rfl ?_
      obtain ⟨v1_, ev1_, hf⟩ := bnd hf
      refine a_getI dX9_town_77 flX9_176 rfl ev1_ ?_
      refine a_aload_n dX9_town_80 rfl 0 rfl ?_
      obtain ⟨v2_, ev2_, hf⟩ := bnd hf
      refine a_getI dX9_town_81 flX9_179 rfl ev2_ ?_
      refine a_icmp_ge dX9_town_84 (tgt := 142) (by decide) (fun c9 => ?_) (fun c9 => ?_)
      · replace hf := iteT hf c9
        exact wX9_town_b142 _ _ _ _ hf
      · replace hf := iteF hf c9
        refine a_aload_n dX9_town_87 rfl 0 rfl ?_
        obtain ⟨o3_, eo3_, hf⟩ := bnd hf
        refine a_getR dX9_town_88 flX9_75 rfl eo3_ ?_
        refine a_aload_n dX9_town_91 rfl 0 rfl ?_
        obtain ⟨v4_, ev4_, hf⟩ := bnd hf
        refine a_getI dX9_town_92 flX9_182 rfl ev4_ ?_
        refine a_aload_n dX9_town_95 rfl 0 rfl ?_
        obtain ⟨v5_, ev5_, hf⟩ := bnd hf
        refine a_getI dX9_town_96 flX9_176 rfl ev5_ ?_
        refine a_iadd dX9_town_99 ?_
        obtain ⟨v6_, ev6_, hf⟩ := bnd hf
        refine a_lald dX9_town_100 ev6_ ?_
        refine a_l2i dX9_town_101 ?_
        refine a_bipush (v := 59) dX9_town_102 (by decide) ?_
        refine a_icmp_eq dX9_town_104 (tgt := 120) (by decide) (fun c9 => ?_) (fun c9 => ?_)
        · replace hf := iteT hf c9
          refine a_aload_n dX9_town_120 rfl 0 rfl ?_
          refine a_dup dX9_town_121 rfl ?_
          obtain ⟨v7_, ev7_, hf⟩ := bnd hf
          refine a_getI dX9_town_122 flX9_176 rfl ev7_ ?_
          refine a_iconst (v := 1) dX9_town_125 (by decide) ?_
          refine a_iadd dX9_town_126 ?_
          obtain ⟨M8_, eM8_, hf⟩ := bnd hf
          refine a_putI dX9_town_127 fpX9_176 rfl (Or.inr nf9_33) eM8_ ?_
          refine a_iinc (v := x3 + (1 : Int32)) (lv1 := [(3, .int (x3 + (1 : Int32))), (0, .ref a0), (4, .int x4)]) dX9_town_130 1 rfl rfl (by decide) rfl ?_
          refine a_aload_n dX9_town_133 rfl 1 rfl ?_
          obtain ⟨q9_, eq9_, hf⟩ := bnd hf
          refine a_callV (As := []) (rest := []) dX9_town_134 mfX9_item cvX9_223 (wX9_item eq9_) rc9 (kX9_item eq9_) (by decide) rfl rfl (Nat.le_of_ble_eq_true rfl) ?_
          refine a_istore (i := 4) (lv1 := [(4, .int q9_.1), (3, .int (x3 + (1 : Int32))), (0, .ref a0)]) dX9_town_137 (by decide) rfl ?_
          refine a_goto (tgt := 71) dX9_town_139 (by decide) ?_
          refine AW.sub (lv1 := [(0, .ref a0), (3, .int (x3 + (1 : Int32))), (4, .int q9_.1)]) [2, 1, 0] rfl ?_
          exact ih _ _ _ _ hf
        · replace hf := iteF hf c9
          refine a_aload_n dX9_town_107 rfl 0 rfl ?_
          refine a_aload_n dX9_town_108 rfl 0 rfl ?_
          obtain ⟨v10_, ev10_, hf⟩ := bnd hf
          refine a_getI dX9_town_109 flX9_176 rfl ev10_ ?_
          obtain ⟨q11_, eq11_, hf⟩ := bnd hf
          refine a_callV (As := [.int v10_]) (rest := []) dX9_town_112 mfX9_wrong cvX9_192 (wX9_wrong eq11_) rc9 (kX9_wrong eq11_) (by decide) rfl rfl (Nat.le_of_ble_eq_true rfl) ?_
          refine a_istore (i := 4) (lv1 := [(4, .int q11_.1), (0, .ref a0), (3, .int x3)]) dX9_town_115 (by decide) rfl ?_
          refine a_goto (tgt := 71) dX9_town_117 (by decide) ?_
          refine AW.sub (lv1 := [(0, .ref a0), (3, .int x3), (4, .int q11_.1)]) [1, 2, 0] rfl ?_
          exact ih _ _ _ _ hf
set_option maxHeartbeats 4000000 in
set_option maxRecDepth 100000 in
theorem wX9_town {l : Launch} {Γ : Gx} {a0 : Nat} {x1 : Int32} {M : Mm} {q : Int32 × Mm} (hf : fX9_town a0 x1 M = some q) : AM l Γ 4 yX9_town cX9_town 5 ((some .int)) [.ref a0, .int x1] M (some (.int q.1)) q.2 := by
  unfold fX9_town at hf
  refine AM.of mfX9_town (Nat.le_of_ble_eq_true rfl) ?_
  generalize mT M = t0
  generalize mW M = w0
  show AW _ _ _ _ _ _ _ _ _ 0 [(0, .ref a0), (1, .int x1)] [] _ _ _
  obtain ⟨u0, eu0, hf⟩ := bnd hf
  refine a_aload_n dX9_town_0 rfl 0 rfl ?_
  refine a_iload_n dX9_town_1 rfl 1 rfl ?_
  obtain ⟨q1_, eq1_, hf⟩ := bnd hf
  refine a_callV (As := [.int x1]) (rest := []) dX9_town_2 mfX9_wants cvX9_161 (wX9_wants eq1_) rc9 (kX9_wants eq1_) (by decide) rfl rfl (Nat.le_of_ble_eq_true rfl) ?_
  refine a_istore_n (i := 2) (lv1 := [(2, .int q1_.1), (0, .ref a0), (1, .int x1)]) dX9_town_5 rfl (by decide) rfl ?_
  refine a_iload_n dX9_town_6 rfl 0 rfl ?_
  refine a_if_eq dX9_town_7 (tgt := 16) (by decide) (fun c9 => ?_) (fun c9 => ?_)
  · replace hf := iteT hf c9
    refine a_aload_n dX9_town_16 rfl 1 rfl ?_
    refine a_aload_n dX9_town_17 rfl 1 rfl ?_
    obtain ⟨o2_, eo2_, hf⟩ := bnd hf
    refine a_getR dX9_town_18 flX9_87 rfl eo2_ ?_
    refine a_aload_n dX9_town_21 rfl 1 rfl ?_
    obtain ⟨o3_, eo3_, hf⟩ := bnd hf
    refine a_getR dX9_town_22 flX9_93 rfl eo3_ ?_
    refine a_iconst (v := 0) dX9_town_25 (by decide) ?_
    obtain ⟨M4_, eM4_, hf⟩ := bnd hf
    refine a_callV (As := [.ref o2_, .ref o3_, .int ((0 : Int32))]) (rest := []) dX9_town_26 mfX9_all cvX9_219 (wX9_all eM4_) rc9 (kX9_all eM4_) (by decide) rfl rfl (Nat.le_of_ble_eq_true rfl) ?_
    refine a_aload_n dX9_town_29 rfl 1 rfl ?_
    refine a_sipush (v := 160) dX9_town_30 (by decide) ?_
    refine a_iload_n dX9_town_33 rfl 2 rfl ?_
    refine a_imul dX9_town_34 ?_
    obtain ⟨M5_, eM5_, hf⟩ := bnd hf
    refine a_putI dX9_town_35 fpX9_182 rfl (Or.inr nf9_32) eM5_ ?_
    refine a_aload_n dX9_town_38 rfl 1 rfl ?_
    refine a_iconst (v := 0) dX9_town_39 (by decide) ?_
    obtain ⟨M6_, eM6_, hf⟩ := bnd hf
    refine a_putI dX9_town_40 fpX9_176 rfl (Or.inr nf9_33) eM6_ ?_
    refine a_aload_n dX9_town_43 rfl 1 rfl ?_
    refine a_aload_n dX9_town_44 rfl 1 rfl ?_
    obtain ⟨o7_, eo7_, hf⟩ := bnd hf
    refine a_getR dX9_town_45 flX9_69 rfl eo7_ ?_
    refine a_iload_n dX9_town_48 rfl 2 rfl ?_
    obtain ⟨v8_, ev8_, hf⟩ := bnd hf
    refine a_iald dX9_town_49 ev8_ ?_
    obtain ⟨M9_, eM9_, hf⟩ := bnd hf
    refine a_putI dX9_town_50 fpX9_179 rfl (Or.inr nf9_34) eM9_ ?_
    refine a_aload_n dX9_town_53 rfl 1 rfl ?_
    refine a_iconst (v := -1) dX9_town_54 (by decide) ?_
    obtain ⟨M10_, eM10_, hf⟩ := bnd hf
    refine a_putI dX9_town_55 fpX9_28 rfl (Or.inr nf9_12) eM10_ ?_
    refine a_aload_n dX9_town_58 rfl 1 rfl ?_
    refine a_iconst (v := 0) dX9_town_59 (by decide) ?_
    obtain ⟨M11_, eM11_, hf⟩ := bnd hf
    refine a_putZ dX9_town_60 fpX9_139 rfl (Or.inr nf9_29) eM11_ ?_
    refine a_iconst (v := 1) dX9_town_63 (by decide) ?_
    refine a_istore_n (i := 3) (lv1 := [(3, .int ((1 : Int32))), (2, .int q1_.1), (0, .ref a0), (1, .int x1)]) dX9_town_64 rfl (by decide) rfl ?_
    refine a_aload_n dX9_town_65 rfl 2 rfl ?_
    obtain ⟨q12_, eq12_, hf⟩ := bnd hf
    refine a_callV (As := []) (rest := []) dX9_town_66 mfX9_item cvX9_223 (wX9_item eq12_) rc9 (kX9_item eq12_) (by decide) rfl rfl (Nat.le_of_ble_eq_true rfl) ?_
    refine a_istore (i := 4) (lv1 := [(4, .int q12_.1), (3, .int ((1 : Int32))), (2, .int q1_.1), (0, .ref a0), (1, .int x1)]) dX9_town_69 (by decide) rfl ?_
    refine AW.sub (lv1 := [(0, .ref a0), (3, .int ((1 : Int32))), (4, .int q12_.1)]) [3, 1, 0] rfl ?_
    exact wX9_town_b71 _ _ _ _ _ hf
  · replace hf := iteF hf c9
    refine a_aload_n dX9_town_10 rfl 1 rfl ?_
    refine a_iload_n dX9_town_11 rfl 0 rfl ?_
    obtain ⟨q13_, eq13_, hf⟩ := bnd hf
    refine a_callV (As := [.int q1_.1]) (rest := []) dX9_town_12 mfX9_no cvX9_122 (wX9_no eq13_) rc9 (kX9_no eq13_) (by decide) rfl rfl (Nat.le_of_ble_eq_true rfl) ?_
    have e9 := Option.some.inj hf
    subst e9
    exact a_iret rfl dX9_town_15 rfl
theorem kX9_fault {a0 : Nat} {M : Mm} {q : Int32 × Mm} (hf : fX9_fault a0 M = some q) : (mK M a0).1 = 10 := by
  unfold fX9_fault at hf
  obtain ⟨u0, eu0, -⟩ := bnd hf
  exact kc_of eu0
set_option maxHeartbeats 4000000 in
set_option maxRecDepth 100000 in
theorem wX9_fault {l : Launch} {Γ : Gx} {a0 : Nat} {M : Mm} {q : Int32 × Mm} (hf : fX9_fault a0 M = some q) : AM l Γ 1 yX9_fault cX9_fault 1 ((some .int)) [.ref a0] M (some (.int q.1)) q.2 := by
  unfold fX9_fault at hf
  refine AM.of mfX9_fault (Nat.le_of_ble_eq_true rfl) ?_
  generalize mT M = t0
  generalize mW M = w0
  show AW _ _ _ _ _ _ _ _ _ 0 [(0, .ref a0)] [] _ _ _
  obtain ⟨u0, eu0, hf⟩ := bnd hf
  refine a_aload_n dX9_fault_0 rfl 0 rfl ?_
  obtain ⟨v1_, ev1_, hf⟩ := bnd hf
  refine a_getI dX9_fault_1 flX9_28 rfl ev1_ ?_
  have e9 := Option.some.inj hf
  subst e9
  exact a_iret rfl dX9_fault_4 rfl
theorem kX9_lost {a0 : Nat} {x1 : Int32} {M : Mm} {q : Int32 × Mm} (hf : fX9_lost a0 x1 M = some q) : (mK M a0).1 = 10 := by
  unfold fX9_lost at hf
  obtain ⟨u0, eu0, -⟩ := bnd hf
  exact kc_of eu0
set_option maxHeartbeats 4000000 in
set_option maxRecDepth 100000 in
theorem wX9_lost_b19 {l : Launch} {Γ : Gx} {t0 w0 : Nat} {q : Int32 × Mm} (a0 : Nat) (x1 : Int32) (M : Mm) (hf : fX9_lost_b19 a0 x1 M = some q) : AW l Γ yX9_lost cX9_lost 3 ((some .int)) 2 t0 w0 19 [(0, .ref a0), (1, .int x1)] [] M (some (.int q.1)) q.2 := by
  unfold fX9_lost_b19 at hf
  refine a_aload_n dX9_lost_19 rfl 0 rfl ?_
  obtain ⟨v1_, ev1_, hf⟩ := bnd hf
  refine a_getI dX9_lost_20 flX9_136 rfl ev1_ ?_
  refine a_istore_n (i := 2) (lv1 := [(2, .int v1_), (0, .ref a0), (1, .int x1)]) dX9_lost_23 rfl (by decide) rfl ?_
  refine a_aload_n dX9_lost_24 rfl 1 rfl ?_
  refine a_iload_n dX9_lost_25 rfl 2 rfl ?_
  obtain ⟨M2_, eM2_, hf⟩ := bnd hf
  refine a_callV (As := [.int x1]) (rest := []) dX9_lost_26 mfX9_knows cvX9_111 (wX9_knows eM2_) rc9 (kX9_knows eM2_) (by decide) rfl rfl (Nat.le_of_ble_eq_true rfl) ?_
  refine a_iload_n dX9_lost_29 rfl 0 rfl ?_
  have e9 := Option.some.inj hf
  subst e9
  exact a_iret rfl dX9_lost_30 rfl
set_option maxHeartbeats 4000000 in
set_option maxRecDepth 100000 in
theorem wX9_lost {l : Launch} {Γ : Gx} {a0 : Nat} {x1 : Int32} {M : Mm} {q : Int32 × Mm} (hf : fX9_lost a0 x1 M = some q) : AM l Γ 2 yX9_lost cX9_lost 3 ((some .int)) [.ref a0, .int x1] M (some (.int q.1)) q.2 := by
  unfold fX9_lost at hf
  refine AM.of mfX9_lost (Nat.le_of_ble_eq_true rfl) ?_
  generalize mT M = t0
  generalize mW M = w0
  show AW _ _ _ _ _ _ _ _ _ 0 [(0, .ref a0), (1, .int x1)] [] _ _ _
  obtain ⟨u0, eu0, hf⟩ := bnd hf
  refine a_iload_n dX9_lost_0 rfl 1 rfl ?_
  refine a_iconst (v := -1) dX9_lost_1 (by decide) ?_
  refine a_icmp_eq dX9_lost_2 (tgt := 19) (by decide) (fun c9 => ?_) (fun c9 => ?_)
  · replace hf := iteT hf c9
    exact wX9_lost_b19 _ _ _ hf
  · replace hf := iteF hf c9
    refine a_aload_n dX9_lost_5 rfl 0 rfl ?_
    refine a_iload_n dX9_lost_6 rfl 1 rfl ?_
    obtain ⟨q1_, eq1_, hf⟩ := bnd hf
    refine a_callV (As := [.int x1]) (rest := []) dX9_lost_7 mfX9_isCell cvX9_151 (wX9_isCell eq1_) rc9 (kX9_isCell eq1_) (by decide) rfl rfl (Nat.le_of_ble_eq_true rfl) ?_
    refine a_if_ne dX9_lost_10 (tgt := 19) (by decide) (fun c9 => ?_) (fun c9 => ?_)
    · replace hf := iteF hf c9
      exact wX9_lost_b19 _ _ _ hf
    · replace hf := iteT hf c9
      refine a_aload_n dX9_lost_13 rfl 0 rfl ?_
      refine a_iconst (v := -1) dX9_lost_14 (by decide) ?_
      obtain ⟨q2_, eq2_, hf⟩ := bnd hf
      refine a_callV (As := [.int ((-1 : Int32))]) (rest := []) dX9_lost_15 mfX9_no cvX9_122 (wX9_no eq2_) rc9 (kX9_no eq2_) (by decide) rfl rfl (Nat.le_of_ble_eq_true rfl) ?_
      have e9 := Option.some.inj hf
      subst e9
      exact a_iret rfl dX9_lost_18 rfl
theorem kX9_sum {a0 : Nat} {M : Mm} {q : Int64 × Mm} (hf : fX9_sum a0 M = some q) : (mK M a0).1 = 10 := by
  unfold fX9_sum at hf
  obtain ⟨u0, eu0, -⟩ := bnd hf
  exact kc_of eu0
set_option maxHeartbeats 4000000 in
set_option maxRecDepth 100000 in
theorem wX9_sum_b4 {l : Launch} {Γ : Gx} {t0 w0 : Nat} {q : Int64 × Mm} : ∀ (n : Nat) (a0 : Nat) (x1 : Int64) (x3 : Int32) (M : Mm), fX9_sum_b4 n a0 x1 x3 M = some q → AW l Γ yX9_sum cX9_sum 4 ((some .long)) 1 t0 w0 4 [(0, .ref a0), (1, .long x1), (3, .int x3)] [] M (some (.long q.1)) q.2 := by
  intro n
  induction n with
  | zero =>
    intro a0 x1 x3 M hf
    cases hf
  | succ n ih =>
    intro a0 x1 x3 M hf
    rw [fX9_sum_b4.eq_2] at hf
    refine a_iload_n dX9_sum_4 rfl 2 rfl ?_
    refine a_aload_n dX9_sum_5 rfl 0 rfl ?_
    obtain ⟨v1_, ev1_, hf⟩ := bnd hf
    refine a_getI dX9_sum_6 flX9_7 rfl ev1_ ?_
    refine a_icmp_ge dX9_sum_9 (tgt := 27) (by decide) (fun c9 => ?_) (fun c9 => ?_)
    · replace hf := iteT hf c9
      refine a_lload_n dX9_sum_27 rfl 1 rfl ?_
      have e9 := Option.some.inj hf
      subst e9
      exact a_lret rfl dX9_sum_28 rfl
    · replace hf := iteF hf c9
      refine a_lload_n dX9_sum_12 rfl 1 rfl ?_
      refine a_aload_n dX9_sum_13 rfl 0 rfl ?_
      obtain ⟨o2_, eo2_, hf⟩ := bnd hf
      refine a_getR dX9_sum_14 flX9_56 rfl eo2_ ?_
      refine a_iload_n dX9_sum_17 rfl 2 rfl ?_
      obtain ⟨v3_, ev3_, hf⟩ := bnd hf
      refine a_lald dX9_sum_18 ev3_ ?_
      refine a_ladd dX9_sum_19 ?_
      refine a_lstore_n (i := 1) (lv1 := [(1, .long (x1 + v3_)), (0, .ref a0), (3, .int x3)]) dX9_sum_20 rfl (by decide) rfl ?_
      refine a_iinc (v := x3 + (1 : Int32)) (lv1 := [(3, .int (x3 + (1 : Int32))), (1, .long (x1 + v3_)), (0, .ref a0)]) dX9_sum_21 2 rfl rfl (by decide) rfl ?_
      refine a_goto (tgt := 4) dX9_sum_24 (by decide) ?_
      refine AW.sub (lv1 := [(0, .ref a0), (1, .long (x1 + v3_)), (3, .int (x3 + (1 : Int32)))]) [2, 1, 0] rfl ?_
      exact ih _ _ _ _ hf
set_option maxHeartbeats 4000000 in
set_option maxRecDepth 100000 in
theorem wX9_sum {l : Launch} {Γ : Gx} {a0 : Nat} {M : Mm} {q : Int64 × Mm} (hf : fX9_sum a0 M = some q) : AM l Γ 1 yX9_sum cX9_sum 4 ((some .long)) [.ref a0] M (some (.long q.1)) q.2 := by
  unfold fX9_sum at hf
  refine AM.of mfX9_sum (Nat.le_of_ble_eq_true rfl) ?_
  generalize mT M = t0
  generalize mW M = w0
  show AW _ _ _ _ _ _ _ _ _ 0 [(0, .ref a0)] [] _ _ _
  obtain ⟨u0, eu0, hf⟩ := bnd hf
  refine a_lconst (v := 0) dX9_sum_0 rfl ?_
  refine a_lstore_n (i := 1) (lv1 := [(1, .long ((0 : Int64))), (0, .ref a0)]) dX9_sum_1 rfl (by decide) rfl ?_
  refine a_iconst (v := 0) dX9_sum_2 (by decide) ?_
  refine a_istore_n (i := 3) (lv1 := [(3, .int ((0 : Int32))), (1, .long ((0 : Int64))), (0, .ref a0)]) dX9_sum_3 rfl (by decide) rfl ?_
  refine AW.sub (lv1 := [(0, .ref a0), (1, .long ((0 : Int64))), (3, .int ((0 : Int32)))]) [2, 1, 0] rfl ?_
  exact wX9_sum_b4 _ _ _ _ _ hf
theorem kX9_odds {a0 : Nat} {x1 : Int32} {M : Mm} {q : Int64 × Mm} (hf : fX9_odds a0 x1 M = some q) : (mK M a0).1 = 10 := by
  unfold fX9_odds at hf
  obtain ⟨u0, eu0, -⟩ := bnd hf
  exact kc_of eu0
set_option maxHeartbeats 4000000 in
set_option maxRecDepth 100000 in
theorem wX9_odds_b20 {l : Launch} {Γ : Gx} {t0 w0 : Nat} {q : Int64 × Mm} (a0 : Nat) (x1 : Int32) (M : Mm) (hf : fX9_odds_b20 a0 x1 M = some q) : AW l Γ yX9_odds cX9_odds 2 ((some .long)) 2 t0 w0 20 [(0, .ref a0), (1, .int x1)] [] M (some (.long q.1)) q.2 := by
  unfold fX9_odds_b20 at hf
  refine a_iload_n dX9_odds_20 rfl 1 rfl ?_
  refine a_iconst (v := -1) dX9_odds_21 (by decide) ?_
  refine a_icmp_ne dX9_odds_22 (tgt := 32) (by decide) (fun c9 => ?_) (fun c9 => ?_)
  · replace hf := iteF hf c9
    refine a_aload_n dX9_odds_32 rfl 0 rfl ?_
    obtain ⟨o1_, eo1_, hf⟩ := bnd hf
    refine a_getR dX9_odds_33 flX9_56 rfl eo1_ ?_
    refine a_iload_n dX9_odds_36 rfl 1 rfl ?_
    obtain ⟨v2_, ev2_, hf⟩ := bnd hf
    refine a_lald dX9_odds_37 ev2_ ?_
    have e9 := Option.some.inj hf
    subst e9
    exact a_lret rfl dX9_odds_38 rfl
  · replace hf := iteT hf c9
    refine a_aload_n dX9_odds_25 rfl 0 rfl ?_
    obtain ⟨q3_, eq3_, hf⟩ := bnd hf
    refine a_callV (As := []) (rest := []) dX9_odds_26 mfX9_sum cvX9_226 (wX9_sum eq3_) rc9 (kX9_sum eq3_) (by decide) rfl rfl (Nat.le_of_ble_eq_true rfl) ?_
    refine a_goto (tgt := 38) dX9_odds_29 (by decide) ?_
    have e9 := Option.some.inj hf
    subst e9
    exact a_lret rfl dX9_odds_38 rfl
set_option maxHeartbeats 4000000 in
set_option maxRecDepth 100000 in
theorem wX9_odds {l : Launch} {Γ : Gx} {a0 : Nat} {x1 : Int32} {M : Mm} {q : Int64 × Mm} (hf : fX9_odds a0 x1 M = some q) : AM l Γ 2 yX9_odds cX9_odds 2 ((some .long)) [.ref a0, .int x1] M (some (.long q.1)) q.2 := by
  unfold fX9_odds at hf
  refine AM.of mfX9_odds (Nat.le_of_ble_eq_true rfl) ?_
  generalize mT M = t0
  generalize mW M = w0
  show AW _ _ _ _ _ _ _ _ _ 0 [(0, .ref a0), (1, .int x1)] [] _ _ _
  obtain ⟨u0, eu0, hf⟩ := bnd hf
  refine a_iload_n dX9_odds_0 rfl 1 rfl ?_
  refine a_iconst (v := -1) dX9_odds_1 (by decide) ?_
  refine a_icmp_eq dX9_odds_2 (tgt := 20) (by decide) (fun c9 => ?_) (fun c9 => ?_)
  · replace hf := iteT hf c9
    exact wX9_odds_b20 _ _ _ hf
  · replace hf := iteF hf c9
    refine a_aload_n dX9_odds_5 rfl 0 rfl ?_
    refine a_iload_n dX9_odds_6 rfl 1 rfl ?_
    obtain ⟨q1_, eq1_, hf⟩ := bnd hf
    refine a_callV (As := [.int x1]) (rest := []) dX9_odds_7 mfX9_isCell cvX9_151 (wX9_isCell eq1_) rc9 (kX9_isCell eq1_) (by decide) rfl rfl (Nat.le_of_ble_eq_true rfl) ?_
    refine a_if_ne dX9_odds_10 (tgt := 20) (by decide) (fun c9 => ?_) (fun c9 => ?_)
    · replace hf := iteF hf c9
      exact wX9_odds_b20 _ _ _ hf
    · replace hf := iteT hf c9
      refine a_aload_n dX9_odds_13 rfl 0 rfl ?_
      refine a_iconst (v := -1) dX9_odds_14 (by decide) ?_
      obtain ⟨q2_, eq2_, hf⟩ := bnd hf
      refine a_callV (As := [.int ((-1 : Int32))]) (rest := []) dX9_odds_15 mfX9_no cvX9_122 (wX9_no eq2_) rc9 (kX9_no eq2_) (by decide) rfl rfl (Nat.le_of_ble_eq_true rfl) ?_
      refine a_i2l dX9_odds_18 ?_
      have e9 := Option.some.inj hf
      subst e9
      exact a_lret rfl dX9_odds_19 rfl
theorem kX9_strength {a0 : Nat} {x1 : Int32} {x2 : Int32} {M : Mm} {q : Int32 × Mm} (hf : fX9_strength a0 x1 x2 M = some q) : (mK M a0).1 = 10 := by
  unfold fX9_strength at hf
  obtain ⟨u0, eu0, -⟩ := bnd hf
  exact kc_of eu0
set_option maxHeartbeats 4000000 in
set_option maxRecDepth 100000 in
theorem wX9_strength {l : Launch} {Γ : Gx} {a0 : Nat} {x1 : Int32} {x2 : Int32} {M : Mm} {q : Int32 × Mm} (hf : fX9_strength a0 x1 x2 M = some q) : AM l Γ 2 yX9_strength cX9_strength 3 ((some .int)) [.ref a0, .int x1, .int x2] M (some (.int q.1)) q.2 := by
  unfold fX9_strength at hf
  refine AM.of mfX9_strength (Nat.le_of_ble_eq_true rfl) ?_
  generalize mT M = t0
  generalize mW M = w0
  show AW _ _ _ _ _ _ _ _ _ 0 [(0, .ref a0), (1, .int x1), (2, .int x2)] [] _ _ _
  obtain ⟨u0, eu0, hf⟩ := bnd hf
  refine a_aload_n dX9_strength_0 rfl 0 rfl ?_
  refine a_iload_n dX9_strength_1 rfl 1 rfl ?_
  obtain ⟨q1_, eq1_, hf⟩ := bnd hf
  refine a_callV (As := [.int x1]) (rest := []) dX9_strength_2 mfX9_isSign cvX9_126 (wX9_isSign eq1_) rc9 (kX9_isSign eq1_) (by decide) rfl rfl (Nat.le_of_ble_eq_true rfl) ?_
  refine a_if_eq dX9_strength_5 (tgt := 25) (by decide) (fun c9 => ?_) (fun c9 => ?_)
  · replace hf := iteT hf c9
    refine a_aload_n dX9_strength_25 rfl 0 rfl ?_
    refine a_iconst (v := -1) dX9_strength_26 (by decide) ?_
    obtain ⟨q2_, eq2_, hf⟩ := bnd hf
    refine a_callV (As := [.int ((-1 : Int32))]) (rest := []) dX9_strength_27 mfX9_no cvX9_122 (wX9_no eq2_) rc9 (kX9_no eq2_) (by decide) rfl rfl (Nat.le_of_ble_eq_true rfl) ?_
    have e9 := Option.some.inj hf
    subst e9
    exact a_iret rfl dX9_strength_30 rfl
  · replace hf := iteF hf c9
    refine a_aload_n dX9_strength_8 rfl 0 rfl ?_
    refine a_iload_n dX9_strength_9 rfl 2 rfl ?_
    obtain ⟨q3_, eq3_, hf⟩ := bnd hf
    refine a_callV (As := [.int x2]) (rest := []) dX9_strength_10 mfX9_isCell cvX9_151 (wX9_isCell eq3_) rc9 (kX9_isCell eq3_) (by decide) rfl rfl (Nat.le_of_ble_eq_true rfl) ?_
    refine a_if_eq dX9_strength_13 (tgt := 25) (by decide) (fun c9 => ?_) (fun c9 => ?_)
    · replace hf := iteT hf c9
      refine a_aload_n dX9_strength_25 rfl 0 rfl ?_
      refine a_iconst (v := -1) dX9_strength_26 (by decide) ?_
      obtain ⟨q4_, eq4_, hf⟩ := bnd hf
      refine a_callV (As := [.int ((-1 : Int32))]) (rest := []) dX9_strength_27 mfX9_no cvX9_122 (wX9_no eq4_) rc9 (kX9_no eq4_) (by decide) rfl rfl (Nat.le_of_ble_eq_true rfl) ?_
      have e9 := Option.some.inj hf
      subst e9
      exact a_iret rfl dX9_strength_30 rfl
    · replace hf := iteF hf c9
      refine a_aload_n dX9_strength_16 rfl 0 rfl ?_
      refine a_iload_n dX9_strength_17 rfl 1 rfl ?_
      refine a_iload_n dX9_strength_18 rfl 2 rfl ?_
      obtain ⟨q5_, eq5_, hf⟩ := bnd hf
      refine a_callV (As := [.int x1, .int x2]) (rest := []) dX9_strength_19 mfX9_strengthOf cvX9_132 (wX9_strengthOf eq5_) rc9 (kX9_strengthOf eq5_) (by decide) rfl rfl (Nat.le_of_ble_eq_true rfl) ?_
      refine a_goto (tgt := 30) dX9_strength_22 (by decide) ?_
      have e9 := Option.some.inj hf
      subst e9
      exact a_iret rfl dX9_strength_30 rfl
theorem kX9_goneTo {a0 : Nat} {x1 : Int32} {x2 : Int32} {x3 : Int32} {M : Mm} {q : Int32 × Mm} (hf : fX9_goneTo a0 x1 x2 x3 M = some q) : (mK M a0).1 = 10 := by
  unfold fX9_goneTo at hf
  obtain ⟨u0, eu0, -⟩ := bnd hf
  exact kc_of eu0
set_option maxHeartbeats 4000000 in
set_option maxRecDepth 100000 in
theorem wX9_goneTo_b13 {l : Launch} {Γ : Gx} {t0 w0 : Nat} {q : Int32 × Mm} (a0 : Nat) (s0 : Int32) (M : Mm) (hf : fX9_goneTo_b13 a0 s0 M = some q) : AW l Γ yX9_goneTo cX9_goneTo 5 ((some .int)) 1 t0 w0 13 [(0, .ref a0)] [.int s0] M (some (.int q.1)) q.2 := by
  unfold fX9_goneTo_b13 at hf
  refine a_istore (i := 4) (lv1 := [(4, .int s0), (0, .ref a0)]) dX9_goneTo_13 (by decide) rfl ?_
  refine a_iload dX9_goneTo_15 0 rfl ?_
  refine a_if_ge dX9_goneTo_17 (tgt := 24) (by decide) (fun c9 => ?_) (fun c9 => ?_)
  · replace hf := iteT hf c9
    refine a_iload dX9_goneTo_24 0 rfl ?_
    refine a_aload_n dX9_goneTo_26 rfl 1 rfl ?_
    obtain ⟨v1_, ev1_, hf⟩ := bnd hf
    refine a_getI dX9_goneTo_27 flX9_7 rfl ev1_ ?_
    refine a_icmp_lt dX9_goneTo_30 (tgt := 42) (by decide) (fun c9 => ?_) (fun c9 => ?_)
    · replace hf := iteT hf c9
      refine a_iload dX9_goneTo_42 0 rfl ?_
      have e9 := Option.some.inj hf
      subst e9
      exact a_iret rfl dX9_goneTo_44 rfl
    · replace hf := iteF hf c9
      refine a_aload_n dX9_goneTo_33 rfl 1 rfl ?_
      obtain ⟨v2_, ev2_, hf⟩ := bnd hf
      refine a_getI dX9_goneTo_34 flX9_7 rfl ev2_ ?_
      refine a_iconst (v := 1) dX9_goneTo_37 (by decide) ?_
      refine a_isub dX9_goneTo_38 ?_
      refine a_goto (tgt := 44) dX9_goneTo_39 (by decide) ?_
      have e9 := Option.some.inj hf
      subst e9
      exact a_iret rfl dX9_goneTo_44 rfl
  · replace hf := iteF hf c9
    refine a_iconst (v := 0) dX9_goneTo_20 (by decide) ?_
    refine a_goto (tgt := 44) dX9_goneTo_21 (by decide) ?_
    have e9 := Option.some.inj hf
    subst e9
    exact a_iret rfl dX9_goneTo_44 rfl
set_option maxHeartbeats 4000000 in
set_option maxRecDepth 100000 in
theorem wX9_goneTo {l : Launch} {Γ : Gx} {a0 : Nat} {x1 : Int32} {x2 : Int32} {x3 : Int32} {M : Mm} {q : Int32 × Mm} (hf : fX9_goneTo a0 x1 x2 x3 M = some q) : AM l Γ 1 yX9_goneTo cX9_goneTo 5 ((some .int)) [.ref a0, .int x1, .int x2, .int x3] M (some (.int q.1)) q.2 := by
  unfold fX9_goneTo at hf
  refine AM.of mfX9_goneTo (Nat.le_of_ble_eq_true rfl) ?_
  generalize mT M = t0
  generalize mW M = w0
  show AW _ _ _ _ _ _ _ _ _ 0 [(0, .ref a0), (1, .int x1), (2, .int x2), (3, .int x3)] [] _ _ _
  obtain ⟨u0, eu0, hf⟩ := bnd hf
  refine a_iload_n dX9_goneTo_0 rfl 3 rfl ?_
  refine a_if_eq dX9_goneTo_1 (tgt := 10) (by decide) (fun c9 => ?_) (fun c9 => ?_)
  · replace hf := iteT hf c9
    refine a_iload_n dX9_goneTo_10 rfl 1 rfl ?_
    refine a_iload_n dX9_goneTo_11 rfl 2 rfl ?_
    refine a_iadd dX9_goneTo_12 ?_
    refine AW.sub (lv1 := [(0, .ref a0)]) [0] rfl ?_
    exact wX9_goneTo_b13 _ _ _ hf
  · replace hf := iteF hf c9
    refine a_iload_n dX9_goneTo_4 rfl 1 rfl ?_
    refine a_iload_n dX9_goneTo_5 rfl 2 rfl ?_
    refine a_isub dX9_goneTo_6 ?_
    refine a_goto (tgt := 13) dX9_goneTo_7 (by decide) ?_
    refine AW.sub (lv1 := [(0, .ref a0)]) [0] rfl ?_
    exact wX9_goneTo_b13 _ _ _ hf
theorem kX9_lessens {a0 : Nat} {M : Mm} {q : Mm} (hf : fX9_lessens a0 M = some q) : (mK M a0).1 = 10 := by
  unfold fX9_lessens at hf
  obtain ⟨u0, eu0, -⟩ := bnd hf
  exact kc_of eu0
set_option maxHeartbeats 4000000 in
set_option maxRecDepth 100000 in
theorem wX9_lessens_b68 {l : Launch} {Γ : Gx} {t0 w0 : Nat} {q : Mm} : ∀ (n : Nat) (a0 : Nat) (x1 : Int64) (x3 : Int32) (M : Mm), fX9_lessens_b68 n a0 x1 x3 M = some q → AW l Γ yX9_lessens cX9_lessens 10 (none) 1 t0 w0 68 [(0, .ref a0), (1, .long x1), (3, .int x3)] [] M none q := by
  intro n
  induction n with
  | zero =>
    intro a0 x1 x3 M hf
    cases hf
  | succ n ih =>
    intro a0 x1 x3 M hf
    rw [fX9_lessens_b68.eq_2] at hf
    refine a_iload_n dX9_lessens_68 rfl 2 rfl ?_
    refine a_aload_n dX9_lessens_69 rfl 0 rfl ?_
    obtain ⟨v1_, ev1_, hf⟩ := bnd hf
    refine a_getI dX9_lessens_70 flX9_7 rfl ev1_ ?_
    refine a_icmp_ge dX9_lessens_73 (tgt := 92) (by decide) (fun c9 => ?_) (fun c9 => ?_)
    · replace hf := iteT hf c9
      have e9 := Option.some.inj hf
      subst e9
      exact a_vret rfl dX9_lessens_92 rfl
    · replace hf := iteF hf c9
      refine a_aload_n dX9_lessens_76 rfl 0 rfl ?_
      obtain ⟨o2_, eo2_, hf⟩ := bnd hf
      refine a_getR dX9_lessens_77 flX9_56 rfl eo2_ ?_
      refine a_iload_n dX9_lessens_80 rfl 2 rfl ?_
      refine a_dup2 dX9_lessens_81 rfl rfl ?_
      obtain ⟨v3_, ev3_, hf⟩ := bnd hf
      refine a_lald dX9_lessens_82 ev3_ ?_
      refine a_lload_n dX9_lessens_83 rfl 1 rfl ?_
      obtain ⟨z4_, ez4_, hf⟩ := bnd hf
      refine a_ldiv dX9_lessens_84 ez4_ ?_
      obtain ⟨M5_, eM5_, hf⟩ := bnd hf
      refine a_last dX9_lessens_85 eM5_ ?_
      refine a_iinc (v := x3 + (1 : Int32)) (lv1 := [(3, .int (x3 + (1 : Int32))), (0, .ref a0), (1, .long x1)]) dX9_lessens_86 2 rfl rfl (by decide) rfl ?_
      refine a_goto (tgt := 68) dX9_lessens_89 (by decide) ?_
      refine AW.sub (lv1 := [(0, .ref a0), (1, .long x1), (3, .int (x3 + (1 : Int32)))]) [1, 2, 0] rfl ?_
      exact ih _ _ _ _ hf
set_option maxHeartbeats 4000000 in
set_option maxRecDepth 100000 in
theorem wX9_lessens_b23 {l : Launch} {Γ : Gx} {t0 w0 : Nat} {q : Mm} (k4 : Nat → Int64 → Int32 → Mm → Option (Mm)) (hk4 : ∀ (a0 : Nat) (x1 : Int64) (x3 : Int32) (M : Mm), k4 a0 x1 x3 M = some q → AW l Γ yX9_lessens cX9_lessens 10 (none) 1 t0 w0 4 [(0, .ref a0), (1, .long x1), (3, .int x3)] [] M none q) : ∀ (n : Nat) (a0 : Nat) (x3 : Int32) (x4 : Int64) (x6 : Int64) (M : Mm), fX9_lessens_b23 k4 n a0 x3 x4 x6 M = some q → AW l Γ yX9_lessens cX9_lessens 10 (none) 1 t0 w0 23 [(0, .ref a0), (3, .int x3), (4, .long x4), (6, .long x6)] [] M none q := by
  intro n
  induction n with
  | zero =>
    intro a0 x3 x4 x6 M hf
    cases hf
  | succ n ih =>
    intro a0 x3 x4 x6 M hf
    rw [fX9_lessens_b23.eq_2] at hf
    refine a_lload dX9_lessens_23 3 rfl ?_
    refine a_lconst (v := 0) dX9_lessens_25 rfl ?_
    refine a_lcmp_eq dX9_lessens_26 dX9_lessens_27 (tgt := 48) (by decide) (fun c9 => ?_) (fun c9 => ?_)
    · replace hf := iteT hf c9
      refine a_lload dX9_lessens_48 2 rfl ?_
      refine a_lstore_n (i := 1) (lv1 := [(1, .long x4), (0, .ref a0), (3, .int x3), (4, .long x4), (6, .long x6)]) dX9_lessens_50 rfl (by decide) rfl ?_
      refine a_iinc (v := x3 + (1 : Int32)) (lv1 := [(3, .int (x3 + (1 : Int32))), (1, .long x4), (0, .ref a0), (4, .long x4), (6, .long x6)]) dX9_lessens_51 2 rfl rfl (by decide) rfl ?_
      refine a_goto (tgt := 4) dX9_lessens_54 (by decide) ?_
      refine AW.sub (lv1 := [(0, .ref a0), (1, .long x4), (3, .int (x3 + (1 : Int32)))]) [2, 1, 0] rfl ?_
      exact hk4 _ _ _ _ hf
    · replace hf := iteF hf c9
      refine a_lload dX9_lessens_30 2 rfl ?_
      refine a_lload dX9_lessens_32 3 rfl ?_
      obtain ⟨z1_, ez1_, hf⟩ := bnd hf
      refine a_lrem dX9_lessens_34 ez1_ ?_
      refine a_lstore (i := 8) (lv1 := [(8, .long z1_), (0, .ref a0), (3, .int x3), (4, .long x4), (6, .long x6)]) dX9_lessens_35 (by decide) rfl ?_
      refine a_lload dX9_lessens_37 4 rfl ?_
      refine a_lstore (i := 4) (lv1 := [(4, .long x6), (8, .long z1_), (0, .ref a0), (3, .int x3), (6, .long x6)]) dX9_lessens_39 (by decide) rfl ?_
      refine a_lload dX9_lessens_41 1 rfl ?_
      refine a_lstore (i := 6) (lv1 := [(6, .long z1_), (4, .long x6), (8, .long z1_), (0, .ref a0), (3, .int x3)]) dX9_lessens_43 (by decide) rfl ?_
      refine a_goto (tgt := 23) dX9_lessens_45 (by decide) ?_
      refine AW.sub (lv1 := [(0, .ref a0), (3, .int x3), (4, .long x6), (6, .long z1_)]) [3, 4, 1, 0] rfl ?_
      exact ih _ _ _ _ _ hf
set_option maxHeartbeats 4000000 in
set_option maxRecDepth 100000 in
theorem wX9_lessens_b4 {l : Launch} {Γ : Gx} {t0 w0 : Nat} {q : Mm} : ∀ (n : Nat) (a0 : Nat) (x1 : Int64) (x3 : Int32) (M : Mm), fX9_lessens_b4 n a0 x1 x3 M = some q → AW l Γ yX9_lessens cX9_lessens 10 (none) 1 t0 w0 4 [(0, .ref a0), (1, .long x1), (3, .int x3)] [] M none q := by
  intro n
  induction n with
  | zero =>
    intro a0 x1 x3 M hf
    cases hf
  | succ n ih =>
    intro a0 x1 x3 M hf
    rw [fX9_lessens_b4.eq_2] at hf
    refine a_iload_n dX9_lessens_4 rfl 2 rfl ?_
    refine a_aload_n dX9_lessens_5 rfl 0 rfl ?_
    obtain ⟨v1_, ev1_, hf⟩ := bnd hf
    refine a_getI dX9_lessens_6 flX9_7 rfl ev1_ ?_
    refine a_icmp_ge dX9_lessens_9 (tgt := 57) (by decide) (fun c9 => ?_) (fun c9 => ?_)
    · replace hf := iteT hf c9
      refine a_lload_n dX9_lessens_57 rfl 1 rfl ?_
      refine a_ldc2 (v := 2) dX9_lessens_58 wcX9_230 ?_
      refine a_lcmp_ge dX9_lessens_61 dX9_lessens_62 (tgt := 66) (by decide) (fun c9 => ?_) (fun c9 => ?_)
      · replace hf := iteT hf c9
        refine a_iconst (v := 0) dX9_lessens_66 (by decide) ?_
        refine a_istore_n (i := 3) (lv1 := [(3, .int ((0 : Int32))), (0, .ref a0), (1, .long x1)]) dX9_lessens_67 rfl (by decide) rfl ?_
        refine AW.sub (lv1 := [(0, .ref a0), (1, .long x1), (3, .int ((0 : Int32)))]) [1, 2, 0] rfl ?_
        exact wX9_lessens_b68 _ _ _ _ _ hf
      · replace hf := iteF hf c9
        have e9 := Option.some.inj hf
        subst e9
        exact a_vret rfl dX9_lessens_65 rfl
    · replace hf := iteF hf c9
      refine a_lload_n dX9_lessens_12 rfl 1 rfl ?_
      refine a_lstore (i := 4) (lv1 := [(4, .long x1), (0, .ref a0), (1, .long x1), (3, .int x3)]) dX9_lessens_13 (by decide) rfl ?_
      refine a_aload_n dX9_lessens_15 rfl 1 rfl ?_
      obtain ⟨o2_, eo2_, hf⟩ := bnd hf
      refine a_getR dX9_lessens_16 flX9_56 rfl eo2_ ?_
      refine a_iload_n dX9_lessens_19 rfl 3 rfl ?_
      obtain ⟨v3_, ev3_, hf⟩ := bnd hf
      refine a_lald dX9_lessens_20 ev3_ ?_
      refine a_lstore (i := 6) (lv1 := [(6, .long v3_), (4, .long x1), (0, .ref a0), (1, .long x1), (3, .int x3)]) dX9_lessens_21 (by decide) rfl ?_
      refine AW.sub (lv1 := [(0, .ref a0), (3, .int x3), (4, .long x1), (6, .long v3_)]) [2, 4, 1, 0] rfl ?_
      exact wX9_lessens_b23 _ ih _ _ _ _ _ _ hf
set_option maxHeartbeats 4000000 in
set_option maxRecDepth 100000 in
theorem wX9_lessens {l : Launch} {Γ : Gx} {a0 : Nat} {M : Mm} {q : Mm} (hf : fX9_lessens a0 M = some q) : AM l Γ 1 yX9_lessens cX9_lessens 10 (none) [.ref a0] M none q := by
  unfold fX9_lessens at hf
  refine AM.of mfX9_lessens (Nat.le_of_ble_eq_true rfl) ?_
  generalize mT M = t0
  generalize mW M = w0
  show AW _ _ _ _ _ _ _ _ _ 0 [(0, .ref a0)] [] _ _ _
  obtain ⟨u0, eu0, hf⟩ := bnd hf
  refine a_lconst (v := 0) dX9_lessens_0 rfl ?_
  refine a_lstore_n (i := 1) (lv1 := [(1, .long ((0 : Int64))), (0, .ref a0)]) dX9_lessens_1 rfl (by decide) rfl ?_
  refine a_iconst (v := 0) dX9_lessens_2 (by decide) ?_
  refine a_istore_n (i := 3) (lv1 := [(3, .int ((0 : Int32))), (1, .long ((0 : Int64))), (0, .ref a0)]) dX9_lessens_3 rfl (by decide) rfl ?_
  refine AW.sub (lv1 := [(0, .ref a0), (1, .long ((0 : Int64))), (3, .int ((0 : Int32)))]) [2, 1, 0] rfl ?_
  exact wX9_lessens_b4 _ _ _ _ _ hf
theorem kX9_steps {a0 : Nat} {x1 : Int32} {M : Mm} {q : Mm} (hf : fX9_steps a0 x1 M = some q) : (mK M a0).1 = 10 := by
  unfold fX9_steps at hf
  obtain ⟨u0, eu0, -⟩ := bnd hf
  exact kc_of eu0
set_option maxHeartbeats 4000000 in
set_option maxRecDepth 100000 in
theorem wX9_steps_b124 {l : Launch} {Γ : Gx} {t0 w0 : Nat} {q : Mm} : ∀ (n : Nat) (a0 : Nat) (x2 : Int32) (M : Mm), fX9_steps_b124 n a0 x2 M = some q → AW l Γ yX9_steps cX9_steps 3 (none) 2 t0 w0 124 [(0, .ref a0), (2, .int x2)] [] M none q := by
  intro n
  induction n with
  | zero =>
    intro a0 x2 M hf
    cases hf
  | succ n ih =>
    intro a0 x2 M hf
    rw [fX9_steps_b124.eq_2] at hf
    refine a_iload_n dX9_steps_124 rfl 1 rfl ?_
    refine a_aload_n dX9_steps_125 rfl 0 rfl ?_
    obtain ⟨v1_, ev1_, hf⟩ := bnd hf
    refine a_getI dX9_steps_126 flX9_7 rfl ev1_ ?_
    refine a_icmp_ge dX9_steps_129 (tgt := 150) (by decide) (fun c9 => ?_) (fun c9 => ?_)
    · replace hf := iteT hf c9
      refine a_aload_n dX9_steps_150 rfl 0 rfl ?_
      obtain ⟨M2_, eM2_, hf⟩ := bnd hf
      refine a_callV (As := []) (rest := []) dX9_steps_151 mfX9_lessens cvX9_236 (wX9_lessens eM2_) rc9 (kX9_lessens eM2_) (by decide) rfl rfl (Nat.le_of_ble_eq_true rfl) ?_
      refine a_aload_n dX9_steps_154 rfl 0 rfl ?_
      refine a_dup dX9_steps_155 rfl ?_
      obtain ⟨v3_, ev3_, hf⟩ := bnd hf
      refine a_getI dX9_steps_156 flX9_136 rfl ev3_ ?_
      refine a_iconst (v := 1) dX9_steps_159 (by decide) ?_
      refine a_iadd dX9_steps_160 ?_
      obtain ⟨M4_, eM4_, hf⟩ := bnd hf
      refine a_putI dX9_steps_161 fpX9_136 rfl (Or.inr nf9_8) eM4_ ?_
      refine a_aload_n dX9_steps_164 rfl 0 rfl ?_
      refine a_dup dX9_steps_165 rfl ?_
      obtain ⟨v5_, ev5_, hf⟩ := bnd hf
      refine a_getI dX9_steps_166 flX9_129 rfl ev5_ ?_
      refine a_iconst (v := 1) dX9_steps_169 (by decide) ?_
      refine a_iadd dX9_steps_170 ?_
      obtain ⟨M6_, eM6_, hf⟩ := bnd hf
      refine a_putI dX9_steps_171 fpX9_129 rfl (Or.inr nf9_9) eM6_ ?_
      have e9 := Option.some.inj hf
      subst e9
      exact a_vret rfl dX9_steps_174 rfl
    · replace hf := iteF hf c9
      refine a_aload_n dX9_steps_132 rfl 0 rfl ?_
      obtain ⟨o7_, eo7_, hf⟩ := bnd hf
      refine a_getR dX9_steps_133 flX9_56 rfl eo7_ ?_
      refine a_iload_n dX9_steps_136 rfl 1 rfl ?_
      refine a_aload_n dX9_steps_137 rfl 0 rfl ?_
      obtain ⟨o8_, eo8_, hf⟩ := bnd hf
      refine a_getR dX9_steps_138 flX9_60 rfl eo8_ ?_
      refine a_iload_n dX9_steps_141 rfl 1 rfl ?_
      obtain ⟨v9_, ev9_, hf⟩ := bnd hf
      refine a_lald dX9_steps_142 ev9_ ?_
      obtain ⟨M10_, eM10_, hf⟩ := bnd hf
      refine a_last dX9_steps_143 eM10_ ?_
      refine a_iinc (v := x2 + (1 : Int32)) (lv1 := [(2, .int (x2 + (1 : Int32))), (0, .ref a0)]) dX9_steps_144 1 rfl rfl (by decide) rfl ?_
      refine a_goto (tgt := 124) dX9_steps_147 (by decide) ?_
      refine AW.sub (lv1 := [(0, .ref a0), (2, .int (x2 + (1 : Int32)))]) [1, 0] rfl ?_
      exact ih _ _ _ hf
set_option maxHeartbeats 4000000 in
set_option maxRecDepth 100000 in
theorem wX9_steps_b25 {l : Launch} {Γ : Gx} {t0 w0 : Nat} {q : Mm} : ∀ (n : Nat) (a0 : Nat) (x1 : Int32) (x2 : Int32) (M : Mm), fX9_steps_b25 n a0 x1 x2 M = some q → AW l Γ yX9_steps cX9_steps 3 (none) 2 t0 w0 25 [(0, .ref a0), (1, .int x1), (2, .int x2)] [] M none q := by
  intro n
  induction n with
  | zero =>
    intro a0 x1 x2 M hf
    cases hf
  | succ n ih =>
    intro a0 x1 x2 M hf
    rw [fX9_steps_b25.eq_2] at hf
    refine a_iload_n dX9_steps_25 rfl 2 rfl ?_
    refine a_aload_n dX9_steps_26 rfl 0 rfl ?_
    obtain ⟨v1_, ev1_, hf⟩ := bnd hf
    refine a_getI dX9_steps_27 flX9_7 rfl ev1_ ?_
    refine a_icmp_ge dX9_steps_30 (tgt := 122) (by decide) (fun c9 => ?_) (fun c9 => ?_)
    · replace hf := iteT hf c9
      refine a_iconst (v := 0) dX9_steps_122 (by decide) ?_
      refine a_istore_n (i := 2) (lv1 := [(2, .int ((0 : Int32))), (0, .ref a0), (1, .int x1)]) dX9_steps_123 rfl (by decide) rfl ?_
      refine AW.sub (lv1 := [(0, .ref a0), (2, .int ((0 : Int32)))]) [1, 0] rfl ?_
      exact wX9_steps_b124 _ _ _ _ hf
    · replace hf := iteF hf c9
      refine a_aload_n dX9_steps_33 rfl 0 rfl ?_
      obtain ⟨o2_, eo2_, hf⟩ := bnd hf
      refine a_getR dX9_steps_34 flX9_60 rfl eo2_ ?_
      refine a_iload_n dX9_steps_37 rfl 2 rfl ?_
      refine a_dup2 dX9_steps_38 rfl rfl ?_
      obtain ⟨v3_, ev3_, hf⟩ := bnd hf
      refine a_lald dX9_steps_39 ev3_ ?_
      refine a_aload_n dX9_steps_40 rfl 0 rfl ?_
      obtain ⟨v4_, ev4_, hf⟩ := bnd hf
      refine a_getI dX9_steps_41 flX9_13 rfl ev4_ ?_
      refine a_i2l dX9_steps_44 ?_
      refine a_aload_n dX9_steps_45 rfl 0 rfl ?_
      obtain ⟨o5_, eo5_, hf⟩ := bnd hf
      refine a_getR dX9_steps_46 flX9_56 rfl eo5_ ?_
      refine a_iload_n dX9_steps_49 rfl 2 rfl ?_
      obtain ⟨v6_, ev6_, hf⟩ := bnd hf
      refine a_lald dX9_steps_50 ev6_ ?_
      refine a_lmul dX9_steps_51 ?_
      refine a_ladd dX9_steps_52 ?_
      obtain ⟨M7_, eM7_, hf⟩ := bnd hf
      refine a_last dX9_steps_53 eM7_ ?_
      refine a_aload_n dX9_steps_54 rfl 0 rfl ?_
      obtain ⟨o8_, eo8_, hf⟩ := bnd hf
      refine a_getR dX9_steps_55 flX9_60 rfl eo8_ ?_
      refine a_aload_n dX9_steps_58 rfl 0 rfl ?_
      refine a_iload_n dX9_steps_59 rfl 2 rfl ?_
      refine a_iconst (v := 2) dX9_steps_60 (by decide) ?_
      refine a_iload_n dX9_steps_61 rfl 1 rfl ?_
      obtain ⟨q9_, eq9_, hf⟩ := bnd hf
      refine a_callV (As := [.int x2, .int ((2 : Int32)), .int x1]) (rest := [.ref o8_]) dX9_steps_62 mfX9_goneTo cvX9_232 (wX9_goneTo eq9_) rc9 (kX9_goneTo eq9_) (by decide) rfl rfl (Nat.le_of_ble_eq_true rfl) ?_
      refine a_dup2 dX9_steps_65 rfl rfl ?_
      obtain ⟨v10_, ev10_, hf⟩ := bnd hf
      refine a_lald dX9_steps_66 ev10_ ?_
      refine a_aload_n dX9_steps_67 rfl 0 rfl ?_
      obtain ⟨v11_, ev11_, hf⟩ := bnd hf
      refine a_getI dX9_steps_68 flX9_16 rfl ev11_ ?_
      refine a_i2l dX9_steps_71 ?_
      refine a_aload_n dX9_steps_72 rfl 0 rfl ?_
      obtain ⟨o12_, eo12_, hf⟩ := bnd hf
      refine a_getR dX9_steps_73 flX9_56 rfl eo12_ ?_
      refine a_iload_n dX9_steps_76 rfl 2 rfl ?_
      obtain ⟨v13_, ev13_, hf⟩ := bnd hf
      refine a_lald dX9_steps_77 ev13_ ?_
      refine a_lmul dX9_steps_78 ?_
      refine a_ladd dX9_steps_79 ?_
      obtain ⟨M14_, eM14_, hf⟩ := bnd hf
      refine a_last dX9_steps_80 eM14_ ?_
      refine a_aload_n dX9_steps_81 rfl 0 rfl ?_
      obtain ⟨o15_, eo15_, hf⟩ := bnd hf
      refine a_getR dX9_steps_82 flX9_60 rfl eo15_ ?_
      refine a_aload_n dX9_steps_85 rfl 0 rfl ?_
      refine a_iload_n dX9_steps_86 rfl 2 rfl ?_
      refine a_iconst (v := 1) dX9_steps_87 (by decide) ?_
      refine a_iload_n dX9_steps_88 rfl 1 rfl ?_
      obtain ⟨q16_, eq16_, hf⟩ := bnd hf
      refine a_callV (As := [.int x2, .int ((1 : Int32)), .int x1]) (rest := [.ref o15_]) dX9_steps_89 mfX9_goneTo cvX9_232 (wX9_goneTo eq16_) rc9 (kX9_goneTo eq16_) (by decide) rfl rfl (Nat.le_of_ble_eq_true rfl) ?_
      refine a_dup2 dX9_steps_92 rfl rfl ?_
      obtain ⟨v17_, ev17_, hf⟩ := bnd hf
      refine a_lald dX9_steps_93 ev17_ ?_
      refine a_bipush (v := 10) dX9_steps_94 (by decide) ?_
      refine a_aload_n dX9_steps_96 rfl 0 rfl ?_
      obtain ⟨v18_, ev18_, hf⟩ := bnd hf
      refine a_getI dX9_steps_97 flX9_13 rfl ev18_ ?_
      refine a_isub dX9_steps_100 ?_
      refine a_aload_n dX9_steps_101 rfl 0 rfl ?_
      obtain ⟨v19_, ev19_, hf⟩ := bnd hf
      refine a_getI dX9_steps_102 flX9_16 rfl ev19_ ?_
      refine a_isub dX9_steps_105 ?_
      refine a_i2l dX9_steps_106 ?_
      refine a_aload_n dX9_steps_107 rfl 0 rfl ?_
      obtain ⟨o20_, eo20_, hf⟩ := bnd hf
      refine a_getR dX9_steps_108 flX9_56 rfl eo20_ ?_
      refine a_iload_n dX9_steps_111 rfl 2 rfl ?_
      obtain ⟨v21_, ev21_, hf⟩ := bnd hf
      refine a_lald dX9_steps_112 ev21_ ?_
      refine a_lmul dX9_steps_113 ?_
      refine a_ladd dX9_steps_114 ?_
      obtain ⟨M22_, eM22_, hf⟩ := bnd hf
      refine a_last dX9_steps_115 eM22_ ?_
      refine a_iinc (v := x2 + (1 : Int32)) (lv1 := [(2, .int (x2 + (1 : Int32))), (0, .ref a0), (1, .int x1)]) dX9_steps_116 2 rfl rfl (by decide) rfl ?_
      refine a_goto (tgt := 25) dX9_steps_119 (by decide) ?_
      refine AW.sub (lv1 := [(0, .ref a0), (1, .int x1), (2, .int (x2 + (1 : Int32)))]) [1, 2, 0] rfl ?_
      exact ih _ _ _ _ hf
set_option maxHeartbeats 4000000 in
set_option maxRecDepth 100000 in
theorem wX9_steps_b2 {l : Launch} {Γ : Gx} {t0 w0 : Nat} {q : Mm} : ∀ (n : Nat) (a0 : Nat) (x1 : Int32) (x2 : Int32) (M : Mm), fX9_steps_b2 n a0 x1 x2 M = some q → AW l Γ yX9_steps cX9_steps 3 (none) 2 t0 w0 2 [(0, .ref a0), (1, .int x1), (2, .int x2)] [] M none q := by
  intro n
  induction n with
  | zero =>
    intro a0 x1 x2 M hf
    cases hf
  | succ n ih =>
    intro a0 x1 x2 M hf
    rw [fX9_steps_b2.eq_2] at hf
    refine a_iload_n dX9_steps_2 rfl 2 rfl ?_
    refine a_aload_n dX9_steps_3 rfl 0 rfl ?_
    obtain ⟨v1_, ev1_, hf⟩ := bnd hf
    refine a_getI dX9_steps_4 flX9_7 rfl ev1_ ?_
    refine a_icmp_ge dX9_steps_7 (tgt := 23) (by decide) (fun c9 => ?_) (fun c9 => ?_)
    · replace hf := iteT hf c9
      refine a_iconst (v := 0) dX9_steps_23 (by decide) ?_
      refine a_istore_n (i := 2) (lv1 := [(2, .int ((0 : Int32))), (0, .ref a0), (1, .int x1)]) dX9_steps_24 rfl (by decide) rfl ?_
      refine AW.sub (lv1 := [(0, .ref a0), (1, .int x1), (2, .int ((0 : Int32)))]) [1, 2, 0] rfl ?_
      exact wX9_steps_b25 _ _ _ _ _ hf
    · replace hf := iteF hf c9
      refine a_aload_n dX9_steps_10 rfl 0 rfl ?_
      obtain ⟨o2_, eo2_, hf⟩ := bnd hf
      refine a_getR dX9_steps_11 flX9_60 rfl eo2_ ?_
      refine a_iload_n dX9_steps_14 rfl 2 rfl ?_
      refine a_lconst (v := 0) dX9_steps_15 rfl ?_
      obtain ⟨M3_, eM3_, hf⟩ := bnd hf
      refine a_last dX9_steps_16 eM3_ ?_
      refine a_iinc (v := x2 + (1 : Int32)) (lv1 := [(2, .int (x2 + (1 : Int32))), (0, .ref a0), (1, .int x1)]) dX9_steps_17 2 rfl rfl (by decide) rfl ?_
      refine a_goto (tgt := 2) dX9_steps_20 (by decide) ?_
      refine AW.sub (lv1 := [(0, .ref a0), (1, .int x1), (2, .int (x2 + (1 : Int32)))]) [1, 2, 0] rfl ?_
      exact ih _ _ _ _ hf
set_option maxHeartbeats 4000000 in
set_option maxRecDepth 100000 in
theorem wX9_steps {l : Launch} {Γ : Gx} {a0 : Nat} {x1 : Int32} {M : Mm} {q : Mm} (hf : fX9_steps a0 x1 M = some q) : AM l Γ 2 yX9_steps cX9_steps 3 (none) [.ref a0, .int x1] M none q := by
  unfold fX9_steps at hf
  refine AM.of mfX9_steps (Nat.le_of_ble_eq_true rfl) ?_
  generalize mT M = t0
  generalize mW M = w0
  show AW _ _ _ _ _ _ _ _ _ 0 [(0, .ref a0), (1, .int x1)] [] _ _ _
  obtain ⟨u0, eu0, hf⟩ := bnd hf
  refine a_iconst (v := 0) dX9_steps_0 (by decide) ?_
  refine a_istore_n (i := 2) (lv1 := [(2, .int ((0 : Int32))), (0, .ref a0), (1, .int x1)]) dX9_steps_1 rfl (by decide) rfl ?_
  refine AW.sub (lv1 := [(0, .ref a0), (1, .int x1), (2, .int ((0 : Int32)))]) [1, 2, 0] rfl ?_
  exact wX9_steps_b2 _ _ _ _ _ hf
theorem kX9_step {a0 : Nat} {x1 : Int32} {M : Mm} {q : Int32 × Mm} (hf : fX9_step a0 x1 M = some q) : (mK M a0).1 = 10 := by
  unfold fX9_step at hf
  obtain ⟨u0, eu0, -⟩ := bnd hf
  exact kc_of eu0
set_option maxHeartbeats 4000000 in
set_option maxRecDepth 100000 in
theorem wX9_step {l : Launch} {Γ : Gx} {a0 : Nat} {x1 : Int32} {M : Mm} {q : Int32 × Mm} (hf : fX9_step a0 x1 M = some q) : AM l Γ 3 yX9_step cX9_step 2 ((some .int)) [.ref a0, .int x1] M (some (.int q.1)) q.2 := by
  unfold fX9_step at hf
  refine AM.of mfX9_step (Nat.le_of_ble_eq_true rfl) ?_
  generalize mT M = t0
  generalize mW M = w0
  show AW _ _ _ _ _ _ _ _ _ 0 [(0, .ref a0), (1, .int x1)] [] _ _ _
  obtain ⟨u0, eu0, hf⟩ := bnd hf
  refine a_aload_n dX9_step_0 rfl 0 rfl ?_
  obtain ⟨v1_, ev1_, hf⟩ := bnd hf
  refine a_getI dX9_step_1 flX9_136 rfl ev1_ ?_
  refine a_bipush (v := 16) dX9_step_4 (by decide) ?_
  refine a_icmp_ne dX9_step_6 (tgt := 16) (by decide) (fun c9 => ?_) (fun c9 => ?_)
  · replace hf := iteF hf c9
    refine a_aload_n dX9_step_16 rfl 0 rfl ?_
    refine a_iload_n dX9_step_17 rfl 1 rfl ?_
    obtain ⟨M2_, eM2_, hf⟩ := bnd hf
    refine a_callV (As := [.int x1]) (rest := []) dX9_step_18 mfX9_steps cvX9_239 (wX9_steps eM2_) rc9 (kX9_steps eM2_) (by decide) rfl rfl (Nat.le_of_ble_eq_true rfl) ?_
    refine a_aload_n dX9_step_21 rfl 0 rfl ?_
    obtain ⟨v3_, ev3_, hf⟩ := bnd hf
    refine a_getI dX9_step_22 flX9_136 rfl ev3_ ?_
    have e9 := Option.some.inj hf
    subst e9
    exact a_iret rfl dX9_step_25 rfl
  · replace hf := iteT hf c9
    refine a_aload_n dX9_step_9 rfl 0 rfl ?_
    refine a_bipush (v := -7) dX9_step_10 (by decide) ?_
    obtain ⟨q4_, eq4_, hf⟩ := bnd hf
    refine a_callV (As := [.int ((-7 : Int32))]) (rest := []) dX9_step_12 mfX9_no cvX9_122 (wX9_no eq4_) rc9 (kX9_no eq4_) (by decide) rfl rfl (Nat.le_of_ble_eq_true rfl) ?_
    have e9 := Option.some.inj hf
    subst e9
    exact a_iret rfl dX9_step_15 rfl
theorem kX9_canBe {a0 : Nat} {x1 : Int32} {x2 : Int32} {M : Mm} {q : Int32 × Mm} (hf : fX9_canBe a0 x1 x2 M = some q) : (mK M a0).1 = 10 := by
  unfold fX9_canBe at hf
  obtain ⟨u0, eu0, -⟩ := bnd hf
  exact kc_of eu0
set_option maxHeartbeats 4000000 in
set_option maxRecDepth 100000 in
theorem wX9_canBe_b2 {l : Launch} {Γ : Gx} {t0 w0 : Nat} {q : Int32 × Mm} : ∀ (n : Nat) (a0 : Nat) (x1 : Int32) (x2 : Int32) (x3 : Int32) (M : Mm), fX9_canBe_b2 n a0 x1 x2 x3 M = some q → AW l Γ yX9_canBe cX9_canBe 5 ((some .boolean)) 2 t0 w0 2 [(0, .ref a0), (1, .int x1), (2, .int x2), (3, .int x3)] [] M (some (.int q.1)) q.2 := by
  intro n
  induction n with
  | zero =>
    intro a0 x1 x2 x3 M hf
    cases hf
  | succ n ih =>
    intro a0 x1 x2 x3 M hf
    rw [fX9_canBe_b2.eq_2] at hf
    refine a_iload_n dX9_canBe_2 rfl 3 rfl ?_
    refine a_aload_n dX9_canBe_3 rfl 0 rfl ?_
    obtain ⟨v1_, ev1_, hf⟩ := bnd hf
    refine a_getI dX9_canBe_4 flX9_7 rfl ev1_ ?_
    refine a_icmp_ge dX9_canBe_7 (tgt := 56) (by decide) (fun c9 => ?_) (fun c9 => ?_)
    · replace hf := iteT hf c9
      refine a_iconst (v := 0) dX9_canBe_56 (by decide) ?_
      have e9 := Option.some.inj hf
      subst e9
      exact a_zret rfl rfl dX9_canBe_57 rfl
    · replace hf := iteF hf c9
      refine a_aload_n dX9_canBe_10 rfl 0 rfl ?_
      refine a_iload_n dX9_canBe_11 rfl 1 rfl ?_
      refine a_iload_n dX9_canBe_12 rfl 3 rfl ?_
      obtain ⟨q2_, eq2_, hf⟩ := bnd hf
      refine a_callV (As := [.int x1, .int x3]) (rest := []) dX9_canBe_13 mfX9_strengthOf cvX9_132 (wX9_strengthOf eq2_) rc9 (kX9_strengthOf eq2_) (by decide) rfl rfl (Nat.le_of_ble_eq_true rfl) ?_
      refine a_istore (i := 4) (lv1 := [(4, .int q2_.1), (0, .ref a0), (1, .int x1), (2, .int x2), (3, .int x3)]) dX9_canBe_16 (by decide) rfl ?_
      refine a_aload_n dX9_canBe_18 rfl 1 rfl ?_
      obtain ⟨o3_, eo3_, hf⟩ := bnd hf
      refine a_getR dX9_canBe_19 flX9_56 rfl eo3_ ?_
      refine a_iload_n dX9_canBe_22 rfl 4 rfl ?_
      obtain ⟨v4_, ev4_, hf⟩ := bnd hf
      refine a_lald dX9_canBe_23 ev4_ ?_
      refine a_lconst (v := 0) dX9_canBe_24 rfl ?_
      refine a_lcmp_le dX9_canBe_25 dX9_canBe_26 (tgt := 50) (by decide) (fun c9 => ?_) (fun c9 => ?_)
      · replace hf := iteT hf c9
        refine a_iinc (v := x3 + (1 : Int32)) (lv1 := [(3, .int (x3 + (1 : Int32))), (4, .int q2_.1), (0, .ref a0), (1, .int x1), (2, .int x2)]) dX9_canBe_50 4 rfl rfl (by decide) rfl ?_
        refine a_goto (tgt := 2) dX9_canBe_53 (by decide) ?_
        refine AW.sub (lv1 := [(0, .ref a0), (1, .int x1), (2, .int x2), (3, .int (x3 + (1 : Int32)))]) [2, 3, 4, 0] rfl ?_
        exact ih _ _ _ _ _ hf
      · replace hf := iteF hf c9
        refine a_iload_n dX9_canBe_29 rfl 3 rfl ?_
        refine a_if_eq dX9_canBe_30 (tgt := 41) (by decide) (fun c9 => ?_) (fun c9 => ?_)
        · replace hf := iteT hf c9
          refine a_iload dX9_canBe_41 0 rfl ?_
          refine a_bipush (v := 10) dX9_canBe_43 (by decide) ?_
          refine a_icmp_ge dX9_canBe_45 (tgt := 50) (by decide) (fun c9 => ?_) (fun c9 => ?_)
          · replace hf := iteT hf c9
            refine a_iinc (v := x3 + (1 : Int32)) (lv1 := [(3, .int (x3 + (1 : Int32))), (4, .int q2_.1), (0, .ref a0), (1, .int x1), (2, .int x2)]) dX9_canBe_50 4 rfl rfl (by decide) rfl ?_
            refine a_goto (tgt := 2) dX9_canBe_53 (by decide) ?_
            refine AW.sub (lv1 := [(0, .ref a0), (1, .int x1), (2, .int x2), (3, .int (x3 + (1 : Int32)))]) [2, 3, 4, 0] rfl ?_
            exact ih _ _ _ _ _ hf
          · replace hf := iteF hf c9
            refine a_iconst (v := 1) dX9_canBe_48 (by decide) ?_
            have e9 := Option.some.inj hf
            subst e9
            exact a_zret rfl rfl dX9_canBe_49 rfl
        · replace hf := iteF hf c9
          refine a_iload dX9_canBe_33 0 rfl ?_
          refine a_if_le dX9_canBe_35 (tgt := 50) (by decide) (fun c9 => ?_) (fun c9 => ?_)
          · replace hf := iteT hf c9
            refine a_iinc (v := x3 + (1 : Int32)) (lv1 := [(3, .int (x3 + (1 : Int32))), (4, .int q2_.1), (0, .ref a0), (1, .int x1), (2, .int x2)]) dX9_canBe_50 4 rfl rfl (by decide) rfl ?_
            refine a_goto (tgt := 2) dX9_canBe_53 (by decide) ?_
            refine AW.sub (lv1 := [(0, .ref a0), (1, .int x1), (2, .int x2), (3, .int (x3 + (1 : Int32)))]) [2, 3, 4, 0] rfl ?_
            exact ih _ _ _ _ _ hf
          · replace hf := iteF hf c9
            refine a_goto (tgt := 48) dX9_canBe_38 (by decide) ?_
            refine a_iconst (v := 1) dX9_canBe_48 (by decide) ?_
            have e9 := Option.some.inj hf
            subst e9
            exact a_zret rfl rfl dX9_canBe_49 rfl
set_option maxHeartbeats 4000000 in
set_option maxRecDepth 100000 in
theorem wX9_canBe {l : Launch} {Γ : Gx} {a0 : Nat} {x1 : Int32} {x2 : Int32} {M : Mm} {q : Int32 × Mm} (hf : fX9_canBe a0 x1 x2 M = some q) : AM l Γ 2 yX9_canBe cX9_canBe 5 ((some .boolean)) [.ref a0, .int x1, .int x2] M (some (.int q.1)) q.2 := by
  unfold fX9_canBe at hf
  refine AM.of mfX9_canBe (Nat.le_of_ble_eq_true rfl) ?_
  generalize mT M = t0
  generalize mW M = w0
  show AW _ _ _ _ _ _ _ _ _ 0 [(0, .ref a0), (1, .int x1), (2, .int x2)] [] _ _ _
  obtain ⟨u0, eu0, hf⟩ := bnd hf
  refine a_iconst (v := 0) dX9_canBe_0 (by decide) ?_
  refine a_istore_n (i := 3) (lv1 := [(3, .int ((0 : Int32))), (0, .ref a0), (1, .int x1), (2, .int x2)]) dX9_canBe_1 rfl (by decide) rfl ?_
  refine AW.sub (lv1 := [(0, .ref a0), (1, .int x1), (2, .int x2), (3, .int ((0 : Int32)))]) [1, 2, 3, 0] rfl ?_
  exact wX9_canBe_b2 _ _ _ _ _ _ hf
theorem kX9_feels {a0 : Nat} {x1 : Int32} {x2 : Int32} {M : Mm} {q : Mm} (hf : fX9_feels a0 x1 x2 M = some q) : (mK M a0).1 = 10 := by
  unfold fX9_feels at hf
  obtain ⟨u0, eu0, -⟩ := bnd hf
  exact kc_of eu0
set_option maxHeartbeats 4000000 in
set_option maxRecDepth 100000 in
theorem wX9_feels_b41 {l : Launch} {Γ : Gx} {t0 w0 : Nat} {q : Mm} (k2 : Nat → Int32 → Int32 → Int32 → Mm → Option (Mm)) (hk2 : ∀ (a0 : Nat) (x1 : Int32) (x2 : Int32) (x3 : Int32) (M : Mm), k2 a0 x1 x2 x3 M = some q → AW l Γ yX9_feels cX9_feels 5 (none) 2 t0 w0 2 [(0, .ref a0), (1, .int x1), (2, .int x2), (3, .int x3)] [] M none q) (a0 : Nat) (x1 : Int32) (x2 : Int32) (x3 : Int32) (s0 : Nat) (s1 : Int32) (s2 : Int64) (s3 : Int64) (M : Mm) (hf : fX9_feels_b41 k2 a0 x1 x2 x3 s0 s1 s2 s3 M = some q) : AW l Γ yX9_feels cX9_feels 5 (none) 2 t0 w0 41 [(0, .ref a0), (1, .int x1), (2, .int x2), (3, .int x3)] [.long s3, .long s2, .int s1, .ref s0] M none q := by
  unfold fX9_feels_b41 at hf
  refine a_lmul dX9_feels_41 ?_
  obtain ⟨M1_, eM1_, hf⟩ := bnd hf
  refine a_last dX9_feels_42 eM1_ ?_
  refine a_iinc (v := x3 + (1 : Int32)) (lv1 := [(3, .int (x3 + (1 : Int32))), (0, .ref a0), (1, .int x1), (2, .int x2)]) dX9_feels_43 3 rfl rfl (by decide) rfl ?_
  refine a_goto (tgt := 2) dX9_feels_46 (by decide) ?_
  refine AW.sub (lv1 := [(0, .ref a0), (1, .int x1), (2, .int x2), (3, .int (x3 + (1 : Int32)))]) [1, 2, 3, 0] rfl ?_
  exact hk2 _ _ _ _ _ hf
set_option maxHeartbeats 4000000 in
set_option maxRecDepth 100000 in
theorem wX9_feels_b2 {l : Launch} {Γ : Gx} {t0 w0 : Nat} {q : Mm} : ∀ (n : Nat) (a0 : Nat) (x1 : Int32) (x2 : Int32) (x3 : Int32) (M : Mm), fX9_feels_b2 n a0 x1 x2 x3 M = some q → AW l Γ yX9_feels cX9_feels 5 (none) 2 t0 w0 2 [(0, .ref a0), (1, .int x1), (2, .int x2), (3, .int x3)] [] M none q := by
  intro n
  induction n with
  | zero =>
    intro a0 x1 x2 x3 M hf
    cases hf
  | succ n ih =>
    intro a0 x1 x2 x3 M hf
    rw [fX9_feels_b2.eq_2] at hf
    refine a_iload_n dX9_feels_2 rfl 3 rfl ?_
    refine a_aload_n dX9_feels_3 rfl 0 rfl ?_
    obtain ⟨v1_, ev1_, hf⟩ := bnd hf
    refine a_getI dX9_feels_4 flX9_7 rfl ev1_ ?_
    refine a_icmp_ge dX9_feels_7 (tgt := 49) (by decide) (fun c9 => ?_) (fun c9 => ?_)
    · replace hf := iteT hf c9
      refine a_aload_n dX9_feels_49 rfl 0 rfl ?_
      obtain ⟨M2_, eM2_, hf⟩ := bnd hf
      refine a_callV (As := []) (rest := []) dX9_feels_50 mfX9_lessens cvX9_236 (wX9_lessens eM2_) rc9 (kX9_lessens eM2_) (by decide) rfl rfl (Nat.le_of_ble_eq_true rfl) ?_
      refine a_aload_n dX9_feels_53 rfl 0 rfl ?_
      refine a_dup dX9_feels_54 rfl ?_
      obtain ⟨v3_, ev3_, hf⟩ := bnd hf
      refine a_getI dX9_feels_55 flX9_136 rfl ev3_ ?_
      refine a_iconst (v := 1) dX9_feels_58 (by decide) ?_
      refine a_iadd dX9_feels_59 ?_
      obtain ⟨M4_, eM4_, hf⟩ := bnd hf
      refine a_putI dX9_feels_60 fpX9_136 rfl (Or.inr nf9_8) eM4_ ?_
      have e9 := Option.some.inj hf
      subst e9
      exact a_vret rfl dX9_feels_63 rfl
    · replace hf := iteF hf c9
      refine a_aload_n dX9_feels_10 rfl 0 rfl ?_
      refine a_iload_n dX9_feels_11 rfl 1 rfl ?_
      refine a_iload_n dX9_feels_12 rfl 3 rfl ?_
      obtain ⟨q5_, eq5_, hf⟩ := bnd hf
      refine a_callV (As := [.int x1, .int x3]) (rest := []) dX9_feels_13 mfX9_strengthOf cvX9_132 (wX9_strengthOf eq5_) rc9 (kX9_strengthOf eq5_) (by decide) rfl rfl (Nat.le_of_ble_eq_true rfl) ?_
      refine a_istore (i := 4) (lv1 := [(4, .int q5_.1), (0, .ref a0), (1, .int x1), (2, .int x2), (3, .int x3)]) dX9_feels_16 (by decide) rfl ?_
      refine a_aload_n dX9_feels_18 rfl 1 rfl ?_
      obtain ⟨o6_, eo6_, hf⟩ := bnd hf
      refine a_getR dX9_feels_19 flX9_56 rfl eo6_ ?_
      refine a_iload_n dX9_feels_22 rfl 4 rfl ?_
      refine a_dup2 dX9_feels_23 rfl rfl ?_
      obtain ⟨v7_, ev7_, hf⟩ := bnd hf
      refine a_lald dX9_feels_24 ev7_ ?_
      refine a_iload_n dX9_feels_25 rfl 3 rfl ?_
      refine a_if_eq dX9_feels_26 (tgt := 35) (by decide) (fun c9 => ?_) (fun c9 => ?_)
      · replace hf := iteT hf c9
        refine a_bipush (v := 10) dX9_feels_35 (by decide) ?_
        refine a_iload dX9_feels_37 0 rfl ?_
        refine a_isub dX9_feels_39 ?_
        refine a_i2l dX9_feels_40 ?_
        refine AW.sub (lv1 := [(0, .ref a0), (1, .int x1), (2, .int x2), (3, .int x3)]) [1, 2, 3, 4] rfl ?_
        exact wX9_feels_b41 _ ih _ _ _ _ _ _ _ _ _ hf
      · replace hf := iteF hf c9
        refine a_iload dX9_feels_29 0 rfl ?_
        refine a_i2l dX9_feels_31 ?_
        refine a_goto (tgt := 41) dX9_feels_32 (by decide) ?_
        refine AW.sub (lv1 := [(0, .ref a0), (1, .int x1), (2, .int x2), (3, .int x3)]) [1, 2, 3, 4] rfl ?_
        exact wX9_feels_b41 _ ih _ _ _ _ _ _ _ _ _ hf
set_option maxHeartbeats 4000000 in
set_option maxRecDepth 100000 in
theorem wX9_feels {l : Launch} {Γ : Gx} {a0 : Nat} {x1 : Int32} {x2 : Int32} {M : Mm} {q : Mm} (hf : fX9_feels a0 x1 x2 M = some q) : AM l Γ 2 yX9_feels cX9_feels 5 (none) [.ref a0, .int x1, .int x2] M none q := by
  unfold fX9_feels at hf
  refine AM.of mfX9_feels (Nat.le_of_ble_eq_true rfl) ?_
  generalize mT M = t0
  generalize mW M = w0
  show AW _ _ _ _ _ _ _ _ _ 0 [(0, .ref a0), (1, .int x1), (2, .int x2)] [] _ _ _
  obtain ⟨u0, eu0, hf⟩ := bnd hf
  refine a_iconst (v := 0) dX9_feels_0 (by decide) ?_
  refine a_istore_n (i := 3) (lv1 := [(3, .int ((0 : Int32))), (0, .ref a0), (1, .int x1), (2, .int x2)]) dX9_feels_1 rfl (by decide) rfl ?_
  refine AW.sub (lv1 := [(0, .ref a0), (1, .int x1), (2, .int x2), (3, .int ((0 : Int32)))]) [1, 2, 3, 0] rfl ?_
  exact wX9_feels_b2 _ _ _ _ _ _ hf
theorem kX9_feel {a0 : Nat} {x1 : Int32} {x2 : Int32} {M : Mm} {q : Int32 × Mm} (hf : fX9_feel a0 x1 x2 M = some q) : (mK M a0).1 = 10 := by
  unfold fX9_feel at hf
  obtain ⟨u0, eu0, -⟩ := bnd hf
  exact kc_of eu0
set_option maxHeartbeats 4000000 in
set_option maxRecDepth 100000 in
theorem wX9_feel {l : Launch} {Γ : Gx} {a0 : Nat} {x1 : Int32} {x2 : Int32} {M : Mm} {q : Int32 × Mm} (hf : fX9_feel a0 x1 x2 M = some q) : AM l Γ 3 yX9_feel cX9_feel 3 ((some .int)) [.ref a0, .int x1, .int x2] M (some (.int q.1)) q.2 := by
  unfold fX9_feel at hf
  refine AM.of mfX9_feel (Nat.le_of_ble_eq_true rfl) ?_
  generalize mT M = t0
  generalize mW M = w0
  show AW _ _ _ _ _ _ _ _ _ 0 [(0, .ref a0), (1, .int x1), (2, .int x2)] [] _ _ _
  obtain ⟨u0, eu0, hf⟩ := bnd hf
  refine a_aload_n dX9_feel_0 rfl 0 rfl ?_
  refine a_iload_n dX9_feel_1 rfl 1 rfl ?_
  obtain ⟨q1_, eq1_, hf⟩ := bnd hf
  refine a_callV (As := [.int x1]) (rest := []) dX9_feel_2 mfX9_isSign cvX9_126 (wX9_isSign eq1_) rc9 (kX9_isSign eq1_) (by decide) rfl rfl (Nat.le_of_ble_eq_true rfl) ?_
  refine a_if_ne dX9_feel_5 (tgt := 14) (by decide) (fun c9 => ?_) (fun c9 => ?_)
  · replace hf := iteF hf c9
    refine a_aload_n dX9_feel_14 rfl 0 rfl ?_
    refine a_iload_n dX9_feel_15 rfl 1 rfl ?_
    refine a_iload_n dX9_feel_16 rfl 2 rfl ?_
    obtain ⟨q2_, eq2_, hf⟩ := bnd hf
    refine a_callV (As := [.int x1, .int x2]) (rest := []) dX9_feel_17 mfX9_canBe cvX9_242 (wX9_canBe eq2_) rc9 (kX9_canBe eq2_) (by decide) rfl rfl (Nat.le_of_ble_eq_true rfl) ?_
    refine a_if_ne dX9_feel_20 (tgt := 30) (by decide) (fun c9 => ?_) (fun c9 => ?_)
    · replace hf := iteF hf c9
      refine a_aload_n dX9_feel_30 rfl 0 rfl ?_
      obtain ⟨v3_, ev3_, hf⟩ := bnd hf
      refine a_getI dX9_feel_31 flX9_136 rfl ev3_ ?_
      refine a_bipush (v := 16) dX9_feel_34 (by decide) ?_
      refine a_icmp_ne dX9_feel_36 (tgt := 46) (by decide) (fun c9 => ?_) (fun c9 => ?_)
      · replace hf := iteF hf c9
        refine a_aload_n dX9_feel_46 rfl 0 rfl ?_
        refine a_iload_n dX9_feel_47 rfl 1 rfl ?_
        refine a_iload_n dX9_feel_48 rfl 2 rfl ?_
        obtain ⟨M4_, eM4_, hf⟩ := bnd hf
        refine a_callV (As := [.int x1, .int x2]) (rest := []) dX9_feel_49 mfX9_feels cvX9_246 (wX9_feels eM4_) rc9 (kX9_feels eM4_) (by decide) rfl rfl (Nat.le_of_ble_eq_true rfl) ?_
        refine a_aload_n dX9_feel_52 rfl 0 rfl ?_
        obtain ⟨v5_, ev5_, hf⟩ := bnd hf
        refine a_getI dX9_feel_53 flX9_136 rfl ev5_ ?_
        have e9 := Option.some.inj hf
        subst e9
        exact a_iret rfl dX9_feel_56 rfl
      · replace hf := iteT hf c9
        refine a_aload_n dX9_feel_39 rfl 0 rfl ?_
        refine a_bipush (v := -7) dX9_feel_40 (by decide) ?_
        obtain ⟨q6_, eq6_, hf⟩ := bnd hf
        refine a_callV (As := [.int ((-7 : Int32))]) (rest := []) dX9_feel_42 mfX9_no cvX9_122 (wX9_no eq6_) rc9 (kX9_no eq6_) (by decide) rfl rfl (Nat.le_of_ble_eq_true rfl) ?_
        have e9 := Option.some.inj hf
        subst e9
        exact a_iret rfl dX9_feel_45 rfl
    · replace hf := iteT hf c9
      refine a_aload_n dX9_feel_23 rfl 0 rfl ?_
      refine a_bipush (v := -6) dX9_feel_24 (by decide) ?_
      obtain ⟨q7_, eq7_, hf⟩ := bnd hf
      refine a_callV (As := [.int ((-6 : Int32))]) (rest := []) dX9_feel_26 mfX9_no cvX9_122 (wX9_no eq7_) rc9 (kX9_no eq7_) (by decide) rfl rfl (Nat.le_of_ble_eq_true rfl) ?_
      have e9 := Option.some.inj hf
      subst e9
      exact a_iret rfl dX9_feel_29 rfl
  · replace hf := iteT hf c9
    refine a_aload_n dX9_feel_8 rfl 0 rfl ?_
    refine a_iconst (v := -1) dX9_feel_9 (by decide) ?_
    obtain ⟨q8_, eq8_, hf⟩ := bnd hf
    refine a_callV (As := [.int ((-1 : Int32))]) (rest := []) dX9_feel_10 mfX9_no cvX9_122 (wX9_no eq8_) rc9 (kX9_no eq8_) (by decide) rfl rfl (Nat.le_of_ble_eq_true rfl) ?_
    have e9 := Option.some.inj hf
    subst e9
    exact a_iret rfl dX9_feel_13 rfl
theorem kX9_sure {a0 : Nat} {M : Mm} {q : Int32 × Mm} (hf : fX9_sure a0 M = some q) : (mK M a0).1 = 10 := by
  unfold fX9_sure at hf
  obtain ⟨u0, eu0, -⟩ := bnd hf
  exact kc_of eu0
set_option maxHeartbeats 4000000 in
set_option maxRecDepth 100000 in
theorem wX9_sure_b4 {l : Launch} {Γ : Gx} {t0 w0 : Nat} {q : Int32 × Mm} : ∀ (n : Nat) (a0 : Nat) (x1 : Int32) (x2 : Int32) (M : Mm), fX9_sure_b4 n a0 x1 x2 M = some q → AW l Γ yX9_sure cX9_sure 3 ((some .int)) 1 t0 w0 4 [(0, .ref a0), (1, .int x1), (2, .int x2)] [] M (some (.int q.1)) q.2 := by
  intro n
  induction n with
  | zero =>
    intro a0 x1 x2 M hf
    cases hf
  | succ n ih =>
    intro a0 x1 x2 M hf
    rw [fX9_sure_b4.eq_2] at hf
    refine a_iload_n dX9_sure_4 rfl 2 rfl ?_
    refine a_aload_n dX9_sure_5 rfl 0 rfl ?_
    obtain ⟨v1_, ev1_, hf⟩ := bnd hf
    refine a_getI dX9_sure_6 flX9_7 rfl ev1_ ?_
    refine a_icmp_ge dX9_sure_9 (tgt := 36) (by decide) (fun c9 => ?_) (fun c9 => ?_)
    · replace hf := iteT hf c9
      refine a_iload_n dX9_sure_36 rfl 1 rfl ?_
      have e9 := Option.some.inj hf
      subst e9
      exact a_iret rfl dX9_sure_37 rfl
    · replace hf := iteF hf c9
      refine a_aload_n dX9_sure_12 rfl 0 rfl ?_
      obtain ⟨o2_, eo2_, hf⟩ := bnd hf
      refine a_getR dX9_sure_13 flX9_56 rfl eo2_ ?_
      refine a_iload_n dX9_sure_16 rfl 2 rfl ?_
      obtain ⟨v3_, ev3_, hf⟩ := bnd hf
      refine a_lald dX9_sure_17 ev3_ ?_
      refine a_aload_n dX9_sure_18 rfl 0 rfl ?_
      obtain ⟨o4_, eo4_, hf⟩ := bnd hf
      refine a_getR dX9_sure_19 flX9_56 rfl eo4_ ?_
      refine a_iload_n dX9_sure_22 rfl 1 rfl ?_
      obtain ⟨v5_, ev5_, hf⟩ := bnd hf
      refine a_lald dX9_sure_23 ev5_ ?_
      refine a_lcmp_le dX9_sure_24 dX9_sure_25 (tgt := 30) (by decide) (fun c9 => ?_) (fun c9 => ?_)
      · replace hf := iteT hf c9
        refine a_iinc (v := x2 + (1 : Int32)) (lv1 := [(2, .int (x2 + (1 : Int32))), (0, .ref a0), (1, .int x1)]) dX9_sure_30 2 rfl rfl (by decide) rfl ?_
        refine a_goto (tgt := 4) dX9_sure_33 (by decide) ?_
        refine AW.sub (lv1 := [(0, .ref a0), (1, .int x1), (2, .int (x2 + (1 : Int32)))]) [1, 2, 0] rfl ?_
        exact ih _ _ _ _ hf
      · replace hf := iteF hf c9
        refine a_iload_n dX9_sure_28 rfl 2 rfl ?_
        refine a_istore_n (i := 1) (lv1 := [(1, .int x2), (0, .ref a0), (2, .int x2)]) dX9_sure_29 rfl (by decide) rfl ?_
        refine a_iinc (v := x2 + (1 : Int32)) (lv1 := [(2, .int (x2 + (1 : Int32))), (1, .int x2), (0, .ref a0)]) dX9_sure_30 2 rfl rfl (by decide) rfl ?_
        refine a_goto (tgt := 4) dX9_sure_33 (by decide) ?_
        refine AW.sub (lv1 := [(0, .ref a0), (1, .int x2), (2, .int (x2 + (1 : Int32)))]) [2, 1, 0] rfl ?_
        exact ih _ _ _ _ hf
set_option maxHeartbeats 4000000 in
set_option maxRecDepth 100000 in
theorem wX9_sure {l : Launch} {Γ : Gx} {a0 : Nat} {M : Mm} {q : Int32 × Mm} (hf : fX9_sure a0 M = some q) : AM l Γ 1 yX9_sure cX9_sure 3 ((some .int)) [.ref a0] M (some (.int q.1)) q.2 := by
  unfold fX9_sure at hf
  refine AM.of mfX9_sure (Nat.le_of_ble_eq_true rfl) ?_
  generalize mT M = t0
  generalize mW M = w0
  show AW _ _ _ _ _ _ _ _ _ 0 [(0, .ref a0)] [] _ _ _
  obtain ⟨u0, eu0, hf⟩ := bnd hf
  refine a_iconst (v := 0) dX9_sure_0 (by decide) ?_
  refine a_istore_n (i := 1) (lv1 := [(1, .int ((0 : Int32))), (0, .ref a0)]) dX9_sure_1 rfl (by decide) rfl ?_
  refine a_iconst (v := 1) dX9_sure_2 (by decide) ?_
  refine a_istore_n (i := 2) (lv1 := [(2, .int ((1 : Int32))), (1, .int ((0 : Int32))), (0, .ref a0)]) dX9_sure_3 rfl (by decide) rfl ?_
  refine AW.sub (lv1 := [(0, .ref a0), (1, .int ((0 : Int32))), (2, .int ((1 : Int32)))]) [2, 1, 0] rfl ?_
  exact wX9_sure_b4 _ _ _ _ _ hf
theorem kX9_where {a0 : Nat} {M : Mm} {q : Int32 × Mm} (hf : fX9_where a0 M = some q) : (mK M a0).1 = 10 := by
  unfold fX9_where at hf
  obtain ⟨u0, eu0, -⟩ := bnd hf
  exact kc_of eu0
set_option maxHeartbeats 4000000 in
set_option maxRecDepth 100000 in
theorem wX9_where {l : Launch} {Γ : Gx} {a0 : Nat} {M : Mm} {q : Int32 × Mm} (hf : fX9_where a0 M = some q) : AM l Γ 2 yX9_where cX9_where 1 ((some .int)) [.ref a0] M (some (.int q.1)) q.2 := by
  unfold fX9_where at hf
  refine AM.of mfX9_where (Nat.le_of_ble_eq_true rfl) ?_
  generalize mT M = t0
  generalize mW M = w0
  show AW _ _ _ _ _ _ _ _ _ 0 [(0, .ref a0)] [] _ _ _
  obtain ⟨u0, eu0, hf⟩ := bnd hf
  refine a_aload_n dX9_where_0 rfl 0 rfl ?_
  obtain ⟨q1_, eq1_, hf⟩ := bnd hf
  refine a_callV (As := []) (rest := []) dX9_where_1 mfX9_sure cvX9_250 (wX9_sure eq1_) rc9 (kX9_sure eq1_) (by decide) rfl rfl (Nat.le_of_ble_eq_true rfl) ?_
  have e9 := Option.some.inj hf
  subst e9
  exact a_iret rfl dX9_where_4 rfl
theorem kX9_isLost {a0 : Nat} {M : Mm} {q : Int32 × Mm} (hf : fX9_isLost a0 M = some q) : (mK M a0).1 = 10 := by
  unfold fX9_isLost at hf
  obtain ⟨u0, eu0, -⟩ := bnd hf
  exact kc_of eu0
set_option maxHeartbeats 4000000 in
set_option maxRecDepth 100000 in
theorem wX9_isLost {l : Launch} {Γ : Gx} {a0 : Nat} {M : Mm} {q : Int32 × Mm} (hf : fX9_isLost a0 M = some q) : AM l Γ 2 yX9_isLost cX9_isLost 1 ((some .int)) [.ref a0] M (some (.int q.1)) q.2 := by
  unfold fX9_isLost at hf
  refine AM.of mfX9_isLost (Nat.le_of_ble_eq_true rfl) ?_
  generalize mT M = t0
  generalize mW M = w0
  show AW _ _ _ _ _ _ _ _ _ 0 [(0, .ref a0)] [] _ _ _
  obtain ⟨u0, eu0, hf⟩ := bnd hf
  refine a_ldc2 (v := 2) dX9_isLost_0 wcX9_230 ?_
  refine a_aload_n dX9_isLost_3 rfl 0 rfl ?_
  obtain ⟨o1_, eo1_, hf⟩ := bnd hf
  refine a_getR dX9_isLost_4 flX9_56 rfl eo1_ ?_
  refine a_aload_n dX9_isLost_7 rfl 0 rfl ?_
  obtain ⟨q2_, eq2_, hf⟩ := bnd hf
  refine a_callV (As := []) (rest := [.ref o1_, .long ((2 : Int64))]) dX9_isLost_8 mfX9_sure cvX9_250 (wX9_sure eq2_) rc9 (kX9_sure eq2_) (by decide) rfl rfl (Nat.le_of_ble_eq_true rfl) ?_
  obtain ⟨v3_, ev3_, hf⟩ := bnd hf
  refine a_lald dX9_isLost_11 ev3_ ?_
  refine a_lmul dX9_isLost_12 ?_
  refine a_aload_n dX9_isLost_13 rfl 0 rfl ?_
  obtain ⟨q4_, eq4_, hf⟩ := bnd hf
  refine a_callV (As := []) (rest := [.long (((2 : Int64)) * v3_)]) dX9_isLost_14 mfX9_sum cvX9_226 (wX9_sum eq4_) rc9 (kX9_sum eq4_) (by decide) rfl rfl (Nat.le_of_ble_eq_true rfl) ?_
  refine a_lcmp_ge dX9_isLost_17 dX9_isLost_18 (tgt := 25) (by decide) (fun c9 => ?_) (fun c9 => ?_)
  · replace hf := iteT hf c9
    refine a_iconst (v := 0) dX9_isLost_25 (by decide) ?_
    have e9 := Option.some.inj hf
    subst e9
    exact a_iret rfl dX9_isLost_26 rfl
  · replace hf := iteF hf c9
    refine a_iconst (v := 1) dX9_isLost_21 (by decide) ?_
    refine a_goto (tgt := 26) dX9_isLost_22 (by decide) ?_
    have e9 := Option.some.inj hf
    subst e9
    exact a_iret rfl dX9_isLost_26 rfl
theorem kX9_played {a0 : Nat} {x1 : Int32} {x2 : Int32} {M : Mm} {q : Int32 × Mm} (hf : fX9_played a0 x1 x2 M = some q) : (mK M a0).1 = 10 := by
  unfold fX9_played at hf
  obtain ⟨u0, eu0, -⟩ := bnd hf
  exact kc_of eu0
set_option maxHeartbeats 4000000 in
set_option maxRecDepth 100000 in
theorem wX9_played_b296 {l : Launch} {Γ : Gx} {t0 w0 : Nat} {q : Int32 × Mm} : ∀ (n : Nat) (a0 : Nat) (x6 : Int32) (M : Mm), fX9_played_b296 n a0 x6 M = some q → AW l Γ yX9_played cX9_played 11 ((some .int)) 3 t0 w0 296 [(0, .ref a0), (6, .int x6)] [] M (some (.int q.1)) q.2 := by
  intro n
  induction n with
  | zero =>
    intro a0 x6 M hf
    cases hf
  | succ n ih =>
    intro a0 x6 M hf
    rw [fX9_played_b296.eq_2] at hf
    refine a_iload dX9_played_296 1 rfl ?_
    refine a_bipush (v := 24) dX9_played_298 (by decide) ?_
    refine a_icmp_ge dX9_played_300 (tgt := 323) (by decide) (fun c9 => ?_) (fun c9 => ?_)
    · replace hf := iteT hf c9
      refine a_iconst (v := 0) dX9_played_323 (by decide) ?_
      have e9 := Option.some.inj hf
      subst e9
      exact a_iret rfl dX9_played_324 rfl
    · replace hf := iteF hf c9
      refine a_aload_n dX9_played_303 rfl 0 rfl ?_
      obtain ⟨o1_, eo1_, hf⟩ := bnd hf
      refine a_getR dX9_played_304 flX9_56 rfl eo1_ ?_
      refine a_iload dX9_played_307 1 rfl ?_
      refine a_aload_n dX9_played_309 rfl 0 rfl ?_
      obtain ⟨o2_, eo2_, hf⟩ := bnd hf
      refine a_getR dX9_played_310 flX9_99 rfl eo2_ ?_
      refine a_iload dX9_played_313 1 rfl ?_
      obtain ⟨v3_, ev3_, hf⟩ := bnd hf
      refine a_lald dX9_played_315 ev3_ ?_
      obtain ⟨M4_, eM4_, hf⟩ := bnd hf
      refine a_last dX9_played_316 eM4_ ?_
      refine a_iinc (v := x6 + (1 : Int32)) (lv1 := [(6, .int (x6 + (1 : Int32))), (0, .ref a0)]) dX9_played_317 1 rfl rfl (by decide) rfl ?_
      refine a_goto (tgt := 296) dX9_played_320 (by decide) ?_
      refine AW.sub (lv1 := [(0, .ref a0), (6, .int (x6 + (1 : Int32)))]) [1, 0] rfl ?_
      exact ih _ _ _ hf
set_option maxHeartbeats 4000000 in
set_option maxRecDepth 100000 in
theorem wX9_played_b273 {l : Launch} {Γ : Gx} {t0 w0 : Nat} {q : Int32 × Mm} (a0 : Nat) (x4 : Int32) (x5 : Int32) (M : Mm) (hf : fX9_played_b273 a0 x4 x5 M = some q) : AW l Γ yX9_played cX9_played 11 ((some .int)) 3 t0 w0 273 [(0, .ref a0), (4, .int x4), (5, .int x5)] [] M (some (.int q.1)) q.2 := by
  unfold fX9_played_b273 at hf
  refine a_aload_n dX9_played_273 rfl 0 rfl ?_
  refine a_aload_n dX9_played_274 rfl 0 rfl ?_
  obtain ⟨q1_, eq1_, hf⟩ := bnd hf
  refine a_callV (As := []) (rest := [.ref a0]) dX9_played_275 mfX9_sure cvX9_250 (wX9_sure eq1_) rc9 (kX9_sure eq1_) (by decide) rfl rfl (Nat.le_of_ble_eq_true rfl) ?_
  obtain ⟨M2_, eM2_, hf⟩ := bnd hf
  refine a_putI dX9_played_278 fpX9_256 rfl (Or.inr nf9_43) eM2_ ?_
  refine a_aload_n dX9_played_281 rfl 0 rfl ?_
  refine a_iload dX9_played_282 1 rfl ?_
  obtain ⟨M3_, eM3_, hf⟩ := bnd hf
  refine a_putI dX9_played_284 fpX9_136 rfl (Or.inr nf9_8) eM3_ ?_
  refine a_aload_n dX9_played_287 rfl 0 rfl ?_
  refine a_iload dX9_played_288 2 rfl ?_
  obtain ⟨M4_, eM4_, hf⟩ := bnd hf
  refine a_putI dX9_played_290 fpX9_129 rfl (Or.inr nf9_9) eM4_ ?_
  refine a_iconst (v := 0) dX9_played_293 (by decide) ?_
  refine a_istore (i := 6) (lv1 := [(6, .int ((0 : Int32))), (0, .ref a0), (4, .int x4), (5, .int x5)]) dX9_played_294 (by decide) rfl ?_
  refine AW.sub (lv1 := [(0, .ref a0), (6, .int ((0 : Int32)))]) [1, 0] rfl ?_
  exact wX9_played_b296 _ _ _ _ hf
set_option maxHeartbeats 4000000 in
set_option maxRecDepth 100000 in
theorem wX9_played_b243 {l : Launch} {Γ : Gx} {t0 w0 : Nat} {q : Int32 × Mm} (k91 : Nat → Int32 → Int32 → Int32 → Int32 → Int32 → Mm → Option (Int32 × Mm)) (hk91 : ∀ (a0 : Nat) (x1 : Int32) (x2 : Int32) (x4 : Int32) (x5 : Int32) (x6 : Int32) (M : Mm), k91 a0 x1 x2 x4 x5 x6 M = some q → AW l Γ yX9_played cX9_played 11 ((some .int)) 3 t0 w0 91 [(0, .ref a0), (1, .int x1), (2, .int x2), (4, .int x4), (5, .int x5), (6, .int x6)] [] M (some (.int q.1)) q.2) (a0 : Nat) (x1 : Int32) (x2 : Int32) (x4 : Int32) (x5 : Int32) (x6 : Int32) (s0 : Nat) (s1 : Int32) (M : Mm) (hf : fX9_played_b243 k91 a0 x1 x2 x4 x5 x6 s0 s1 M = some q) : AW l Γ yX9_played cX9_played 11 ((some .int)) 3 t0 w0 243 [(0, .ref a0), (1, .int x1), (2, .int x2), (4, .int x4), (5, .int x5), (6, .int x6)] [.int s1, .ref s0] M (some (.int q.1)) q.2 := by
  unfold fX9_played_b243 at hf
  obtain ⟨M1_, eM1_, hf⟩ := bnd hf
  refine a_callV (As := [.int s1]) (rest := []) dX9_played_243 mfX9_steps cvX9_239 (wX9_steps eM1_) rc9 (kX9_steps eM1_) (by decide) rfl rfl (Nat.le_of_ble_eq_true rfl) ?_
  refine a_goto (tgt := 267) dX9_played_246 (by decide) ?_
  refine a_iinc (v := x6 + (1 : Int32)) (lv1 := [(6, .int (x6 + (1 : Int32))), (0, .ref a0), (1, .int x1), (2, .int x2), (4, .int x4), (5, .int x5)]) dX9_played_267 5 rfl rfl (by decide) rfl ?_
  refine a_goto (tgt := 91) dX9_played_270 (by decide) ?_
  refine AW.sub (lv1 := [(0, .ref a0), (1, .int x1), (2, .int x2), (4, .int x4), (5, .int x5), (6, .int (x6 + (1 : Int32)))]) [1, 2, 3, 4, 5, 0] rfl ?_
  exact hk91 _ _ _ _ _ _ _ hf
set_option maxHeartbeats 4000000 in
set_option maxRecDepth 100000 in
theorem wX9_played_b210 {l : Launch} {Γ : Gx} {t0 w0 : Nat} {q : Int32 × Mm} (k91 : Nat → Int32 → Int32 → Int32 → Int32 → Int32 → Mm → Option (Int32 × Mm)) (hk91 : ∀ (a0 : Nat) (x1 : Int32) (x2 : Int32) (x4 : Int32) (x5 : Int32) (x6 : Int32) (M : Mm), k91 a0 x1 x2 x4 x5 x6 M = some q → AW l Γ yX9_played cX9_played 11 ((some .int)) 3 t0 w0 91 [(0, .ref a0), (1, .int x1), (2, .int x2), (4, .int x4), (5, .int x5), (6, .int x6)] [] M (some (.int q.1)) q.2) (a0 : Nat) (x1 : Int32) (x2 : Int32) (x4 : Int32) (x5 : Int32) (x6 : Int32) (x7 : Int32) (x8 : Int32) (x9 : Int32) (s0 : Int32) (M : Mm) (hf : fX9_played_b210 k91 a0 x1 x2 x4 x5 x6 x7 x8 x9 s0 M = some q) : AW l Γ yX9_played cX9_played 11 ((some .int)) 3 t0 w0 210 [(0, .ref a0), (1, .int x1), (2, .int x2), (4, .int x4), (5, .int x5), (6, .int x6), (7, .int x7), (8, .int x8), (9, .int x9)] [.int s0] M (some (.int q.1)) q.2 := by
  unfold fX9_played_b210 at hf
  refine a_istore (i := 10) (lv1 := [(10, .int s0), (0, .ref a0), (1, .int x1), (2, .int x2), (4, .int x4), (5, .int x5), (6, .int x6), (7, .int x7), (8, .int x8), (9, .int x9)]) dX9_played_210 (by decide) rfl ?_
  refine a_iload dX9_played_212 0 rfl ?_
  refine a_if_ne dX9_played_214 (tgt := 226) (by decide) (fun c9 => ?_) (fun c9 => ?_)
  · replace hf := iteF hf c9
    refine a_iload dX9_played_226 9 rfl ?_
    refine a_if_eq dX9_played_228 (tgt := 249) (by decide) (fun c9 => ?_) (fun c9 => ?_)
    · replace hf := iteT hf c9
      refine a_aload_n dX9_played_249 rfl 1 rfl ?_
      refine a_iload dX9_played_250 8 rfl ?_
      refine a_iload dX9_played_252 7 rfl ?_
      refine a_bipush (v := 20) dX9_played_254 (by decide) ?_
      refine a_icmp_ge dX9_played_256 (tgt := 263) (by decide) (fun c9 => ?_) (fun c9 => ?_)
      · replace hf := iteT hf c9
        refine a_iconst (v := 0) dX9_played_263 (by decide) ?_
        obtain ⟨M1_, eM1_, hf⟩ := bnd hf
        refine a_callV (As := [.int x8, .int ((0 : Int32))]) (rest := []) dX9_played_264 mfX9_feels cvX9_246 (wX9_feels eM1_) rc9 (kX9_feels eM1_) (by decide) rfl rfl (Nat.le_of_ble_eq_true rfl) ?_
        refine a_iinc (v := x6 + (1 : Int32)) (lv1 := [(6, .int (x6 + (1 : Int32))), (10, .int s0), (0, .ref a0), (1, .int x1), (2, .int x2), (4, .int x4), (5, .int x5), (7, .int x7), (8, .int x8), (9, .int x9)]) dX9_played_267 6 rfl rfl (by decide) rfl ?_
        refine a_goto (tgt := 91) dX9_played_270 (by decide) ?_
        refine AW.sub (lv1 := [(0, .ref a0), (1, .int x1), (2, .int x2), (4, .int x4), (5, .int x5), (6, .int (x6 + (1 : Int32)))]) [2, 3, 4, 5, 6, 0] rfl ?_
        exact hk91 _ _ _ _ _ _ _ hf
      · replace hf := iteF hf c9
        refine a_iconst (v := 1) dX9_played_259 (by decide) ?_
        refine a_goto (tgt := 264) dX9_played_260 (by decide) ?_
        obtain ⟨M2_, eM2_, hf⟩ := bnd hf
        refine a_callV (As := [.int x8, .int ((1 : Int32))]) (rest := []) dX9_played_264 mfX9_feels cvX9_246 (wX9_feels eM2_) rc9 (kX9_feels eM2_) (by decide) rfl rfl (Nat.le_of_ble_eq_true rfl) ?_
        refine a_iinc (v := x6 + (1 : Int32)) (lv1 := [(6, .int (x6 + (1 : Int32))), (10, .int s0), (0, .ref a0), (1, .int x1), (2, .int x2), (4, .int x4), (5, .int x5), (7, .int x7), (8, .int x8), (9, .int x9)]) dX9_played_267 6 rfl rfl (by decide) rfl ?_
        refine a_goto (tgt := 91) dX9_played_270 (by decide) ?_
        refine AW.sub (lv1 := [(0, .ref a0), (1, .int x1), (2, .int x2), (4, .int x4), (5, .int x5), (6, .int (x6 + (1 : Int32)))]) [2, 3, 4, 5, 6, 0] rfl ?_
        exact hk91 _ _ _ _ _ _ _ hf
    · replace hf := iteF hf c9
      refine a_aload_n dX9_played_231 rfl 1 rfl ?_
      refine a_iload dX9_played_232 7 rfl ?_
      refine a_iconst (v := 1) dX9_played_234 (by decide) ?_
      refine a_icmp_ne dX9_played_235 (tgt := 242) (by decide) (fun c9 => ?_) (fun c9 => ?_)
      · replace hf := iteF hf c9
        refine a_iconst (v := 0) dX9_played_242 (by decide) ?_
        refine AW.sub (lv1 := [(0, .ref a0), (1, .int x1), (2, .int x2), (4, .int x4), (5, .int x5), (6, .int x6)]) [1, 2, 3, 4, 5, 6] rfl ?_
        exact wX9_played_b243 _ hk91 _ _ _ _ _ _ _ _ _ hf
      · replace hf := iteT hf c9
        refine a_iconst (v := 1) dX9_played_238 (by decide) ?_
        refine a_goto (tgt := 243) dX9_played_239 (by decide) ?_
        refine AW.sub (lv1 := [(0, .ref a0), (1, .int x1), (2, .int x2), (4, .int x4), (5, .int x5), (6, .int x6)]) [1, 2, 3, 4, 5, 6] rfl ?_
        exact wX9_played_b243 _ hk91 _ _ _ _ _ _ _ _ _ hf
  · replace hf := iteT hf c9
    refine a_aload_n dX9_played_217 rfl 1 rfl ?_
    refine a_iload dX9_played_218 6 rfl ?_
    obtain ⟨M3_, eM3_, hf⟩ := bnd hf
    refine a_putI dX9_played_220 fpX9_253 rfl (Or.inr nf9_42) eM3_ ?_
    refine a_goto (tgt := 267) dX9_played_223 (by decide) ?_
    refine a_iinc (v := x6 + (1 : Int32)) (lv1 := [(6, .int (x6 + (1 : Int32))), (10, .int s0), (0, .ref a0), (1, .int x1), (2, .int x2), (4, .int x4), (5, .int x5), (7, .int x7), (8, .int x8), (9, .int x9)]) dX9_played_267 6 rfl rfl (by decide) rfl ?_
    refine a_goto (tgt := 91) dX9_played_270 (by decide) ?_
    refine AW.sub (lv1 := [(0, .ref a0), (1, .int x1), (2, .int x2), (4, .int x4), (5, .int x5), (6, .int (x6 + (1 : Int32)))]) [2, 3, 4, 5, 6, 0] rfl ?_
    exact hk91 _ _ _ _ _ _ _ hf
set_option maxHeartbeats 4000000 in
set_option maxRecDepth 100000 in
theorem wX9_played_b209 {l : Launch} {Γ : Gx} {t0 w0 : Nat} {q : Int32 × Mm} (k91 : Nat → Int32 → Int32 → Int32 → Int32 → Int32 → Mm → Option (Int32 × Mm)) (hk91 : ∀ (a0 : Nat) (x1 : Int32) (x2 : Int32) (x4 : Int32) (x5 : Int32) (x6 : Int32) (M : Mm), k91 a0 x1 x2 x4 x5 x6 M = some q → AW l Γ yX9_played cX9_played 11 ((some .int)) 3 t0 w0 91 [(0, .ref a0), (1, .int x1), (2, .int x2), (4, .int x4), (5, .int x5), (6, .int x6)] [] M (some (.int q.1)) q.2) (a0 : Nat) (x1 : Int32) (x2 : Int32) (x4 : Int32) (x5 : Int32) (x6 : Int32) (x7 : Int32) (x8 : Int32) (x9 : Int32) (M : Mm) (hf : fX9_played_b209 k91 a0 x1 x2 x4 x5 x6 x7 x8 x9 M = some q) : AW l Γ yX9_played cX9_played 11 ((some .int)) 3 t0 w0 209 [(0, .ref a0), (1, .int x1), (2, .int x2), (4, .int x4), (5, .int x5), (6, .int x6), (7, .int x7), (8, .int x8), (9, .int x9)] [] M (some (.int q.1)) q.2 := by
  unfold fX9_played_b209 at hf
  refine a_iconst (v := 0) dX9_played_209 (by decide) ?_
  exact wX9_played_b210 _ hk91 _ _ _ _ _ _ _ _ _ _ _ hf
set_option maxHeartbeats 4000000 in
set_option maxRecDepth 100000 in
theorem wX9_played_b205 {l : Launch} {Γ : Gx} {t0 w0 : Nat} {q : Int32 × Mm} (k91 : Nat → Int32 → Int32 → Int32 → Int32 → Int32 → Mm → Option (Int32 × Mm)) (hk91 : ∀ (a0 : Nat) (x1 : Int32) (x2 : Int32) (x4 : Int32) (x5 : Int32) (x6 : Int32) (M : Mm), k91 a0 x1 x2 x4 x5 x6 M = some q → AW l Γ yX9_played cX9_played 11 ((some .int)) 3 t0 w0 91 [(0, .ref a0), (1, .int x1), (2, .int x2), (4, .int x4), (5, .int x5), (6, .int x6)] [] M (some (.int q.1)) q.2) (a0 : Nat) (x1 : Int32) (x2 : Int32) (x4 : Int32) (x5 : Int32) (x6 : Int32) (x7 : Int32) (x8 : Int32) (x9 : Int32) (M : Mm) (hf : fX9_played_b205 k91 a0 x1 x2 x4 x5 x6 x7 x8 x9 M = some q) : AW l Γ yX9_played cX9_played 11 ((some .int)) 3 t0 w0 205 [(0, .ref a0), (1, .int x1), (2, .int x2), (4, .int x4), (5, .int x5), (6, .int x6), (7, .int x7), (8, .int x8), (9, .int x9)] [] M (some (.int q.1)) q.2 := by
  unfold fX9_played_b205 at hf
  refine a_iconst (v := 1) dX9_played_205 (by decide) ?_
  refine a_goto (tgt := 210) dX9_played_206 (by decide) ?_
  exact wX9_played_b210 _ hk91 _ _ _ _ _ _ _ _ _ _ _ hf
set_option maxHeartbeats 4000000 in
set_option maxRecDepth 100000 in
theorem wX9_played_b199 {l : Launch} {Γ : Gx} {t0 w0 : Nat} {q : Int32 × Mm} (k91 : Nat → Int32 → Int32 → Int32 → Int32 → Int32 → Mm → Option (Int32 × Mm)) (hk91 : ∀ (a0 : Nat) (x1 : Int32) (x2 : Int32) (x4 : Int32) (x5 : Int32) (x6 : Int32) (M : Mm), k91 a0 x1 x2 x4 x5 x6 M = some q → AW l Γ yX9_played cX9_played 11 ((some .int)) 3 t0 w0 91 [(0, .ref a0), (1, .int x1), (2, .int x2), (4, .int x4), (5, .int x5), (6, .int x6)] [] M (some (.int q.1)) q.2) (a0 : Nat) (x1 : Int32) (x2 : Int32) (x4 : Int32) (x5 : Int32) (x6 : Int32) (x7 : Int32) (x8 : Int32) (x9 : Int32) (s0 : Nat) (s1 : Int32) (s2 : Int32) (M : Mm) (hf : fX9_played_b199 k91 a0 x1 x2 x4 x5 x6 x7 x8 x9 s0 s1 s2 M = some q) : AW l Γ yX9_played cX9_played 11 ((some .int)) 3 t0 w0 199 [(0, .ref a0), (1, .int x1), (2, .int x2), (4, .int x4), (5, .int x5), (6, .int x6), (7, .int x7), (8, .int x8), (9, .int x9)] [.int s2, .int s1, .ref s0] M (some (.int q.1)) q.2 := by
  unfold fX9_played_b199 at hf
  obtain ⟨q1_, eq1_, hf⟩ := bnd hf
  refine a_callV (As := [.int s1, .int s2]) (rest := []) dX9_played_199 mfX9_canBe cvX9_242 (wX9_canBe eq1_) rc9 (kX9_canBe eq1_) (by decide) rfl rfl (Nat.le_of_ble_eq_true rfl) ?_
  refine a_if_eq dX9_played_202 (tgt := 209) (by decide) (fun c9 => ?_) (fun c9 => ?_)
  · replace hf := iteT hf c9
    exact wX9_played_b209 _ hk91 _ _ _ _ _ _ _ _ _ _ hf
  · replace hf := iteF hf c9
    exact wX9_played_b205 _ hk91 _ _ _ _ _ _ _ _ _ _ hf
set_option maxHeartbeats 4000000 in
set_option maxRecDepth 100000 in
theorem wX9_played_b152 {l : Launch} {Γ : Gx} {t0 w0 : Nat} {q : Int32 × Mm} (k91 : Nat → Int32 → Int32 → Int32 → Int32 → Int32 → Mm → Option (Int32 × Mm)) (hk91 : ∀ (a0 : Nat) (x1 : Int32) (x2 : Int32) (x4 : Int32) (x5 : Int32) (x6 : Int32) (M : Mm), k91 a0 x1 x2 x4 x5 x6 M = some q → AW l Γ yX9_played cX9_played 11 ((some .int)) 3 t0 w0 91 [(0, .ref a0), (1, .int x1), (2, .int x2), (4, .int x4), (5, .int x5), (6, .int x6)] [] M (some (.int q.1)) q.2) (a0 : Nat) (x1 : Int32) (x2 : Int32) (x4 : Int32) (x5 : Int32) (x6 : Int32) (x7 : Int32) (x8 : Int32) (s0 : Int32) (M : Mm) (hf : fX9_played_b152 k91 a0 x1 x2 x4 x5 x6 x7 x8 s0 M = some q) : AW l Γ yX9_played cX9_played 11 ((some .int)) 3 t0 w0 152 [(0, .ref a0), (1, .int x1), (2, .int x2), (4, .int x4), (5, .int x5), (6, .int x6), (7, .int x7), (8, .int x8)] [.int s0] M (some (.int q.1)) q.2 := by
  unfold fX9_played_b152 at hf
  refine a_istore (i := 9) (lv1 := [(9, .int s0), (0, .ref a0), (1, .int x1), (2, .int x2), (4, .int x4), (5, .int x5), (6, .int x6), (7, .int x7), (8, .int x8)]) dX9_played_152 (by decide) rfl ?_
  refine a_aload_n dX9_played_154 rfl 1 rfl ?_
  obtain ⟨v1_, ev1_, hf⟩ := bnd hf
  refine a_getI dX9_played_155 flX9_136 rfl ev1_ ?_
  refine a_bipush (v := 16) dX9_played_158 (by decide) ?_
  refine a_icmp_ge dX9_played_160 (tgt := 209) (by decide) (fun c9 => ?_) (fun c9 => ?_)
  · replace hf := iteT hf c9
    refine AW.sub (lv1 := [(0, .ref a0), (1, .int x1), (2, .int x2), (4, .int x4), (5, .int x5), (6, .int x6), (7, .int x7), (8, .int x8), (9, .int s0)]) [1, 2, 3, 4, 5, 6, 7, 8, 0] rfl ?_
    exact wX9_played_b209 _ hk91 _ _ _ _ _ _ _ _ _ _ hf
  · replace hf := iteF hf c9
    refine a_iload dX9_played_163 0 rfl ?_
    refine a_if_ne dX9_played_165 (tgt := 205) (by decide) (fun c9 => ?_) (fun c9 => ?_)
    · replace hf := iteF hf c9
      refine AW.sub (lv1 := [(0, .ref a0), (1, .int x1), (2, .int x2), (4, .int x4), (5, .int x5), (6, .int x6), (7, .int x7), (8, .int x8), (9, .int s0)]) [1, 2, 3, 4, 5, 6, 7, 8, 0] rfl ?_
      exact wX9_played_b205 _ hk91 _ _ _ _ _ _ _ _ _ _ hf
    · replace hf := iteT hf c9
      refine a_iload dX9_played_168 7 rfl ?_
      refine a_bipush (v := 10) dX9_played_170 (by decide) ?_
      refine a_icmp_lt dX9_played_172 (tgt := 209) (by decide) (fun c9 => ?_) (fun c9 => ?_)
      · replace hf := iteT hf c9
        refine AW.sub (lv1 := [(0, .ref a0), (1, .int x1), (2, .int x2), (4, .int x4), (5, .int x5), (6, .int x6), (7, .int x7), (8, .int x8), (9, .int s0)]) [1, 2, 3, 4, 5, 6, 7, 8, 0] rfl ?_
        exact wX9_played_b209 _ hk91 _ _ _ _ _ _ _ _ _ _ hf
      · replace hf := iteF hf c9
        refine a_aload_n dX9_played_175 rfl 1 rfl ?_
        refine a_iload dX9_played_176 8 rfl ?_
        obtain ⟨q2_, eq2_, hf⟩ := bnd hf
        refine a_callV (As := [.int x8]) (rest := []) dX9_played_178 mfX9_isSign cvX9_126 (wX9_isSign eq2_) rc9 (kX9_isSign eq2_) (by decide) rfl rfl (Nat.le_of_ble_eq_true rfl) ?_
        refine a_if_eq dX9_played_181 (tgt := 209) (by decide) (fun c9 => ?_) (fun c9 => ?_)
        · replace hf := iteT hf c9
          refine AW.sub (lv1 := [(0, .ref a0), (1, .int x1), (2, .int x2), (4, .int x4), (5, .int x5), (6, .int x6), (7, .int x7), (8, .int x8), (9, .int s0)]) [1, 2, 3, 4, 5, 6, 7, 8, 0] rfl ?_
          exact wX9_played_b209 _ hk91 _ _ _ _ _ _ _ _ _ _ hf
        · replace hf := iteF hf c9
          refine a_aload_n dX9_played_184 rfl 1 rfl ?_
          refine a_iload dX9_played_185 8 rfl ?_
          refine a_iload dX9_played_187 7 rfl ?_
          refine a_bipush (v := 20) dX9_played_189 (by decide) ?_
          refine a_icmp_ge dX9_played_191 (tgt := 198) (by decide) (fun c9 => ?_) (fun c9 => ?_)
          · replace hf := iteT hf c9
            refine a_iconst (v := 0) dX9_played_198 (by decide) ?_
            refine AW.sub (lv1 := [(0, .ref a0), (1, .int x1), (2, .int x2), (4, .int x4), (5, .int x5), (6, .int x6), (7, .int x7), (8, .int x8), (9, .int s0)]) [1, 2, 3, 4, 5, 6, 7, 8, 0] rfl ?_
            exact wX9_played_b199 _ hk91 _ _ _ _ _ _ _ _ _ _ _ _ _ hf
          · replace hf := iteF hf c9
            refine a_iconst (v := 1) dX9_played_194 (by decide) ?_
            refine a_goto (tgt := 199) dX9_played_195 (by decide) ?_
            refine AW.sub (lv1 := [(0, .ref a0), (1, .int x1), (2, .int x2), (4, .int x4), (5, .int x5), (6, .int x6), (7, .int x7), (8, .int x8), (9, .int s0)]) [1, 2, 3, 4, 5, 6, 7, 8, 0] rfl ?_
            exact wX9_played_b199 _ hk91 _ _ _ _ _ _ _ _ _ _ _ _ _ hf
set_option maxHeartbeats 4000000 in
set_option maxRecDepth 100000 in
theorem wX9_played_b147 {l : Launch} {Γ : Gx} {t0 w0 : Nat} {q : Int32 × Mm} (k91 : Nat → Int32 → Int32 → Int32 → Int32 → Int32 → Mm → Option (Int32 × Mm)) (hk91 : ∀ (a0 : Nat) (x1 : Int32) (x2 : Int32) (x4 : Int32) (x5 : Int32) (x6 : Int32) (M : Mm), k91 a0 x1 x2 x4 x5 x6 M = some q → AW l Γ yX9_played cX9_played 11 ((some .int)) 3 t0 w0 91 [(0, .ref a0), (1, .int x1), (2, .int x2), (4, .int x4), (5, .int x5), (6, .int x6)] [] M (some (.int q.1)) q.2) (a0 : Nat) (x1 : Int32) (x2 : Int32) (x4 : Int32) (x5 : Int32) (x6 : Int32) (x7 : Int32) (x8 : Int32) (M : Mm) (hf : fX9_played_b147 k91 a0 x1 x2 x4 x5 x6 x7 x8 M = some q) : AW l Γ yX9_played cX9_played 11 ((some .int)) 3 t0 w0 147 [(0, .ref a0), (1, .int x1), (2, .int x2), (4, .int x4), (5, .int x5), (6, .int x6), (7, .int x7), (8, .int x8)] [] M (some (.int q.1)) q.2 := by
  unfold fX9_played_b147 at hf
  refine a_iconst (v := 1) dX9_played_147 (by decide) ?_
  refine a_goto (tgt := 152) dX9_played_148 (by decide) ?_
  exact wX9_played_b152 _ hk91 _ _ _ _ _ _ _ _ _ _ hf
set_option maxHeartbeats 4000000 in
set_option maxRecDepth 100000 in
theorem wX9_played_b134 {l : Launch} {Γ : Gx} {t0 w0 : Nat} {q : Int32 × Mm} (k91 : Nat → Int32 → Int32 → Int32 → Int32 → Int32 → Mm → Option (Int32 × Mm)) (hk91 : ∀ (a0 : Nat) (x1 : Int32) (x2 : Int32) (x4 : Int32) (x5 : Int32) (x6 : Int32) (M : Mm), k91 a0 x1 x2 x4 x5 x6 M = some q → AW l Γ yX9_played cX9_played 11 ((some .int)) 3 t0 w0 91 [(0, .ref a0), (1, .int x1), (2, .int x2), (4, .int x4), (5, .int x5), (6, .int x6)] [] M (some (.int q.1)) q.2) (a0 : Nat) (x1 : Int32) (x2 : Int32) (x4 : Int32) (x5 : Int32) (x6 : Int32) (x7 : Int32) (s0 : Int32) (M : Mm) (hf : fX9_played_b134 k91 a0 x1 x2 x4 x5 x6 x7 s0 M = some q) : AW l Γ yX9_played cX9_played 11 ((some .int)) 3 t0 w0 134 [(0, .ref a0), (1, .int x1), (2, .int x2), (4, .int x4), (5, .int x5), (6, .int x6), (7, .int x7)] [.int s0] M (some (.int q.1)) q.2 := by
  unfold fX9_played_b134 at hf
  refine a_istore (i := 8) (lv1 := [(8, .int s0), (0, .ref a0), (1, .int x1), (2, .int x2), (4, .int x4), (5, .int x5), (6, .int x6), (7, .int x7)]) dX9_played_134 (by decide) rfl ?_
  refine a_iload dX9_played_136 7 rfl ?_
  refine a_if_eq dX9_played_138 (tgt := 147) (by decide) (fun c9 => ?_) (fun c9 => ?_)
  · replace hf := iteT hf c9
    refine AW.sub (lv1 := [(0, .ref a0), (1, .int x1), (2, .int x2), (4, .int x4), (5, .int x5), (6, .int x6), (7, .int x7), (8, .int s0)]) [1, 2, 3, 4, 5, 6, 7, 0] rfl ?_
    exact wX9_played_b147 _ hk91 _ _ _ _ _ _ _ _ _ hf
  · replace hf := iteF hf c9
    refine a_iload dX9_played_141 7 rfl ?_
    refine a_iconst (v := 1) dX9_played_143 (by decide) ?_
    refine a_icmp_ne dX9_played_144 (tgt := 151) (by decide) (fun c9 => ?_) (fun c9 => ?_)
    · replace hf := iteF hf c9
      refine a_iconst (v := 0) dX9_played_151 (by decide) ?_
      refine AW.sub (lv1 := [(0, .ref a0), (1, .int x1), (2, .int x2), (4, .int x4), (5, .int x5), (6, .int x6), (7, .int x7), (8, .int s0)]) [1, 2, 3, 4, 5, 6, 7, 0] rfl ?_
      exact wX9_played_b152 _ hk91 _ _ _ _ _ _ _ _ _ _ hf
    · replace hf := iteT hf c9
      refine AW.sub (lv1 := [(0, .ref a0), (1, .int x1), (2, .int x2), (4, .int x4), (5, .int x5), (6, .int x6), (7, .int x7), (8, .int s0)]) [1, 2, 3, 4, 5, 6, 7, 0] rfl ?_
      exact wX9_played_b147 _ hk91 _ _ _ _ _ _ _ _ _ hf
set_option maxHeartbeats 4000000 in
set_option maxRecDepth 100000 in
theorem wX9_played_b91 {l : Launch} {Γ : Gx} {t0 w0 : Nat} {q : Int32 × Mm} : ∀ (n : Nat) (a0 : Nat) (x1 : Int32) (x2 : Int32) (x4 : Int32) (x5 : Int32) (x6 : Int32) (M : Mm), fX9_played_b91 n a0 x1 x2 x4 x5 x6 M = some q → AW l Γ yX9_played cX9_played 11 ((some .int)) 3 t0 w0 91 [(0, .ref a0), (1, .int x1), (2, .int x2), (4, .int x4), (5, .int x5), (6, .int x6)] [] M (some (.int q.1)) q.2 := by
  intro n
  induction n with
  | zero =>
    intro a0 x1 x2 x4 x5 x6 M hf
    cases hf
  | succ n ih =>
    intro a0 x1 x2 x4 x5 x6 M hf
    rw [fX9_played_b91.eq_2] at hf
    refine a_iload dX9_played_91 5 rfl ?_
    refine a_iload_n dX9_played_93 rfl 2 rfl ?_
    refine a_icmp_ge dX9_played_94 (tgt := 273) (by decide) (fun c9 => ?_) (fun c9 => ?_)
    · replace hf := iteT hf c9
      refine AW.sub (lv1 := [(0, .ref a0), (4, .int x4), (5, .int x5)]) [0, 3, 4] rfl ?_
      exact wX9_played_b273 _ _ _ _ hf
    · replace hf := iteF hf c9
      refine a_aload_n dX9_played_97 rfl 0 rfl ?_
      obtain ⟨v1_, ev1_, hf⟩ := bnd hf
      refine a_getI dX9_played_98 flX9_253 rfl ev1_ ?_
      refine a_iconst (v := -1) dX9_played_101 (by decide) ?_
      refine a_icmp_ne dX9_played_102 (tgt := 273) (by decide) (fun c9 => ?_) (fun c9 => ?_)
      · replace hf := iteF hf c9
        refine AW.sub (lv1 := [(0, .ref a0), (4, .int x4), (5, .int x5)]) [0, 3, 4] rfl ?_
        exact wX9_played_b273 _ _ _ _ hf
      · replace hf := iteT hf c9
        refine a_aload_n dX9_played_105 rfl 0 rfl ?_
        refine a_iload_n dX9_played_106 rfl 1 rfl ?_
        refine a_iload dX9_played_107 5 rfl ?_
        obtain ⟨q2_, eq2_, hf⟩ := bnd hf
        refine a_callV (As := [.int x1, .int x6]) (rest := []) dX9_played_109 mfX9_intAt cvX9_164 (wX9_intAt eq2_) rc9 (kX9_intAt eq2_) (by decide) rfl rfl (Nat.le_of_ble_eq_true rfl) ?_
        refine a_istore (i := 7) (lv1 := [(7, .int q2_.1), (0, .ref a0), (1, .int x1), (2, .int x2), (4, .int x4), (5, .int x5), (6, .int x6)]) dX9_played_112 (by decide) rfl ?_
        refine a_iload dX9_played_114 0 rfl ?_
        refine a_bipush (v := 20) dX9_played_116 (by decide) ?_
        refine a_icmp_lt dX9_played_118 (tgt := 129) (by decide) (fun c9 => ?_) (fun c9 => ?_)
        · replace hf := iteT hf c9
          refine a_iload dX9_played_129 0 rfl ?_
          refine a_bipush (v := 10) dX9_played_131 (by decide) ?_
          refine a_isub dX9_played_133 ?_
          refine AW.sub (lv1 := [(0, .ref a0), (1, .int x1), (2, .int x2), (4, .int x4), (5, .int x5), (6, .int x6), (7, .int q2_.1)]) [1, 2, 3, 4, 5, 6, 0] rfl ?_
          exact wX9_played_b134 _ ih _ _ _ _ _ _ _ _ _ hf
        · replace hf := iteF hf c9
          refine a_iload dX9_played_121 0 rfl ?_
          refine a_bipush (v := 20) dX9_played_123 (by decide) ?_
          refine a_isub dX9_played_125 ?_
          refine a_goto (tgt := 134) dX9_played_126 (by decide) ?_
          refine AW.sub (lv1 := [(0, .ref a0), (1, .int x1), (2, .int x2), (4, .int x4), (5, .int x5), (6, .int x6), (7, .int q2_.1)]) [1, 2, 3, 4, 5, 6, 0] rfl ?_
          exact wX9_played_b134 _ ih _ _ _ _ _ _ _ _ _ hf
set_option maxHeartbeats 4000000 in
set_option maxRecDepth 100000 in
theorem wX9_played_b56 {l : Launch} {Γ : Gx} {t0 w0 : Nat} {q : Int32 × Mm} : ∀ (n : Nat) (a0 : Nat) (x1 : Int32) (x2 : Int32) (x4 : Int32) (x5 : Int32) (x6 : Int32) (M : Mm), fX9_played_b56 n a0 x1 x2 x4 x5 x6 M = some q → AW l Γ yX9_played cX9_played 11 ((some .int)) 3 t0 w0 56 [(0, .ref a0), (1, .int x1), (2, .int x2), (4, .int x4), (5, .int x5), (6, .int x6)] [] M (some (.int q.1)) q.2 := by
  intro n
  induction n with
  | zero =>
    intro a0 x1 x2 x4 x5 x6 M hf
    cases hf
  | succ n ih =>
    intro a0 x1 x2 x4 x5 x6 M hf
    rw [fX9_played_b56.eq_2] at hf
    refine a_iload dX9_played_56 5 rfl ?_
    refine a_bipush (v := 24) dX9_played_58 (by decide) ?_
    refine a_icmp_ge dX9_played_60 (tgt := 83) (by decide) (fun c9 => ?_) (fun c9 => ?_)
    · replace hf := iteT hf c9
      refine a_aload_n dX9_played_83 rfl 0 rfl ?_
      refine a_iconst (v := -1) dX9_played_84 (by decide) ?_
      obtain ⟨M1_, eM1_, hf⟩ := bnd hf
      refine a_putI dX9_played_85 fpX9_253 rfl (Or.inr nf9_42) eM1_ ?_
      refine a_iconst (v := 0) dX9_played_88 (by decide) ?_
      refine a_istore (i := 6) (lv1 := [(6, .int ((0 : Int32))), (0, .ref a0), (1, .int x1), (2, .int x2), (4, .int x4), (5, .int x5)]) dX9_played_89 (by decide) rfl ?_
      refine AW.sub (lv1 := [(0, .ref a0), (1, .int x1), (2, .int x2), (4, .int x4), (5, .int x5), (6, .int ((0 : Int32)))]) [1, 2, 3, 4, 5, 0] rfl ?_
      exact wX9_played_b91 _ _ _ _ _ _ _ _ hf
    · replace hf := iteF hf c9
      refine a_aload_n dX9_played_63 rfl 0 rfl ?_
      obtain ⟨o2_, eo2_, hf⟩ := bnd hf
      refine a_getR dX9_played_64 flX9_99 rfl eo2_ ?_
      refine a_iload dX9_played_67 5 rfl ?_
      refine a_aload_n dX9_played_69 rfl 0 rfl ?_
      obtain ⟨o3_, eo3_, hf⟩ := bnd hf
      refine a_getR dX9_played_70 flX9_56 rfl eo3_ ?_
      refine a_iload dX9_played_73 5 rfl ?_
      obtain ⟨v4_, ev4_, hf⟩ := bnd hf
      refine a_lald dX9_played_75 ev4_ ?_
      obtain ⟨M5_, eM5_, hf⟩ := bnd hf
      refine a_last dX9_played_76 eM5_ ?_
      refine a_iinc (v := x6 + (1 : Int32)) (lv1 := [(6, .int (x6 + (1 : Int32))), (0, .ref a0), (1, .int x1), (2, .int x2), (4, .int x4), (5, .int x5)]) dX9_played_77 5 rfl rfl (by decide) rfl ?_
      refine a_goto (tgt := 56) dX9_played_80 (by decide) ?_
      refine AW.sub (lv1 := [(0, .ref a0), (1, .int x1), (2, .int x2), (4, .int x4), (5, .int x5), (6, .int (x6 + (1 : Int32)))]) [1, 2, 3, 4, 5, 0] rfl ?_
      exact ih _ _ _ _ _ _ _ hf
set_option maxHeartbeats 4000000 in
set_option maxRecDepth 100000 in
theorem wX9_played {l : Launch} {Γ : Gx} {a0 : Nat} {x1 : Int32} {x2 : Int32} {M : Mm} {q : Int32 × Mm} (hf : fX9_played a0 x1 x2 M = some q) : AM l Γ 3 yX9_played cX9_played 11 ((some .int)) [.ref a0, .int x1, .int x2] M (some (.int q.1)) q.2 := by
  unfold fX9_played at hf
  refine AM.of mfX9_played (Nat.le_of_ble_eq_true rfl) ?_
  generalize mT M = t0
  generalize mW M = w0
  show AW _ _ _ _ _ _ _ _ _ 0 [(0, .ref a0), (1, .int x1), (2, .int x2)] [] _ _ _
  obtain ⟨u0, eu0, hf⟩ := bnd hf
  refine a_aload_n dX9_played_0 rfl 0 rfl ?_
  refine a_iload_n dX9_played_1 rfl 1 rfl ?_
  obtain ⟨q1_, eq1_, hf⟩ := bnd hf
  refine a_callV (As := [.int x1]) (rest := []) dX9_played_2 mfX9_wants cvX9_161 (wX9_wants eq1_) rc9 (kX9_wants eq1_) (by decide) rfl rfl (Nat.le_of_ble_eq_true rfl) ?_
  refine a_istore_n (i := 3) (lv1 := [(3, .int q1_.1), (0, .ref a0), (1, .int x1), (2, .int x2)]) dX9_played_5 rfl (by decide) rfl ?_
  refine a_iload_n dX9_played_6 rfl 0 rfl ?_
  refine a_if_eq dX9_played_7 (tgt := 12) (by decide) (fun c9 => ?_) (fun c9 => ?_)
  · replace hf := iteT hf c9
    refine a_iload_n dX9_played_12 rfl 3 rfl ?_
    refine a_if_ge dX9_played_13 (tgt := 19) (by decide) (fun c9 => ?_) (fun c9 => ?_)
    · replace hf := iteT hf c9
      refine a_iload_n dX9_played_19 rfl 3 rfl ?_
      refine a_aload_n dX9_played_20 rfl 1 rfl ?_
      obtain ⟨o2_, eo2_, hf⟩ := bnd hf
      refine a_getR dX9_played_21 flX9_69 rfl eo2_ ?_
      refine a_iload_n dX9_played_24 rfl 2 rfl ?_
      obtain ⟨v3_, ev3_, hf⟩ := bnd hf
      refine a_iald dX9_played_25 ev3_ ?_
      refine a_icmp_le dX9_played_26 (tgt := 32) (by decide) (fun c9 => ?_) (fun c9 => ?_)
      · replace hf := iteT hf c9
        refine a_iload_n dX9_played_32 rfl 3 rfl ?_
        refine a_bipush (v := 16) dX9_played_33 (by decide) ?_
        refine a_icmp_le dX9_played_35 (tgt := 41) (by decide) (fun c9 => ?_) (fun c9 => ?_)
        · replace hf := iteT hf c9
          refine a_aload_n dX9_played_41 rfl 1 rfl ?_
          obtain ⟨v4_, ev4_, hf⟩ := bnd hf
          refine a_getI dX9_played_42 flX9_136 rfl ev4_ ?_
          refine a_istore (i := 4) (lv1 := [(4, .int v4_), (3, .int q1_.1), (0, .ref a0), (1, .int x1), (2, .int x2)]) dX9_played_45 (by decide) rfl ?_
          refine a_aload_n dX9_played_47 rfl 2 rfl ?_
          obtain ⟨v5_, ev5_, hf⟩ := bnd hf
          refine a_getI dX9_played_48 flX9_129 rfl ev5_ ?_
          refine a_istore (i := 5) (lv1 := [(5, .int v5_), (4, .int v4_), (3, .int q1_.1), (0, .ref a0), (1, .int x1), (2, .int x2)]) dX9_played_51 (by decide) rfl ?_
          refine a_iconst (v := 0) dX9_played_53 (by decide) ?_
          refine a_istore (i := 6) (lv1 := [(6, .int ((0 : Int32))), (5, .int v5_), (4, .int v4_), (3, .int q1_.1), (0, .ref a0), (1, .int x1), (2, .int x2)]) dX9_played_54 (by decide) rfl ?_
          refine AW.sub (lv1 := [(0, .ref a0), (1, .int x1), (2, .int x2), (4, .int v4_), (5, .int v5_), (6, .int ((0 : Int32)))]) [4, 5, 6, 2, 1, 0] rfl ?_
          exact wX9_played_b56 _ _ _ _ _ _ _ _ hf
        · replace hf := iteF hf c9
          refine a_bipush (v := -6) dX9_played_38 (by decide) ?_
          have e9 := Option.some.inj hf
          subst e9
          exact a_iret rfl dX9_played_40 rfl
      · replace hf := iteF hf c9
        refine a_bipush (v := -5) dX9_played_29 (by decide) ?_
        have e9 := Option.some.inj hf
        subst e9
        exact a_iret rfl dX9_played_31 rfl
    · replace hf := iteF hf c9
      refine a_bipush (v := -4) dX9_played_16 (by decide) ?_
      have e9 := Option.some.inj hf
      subst e9
      exact a_iret rfl dX9_played_18 rfl
  · replace hf := iteF hf c9
    refine a_iload_n dX9_played_10 rfl 0 rfl ?_
    have e9 := Option.some.inj hf
    subst e9
    exact a_iret rfl dX9_played_11 rfl
theorem kX9_judge {a0 : Nat} {x1 : Int32} {x2 : Int32} {M : Mm} {q : Int32 × Mm} (hf : fX9_judge a0 x1 x2 M = some q) : (mK M a0).1 = 10 := by
  unfold fX9_judge at hf
  obtain ⟨u0, eu0, -⟩ := bnd hf
  exact kc_of eu0
set_option maxHeartbeats 4000000 in
set_option maxRecDepth 100000 in
theorem wX9_judge {l : Launch} {Γ : Gx} {a0 : Nat} {x1 : Int32} {x2 : Int32} {M : Mm} {q : Int32 × Mm} (hf : fX9_judge a0 x1 x2 M = some q) : AM l Γ 4 yX9_judge cX9_judge 4 ((some .int)) [.ref a0, .int x1, .int x2] M (some (.int q.1)) q.2 := by
  unfold fX9_judge at hf
  refine AM.of mfX9_judge (Nat.le_of_ble_eq_true rfl) ?_
  generalize mT M = t0
  generalize mW M = w0
  show AW _ _ _ _ _ _ _ _ _ 0 [(0, .ref a0), (1, .int x1), (2, .int x2)] [] _ _ _
  obtain ⟨u0, eu0, hf⟩ := bnd hf
  refine a_aload_n dX9_judge_0 rfl 0 rfl ?_
  refine a_iload_n dX9_judge_1 rfl 1 rfl ?_
  refine a_iload_n dX9_judge_2 rfl 2 rfl ?_
  obtain ⟨q1_, eq1_, hf⟩ := bnd hf
  refine a_callV (As := [.int x1, .int x2]) (rest := []) dX9_judge_3 mfX9_played cvX9_259 (wX9_played eq1_) rc9 (kX9_played eq1_) (by decide) rfl rfl (Nat.le_of_ble_eq_true rfl) ?_
  refine a_istore_n (i := 3) (lv1 := [(3, .int q1_.1), (0, .ref a0), (1, .int x1), (2, .int x2)]) dX9_judge_6 rfl (by decide) rfl ?_
  refine a_iload_n dX9_judge_7 rfl 0 rfl ?_
  refine a_if_eq dX9_judge_8 (tgt := 19) (by decide) (fun c9 => ?_) (fun c9 => ?_)
  · replace hf := iteT hf c9
    refine a_aload_n dX9_judge_19 rfl 1 rfl ?_
    obtain ⟨v2_, ev2_, hf⟩ := bnd hf
    refine a_getI dX9_judge_20 flX9_253 rfl ev2_ ?_
    have e9 := Option.some.inj hf
    subst e9
    exact a_iret rfl dX9_judge_23 rfl
  · replace hf := iteF hf c9
    refine a_aload_n dX9_judge_11 rfl 1 rfl ?_
    refine a_iload_n dX9_judge_12 rfl 0 rfl ?_
    obtain ⟨q3_, eq3_, hf⟩ := bnd hf
    refine a_callV (As := [.int q1_.1]) (rest := []) dX9_judge_13 mfX9_no cvX9_122 (wX9_no eq3_) rc9 (kX9_no eq3_) (by decide) rfl rfl (Nat.le_of_ble_eq_true rfl) ?_
    refine a_goto (tgt := 23) dX9_judge_16 (by decide) ?_
    have e9 := Option.some.inj hf
    subst e9
    exact a_iret rfl dX9_judge_23 rfl
theorem kX9_told {a0 : Nat} {x1 : Int32} {x2 : Int32} {M : Mm} {q : Int32 × Mm} (hf : fX9_told a0 x1 x2 M = some q) : (mK M a0).1 = 10 := by
  unfold fX9_told at hf
  obtain ⟨u0, eu0, -⟩ := bnd hf
  exact kc_of eu0
set_option maxHeartbeats 4000000 in
set_option maxRecDepth 100000 in
theorem wX9_told_b22 {l : Launch} {Γ : Gx} {t0 w0 : Nat} {q : Int32 × Mm} (a0 : Nat) (x3 : Int32) (M : Mm) (hf : fX9_told_b22 a0 x3 M = some q) : AW l Γ yX9_told cX9_told 4 ((some .int)) 4 t0 w0 22 [(0, .ref a0), (3, .int x3)] [] M (some (.int q.1)) q.2 := by
  unfold fX9_told_b22 at hf
  refine a_iload_n dX9_told_22 rfl 1 rfl ?_
  refine a_if_eq dX9_told_23 (tgt := 34) (by decide) (fun c9 => ?_) (fun c9 => ?_)
  · replace hf := iteT hf c9
    refine a_aload_n dX9_told_34 rfl 0 rfl ?_
    obtain ⟨v1_, ev1_, hf⟩ := bnd hf
    refine a_getI dX9_told_35 flX9_256 rfl ev1_ ?_
    have e9 := Option.some.inj hf
    subst e9
    exact a_iret rfl dX9_told_38 rfl
  · replace hf := iteF hf c9
    refine a_aload_n dX9_told_26 rfl 0 rfl ?_
    refine a_iload_n dX9_told_27 rfl 1 rfl ?_
    obtain ⟨q2_, eq2_, hf⟩ := bnd hf
    refine a_callV (As := [.int x3]) (rest := []) dX9_told_28 mfX9_no cvX9_122 (wX9_no eq2_) rc9 (kX9_no eq2_) (by decide) rfl rfl (Nat.le_of_ble_eq_true rfl) ?_
    refine a_goto (tgt := 38) dX9_told_31 (by decide) ?_
    have e9 := Option.some.inj hf
    subst e9
    exact a_iret rfl dX9_told_38 rfl
set_option maxHeartbeats 4000000 in
set_option maxRecDepth 100000 in
theorem wX9_told {l : Launch} {Γ : Gx} {a0 : Nat} {x1 : Int32} {x2 : Int32} {M : Mm} {q : Int32 × Mm} (hf : fX9_told a0 x1 x2 M = some q) : AM l Γ 4 yX9_told cX9_told 4 ((some .int)) [.ref a0, .int x1, .int x2] M (some (.int q.1)) q.2 := by
  unfold fX9_told at hf
  refine AM.of mfX9_told (Nat.le_of_ble_eq_true rfl) ?_
  generalize mT M = t0
  generalize mW M = w0
  show AW _ _ _ _ _ _ _ _ _ 0 [(0, .ref a0), (1, .int x1), (2, .int x2)] [] _ _ _
  obtain ⟨u0, eu0, hf⟩ := bnd hf
  refine a_aload_n dX9_told_0 rfl 0 rfl ?_
  refine a_iload_n dX9_told_1 rfl 1 rfl ?_
  refine a_iload_n dX9_told_2 rfl 2 rfl ?_
  obtain ⟨q1_, eq1_, hf⟩ := bnd hf
  refine a_callV (As := [.int x1, .int x2]) (rest := []) dX9_told_3 mfX9_played cvX9_259 (wX9_played eq1_) rc9 (kX9_played eq1_) (by decide) rfl rfl (Nat.le_of_ble_eq_true rfl) ?_
  refine a_istore_n (i := 3) (lv1 := [(3, .int q1_.1), (0, .ref a0), (1, .int x1), (2, .int x2)]) dX9_told_6 rfl (by decide) rfl ?_
  refine a_iload_n dX9_told_7 rfl 0 rfl ?_
  refine a_if_ne dX9_told_8 (tgt := 22) (by decide) (fun c9 => ?_) (fun c9 => ?_)
  · replace hf := iteF hf c9
    refine AW.sub (lv1 := [(0, .ref a0), (3, .int q1_.1)]) [1, 0] rfl ?_
    exact wX9_told_b22 _ _ _ hf
  · replace hf := iteT hf c9
    refine a_aload_n dX9_told_11 rfl 1 rfl ?_
    obtain ⟨v2_, ev2_, hf⟩ := bnd hf
    refine a_getI dX9_told_12 flX9_253 rfl ev2_ ?_
    refine a_iconst (v := -1) dX9_told_15 (by decide) ?_
    refine a_icmp_eq dX9_told_16 (tgt := 22) (by decide) (fun c9 => ?_) (fun c9 => ?_)
    · replace hf := iteT hf c9
      refine AW.sub (lv1 := [(0, .ref a0), (3, .int q1_.1)]) [1, 0] rfl ?_
      exact wX9_told_b22 _ _ _ hf
    · replace hf := iteF hf c9
      refine a_bipush (v := -6) dX9_told_19 (by decide) ?_
      refine a_istore_n (i := 3) (lv1 := [(3, .int ((-6 : Int32))), (0, .ref a0), (1, .int x1), (2, .int x2)]) dX9_told_21 rfl (by decide) rfl ?_
      refine AW.sub (lv1 := [(0, .ref a0), (3, .int ((-6 : Int32)))]) [1, 0] rfl ?_
      exact wX9_told_b22 _ _ _ hf
theorem kX9_count {a0 : Nat} {x1 : Int32} {M : Mm} {q : Int32 × Mm} (hf : fX9_count a0 x1 M = some q) : (mK M a0).1 = 10 := by
  unfold fX9_count at hf
  obtain ⟨u0, eu0, -⟩ := bnd hf
  exact kc_of eu0
set_option maxHeartbeats 4000000 in
set_option maxRecDepth 100000 in
theorem wX9_count_b4 {l : Launch} {Γ : Gx} {t0 w0 : Nat} {q : Int32 × Mm} : ∀ (n : Nat) (x2 : Int32) (x3 : Int32) (M : Mm), fX9_count_b4 n x2 x3 M = some q → AW l Γ yX9_count cX9_count 4 ((some .int)) 1 t0 w0 4 [(2, .int x2), (3, .int x3)] [] M (some (.int q.1)) q.2 := by
  intro n
  induction n with
  | zero =>
    intro x2 x3 M hf
    cases hf
  | succ n ih =>
    intro x2 x3 M hf
    rw [fX9_count_b4.eq_2] at hf
    refine a_iload_n dX9_count_4 rfl 1 rfl ?_
    refine a_if_eq dX9_count_5 (tgt := 20) (by decide) (fun c9 => ?_) (fun c9 => ?_)
    · replace hf := iteT hf c9
      refine a_iload_n dX9_count_20 rfl 0 rfl ?_
      have e9 := Option.some.inj hf
      subst e9
      exact a_iret rfl dX9_count_21 rfl
    · replace hf := iteF hf c9
      refine a_iinc (v := x2 + (1 : Int32)) (lv1 := [(2, .int (x2 + (1 : Int32))), (3, .int x3)]) dX9_count_8 0 rfl rfl (by decide) rfl ?_
      refine a_iload_n dX9_count_11 rfl 1 rfl ?_
      refine a_iload_n dX9_count_12 rfl 1 rfl ?_
      refine a_iconst (v := 1) dX9_count_13 (by decide) ?_
      refine a_isub dX9_count_14 ?_
      refine a_iand dX9_count_15 ?_
      refine a_istore_n (i := 3) (lv1 := [(3, .int (x3 &&& (x3 - ((1 : Int32))))), (2, .int (x2 + (1 : Int32)))]) dX9_count_16 rfl (by decide) rfl ?_
      refine a_goto (tgt := 4) dX9_count_17 (by decide) ?_
      refine AW.sub (lv1 := [(2, .int (x2 + (1 : Int32))), (3, .int (x3 &&& (x3 - ((1 : Int32)))))]) [1, 0] rfl ?_
      exact ih _ _ _ hf
set_option maxHeartbeats 4000000 in
set_option maxRecDepth 100000 in
theorem wX9_count {l : Launch} {Γ : Gx} {a0 : Nat} {x1 : Int32} {M : Mm} {q : Int32 × Mm} (hf : fX9_count a0 x1 M = some q) : AM l Γ 1 yX9_count cX9_count 4 ((some .int)) [.ref a0, .int x1] M (some (.int q.1)) q.2 := by
  unfold fX9_count at hf
  refine AM.of mfX9_count (Nat.le_of_ble_eq_true rfl) ?_
  generalize mT M = t0
  generalize mW M = w0
  show AW _ _ _ _ _ _ _ _ _ 0 [(0, .ref a0), (1, .int x1)] [] _ _ _
  obtain ⟨u0, eu0, hf⟩ := bnd hf
  refine a_iconst (v := 0) dX9_count_0 (by decide) ?_
  refine a_istore_n (i := 2) (lv1 := [(2, .int ((0 : Int32))), (0, .ref a0), (1, .int x1)]) dX9_count_1 rfl (by decide) rfl ?_
  refine a_iload_n dX9_count_2 rfl 2 rfl ?_
  refine a_istore_n (i := 3) (lv1 := [(3, .int x1), (2, .int ((0 : Int32))), (0, .ref a0), (1, .int x1)]) dX9_count_3 rfl (by decide) rfl ?_
  refine AW.sub (lv1 := [(2, .int ((0 : Int32))), (3, .int x1)]) [1, 0] rfl ?_
  exact wX9_count_b4 _ _ _ _ hf
theorem kX9_worthOf {a0 : Nat} {x1 : Int32} {M : Mm} {q : Int64 × Mm} (hf : fX9_worthOf a0 x1 M = some q) : (mK M a0).1 = 10 := by
  unfold fX9_worthOf at hf
  obtain ⟨u0, eu0, -⟩ := bnd hf
  exact kc_of eu0
set_option maxHeartbeats 4000000 in
set_option maxRecDepth 100000 in
theorem wX9_worthOf_b104 {l : Launch} {Γ : Gx} {t0 w0 : Nat} {q : Int64 × Mm} (k5 : Nat → Int32 → Int64 → Int32 → Mm → Option (Int64 × Mm)) (hk5 : ∀ (a0 : Nat) (x1 : Int32) (x2 : Int64) (x4 : Int32) (M : Mm), k5 a0 x1 x2 x4 M = some q → AW l Γ yX9_worthOf cX9_worthOf 12 ((some .long)) 2 t0 w0 5 [(0, .ref a0), (1, .int x1), (2, .long x2), (4, .int x4)] [] M (some (.long q.1)) q.2) (k11 : Nat → Int32 → Int64 → Int32 → Int64 → Int32 → Mm → Option (Int64 × Mm)) (hk11 : ∀ (a0 : Nat) (x1 : Int32) (x2 : Int64) (x4 : Int32) (x5 : Int64) (x7 : Int32) (M : Mm), k11 a0 x1 x2 x4 x5 x7 M = some q → AW l Γ yX9_worthOf cX9_worthOf 12 ((some .long)) 2 t0 w0 11 [(0, .ref a0), (1, .int x1), (2, .long x2), (4, .int x4), (5, .long x5), (7, .int x7)] [] M (some (.long q.1)) q.2) (a0 : Nat) (x1 : Int32) (x2 : Int64) (x4 : Int32) (x5 : Int64) (x7 : Int32) (x8 : Int64) (M : Mm) (hf : fX9_worthOf_b104 k5 k11 a0 x1 x2 x4 x5 x7 x8 M = some q) : AW l Γ yX9_worthOf cX9_worthOf 12 ((some .long)) 2 t0 w0 104 [(0, .ref a0), (1, .int x1), (2, .long x2), (4, .int x4), (5, .long x5), (7, .int x7), (8, .long x8)] [] M (some (.long q.1)) q.2 := by
  unfold fX9_worthOf_b104 at hf
  refine a_lload dX9_worthOf_104 6 rfl ?_
  refine a_lload dX9_worthOf_106 4 rfl ?_
  refine a_lcmp_le dX9_worthOf_108 dX9_worthOf_109 (tgt := 117) (by decide) (fun c9 => ?_) (fun c9 => ?_)
  · replace hf := iteT hf c9
    refine a_lload dX9_worthOf_117 4 rfl ?_
    refine a_lstore (i := 5) (lv1 := [(5, .long x5), (0, .ref a0), (1, .int x1), (2, .long x2), (4, .int x4), (7, .int x7), (8, .long x8)]) dX9_worthOf_119 (by decide) rfl ?_
    refine a_iinc (v := x7 + (1 : Int32)) (lv1 := [(7, .int (x7 + (1 : Int32))), (5, .long x5), (0, .ref a0), (1, .int x1), (2, .long x2), (4, .int x4), (8, .long x8)]) dX9_worthOf_121 5 rfl rfl (by decide) rfl ?_
    refine a_goto (tgt := 11) dX9_worthOf_124 (by decide) ?_
    refine AW.sub (lv1 := [(0, .ref a0), (1, .int x1), (2, .long x2), (4, .int x4), (5, .long x5), (7, .int (x7 + (1 : Int32)))]) [2, 3, 4, 5, 1, 0] rfl ?_
    exact hk11 _ _ _ _ _ _ _ hf
  · replace hf := iteF hf c9
    refine a_lload dX9_worthOf_112 6 rfl ?_
    refine a_goto (tgt := 119) dX9_worthOf_114 (by decide) ?_
    refine a_lstore (i := 5) (lv1 := [(5, .long x8), (0, .ref a0), (1, .int x1), (2, .long x2), (4, .int x4), (7, .int x7), (8, .long x8)]) dX9_worthOf_119 (by decide) rfl ?_
    refine a_iinc (v := x7 + (1 : Int32)) (lv1 := [(7, .int (x7 + (1 : Int32))), (5, .long x8), (0, .ref a0), (1, .int x1), (2, .long x2), (4, .int x4), (8, .long x8)]) dX9_worthOf_121 5 rfl rfl (by decide) rfl ?_
    refine a_goto (tgt := 11) dX9_worthOf_124 (by decide) ?_
    refine AW.sub (lv1 := [(0, .ref a0), (1, .int x1), (2, .long x2), (4, .int x4), (5, .long x8), (7, .int (x7 + (1 : Int32)))]) [2, 3, 4, 5, 1, 0] rfl ?_
    exact hk11 _ _ _ _ _ _ _ hf
set_option maxHeartbeats 4000000 in
set_option maxRecDepth 100000 in
theorem wX9_worthOf_b95 {l : Launch} {Γ : Gx} {t0 w0 : Nat} {q : Int64 × Mm} (k5 : Nat → Int32 → Int64 → Int32 → Mm → Option (Int64 × Mm)) (hk5 : ∀ (a0 : Nat) (x1 : Int32) (x2 : Int64) (x4 : Int32) (M : Mm), k5 a0 x1 x2 x4 M = some q → AW l Γ yX9_worthOf cX9_worthOf 12 ((some .long)) 2 t0 w0 5 [(0, .ref a0), (1, .int x1), (2, .long x2), (4, .int x4)] [] M (some (.long q.1)) q.2) (k11 : Nat → Int32 → Int64 → Int32 → Int64 → Int32 → Mm → Option (Int64 × Mm)) (hk11 : ∀ (a0 : Nat) (x1 : Int32) (x2 : Int64) (x4 : Int32) (x5 : Int64) (x7 : Int32) (M : Mm), k11 a0 x1 x2 x4 x5 x7 M = some q → AW l Γ yX9_worthOf cX9_worthOf 12 ((some .long)) 2 t0 w0 11 [(0, .ref a0), (1, .int x1), (2, .long x2), (4, .int x4), (5, .long x5), (7, .int x7)] [] M (some (.long q.1)) q.2) (k32 : Nat → Int32 → Int64 → Int32 → Int64 → Int32 → Int64 → Int32 → Mm → Option (Int64 × Mm)) (hk32 : ∀ (a0 : Nat) (x1 : Int32) (x2 : Int64) (x4 : Int32) (x5 : Int64) (x7 : Int32) (x8 : Int64) (x10 : Int32) (M : Mm), k32 a0 x1 x2 x4 x5 x7 x8 x10 M = some q → AW l Γ yX9_worthOf cX9_worthOf 12 ((some .long)) 2 t0 w0 32 [(0, .ref a0), (1, .int x1), (2, .long x2), (4, .int x4), (5, .long x5), (7, .int x7), (8, .long x8), (10, .int x10)] [] M (some (.long q.1)) q.2) (a0 : Nat) (x1 : Int32) (x2 : Int64) (x4 : Int32) (x5 : Int64) (x7 : Int32) (x10 : Int32) (s0 : Int64) (s1 : Int64) (M : Mm) (hf : fX9_worthOf_b95 k5 k11 k32 a0 x1 x2 x4 x5 x7 x10 s0 s1 M = some q) : AW l Γ yX9_worthOf cX9_worthOf 12 ((some .long)) 2 t0 w0 95 [(0, .ref a0), (1, .int x1), (2, .long x2), (4, .int x4), (5, .long x5), (7, .int x7), (10, .int x10)] [.long s1, .long s0] M (some (.long q.1)) q.2 := by
  unfold fX9_worthOf_b95 at hf
  refine a_lmul dX9_worthOf_95 ?_
  refine a_lstore (i := 8) (lv1 := [(8, .long (s0 * s1)), (0, .ref a0), (1, .int x1), (2, .long x2), (4, .int x4), (5, .long x5), (7, .int x7), (10, .int x10)]) dX9_worthOf_96 (by decide) rfl ?_
  refine a_iinc (v := x10 + (1 : Int32)) (lv1 := [(10, .int (x10 + (1 : Int32))), (8, .long (s0 * s1)), (0, .ref a0), (1, .int x1), (2, .long x2), (4, .int x4), (5, .long x5), (7, .int x7)]) dX9_worthOf_98 7 rfl rfl (by decide) rfl ?_
  refine a_goto (tgt := 32) dX9_worthOf_101 (by decide) ?_
  refine AW.sub (lv1 := [(0, .ref a0), (1, .int x1), (2, .long x2), (4, .int x4), (5, .long x5), (7, .int x7), (8, .long (s0 * s1)), (10, .int (x10 + (1 : Int32)))]) [2, 3, 4, 5, 6, 7, 1, 0] rfl ?_
  exact hk32 _ _ _ _ _ _ _ _ _ hf
set_option maxHeartbeats 4000000 in
set_option maxRecDepth 100000 in
theorem wX9_worthOf_b32 {l : Launch} {Γ : Gx} {t0 w0 : Nat} {q : Int64 × Mm} (k5 : Nat → Int32 → Int64 → Int32 → Mm → Option (Int64 × Mm)) (hk5 : ∀ (a0 : Nat) (x1 : Int32) (x2 : Int64) (x4 : Int32) (M : Mm), k5 a0 x1 x2 x4 M = some q → AW l Γ yX9_worthOf cX9_worthOf 12 ((some .long)) 2 t0 w0 5 [(0, .ref a0), (1, .int x1), (2, .long x2), (4, .int x4)] [] M (some (.long q.1)) q.2) (k11 : Nat → Int32 → Int64 → Int32 → Int64 → Int32 → Mm → Option (Int64 × Mm)) (hk11 : ∀ (a0 : Nat) (x1 : Int32) (x2 : Int64) (x4 : Int32) (x5 : Int64) (x7 : Int32) (M : Mm), k11 a0 x1 x2 x4 x5 x7 M = some q → AW l Γ yX9_worthOf cX9_worthOf 12 ((some .long)) 2 t0 w0 11 [(0, .ref a0), (1, .int x1), (2, .long x2), (4, .int x4), (5, .long x5), (7, .int x7)] [] M (some (.long q.1)) q.2) : ∀ (n : Nat) (a0 : Nat) (x1 : Int32) (x2 : Int64) (x4 : Int32) (x5 : Int64) (x7 : Int32) (x8 : Int64) (x10 : Int32) (M : Mm), fX9_worthOf_b32 k5 k11 n a0 x1 x2 x4 x5 x7 x8 x10 M = some q → AW l Γ yX9_worthOf cX9_worthOf 12 ((some .long)) 2 t0 w0 32 [(0, .ref a0), (1, .int x1), (2, .long x2), (4, .int x4), (5, .long x5), (7, .int x7), (8, .long x8), (10, .int x10)] [] M (some (.long q.1)) q.2 := by
  intro n
  induction n with
  | zero =>
    intro a0 x1 x2 x4 x5 x7 x8 x10 M hf
    cases hf
  | succ n ih =>
    intro a0 x1 x2 x4 x5 x7 x8 x10 M hf
    rw [fX9_worthOf_b32.eq_2] at hf
    refine a_iload dX9_worthOf_32 7 rfl ?_
    refine a_aload_n dX9_worthOf_34 rfl 0 rfl ?_
    obtain ⟨v1_, ev1_, hf⟩ := bnd hf
    refine a_getI dX9_worthOf_35 flX9_115 rfl ev1_ ?_
    refine a_icmp_ge dX9_worthOf_38 (tgt := 104) (by decide) (fun c9 => ?_) (fun c9 => ?_)
    · replace hf := iteT hf c9
      refine AW.sub (lv1 := [(0, .ref a0), (1, .int x1), (2, .long x2), (4, .int x4), (5, .long x5), (7, .int x7), (8, .long x8)]) [0, 1, 2, 3, 4, 5, 6] rfl ?_
      exact wX9_worthOf_b104 _ hk5 _ hk11 _ _ _ _ _ _ _ _ hf
    · replace hf := iteF hf c9
      refine a_lload dX9_worthOf_41 6 rfl ?_
      refine a_lconst (v := 0) dX9_worthOf_43 rfl ?_
      refine a_lcmp_le dX9_worthOf_44 dX9_worthOf_45 (tgt := 104) (by decide) (fun c9 => ?_) (fun c9 => ?_)
      · replace hf := iteT hf c9
        refine AW.sub (lv1 := [(0, .ref a0), (1, .int x1), (2, .long x2), (4, .int x4), (5, .long x5), (7, .int x7), (8, .long x8)]) [0, 1, 2, 3, 4, 5, 6] rfl ?_
        exact wX9_worthOf_b104 _ hk5 _ hk11 _ _ _ _ _ _ _ _ hf
      · replace hf := iteF hf c9
        refine a_iload_n dX9_worthOf_48 rfl 1 rfl ?_
        refine a_iload dX9_worthOf_49 7 rfl ?_
        refine a_ishr dX9_worthOf_51 ?_
        refine a_iconst (v := 1) dX9_worthOf_52 (by decide) ?_
        refine a_iand dX9_worthOf_53 ?_
        refine a_if_ne dX9_worthOf_54 (tgt := 60) (by decide) (fun c9 => ?_) (fun c9 => ?_)
        · replace hf := iteF hf c9
          refine a_aload_n dX9_worthOf_60 rfl 0 rfl ?_
          refine a_iload dX9_worthOf_61 7 rfl ?_
          refine a_iload dX9_worthOf_63 5 rfl ?_
          obtain ⟨q2_, eq2_, hf⟩ := bnd hf
          refine a_callV (As := [.int x10, .int x7]) (rest := []) dX9_worthOf_65 mfX9_strengthOf cvX9_132 (wX9_strengthOf eq2_) rc9 (kX9_strengthOf eq2_) (by decide) rfl rfl (Nat.le_of_ble_eq_true rfl) ?_
          refine a_istore (i := 11) (lv1 := [(11, .int q2_.1), (0, .ref a0), (1, .int x1), (2, .long x2), (4, .int x4), (5, .long x5), (7, .int x7), (8, .long x8), (10, .int x10)]) dX9_worthOf_68 (by decide) rfl ?_
          refine a_lload dX9_worthOf_70 7 rfl ?_
          refine a_iload dX9_worthOf_72 4 rfl ?_
          refine a_iload dX9_worthOf_74 8 rfl ?_
          refine a_ishr dX9_worthOf_76 ?_
          refine a_iconst (v := 1) dX9_worthOf_77 (by decide) ?_
          refine a_iand dX9_worthOf_78 ?_
          refine a_iconst (v := 1) dX9_worthOf_79 (by decide) ?_
          refine a_icmp_ne dX9_worthOf_80 (tgt := 89) (by decide) (fun c9 => ?_) (fun c9 => ?_)
          · replace hf := iteF hf c9
            refine a_bipush (v := 10) dX9_worthOf_89 (by decide) ?_
            refine a_iload dX9_worthOf_91 0 rfl ?_
            refine a_isub dX9_worthOf_93 ?_
            refine a_i2l dX9_worthOf_94 ?_
            refine AW.sub (lv1 := [(0, .ref a0), (1, .int x1), (2, .long x2), (4, .int x4), (5, .long x5), (7, .int x7), (10, .int x10)]) [1, 2, 3, 4, 5, 6, 8] rfl ?_
            exact wX9_worthOf_b95 _ hk5 _ hk11 _ ih _ _ _ _ _ _ _ _ _ _ hf
          · replace hf := iteT hf c9
            refine a_iload dX9_worthOf_83 0 rfl ?_
            refine a_i2l dX9_worthOf_85 ?_
            refine a_goto (tgt := 95) dX9_worthOf_86 (by decide) ?_
            refine AW.sub (lv1 := [(0, .ref a0), (1, .int x1), (2, .long x2), (4, .int x4), (5, .long x5), (7, .int x7), (10, .int x10)]) [1, 2, 3, 4, 5, 6, 8] rfl ?_
            exact wX9_worthOf_b95 _ hk5 _ hk11 _ ih _ _ _ _ _ _ _ _ _ _ hf
        · replace hf := iteT hf c9
          refine a_goto (tgt := 98) dX9_worthOf_57 (by decide) ?_
          refine a_iinc (v := x10 + (1 : Int32)) (lv1 := [(10, .int (x10 + (1 : Int32))), (0, .ref a0), (1, .int x1), (2, .long x2), (4, .int x4), (5, .long x5), (7, .int x7), (8, .long x8)]) dX9_worthOf_98 7 rfl rfl (by decide) rfl ?_
          refine a_goto (tgt := 32) dX9_worthOf_101 (by decide) ?_
          refine AW.sub (lv1 := [(0, .ref a0), (1, .int x1), (2, .long x2), (4, .int x4), (5, .long x5), (7, .int x7), (8, .long x8), (10, .int (x10 + (1 : Int32)))]) [1, 2, 3, 4, 5, 6, 7, 0] rfl ?_
          exact ih _ _ _ _ _ _ _ _ _ hf
set_option maxHeartbeats 4000000 in
set_option maxRecDepth 100000 in
theorem wX9_worthOf_b11 {l : Launch} {Γ : Gx} {t0 w0 : Nat} {q : Int64 × Mm} (k5 : Nat → Int32 → Int64 → Int32 → Mm → Option (Int64 × Mm)) (hk5 : ∀ (a0 : Nat) (x1 : Int32) (x2 : Int64) (x4 : Int32) (M : Mm), k5 a0 x1 x2 x4 M = some q → AW l Γ yX9_worthOf cX9_worthOf 12 ((some .long)) 2 t0 w0 5 [(0, .ref a0), (1, .int x1), (2, .long x2), (4, .int x4)] [] M (some (.long q.1)) q.2) : ∀ (n : Nat) (a0 : Nat) (x1 : Int32) (x2 : Int64) (x4 : Int32) (x5 : Int64) (x7 : Int32) (M : Mm), fX9_worthOf_b11 k5 n a0 x1 x2 x4 x5 x7 M = some q → AW l Γ yX9_worthOf cX9_worthOf 12 ((some .long)) 2 t0 w0 11 [(0, .ref a0), (1, .int x1), (2, .long x2), (4, .int x4), (5, .long x5), (7, .int x7)] [] M (some (.long q.1)) q.2 := by
  intro n
  induction n with
  | zero =>
    intro a0 x1 x2 x4 x5 x7 M hf
    cases hf
  | succ n ih =>
    intro a0 x1 x2 x4 x5 x7 M hf
    rw [fX9_worthOf_b11.eq_2] at hf
    refine a_iload dX9_worthOf_11 5 rfl ?_
    refine a_aload_n dX9_worthOf_13 rfl 0 rfl ?_
    obtain ⟨v1_, ev1_, hf⟩ := bnd hf
    refine a_getI dX9_worthOf_14 flX9_7 rfl ev1_ ?_
    refine a_icmp_ge dX9_worthOf_17 (tgt := 127) (by decide) (fun c9 => ?_) (fun c9 => ?_)
    · replace hf := iteT hf c9
      refine a_lload_n dX9_worthOf_127 rfl 2 rfl ?_
      refine a_lload dX9_worthOf_128 4 rfl ?_
      refine a_ladd dX9_worthOf_130 ?_
      refine a_lstore_n (i := 2) (lv1 := [(2, .long (x2 + x5)), (0, .ref a0), (1, .int x1), (4, .int x4), (5, .long x5), (7, .int x7)]) dX9_worthOf_131 rfl (by decide) rfl ?_
      refine a_iload dX9_worthOf_132 3 rfl ?_
      refine a_if_ne dX9_worthOf_134 (tgt := 139) (by decide) (fun c9 => ?_) (fun c9 => ?_)
      · replace hf := iteF hf c9
        refine a_iload dX9_worthOf_139 3 rfl ?_
        refine a_iconst (v := 1) dX9_worthOf_141 (by decide) ?_
        refine a_isub dX9_worthOf_142 ?_
        refine a_iload_n dX9_worthOf_143 rfl 2 rfl ?_
        refine a_iand dX9_worthOf_144 ?_
        refine a_istore (i := 4) (lv1 := [(4, .int ((x4 - ((1 : Int32))) &&& x1)), (2, .long (x2 + x5)), (0, .ref a0), (1, .int x1), (5, .long x5), (7, .int x7)]) dX9_worthOf_145 (by decide) rfl ?_
        refine a_goto (tgt := 5) dX9_worthOf_147 (by decide) ?_
        refine AW.sub (lv1 := [(0, .ref a0), (1, .int x1), (2, .long (x2 + x5)), (4, .int ((x4 - ((1 : Int32))) &&& x1))]) [2, 3, 1, 0] rfl ?_
        exact hk5 _ _ _ _ _ hf
      · replace hf := iteT hf c9
        refine a_lload_n dX9_worthOf_137 rfl 0 rfl ?_
        have e9 := Option.some.inj hf
        subst e9
        exact a_lret rfl dX9_worthOf_138 rfl
    · replace hf := iteF hf c9
      refine a_aload_n dX9_worthOf_20 rfl 0 rfl ?_
      obtain ⟨o2_, eo2_, hf⟩ := bnd hf
      refine a_getR dX9_worthOf_21 flX9_56 rfl eo2_ ?_
      refine a_iload dX9_worthOf_24 5 rfl ?_
      obtain ⟨v3_, ev3_, hf⟩ := bnd hf
      refine a_lald dX9_worthOf_26 ev3_ ?_
      refine a_lstore (i := 8) (lv1 := [(8, .long v3_), (0, .ref a0), (1, .int x1), (2, .long x2), (4, .int x4), (5, .long x5), (7, .int x7)]) dX9_worthOf_27 (by decide) rfl ?_
      refine a_iconst (v := 0) dX9_worthOf_29 (by decide) ?_
      refine a_istore (i := 10) (lv1 := [(10, .int ((0 : Int32))), (8, .long v3_), (0, .ref a0), (1, .int x1), (2, .long x2), (4, .int x4), (5, .long x5), (7, .int x7)]) dX9_worthOf_30 (by decide) rfl ?_
      refine AW.sub (lv1 := [(0, .ref a0), (1, .int x1), (2, .long x2), (4, .int x4), (5, .long x5), (7, .int x7), (8, .long v3_), (10, .int ((0 : Int32)))]) [2, 3, 4, 5, 6, 7, 1, 0] rfl ?_
      exact wX9_worthOf_b32 _ hk5 _ ih _ _ _ _ _ _ _ _ _ _ hf
set_option maxHeartbeats 4000000 in
set_option maxRecDepth 100000 in
theorem wX9_worthOf_b5 {l : Launch} {Γ : Gx} {t0 w0 : Nat} {q : Int64 × Mm} : ∀ (n : Nat) (a0 : Nat) (x1 : Int32) (x2 : Int64) (x4 : Int32) (M : Mm), fX9_worthOf_b5 n a0 x1 x2 x4 M = some q → AW l Γ yX9_worthOf cX9_worthOf 12 ((some .long)) 2 t0 w0 5 [(0, .ref a0), (1, .int x1), (2, .long x2), (4, .int x4)] [] M (some (.long q.1)) q.2 := by
  intro n
  induction n with
  | zero =>
    intro a0 x1 x2 x4 M hf
    cases hf
  | succ n ih =>
    intro a0 x1 x2 x4 M hf
    rw [fX9_worthOf_b5.eq_2] at hf
    refine a_lconst (v := 0) dX9_worthOf_5 rfl ?_
    refine a_lstore (i := 5) (lv1 := [(5, .long ((0 : Int64))), (0, .ref a0), (1, .int x1), (2, .long x2), (4, .int x4)]) dX9_worthOf_6 (by decide) rfl ?_
    refine a_iconst (v := 0) dX9_worthOf_8 (by decide) ?_
    refine a_istore (i := 7) (lv1 := [(7, .int ((0 : Int32))), (5, .long ((0 : Int64))), (0, .ref a0), (1, .int x1), (2, .long x2), (4, .int x4)]) dX9_worthOf_9 (by decide) rfl ?_
    refine AW.sub (lv1 := [(0, .ref a0), (1, .int x1), (2, .long x2), (4, .int x4), (5, .long ((0 : Int64))), (7, .int ((0 : Int32)))]) [2, 3, 4, 5, 1, 0] rfl ?_
    exact wX9_worthOf_b11 _ ih _ _ _ _ _ _ _ _ hf
set_option maxHeartbeats 4000000 in
set_option maxRecDepth 100000 in
theorem wX9_worthOf {l : Launch} {Γ : Gx} {a0 : Nat} {x1 : Int32} {M : Mm} {q : Int64 × Mm} (hf : fX9_worthOf a0 x1 M = some q) : AM l Γ 2 yX9_worthOf cX9_worthOf 12 ((some .long)) [.ref a0, .int x1] M (some (.long q.1)) q.2 := by
  unfold fX9_worthOf at hf
  refine AM.of mfX9_worthOf (Nat.le_of_ble_eq_true rfl) ?_
  generalize mT M = t0
  generalize mW M = w0
  show AW _ _ _ _ _ _ _ _ _ 0 [(0, .ref a0), (1, .int x1)] [] _ _ _
  obtain ⟨u0, eu0, hf⟩ := bnd hf
  refine a_lconst (v := 0) dX9_worthOf_0 rfl ?_
  refine a_lstore_n (i := 2) (lv1 := [(2, .long ((0 : Int64))), (0, .ref a0), (1, .int x1)]) dX9_worthOf_1 rfl (by decide) rfl ?_
  refine a_iload_n dX9_worthOf_2 rfl 2 rfl ?_
  refine a_istore (i := 4) (lv1 := [(4, .int x1), (2, .long ((0 : Int64))), (0, .ref a0), (1, .int x1)]) dX9_worthOf_3 (by decide) rfl ?_
  refine AW.sub (lv1 := [(0, .ref a0), (1, .int x1), (2, .long ((0 : Int64))), (4, .int x1)]) [2, 3, 1, 0] rfl ?_
  exact wX9_worthOf_b5 _ _ _ _ _ _ hf
theorem kX9_worth {a0 : Nat} {x1 : Int32} {M : Mm} {q : Int64 × Mm} (hf : fX9_worth a0 x1 M = some q) : (mK M a0).1 = 10 := by
  unfold fX9_worth at hf
  obtain ⟨u0, eu0, -⟩ := bnd hf
  exact kc_of eu0
set_option maxHeartbeats 4000000 in
set_option maxRecDepth 100000 in
theorem wX9_worth {l : Launch} {Γ : Gx} {a0 : Nat} {x1 : Int32} {M : Mm} {q : Int64 × Mm} (hf : fX9_worth a0 x1 M = some q) : AM l Γ 3 yX9_worth cX9_worth 2 ((some .long)) [.ref a0, .int x1] M (some (.long q.1)) q.2 := by
  unfold fX9_worth at hf
  refine AM.of mfX9_worth (Nat.le_of_ble_eq_true rfl) ?_
  generalize mT M = t0
  generalize mW M = w0
  show AW _ _ _ _ _ _ _ _ _ 0 [(0, .ref a0), (1, .int x1)] [] _ _ _
  obtain ⟨u0, eu0, hf⟩ := bnd hf
  refine a_iload_n dX9_worth_0 rfl 1 rfl ?_
  refine a_if_lt dX9_worth_1 (tgt := 14) (by decide) (fun c9 => ?_) (fun c9 => ?_)
  · replace hf := iteT hf c9
    refine a_aload_n dX9_worth_14 rfl 0 rfl ?_
    refine a_iconst (v := -1) dX9_worth_15 (by decide) ?_
    obtain ⟨q1_, eq1_, hf⟩ := bnd hf
    refine a_callV (As := [.int ((-1 : Int32))]) (rest := []) dX9_worth_16 mfX9_no cvX9_122 (wX9_no eq1_) rc9 (kX9_no eq1_) (by decide) rfl rfl (Nat.le_of_ble_eq_true rfl) ?_
    refine a_i2l dX9_worth_19 ?_
    have e9 := Option.some.inj hf
    subst e9
    exact a_lret rfl dX9_worth_20 rfl
  · replace hf := iteF hf c9
    refine a_iload_n dX9_worth_4 rfl 1 rfl ?_
    refine a_iconst (v := 1) dX9_worth_5 (by decide) ?_
    refine a_aload_n dX9_worth_6 rfl 0 rfl ?_
    obtain ⟨v2_, ev2_, hf⟩ := bnd hf
    refine a_getI dX9_worth_7 flX9_115 rfl ev2_ ?_
    refine a_ishl dX9_worth_10 ?_
    refine a_icmp_lt dX9_worth_11 (tgt := 21) (by decide) (fun c9 => ?_) (fun c9 => ?_)
    · replace hf := iteT hf c9
      refine a_aload_n dX9_worth_21 rfl 0 rfl ?_
      obtain ⟨v3_, ev3_, hf⟩ := bnd hf
      refine a_getI dX9_worth_22 flX9_136 rfl ev3_ ?_
      refine a_aload_n dX9_worth_25 rfl 0 rfl ?_
      refine a_iload_n dX9_worth_26 rfl 1 rfl ?_
      obtain ⟨q4_, eq4_, hf⟩ := bnd hf
      refine a_callV (As := [.int x1]) (rest := [.int v3_]) dX9_worth_27 mfX9_count cvX9_262 (wX9_count eq4_) rc9 (kX9_count eq4_) (by decide) rfl rfl (Nat.le_of_ble_eq_true rfl) ?_
      refine a_iadd dX9_worth_30 ?_
      refine a_bipush (v := 17) dX9_worth_31 (by decide) ?_
      refine a_icmp_le dX9_worth_33 (tgt := 44) (by decide) (fun c9 => ?_) (fun c9 => ?_)
      · replace hf := iteT hf c9
        refine a_aload_n dX9_worth_44 rfl 0 rfl ?_
        refine a_iload_n dX9_worth_45 rfl 1 rfl ?_
        obtain ⟨q5_, eq5_, hf⟩ := bnd hf
        refine a_callV (As := [.int x1]) (rest := []) dX9_worth_46 mfX9_worthOf cvX9_265 (wX9_worthOf eq5_) rc9 (kX9_worthOf eq5_) (by decide) rfl rfl (Nat.le_of_ble_eq_true rfl) ?_
        have e9 := Option.some.inj hf
        subst e9
        exact a_lret rfl dX9_worth_49 rfl
      · replace hf := iteF hf c9
        refine a_aload_n dX9_worth_36 rfl 0 rfl ?_
        refine a_bipush (v := -7) dX9_worth_37 (by decide) ?_
        obtain ⟨q6_, eq6_, hf⟩ := bnd hf
        refine a_callV (As := [.int ((-7 : Int32))]) (rest := []) dX9_worth_39 mfX9_no cvX9_122 (wX9_no eq6_) rc9 (kX9_no eq6_) (by decide) rfl rfl (Nat.le_of_ble_eq_true rfl) ?_
        refine a_i2l dX9_worth_42 ?_
        have e9 := Option.some.inj hf
        subst e9
        exact a_lret rfl dX9_worth_43 rfl
    · replace hf := iteF hf c9
      refine a_aload_n dX9_worth_14 rfl 0 rfl ?_
      refine a_iconst (v := -1) dX9_worth_15 (by decide) ?_
      obtain ⟨q7_, eq7_, hf⟩ := bnd hf
      refine a_callV (As := [.int ((-1 : Int32))]) (rest := []) dX9_worth_16 mfX9_no cvX9_122 (wX9_no eq7_) rc9 (kX9_no eq7_) (by decide) rfl rfl (Nat.le_of_ble_eq_true rfl) ?_
      refine a_i2l dX9_worth_19 ?_
      have e9 := Option.some.inj hf
      subst e9
      exact a_lret rfl dX9_worth_20 rfl
theorem kX9_next {a0 : Nat} {M : Mm} {q : Int32 × Mm} (hf : fX9_next a0 M = some q) : (mK M a0).1 = 10 := by
  unfold fX9_next at hf
  obtain ⟨u0, eu0, -⟩ := bnd hf
  exact kc_of eu0
set_option maxHeartbeats 4000000 in
set_option maxRecDepth 100000 in
theorem wX9_next_b55 {l : Launch} {Γ : Gx} {t0 w0 : Nat} {q : Int32 × Mm} (k21 : Nat → Int32 → Int64 → Int32 → Mm → Option (Int32 × Mm)) (hk21 : ∀ (a0 : Nat) (x1 : Int32) (x2 : Int64) (x4 : Int32) (M : Mm), k21 a0 x1 x2 x4 M = some q → AW l Γ yX9_next cX9_next 7 ((some .int)) 3 t0 w0 21 [(0, .ref a0), (1, .int x1), (2, .long x2), (4, .int x4)] [] M (some (.int q.1)) q.2) (a0 : Nat) (x4 : Int32) (x5 : Int64) (M : Mm) (hf : fX9_next_b55 k21 a0 x4 x5 M = some q) : AW l Γ yX9_next cX9_next 7 ((some .int)) 3 t0 w0 55 [(0, .ref a0), (4, .int x4), (5, .long x5)] [] M (some (.int q.1)) q.2 := by
  unfold fX9_next_b55 at hf
  refine a_iload dX9_next_55 1 rfl ?_
  refine a_istore_n (i := 1) (lv1 := [(1, .int x4), (0, .ref a0), (4, .int x4), (5, .long x5)]) dX9_next_57 rfl (by decide) rfl ?_
  refine a_lload dX9_next_58 3 rfl ?_
  refine a_lstore_n (i := 2) (lv1 := [(2, .long x5), (1, .int x4), (0, .ref a0), (4, .int x4), (5, .long x5)]) dX9_next_60 rfl (by decide) rfl ?_
  refine a_iinc (v := x4 + (1 : Int32)) (lv1 := [(4, .int (x4 + (1 : Int32))), (2, .long x5), (1, .int x4), (0, .ref a0), (5, .long x5)]) dX9_next_61 3 rfl rfl (by decide) rfl ?_
  refine a_goto (tgt := 21) dX9_next_64 (by decide) ?_
  refine AW.sub (lv1 := [(0, .ref a0), (1, .int x4), (2, .long x5), (4, .int (x4 + (1 : Int32)))]) [3, 2, 1, 0] rfl ?_
  exact hk21 _ _ _ _ _ hf
set_option maxHeartbeats 4000000 in
set_option maxRecDepth 100000 in
theorem wX9_next_b21 {l : Launch} {Γ : Gx} {t0 w0 : Nat} {q : Int32 × Mm} : ∀ (n : Nat) (a0 : Nat) (x1 : Int32) (x2 : Int64) (x4 : Int32) (M : Mm), fX9_next_b21 n a0 x1 x2 x4 M = some q → AW l Γ yX9_next cX9_next 7 ((some .int)) 3 t0 w0 21 [(0, .ref a0), (1, .int x1), (2, .long x2), (4, .int x4)] [] M (some (.int q.1)) q.2 := by
  intro n
  induction n with
  | zero =>
    intro a0 x1 x2 x4 M hf
    cases hf
  | succ n ih =>
    intro a0 x1 x2 x4 M hf
    rw [fX9_next_b21.eq_2] at hf
    refine a_iload dX9_next_21 3 rfl ?_
    refine a_aload_n dX9_next_23 rfl 0 rfl ?_
    obtain ⟨v1_, ev1_, hf⟩ := bnd hf
    refine a_getI dX9_next_24 flX9_115 rfl ev1_ ?_
    refine a_icmp_ge dX9_next_27 (tgt := 67) (by decide) (fun c9 => ?_) (fun c9 => ?_)
    · replace hf := iteT hf c9
      refine a_iload_n dX9_next_67 rfl 1 rfl ?_
      have e9 := Option.some.inj hf
      subst e9
      exact a_iret rfl dX9_next_68 rfl
    · replace hf := iteF hf c9
      refine a_aload_n dX9_next_30 rfl 0 rfl ?_
      refine a_iconst (v := 1) dX9_next_31 (by decide) ?_
      refine a_iload dX9_next_32 3 rfl ?_
      refine a_ishl dX9_next_34 ?_
      obtain ⟨q2_, eq2_, hf⟩ := bnd hf
      refine a_callV (As := [.int (((1 : Int32)) <<< (x4 &&& 31))]) (rest := []) dX9_next_35 mfX9_worthOf cvX9_265 (wX9_worthOf eq2_) rc9 (kX9_worthOf eq2_) (by decide) rfl rfl (Nat.le_of_ble_eq_true rfl) ?_
      refine a_lstore (i := 5) (lv1 := [(5, .long q2_.1), (0, .ref a0), (1, .int x1), (2, .long x2), (4, .int x4)]) dX9_next_38 (by decide) rfl ?_
      refine a_iload_n dX9_next_40 rfl 2 rfl ?_
      refine a_iconst (v := -1) dX9_next_41 (by decide) ?_
      refine a_icmp_eq dX9_next_42 (tgt := 55) (by decide) (fun c9 => ?_) (fun c9 => ?_)
      · replace hf := iteT hf c9
        refine AW.sub (lv1 := [(0, .ref a0), (4, .int x4), (5, .long q2_.1)]) [1, 4, 0] rfl ?_
        exact wX9_next_b55 _ ih _ _ _ _ hf
      · replace hf := iteF hf c9
        refine a_lload dX9_next_45 0 rfl ?_
        refine a_lload_n dX9_next_47 rfl 3 rfl ?_
        refine a_lcmp_gt dX9_next_48 dX9_next_49 (tgt := 55) (by decide) (fun c9 => ?_) (fun c9 => ?_)
        · replace hf := iteT hf c9
          refine AW.sub (lv1 := [(0, .ref a0), (4, .int x4), (5, .long q2_.1)]) [1, 4, 0] rfl ?_
          exact wX9_next_b55 _ ih _ _ _ _ hf
        · replace hf := iteF hf c9
          refine a_goto (tgt := 61) dX9_next_52 (by decide) ?_
          refine a_iinc (v := x4 + (1 : Int32)) (lv1 := [(4, .int (x4 + (1 : Int32))), (5, .long q2_.1), (0, .ref a0), (1, .int x1), (2, .long x2)]) dX9_next_61 4 rfl rfl (by decide) rfl ?_
          refine a_goto (tgt := 21) dX9_next_64 (by decide) ?_
          refine AW.sub (lv1 := [(0, .ref a0), (1, .int x1), (2, .long x2), (4, .int (x4 + (1 : Int32)))]) [2, 3, 4, 0] rfl ?_
          exact ih _ _ _ _ _ hf
set_option maxHeartbeats 4000000 in
set_option maxRecDepth 100000 in
theorem wX9_next {l : Launch} {Γ : Gx} {a0 : Nat} {M : Mm} {q : Int32 × Mm} (hf : fX9_next a0 M = some q) : AM l Γ 3 yX9_next cX9_next 7 ((some .int)) [.ref a0] M (some (.int q.1)) q.2 := by
  unfold fX9_next at hf
  refine AM.of mfX9_next (Nat.le_of_ble_eq_true rfl) ?_
  generalize mT M = t0
  generalize mW M = w0
  show AW _ _ _ _ _ _ _ _ _ 0 [(0, .ref a0)] [] _ _ _
  obtain ⟨u0, eu0, hf⟩ := bnd hf
  refine a_aload_n dX9_next_0 rfl 0 rfl ?_
  obtain ⟨v1_, ev1_, hf⟩ := bnd hf
  refine a_getI dX9_next_1 flX9_115 rfl ev1_ ?_
  refine a_if_ne dX9_next_4 (tgt := 14) (by decide) (fun c9 => ?_) (fun c9 => ?_)
  · replace hf := iteF hf c9
    refine a_iconst (v := -1) dX9_next_14 (by decide) ?_
    refine a_istore_n (i := 1) (lv1 := [(1, .int ((-1 : Int32))), (0, .ref a0)]) dX9_next_15 rfl (by decide) rfl ?_
    refine a_lconst (v := 0) dX9_next_16 rfl ?_
    refine a_lstore_n (i := 2) (lv1 := [(2, .long ((0 : Int64))), (1, .int ((-1 : Int32))), (0, .ref a0)]) dX9_next_17 rfl (by decide) rfl ?_
    refine a_iconst (v := 0) dX9_next_18 (by decide) ?_
    refine a_istore (i := 4) (lv1 := [(4, .int ((0 : Int32))), (2, .long ((0 : Int64))), (1, .int ((-1 : Int32))), (0, .ref a0)]) dX9_next_19 (by decide) rfl ?_
    refine AW.sub (lv1 := [(0, .ref a0), (1, .int ((-1 : Int32))), (2, .long ((0 : Int64))), (4, .int ((0 : Int32)))]) [3, 2, 1, 0] rfl ?_
    exact wX9_next_b21 _ _ _ _ _ _ hf
  · replace hf := iteT hf c9
    refine a_aload_n dX9_next_7 rfl 0 rfl ?_
    refine a_bipush (v := -5) dX9_next_8 (by decide) ?_
    obtain ⟨q2_, eq2_, hf⟩ := bnd hf
    refine a_callV (As := [.int ((-5 : Int32))]) (rest := []) dX9_next_10 mfX9_no cvX9_122 (wX9_no eq2_) rc9 (kX9_no eq2_) (by decide) rfl rfl (Nat.le_of_ble_eq_true rfl) ?_
    have e9 := Option.some.inj hf
    subst e9
    exact a_iret rfl dX9_next_13 rfl
theorem kX9_behind {a0 : Nat} {x1 : Int32} {x2 : Int32} {x3 : Int32} {M : Mm} {q : Int64 × Mm} (hf : fX9_behind a0 x1 x2 x3 M = some q) : (mK M a0).1 = 10 := by
  unfold fX9_behind at hf
  obtain ⟨u0, eu0, -⟩ := bnd hf
  exact kc_of eu0
set_option maxHeartbeats 4000000 in
set_option maxRecDepth 100000 in
theorem wX9_behind_b94 {l : Launch} {Γ : Gx} {t0 w0 : Nat} {q : Int64 × Mm} (k6 : Nat → Int32 → Int32 → Int32 → Int64 → Int32 → Mm → Option (Int64 × Mm)) (hk6 : ∀ (a0 : Nat) (x1 : Int32) (x2 : Int32) (x3 : Int32) (x4 : Int64) (x6 : Int32) (M : Mm), k6 a0 x1 x2 x3 x4 x6 M = some q → AW l Γ yX9_behind cX9_behind 14 ((some .long)) 2 t0 w0 6 [(0, .ref a0), (1, .int x1), (2, .int x2), (3, .int x3), (4, .long x4), (6, .int x6)] [] M (some (.long q.1)) q.2) (k18 : Nat → Int32 → Int32 → Int32 → Int64 → Int32 → Int64 → Int32 → Mm → Option (Int64 × Mm)) (hk18 : ∀ (a0 : Nat) (x1 : Int32) (x2 : Int32) (x3 : Int32) (x4 : Int64) (x6 : Int32) (x7 : Int64) (x9 : Int32) (M : Mm), k18 a0 x1 x2 x3 x4 x6 x7 x9 M = some q → AW l Γ yX9_behind cX9_behind 14 ((some .long)) 2 t0 w0 18 [(0, .ref a0), (1, .int x1), (2, .int x2), (3, .int x3), (4, .long x4), (6, .int x6), (7, .long x7), (9, .int x9)] [] M (some (.long q.1)) q.2) (a0 : Nat) (x1 : Int32) (x2 : Int32) (x3 : Int32) (x4 : Int64) (x6 : Int32) (x7 : Int64) (x9 : Int32) (s0 : Int64) (s1 : Int32) (M : Mm) (hf : fX9_behind_b94 k6 k18 a0 x1 x2 x3 x4 x6 x7 x9 s0 s1 M = some q) : AW l Γ yX9_behind cX9_behind 14 ((some .long)) 2 t0 w0 94 [(0, .ref a0), (1, .int x1), (2, .int x2), (3, .int x3), (4, .long x4), (6, .int x6), (7, .long x7), (9, .int x9)] [.int s1, .long s0] M (some (.long q.1)) q.2 := by
  unfold fX9_behind_b94 at hf
  refine a_i2l dX9_behind_94 ?_
  refine a_lmul dX9_behind_95 ?_
  refine a_lstore (i := 12) (lv1 := [(12, .long (s0 * s1.toInt64)), (0, .ref a0), (1, .int x1), (2, .int x2), (3, .int x3), (4, .long x4), (6, .int x6), (7, .long x7), (9, .int x9)]) dX9_behind_96 (by decide) rfl ?_
  refine a_lload dX9_behind_98 0 rfl ?_
  refine a_lload dX9_behind_100 7 rfl ?_
  refine a_lcmp_le dX9_behind_102 dX9_behind_103 (tgt := 111) (by decide) (fun c9 => ?_) (fun c9 => ?_)
  · replace hf := iteT hf c9
    refine a_lload dX9_behind_111 7 rfl ?_
    refine a_lstore (i := 7) (lv1 := [(7, .long x7), (12, .long (s0 * s1.toInt64)), (0, .ref a0), (1, .int x1), (2, .int x2), (3, .int x3), (4, .long x4), (6, .int x6), (9, .int x9)]) dX9_behind_113 (by decide) rfl ?_
    refine a_iinc (v := x9 + (1 : Int32)) (lv1 := [(9, .int (x9 + (1 : Int32))), (7, .long x7), (12, .long (s0 * s1.toInt64)), (0, .ref a0), (1, .int x1), (2, .int x2), (3, .int x3), (4, .long x4), (6, .int x6)]) dX9_behind_115 8 rfl rfl (by decide) rfl ?_
    refine a_goto (tgt := 18) dX9_behind_118 (by decide) ?_
    refine AW.sub (lv1 := [(0, .ref a0), (1, .int x1), (2, .int x2), (3, .int x3), (4, .long x4), (6, .int x6), (7, .long x7), (9, .int (x9 + (1 : Int32)))]) [3, 4, 5, 6, 7, 8, 1, 0] rfl ?_
    exact hk18 _ _ _ _ _ _ _ _ _ hf
  · replace hf := iteF hf c9
    refine a_lload dX9_behind_106 0 rfl ?_
    refine a_goto (tgt := 113) dX9_behind_108 (by decide) ?_
    refine a_lstore (i := 7) (lv1 := [(7, .long (s0 * s1.toInt64)), (12, .long (s0 * s1.toInt64)), (0, .ref a0), (1, .int x1), (2, .int x2), (3, .int x3), (4, .long x4), (6, .int x6), (9, .int x9)]) dX9_behind_113 (by decide) rfl ?_
    refine a_iinc (v := x9 + (1 : Int32)) (lv1 := [(9, .int (x9 + (1 : Int32))), (7, .long (s0 * s1.toInt64)), (12, .long (s0 * s1.toInt64)), (0, .ref a0), (1, .int x1), (2, .int x2), (3, .int x3), (4, .long x4), (6, .int x6)]) dX9_behind_115 8 rfl rfl (by decide) rfl ?_
    refine a_goto (tgt := 18) dX9_behind_118 (by decide) ?_
    refine AW.sub (lv1 := [(0, .ref a0), (1, .int x1), (2, .int x2), (3, .int x3), (4, .long x4), (6, .int x6), (7, .long (s0 * s1.toInt64)), (9, .int (x9 + (1 : Int32)))]) [3, 4, 5, 6, 7, 8, 1, 0] rfl ?_
    exact hk18 _ _ _ _ _ _ _ _ _ hf
set_option maxHeartbeats 4000000 in
set_option maxRecDepth 100000 in
theorem wX9_behind_b76 {l : Launch} {Γ : Gx} {t0 w0 : Nat} {q : Int64 × Mm} (k6 : Nat → Int32 → Int32 → Int32 → Int64 → Int32 → Mm → Option (Int64 × Mm)) (hk6 : ∀ (a0 : Nat) (x1 : Int32) (x2 : Int32) (x3 : Int32) (x4 : Int64) (x6 : Int32) (M : Mm), k6 a0 x1 x2 x3 x4 x6 M = some q → AW l Γ yX9_behind cX9_behind 14 ((some .long)) 2 t0 w0 6 [(0, .ref a0), (1, .int x1), (2, .int x2), (3, .int x3), (4, .long x4), (6, .int x6)] [] M (some (.long q.1)) q.2) (k18 : Nat → Int32 → Int32 → Int32 → Int64 → Int32 → Int64 → Int32 → Mm → Option (Int64 × Mm)) (hk18 : ∀ (a0 : Nat) (x1 : Int32) (x2 : Int32) (x3 : Int32) (x4 : Int64) (x6 : Int32) (x7 : Int64) (x9 : Int32) (M : Mm), k18 a0 x1 x2 x3 x4 x6 x7 x9 M = some q → AW l Γ yX9_behind cX9_behind 14 ((some .long)) 2 t0 w0 18 [(0, .ref a0), (1, .int x1), (2, .int x2), (3, .int x3), (4, .long x4), (6, .int x6), (7, .long x7), (9, .int x9)] [] M (some (.long q.1)) q.2) (a0 : Nat) (x1 : Int32) (x2 : Int32) (x3 : Int32) (x4 : Int64) (x6 : Int32) (x7 : Int64) (x9 : Int32) (x11 : Int32) (s0 : Int64) (s1 : Int32) (M : Mm) (hf : fX9_behind_b76 k6 k18 a0 x1 x2 x3 x4 x6 x7 x9 x11 s0 s1 M = some q) : AW l Γ yX9_behind cX9_behind 14 ((some .long)) 2 t0 w0 76 [(0, .ref a0), (1, .int x1), (2, .int x2), (3, .int x3), (4, .long x4), (6, .int x6), (7, .long x7), (9, .int x9), (11, .int x11)] [.int s1, .long s0] M (some (.long q.1)) q.2 := by
  unfold fX9_behind_b76 at hf
  refine a_i2l dX9_behind_76 ?_
  refine a_lmul dX9_behind_77 ?_
  refine a_iload dX9_behind_78 5 rfl ?_
  refine a_iconst (v := 1) dX9_behind_80 (by decide) ?_
  refine a_icmp_ne dX9_behind_81 (tgt := 89) (by decide) (fun c9 => ?_) (fun c9 => ?_)
  · replace hf := iteF hf c9
    refine a_bipush (v := 10) dX9_behind_89 (by decide) ?_
    refine a_iload dX9_behind_91 8 rfl ?_
    refine a_isub dX9_behind_93 ?_
    refine AW.sub (lv1 := [(0, .ref a0), (1, .int x1), (2, .int x2), (3, .int x3), (4, .long x4), (6, .int x6), (7, .long x7), (9, .int x9)]) [0, 1, 2, 3, 4, 5, 6, 7] rfl ?_
    exact wX9_behind_b94 _ hk6 _ hk18 _ _ _ _ _ _ _ _ _ _ _ hf
  · replace hf := iteT hf c9
    refine a_iload dX9_behind_84 8 rfl ?_
    refine a_goto (tgt := 94) dX9_behind_86 (by decide) ?_
    refine AW.sub (lv1 := [(0, .ref a0), (1, .int x1), (2, .int x2), (3, .int x3), (4, .long x4), (6, .int x6), (7, .long x7), (9, .int x9)]) [0, 1, 2, 3, 4, 5, 6, 7] rfl ?_
    exact wX9_behind_b94 _ hk6 _ hk18 _ _ _ _ _ _ _ _ _ _ _ hf
set_option maxHeartbeats 4000000 in
set_option maxRecDepth 100000 in
theorem wX9_behind_b52 {l : Launch} {Γ : Gx} {t0 w0 : Nat} {q : Int64 × Mm} (k6 : Nat → Int32 → Int32 → Int32 → Int64 → Int32 → Mm → Option (Int64 × Mm)) (hk6 : ∀ (a0 : Nat) (x1 : Int32) (x2 : Int32) (x3 : Int32) (x4 : Int64) (x6 : Int32) (M : Mm), k6 a0 x1 x2 x3 x4 x6 M = some q → AW l Γ yX9_behind cX9_behind 14 ((some .long)) 2 t0 w0 6 [(0, .ref a0), (1, .int x1), (2, .int x2), (3, .int x3), (4, .long x4), (6, .int x6)] [] M (some (.long q.1)) q.2) (k18 : Nat → Int32 → Int32 → Int32 → Int64 → Int32 → Int64 → Int32 → Mm → Option (Int64 × Mm)) (hk18 : ∀ (a0 : Nat) (x1 : Int32) (x2 : Int32) (x3 : Int32) (x4 : Int64) (x6 : Int32) (x7 : Int64) (x9 : Int32) (M : Mm), k18 a0 x1 x2 x3 x4 x6 x7 x9 M = some q → AW l Γ yX9_behind cX9_behind 14 ((some .long)) 2 t0 w0 18 [(0, .ref a0), (1, .int x1), (2, .int x2), (3, .int x3), (4, .long x4), (6, .int x6), (7, .long x7), (9, .int x9)] [] M (some (.long q.1)) q.2) (a0 : Nat) (x1 : Int32) (x2 : Int32) (x3 : Int32) (x4 : Int64) (x6 : Int32) (x7 : Int64) (x9 : Int32) (x10 : Int32) (s0 : Int32) (M : Mm) (hf : fX9_behind_b52 k6 k18 a0 x1 x2 x3 x4 x6 x7 x9 x10 s0 M = some q) : AW l Γ yX9_behind cX9_behind 14 ((some .long)) 2 t0 w0 52 [(0, .ref a0), (1, .int x1), (2, .int x2), (3, .int x3), (4, .long x4), (6, .int x6), (7, .long x7), (9, .int x9), (10, .int x10)] [.int s0] M (some (.long q.1)) q.2 := by
  unfold fX9_behind_b52 at hf
  refine a_istore (i := 11) (lv1 := [(11, .int s0), (0, .ref a0), (1, .int x1), (2, .int x2), (3, .int x3), (4, .long x4), (6, .int x6), (7, .long x7), (9, .int x9), (10, .int x10)]) dX9_behind_52 (by decide) rfl ?_
  refine a_aload_n dX9_behind_54 rfl 1 rfl ?_
  obtain ⟨o1_, eo1_, hf⟩ := bnd hf
  refine a_getR dX9_behind_55 flX9_56 rfl eo1_ ?_
  refine a_iload dX9_behind_58 8 rfl ?_
  obtain ⟨v2_, ev2_, hf⟩ := bnd hf
  refine a_lald dX9_behind_60 ev2_ ?_
  refine a_iload_n dX9_behind_61 rfl 3 rfl ?_
  refine a_iconst (v := 1) dX9_behind_62 (by decide) ?_
  refine a_icmp_ne dX9_behind_63 (tgt := 71) (by decide) (fun c9 => ?_) (fun c9 => ?_)
  · replace hf := iteF hf c9
    refine a_bipush (v := 10) dX9_behind_71 (by decide) ?_
    refine a_iload dX9_behind_73 9 rfl ?_
    refine a_isub dX9_behind_75 ?_
    refine AW.sub (lv1 := [(0, .ref a0), (1, .int x1), (2, .int x2), (3, .int x3), (4, .long x4), (6, .int x6), (7, .long x7), (9, .int x9), (11, .int s0)]) [1, 2, 3, 4, 5, 6, 7, 8, 0] rfl ?_
    exact wX9_behind_b76 _ hk6 _ hk18 _ _ _ _ _ _ _ _ _ _ _ _ hf
  · replace hf := iteT hf c9
    refine a_iload dX9_behind_66 9 rfl ?_
    refine a_goto (tgt := 76) dX9_behind_68 (by decide) ?_
    refine AW.sub (lv1 := [(0, .ref a0), (1, .int x1), (2, .int x2), (3, .int x3), (4, .long x4), (6, .int x6), (7, .long x7), (9, .int x9), (11, .int s0)]) [1, 2, 3, 4, 5, 6, 7, 8, 0] rfl ?_
    exact wX9_behind_b76 _ hk6 _ hk18 _ _ _ _ _ _ _ _ _ _ _ _ hf
set_option maxHeartbeats 4000000 in
set_option maxRecDepth 100000 in
theorem wX9_behind_b18 {l : Launch} {Γ : Gx} {t0 w0 : Nat} {q : Int64 × Mm} (k6 : Nat → Int32 → Int32 → Int32 → Int64 → Int32 → Mm → Option (Int64 × Mm)) (hk6 : ∀ (a0 : Nat) (x1 : Int32) (x2 : Int32) (x3 : Int32) (x4 : Int64) (x6 : Int32) (M : Mm), k6 a0 x1 x2 x3 x4 x6 M = some q → AW l Γ yX9_behind cX9_behind 14 ((some .long)) 2 t0 w0 6 [(0, .ref a0), (1, .int x1), (2, .int x2), (3, .int x3), (4, .long x4), (6, .int x6)] [] M (some (.long q.1)) q.2) : ∀ (n : Nat) (a0 : Nat) (x1 : Int32) (x2 : Int32) (x3 : Int32) (x4 : Int64) (x6 : Int32) (x7 : Int64) (x9 : Int32) (M : Mm), fX9_behind_b18 k6 n a0 x1 x2 x3 x4 x6 x7 x9 M = some q → AW l Γ yX9_behind cX9_behind 14 ((some .long)) 2 t0 w0 18 [(0, .ref a0), (1, .int x1), (2, .int x2), (3, .int x3), (4, .long x4), (6, .int x6), (7, .long x7), (9, .int x9)] [] M (some (.long q.1)) q.2 := by
  intro n
  induction n with
  | zero =>
    intro a0 x1 x2 x3 x4 x6 x7 x9 M hf
    cases hf
  | succ n ih =>
    intro a0 x1 x2 x3 x4 x6 x7 x9 M hf
    rw [fX9_behind_b18.eq_2] at hf
    refine a_iload dX9_behind_18 7 rfl ?_
    refine a_aload_n dX9_behind_20 rfl 0 rfl ?_
    obtain ⟨v1_, ev1_, hf⟩ := bnd hf
    refine a_getI dX9_behind_21 flX9_7 rfl ev1_ ?_
    refine a_icmp_ge dX9_behind_24 (tgt := 121) (by decide) (fun c9 => ?_) (fun c9 => ?_)
    · replace hf := iteT hf c9
      refine a_lload dX9_behind_121 4 rfl ?_
      refine a_lload dX9_behind_123 6 rfl ?_
      refine a_ladd dX9_behind_125 ?_
      refine a_lstore (i := 4) (lv1 := [(4, .long (x4 + x7)), (0, .ref a0), (1, .int x1), (2, .int x2), (3, .int x3), (6, .int x6), (7, .long x7), (9, .int x9)]) dX9_behind_126 (by decide) rfl ?_
      refine a_iinc (v := x6 + (1 : Int32)) (lv1 := [(6, .int (x6 + (1 : Int32))), (4, .long (x4 + x7)), (0, .ref a0), (1, .int x1), (2, .int x2), (3, .int x3), (7, .long x7), (9, .int x9)]) dX9_behind_128 5 rfl rfl (by decide) rfl ?_
      refine a_goto (tgt := 6) dX9_behind_131 (by decide) ?_
      refine AW.sub (lv1 := [(0, .ref a0), (1, .int x1), (2, .int x2), (3, .int x3), (4, .long (x4 + x7)), (6, .int (x6 + (1 : Int32)))]) [2, 3, 4, 5, 1, 0] rfl ?_
      exact hk6 _ _ _ _ _ _ _ hf
    · replace hf := iteF hf c9
      refine a_aload_n dX9_behind_27 rfl 0 rfl ?_
      refine a_iload_n dX9_behind_28 rfl 1 rfl ?_
      refine a_iload dX9_behind_29 7 rfl ?_
      obtain ⟨q2_, eq2_, hf⟩ := bnd hf
      refine a_callV (As := [.int x1, .int x9]) (rest := []) dX9_behind_31 mfX9_strengthOf cvX9_132 (wX9_strengthOf eq2_) rc9 (kX9_strengthOf eq2_) (by decide) rfl rfl (Nat.le_of_ble_eq_true rfl) ?_
      refine a_istore (i := 10) (lv1 := [(10, .int q2_.1), (0, .ref a0), (1, .int x1), (2, .int x2), (3, .int x3), (4, .long x4), (6, .int x6), (7, .long x7), (9, .int x9)]) dX9_behind_34 (by decide) rfl ?_
      refine a_iload_n dX9_behind_36 rfl 4 rfl ?_
      refine a_iconst (v := -1) dX9_behind_37 (by decide) ?_
      refine a_icmp_ne dX9_behind_38 (tgt := 45) (by decide) (fun c9 => ?_) (fun c9 => ?_)
      · replace hf := iteF hf c9
        refine a_aload_n dX9_behind_45 rfl 1 rfl ?_
        refine a_iload_n dX9_behind_46 rfl 4 rfl ?_
        refine a_iload dX9_behind_47 8 rfl ?_
        obtain ⟨q3_, eq3_, hf⟩ := bnd hf
        refine a_callV (As := [.int x3, .int x9]) (rest := []) dX9_behind_49 mfX9_strengthOf cvX9_132 (wX9_strengthOf eq3_) rc9 (kX9_strengthOf eq3_) (by decide) rfl rfl (Nat.le_of_ble_eq_true rfl) ?_
        refine AW.sub (lv1 := [(0, .ref a0), (1, .int x1), (2, .int x2), (3, .int x3), (4, .long x4), (6, .int x6), (7, .long x7), (9, .int x9), (10, .int q2_.1)]) [1, 2, 3, 4, 5, 6, 7, 8, 0] rfl ?_
        exact wX9_behind_b52 _ hk6 _ ih _ _ _ _ _ _ _ _ _ _ _ hf
      · replace hf := iteT hf c9
        refine a_iconst (v := 5) dX9_behind_41 (by decide) ?_
        refine a_goto (tgt := 52) dX9_behind_42 (by decide) ?_
        refine AW.sub (lv1 := [(0, .ref a0), (1, .int x1), (2, .int x2), (3, .int x3), (4, .long x4), (6, .int x6), (7, .long x7), (9, .int x9), (10, .int q2_.1)]) [1, 2, 3, 4, 5, 6, 7, 8, 0] rfl ?_
        exact wX9_behind_b52 _ hk6 _ ih _ _ _ _ _ _ _ _ _ _ _ hf
set_option maxHeartbeats 4000000 in
set_option maxRecDepth 100000 in
theorem wX9_behind_b6 {l : Launch} {Γ : Gx} {t0 w0 : Nat} {q : Int64 × Mm} : ∀ (n : Nat) (a0 : Nat) (x1 : Int32) (x2 : Int32) (x3 : Int32) (x4 : Int64) (x6 : Int32) (M : Mm), fX9_behind_b6 n a0 x1 x2 x3 x4 x6 M = some q → AW l Γ yX9_behind cX9_behind 14 ((some .long)) 2 t0 w0 6 [(0, .ref a0), (1, .int x1), (2, .int x2), (3, .int x3), (4, .long x4), (6, .int x6)] [] M (some (.long q.1)) q.2 := by
  intro n
  induction n with
  | zero =>
    intro a0 x1 x2 x3 x4 x6 M hf
    cases hf
  | succ n ih =>
    intro a0 x1 x2 x3 x4 x6 M hf
    rw [fX9_behind_b6.eq_2] at hf
    refine a_iload dX9_behind_6 5 rfl ?_
    refine a_iconst (v := 2) dX9_behind_8 (by decide) ?_
    refine a_icmp_ge dX9_behind_9 (tgt := 134) (by decide) (fun c9 => ?_) (fun c9 => ?_)
    · replace hf := iteT hf c9
      refine a_lload dX9_behind_134 4 rfl ?_
      have e9 := Option.some.inj hf
      subst e9
      exact a_lret rfl dX9_behind_136 rfl
    · replace hf := iteF hf c9
      refine a_lconst (v := 0) dX9_behind_12 rfl ?_
      refine a_lstore (i := 7) (lv1 := [(7, .long ((0 : Int64))), (0, .ref a0), (1, .int x1), (2, .int x2), (3, .int x3), (4, .long x4), (6, .int x6)]) dX9_behind_13 (by decide) rfl ?_
      refine a_iconst (v := 0) dX9_behind_15 (by decide) ?_
      refine a_istore (i := 9) (lv1 := [(9, .int ((0 : Int32))), (7, .long ((0 : Int64))), (0, .ref a0), (1, .int x1), (2, .int x2), (3, .int x3), (4, .long x4), (6, .int x6)]) dX9_behind_16 (by decide) rfl ?_
      refine AW.sub (lv1 := [(0, .ref a0), (1, .int x1), (2, .int x2), (3, .int x3), (4, .long x4), (6, .int x6), (7, .long ((0 : Int64))), (9, .int ((0 : Int32)))]) [2, 3, 4, 5, 6, 7, 1, 0] rfl ?_
      exact wX9_behind_b18 _ ih _ _ _ _ _ _ _ _ _ _ hf
set_option maxHeartbeats 4000000 in
set_option maxRecDepth 100000 in
theorem wX9_behind {l : Launch} {Γ : Gx} {a0 : Nat} {x1 : Int32} {x2 : Int32} {x3 : Int32} {M : Mm} {q : Int64 × Mm} (hf : fX9_behind a0 x1 x2 x3 M = some q) : AM l Γ 2 yX9_behind cX9_behind 14 ((some .long)) [.ref a0, .int x1, .int x2, .int x3] M (some (.long q.1)) q.2 := by
  unfold fX9_behind at hf
  refine AM.of mfX9_behind (Nat.le_of_ble_eq_true rfl) ?_
  generalize mT M = t0
  generalize mW M = w0
  show AW _ _ _ _ _ _ _ _ _ 0 [(0, .ref a0), (1, .int x1), (2, .int x2), (3, .int x3)] [] _ _ _
  obtain ⟨u0, eu0, hf⟩ := bnd hf
  refine a_lconst (v := 0) dX9_behind_0 rfl ?_
  refine a_lstore (i := 4) (lv1 := [(4, .long ((0 : Int64))), (0, .ref a0), (1, .int x1), (2, .int x2), (3, .int x3)]) dX9_behind_1 (by decide) rfl ?_
  refine a_iconst (v := 0) dX9_behind_3 (by decide) ?_
  refine a_istore (i := 6) (lv1 := [(6, .int ((0 : Int32))), (4, .long ((0 : Int64))), (0, .ref a0), (1, .int x1), (2, .int x2), (3, .int x3)]) dX9_behind_4 (by decide) rfl ?_
  refine AW.sub (lv1 := [(0, .ref a0), (1, .int x1), (2, .int x2), (3, .int x3), (4, .long ((0 : Int64))), (6, .int ((0 : Int32)))]) [2, 3, 4, 5, 1, 0] rfl ?_
  exact wX9_behind_b6 _ _ _ _ _ _ _ _ hf
theorem kX9_ahead {a0 : Nat} {M : Mm} {q : Int32 × Mm} (hf : fX9_ahead a0 M = some q) : (mK M a0).1 = 10 := by
  unfold fX9_ahead at hf
  obtain ⟨u0, eu0, -⟩ := bnd hf
  exact kc_of eu0
set_option maxHeartbeats 4000000 in
set_option maxRecDepth 100000 in
theorem wX9_ahead_b154 {l : Launch} {Γ : Gx} {t0 w0 : Nat} {q : Int32 × Mm} (k37 : Nat → Int32 → Int64 → Int32 → Mm → Option (Int32 × Mm)) (hk37 : ∀ (a0 : Nat) (x1 : Int32) (x2 : Int64) (x4 : Int32) (M : Mm), k37 a0 x1 x2 x4 M = some q → AW l Γ yX9_ahead cX9_ahead 13 ((some .int)) 3 t0 w0 37 [(0, .ref a0), (1, .int x1), (2, .long x2), (4, .int x4)] [] M (some (.int q.1)) q.2) (a0 : Nat) (x4 : Int32) (x5 : Int64) (M : Mm) (hf : fX9_ahead_b154 k37 a0 x4 x5 M = some q) : AW l Γ yX9_ahead cX9_ahead 13 ((some .int)) 3 t0 w0 154 [(0, .ref a0), (4, .int x4), (5, .long x5)] [] M (some (.int q.1)) q.2 := by
  unfold fX9_ahead_b154 at hf
  refine a_iload dX9_ahead_154 1 rfl ?_
  refine a_istore_n (i := 1) (lv1 := [(1, .int x4), (0, .ref a0), (4, .int x4), (5, .long x5)]) dX9_ahead_156 rfl (by decide) rfl ?_
  refine a_lload dX9_ahead_157 3 rfl ?_
  refine a_lstore_n (i := 2) (lv1 := [(2, .long x5), (1, .int x4), (0, .ref a0), (4, .int x4), (5, .long x5)]) dX9_ahead_159 rfl (by decide) rfl ?_
  refine a_iinc (v := x4 + (1 : Int32)) (lv1 := [(4, .int (x4 + (1 : Int32))), (2, .long x5), (1, .int x4), (0, .ref a0), (5, .long x5)]) dX9_ahead_160 3 rfl rfl (by decide) rfl ?_
  refine a_goto (tgt := 37) dX9_ahead_163 (by decide) ?_
  refine AW.sub (lv1 := [(0, .ref a0), (1, .int x4), (2, .long x5), (4, .int (x4 + (1 : Int32)))]) [3, 2, 1, 0] rfl ?_
  exact hk37 _ _ _ _ _ hf
set_option maxHeartbeats 4000000 in
set_option maxRecDepth 100000 in
theorem wX9_ahead_b72 {l : Launch} {Γ : Gx} {t0 w0 : Nat} {q : Int32 × Mm} (k37 : Nat → Int32 → Int64 → Int32 → Mm → Option (Int32 × Mm)) (hk37 : ∀ (a0 : Nat) (x1 : Int32) (x2 : Int64) (x4 : Int32) (M : Mm), k37 a0 x1 x2 x4 M = some q → AW l Γ yX9_ahead cX9_ahead 13 ((some .int)) 3 t0 w0 37 [(0, .ref a0), (1, .int x1), (2, .long x2), (4, .int x4)] [] M (some (.int q.1)) q.2) (k52 : Nat → Int32 → Int64 → Int32 → Int64 → Int32 → Mm → Option (Int32 × Mm)) (hk52 : ∀ (a0 : Nat) (x1 : Int32) (x2 : Int64) (x4 : Int32) (x5 : Int64) (x7 : Int32) (M : Mm), k52 a0 x1 x2 x4 x5 x7 M = some q → AW l Γ yX9_ahead cX9_ahead 13 ((some .int)) 3 t0 w0 52 [(0, .ref a0), (1, .int x1), (2, .long x2), (4, .int x4), (5, .long x5), (7, .int x7)] [] M (some (.int q.1)) q.2) : ∀ (n : Nat) (a0 : Nat) (x1 : Int32) (x2 : Int64) (x4 : Int32) (x5 : Int64) (x7 : Int32) (x8 : Int64) (x10 : Int32) (M : Mm), fX9_ahead_b72 k37 k52 n a0 x1 x2 x4 x5 x7 x8 x10 M = some q → AW l Γ yX9_ahead cX9_ahead 13 ((some .int)) 3 t0 w0 72 [(0, .ref a0), (1, .int x1), (2, .long x2), (4, .int x4), (5, .long x5), (7, .int x7), (8, .long x8), (10, .int x10)] [] M (some (.int q.1)) q.2 := by
  intro n
  induction n with
  | zero =>
    intro a0 x1 x2 x4 x5 x7 x8 x10 M hf
    cases hf
  | succ n ih =>
    intro a0 x1 x2 x4 x5 x7 x8 x10 M hf
    rw [fX9_ahead_b72.eq_2] at hf
    refine a_iload dX9_ahead_72 7 rfl ?_
    refine a_aload_n dX9_ahead_74 rfl 0 rfl ?_
    obtain ⟨v1_, ev1_, hf⟩ := bnd hf
    refine a_getI dX9_ahead_75 flX9_115 rfl ev1_ ?_
    refine a_icmp_ge dX9_ahead_78 (tgt := 126) (by decide) (fun c9 => ?_) (fun c9 => ?_)
    · replace hf := iteT hf c9
      refine a_lload dX9_ahead_126 4 rfl ?_
      refine a_lload dX9_ahead_128 6 rfl ?_
      refine a_ladd dX9_ahead_130 ?_
      refine a_lstore (i := 5) (lv1 := [(5, .long (x5 + x8)), (0, .ref a0), (1, .int x1), (2, .long x2), (4, .int x4), (7, .int x7), (8, .long x8), (10, .int x10)]) dX9_ahead_131 (by decide) rfl ?_
      refine a_iinc (v := x7 + (1 : Int32)) (lv1 := [(7, .int (x7 + (1 : Int32))), (5, .long (x5 + x8)), (0, .ref a0), (1, .int x1), (2, .long x2), (4, .int x4), (8, .long x8), (10, .int x10)]) dX9_ahead_133 5 rfl rfl (by decide) rfl ?_
      refine a_goto (tgt := 52) dX9_ahead_136 (by decide) ?_
      refine AW.sub (lv1 := [(0, .ref a0), (1, .int x1), (2, .long x2), (4, .int x4), (5, .long (x5 + x8)), (7, .int (x7 + (1 : Int32)))]) [2, 3, 4, 5, 1, 0] rfl ?_
      exact hk52 _ _ _ _ _ _ _ hf
    · replace hf := iteF hf c9
      refine a_iload dX9_ahead_81 7 rfl ?_
      refine a_iload dX9_ahead_83 3 rfl ?_
      refine a_icmp_ne dX9_ahead_85 (tgt := 91) (by decide) (fun c9 => ?_) (fun c9 => ?_)
      · replace hf := iteF hf c9
        refine a_aload_n dX9_ahead_91 rfl 0 rfl ?_
        refine a_iload dX9_ahead_92 3 rfl ?_
        refine a_iload dX9_ahead_94 5 rfl ?_
        refine a_iload dX9_ahead_96 7 rfl ?_
        obtain ⟨q2_, eq2_, hf⟩ := bnd hf
        refine a_callV (As := [.int x4, .int x7, .int x10]) (rest := []) dX9_ahead_98 mfX9_behind cvX9_269 (wX9_behind eq2_) rc9 (kX9_behind eq2_) (by decide) rfl rfl (Nat.le_of_ble_eq_true rfl) ?_
        refine a_lstore (i := 11) (lv1 := [(11, .long q2_.1), (0, .ref a0), (1, .int x1), (2, .long x2), (4, .int x4), (5, .long x5), (7, .int x7), (8, .long x8), (10, .int x10)]) dX9_ahead_101 (by decide) rfl ?_
        refine a_lload dX9_ahead_103 0 rfl ?_
        refine a_lload dX9_ahead_105 7 rfl ?_
        refine a_lcmp_le dX9_ahead_107 dX9_ahead_108 (tgt := 116) (by decide) (fun c9 => ?_) (fun c9 => ?_)
        · replace hf := iteT hf c9
          refine a_lload dX9_ahead_116 7 rfl ?_
          refine a_lstore (i := 8) (lv1 := [(8, .long x8), (11, .long q2_.1), (0, .ref a0), (1, .int x1), (2, .long x2), (4, .int x4), (5, .long x5), (7, .int x7), (10, .int x10)]) dX9_ahead_118 (by decide) rfl ?_
          refine a_iinc (v := x10 + (1 : Int32)) (lv1 := [(10, .int (x10 + (1 : Int32))), (8, .long x8), (11, .long q2_.1), (0, .ref a0), (1, .int x1), (2, .long x2), (4, .int x4), (5, .long x5), (7, .int x7)]) dX9_ahead_120 8 rfl rfl (by decide) rfl ?_
          refine a_goto (tgt := 72) dX9_ahead_123 (by decide) ?_
          refine AW.sub (lv1 := [(0, .ref a0), (1, .int x1), (2, .long x2), (4, .int x4), (5, .long x5), (7, .int x7), (8, .long x8), (10, .int (x10 + (1 : Int32)))]) [3, 4, 5, 6, 7, 8, 1, 0] rfl ?_
          exact ih _ _ _ _ _ _ _ _ _ hf
        · replace hf := iteF hf c9
          refine a_lload dX9_ahead_111 0 rfl ?_
          refine a_goto (tgt := 118) dX9_ahead_113 (by decide) ?_
          refine a_lstore (i := 8) (lv1 := [(8, .long q2_.1), (11, .long q2_.1), (0, .ref a0), (1, .int x1), (2, .long x2), (4, .int x4), (5, .long x5), (7, .int x7), (10, .int x10)]) dX9_ahead_118 (by decide) rfl ?_
          refine a_iinc (v := x10 + (1 : Int32)) (lv1 := [(10, .int (x10 + (1 : Int32))), (8, .long q2_.1), (11, .long q2_.1), (0, .ref a0), (1, .int x1), (2, .long x2), (4, .int x4), (5, .long x5), (7, .int x7)]) dX9_ahead_120 8 rfl rfl (by decide) rfl ?_
          refine a_goto (tgt := 72) dX9_ahead_123 (by decide) ?_
          refine AW.sub (lv1 := [(0, .ref a0), (1, .int x1), (2, .long x2), (4, .int x4), (5, .long x5), (7, .int x7), (8, .long q2_.1), (10, .int (x10 + (1 : Int32)))]) [3, 4, 5, 6, 7, 8, 1, 0] rfl ?_
          exact ih _ _ _ _ _ _ _ _ _ hf
      · replace hf := iteT hf c9
        refine a_goto (tgt := 120) dX9_ahead_88 (by decide) ?_
        refine a_iinc (v := x10 + (1 : Int32)) (lv1 := [(10, .int (x10 + (1 : Int32))), (0, .ref a0), (1, .int x1), (2, .long x2), (4, .int x4), (5, .long x5), (7, .int x7), (8, .long x8)]) dX9_ahead_120 7 rfl rfl (by decide) rfl ?_
        refine a_goto (tgt := 72) dX9_ahead_123 (by decide) ?_
        refine AW.sub (lv1 := [(0, .ref a0), (1, .int x1), (2, .long x2), (4, .int x4), (5, .long x5), (7, .int x7), (8, .long x8), (10, .int (x10 + (1 : Int32)))]) [1, 2, 3, 4, 5, 6, 7, 0] rfl ?_
        exact ih _ _ _ _ _ _ _ _ _ hf
set_option maxHeartbeats 4000000 in
set_option maxRecDepth 100000 in
theorem wX9_ahead_b52 {l : Launch} {Γ : Gx} {t0 w0 : Nat} {q : Int32 × Mm} (k37 : Nat → Int32 → Int64 → Int32 → Mm → Option (Int32 × Mm)) (hk37 : ∀ (a0 : Nat) (x1 : Int32) (x2 : Int64) (x4 : Int32) (M : Mm), k37 a0 x1 x2 x4 M = some q → AW l Γ yX9_ahead cX9_ahead 13 ((some .int)) 3 t0 w0 37 [(0, .ref a0), (1, .int x1), (2, .long x2), (4, .int x4)] [] M (some (.int q.1)) q.2) : ∀ (n : Nat) (a0 : Nat) (x1 : Int32) (x2 : Int64) (x4 : Int32) (x5 : Int64) (x7 : Int32) (M : Mm), fX9_ahead_b52 k37 n a0 x1 x2 x4 x5 x7 M = some q → AW l Γ yX9_ahead cX9_ahead 13 ((some .int)) 3 t0 w0 52 [(0, .ref a0), (1, .int x1), (2, .long x2), (4, .int x4), (5, .long x5), (7, .int x7)] [] M (some (.int q.1)) q.2 := by
  intro n
  induction n with
  | zero =>
    intro a0 x1 x2 x4 x5 x7 M hf
    cases hf
  | succ n ih =>
    intro a0 x1 x2 x4 x5 x7 M hf
    rw [fX9_ahead_b52.eq_2] at hf
    refine a_iload dX9_ahead_52 5 rfl ?_
    refine a_iconst (v := 2) dX9_ahead_54 (by decide) ?_
    refine a_icmp_ge dX9_ahead_55 (tgt := 139) (by decide) (fun c9 => ?_) (fun c9 => ?_)
    · replace hf := iteT hf c9
      refine a_iload_n dX9_ahead_139 rfl 1 rfl ?_
      refine a_iconst (v := -1) dX9_ahead_140 (by decide) ?_
      refine a_icmp_eq dX9_ahead_141 (tgt := 154) (by decide) (fun c9 => ?_) (fun c9 => ?_)
      · replace hf := iteT hf c9
        refine AW.sub (lv1 := [(0, .ref a0), (4, .int x4), (5, .long x5)]) [0, 3, 4] rfl ?_
        exact wX9_ahead_b154 _ hk37 _ _ _ _ hf
      · replace hf := iteF hf c9
        refine a_lload dX9_ahead_144 4 rfl ?_
        refine a_lload_n dX9_ahead_146 rfl 2 rfl ?_
        refine a_lcmp_gt dX9_ahead_147 dX9_ahead_148 (tgt := 154) (by decide) (fun c9 => ?_) (fun c9 => ?_)
        · replace hf := iteT hf c9
          refine AW.sub (lv1 := [(0, .ref a0), (4, .int x4), (5, .long x5)]) [0, 3, 4] rfl ?_
          exact wX9_ahead_b154 _ hk37 _ _ _ _ hf
        · replace hf := iteF hf c9
          refine a_goto (tgt := 160) dX9_ahead_151 (by decide) ?_
          refine a_iinc (v := x4 + (1 : Int32)) (lv1 := [(4, .int (x4 + (1 : Int32))), (0, .ref a0), (1, .int x1), (2, .long x2), (5, .long x5), (7, .int x7)]) dX9_ahead_160 3 rfl rfl (by decide) rfl ?_
          refine a_goto (tgt := 37) dX9_ahead_163 (by decide) ?_
          refine AW.sub (lv1 := [(0, .ref a0), (1, .int x1), (2, .long x2), (4, .int (x4 + (1 : Int32)))]) [1, 2, 3, 0] rfl ?_
          exact hk37 _ _ _ _ _ hf
    · replace hf := iteF hf c9
      refine a_aload_n dX9_ahead_58 rfl 0 rfl ?_
      refine a_iload dX9_ahead_59 3 rfl ?_
      refine a_iload dX9_ahead_61 5 rfl ?_
      refine a_iconst (v := -1) dX9_ahead_63 (by decide) ?_
      obtain ⟨q1_, eq1_, hf⟩ := bnd hf
      refine a_callV (As := [.int x4, .int x7, .int ((-1 : Int32))]) (rest := []) dX9_ahead_64 mfX9_behind cvX9_269 (wX9_behind eq1_) rc9 (kX9_behind eq1_) (by decide) rfl rfl (Nat.le_of_ble_eq_true rfl) ?_
      refine a_lstore (i := 8) (lv1 := [(8, .long q1_.1), (0, .ref a0), (1, .int x1), (2, .long x2), (4, .int x4), (5, .long x5), (7, .int x7)]) dX9_ahead_67 (by decide) rfl ?_
      refine a_iconst (v := 0) dX9_ahead_69 (by decide) ?_
      refine a_istore (i := 10) (lv1 := [(10, .int ((0 : Int32))), (8, .long q1_.1), (0, .ref a0), (1, .int x1), (2, .long x2), (4, .int x4), (5, .long x5), (7, .int x7)]) dX9_ahead_70 (by decide) rfl ?_
      refine AW.sub (lv1 := [(0, .ref a0), (1, .int x1), (2, .long x2), (4, .int x4), (5, .long x5), (7, .int x7), (8, .long q1_.1), (10, .int ((0 : Int32)))]) [2, 3, 4, 5, 6, 7, 1, 0] rfl ?_
      exact wX9_ahead_b72 _ hk37 _ ih _ _ _ _ _ _ _ _ _ _ hf
set_option maxHeartbeats 4000000 in
set_option maxRecDepth 100000 in
theorem wX9_ahead_b37 {l : Launch} {Γ : Gx} {t0 w0 : Nat} {q : Int32 × Mm} : ∀ (n : Nat) (a0 : Nat) (x1 : Int32) (x2 : Int64) (x4 : Int32) (M : Mm), fX9_ahead_b37 n a0 x1 x2 x4 M = some q → AW l Γ yX9_ahead cX9_ahead 13 ((some .int)) 3 t0 w0 37 [(0, .ref a0), (1, .int x1), (2, .long x2), (4, .int x4)] [] M (some (.int q.1)) q.2 := by
  intro n
  induction n with
  | zero =>
    intro a0 x1 x2 x4 M hf
    cases hf
  | succ n ih =>
    intro a0 x1 x2 x4 M hf
    rw [fX9_ahead_b37.eq_2] at hf
    refine a_iload dX9_ahead_37 3 rfl ?_
    refine a_aload_n dX9_ahead_39 rfl 0 rfl ?_
    obtain ⟨v1_, ev1_, hf⟩ := bnd hf
    refine a_getI dX9_ahead_40 flX9_115 rfl ev1_ ?_
    refine a_icmp_ge dX9_ahead_43 (tgt := 166) (by decide) (fun c9 => ?_) (fun c9 => ?_)
    · replace hf := iteT hf c9
      refine a_iload_n dX9_ahead_166 rfl 1 rfl ?_
      have e9 := Option.some.inj hf
      subst e9
      exact a_iret rfl dX9_ahead_167 rfl
    · replace hf := iteF hf c9
      refine a_lconst (v := 0) dX9_ahead_46 rfl ?_
      refine a_lstore (i := 5) (lv1 := [(5, .long ((0 : Int64))), (0, .ref a0), (1, .int x1), (2, .long x2), (4, .int x4)]) dX9_ahead_47 (by decide) rfl ?_
      refine a_iconst (v := 0) dX9_ahead_49 (by decide) ?_
      refine a_istore (i := 7) (lv1 := [(7, .int ((0 : Int32))), (5, .long ((0 : Int64))), (0, .ref a0), (1, .int x1), (2, .long x2), (4, .int x4)]) dX9_ahead_50 (by decide) rfl ?_
      refine AW.sub (lv1 := [(0, .ref a0), (1, .int x1), (2, .long x2), (4, .int x4), (5, .long ((0 : Int64))), (7, .int ((0 : Int32)))]) [2, 3, 4, 5, 1, 0] rfl ?_
      exact wX9_ahead_b52 _ ih _ _ _ _ _ _ _ _ hf
set_option maxHeartbeats 4000000 in
set_option maxRecDepth 100000 in
theorem wX9_ahead {l : Launch} {Γ : Gx} {a0 : Nat} {M : Mm} {q : Int32 × Mm} (hf : fX9_ahead a0 M = some q) : AM l Γ 3 yX9_ahead cX9_ahead 13 ((some .int)) [.ref a0] M (some (.int q.1)) q.2 := by
  unfold fX9_ahead at hf
  refine AM.of mfX9_ahead (Nat.le_of_ble_eq_true rfl) ?_
  generalize mT M = t0
  generalize mW M = w0
  show AW _ _ _ _ _ _ _ _ _ 0 [(0, .ref a0)] [] _ _ _
  obtain ⟨u0, eu0, hf⟩ := bnd hf
  refine a_aload_n dX9_ahead_0 rfl 0 rfl ?_
  obtain ⟨v1_, ev1_, hf⟩ := bnd hf
  refine a_getI dX9_ahead_1 flX9_115 rfl ev1_ ?_
  refine a_if_ne dX9_ahead_4 (tgt := 14) (by decide) (fun c9 => ?_) (fun c9 => ?_)
  · replace hf := iteF hf c9
    refine a_aload_n dX9_ahead_14 rfl 0 rfl ?_
    obtain ⟨v2_, ev2_, hf⟩ := bnd hf
    refine a_getI dX9_ahead_15 flX9_136 rfl ev2_ ?_
    refine a_bipush (v := 15) dX9_ahead_18 (by decide) ?_
    refine a_icmp_le dX9_ahead_20 (tgt := 30) (by decide) (fun c9 => ?_) (fun c9 => ?_)
    · replace hf := iteT hf c9
      refine a_iconst (v := -1) dX9_ahead_30 (by decide) ?_
      refine a_istore_n (i := 1) (lv1 := [(1, .int ((-1 : Int32))), (0, .ref a0)]) dX9_ahead_31 rfl (by decide) rfl ?_
      refine a_lconst (v := 0) dX9_ahead_32 rfl ?_
      refine a_lstore_n (i := 2) (lv1 := [(2, .long ((0 : Int64))), (1, .int ((-1 : Int32))), (0, .ref a0)]) dX9_ahead_33 rfl (by decide) rfl ?_
      refine a_iconst (v := 0) dX9_ahead_34 (by decide) ?_
      refine a_istore (i := 4) (lv1 := [(4, .int ((0 : Int32))), (2, .long ((0 : Int64))), (1, .int ((-1 : Int32))), (0, .ref a0)]) dX9_ahead_35 (by decide) rfl ?_
      refine AW.sub (lv1 := [(0, .ref a0), (1, .int ((-1 : Int32))), (2, .long ((0 : Int64))), (4, .int ((0 : Int32)))]) [3, 2, 1, 0] rfl ?_
      exact wX9_ahead_b37 _ _ _ _ _ _ hf
    · replace hf := iteF hf c9
      refine a_aload_n dX9_ahead_23 rfl 0 rfl ?_
      refine a_bipush (v := -7) dX9_ahead_24 (by decide) ?_
      obtain ⟨q3_, eq3_, hf⟩ := bnd hf
      refine a_callV (As := [.int ((-7 : Int32))]) (rest := []) dX9_ahead_26 mfX9_no cvX9_122 (wX9_no eq3_) rc9 (kX9_no eq3_) (by decide) rfl rfl (Nat.le_of_ble_eq_true rfl) ?_
      have e9 := Option.some.inj hf
      subst e9
      exact a_iret rfl dX9_ahead_29 rfl
  · replace hf := iteT hf c9
    refine a_aload_n dX9_ahead_7 rfl 0 rfl ?_
    refine a_bipush (v := -5) dX9_ahead_8 (by decide) ?_
    obtain ⟨q4_, eq4_, hf⟩ := bnd hf
    refine a_callV (As := [.int ((-5 : Int32))]) (rest := []) dX9_ahead_10 mfX9_no cvX9_122 (wX9_no eq4_) rc9 (kX9_no eq4_) (by decide) rfl rfl (Nat.le_of_ble_eq_true rfl) ?_
    have e9 := Option.some.inj hf
    subst e9
    exact a_iret rfl dX9_ahead_13 rfl
theorem kX9_noTen {a0 : Nat} {x1 : Int32} {M : Mm} {q : Int32 × Mm} (hf : fX9_noTen a0 x1 M = some q) : (mK M a0).1 = 10 := by
  unfold fX9_noTen at hf
  obtain ⟨u0, eu0, -⟩ := bnd hf
  exact kc_of eu0
set_option maxHeartbeats 4000000 in
set_option maxRecDepth 100000 in
theorem wX9_noTen {l : Launch} {Γ : Gx} {a0 : Nat} {x1 : Int32} {M : Mm} {q : Int32 × Mm} (hf : fX9_noTen a0 x1 M = some q) : AM l Γ 1 yX9_noTen cX9_noTen 2 ((some .int)) [.ref a0, .int x1] M (some (.int q.1)) q.2 := by
  unfold fX9_noTen at hf
  refine AM.of mfX9_noTen (Nat.le_of_ble_eq_true rfl) ?_
  generalize mT M = t0
  generalize mW M = w0
  show AW _ _ _ _ _ _ _ _ _ 0 [(0, .ref a0), (1, .int x1)] [] _ _ _
  obtain ⟨u0, eu0, hf⟩ := bnd hf
  refine a_aload_n dX9_noTen_0 rfl 0 rfl ?_
  obtain ⟨o1_, eo1_, hf⟩ := bnd hf
  refine a_getR dX9_noTen_1 flX9_31 rfl eo1_ ?_
  refine a_iload_n dX9_noTen_4 rfl 1 rfl ?_
  refine a_ineg dX9_noTen_5 ?_
  refine a_dup2 dX9_noTen_6 rfl rfl ?_
  obtain ⟨v2_, ev2_, hf⟩ := bnd hf
  refine a_iald dX9_noTen_7 ev2_ ?_
  refine a_iconst (v := 1) dX9_noTen_8 (by decide) ?_
  refine a_iadd dX9_noTen_9 ?_
  obtain ⟨M3_, eM3_, hf⟩ := bnd hf
  refine a_iast dX9_noTen_10 eM3_ ?_
  refine a_iload_n dX9_noTen_11 rfl 1 rfl ?_
  refine a_bipush (v := 10) dX9_noTen_12 (by decide) ?_
  refine a_isub dX9_noTen_14 ?_
  have e9 := Option.some.inj hf
  subst e9
  exact a_iret rfl dX9_noTen_15 rfl
theorem kX9_least {a0 : Nat} {x1 : Int32} {M : Mm} {q : Int32 × Mm} (hf : fX9_least a0 x1 M = some q) : (mK M a0).1 = 10 := by
  unfold fX9_least at hf
  obtain ⟨u0, eu0, -⟩ := bnd hf
  exact kc_of eu0
set_option maxHeartbeats 4000000 in
set_option maxRecDepth 100000 in
theorem wX9_least_b146 {l : Launch} {Γ : Gx} {t0 w0 : Nat} {q : Int32 × Mm} (k43 : Nat → Int32 → Int32 → Int64 → Int32 → Mm → Option (Int32 × Mm)) (hk43 : ∀ (a0 : Nat) (x1 : Int32) (x2 : Int32) (x3 : Int64) (x5 : Int32) (M : Mm), k43 a0 x1 x2 x3 x5 M = some q → AW l Γ yX9_least cX9_least 12 ((some .int)) 3 t0 w0 43 [(0, .ref a0), (1, .int x1), (2, .int x2), (3, .long x3), (5, .int x5)] [] M (some (.int q.1)) q.2) (a0 : Nat) (x1 : Int32) (x3 : Int64) (x5 : Int32) (M : Mm) (hf : fX9_least_b146 k43 a0 x1 x3 x5 M = some q) : AW l Γ yX9_least cX9_least 12 ((some .int)) 3 t0 w0 146 [(0, .ref a0), (1, .int x1), (3, .long x3), (5, .int x5)] [] M (some (.int q.1)) q.2 := by
  unfold fX9_least_b146 at hf
  refine a_iload dX9_least_146 3 rfl ?_
  refine a_istore_n (i := 2) (lv1 := [(2, .int x5), (0, .ref a0), (1, .int x1), (3, .long x3), (5, .int x5)]) dX9_least_148 rfl (by decide) rfl ?_
  refine a_iinc (v := x5 + (1 : Int32)) (lv1 := [(5, .int (x5 + (1 : Int32))), (2, .int x5), (0, .ref a0), (1, .int x1), (3, .long x3)]) dX9_least_149 4 rfl rfl (by decide) rfl ?_
  refine a_goto (tgt := 43) dX9_least_152 (by decide) ?_
  refine AW.sub (lv1 := [(0, .ref a0), (1, .int x1), (2, .int x5), (3, .long x3), (5, .int (x5 + (1 : Int32)))]) [2, 3, 1, 4, 0] rfl ?_
  exact hk43 _ _ _ _ _ _ hf
set_option maxHeartbeats 4000000 in
set_option maxRecDepth 100000 in
theorem wX9_least_b97 {l : Launch} {Γ : Gx} {t0 w0 : Nat} {q : Int32 × Mm} (k43 : Nat → Int32 → Int32 → Int64 → Int32 → Mm → Option (Int32 × Mm)) (hk43 : ∀ (a0 : Nat) (x1 : Int32) (x2 : Int32) (x3 : Int64) (x5 : Int32) (M : Mm), k43 a0 x1 x2 x3 x5 M = some q → AW l Γ yX9_least cX9_least 12 ((some .int)) 3 t0 w0 43 [(0, .ref a0), (1, .int x1), (2, .int x2), (3, .long x3), (5, .int x5)] [] M (some (.int q.1)) q.2) : ∀ (n : Nat) (a0 : Nat) (x1 : Int32) (x2 : Int32) (x3 : Int64) (x5 : Int32) (x6 : Int32) (x7 : Int64) (x9 : Int64) (x11 : Int32) (M : Mm), fX9_least_b97 k43 n a0 x1 x2 x3 x5 x6 x7 x9 x11 M = some q → AW l Γ yX9_least cX9_least 12 ((some .int)) 3 t0 w0 97 [(0, .ref a0), (1, .int x1), (2, .int x2), (3, .long x3), (5, .int x5), (6, .int x6), (7, .long x7), (9, .long x9), (11, .int x11)] [] M (some (.int q.1)) q.2 := by
  intro n
  induction n with
  | zero =>
    intro a0 x1 x2 x3 x5 x6 x7 x9 x11 M hf
    cases hf
  | succ n ih =>
    intro a0 x1 x2 x3 x5 x6 x7 x9 x11 M hf
    rw [fX9_least_b97.eq_2] at hf
    refine a_iload dX9_least_97 8 rfl ?_
    refine a_iload dX9_least_99 5 rfl ?_
    refine a_icmp_ge dX9_least_101 (tgt := 118) (by decide) (fun c9 => ?_) (fun c9 => ?_)
    · replace hf := iteT hf c9
      refine a_iload dX9_least_118 5 rfl ?_
      refine a_if_ne dX9_least_120 (tgt := 138) (by decide) (fun c9 => ?_) (fun c9 => ?_)
      · replace hf := iteF hf c9
        refine a_lload dX9_least_138 7 rfl ?_
        refine a_lload dX9_least_140 6 rfl ?_
        refine a_lcmp_lt dX9_least_142 dX9_least_143 (tgt := 149) (by decide) (fun c9 => ?_) (fun c9 => ?_)
        · replace hf := iteT hf c9
          refine a_iinc (v := x5 + (1 : Int32)) (lv1 := [(5, .int (x5 + (1 : Int32))), (0, .ref a0), (1, .int x1), (2, .int x2), (3, .long x3), (6, .int x6), (7, .long x7), (9, .long x9), (11, .int x11)]) dX9_least_149 4 rfl rfl (by decide) rfl ?_
          refine a_goto (tgt := 43) dX9_least_152 (by decide) ?_
          refine AW.sub (lv1 := [(0, .ref a0), (1, .int x1), (2, .int x2), (3, .long x3), (5, .int (x5 + (1 : Int32)))]) [1, 2, 3, 4, 0] rfl ?_
          exact hk43 _ _ _ _ _ _ hf
        · replace hf := iteF hf c9
          refine AW.sub (lv1 := [(0, .ref a0), (1, .int x1), (3, .long x3), (5, .int x5)]) [0, 1, 3, 4] rfl ?_
          exact wX9_least_b146 _ hk43 _ _ _ _ _ hf
      · replace hf := iteT hf c9
        refine a_lload dX9_least_123 7 rfl ?_
        refine a_ldc2 (v := 10) dX9_least_125 wcX9_276 ?_
        refine a_lmul dX9_least_128 ?_
        refine a_lload dX9_least_129 6 rfl ?_
        refine a_lcmp_lt dX9_least_131 dX9_least_132 (tgt := 149) (by decide) (fun c9 => ?_) (fun c9 => ?_)
        · replace hf := iteT hf c9
          refine a_iinc (v := x5 + (1 : Int32)) (lv1 := [(5, .int (x5 + (1 : Int32))), (0, .ref a0), (1, .int x1), (2, .int x2), (3, .long x3), (6, .int x6), (7, .long x7), (9, .long x9), (11, .int x11)]) dX9_least_149 4 rfl rfl (by decide) rfl ?_
          refine a_goto (tgt := 43) dX9_least_152 (by decide) ?_
          refine AW.sub (lv1 := [(0, .ref a0), (1, .int x1), (2, .int x2), (3, .long x3), (5, .int (x5 + (1 : Int32)))]) [1, 2, 3, 4, 0] rfl ?_
          exact hk43 _ _ _ _ _ _ hf
        · replace hf := iteF hf c9
          refine a_goto (tgt := 146) dX9_least_135 (by decide) ?_
          refine AW.sub (lv1 := [(0, .ref a0), (1, .int x1), (3, .long x3), (5, .int x5)]) [0, 1, 3, 4] rfl ?_
          exact wX9_least_b146 _ hk43 _ _ _ _ _ hf
    · replace hf := iteF hf c9
      refine a_lload dX9_least_104 6 rfl ?_
      refine a_ldc2 (v := 10) dX9_least_106 wcX9_276 ?_
      refine a_lmul dX9_least_109 ?_
      refine a_lstore (i := 7) (lv1 := [(7, .long (x7 * ((10 : Int64)))), (0, .ref a0), (1, .int x1), (2, .int x2), (3, .long x3), (5, .int x5), (6, .int x6), (9, .long x9), (11, .int x11)]) dX9_least_110 (by decide) rfl ?_
      refine a_iinc (v := x11 + (1 : Int32)) (lv1 := [(11, .int (x11 + (1 : Int32))), (7, .long (x7 * ((10 : Int64)))), (0, .ref a0), (1, .int x1), (2, .int x2), (3, .long x3), (5, .int x5), (6, .int x6), (9, .long x9)]) dX9_least_112 8 rfl rfl (by decide) rfl ?_
      refine a_goto (tgt := 97) dX9_least_115 (by decide) ?_
      refine AW.sub (lv1 := [(0, .ref a0), (1, .int x1), (2, .int x2), (3, .long x3), (5, .int x5), (6, .int x6), (7, .long (x7 * ((10 : Int64)))), (9, .long x9), (11, .int (x11 + (1 : Int32)))]) [2, 3, 4, 5, 6, 7, 1, 8, 0] rfl ?_
      exact ih _ _ _ _ _ _ _ _ _ _ hf
set_option maxHeartbeats 4000000 in
set_option maxRecDepth 100000 in
theorem wX9_least_b80 {l : Launch} {Γ : Gx} {t0 w0 : Nat} {q : Int32 × Mm} (k43 : Nat → Int32 → Int32 → Int64 → Int32 → Mm → Option (Int32 × Mm)) (hk43 : ∀ (a0 : Nat) (x1 : Int32) (x2 : Int32) (x3 : Int64) (x5 : Int32) (M : Mm), k43 a0 x1 x2 x3 x5 M = some q → AW l Γ yX9_least cX9_least 12 ((some .int)) 3 t0 w0 43 [(0, .ref a0), (1, .int x1), (2, .int x2), (3, .long x3), (5, .int x5)] [] M (some (.int q.1)) q.2) (a0 : Nat) (x1 : Int32) (x2 : Int32) (x3 : Int64) (x5 : Int32) (x6 : Int32) (M : Mm) (hf : fX9_least_b80 k43 a0 x1 x2 x3 x5 x6 M = some q) : AW l Γ yX9_least cX9_least 12 ((some .int)) 3 t0 w0 80 [(0, .ref a0), (1, .int x1), (2, .int x2), (3, .long x3), (5, .int x5), (6, .int x6)] [] M (some (.int q.1)) q.2 := by
  unfold fX9_least_b80 at hf
  refine a_iload_n dX9_least_80 rfl 1 rfl ?_
  refine a_i2l dX9_least_81 ?_
  refine a_lload_n dX9_least_82 rfl 3 rfl ?_
  refine a_lmul dX9_least_83 ?_
  refine a_lstore (i := 7) (lv1 := [(7, .long (x1.toInt64 * x3)), (0, .ref a0), (1, .int x1), (2, .int x2), (3, .long x3), (5, .int x5), (6, .int x6)]) dX9_least_84 (by decide) rfl ?_
  refine a_aload_n dX9_least_86 rfl 1 rfl ?_
  refine a_iload dX9_least_87 5 rfl ?_
  obtain ⟨q1_, eq1_, hf⟩ := bnd hf
  refine a_callV (As := [.int x5]) (rest := []) dX9_least_89 mfX9_worthOf cvX9_265 (wX9_worthOf eq1_) rc9 (kX9_worthOf eq1_) (by decide) rfl rfl (Nat.le_of_ble_eq_true rfl) ?_
  refine a_lstore (i := 9) (lv1 := [(9, .long q1_.1), (7, .long (x1.toInt64 * x3)), (0, .ref a0), (1, .int x1), (2, .int x2), (3, .long x3), (5, .int x5), (6, .int x6)]) dX9_least_92 (by decide) rfl ?_
  refine a_iconst (v := 1) dX9_least_94 (by decide) ?_
  refine a_istore (i := 11) (lv1 := [(11, .int ((1 : Int32))), (9, .long q1_.1), (7, .long (x1.toInt64 * x3)), (0, .ref a0), (1, .int x1), (2, .int x2), (3, .long x3), (5, .int x5), (6, .int x6)]) dX9_least_95 (by decide) rfl ?_
  refine AW.sub (lv1 := [(0, .ref a0), (1, .int x1), (2, .int x2), (3, .long x3), (5, .int x5), (6, .int x6), (7, .long (x1.toInt64 * x3)), (9, .long q1_.1), (11, .int ((1 : Int32)))]) [3, 4, 5, 6, 7, 8, 2, 1, 0] rfl ?_
  exact wX9_least_b97 _ hk43 _ _ _ _ _ _ _ _ _ _ _ hf
set_option maxHeartbeats 4000000 in
set_option maxRecDepth 100000 in
theorem wX9_least_b43 {l : Launch} {Γ : Gx} {t0 w0 : Nat} {q : Int32 × Mm} : ∀ (n : Nat) (a0 : Nat) (x1 : Int32) (x2 : Int32) (x3 : Int64) (x5 : Int32) (M : Mm), fX9_least_b43 n a0 x1 x2 x3 x5 M = some q → AW l Γ yX9_least cX9_least 12 ((some .int)) 3 t0 w0 43 [(0, .ref a0), (1, .int x1), (2, .int x2), (3, .long x3), (5, .int x5)] [] M (some (.int q.1)) q.2 := by
  intro n
  induction n with
  | zero =>
    intro a0 x1 x2 x3 x5 M hf
    cases hf
  | succ n ih =>
    intro a0 x1 x2 x3 x5 M hf
    rw [fX9_least_b43.eq_2] at hf
    refine a_iload dX9_least_43 4 rfl ?_
    refine a_iconst (v := 1) dX9_least_45 (by decide) ?_
    refine a_aload_n dX9_least_46 rfl 0 rfl ?_
    obtain ⟨v1_, ev1_, hf⟩ := bnd hf
    refine a_getI dX9_least_47 flX9_115 rfl ev1_ ?_
    refine a_ishl dX9_least_50 ?_
    refine a_icmp_ge dX9_least_51 (tgt := 155) (by decide) (fun c9 => ?_) (fun c9 => ?_)
    · replace hf := iteT hf c9
      refine a_iload_n dX9_least_155 rfl 2 rfl ?_
      have e9 := Option.some.inj hf
      subst e9
      exact a_iret rfl dX9_least_156 rfl
    · replace hf := iteF hf c9
      refine a_aload_n dX9_least_54 rfl 0 rfl ?_
      refine a_iload dX9_least_55 4 rfl ?_
      obtain ⟨q2_, eq2_, hf⟩ := bnd hf
      refine a_callV (As := [.int x5]) (rest := []) dX9_least_57 mfX9_count cvX9_262 (wX9_count eq2_) rc9 (kX9_count eq2_) (by decide) rfl rfl (Nat.le_of_ble_eq_true rfl) ?_
      refine a_istore (i := 6) (lv1 := [(6, .int q2_.1), (0, .ref a0), (1, .int x1), (2, .int x2), (3, .long x3), (5, .int x5)]) dX9_least_60 (by decide) rfl ?_
      refine a_iload_n dX9_least_62 rfl 3 rfl ?_
      refine a_iconst (v := -1) dX9_least_63 (by decide) ?_
      refine a_icmp_eq dX9_least_64 (tgt := 80) (by decide) (fun c9 => ?_) (fun c9 => ?_)
      · replace hf := iteT hf c9
        refine AW.sub (lv1 := [(0, .ref a0), (1, .int x1), (2, .int x2), (3, .long x3), (5, .int x5), (6, .int q2_.1)]) [1, 2, 3, 4, 5, 0] rfl ?_
        exact wX9_least_b80 _ ih _ _ _ _ _ _ _ hf
      · replace hf := iteF hf c9
        refine a_iload dX9_least_67 0 rfl ?_
        refine a_aload_n dX9_least_69 rfl 1 rfl ?_
        refine a_iload_n dX9_least_70 rfl 3 rfl ?_
        obtain ⟨q3_, eq3_, hf⟩ := bnd hf
        refine a_callV (As := [.int x2]) (rest := [.int q2_.1]) dX9_least_71 mfX9_count cvX9_262 (wX9_count eq3_) rc9 (kX9_count eq3_) (by decide) rfl rfl (Nat.le_of_ble_eq_true rfl) ?_
        refine a_icmp_lt dX9_least_74 (tgt := 80) (by decide) (fun c9 => ?_) (fun c9 => ?_)
        · replace hf := iteT hf c9
          refine AW.sub (lv1 := [(0, .ref a0), (1, .int x1), (2, .int x2), (3, .long x3), (5, .int x5), (6, .int q2_.1)]) [1, 2, 3, 4, 5, 0] rfl ?_
          exact wX9_least_b80 _ ih _ _ _ _ _ _ _ hf
        · replace hf := iteF hf c9
          refine a_goto (tgt := 149) dX9_least_77 (by decide) ?_
          refine a_iinc (v := x5 + (1 : Int32)) (lv1 := [(5, .int (x5 + (1 : Int32))), (6, .int q2_.1), (0, .ref a0), (1, .int x1), (2, .int x2), (3, .long x3)]) dX9_least_149 5 rfl rfl (by decide) rfl ?_
          refine a_goto (tgt := 43) dX9_least_152 (by decide) ?_
          refine AW.sub (lv1 := [(0, .ref a0), (1, .int x1), (2, .int x2), (3, .long x3), (5, .int (x5 + (1 : Int32)))]) [2, 3, 4, 5, 0] rfl ?_
          exact ih _ _ _ _ _ _ hf
set_option maxHeartbeats 4000000 in
set_option maxRecDepth 100000 in
theorem wX9_least {l : Launch} {Γ : Gx} {a0 : Nat} {x1 : Int32} {M : Mm} {q : Int32 × Mm} (hf : fX9_least a0 x1 M = some q) : AM l Γ 3 yX9_least cX9_least 12 ((some .int)) [.ref a0, .int x1] M (some (.int q.1)) q.2 := by
  unfold fX9_least at hf
  refine AM.of mfX9_least (Nat.le_of_ble_eq_true rfl) ?_
  generalize mT M = t0
  generalize mW M = w0
  show AW _ _ _ _ _ _ _ _ _ 0 [(0, .ref a0), (1, .int x1)] [] _ _ _
  obtain ⟨u0, eu0, hf⟩ := bnd hf
  refine a_iload_n dX9_least_0 rfl 1 rfl ?_
  refine a_if_lt dX9_least_1 (tgt := 10) (by decide) (fun c9 => ?_) (fun c9 => ?_)
  · replace hf := iteT hf c9
    refine a_aload_n dX9_least_10 rfl 0 rfl ?_
    refine a_bipush (v := -6) dX9_least_11 (by decide) ?_
    obtain ⟨q1_, eq1_, hf⟩ := bnd hf
    refine a_callV (As := [.int ((-6 : Int32))]) (rest := []) dX9_least_13 mfX9_noTen cvX9_273 (wX9_noTen eq1_) rc9 (kX9_noTen eq1_) (by decide) rfl rfl (Nat.le_of_ble_eq_true rfl) ?_
    have e9 := Option.some.inj hf
    subst e9
    exact a_iret rfl dX9_least_16 rfl
  · replace hf := iteF hf c9
    refine a_iload_n dX9_least_4 rfl 1 rfl ?_
    refine a_bipush (v := 10) dX9_least_5 (by decide) ?_
    refine a_icmp_le dX9_least_7 (tgt := 17) (by decide) (fun c9 => ?_) (fun c9 => ?_)
    · replace hf := iteT hf c9
      refine a_aload_n dX9_least_17 rfl 0 rfl ?_
      obtain ⟨v2_, ev2_, hf⟩ := bnd hf
      refine a_getI dX9_least_18 flX9_136 rfl ev2_ ?_
      refine a_bipush (v := 9) dX9_least_21 (by decide) ?_
      refine a_icmp_le dX9_least_23 (tgt := 33) (by decide) (fun c9 => ?_) (fun c9 => ?_)
      · replace hf := iteT hf c9
        refine a_iconst (v := -1) dX9_least_33 (by decide) ?_
        refine a_istore_n (i := 2) (lv1 := [(2, .int ((-1 : Int32))), (0, .ref a0), (1, .int x1)]) dX9_least_34 rfl (by decide) rfl ?_
        refine a_aload_n dX9_least_35 rfl 1 rfl ?_
        obtain ⟨q3_, eq3_, hf⟩ := bnd hf
        refine a_callV (As := []) (rest := []) dX9_least_36 mfX9_sum cvX9_226 (wX9_sum eq3_) rc9 (kX9_sum eq3_) (by decide) rfl rfl (Nat.le_of_ble_eq_true rfl) ?_
        refine a_lstore_n (i := 3) (lv1 := [(3, .long q3_.1), (2, .int ((-1 : Int32))), (0, .ref a0), (1, .int x1)]) dX9_least_39 rfl (by decide) rfl ?_
        refine a_iconst (v := 0) dX9_least_40 (by decide) ?_
        refine a_istore (i := 5) (lv1 := [(5, .int ((0 : Int32))), (3, .long q3_.1), (2, .int ((-1 : Int32))), (0, .ref a0), (1, .int x1)]) dX9_least_41 (by decide) rfl ?_
        refine AW.sub (lv1 := [(0, .ref a0), (1, .int x1), (2, .int ((-1 : Int32))), (3, .long q3_.1), (5, .int ((0 : Int32)))]) [3, 4, 2, 1, 0] rfl ?_
        exact wX9_least_b43 _ _ _ _ _ _ _ hf
      · replace hf := iteF hf c9
        refine a_aload_n dX9_least_26 rfl 0 rfl ?_
        refine a_bipush (v := -7) dX9_least_27 (by decide) ?_
        obtain ⟨q4_, eq4_, hf⟩ := bnd hf
        refine a_callV (As := [.int ((-7 : Int32))]) (rest := []) dX9_least_29 mfX9_noTen cvX9_273 (wX9_noTen eq4_) rc9 (kX9_noTen eq4_) (by decide) rfl rfl (Nat.le_of_ble_eq_true rfl) ?_
        have e9 := Option.some.inj hf
        subst e9
        exact a_iret rfl dX9_least_32 rfl
    · replace hf := iteF hf c9
      refine a_aload_n dX9_least_10 rfl 0 rfl ?_
      refine a_bipush (v := -6) dX9_least_11 (by decide) ?_
      obtain ⟨q5_, eq5_, hf⟩ := bnd hf
      refine a_callV (As := [.int ((-6 : Int32))]) (rest := []) dX9_least_13 mfX9_noTen cvX9_273 (wX9_noTen eq5_) rc9 (kX9_noTen eq5_) (by decide) rfl rfl (Nat.le_of_ble_eq_true rfl) ?_
      have e9 := Option.some.inj hf
      subst e9
      exact a_iret rfl dX9_least_16 rfl
theorem kX9_onWalk {a0 : Nat} {x1 : Int32} {x2 : Int32} {M : Mm} {q : Int32 × Mm} (hf : fX9_onWalk a0 x1 x2 M = some q) : (mK M a0).1 = 10 := by
  unfold fX9_onWalk at hf
  obtain ⟨u0, eu0, -⟩ := bnd hf
  exact kc_of eu0
set_option maxHeartbeats 4000000 in
set_option maxRecDepth 100000 in
theorem wX9_onWalk_b29 {l : Launch} {Γ : Gx} {t0 w0 : Nat} {q : Int32 × Mm} : ∀ (n : Nat) (a0 : Nat) (x3 : Int32) (x4 : Int32) (x5 : Int32) (x6 : Int32) (M : Mm), fX9_onWalk_b29 n a0 x3 x4 x5 x6 M = some q → AW l Γ yX9_onWalk cX9_onWalk 7 ((some .int)) 1 t0 w0 29 [(0, .ref a0), (3, .int x3), (4, .int x4), (5, .int x5), (6, .int x6)] [] M (some (.int q.1)) q.2 := by
  intro n
  induction n with
  | zero =>
    intro a0 x3 x4 x5 x6 M hf
    cases hf
  | succ n ih =>
    intro a0 x3 x4 x5 x6 M hf
    rw [fX9_onWalk_b29.eq_2] at hf
    refine a_iload dX9_onWalk_29 4 rfl ?_
    refine a_aload_n dX9_onWalk_31 rfl 0 rfl ?_
    obtain ⟨v1_, ev1_, hf⟩ := bnd hf
    refine a_getI dX9_onWalk_32 flX9_143 rfl ev1_ ?_
    refine a_icmp_ge dX9_onWalk_35 (tgt := 76) (by decide) (fun c9 => ?_) (fun c9 => ?_)
    · replace hf := iteT hf c9
      refine a_iload dX9_onWalk_76 3 rfl ?_
      have e9 := Option.some.inj hf
      subst e9
      exact a_iret rfl dX9_onWalk_78 rfl
    · replace hf := iteF hf c9
      refine a_aload_n dX9_onWalk_38 rfl 0 rfl ?_
      obtain ⟨o2_, eo2_, hf⟩ := bnd hf
      refine a_getR dX9_onWalk_39 flX9_47 rfl eo2_ ?_
      refine a_iload dX9_onWalk_42 4 rfl ?_
      obtain ⟨v3_, ev3_, hf⟩ := bnd hf
      refine a_iald dX9_onWalk_44 ev3_ ?_
      refine a_iload_n dX9_onWalk_45 rfl 1 rfl ?_
      refine a_icmp_lt dX9_onWalk_46 (tgt := 70) (by decide) (fun c9 => ?_) (fun c9 => ?_)
      · replace hf := iteT hf c9
        refine a_iinc (v := x6 + (1 : Int32)) (lv1 := [(6, .int (x6 + (1 : Int32))), (0, .ref a0), (3, .int x3), (4, .int x4), (5, .int x5)]) dX9_onWalk_70 4 rfl rfl (by decide) rfl ?_
        refine a_goto (tgt := 29) dX9_onWalk_73 (by decide) ?_
        refine AW.sub (lv1 := [(0, .ref a0), (3, .int x3), (4, .int x4), (5, .int x5), (6, .int (x6 + (1 : Int32)))]) [1, 2, 3, 4, 0] rfl ?_
        exact ih _ _ _ _ _ _ hf
      · replace hf := iteF hf c9
        refine a_aload_n dX9_onWalk_49 rfl 0 rfl ?_
        obtain ⟨o4_, eo4_, hf⟩ := bnd hf
        refine a_getR dX9_onWalk_50 flX9_47 rfl eo4_ ?_
        refine a_iload dX9_onWalk_53 4 rfl ?_
        obtain ⟨v5_, ev5_, hf⟩ := bnd hf
        refine a_iald dX9_onWalk_55 ev5_ ?_
        refine a_iload dX9_onWalk_56 2 rfl ?_
        refine a_icmp_gt dX9_onWalk_58 (tgt := 70) (by decide) (fun c9 => ?_) (fun c9 => ?_)
        · replace hf := iteT hf c9
          refine a_iinc (v := x6 + (1 : Int32)) (lv1 := [(6, .int (x6 + (1 : Int32))), (0, .ref a0), (3, .int x3), (4, .int x4), (5, .int x5)]) dX9_onWalk_70 4 rfl rfl (by decide) rfl ?_
          refine a_goto (tgt := 29) dX9_onWalk_73 (by decide) ?_
          refine AW.sub (lv1 := [(0, .ref a0), (3, .int x3), (4, .int x4), (5, .int x5), (6, .int (x6 + (1 : Int32)))]) [1, 2, 3, 4, 0] rfl ?_
          exact ih _ _ _ _ _ _ hf
        · replace hf := iteF hf c9
          refine a_iload dX9_onWalk_61 3 rfl ?_
          refine a_iconst (v := 1) dX9_onWalk_63 (by decide) ?_
          refine a_iload dX9_onWalk_64 4 rfl ?_
          refine a_ishl dX9_onWalk_66 ?_
          refine a_ior dX9_onWalk_67 ?_
          refine a_istore (i := 5) (lv1 := [(5, .int (x5 ||| (((1 : Int32)) <<< (x6 &&& 31)))), (0, .ref a0), (3, .int x3), (4, .int x4), (6, .int x6)]) dX9_onWalk_68 (by decide) rfl ?_
          refine a_iinc (v := x6 + (1 : Int32)) (lv1 := [(6, .int (x6 + (1 : Int32))), (5, .int (x5 ||| (((1 : Int32)) <<< (x6 &&& 31)))), (0, .ref a0), (3, .int x3), (4, .int x4)]) dX9_onWalk_70 4 rfl rfl (by decide) rfl ?_
          refine a_goto (tgt := 29) dX9_onWalk_73 (by decide) ?_
          refine AW.sub (lv1 := [(0, .ref a0), (3, .int x3), (4, .int x4), (5, .int (x5 ||| (((1 : Int32)) <<< (x6 &&& 31)))), (6, .int (x6 + (1 : Int32)))]) [2, 3, 4, 1, 0] rfl ?_
          exact ih _ _ _ _ _ _ hf
set_option maxHeartbeats 4000000 in
set_option maxRecDepth 100000 in
theorem wX9_onWalk_b21 {l : Launch} {Γ : Gx} {t0 w0 : Nat} {q : Int32 × Mm} (a0 : Nat) (x3 : Int32) (s0 : Int32) (M : Mm) (hf : fX9_onWalk_b21 a0 x3 s0 M = some q) : AW l Γ yX9_onWalk cX9_onWalk 7 ((some .int)) 1 t0 w0 21 [(0, .ref a0), (3, .int x3)] [.int s0] M (some (.int q.1)) q.2 := by
  unfold fX9_onWalk_b21 at hf
  refine a_istore (i := 4) (lv1 := [(4, .int s0), (0, .ref a0), (3, .int x3)]) dX9_onWalk_21 (by decide) rfl ?_
  refine a_iconst (v := 0) dX9_onWalk_23 (by decide) ?_
  refine a_istore (i := 5) (lv1 := [(5, .int ((0 : Int32))), (4, .int s0), (0, .ref a0), (3, .int x3)]) dX9_onWalk_24 (by decide) rfl ?_
  refine a_iconst (v := 0) dX9_onWalk_26 (by decide) ?_
  refine a_istore (i := 6) (lv1 := [(6, .int ((0 : Int32))), (5, .int ((0 : Int32))), (4, .int s0), (0, .ref a0), (3, .int x3)]) dX9_onWalk_27 (by decide) rfl ?_
  refine AW.sub (lv1 := [(0, .ref a0), (3, .int x3), (4, .int s0), (5, .int ((0 : Int32))), (6, .int ((0 : Int32)))]) [3, 4, 2, 1, 0] rfl ?_
  exact wX9_onWalk_b29 _ _ _ _ _ _ _ hf
set_option maxHeartbeats 4000000 in
set_option maxRecDepth 100000 in
theorem wX9_onWalk_b10 {l : Launch} {Γ : Gx} {t0 w0 : Nat} {q : Int32 × Mm} (a0 : Nat) (x1 : Int32) (x2 : Int32) (s0 : Int32) (M : Mm) (hf : fX9_onWalk_b10 a0 x1 x2 s0 M = some q) : AW l Γ yX9_onWalk cX9_onWalk 7 ((some .int)) 1 t0 w0 10 [(0, .ref a0), (1, .int x1), (2, .int x2)] [.int s0] M (some (.int q.1)) q.2 := by
  unfold fX9_onWalk_b10 at hf
  refine a_istore_n (i := 3) (lv1 := [(3, .int s0), (0, .ref a0), (1, .int x1), (2, .int x2)]) dX9_onWalk_10 rfl (by decide) rfl ?_
  refine a_iload_n dX9_onWalk_11 rfl 2 rfl ?_
  refine a_iload_n dX9_onWalk_12 rfl 3 rfl ?_
  refine a_icmp_ge dX9_onWalk_13 (tgt := 20) (by decide) (fun c9 => ?_) (fun c9 => ?_)
  · replace hf := iteT hf c9
    refine a_iload_n dX9_onWalk_20 rfl 2 rfl ?_
    refine AW.sub (lv1 := [(0, .ref a0), (3, .int s0)]) [1, 0] rfl ?_
    exact wX9_onWalk_b21 _ _ _ _ hf
  · replace hf := iteF hf c9
    refine a_iload_n dX9_onWalk_16 rfl 3 rfl ?_
    refine a_goto (tgt := 21) dX9_onWalk_17 (by decide) ?_
    refine AW.sub (lv1 := [(0, .ref a0), (3, .int s0)]) [1, 0] rfl ?_
    exact wX9_onWalk_b21 _ _ _ _ hf
set_option maxHeartbeats 4000000 in
set_option maxRecDepth 100000 in
theorem wX9_onWalk {l : Launch} {Γ : Gx} {a0 : Nat} {x1 : Int32} {x2 : Int32} {M : Mm} {q : Int32 × Mm} (hf : fX9_onWalk a0 x1 x2 M = some q) : AM l Γ 1 yX9_onWalk cX9_onWalk 7 ((some .int)) [.ref a0, .int x1, .int x2] M (some (.int q.1)) q.2 := by
  unfold fX9_onWalk at hf
  refine AM.of mfX9_onWalk (Nat.le_of_ble_eq_true rfl) ?_
  generalize mT M = t0
  generalize mW M = w0
  show AW _ _ _ _ _ _ _ _ _ 0 [(0, .ref a0), (1, .int x1), (2, .int x2)] [] _ _ _
  obtain ⟨u0, eu0, hf⟩ := bnd hf
  refine a_iload_n dX9_onWalk_0 rfl 1 rfl ?_
  refine a_iload_n dX9_onWalk_1 rfl 2 rfl ?_
  refine a_icmp_ge dX9_onWalk_2 (tgt := 9) (by decide) (fun c9 => ?_) (fun c9 => ?_)
  · replace hf := iteT hf c9
    refine a_iload_n dX9_onWalk_9 rfl 2 rfl ?_
    exact wX9_onWalk_b10 _ _ _ _ _ hf
  · replace hf := iteF hf c9
    refine a_iload_n dX9_onWalk_5 rfl 1 rfl ?_
    refine a_goto (tgt := 10) dX9_onWalk_6 (by decide) ?_
    exact wX9_onWalk_b10 _ _ _ _ _ hf
theorem kX9_safeOf {a0 : Nat} {x1 : Int32} {M : Mm} {q : Int64 × Mm} (hf : fX9_safeOf a0 x1 M = some q) : (mK M a0).1 = 10 := by
  unfold fX9_safeOf at hf
  obtain ⟨u0, eu0, -⟩ := bnd hf
  exact kc_of eu0
set_option maxHeartbeats 4000000 in
set_option maxRecDepth 100000 in
theorem wX9_safeOf_b59 {l : Launch} {Γ : Gx} {t0 w0 : Nat} {q : Int64 × Mm} (k5 : Nat → Int32 → Int64 → Int32 → Mm → Option (Int64 × Mm)) (hk5 : ∀ (a0 : Nat) (x1 : Int32) (x2 : Int64) (x4 : Int32) (M : Mm), k5 a0 x1 x2 x4 M = some q → AW l Γ yX9_safeOf cX9_safeOf 5 ((some .long)) 1 t0 w0 5 [(0, .ref a0), (1, .int x1), (2, .long x2), (4, .int x4)] [] M (some (.long q.1)) q.2) (a0 : Nat) (x1 : Int32) (x4 : Int32) (s0 : Int64) (s1 : Int32) (s2 : Int32) (s3 : Int32) (M : Mm) (hf : fX9_safeOf_b59 k5 a0 x1 x4 s0 s1 s2 s3 M = some q) : AW l Γ yX9_safeOf cX9_safeOf 5 ((some .long)) 1 t0 w0 59 [(0, .ref a0), (1, .int x1), (4, .int x4)] [.int s3, .int s2, .int s1, .long s0] M (some (.long q.1)) q.2 := by
  unfold fX9_safeOf_b59 at hf
  refine a_imul dX9_safeOf_59 ?_
  refine a_isub dX9_safeOf_60 ?_
  refine a_i2l dX9_safeOf_61 ?_
  refine a_lmul dX9_safeOf_62 ?_
  refine a_lstore_n (i := 2) (lv1 := [(2, .long (s0 * ((s1 - (s2 * s3)).toInt64))), (0, .ref a0), (1, .int x1), (4, .int x4)]) dX9_safeOf_63 rfl (by decide) rfl ?_
  refine a_iinc (v := x4 + (1 : Int32)) (lv1 := [(4, .int (x4 + (1 : Int32))), (2, .long (s0 * ((s1 - (s2 * s3)).toInt64))), (0, .ref a0), (1, .int x1)]) dX9_safeOf_64 3 rfl rfl (by decide) rfl ?_
  refine a_goto (tgt := 5) dX9_safeOf_67 (by decide) ?_
  refine AW.sub (lv1 := [(0, .ref a0), (1, .int x1), (2, .long (s0 * ((s1 - (s2 * s3)).toInt64))), (4, .int (x4 + (1 : Int32)))]) [2, 3, 1, 0] rfl ?_
  exact hk5 _ _ _ _ _ hf
set_option maxHeartbeats 4000000 in
set_option maxRecDepth 100000 in
theorem wX9_safeOf_b5 {l : Launch} {Γ : Gx} {t0 w0 : Nat} {q : Int64 × Mm} : ∀ (n : Nat) (a0 : Nat) (x1 : Int32) (x2 : Int64) (x4 : Int32) (M : Mm), fX9_safeOf_b5 n a0 x1 x2 x4 M = some q → AW l Γ yX9_safeOf cX9_safeOf 5 ((some .long)) 1 t0 w0 5 [(0, .ref a0), (1, .int x1), (2, .long x2), (4, .int x4)] [] M (some (.long q.1)) q.2 := by
  intro n
  induction n with
  | zero =>
    intro a0 x1 x2 x4 M hf
    cases hf
  | succ n ih =>
    intro a0 x1 x2 x4 M hf
    rw [fX9_safeOf_b5.eq_2] at hf
    refine a_iload dX9_safeOf_5 3 rfl ?_
    refine a_aload_n dX9_safeOf_7 rfl 0 rfl ?_
    obtain ⟨v1_, ev1_, hf⟩ := bnd hf
    refine a_getI dX9_safeOf_8 flX9_143 rfl ev1_ ?_
    refine a_icmp_ge dX9_safeOf_11 (tgt := 70) (by decide) (fun c9 => ?_) (fun c9 => ?_)
    · replace hf := iteT hf c9
      refine a_lload_n dX9_safeOf_70 rfl 2 rfl ?_
      have e9 := Option.some.inj hf
      subst e9
      exact a_lret rfl dX9_safeOf_71 rfl
    · replace hf := iteF hf c9
      refine a_iload_n dX9_safeOf_14 rfl 1 rfl ?_
      refine a_iload dX9_safeOf_15 3 rfl ?_
      refine a_ishr dX9_safeOf_17 ?_
      refine a_iconst (v := 1) dX9_safeOf_18 (by decide) ?_
      refine a_iand dX9_safeOf_19 ?_
      refine a_if_ne dX9_safeOf_20 (tgt := 26) (by decide) (fun c9 => ?_) (fun c9 => ?_)
      · replace hf := iteF hf c9
        refine a_lload_n dX9_safeOf_26 rfl 2 rfl ?_
        refine a_bipush (v := 100) dX9_safeOf_27 (by decide) ?_
        refine a_aload_n dX9_safeOf_29 rfl 0 rfl ?_
        obtain ⟨o2_, eo2_, hf⟩ := bnd hf
        refine a_getR dX9_safeOf_30 flX9_53 rfl eo2_ ?_
        refine a_iload dX9_safeOf_33 3 rfl ?_
        obtain ⟨v3_, ev3_, hf⟩ := bnd hf
        refine a_iald dX9_safeOf_35 ev3_ ?_
        refine a_aload_n dX9_safeOf_36 rfl 0 rfl ?_
        obtain ⟨o4_, eo4_, hf⟩ := bnd hf
        refine a_getR dX9_safeOf_37 flX9_50 rfl eo4_ ?_
        refine a_iload dX9_safeOf_40 3 rfl ?_
        obtain ⟨v5_, ev5_, hf⟩ := bnd hf
        refine a_iald dX9_safeOf_42 ev5_ ?_
        refine a_iconst (v := 1) dX9_safeOf_43 (by decide) ?_
        refine a_icmp_ne dX9_safeOf_44 (tgt := 52) (by decide) (fun c9 => ?_) (fun c9 => ?_)
        · replace hf := iteF hf c9
          refine a_bipush (v := 10) dX9_safeOf_52 (by decide) ?_
          refine a_aload_n dX9_safeOf_54 rfl 0 rfl ?_
          obtain ⟨v6_, ev6_, hf⟩ := bnd hf
          refine a_getI dX9_safeOf_55 flX9_19 rfl ev6_ ?_
          refine a_isub dX9_safeOf_58 ?_
          refine AW.sub (lv1 := [(0, .ref a0), (1, .int x1), (4, .int x4)]) [0, 1, 3] rfl ?_
          exact wX9_safeOf_b59 _ ih _ _ _ _ _ _ _ _ hf
        · replace hf := iteT hf c9
          refine a_bipush (v := 10) dX9_safeOf_47 (by decide) ?_
          refine a_goto (tgt := 59) dX9_safeOf_49 (by decide) ?_
          refine AW.sub (lv1 := [(0, .ref a0), (1, .int x1), (4, .int x4)]) [0, 1, 3] rfl ?_
          exact wX9_safeOf_b59 _ ih _ _ _ _ _ _ _ _ hf
      · replace hf := iteT hf c9
        refine a_goto (tgt := 64) dX9_safeOf_23 (by decide) ?_
        refine a_iinc (v := x4 + (1 : Int32)) (lv1 := [(4, .int (x4 + (1 : Int32))), (0, .ref a0), (1, .int x1), (2, .long x2)]) dX9_safeOf_64 3 rfl rfl (by decide) rfl ?_
        refine a_goto (tgt := 5) dX9_safeOf_67 (by decide) ?_
        refine AW.sub (lv1 := [(0, .ref a0), (1, .int x1), (2, .long x2), (4, .int (x4 + (1 : Int32)))]) [1, 2, 3, 0] rfl ?_
        exact ih _ _ _ _ _ hf
set_option maxHeartbeats 4000000 in
set_option maxRecDepth 100000 in
theorem wX9_safeOf {l : Launch} {Γ : Gx} {a0 : Nat} {x1 : Int32} {M : Mm} {q : Int64 × Mm} (hf : fX9_safeOf a0 x1 M = some q) : AM l Γ 1 yX9_safeOf cX9_safeOf 5 ((some .long)) [.ref a0, .int x1] M (some (.long q.1)) q.2 := by
  unfold fX9_safeOf at hf
  refine AM.of mfX9_safeOf (Nat.le_of_ble_eq_true rfl) ?_
  generalize mT M = t0
  generalize mW M = w0
  show AW _ _ _ _ _ _ _ _ _ 0 [(0, .ref a0), (1, .int x1)] [] _ _ _
  obtain ⟨u0, eu0, hf⟩ := bnd hf
  refine a_lconst (v := 1) dX9_safeOf_0 rfl ?_
  refine a_lstore_n (i := 2) (lv1 := [(2, .long ((1 : Int64))), (0, .ref a0), (1, .int x1)]) dX9_safeOf_1 rfl (by decide) rfl ?_
  refine a_iconst (v := 0) dX9_safeOf_2 (by decide) ?_
  refine a_istore (i := 4) (lv1 := [(4, .int ((0 : Int32))), (2, .long ((1 : Int64))), (0, .ref a0), (1, .int x1)]) dX9_safeOf_3 (by decide) rfl ?_
  refine AW.sub (lv1 := [(0, .ref a0), (1, .int x1), (2, .long ((1 : Int64))), (4, .int ((0 : Int32)))]) [2, 3, 1, 0] rfl ?_
  exact wX9_safeOf_b5 _ _ _ _ _ _ hf
theorem kX9_safe {a0 : Nat} {x1 : Int32} {x2 : Int32} {M : Mm} {q : Int64 × Mm} (hf : fX9_safe a0 x1 x2 M = some q) : (mK M a0).1 = 10 := by
  unfold fX9_safe at hf
  obtain ⟨u0, eu0, -⟩ := bnd hf
  exact kc_of eu0
set_option maxHeartbeats 4000000 in
set_option maxRecDepth 100000 in
theorem wX9_safe {l : Launch} {Γ : Gx} {a0 : Nat} {x1 : Int32} {x2 : Int32} {M : Mm} {q : Int64 × Mm} (hf : fX9_safe a0 x1 x2 M = some q) : AM l Γ 2 yX9_safe cX9_safe 3 ((some .long)) [.ref a0, .int x1, .int x2] M (some (.long q.1)) q.2 := by
  unfold fX9_safe at hf
  refine AM.of mfX9_safe (Nat.le_of_ble_eq_true rfl) ?_
  generalize mT M = t0
  generalize mW M = w0
  show AW _ _ _ _ _ _ _ _ _ 0 [(0, .ref a0), (1, .int x1), (2, .int x2)] [] _ _ _
  obtain ⟨u0, eu0, hf⟩ := bnd hf
  refine a_aload_n dX9_safe_0 rfl 0 rfl ?_
  refine a_iload_n dX9_safe_1 rfl 1 rfl ?_
  obtain ⟨q1_, eq1_, hf⟩ := bnd hf
  refine a_callV (As := [.int x1]) (rest := []) dX9_safe_2 mfX9_isCell cvX9_151 (wX9_isCell eq1_) rc9 (kX9_isCell eq1_) (by decide) rfl rfl (Nat.le_of_ble_eq_true rfl) ?_
  refine a_if_eq dX9_safe_5 (tgt := 29) (by decide) (fun c9 => ?_) (fun c9 => ?_)
  · replace hf := iteT hf c9
    refine a_aload_n dX9_safe_29 rfl 0 rfl ?_
    refine a_iconst (v := -1) dX9_safe_30 (by decide) ?_
    obtain ⟨q2_, eq2_, hf⟩ := bnd hf
    refine a_callV (As := [.int ((-1 : Int32))]) (rest := []) dX9_safe_31 mfX9_no cvX9_122 (wX9_no eq2_) rc9 (kX9_no eq2_) (by decide) rfl rfl (Nat.le_of_ble_eq_true rfl) ?_
    refine a_i2l dX9_safe_34 ?_
    have e9 := Option.some.inj hf
    subst e9
    exact a_lret rfl dX9_safe_35 rfl
  · replace hf := iteF hf c9
    refine a_aload_n dX9_safe_8 rfl 0 rfl ?_
    refine a_iload_n dX9_safe_9 rfl 2 rfl ?_
    obtain ⟨q3_, eq3_, hf⟩ := bnd hf
    refine a_callV (As := [.int x2]) (rest := []) dX9_safe_10 mfX9_isCell cvX9_151 (wX9_isCell eq3_) rc9 (kX9_isCell eq3_) (by decide) rfl rfl (Nat.le_of_ble_eq_true rfl) ?_
    refine a_if_eq dX9_safe_13 (tgt := 29) (by decide) (fun c9 => ?_) (fun c9 => ?_)
    · replace hf := iteT hf c9
      refine a_aload_n dX9_safe_29 rfl 0 rfl ?_
      refine a_iconst (v := -1) dX9_safe_30 (by decide) ?_
      obtain ⟨q4_, eq4_, hf⟩ := bnd hf
      refine a_callV (As := [.int ((-1 : Int32))]) (rest := []) dX9_safe_31 mfX9_no cvX9_122 (wX9_no eq4_) rc9 (kX9_no eq4_) (by decide) rfl rfl (Nat.le_of_ble_eq_true rfl) ?_
      refine a_i2l dX9_safe_34 ?_
      have e9 := Option.some.inj hf
      subst e9
      exact a_lret rfl dX9_safe_35 rfl
    · replace hf := iteF hf c9
      refine a_aload_n dX9_safe_16 rfl 0 rfl ?_
      refine a_aload_n dX9_safe_17 rfl 0 rfl ?_
      refine a_iload_n dX9_safe_18 rfl 1 rfl ?_
      refine a_iload_n dX9_safe_19 rfl 2 rfl ?_
      obtain ⟨q5_, eq5_, hf⟩ := bnd hf
      refine a_callV (As := [.int x1, .int x2]) (rest := [.ref a0]) dX9_safe_20 mfX9_onWalk cvX9_278 (wX9_onWalk eq5_) rc9 (kX9_onWalk eq5_) (by decide) rfl rfl (Nat.le_of_ble_eq_true rfl) ?_
      obtain ⟨q6_, eq6_, hf⟩ := bnd hf
      refine a_callV (As := [.int q5_.1]) (rest := []) dX9_safe_23 mfX9_safeOf cvX9_281 (wX9_safeOf eq6_) rc9 (kX9_safeOf eq6_) (by decide) rfl rfl (Nat.le_of_ble_eq_true rfl) ?_
      refine a_goto (tgt := 35) dX9_safe_26 (by decide) ?_
      have e9 := Option.some.inj hf
      subst e9
      exact a_lret rfl dX9_safe_35 rfl
theorem kX9_firstOf {a0 : Nat} {x1 : Int32} {M : Mm} {q : Int32 × Mm} (hf : fX9_firstOf a0 x1 M = some q) : (mK M a0).1 = 10 := by
  unfold fX9_firstOf at hf
  obtain ⟨u0, eu0, -⟩ := bnd hf
  exact kc_of eu0
set_option maxHeartbeats 4000000 in
set_option maxRecDepth 100000 in
theorem wX9_firstOf_b57 {l : Launch} {Γ : Gx} {t0 w0 : Nat} {q : Int32 × Mm} (k7 : Nat → Int32 → Int32 → Int64 → Int32 → Mm → Option (Int32 × Mm)) (hk7 : ∀ (a0 : Nat) (x1 : Int32) (x2 : Int32) (x3 : Int64) (x5 : Int32) (M : Mm), k7 a0 x1 x2 x3 x5 M = some q → AW l Γ yX9_firstOf cX9_firstOf 8 ((some .int)) 2 t0 w0 7 [(0, .ref a0), (1, .int x1), (2, .int x2), (3, .long x3), (5, .int x5)] [] M (some (.int q.1)) q.2) (a0 : Nat) (x1 : Int32) (x5 : Int32) (x6 : Int64) (M : Mm) (hf : fX9_firstOf_b57 k7 a0 x1 x5 x6 M = some q) : AW l Γ yX9_firstOf cX9_firstOf 8 ((some .int)) 2 t0 w0 57 [(0, .ref a0), (1, .int x1), (5, .int x5), (6, .long x6)] [] M (some (.int q.1)) q.2 := by
  unfold fX9_firstOf_b57 at hf
  refine a_iload dX9_firstOf_57 2 rfl ?_
  refine a_istore_n (i := 2) (lv1 := [(2, .int x5), (0, .ref a0), (1, .int x1), (5, .int x5), (6, .long x6)]) dX9_firstOf_59 rfl (by decide) rfl ?_
  refine a_lload dX9_firstOf_60 4 rfl ?_
  refine a_lstore_n (i := 3) (lv1 := [(3, .long x6), (2, .int x5), (0, .ref a0), (1, .int x1), (5, .int x5), (6, .long x6)]) dX9_firstOf_62 rfl (by decide) rfl ?_
  refine a_iinc (v := x5 + (1 : Int32)) (lv1 := [(5, .int (x5 + (1 : Int32))), (3, .long x6), (2, .int x5), (0, .ref a0), (1, .int x1), (6, .long x6)]) dX9_firstOf_63 4 rfl rfl (by decide) rfl ?_
  refine a_goto (tgt := 7) dX9_firstOf_66 (by decide) ?_
  refine AW.sub (lv1 := [(0, .ref a0), (1, .int x1), (2, .int x5), (3, .long x6), (5, .int (x5 + (1 : Int32)))]) [3, 4, 2, 1, 0] rfl ?_
  exact hk7 _ _ _ _ _ _ hf
set_option maxHeartbeats 4000000 in
set_option maxRecDepth 100000 in
theorem wX9_firstOf_b7 {l : Launch} {Γ : Gx} {t0 w0 : Nat} {q : Int32 × Mm} : ∀ (n : Nat) (a0 : Nat) (x1 : Int32) (x2 : Int32) (x3 : Int64) (x5 : Int32) (M : Mm), fX9_firstOf_b7 n a0 x1 x2 x3 x5 M = some q → AW l Γ yX9_firstOf cX9_firstOf 8 ((some .int)) 2 t0 w0 7 [(0, .ref a0), (1, .int x1), (2, .int x2), (3, .long x3), (5, .int x5)] [] M (some (.int q.1)) q.2 := by
  intro n
  induction n with
  | zero =>
    intro a0 x1 x2 x3 x5 M hf
    cases hf
  | succ n ih =>
    intro a0 x1 x2 x3 x5 M hf
    rw [fX9_firstOf_b7.eq_2] at hf
    refine a_iload dX9_firstOf_7 4 rfl ?_
    refine a_aload_n dX9_firstOf_9 rfl 0 rfl ?_
    obtain ⟨v1_, ev1_, hf⟩ := bnd hf
    refine a_getI dX9_firstOf_10 flX9_143 rfl ev1_ ?_
    refine a_icmp_ge dX9_firstOf_13 (tgt := 69) (by decide) (fun c9 => ?_) (fun c9 => ?_)
    · replace hf := iteT hf c9
      refine a_iload_n dX9_firstOf_69 rfl 2 rfl ?_
      have e9 := Option.some.inj hf
      subst e9
      exact a_iret rfl dX9_firstOf_70 rfl
    · replace hf := iteF hf c9
      refine a_iload_n dX9_firstOf_16 rfl 1 rfl ?_
      refine a_iload dX9_firstOf_17 4 rfl ?_
      refine a_ishr dX9_firstOf_19 ?_
      refine a_iconst (v := 1) dX9_firstOf_20 (by decide) ?_
      refine a_iand dX9_firstOf_21 ?_
      refine a_if_ne dX9_firstOf_22 (tgt := 28) (by decide) (fun c9 => ?_) (fun c9 => ?_)
      · replace hf := iteF hf c9
        refine a_aload_n dX9_firstOf_28 rfl 0 rfl ?_
        refine a_iload_n dX9_firstOf_29 rfl 1 rfl ?_
        refine a_iconst (v := 1) dX9_firstOf_30 (by decide) ?_
        refine a_iload dX9_firstOf_31 4 rfl ?_
        refine a_ishl dX9_firstOf_33 ?_
        refine a_iconst (v := -1) dX9_firstOf_34 (by decide) ?_
        refine a_ixor dX9_firstOf_35 ?_
        refine a_iand dX9_firstOf_36 ?_
        obtain ⟨q2_, eq2_, hf⟩ := bnd hf
        refine a_callV (As := [.int (x1 &&& ((((1 : Int32)) <<< (x5 &&& 31)) ^^^ ((-1 : Int32))))]) (rest := []) dX9_firstOf_37 mfX9_safeOf cvX9_281 (wX9_safeOf eq2_) rc9 (kX9_safeOf eq2_) (by decide) rfl rfl (Nat.le_of_ble_eq_true rfl) ?_
        refine a_lstore (i := 6) (lv1 := [(6, .long q2_.1), (0, .ref a0), (1, .int x1), (2, .int x2), (3, .long x3), (5, .int x5)]) dX9_firstOf_40 (by decide) rfl ?_
        refine a_iload_n dX9_firstOf_42 rfl 3 rfl ?_
        refine a_iconst (v := -1) dX9_firstOf_43 (by decide) ?_
        refine a_icmp_eq dX9_firstOf_44 (tgt := 57) (by decide) (fun c9 => ?_) (fun c9 => ?_)
        · replace hf := iteT hf c9
          refine AW.sub (lv1 := [(0, .ref a0), (1, .int x1), (5, .int x5), (6, .long q2_.1)]) [1, 2, 5, 0] rfl ?_
          exact wX9_firstOf_b57 _ ih _ _ _ _ _ hf
        · replace hf := iteF hf c9
          refine a_lload dX9_firstOf_47 0 rfl ?_
          refine a_lload_n dX9_firstOf_49 rfl 4 rfl ?_
          refine a_lcmp_gt dX9_firstOf_50 dX9_firstOf_51 (tgt := 57) (by decide) (fun c9 => ?_) (fun c9 => ?_)
          · replace hf := iteT hf c9
            refine AW.sub (lv1 := [(0, .ref a0), (1, .int x1), (5, .int x5), (6, .long q2_.1)]) [1, 2, 5, 0] rfl ?_
            exact wX9_firstOf_b57 _ ih _ _ _ _ _ hf
          · replace hf := iteF hf c9
            refine a_goto (tgt := 63) dX9_firstOf_54 (by decide) ?_
            refine a_iinc (v := x5 + (1 : Int32)) (lv1 := [(5, .int (x5 + (1 : Int32))), (6, .long q2_.1), (0, .ref a0), (1, .int x1), (2, .int x2), (3, .long x3)]) dX9_firstOf_63 5 rfl rfl (by decide) rfl ?_
            refine a_goto (tgt := 7) dX9_firstOf_66 (by decide) ?_
            refine AW.sub (lv1 := [(0, .ref a0), (1, .int x1), (2, .int x2), (3, .long x3), (5, .int (x5 + (1 : Int32)))]) [2, 3, 4, 5, 0] rfl ?_
            exact ih _ _ _ _ _ _ hf
      · replace hf := iteT hf c9
        refine a_goto (tgt := 63) dX9_firstOf_25 (by decide) ?_
        refine a_iinc (v := x5 + (1 : Int32)) (lv1 := [(5, .int (x5 + (1 : Int32))), (0, .ref a0), (1, .int x1), (2, .int x2), (3, .long x3)]) dX9_firstOf_63 4 rfl rfl (by decide) rfl ?_
        refine a_goto (tgt := 7) dX9_firstOf_66 (by decide) ?_
        refine AW.sub (lv1 := [(0, .ref a0), (1, .int x1), (2, .int x2), (3, .long x3), (5, .int (x5 + (1 : Int32)))]) [1, 2, 3, 4, 0] rfl ?_
        exact ih _ _ _ _ _ _ hf
set_option maxHeartbeats 4000000 in
set_option maxRecDepth 100000 in
theorem wX9_firstOf {l : Launch} {Γ : Gx} {a0 : Nat} {x1 : Int32} {M : Mm} {q : Int32 × Mm} (hf : fX9_firstOf a0 x1 M = some q) : AM l Γ 2 yX9_firstOf cX9_firstOf 8 ((some .int)) [.ref a0, .int x1] M (some (.int q.1)) q.2 := by
  unfold fX9_firstOf at hf
  refine AM.of mfX9_firstOf (Nat.le_of_ble_eq_true rfl) ?_
  generalize mT M = t0
  generalize mW M = w0
  show AW _ _ _ _ _ _ _ _ _ 0 [(0, .ref a0), (1, .int x1)] [] _ _ _
  obtain ⟨u0, eu0, hf⟩ := bnd hf
  refine a_iconst (v := -1) dX9_firstOf_0 (by decide) ?_
  refine a_istore_n (i := 2) (lv1 := [(2, .int ((-1 : Int32))), (0, .ref a0), (1, .int x1)]) dX9_firstOf_1 rfl (by decide) rfl ?_
  refine a_lconst (v := 0) dX9_firstOf_2 rfl ?_
  refine a_lstore_n (i := 3) (lv1 := [(3, .long ((0 : Int64))), (2, .int ((-1 : Int32))), (0, .ref a0), (1, .int x1)]) dX9_firstOf_3 rfl (by decide) rfl ?_
  refine a_iconst (v := 0) dX9_firstOf_4 (by decide) ?_
  refine a_istore (i := 5) (lv1 := [(5, .int ((0 : Int32))), (3, .long ((0 : Int64))), (2, .int ((-1 : Int32))), (0, .ref a0), (1, .int x1)]) dX9_firstOf_5 (by decide) rfl ?_
  refine AW.sub (lv1 := [(0, .ref a0), (1, .int x1), (2, .int ((-1 : Int32))), (3, .long ((0 : Int64))), (5, .int ((0 : Int32)))]) [3, 4, 2, 1, 0] rfl ?_
  exact wX9_firstOf_b7 _ _ _ _ _ _ _ hf
theorem kX9_first {a0 : Nat} {x1 : Int32} {x2 : Int32} {M : Mm} {q : Int32 × Mm} (hf : fX9_first a0 x1 x2 M = some q) : (mK M a0).1 = 10 := by
  unfold fX9_first at hf
  obtain ⟨u0, eu0, -⟩ := bnd hf
  exact kc_of eu0
set_option maxHeartbeats 4000000 in
set_option maxRecDepth 100000 in
theorem wX9_first {l : Launch} {Γ : Gx} {a0 : Nat} {x1 : Int32} {x2 : Int32} {M : Mm} {q : Int32 × Mm} (hf : fX9_first a0 x1 x2 M = some q) : AM l Γ 3 yX9_first cX9_first 4 ((some .int)) [.ref a0, .int x1, .int x2] M (some (.int q.1)) q.2 := by
  unfold fX9_first at hf
  refine AM.of mfX9_first (Nat.le_of_ble_eq_true rfl) ?_
  generalize mT M = t0
  generalize mW M = w0
  show AW _ _ _ _ _ _ _ _ _ 0 [(0, .ref a0), (1, .int x1), (2, .int x2)] [] _ _ _
  obtain ⟨u0, eu0, hf⟩ := bnd hf
  refine a_aload_n dX9_first_0 rfl 0 rfl ?_
  refine a_iload_n dX9_first_1 rfl 1 rfl ?_
  obtain ⟨q1_, eq1_, hf⟩ := bnd hf
  refine a_callV (As := [.int x1]) (rest := []) dX9_first_2 mfX9_isCell cvX9_151 (wX9_isCell eq1_) rc9 (kX9_isCell eq1_) (by decide) rfl rfl (Nat.le_of_ble_eq_true rfl) ?_
  refine a_if_eq dX9_first_5 (tgt := 16) (by decide) (fun c9 => ?_) (fun c9 => ?_)
  · replace hf := iteT hf c9
    refine a_aload_n dX9_first_16 rfl 0 rfl ?_
    refine a_iconst (v := -1) dX9_first_17 (by decide) ?_
    obtain ⟨q2_, eq2_, hf⟩ := bnd hf
    refine a_callV (As := [.int ((-1 : Int32))]) (rest := []) dX9_first_18 mfX9_no cvX9_122 (wX9_no eq2_) rc9 (kX9_no eq2_) (by decide) rfl rfl (Nat.le_of_ble_eq_true rfl) ?_
    have e9 := Option.some.inj hf
    subst e9
    exact a_iret rfl dX9_first_21 rfl
  · replace hf := iteF hf c9
    refine a_aload_n dX9_first_8 rfl 0 rfl ?_
    refine a_iload_n dX9_first_9 rfl 2 rfl ?_
    obtain ⟨q3_, eq3_, hf⟩ := bnd hf
    refine a_callV (As := [.int x2]) (rest := []) dX9_first_10 mfX9_isCell cvX9_151 (wX9_isCell eq3_) rc9 (kX9_isCell eq3_) (by decide) rfl rfl (Nat.le_of_ble_eq_true rfl) ?_
    refine a_if_ne dX9_first_13 (tgt := 22) (by decide) (fun c9 => ?_) (fun c9 => ?_)
    · replace hf := iteF hf c9
      refine a_aload_n dX9_first_22 rfl 0 rfl ?_
      refine a_aload_n dX9_first_23 rfl 0 rfl ?_
      refine a_iload_n dX9_first_24 rfl 1 rfl ?_
      refine a_iload_n dX9_first_25 rfl 2 rfl ?_
      obtain ⟨q4_, eq4_, hf⟩ := bnd hf
      refine a_callV (As := [.int x1, .int x2]) (rest := [.ref a0]) dX9_first_26 mfX9_onWalk cvX9_278 (wX9_onWalk eq4_) rc9 (kX9_onWalk eq4_) (by decide) rfl rfl (Nat.le_of_ble_eq_true rfl) ?_
      obtain ⟨q5_, eq5_, hf⟩ := bnd hf
      refine a_callV (As := [.int q4_.1]) (rest := []) dX9_first_29 mfX9_firstOf cvX9_284 (wX9_firstOf eq5_) rc9 (kX9_firstOf eq5_) (by decide) rfl rfl (Nat.le_of_ble_eq_true rfl) ?_
      refine a_istore_n (i := 3) (lv1 := [(3, .int q5_.1), (0, .ref a0), (1, .int x1), (2, .int x2)]) dX9_first_32 rfl (by decide) rfl ?_
      refine a_iload_n dX9_first_33 rfl 0 rfl ?_
      refine a_iconst (v := -1) dX9_first_34 (by decide) ?_
      refine a_icmp_ne dX9_first_35 (tgt := 47) (by decide) (fun c9 => ?_) (fun c9 => ?_)
      · replace hf := iteF hf c9
        refine a_iload_n dX9_first_47 rfl 0 rfl ?_
        have e9 := Option.some.inj hf
        subst e9
        exact a_iret rfl dX9_first_48 rfl
      · replace hf := iteT hf c9
        refine a_aload_n dX9_first_38 rfl 1 rfl ?_
        refine a_bipush (v := -5) dX9_first_39 (by decide) ?_
        obtain ⟨q6_, eq6_, hf⟩ := bnd hf
        refine a_callV (As := [.int ((-5 : Int32))]) (rest := []) dX9_first_41 mfX9_no cvX9_122 (wX9_no eq6_) rc9 (kX9_no eq6_) (by decide) rfl rfl (Nat.le_of_ble_eq_true rfl) ?_
        refine a_goto (tgt := 48) dX9_first_44 (by decide) ?_
        have e9 := Option.some.inj hf
        subst e9
        exact a_iret rfl dX9_first_48 rfl
    · replace hf := iteT hf c9
      refine a_aload_n dX9_first_16 rfl 0 rfl ?_
      refine a_iconst (v := -1) dX9_first_17 (by decide) ?_
      obtain ⟨q7_, eq7_, hf⟩ := bnd hf
      refine a_callV (As := [.int ((-1 : Int32))]) (rest := []) dX9_first_18 mfX9_no cvX9_122 (wX9_no eq7_) rc9 (kX9_no eq7_) (by decide) rfl rfl (Nat.le_of_ble_eq_true rfl) ?_
      have e9 := Option.some.inj hf
      subst e9
      exact a_iret rfl dX9_first_21 rfl
theorem kX9_order {a0 : Nat} {x1 : Int32} {x2 : Int32} {x3 : Int32} {M : Mm} {q : Int32 × Mm} (hf : fX9_order a0 x1 x2 x3 M = some q) : (mK M a0).1 = 10 := by
  unfold fX9_order at hf
  obtain ⟨u0, eu0, -⟩ := bnd hf
  exact kc_of eu0
set_option maxHeartbeats 4000000 in
set_option maxRecDepth 100000 in
theorem wX9_order_b54 {l : Launch} {Γ : Gx} {t0 w0 : Nat} {q : Int32 × Mm} : ∀ (n : Nat) (a0 : Nat) (x3 : Int32) (x4 : Int32) (x5 : Int32) (M : Mm), fX9_order_b54 n a0 x3 x4 x5 M = some q → AW l Γ yX9_order cX9_order 6 ((some .int)) 3 t0 w0 54 [(0, .ref a0), (3, .int x3), (4, .int x4), (5, .int x5)] [] M (some (.int q.1)) q.2 := by
  intro n
  induction n with
  | zero =>
    intro a0 x3 x4 x5 M hf
    cases hf
  | succ n ih =>
    intro a0 x3 x4 x5 M hf
    rw [fX9_order_b54.eq_2] at hf
    refine a_iload dX9_order_54 3 rfl ?_
    refine a_iload_n dX9_order_56 rfl 1 rfl ?_
    refine a_icmp_ge dX9_order_57 (tgt := 81) (by decide) (fun c9 => ?_) (fun c9 => ?_)
    · replace hf := iteT hf c9
      refine a_aload_n dX9_order_81 rfl 0 rfl ?_
      refine a_iload dX9_order_82 2 rfl ?_
      obtain ⟨q1_, eq1_, hf⟩ := bnd hf
      refine a_callV (As := [.int x4]) (rest := []) dX9_order_84 mfX9_firstOf cvX9_284 (wX9_firstOf eq1_) rc9 (kX9_firstOf eq1_) (by decide) rfl rfl (Nat.le_of_ble_eq_true rfl) ?_
      have e9 := Option.some.inj hf
      subst e9
      exact a_iret rfl dX9_order_87 rfl
    · replace hf := iteF hf c9
      refine a_iload dX9_order_60 2 rfl ?_
      refine a_iconst (v := 1) dX9_order_62 (by decide) ?_
      refine a_aload_n dX9_order_63 rfl 0 rfl ?_
      refine a_iload dX9_order_64 2 rfl ?_
      obtain ⟨q2_, eq2_, hf⟩ := bnd hf
      refine a_callV (As := [.int x4]) (rest := [.int ((1 : Int32)), .int x4]) dX9_order_66 mfX9_firstOf cvX9_284 (wX9_firstOf eq2_) rc9 (kX9_firstOf eq2_) (by decide) rfl rfl (Nat.le_of_ble_eq_true rfl) ?_
      refine a_ishl dX9_order_69 ?_
      refine a_iconst (v := -1) dX9_order_70 (by decide) ?_
      refine a_ixor dX9_order_71 ?_
      refine a_iand dX9_order_72 ?_
      refine a_istore (i := 4) (lv1 := [(4, .int (x4 &&& ((((1 : Int32)) <<< (q2_.1 &&& 31)) ^^^ ((-1 : Int32))))), (0, .ref a0), (3, .int x3), (5, .int x5)]) dX9_order_73 (by decide) rfl ?_
      refine a_iinc (v := x5 + (1 : Int32)) (lv1 := [(5, .int (x5 + (1 : Int32))), (4, .int (x4 &&& ((((1 : Int32)) <<< (q2_.1 &&& 31)) ^^^ ((-1 : Int32))))), (0, .ref a0), (3, .int x3)]) dX9_order_75 3 rfl rfl (by decide) rfl ?_
      refine a_goto (tgt := 54) dX9_order_78 (by decide) ?_
      refine AW.sub (lv1 := [(0, .ref a0), (3, .int x3), (4, .int (x4 &&& ((((1 : Int32)) <<< (q2_.1 &&& 31)) ^^^ ((-1 : Int32))))), (5, .int (x5 + (1 : Int32)))]) [2, 3, 1, 0] rfl ?_
      exact ih _ _ _ _ _ hf
set_option maxHeartbeats 4000000 in
set_option maxRecDepth 100000 in
theorem wX9_order {l : Launch} {Γ : Gx} {a0 : Nat} {x1 : Int32} {x2 : Int32} {x3 : Int32} {M : Mm} {q : Int32 × Mm} (hf : fX9_order a0 x1 x2 x3 M = some q) : AM l Γ 3 yX9_order cX9_order 6 ((some .int)) [.ref a0, .int x1, .int x2, .int x3] M (some (.int q.1)) q.2 := by
  unfold fX9_order at hf
  refine AM.of mfX9_order (Nat.le_of_ble_eq_true rfl) ?_
  generalize mT M = t0
  generalize mW M = w0
  show AW _ _ _ _ _ _ _ _ _ 0 [(0, .ref a0), (1, .int x1), (2, .int x2), (3, .int x3)] [] _ _ _
  obtain ⟨u0, eu0, hf⟩ := bnd hf
  refine a_aload_n dX9_order_0 rfl 0 rfl ?_
  refine a_iload_n dX9_order_1 rfl 1 rfl ?_
  obtain ⟨q1_, eq1_, hf⟩ := bnd hf
  refine a_callV (As := [.int x1]) (rest := []) dX9_order_2 mfX9_isCell cvX9_151 (wX9_isCell eq1_) rc9 (kX9_isCell eq1_) (by decide) rfl rfl (Nat.le_of_ble_eq_true rfl) ?_
  refine a_if_eq dX9_order_5 (tgt := 16) (by decide) (fun c9 => ?_) (fun c9 => ?_)
  · replace hf := iteT hf c9
    refine a_aload_n dX9_order_16 rfl 0 rfl ?_
    refine a_iconst (v := -1) dX9_order_17 (by decide) ?_
    obtain ⟨q2_, eq2_, hf⟩ := bnd hf
    refine a_callV (As := [.int ((-1 : Int32))]) (rest := []) dX9_order_18 mfX9_no cvX9_122 (wX9_no eq2_) rc9 (kX9_no eq2_) (by decide) rfl rfl (Nat.le_of_ble_eq_true rfl) ?_
    have e9 := Option.some.inj hf
    subst e9
    exact a_iret rfl dX9_order_21 rfl
  · replace hf := iteF hf c9
    refine a_aload_n dX9_order_8 rfl 0 rfl ?_
    refine a_iload_n dX9_order_9 rfl 2 rfl ?_
    obtain ⟨q3_, eq3_, hf⟩ := bnd hf
    refine a_callV (As := [.int x2]) (rest := []) dX9_order_10 mfX9_isCell cvX9_151 (wX9_isCell eq3_) rc9 (kX9_isCell eq3_) (by decide) rfl rfl (Nat.le_of_ble_eq_true rfl) ?_
    refine a_if_ne dX9_order_13 (tgt := 22) (by decide) (fun c9 => ?_) (fun c9 => ?_)
    · replace hf := iteF hf c9
      refine a_aload_n dX9_order_22 rfl 0 rfl ?_
      refine a_iload_n dX9_order_23 rfl 1 rfl ?_
      refine a_iload_n dX9_order_24 rfl 2 rfl ?_
      obtain ⟨q4_, eq4_, hf⟩ := bnd hf
      refine a_callV (As := [.int x1, .int x2]) (rest := []) dX9_order_25 mfX9_onWalk cvX9_278 (wX9_onWalk eq4_) rc9 (kX9_onWalk eq4_) (by decide) rfl rfl (Nat.le_of_ble_eq_true rfl) ?_
      refine a_istore (i := 4) (lv1 := [(4, .int q4_.1), (0, .ref a0), (1, .int x1), (2, .int x2), (3, .int x3)]) dX9_order_28 (by decide) rfl ?_
      refine a_iload_n dX9_order_30 rfl 4 rfl ?_
      refine a_if_lt dX9_order_31 (tgt := 44) (by decide) (fun c9 => ?_) (fun c9 => ?_)
      · replace hf := iteT hf c9
        refine a_aload_n dX9_order_44 rfl 1 rfl ?_
        refine a_bipush (v := -5) dX9_order_45 (by decide) ?_
        obtain ⟨q5_, eq5_, hf⟩ := bnd hf
        refine a_callV (As := [.int ((-5 : Int32))]) (rest := []) dX9_order_47 mfX9_no cvX9_122 (wX9_no eq5_) rc9 (kX9_no eq5_) (by decide) rfl rfl (Nat.le_of_ble_eq_true rfl) ?_
        have e9 := Option.some.inj hf
        subst e9
        exact a_iret rfl dX9_order_50 rfl
      · replace hf := iteF hf c9
        refine a_iload_n dX9_order_34 rfl 4 rfl ?_
        refine a_aload_n dX9_order_35 rfl 1 rfl ?_
        refine a_iload dX9_order_36 0 rfl ?_
        obtain ⟨q6_, eq6_, hf⟩ := bnd hf
        refine a_callV (As := [.int q4_.1]) (rest := [.int x3]) dX9_order_38 mfX9_count cvX9_262 (wX9_count eq6_) rc9 (kX9_count eq6_) (by decide) rfl rfl (Nat.le_of_ble_eq_true rfl) ?_
        refine a_icmp_lt dX9_order_41 (tgt := 51) (by decide) (fun c9 => ?_) (fun c9 => ?_)
        · replace hf := iteT hf c9
          refine a_iconst (v := 0) dX9_order_51 (by decide) ?_
          refine a_istore (i := 5) (lv1 := [(5, .int ((0 : Int32))), (4, .int q4_.1), (0, .ref a0), (1, .int x1), (2, .int x2), (3, .int x3)]) dX9_order_52 (by decide) rfl ?_
          refine AW.sub (lv1 := [(0, .ref a0), (3, .int x3), (4, .int q4_.1), (5, .int ((0 : Int32)))]) [2, 5, 1, 0] rfl ?_
          exact wX9_order_b54 _ _ _ _ _ _ hf
        · replace hf := iteF hf c9
          refine a_aload_n dX9_order_44 rfl 1 rfl ?_
          refine a_bipush (v := -5) dX9_order_45 (by decide) ?_
          obtain ⟨q7_, eq7_, hf⟩ := bnd hf
          refine a_callV (As := [.int ((-5 : Int32))]) (rest := []) dX9_order_47 mfX9_no cvX9_122 (wX9_no eq7_) rc9 (kX9_no eq7_) (by decide) rfl rfl (Nat.le_of_ble_eq_true rfl) ?_
          have e9 := Option.some.inj hf
          subst e9
          exact a_iret rfl dX9_order_50 rfl
    · replace hf := iteT hf c9
      refine a_aload_n dX9_order_16 rfl 0 rfl ?_
      refine a_iconst (v := -1) dX9_order_17 (by decide) ?_
      obtain ⟨q8_, eq8_, hf⟩ := bnd hf
      refine a_callV (As := [.int ((-1 : Int32))]) (rest := []) dX9_order_18 mfX9_no cvX9_122 (wX9_no eq8_) rc9 (kX9_no eq8_) (by decide) rfl rfl (Nat.le_of_ble_eq_true rfl) ?_
      have e9 := Option.some.inj hf
      subst e9
      exact a_iret rfl dX9_order_21 rfl
theorem kX9_over {a0 : Nat} {x1 : Int32} {x2 : Int32} {x3 : Int32} {x4 : Int32} {M : Mm} {q : Int32 × Mm} (hf : fX9_over a0 x1 x2 x3 x4 M = some q) : (mK M a0).1 = 10 := by
  unfold fX9_over at hf
  obtain ⟨u0, eu0, -⟩ := bnd hf
  exact kc_of eu0
set_option maxHeartbeats 4000000 in
set_option maxRecDepth 100000 in
theorem wX9_over_b161 {l : Launch} {Γ : Gx} {t0 w0 : Nat} {q : Int32 × Mm} (k91 : Nat → Int32 → Int32 → Int32 → Int32 → Int32 → Mm → Option (Int32 × Mm)) (hk91 : ∀ (a0 : Nat) (x1 : Int32) (x2 : Int32) (x3 : Int32) (x4 : Int32) (x5 : Int32) (M : Mm), k91 a0 x1 x2 x3 x4 x5 M = some q → AW l Γ yX9_over cX9_over 7 ((some .int)) 2 t0 w0 91 [(0, .ref a0), (1, .int x1), (2, .int x2), (3, .int x3), (4, .int x4), (5, .int x5)] [] M (some (.int q.1)) q.2) : ∀ (n : Nat) (a0 : Nat) (x1 : Int32) (x2 : Int32) (x3 : Int32) (x4 : Int32) (x5 : Int32) (x6 : Int32) (M : Mm), fX9_over_b161 k91 n a0 x1 x2 x3 x4 x5 x6 M = some q → AW l Γ yX9_over cX9_over 7 ((some .int)) 2 t0 w0 161 [(0, .ref a0), (1, .int x1), (2, .int x2), (3, .int x3), (4, .int x4), (5, .int x5), (6, .int x6)] [] M (some (.int q.1)) q.2 := by
  intro n
  induction n with
  | zero =>
    intro a0 x1 x2 x3 x4 x5 x6 M hf
    cases hf
  | succ n ih =>
    intro a0 x1 x2 x3 x4 x5 x6 M hf
    rw [fX9_over_b161.eq_2] at hf
    refine a_iload dX9_over_161 6 rfl ?_
    refine a_bipush (v := 20) dX9_over_163 (by decide) ?_
    refine a_icmp_ge dX9_over_165 (tgt := 188) (by decide) (fun c9 => ?_) (fun c9 => ?_)
    · replace hf := iteT hf c9
      refine a_iinc (v := x5 + (1 : Int32)) (lv1 := [(5, .int (x5 + (1 : Int32))), (0, .ref a0), (1, .int x1), (2, .int x2), (3, .int x3), (4, .int x4), (6, .int x6)]) dX9_over_188 5 rfl rfl (by decide) rfl ?_
      refine a_goto (tgt := 91) dX9_over_191 (by decide) ?_
      refine AW.sub (lv1 := [(0, .ref a0), (1, .int x1), (2, .int x2), (3, .int x3), (4, .int x4), (5, .int (x5 + (1 : Int32)))]) [1, 2, 3, 4, 5, 0] rfl ?_
      exact hk91 _ _ _ _ _ _ _ hf
    · replace hf := iteF hf c9
      refine a_aload_n dX9_over_168 rfl 0 rfl ?_
      obtain ⟨o1_, eo1_, hf⟩ := bnd hf
      refine a_getR dX9_over_169 flX9_102 rfl eo1_ ?_
      refine a_iload dX9_over_172 6 rfl ?_
      refine a_aload_n dX9_over_174 rfl 0 rfl ?_
      obtain ⟨o2_, eo2_, hf⟩ := bnd hf
      refine a_getR dX9_over_175 flX9_105 rfl eo2_ ?_
      refine a_iload dX9_over_178 6 rfl ?_
      obtain ⟨v3_, ev3_, hf⟩ := bnd hf
      refine a_iald dX9_over_180 ev3_ ?_
      obtain ⟨M4_, eM4_, hf⟩ := bnd hf
      refine a_iast dX9_over_181 eM4_ ?_
      refine a_iinc (v := x6 + (1 : Int32)) (lv1 := [(6, .int (x6 + (1 : Int32))), (0, .ref a0), (1, .int x1), (2, .int x2), (3, .int x3), (4, .int x4), (5, .int x5)]) dX9_over_182 6 rfl rfl (by decide) rfl ?_
      refine a_goto (tgt := 161) dX9_over_185 (by decide) ?_
      refine AW.sub (lv1 := [(0, .ref a0), (1, .int x1), (2, .int x2), (3, .int x3), (4, .int x4), (5, .int x5), (6, .int (x6 + (1 : Int32)))]) [1, 2, 3, 4, 5, 6, 0] rfl ?_
      exact ih _ _ _ _ _ _ _ _ hf
set_option maxHeartbeats 4000000 in
set_option maxRecDepth 100000 in
theorem wX9_over_b100 {l : Launch} {Γ : Gx} {t0 w0 : Nat} {q : Int32 × Mm} (k91 : Nat → Int32 → Int32 → Int32 → Int32 → Int32 → Mm → Option (Int32 × Mm)) (hk91 : ∀ (a0 : Nat) (x1 : Int32) (x2 : Int32) (x3 : Int32) (x4 : Int32) (x5 : Int32) (M : Mm), k91 a0 x1 x2 x3 x4 x5 M = some q → AW l Γ yX9_over cX9_over 7 ((some .int)) 2 t0 w0 91 [(0, .ref a0), (1, .int x1), (2, .int x2), (3, .int x3), (4, .int x4), (5, .int x5)] [] M (some (.int q.1)) q.2) : ∀ (n : Nat) (a0 : Nat) (x1 : Int32) (x2 : Int32) (x3 : Int32) (x4 : Int32) (x5 : Int32) (x6 : Int32) (M : Mm), fX9_over_b100 k91 n a0 x1 x2 x3 x4 x5 x6 M = some q → AW l Γ yX9_over cX9_over 7 ((some .int)) 2 t0 w0 100 [(0, .ref a0), (1, .int x1), (2, .int x2), (3, .int x3), (4, .int x4), (5, .int x5), (6, .int x6)] [] M (some (.int q.1)) q.2 := by
  intro n
  induction n with
  | zero =>
    intro a0 x1 x2 x3 x4 x5 x6 M hf
    cases hf
  | succ n ih =>
    intro a0 x1 x2 x3 x4 x5 x6 M hf
    rw [fX9_over_b100.eq_2] at hf
    refine a_iload dX9_over_100 6 rfl ?_
    refine a_bipush (v := 20) dX9_over_102 (by decide) ?_
    refine a_icmp_ge dX9_over_104 (tgt := 158) (by decide) (fun c9 => ?_) (fun c9 => ?_)
    · replace hf := iteT hf c9
      refine a_iconst (v := 1) dX9_over_158 (by decide) ?_
      refine a_istore (i := 6) (lv1 := [(6, .int ((1 : Int32))), (0, .ref a0), (1, .int x1), (2, .int x2), (3, .int x3), (4, .int x4), (5, .int x5)]) dX9_over_159 (by decide) rfl ?_
      refine AW.sub (lv1 := [(0, .ref a0), (1, .int x1), (2, .int x2), (3, .int x3), (4, .int x4), (5, .int x5), (6, .int ((1 : Int32)))]) [1, 2, 3, 4, 5, 6, 0] rfl ?_
      exact wX9_over_b161 _ hk91 _ _ _ _ _ _ _ _ _ hf
    · replace hf := iteF hf c9
      refine a_aload_n dX9_over_107 rfl 0 rfl ?_
      obtain ⟨o1_, eo1_, hf⟩ := bnd hf
      refine a_getR dX9_over_108 flX9_105 rfl eo1_ ?_
      refine a_iload dX9_over_111 6 rfl ?_
      refine a_aload_n dX9_over_113 rfl 0 rfl ?_
      obtain ⟨o2_, eo2_, hf⟩ := bnd hf
      refine a_getR dX9_over_114 flX9_102 rfl eo2_ ?_
      refine a_iload dX9_over_117 6 rfl ?_
      obtain ⟨v3_, ev3_, hf⟩ := bnd hf
      refine a_iald dX9_over_119 ev3_ ?_
      refine a_bipush (v := 10) dX9_over_120 (by decide) ?_
      refine a_iload_n dX9_over_122 rfl 2 rfl ?_
      refine a_isub dX9_over_123 ?_
      refine a_iload_n dX9_over_124 rfl 3 rfl ?_
      refine a_isub dX9_over_125 ?_
      refine a_imul dX9_over_126 ?_
      refine a_aload_n dX9_over_127 rfl 0 rfl ?_
      obtain ⟨o4_, eo4_, hf⟩ := bnd hf
      refine a_getR dX9_over_128 flX9_102 rfl eo4_ ?_
      refine a_iload dX9_over_131 6 rfl ?_
      refine a_iconst (v := 1) dX9_over_133 (by decide) ?_
      refine a_iadd dX9_over_134 ?_
      obtain ⟨v5_, ev5_, hf⟩ := bnd hf
      refine a_iald dX9_over_135 ev5_ ?_
      refine a_iload_n dX9_over_136 rfl 2 rfl ?_
      refine a_imul dX9_over_137 ?_
      refine a_iadd dX9_over_138 ?_
      refine a_aload_n dX9_over_139 rfl 0 rfl ?_
      obtain ⟨o6_, eo6_, hf⟩ := bnd hf
      refine a_getR dX9_over_140 flX9_102 rfl eo6_ ?_
      refine a_iload dX9_over_143 6 rfl ?_
      refine a_iconst (v := 1) dX9_over_145 (by decide) ?_
      refine a_isub dX9_over_146 ?_
      obtain ⟨v7_, ev7_, hf⟩ := bnd hf
      refine a_iald dX9_over_147 ev7_ ?_
      refine a_iload_n dX9_over_148 rfl 3 rfl ?_
      refine a_imul dX9_over_149 ?_
      refine a_iadd dX9_over_150 ?_
      obtain ⟨M8_, eM8_, hf⟩ := bnd hf
      refine a_iast dX9_over_151 eM8_ ?_
      refine a_iinc (v := x6 + (1 : Int32)) (lv1 := [(6, .int (x6 + (1 : Int32))), (0, .ref a0), (1, .int x1), (2, .int x2), (3, .int x3), (4, .int x4), (5, .int x5)]) dX9_over_152 6 rfl rfl (by decide) rfl ?_
      refine a_goto (tgt := 100) dX9_over_155 (by decide) ?_
      refine AW.sub (lv1 := [(0, .ref a0), (1, .int x1), (2, .int x2), (3, .int x3), (4, .int x4), (5, .int x5), (6, .int (x6 + (1 : Int32)))]) [1, 2, 3, 4, 5, 6, 0] rfl ?_
      exact ih _ _ _ _ _ _ _ _ hf
set_option maxHeartbeats 4000000 in
set_option maxRecDepth 100000 in
theorem wX9_over_b91 {l : Launch} {Γ : Gx} {t0 w0 : Nat} {q : Int32 × Mm} : ∀ (n : Nat) (a0 : Nat) (x1 : Int32) (x2 : Int32) (x3 : Int32) (x4 : Int32) (x5 : Int32) (M : Mm), fX9_over_b91 n a0 x1 x2 x3 x4 x5 M = some q → AW l Γ yX9_over cX9_over 7 ((some .int)) 2 t0 w0 91 [(0, .ref a0), (1, .int x1), (2, .int x2), (3, .int x3), (4, .int x4), (5, .int x5)] [] M (some (.int q.1)) q.2 := by
  intro n
  induction n with
  | zero =>
    intro a0 x1 x2 x3 x4 x5 M hf
    cases hf
  | succ n ih =>
    intro a0 x1 x2 x3 x4 x5 M hf
    rw [fX9_over_b91.eq_2] at hf
    refine a_iload dX9_over_91 5 rfl ?_
    refine a_iload_n dX9_over_93 rfl 1 rfl ?_
    refine a_icmp_ge dX9_over_94 (tgt := 194) (by decide) (fun c9 => ?_) (fun c9 => ?_)
    · replace hf := iteT hf c9
      refine a_aload_n dX9_over_194 rfl 0 rfl ?_
      obtain ⟨o1_, eo1_, hf⟩ := bnd hf
      refine a_getR dX9_over_195 flX9_102 rfl eo1_ ?_
      refine a_bipush (v := 10) dX9_over_198 (by decide) ?_
      refine a_iload dX9_over_200 4 rfl ?_
      refine a_iadd dX9_over_202 ?_
      obtain ⟨v2_, ev2_, hf⟩ := bnd hf
      refine a_iald dX9_over_203 ev2_ ?_
      have e9 := Option.some.inj hf
      subst e9
      exact a_iret rfl dX9_over_204 rfl
    · replace hf := iteF hf c9
      refine a_iconst (v := 1) dX9_over_97 (by decide) ?_
      refine a_istore (i := 6) (lv1 := [(6, .int ((1 : Int32))), (0, .ref a0), (1, .int x1), (2, .int x2), (3, .int x3), (4, .int x4), (5, .int x5)]) dX9_over_98 (by decide) rfl ?_
      refine AW.sub (lv1 := [(0, .ref a0), (1, .int x1), (2, .int x2), (3, .int x3), (4, .int x4), (5, .int x5), (6, .int ((1 : Int32)))]) [1, 2, 3, 4, 5, 6, 0] rfl ?_
      exact wX9_over_b100 _ ih _ _ _ _ _ _ _ _ _ hf
set_option maxHeartbeats 4000000 in
set_option maxRecDepth 100000 in
theorem wX9_over_b56 {l : Launch} {Γ : Gx} {t0 w0 : Nat} {q : Int32 × Mm} : ∀ (n : Nat) (a0 : Nat) (x1 : Int32) (x2 : Int32) (x3 : Int32) (x4 : Int32) (x5 : Int32) (M : Mm), fX9_over_b56 n a0 x1 x2 x3 x4 x5 M = some q → AW l Γ yX9_over cX9_over 7 ((some .int)) 2 t0 w0 56 [(0, .ref a0), (1, .int x1), (2, .int x2), (3, .int x3), (4, .int x4), (5, .int x5)] [] M (some (.int q.1)) q.2 := by
  intro n
  induction n with
  | zero =>
    intro a0 x1 x2 x3 x4 x5 M hf
    cases hf
  | succ n ih =>
    intro a0 x1 x2 x3 x4 x5 M hf
    rw [fX9_over_b56.eq_2] at hf
    refine a_iload dX9_over_56 5 rfl ?_
    refine a_bipush (v := 21) dX9_over_58 (by decide) ?_
    refine a_icmp_ge dX9_over_60 (tgt := 88) (by decide) (fun c9 => ?_) (fun c9 => ?_)
    · replace hf := iteT hf c9
      refine a_iconst (v := 0) dX9_over_88 (by decide) ?_
      refine a_istore (i := 5) (lv1 := [(5, .int ((0 : Int32))), (0, .ref a0), (1, .int x1), (2, .int x2), (3, .int x3), (4, .int x4)]) dX9_over_89 (by decide) rfl ?_
      refine AW.sub (lv1 := [(0, .ref a0), (1, .int x1), (2, .int x2), (3, .int x3), (4, .int x4), (5, .int ((0 : Int32)))]) [1, 2, 3, 4, 5, 0] rfl ?_
      exact wX9_over_b91 _ _ _ _ _ _ _ _ hf
    · replace hf := iteF hf c9
      refine a_aload_n dX9_over_63 rfl 0 rfl ?_
      obtain ⟨o1_, eo1_, hf⟩ := bnd hf
      refine a_getR dX9_over_64 flX9_102 rfl eo1_ ?_
      refine a_iload dX9_over_67 5 rfl ?_
      refine a_iload dX9_over_69 5 rfl ?_
      refine a_bipush (v := 10) dX9_over_71 (by decide) ?_
      refine a_icmp_ne dX9_over_73 (tgt := 80) (by decide) (fun c9 => ?_) (fun c9 => ?_)
      · replace hf := iteF hf c9
        refine a_iconst (v := 0) dX9_over_80 (by decide) ?_
        obtain ⟨M2_, eM2_, hf⟩ := bnd hf
        refine a_iast dX9_over_81 eM2_ ?_
        refine a_iinc (v := x5 + (1 : Int32)) (lv1 := [(5, .int (x5 + (1 : Int32))), (0, .ref a0), (1, .int x1), (2, .int x2), (3, .int x3), (4, .int x4)]) dX9_over_82 5 rfl rfl (by decide) rfl ?_
        refine a_goto (tgt := 56) dX9_over_85 (by decide) ?_
        refine AW.sub (lv1 := [(0, .ref a0), (1, .int x1), (2, .int x2), (3, .int x3), (4, .int x4), (5, .int (x5 + (1 : Int32)))]) [1, 2, 3, 4, 5, 0] rfl ?_
        exact ih _ _ _ _ _ _ _ hf
      · replace hf := iteT hf c9
        refine a_iconst (v := 1) dX9_over_76 (by decide) ?_
        refine a_goto (tgt := 81) dX9_over_77 (by decide) ?_
        obtain ⟨M3_, eM3_, hf⟩ := bnd hf
        refine a_iast dX9_over_81 eM3_ ?_
        refine a_iinc (v := x5 + (1 : Int32)) (lv1 := [(5, .int (x5 + (1 : Int32))), (0, .ref a0), (1, .int x1), (2, .int x2), (3, .int x3), (4, .int x4)]) dX9_over_82 5 rfl rfl (by decide) rfl ?_
        refine a_goto (tgt := 56) dX9_over_85 (by decide) ?_
        refine AW.sub (lv1 := [(0, .ref a0), (1, .int x1), (2, .int x2), (3, .int x3), (4, .int x4), (5, .int (x5 + (1 : Int32)))]) [1, 2, 3, 4, 5, 0] rfl ?_
        exact ih _ _ _ _ _ _ _ hf
set_option maxHeartbeats 4000000 in
set_option maxRecDepth 100000 in
theorem wX9_over {l : Launch} {Γ : Gx} {a0 : Nat} {x1 : Int32} {x2 : Int32} {x3 : Int32} {x4 : Int32} {M : Mm} {q : Int32 × Mm} (hf : fX9_over a0 x1 x2 x3 x4 M = some q) : AM l Γ 2 yX9_over cX9_over 7 ((some .int)) [.ref a0, .int x1, .int x2, .int x3, .int x4] M (some (.int q.1)) q.2 := by
  unfold fX9_over at hf
  refine AM.of mfX9_over (Nat.le_of_ble_eq_true rfl) ?_
  generalize mT M = t0
  generalize mW M = w0
  show AW _ _ _ _ _ _ _ _ _ 0 [(0, .ref a0), (1, .int x1), (2, .int x2), (3, .int x3), (4, .int x4)] [] _ _ _
  obtain ⟨u0, eu0, hf⟩ := bnd hf
  refine a_iload_n dX9_over_0 rfl 1 rfl ?_
  refine a_iconst (v := 1) dX9_over_1 (by decide) ?_
  refine a_icmp_lt dX9_over_2 (tgt := 46) (by decide) (fun c9 => ?_) (fun c9 => ?_)
  · replace hf := iteT hf c9
    refine a_aload_n dX9_over_46 rfl 0 rfl ?_
    refine a_bipush (v := -6) dX9_over_47 (by decide) ?_
    obtain ⟨q1_, eq1_, hf⟩ := bnd hf
    refine a_callV (As := [.int ((-6 : Int32))]) (rest := []) dX9_over_49 mfX9_no cvX9_122 (wX9_no eq1_) rc9 (kX9_no eq1_) (by decide) rfl rfl (Nat.le_of_ble_eq_true rfl) ?_
    have e9 := Option.some.inj hf
    subst e9
    exact a_iret rfl dX9_over_52 rfl
  · replace hf := iteF hf c9
    refine a_iload_n dX9_over_5 rfl 1 rfl ?_
    refine a_bipush (v := 9) dX9_over_6 (by decide) ?_
    refine a_icmp_gt dX9_over_8 (tgt := 46) (by decide) (fun c9 => ?_) (fun c9 => ?_)
    · replace hf := iteT hf c9
      refine a_aload_n dX9_over_46 rfl 0 rfl ?_
      refine a_bipush (v := -6) dX9_over_47 (by decide) ?_
      obtain ⟨q2_, eq2_, hf⟩ := bnd hf
      refine a_callV (As := [.int ((-6 : Int32))]) (rest := []) dX9_over_49 mfX9_no cvX9_122 (wX9_no eq2_) rc9 (kX9_no eq2_) (by decide) rfl rfl (Nat.le_of_ble_eq_true rfl) ?_
      have e9 := Option.some.inj hf
      subst e9
      exact a_iret rfl dX9_over_52 rfl
    · replace hf := iteF hf c9
      refine a_iload_n dX9_over_11 rfl 2 rfl ?_
      refine a_if_lt dX9_over_12 (tgt := 46) (by decide) (fun c9 => ?_) (fun c9 => ?_)
      · replace hf := iteT hf c9
        refine a_aload_n dX9_over_46 rfl 0 rfl ?_
        refine a_bipush (v := -6) dX9_over_47 (by decide) ?_
        obtain ⟨q3_, eq3_, hf⟩ := bnd hf
        refine a_callV (As := [.int ((-6 : Int32))]) (rest := []) dX9_over_49 mfX9_no cvX9_122 (wX9_no eq3_) rc9 (kX9_no eq3_) (by decide) rfl rfl (Nat.le_of_ble_eq_true rfl) ?_
        have e9 := Option.some.inj hf
        subst e9
        exact a_iret rfl dX9_over_52 rfl
      · replace hf := iteF hf c9
        refine a_iload_n dX9_over_15 rfl 3 rfl ?_
        refine a_if_lt dX9_over_16 (tgt := 46) (by decide) (fun c9 => ?_) (fun c9 => ?_)
        · replace hf := iteT hf c9
          refine a_aload_n dX9_over_46 rfl 0 rfl ?_
          refine a_bipush (v := -6) dX9_over_47 (by decide) ?_
          obtain ⟨q4_, eq4_, hf⟩ := bnd hf
          refine a_callV (As := [.int ((-6 : Int32))]) (rest := []) dX9_over_49 mfX9_no cvX9_122 (wX9_no eq4_) rc9 (kX9_no eq4_) (by decide) rfl rfl (Nat.le_of_ble_eq_true rfl) ?_
          have e9 := Option.some.inj hf
          subst e9
          exact a_iret rfl dX9_over_52 rfl
        · replace hf := iteF hf c9
          refine a_iload_n dX9_over_19 rfl 2 rfl ?_
          refine a_bipush (v := 10) dX9_over_20 (by decide) ?_
          refine a_icmp_gt dX9_over_22 (tgt := 46) (by decide) (fun c9 => ?_) (fun c9 => ?_)
          · replace hf := iteT hf c9
            refine a_aload_n dX9_over_46 rfl 0 rfl ?_
            refine a_bipush (v := -6) dX9_over_47 (by decide) ?_
            obtain ⟨q5_, eq5_, hf⟩ := bnd hf
            refine a_callV (As := [.int ((-6 : Int32))]) (rest := []) dX9_over_49 mfX9_no cvX9_122 (wX9_no eq5_) rc9 (kX9_no eq5_) (by decide) rfl rfl (Nat.le_of_ble_eq_true rfl) ?_
            have e9 := Option.some.inj hf
            subst e9
            exact a_iret rfl dX9_over_52 rfl
          · replace hf := iteF hf c9
            refine a_iload_n dX9_over_25 rfl 3 rfl ?_
            refine a_bipush (v := 10) dX9_over_26 (by decide) ?_
            refine a_iload_n dX9_over_28 rfl 2 rfl ?_
            refine a_isub dX9_over_29 ?_
            refine a_icmp_gt dX9_over_30 (tgt := 46) (by decide) (fun c9 => ?_) (fun c9 => ?_)
            · replace hf := iteT hf c9
              refine a_aload_n dX9_over_46 rfl 0 rfl ?_
              refine a_bipush (v := -6) dX9_over_47 (by decide) ?_
              obtain ⟨q6_, eq6_, hf⟩ := bnd hf
              refine a_callV (As := [.int ((-6 : Int32))]) (rest := []) dX9_over_49 mfX9_no cvX9_122 (wX9_no eq6_) rc9 (kX9_no eq6_) (by decide) rfl rfl (Nat.le_of_ble_eq_true rfl) ?_
              have e9 := Option.some.inj hf
              subst e9
              exact a_iret rfl dX9_over_52 rfl
            · replace hf := iteF hf c9
              refine a_iload dX9_over_33 4 rfl ?_
              refine a_iload_n dX9_over_35 rfl 1 rfl ?_
              refine a_ineg dX9_over_36 ?_
              refine a_icmp_lt dX9_over_37 (tgt := 46) (by decide) (fun c9 => ?_) (fun c9 => ?_)
              · replace hf := iteT hf c9
                refine a_aload_n dX9_over_46 rfl 0 rfl ?_
                refine a_bipush (v := -6) dX9_over_47 (by decide) ?_
                obtain ⟨q7_, eq7_, hf⟩ := bnd hf
                refine a_callV (As := [.int ((-6 : Int32))]) (rest := []) dX9_over_49 mfX9_no cvX9_122 (wX9_no eq7_) rc9 (kX9_no eq7_) (by decide) rfl rfl (Nat.le_of_ble_eq_true rfl) ?_
                have e9 := Option.some.inj hf
                subst e9
                exact a_iret rfl dX9_over_52 rfl
              · replace hf := iteF hf c9
                refine a_iload dX9_over_40 4 rfl ?_
                refine a_iload_n dX9_over_42 rfl 1 rfl ?_
                refine a_icmp_le dX9_over_43 (tgt := 53) (by decide) (fun c9 => ?_) (fun c9 => ?_)
                · replace hf := iteT hf c9
                  refine a_iconst (v := 0) dX9_over_53 (by decide) ?_
                  refine a_istore (i := 5) (lv1 := [(5, .int ((0 : Int32))), (0, .ref a0), (1, .int x1), (2, .int x2), (3, .int x3), (4, .int x4)]) dX9_over_54 (by decide) rfl ?_
                  refine AW.sub (lv1 := [(0, .ref a0), (1, .int x1), (2, .int x2), (3, .int x3), (4, .int x4), (5, .int ((0 : Int32)))]) [1, 2, 3, 4, 5, 0] rfl ?_
                  exact wX9_over_b56 _ _ _ _ _ _ _ _ hf
                · replace hf := iteF hf c9
                  refine a_aload_n dX9_over_46 rfl 0 rfl ?_
                  refine a_bipush (v := -6) dX9_over_47 (by decide) ?_
                  obtain ⟨q8_, eq8_, hf⟩ := bnd hf
                  refine a_callV (As := [.int ((-6 : Int32))]) (rest := []) dX9_over_49 mfX9_no cvX9_122 (wX9_no eq8_) rc9 (kX9_no eq8_) (by decide) rfl rfl (Nat.le_of_ble_eq_true rfl) ?_
                  have e9 := Option.some.inj hf
                  subst e9
                  exact a_iret rfl dX9_over_52 rfl
theorem kX9_learntBy {a0 : Nat} {x1 : Int32} {x2 : Int32} {M : Mm} {q : Int32 × Mm} (hf : fX9_learntBy a0 x1 x2 M = some q) : (mK M a0).1 = 10 := by
  unfold fX9_learntBy at hf
  obtain ⟨u0, eu0, -⟩ := bnd hf
  exact kc_of eu0
set_option maxHeartbeats 4000000 in
set_option maxRecDepth 100000 in
theorem wX9_learntBy_b33 {l : Launch} {Γ : Gx} {t0 w0 : Nat} {q : Int32 × Mm} : ∀ (n : Nat) (x2 : Int32) (x4 : Int32) (x5 : Int32) (M : Mm), fX9_learntBy_b33 n x2 x4 x5 M = some q → AW l Γ yX9_learntBy cX9_learntBy 6 ((some .int)) 1 t0 w0 33 [(2, .int x2), (4, .int x4), (5, .int x5)] [] M (some (.int q.1)) q.2 := by
  intro n
  induction n with
  | zero =>
    intro x2 x4 x5 M hf
    cases hf
  | succ n ih =>
    intro x2 x4 x5 M hf
    rw [fX9_learntBy_b33.eq_2] at hf
    refine a_iload dX9_learntBy_33 2 rfl ?_
    refine a_iload_n dX9_learntBy_35 rfl 0 rfl ?_
    refine a_icmp_ge dX9_learntBy_36 (tgt := 58) (by decide) (fun c9 => ?_) (fun c9 => ?_)
    · replace hf := iteT hf c9
      refine a_iload dX9_learntBy_58 1 rfl ?_
      have e9 := Option.some.inj hf
      subst e9
      exact a_iret rfl dX9_learntBy_60 rfl
    · replace hf := iteF hf c9
      refine a_iload dX9_learntBy_39 1 rfl ?_
      refine a_iload dX9_learntBy_41 1 rfl ?_
      refine a_bipush (v := 9) dX9_learntBy_43 (by decide) ?_
      refine a_iadd dX9_learntBy_45 ?_
      refine a_bipush (v := 10) dX9_learntBy_46 (by decide) ?_
      obtain ⟨z1_, ez1_, hf⟩ := bnd hf
      refine a_idiv dX9_learntBy_48 ez1_ ?_
      refine a_isub dX9_learntBy_49 ?_
      refine a_istore (i := 4) (lv1 := [(4, .int (x4 - z1_)), (2, .int x2), (5, .int x5)]) dX9_learntBy_50 (by decide) rfl ?_
      refine a_iinc (v := x5 + (1 : Int32)) (lv1 := [(5, .int (x5 + (1 : Int32))), (4, .int (x4 - z1_)), (2, .int x2)]) dX9_learntBy_52 2 rfl rfl (by decide) rfl ?_
      refine a_goto (tgt := 33) dX9_learntBy_55 (by decide) ?_
      refine AW.sub (lv1 := [(2, .int x2), (4, .int (x4 - z1_)), (5, .int (x5 + (1 : Int32)))]) [2, 1, 0] rfl ?_
      exact ih _ _ _ _ hf
set_option maxHeartbeats 4000000 in
set_option maxRecDepth 100000 in
theorem wX9_learntBy_b6 {l : Launch} {Γ : Gx} {t0 w0 : Nat} {q : Int32 × Mm} : ∀ (n : Nat) (x1 : Int32) (x2 : Int32) (x3 : Int32) (x4 : Int32) (M : Mm), fX9_learntBy_b6 n x1 x2 x3 x4 M = some q → AW l Γ yX9_learntBy cX9_learntBy 6 ((some .int)) 1 t0 w0 6 [(1, .int x1), (2, .int x2), (3, .int x3), (4, .int x4)] [] M (some (.int q.1)) q.2 := by
  intro n
  induction n with
  | zero =>
    intro x1 x2 x3 x4 M hf
    cases hf
  | succ n ih =>
    intro x1 x2 x3 x4 M hf
    rw [fX9_learntBy_b6.eq_2] at hf
    refine a_iload dX9_learntBy_6 3 rfl ?_
    refine a_iload_n dX9_learntBy_8 rfl 0 rfl ?_
    refine a_icmp_ge dX9_learntBy_9 (tgt := 24) (by decide) (fun c9 => ?_) (fun c9 => ?_)
    · replace hf := iteT hf c9
      refine a_bipush (v := 100) dX9_learntBy_24 (by decide) ?_
      refine a_iload_n dX9_learntBy_26 rfl 2 rfl ?_
      refine a_isub dX9_learntBy_27 ?_
      refine a_istore (i := 4) (lv1 := [(4, .int (((100 : Int32)) - x3)), (1, .int x1), (2, .int x2), (3, .int x3)]) dX9_learntBy_28 (by decide) rfl ?_
      refine a_iconst (v := 0) dX9_learntBy_30 (by decide) ?_
      refine a_istore (i := 5) (lv1 := [(5, .int ((0 : Int32))), (4, .int (((100 : Int32)) - x3)), (1, .int x1), (2, .int x2), (3, .int x3)]) dX9_learntBy_31 (by decide) rfl ?_
      refine AW.sub (lv1 := [(2, .int x2), (4, .int (((100 : Int32)) - x3)), (5, .int ((0 : Int32)))]) [3, 1, 0] rfl ?_
      exact wX9_learntBy_b33 _ _ _ _ _ hf
    · replace hf := iteF hf c9
      refine a_iload_n dX9_learntBy_12 rfl 2 rfl ?_
      refine a_iconst (v := 3) dX9_learntBy_13 (by decide) ?_
      refine a_imul dX9_learntBy_14 ?_
      refine a_iconst (v := 4) dX9_learntBy_15 (by decide) ?_
      obtain ⟨z1_, ez1_, hf⟩ := bnd hf
      refine a_idiv dX9_learntBy_16 ez1_ ?_
      refine a_istore_n (i := 3) (lv1 := [(3, .int z1_), (1, .int x1), (2, .int x2), (4, .int x4)]) dX9_learntBy_17 rfl (by decide) rfl ?_
      refine a_iinc (v := x4 + (1 : Int32)) (lv1 := [(4, .int (x4 + (1 : Int32))), (3, .int z1_), (1, .int x1), (2, .int x2)]) dX9_learntBy_18 3 rfl rfl (by decide) rfl ?_
      refine a_goto (tgt := 6) dX9_learntBy_21 (by decide) ?_
      refine AW.sub (lv1 := [(1, .int x1), (2, .int x2), (3, .int z1_), (4, .int (x4 + (1 : Int32)))]) [2, 3, 1, 0] rfl ?_
      exact ih _ _ _ _ _ hf
set_option maxHeartbeats 4000000 in
set_option maxRecDepth 100000 in
theorem wX9_learntBy {l : Launch} {Γ : Gx} {a0 : Nat} {x1 : Int32} {x2 : Int32} {M : Mm} {q : Int32 × Mm} (hf : fX9_learntBy a0 x1 x2 M = some q) : AM l Γ 1 yX9_learntBy cX9_learntBy 6 ((some .int)) [.ref a0, .int x1, .int x2] M (some (.int q.1)) q.2 := by
  unfold fX9_learntBy at hf
  refine AM.of mfX9_learntBy (Nat.le_of_ble_eq_true rfl) ?_
  generalize mT M = t0
  generalize mW M = w0
  show AW _ _ _ _ _ _ _ _ _ 0 [(0, .ref a0), (1, .int x1), (2, .int x2)] [] _ _ _
  obtain ⟨u0, eu0, hf⟩ := bnd hf
  refine a_bipush (v := 100) dX9_learntBy_0 (by decide) ?_
  refine a_istore_n (i := 3) (lv1 := [(3, .int ((100 : Int32))), (0, .ref a0), (1, .int x1), (2, .int x2)]) dX9_learntBy_2 rfl (by decide) rfl ?_
  refine a_iconst (v := 0) dX9_learntBy_3 (by decide) ?_
  refine a_istore (i := 4) (lv1 := [(4, .int ((0 : Int32))), (3, .int ((100 : Int32))), (0, .ref a0), (1, .int x1), (2, .int x2)]) dX9_learntBy_4 (by decide) rfl ?_
  refine AW.sub (lv1 := [(1, .int x1), (2, .int x2), (3, .int ((100 : Int32))), (4, .int ((0 : Int32)))]) [3, 4, 1, 0] rfl ?_
  exact wX9_learntBy_b6 _ _ _ _ _ _ hf
theorem kX9_learnt {a0 : Nat} {x1 : Int32} {x2 : Int32} {M : Mm} {q : Int32 × Mm} (hf : fX9_learnt a0 x1 x2 M = some q) : (mK M a0).1 = 10 := by
  unfold fX9_learnt at hf
  obtain ⟨u0, eu0, -⟩ := bnd hf
  exact kc_of eu0
set_option maxHeartbeats 4000000 in
set_option maxRecDepth 100000 in
theorem wX9_learnt {l : Launch} {Γ : Gx} {a0 : Nat} {x1 : Int32} {x2 : Int32} {M : Mm} {q : Int32 × Mm} (hf : fX9_learnt a0 x1 x2 M = some q) : AM l Γ 2 yX9_learnt cX9_learnt 3 ((some .int)) [.ref a0, .int x1, .int x2] M (some (.int q.1)) q.2 := by
  unfold fX9_learnt at hf
  refine AM.of mfX9_learnt (Nat.le_of_ble_eq_true rfl) ?_
  generalize mT M = t0
  generalize mW M = w0
  show AW _ _ _ _ _ _ _ _ _ 0 [(0, .ref a0), (1, .int x1), (2, .int x2)] [] _ _ _
  obtain ⟨u0, eu0, hf⟩ := bnd hf
  refine a_iload_n dX9_learnt_0 rfl 1 rfl ?_
  refine a_if_lt dX9_learnt_1 (tgt := 20) (by decide) (fun c9 => ?_) (fun c9 => ?_)
  · replace hf := iteT hf c9
    refine a_aload_n dX9_learnt_20 rfl 0 rfl ?_
    refine a_bipush (v := -6) dX9_learnt_21 (by decide) ?_
    obtain ⟨q1_, eq1_, hf⟩ := bnd hf
    refine a_callV (As := [.int ((-6 : Int32))]) (rest := []) dX9_learnt_23 mfX9_no cvX9_122 (wX9_no eq1_) rc9 (kX9_no eq1_) (by decide) rfl rfl (Nat.le_of_ble_eq_true rfl) ?_
    have e9 := Option.some.inj hf
    subst e9
    exact a_iret rfl dX9_learnt_26 rfl
  · replace hf := iteF hf c9
    refine a_iload_n dX9_learnt_4 rfl 1 rfl ?_
    refine a_bipush (v := 99) dX9_learnt_5 (by decide) ?_
    refine a_icmp_gt dX9_learnt_7 (tgt := 20) (by decide) (fun c9 => ?_) (fun c9 => ?_)
    · replace hf := iteT hf c9
      refine a_aload_n dX9_learnt_20 rfl 0 rfl ?_
      refine a_bipush (v := -6) dX9_learnt_21 (by decide) ?_
      obtain ⟨q2_, eq2_, hf⟩ := bnd hf
      refine a_callV (As := [.int ((-6 : Int32))]) (rest := []) dX9_learnt_23 mfX9_no cvX9_122 (wX9_no eq2_) rc9 (kX9_no eq2_) (by decide) rfl rfl (Nat.le_of_ble_eq_true rfl) ?_
      have e9 := Option.some.inj hf
      subst e9
      exact a_iret rfl dX9_learnt_26 rfl
    · replace hf := iteF hf c9
      refine a_iload_n dX9_learnt_10 rfl 2 rfl ?_
      refine a_if_lt dX9_learnt_11 (tgt := 20) (by decide) (fun c9 => ?_) (fun c9 => ?_)
      · replace hf := iteT hf c9
        refine a_aload_n dX9_learnt_20 rfl 0 rfl ?_
        refine a_bipush (v := -6) dX9_learnt_21 (by decide) ?_
        obtain ⟨q3_, eq3_, hf⟩ := bnd hf
        refine a_callV (As := [.int ((-6 : Int32))]) (rest := []) dX9_learnt_23 mfX9_no cvX9_122 (wX9_no eq3_) rc9 (kX9_no eq3_) (by decide) rfl rfl (Nat.le_of_ble_eq_true rfl) ?_
        have e9 := Option.some.inj hf
        subst e9
        exact a_iret rfl dX9_learnt_26 rfl
      · replace hf := iteF hf c9
        refine a_iload_n dX9_learnt_14 rfl 2 rfl ?_
        refine a_bipush (v := 99) dX9_learnt_15 (by decide) ?_
        refine a_icmp_le dX9_learnt_17 (tgt := 27) (by decide) (fun c9 => ?_) (fun c9 => ?_)
        · replace hf := iteT hf c9
          refine a_aload_n dX9_learnt_27 rfl 0 rfl ?_
          refine a_iload_n dX9_learnt_28 rfl 1 rfl ?_
          refine a_iload_n dX9_learnt_29 rfl 2 rfl ?_
          obtain ⟨q4_, eq4_, hf⟩ := bnd hf
          refine a_callV (As := [.int x1, .int x2]) (rest := []) dX9_learnt_30 mfX9_learntBy cvX9_287 (wX9_learntBy eq4_) rc9 (kX9_learntBy eq4_) (by decide) rfl rfl (Nat.le_of_ble_eq_true rfl) ?_
          have e9 := Option.some.inj hf
          subst e9
          exact a_iret rfl dX9_learnt_33 rfl
        · replace hf := iteF hf c9
          refine a_aload_n dX9_learnt_20 rfl 0 rfl ?_
          refine a_bipush (v := -6) dX9_learnt_21 (by decide) ?_
          obtain ⟨q5_, eq5_, hf⟩ := bnd hf
          refine a_callV (As := [.int ((-6 : Int32))]) (rest := []) dX9_learnt_23 mfX9_no cvX9_122 (wX9_no eq5_) rc9 (kX9_no eq5_) (by decide) rfl rfl (Nat.le_of_ble_eq_true rfl) ?_
          have e9 := Option.some.inj hf
          subst e9
          exact a_iret rfl dX9_learnt_26 rfl
theorem kX9_goings {a0 : Nat} {x1 : Int32} {x2 : Int32} {M : Mm} {q : Int32 × Mm} (hf : fX9_goings a0 x1 x2 M = some q) : (mK M a0).1 = 10 := by
  unfold fX9_goings at hf
  obtain ⟨u0, eu0, -⟩ := bnd hf
  exact kc_of eu0
set_option maxHeartbeats 4000000 in
set_option maxRecDepth 100000 in
theorem wX9_goings_b29 {l : Launch} {Γ : Gx} {t0 w0 : Nat} {q : Int32 × Mm} : ∀ (n : Nat) (a0 : Nat) (x1 : Int32) (x2 : Int32) (x3 : Int32) (M : Mm), fX9_goings_b29 n a0 x1 x2 x3 M = some q → AW l Γ yX9_goings cX9_goings 4 ((some .int)) 2 t0 w0 29 [(0, .ref a0), (1, .int x1), (2, .int x2), (3, .int x3)] [] M (some (.int q.1)) q.2 := by
  intro n
  induction n with
  | zero =>
    intro a0 x1 x2 x3 M hf
    cases hf
  | succ n ih =>
    intro a0 x1 x2 x3 M hf
    rw [fX9_goings_b29.eq_2] at hf
    refine a_iload_n dX9_goings_29 rfl 3 rfl ?_
    refine a_bipush (v := 100) dX9_goings_30 (by decide) ?_
    refine a_icmp_ge dX9_goings_32 (tgt := 53) (by decide) (fun c9 => ?_) (fun c9 => ?_)
    · replace hf := iteT hf c9
      refine a_iconst (v := -1) dX9_goings_53 (by decide) ?_
      have e9 := Option.some.inj hf
      subst e9
      exact a_iret rfl dX9_goings_54 rfl
    · replace hf := iteF hf c9
      refine a_aload_n dX9_goings_35 rfl 0 rfl ?_
      refine a_iload_n dX9_goings_36 rfl 3 rfl ?_
      refine a_iload_n dX9_goings_37 rfl 2 rfl ?_
      obtain ⟨q1_, eq1_, hf⟩ := bnd hf
      refine a_callV (As := [.int x3, .int x2]) (rest := []) dX9_goings_38 mfX9_learntBy cvX9_287 (wX9_learntBy eq1_) rc9 (kX9_learntBy eq1_) (by decide) rfl rfl (Nat.le_of_ble_eq_true rfl) ?_
      refine a_iload_n dX9_goings_41 rfl 1 rfl ?_
      refine a_icmp_lt dX9_goings_42 (tgt := 47) (by decide) (fun c9 => ?_) (fun c9 => ?_)
      · replace hf := iteT hf c9
        refine a_iinc (v := x3 + (1 : Int32)) (lv1 := [(3, .int (x3 + (1 : Int32))), (0, .ref a0), (1, .int x1), (2, .int x2)]) dX9_goings_47 3 rfl rfl (by decide) rfl ?_
        refine a_goto (tgt := 29) dX9_goings_50 (by decide) ?_
        refine AW.sub (lv1 := [(0, .ref a0), (1, .int x1), (2, .int x2), (3, .int (x3 + (1 : Int32)))]) [1, 2, 3, 0] rfl ?_
        exact ih _ _ _ _ _ hf
      · replace hf := iteF hf c9
        refine a_iload_n dX9_goings_45 rfl 3 rfl ?_
        have e9 := Option.some.inj hf
        subst e9
        exact a_iret rfl dX9_goings_46 rfl
set_option maxHeartbeats 4000000 in
set_option maxRecDepth 100000 in
theorem wX9_goings {l : Launch} {Γ : Gx} {a0 : Nat} {x1 : Int32} {x2 : Int32} {M : Mm} {q : Int32 × Mm} (hf : fX9_goings a0 x1 x2 M = some q) : AM l Γ 2 yX9_goings cX9_goings 4 ((some .int)) [.ref a0, .int x1, .int x2] M (some (.int q.1)) q.2 := by
  unfold fX9_goings at hf
  refine AM.of mfX9_goings (Nat.le_of_ble_eq_true rfl) ?_
  generalize mT M = t0
  generalize mW M = w0
  show AW _ _ _ _ _ _ _ _ _ 0 [(0, .ref a0), (1, .int x1), (2, .int x2)] [] _ _ _
  obtain ⟨u0, eu0, hf⟩ := bnd hf
  refine a_iload_n dX9_goings_0 rfl 1 rfl ?_
  refine a_if_lt dX9_goings_1 (tgt := 20) (by decide) (fun c9 => ?_) (fun c9 => ?_)
  · replace hf := iteT hf c9
    refine a_aload_n dX9_goings_20 rfl 0 rfl ?_
    refine a_bipush (v := -6) dX9_goings_21 (by decide) ?_
    obtain ⟨q1_, eq1_, hf⟩ := bnd hf
    refine a_callV (As := [.int ((-6 : Int32))]) (rest := []) dX9_goings_23 mfX9_noTen cvX9_273 (wX9_noTen eq1_) rc9 (kX9_noTen eq1_) (by decide) rfl rfl (Nat.le_of_ble_eq_true rfl) ?_
    have e9 := Option.some.inj hf
    subst e9
    exact a_iret rfl dX9_goings_26 rfl
  · replace hf := iteF hf c9
    refine a_iload_n dX9_goings_4 rfl 1 rfl ?_
    refine a_bipush (v := 100) dX9_goings_5 (by decide) ?_
    refine a_icmp_gt dX9_goings_7 (tgt := 20) (by decide) (fun c9 => ?_) (fun c9 => ?_)
    · replace hf := iteT hf c9
      refine a_aload_n dX9_goings_20 rfl 0 rfl ?_
      refine a_bipush (v := -6) dX9_goings_21 (by decide) ?_
      obtain ⟨q2_, eq2_, hf⟩ := bnd hf
      refine a_callV (As := [.int ((-6 : Int32))]) (rest := []) dX9_goings_23 mfX9_noTen cvX9_273 (wX9_noTen eq2_) rc9 (kX9_noTen eq2_) (by decide) rfl rfl (Nat.le_of_ble_eq_true rfl) ?_
      have e9 := Option.some.inj hf
      subst e9
      exact a_iret rfl dX9_goings_26 rfl
    · replace hf := iteF hf c9
      refine a_iload_n dX9_goings_10 rfl 2 rfl ?_
      refine a_if_lt dX9_goings_11 (tgt := 20) (by decide) (fun c9 => ?_) (fun c9 => ?_)
      · replace hf := iteT hf c9
        refine a_aload_n dX9_goings_20 rfl 0 rfl ?_
        refine a_bipush (v := -6) dX9_goings_21 (by decide) ?_
        obtain ⟨q3_, eq3_, hf⟩ := bnd hf
        refine a_callV (As := [.int ((-6 : Int32))]) (rest := []) dX9_goings_23 mfX9_noTen cvX9_273 (wX9_noTen eq3_) rc9 (kX9_noTen eq3_) (by decide) rfl rfl (Nat.le_of_ble_eq_true rfl) ?_
        have e9 := Option.some.inj hf
        subst e9
        exact a_iret rfl dX9_goings_26 rfl
      · replace hf := iteF hf c9
        refine a_iload_n dX9_goings_14 rfl 2 rfl ?_
        refine a_bipush (v := 99) dX9_goings_15 (by decide) ?_
        refine a_icmp_le dX9_goings_17 (tgt := 27) (by decide) (fun c9 => ?_) (fun c9 => ?_)
        · replace hf := iteT hf c9
          refine a_iconst (v := 0) dX9_goings_27 (by decide) ?_
          refine a_istore_n (i := 3) (lv1 := [(3, .int ((0 : Int32))), (0, .ref a0), (1, .int x1), (2, .int x2)]) dX9_goings_28 rfl (by decide) rfl ?_
          refine AW.sub (lv1 := [(0, .ref a0), (1, .int x1), (2, .int x2), (3, .int ((0 : Int32)))]) [1, 2, 3, 0] rfl ?_
          exact wX9_goings_b29 _ _ _ _ _ _ hf
        · replace hf := iteF hf c9
          refine a_aload_n dX9_goings_20 rfl 0 rfl ?_
          refine a_bipush (v := -6) dX9_goings_21 (by decide) ?_
          obtain ⟨q4_, eq4_, hf⟩ := bnd hf
          refine a_callV (As := [.int ((-6 : Int32))]) (rest := []) dX9_goings_23 mfX9_noTen cvX9_273 (wX9_noTen eq4_) rc9 (kX9_noTen eq4_) (by decide) rfl rfl (Nat.le_of_ble_eq_true rfl) ?_
          have e9 := Option.some.inj hf
          subst e9
          exact a_iret rfl dX9_goings_26 rfl
theorem kX9_begin {a0 : Nat} {x1 : Int32} {M : Mm} {q : Int32 × Mm} (hf : fX9_begin a0 x1 M = some q) : (mK M a0).1 = 10 := by
  unfold fX9_begin at hf
  obtain ⟨u0, eu0, -⟩ := bnd hf
  exact kc_of eu0
set_option maxHeartbeats 4000000 in
set_option maxRecDepth 100000 in
theorem wX9_begin {l : Launch} {Γ : Gx} {a0 : Nat} {x1 : Int32} {M : Mm} {q : Int32 × Mm} (hf : fX9_begin a0 x1 M = some q) : AM l Γ 2 yX9_begin cX9_begin 3 ((some .int)) [.ref a0, .int x1] M (some (.int q.1)) q.2 := by
  unfold fX9_begin at hf
  refine AM.of mfX9_begin (Nat.le_of_ble_eq_true rfl) ?_
  generalize mT M = t0
  generalize mW M = w0
  show AW _ _ _ _ _ _ _ _ _ 0 [(0, .ref a0), (1, .int x1)] [] _ _ _
  obtain ⟨u0, eu0, hf⟩ := bnd hf
  refine a_aload_n dX9_begin_0 rfl 0 rfl ?_
  refine a_iload_n dX9_begin_1 rfl 1 rfl ?_
  obtain ⟨q1_, eq1_, hf⟩ := bnd hf
  refine a_callV (As := [.int x1]) (rest := []) dX9_begin_2 mfX9_isCell cvX9_151 (wX9_isCell eq1_) rc9 (kX9_isCell eq1_) (by decide) rfl rfl (Nat.le_of_ble_eq_true rfl) ?_
  refine a_if_ne dX9_begin_5 (tgt := 14) (by decide) (fun c9 => ?_) (fun c9 => ?_)
  · replace hf := iteF hf c9
    refine a_aload_n dX9_begin_14 rfl 0 rfl ?_
    obtain ⟨v2_, ev2_, hf⟩ := bnd hf
    refine a_getI dX9_begin_15 flX9_22 rfl ev2_ ?_
    refine a_istore_n (i := 2) (lv1 := [(2, .int v2_), (0, .ref a0), (1, .int x1)]) dX9_begin_18 rfl (by decide) rfl ?_
    refine a_aload_n dX9_begin_19 rfl 1 rfl ?_
    refine a_iload_n dX9_begin_20 rfl 2 rfl ?_
    obtain ⟨M3_, eM3_, hf⟩ := bnd hf
    refine a_putI dX9_begin_21 fpX9_22 rfl (Or.inr nf9_10) eM3_ ?_
    refine a_iload_n dX9_begin_24 rfl 0 rfl ?_
    have e9 := Option.some.inj hf
    subst e9
    exact a_iret rfl dX9_begin_25 rfl
  · replace hf := iteT hf c9
    refine a_aload_n dX9_begin_8 rfl 0 rfl ?_
    refine a_iconst (v := -1) dX9_begin_9 (by decide) ?_
    obtain ⟨q4_, eq4_, hf⟩ := bnd hf
    refine a_callV (As := [.int ((-1 : Int32))]) (rest := []) dX9_begin_10 mfX9_no cvX9_122 (wX9_no eq4_) rc9 (kX9_no eq4_) (by decide) rfl rfl (Nat.le_of_ble_eq_true rfl) ?_
    have e9 := Option.some.inj hf
    subst e9
    exact a_iret rfl dX9_begin_13 rfl
theorem kX9_draw {a0 : Nat} {x1 : Int32} {M : Mm} {q : Int32 × Mm} (hf : fX9_draw a0 x1 M = some q) : (mK M a0).1 = 10 := by
  unfold fX9_draw at hf
  obtain ⟨u0, eu0, -⟩ := bnd hf
  exact kc_of eu0
set_option maxHeartbeats 4000000 in
set_option maxRecDepth 100000 in
theorem wX9_draw {l : Launch} {Γ : Gx} {a0 : Nat} {x1 : Int32} {M : Mm} {q : Int32 × Mm} (hf : fX9_draw a0 x1 M = some q) : AM l Γ 1 yX9_draw cX9_draw 2 ((some .int)) [.ref a0, .int x1] M (some (.int q.1)) q.2 := by
  unfold fX9_draw at hf
  refine AM.of mfX9_draw (Nat.le_of_ble_eq_true rfl) ?_
  generalize mT M = t0
  generalize mW M = w0
  show AW _ _ _ _ _ _ _ _ _ 0 [(0, .ref a0), (1, .int x1)] [] _ _ _
  obtain ⟨u0, eu0, hf⟩ := bnd hf
  refine a_aload_n dX9_draw_0 rfl 0 rfl ?_
  refine a_aload_n dX9_draw_1 rfl 0 rfl ?_
  obtain ⟨v1_, ev1_, hf⟩ := bnd hf
  refine a_getI dX9_draw_2 flX9_25 rfl ev1_ ?_
  refine a_ldcw (v := 1103515245) dX9_draw_5 wcX9_290 ?_
  refine a_imul dX9_draw_8 ?_
  refine a_sipush (v := 12345) dX9_draw_9 (by decide) ?_
  refine a_iadd dX9_draw_12 ?_
  obtain ⟨M2_, eM2_, hf⟩ := bnd hf
  refine a_putI dX9_draw_13 fpX9_25 rfl (Or.inr nf9_11) eM2_ ?_
  refine a_aload_n dX9_draw_16 rfl 0 rfl ?_
  obtain ⟨v3_, ev3_, hf⟩ := bnd hf
  refine a_getI dX9_draw_17 flX9_25 rfl ev3_ ?_
  refine a_bipush (v := 16) dX9_draw_20 (by decide) ?_
  refine a_iushr dX9_draw_22 ?_
  refine a_iload_n dX9_draw_23 rfl 1 rfl ?_
  obtain ⟨z4_, ez4_, hf⟩ := bnd hf
  refine a_irem dX9_draw_24 ez4_ ?_
  have e9 := Option.some.inj hf
  subst e9
  exact a_iret rfl dX9_draw_25 rfl
theorem kX9_goes {a0 : Nat} {x1 : Int32} {M : Mm} {q : Int32 × Mm} (hf : fX9_goes a0 x1 M = some q) : (mK M a0).1 = 10 := by
  unfold fX9_goes at hf
  obtain ⟨u0, eu0, -⟩ := bnd hf
  exact kc_of eu0
set_option maxHeartbeats 4000000 in
set_option maxRecDepth 100000 in
theorem wX9_goes_b68 {l : Launch} {Γ : Gx} {t0 w0 : Nat} {q : Int32 × Mm} (a0 : Nat) (x1 : Int32) (s0 : Int32) (M : Mm) (hf : fX9_goes_b68 a0 x1 s0 M = some q) : AW l Γ yX9_goes cX9_goes 4 ((some .int)) 3 t0 w0 68 [(0, .ref a0), (1, .int x1)] [.int s0] M (some (.int q.1)) q.2 := by
  unfold fX9_goes_b68 at hf
  refine a_istore_n (i := 3) (lv1 := [(3, .int s0), (0, .ref a0), (1, .int x1)]) dX9_goes_68 rfl (by decide) rfl ?_
  refine a_aload_n dX9_goes_69 rfl 1 rfl ?_
  refine a_aload_n dX9_goes_70 rfl 1 rfl ?_
  refine a_aload_n dX9_goes_71 rfl 1 rfl ?_
  obtain ⟨v1_, ev1_, hf⟩ := bnd hf
  refine a_getI dX9_goes_72 flX9_22 rfl ev1_ ?_
  refine a_iload_n dX9_goes_75 rfl 0 rfl ?_
  refine a_iload_n dX9_goes_76 rfl 2 rfl ?_
  obtain ⟨q2_, eq2_, hf⟩ := bnd hf
  refine a_callV (As := [.int v1_, .int s0, .int x1]) (rest := [.ref a0]) dX9_goes_77 mfX9_goneTo cvX9_232 (wX9_goneTo eq2_) rc9 (kX9_goneTo eq2_) (by decide) rfl rfl (Nat.le_of_ble_eq_true rfl) ?_
  obtain ⟨M3_, eM3_, hf⟩ := bnd hf
  refine a_putI dX9_goes_80 fpX9_22 rfl (Or.inr nf9_10) eM3_ ?_
  refine a_aload_n dX9_goes_83 rfl 1 rfl ?_
  refine a_iload_n dX9_goes_84 rfl 2 rfl ?_
  obtain ⟨M4_, eM4_, hf⟩ := bnd hf
  refine a_callV (As := [.int x1]) (rest := []) dX9_goes_85 mfX9_steps cvX9_239 (wX9_steps eM4_) rc9 (kX9_steps eM4_) (by decide) rfl rfl (Nat.le_of_ble_eq_true rfl) ?_
  refine a_iload_n dX9_goes_88 rfl 0 rfl ?_
  have e9 := Option.some.inj hf
  subst e9
  exact a_iret rfl dX9_goes_89 rfl
set_option maxHeartbeats 4000000 in
set_option maxRecDepth 100000 in
theorem wX9_goes {l : Launch} {Γ : Gx} {a0 : Nat} {x1 : Int32} {M : Mm} {q : Int32 × Mm} (hf : fX9_goes a0 x1 M = some q) : AM l Γ 3 yX9_goes cX9_goes 4 ((some .int)) [.ref a0, .int x1] M (some (.int q.1)) q.2 := by
  unfold fX9_goes at hf
  refine AM.of mfX9_goes (Nat.le_of_ble_eq_true rfl) ?_
  generalize mT M = t0
  generalize mW M = w0
  show AW _ _ _ _ _ _ _ _ _ 0 [(0, .ref a0), (1, .int x1)] [] _ _ _
  obtain ⟨u0, eu0, hf⟩ := bnd hf
  refine a_aload_n dX9_goes_0 rfl 0 rfl ?_
  obtain ⟨v1_, ev1_, hf⟩ := bnd hf
  refine a_getI dX9_goes_1 flX9_22 rfl ev1_ ?_
  refine a_iconst (v := -1) dX9_goes_4 (by decide) ?_
  refine a_icmp_ne dX9_goes_5 (tgt := 15) (by decide) (fun c9 => ?_) (fun c9 => ?_)
  · replace hf := iteF hf c9
    refine a_aload_n dX9_goes_15 rfl 0 rfl ?_
    obtain ⟨v2_, ev2_, hf⟩ := bnd hf
    refine a_getI dX9_goes_16 flX9_136 rfl ev2_ ?_
    refine a_bipush (v := 16) dX9_goes_19 (by decide) ?_
    refine a_icmp_ne dX9_goes_21 (tgt := 31) (by decide) (fun c9 => ?_) (fun c9 => ?_)
    · replace hf := iteF hf c9
      refine a_aload_n dX9_goes_31 rfl 0 rfl ?_
      refine a_bipush (v := 10) dX9_goes_32 (by decide) ?_
      obtain ⟨q3_, eq3_, hf⟩ := bnd hf
      refine a_callV (As := [.int ((10 : Int32))]) (rest := []) dX9_goes_34 mfX9_draw cvX9_291 (wX9_draw eq3_) rc9 (kX9_draw eq3_) (by decide) rfl rfl (Nat.le_of_ble_eq_true rfl) ?_
      refine a_istore_n (i := 2) (lv1 := [(2, .int q3_.1), (0, .ref a0), (1, .int x1)]) dX9_goes_37 rfl (by decide) rfl ?_
      refine a_iload_n dX9_goes_38 rfl 0 rfl ?_
      refine a_aload_n dX9_goes_39 rfl 1 rfl ?_
      obtain ⟨v4_, ev4_, hf⟩ := bnd hf
      refine a_getI dX9_goes_40 flX9_13 rfl ev4_ ?_
      refine a_icmp_ge dX9_goes_43 (tgt := 50) (by decide) (fun c9 => ?_) (fun c9 => ?_)
      · replace hf := iteT hf c9
        refine a_iload_n dX9_goes_50 rfl 0 rfl ?_
        refine a_aload_n dX9_goes_51 rfl 1 rfl ?_
        obtain ⟨v5_, ev5_, hf⟩ := bnd hf
        refine a_getI dX9_goes_52 flX9_13 rfl ev5_ ?_
        refine a_aload_n dX9_goes_55 rfl 1 rfl ?_
        obtain ⟨v6_, ev6_, hf⟩ := bnd hf
        refine a_getI dX9_goes_56 flX9_16 rfl ev6_ ?_
        refine a_iadd dX9_goes_59 ?_
        refine a_icmp_ge dX9_goes_60 (tgt := 67) (by decide) (fun c9 => ?_) (fun c9 => ?_)
        · replace hf := iteT hf c9
          refine a_iconst (v := 1) dX9_goes_67 (by decide) ?_
          refine AW.sub (lv1 := [(0, .ref a0), (1, .int x1)]) [1, 2] rfl ?_
          exact wX9_goes_b68 _ _ _ _ hf
        · replace hf := iteF hf c9
          refine a_iconst (v := 2) dX9_goes_63 (by decide) ?_
          refine a_goto (tgt := 68) dX9_goes_64 (by decide) ?_
          refine AW.sub (lv1 := [(0, .ref a0), (1, .int x1)]) [1, 2] rfl ?_
          exact wX9_goes_b68 _ _ _ _ hf
      · replace hf := iteF hf c9
        refine a_iconst (v := 0) dX9_goes_46 (by decide) ?_
        refine a_goto (tgt := 68) dX9_goes_47 (by decide) ?_
        refine AW.sub (lv1 := [(0, .ref a0), (1, .int x1)]) [1, 2] rfl ?_
        exact wX9_goes_b68 _ _ _ _ hf
    · replace hf := iteT hf c9
      refine a_aload_n dX9_goes_24 rfl 0 rfl ?_
      refine a_bipush (v := -7) dX9_goes_25 (by decide) ?_
      obtain ⟨q7_, eq7_, hf⟩ := bnd hf
      refine a_callV (As := [.int ((-7 : Int32))]) (rest := []) dX9_goes_27 mfX9_no cvX9_122 (wX9_no eq7_) rc9 (kX9_no eq7_) (by decide) rfl rfl (Nat.le_of_ble_eq_true rfl) ?_
      have e9 := Option.some.inj hf
      subst e9
      exact a_iret rfl dX9_goes_30 rfl
  · replace hf := iteT hf c9
    refine a_aload_n dX9_goes_8 rfl 0 rfl ?_
    refine a_bipush (v := -6) dX9_goes_9 (by decide) ?_
    obtain ⟨q8_, eq8_, hf⟩ := bnd hf
    refine a_callV (As := [.int ((-6 : Int32))]) (rest := []) dX9_goes_11 mfX9_no cvX9_122 (wX9_no eq8_) rc9 (kX9_no eq8_) (by decide) rfl rfl (Nat.le_of_ble_eq_true rfl) ?_
    have e9 := Option.some.inj hf
    subst e9
    exact a_iret rfl dX9_goes_14 rfl
theorem kX9_looks {a0 : Nat} {x1 : Int32} {M : Mm} {q : Int32 × Mm} (hf : fX9_looks a0 x1 M = some q) : (mK M a0).1 = 10 := by
  unfold fX9_looks at hf
  obtain ⟨u0, eu0, -⟩ := bnd hf
  exact kc_of eu0
set_option maxHeartbeats 4000000 in
set_option maxRecDepth 100000 in
theorem wX9_looks_b87 {l : Launch} {Γ : Gx} {t0 w0 : Nat} {q : Int32 × Mm} (a0 : Nat) (x1 : Int32) (x2 : Int32) (x3 : Int32) (s0 : Int32) (M : Mm) (hf : fX9_looks_b87 a0 x1 x2 x3 s0 M = some q) : AW l Γ yX9_looks cX9_looks 5 ((some .int)) 3 t0 w0 87 [(0, .ref a0), (1, .int x1), (2, .int x2), (3, .int x3)] [.int s0] M (some (.int q.1)) q.2 := by
  unfold fX9_looks_b87 at hf
  refine a_istore (i := 4) (lv1 := [(4, .int s0), (0, .ref a0), (1, .int x1), (2, .int x2), (3, .int x3)]) dX9_looks_87 (by decide) rfl ?_
  refine a_iload dX9_looks_89 0 rfl ?_
  refine a_if_eq dX9_looks_91 (tgt := 106) (by decide) (fun c9 => ?_) (fun c9 => ?_)
  · replace hf := iteT hf c9
    refine a_aload_n dX9_looks_106 rfl 1 rfl ?_
    refine a_iload_n dX9_looks_107 rfl 2 rfl ?_
    refine a_iload_n dX9_looks_108 rfl 4 rfl ?_
    obtain ⟨M1_, eM1_, hf⟩ := bnd hf
    refine a_callV (As := [.int x1, .int x3]) (rest := []) dX9_looks_109 mfX9_feels cvX9_246 (wX9_feels eM1_) rc9 (kX9_feels eM1_) (by decide) rfl rfl (Nat.le_of_ble_eq_true rfl) ?_
    refine a_iload_n dX9_looks_112 rfl 4 rfl ?_
    refine a_if_eq dX9_looks_113 (tgt := 120) (by decide) (fun c9 => ?_) (fun c9 => ?_)
    · replace hf := iteT hf c9
      refine a_iconst (v := 0) dX9_looks_120 (by decide) ?_
      have e9 := Option.some.inj hf
      subst e9
      exact a_iret rfl dX9_looks_121 rfl
    · replace hf := iteF hf c9
      refine a_iconst (v := 1) dX9_looks_116 (by decide) ?_
      refine a_goto (tgt := 121) dX9_looks_117 (by decide) ?_
      have e9 := Option.some.inj hf
      subst e9
      exact a_iret rfl dX9_looks_121 rfl
  · replace hf := iteF hf c9
    refine a_aload_n dX9_looks_94 rfl 1 rfl ?_
    refine a_iload_n dX9_looks_95 rfl 3 rfl ?_
    obtain ⟨M2_, eM2_, hf⟩ := bnd hf
    refine a_putI dX9_looks_96 fpX9_25 rfl (Or.inr nf9_11) eM2_ ?_
    refine a_aload_n dX9_looks_99 rfl 1 rfl ?_
    refine a_iload dX9_looks_100 0 rfl ?_
    obtain ⟨q3_, eq3_, hf⟩ := bnd hf
    refine a_callV (As := [.int s0]) (rest := []) dX9_looks_102 mfX9_no cvX9_122 (wX9_no eq3_) rc9 (kX9_no eq3_) (by decide) rfl rfl (Nat.le_of_ble_eq_true rfl) ?_
    have e9 := Option.some.inj hf
    subst e9
    exact a_iret rfl dX9_looks_105 rfl
set_option maxHeartbeats 4000000 in
set_option maxRecDepth 100000 in
theorem wX9_looks_b57 {l : Launch} {Γ : Gx} {t0 w0 : Nat} {q : Int32 × Mm} (a0 : Nat) (x1 : Int32) (x2 : Int32) (s0 : Int32) (M : Mm) (hf : fX9_looks_b57 a0 x1 x2 s0 M = some q) : AW l Γ yX9_looks cX9_looks 5 ((some .int)) 3 t0 w0 57 [(0, .ref a0), (1, .int x1), (2, .int x2)] [.int s0] M (some (.int q.1)) q.2 := by
  unfold fX9_looks_b57 at hf
  refine a_istore_n (i := 3) (lv1 := [(3, .int s0), (0, .ref a0), (1, .int x1), (2, .int x2)]) dX9_looks_57 rfl (by decide) rfl ?_
  refine a_aload_n dX9_looks_58 rfl 1 rfl ?_
  refine a_iload_n dX9_looks_59 rfl 2 rfl ?_
  refine a_iload_n dX9_looks_60 rfl 0 rfl ?_
  obtain ⟨q1_, eq1_, hf⟩ := bnd hf
  refine a_callV (As := [.int x1, .int s0]) (rest := []) dX9_looks_61 mfX9_canBe cvX9_242 (wX9_canBe eq1_) rc9 (kX9_canBe eq1_) (by decide) rfl rfl (Nat.le_of_ble_eq_true rfl) ?_
  refine a_if_ne dX9_looks_64 (tgt := 72) (by decide) (fun c9 => ?_) (fun c9 => ?_)
  · replace hf := iteF hf c9
    refine a_aload_n dX9_looks_72 rfl 1 rfl ?_
    obtain ⟨v2_, ev2_, hf⟩ := bnd hf
    refine a_getI dX9_looks_73 flX9_136 rfl ev2_ ?_
    refine a_bipush (v := 16) dX9_looks_76 (by decide) ?_
    refine a_icmp_ne dX9_looks_78 (tgt := 86) (by decide) (fun c9 => ?_) (fun c9 => ?_)
    · replace hf := iteF hf c9
      refine a_iconst (v := 0) dX9_looks_86 (by decide) ?_
      refine AW.sub (lv1 := [(0, .ref a0), (1, .int x1), (2, .int x2), (3, .int s0)]) [1, 2, 3, 0] rfl ?_
      exact wX9_looks_b87 _ _ _ _ _ _ hf
    · replace hf := iteT hf c9
      refine a_bipush (v := -7) dX9_looks_81 (by decide) ?_
      refine a_goto (tgt := 87) dX9_looks_83 (by decide) ?_
      refine AW.sub (lv1 := [(0, .ref a0), (1, .int x1), (2, .int x2), (3, .int s0)]) [1, 2, 3, 0] rfl ?_
      exact wX9_looks_b87 _ _ _ _ _ _ hf
  · replace hf := iteT hf c9
    refine a_bipush (v := -6) dX9_looks_67 (by decide) ?_
    refine a_goto (tgt := 87) dX9_looks_69 (by decide) ?_
    refine AW.sub (lv1 := [(0, .ref a0), (1, .int x1), (2, .int x2), (3, .int s0)]) [1, 2, 3, 0] rfl ?_
    exact wX9_looks_b87 _ _ _ _ _ _ hf
set_option maxHeartbeats 4000000 in
set_option maxRecDepth 100000 in
theorem wX9_looks {l : Launch} {Γ : Gx} {a0 : Nat} {x1 : Int32} {M : Mm} {q : Int32 × Mm} (hf : fX9_looks a0 x1 M = some q) : AM l Γ 3 yX9_looks cX9_looks 5 ((some .int)) [.ref a0, .int x1] M (some (.int q.1)) q.2 := by
  unfold fX9_looks at hf
  refine AM.of mfX9_looks (Nat.le_of_ble_eq_true rfl) ?_
  generalize mT M = t0
  generalize mW M = w0
  show AW _ _ _ _ _ _ _ _ _ 0 [(0, .ref a0), (1, .int x1)] [] _ _ _
  obtain ⟨u0, eu0, hf⟩ := bnd hf
  refine a_aload_n dX9_looks_0 rfl 0 rfl ?_
  refine a_iload_n dX9_looks_1 rfl 1 rfl ?_
  obtain ⟨q1_, eq1_, hf⟩ := bnd hf
  refine a_callV (As := [.int x1]) (rest := []) dX9_looks_2 mfX9_isSign cvX9_126 (wX9_isSign eq1_) rc9 (kX9_isSign eq1_) (by decide) rfl rfl (Nat.le_of_ble_eq_true rfl) ?_
  refine a_if_ne dX9_looks_5 (tgt := 14) (by decide) (fun c9 => ?_) (fun c9 => ?_)
  · replace hf := iteF hf c9
    refine a_aload_n dX9_looks_14 rfl 0 rfl ?_
    obtain ⟨v2_, ev2_, hf⟩ := bnd hf
    refine a_getI dX9_looks_15 flX9_22 rfl ev2_ ?_
    refine a_iconst (v := -1) dX9_looks_18 (by decide) ?_
    refine a_icmp_ne dX9_looks_19 (tgt := 29) (by decide) (fun c9 => ?_) (fun c9 => ?_)
    · replace hf := iteF hf c9
      refine a_aload_n dX9_looks_29 rfl 0 rfl ?_
      obtain ⟨v3_, ev3_, hf⟩ := bnd hf
      refine a_getI dX9_looks_30 flX9_25 rfl ev3_ ?_
      refine a_istore_n (i := 2) (lv1 := [(2, .int v3_), (0, .ref a0), (1, .int x1)]) dX9_looks_33 rfl (by decide) rfl ?_
      refine a_aload_n dX9_looks_34 rfl 1 rfl ?_
      refine a_bipush (v := 10) dX9_looks_35 (by decide) ?_
      obtain ⟨q4_, eq4_, hf⟩ := bnd hf
      refine a_callV (As := [.int ((10 : Int32))]) (rest := []) dX9_looks_37 mfX9_draw cvX9_291 (wX9_draw eq4_) rc9 (kX9_draw eq4_) (by decide) rfl rfl (Nat.le_of_ble_eq_true rfl) ?_
      refine a_aload_n dX9_looks_40 rfl 1 rfl ?_
      refine a_iload_n dX9_looks_41 rfl 2 rfl ?_
      refine a_aload_n dX9_looks_42 rfl 1 rfl ?_
      obtain ⟨v5_, ev5_, hf⟩ := bnd hf
      refine a_getI dX9_looks_43 flX9_22 rfl ev5_ ?_
      obtain ⟨q6_, eq6_, hf⟩ := bnd hf
      refine a_callV (As := [.int x1, .int v5_]) (rest := [.int q4_.1]) dX9_looks_46 mfX9_strengthOf cvX9_132 (wX9_strengthOf eq6_) rc9 (kX9_strengthOf eq6_) (by decide) rfl rfl (Nat.le_of_ble_eq_true rfl) ?_
      refine a_icmp_ge dX9_looks_49 (tgt := 56) (by decide) (fun c9 => ?_) (fun c9 => ?_)
      · replace hf := iteT hf c9
        refine a_iconst (v := 0) dX9_looks_56 (by decide) ?_
        refine AW.sub (lv1 := [(0, .ref a0), (1, .int x1), (2, .int v3_)]) [1, 2, 0] rfl ?_
        exact wX9_looks_b57 _ _ _ _ _ hf
      · replace hf := iteF hf c9
        refine a_iconst (v := 1) dX9_looks_52 (by decide) ?_
        refine a_goto (tgt := 57) dX9_looks_53 (by decide) ?_
        refine AW.sub (lv1 := [(0, .ref a0), (1, .int x1), (2, .int v3_)]) [1, 2, 0] rfl ?_
        exact wX9_looks_b57 _ _ _ _ _ hf
    · replace hf := iteT hf c9
      refine a_aload_n dX9_looks_22 rfl 0 rfl ?_
      refine a_bipush (v := -6) dX9_looks_23 (by decide) ?_
      obtain ⟨q7_, eq7_, hf⟩ := bnd hf
      refine a_callV (As := [.int ((-6 : Int32))]) (rest := []) dX9_looks_25 mfX9_no cvX9_122 (wX9_no eq7_) rc9 (kX9_no eq7_) (by decide) rfl rfl (Nat.le_of_ble_eq_true rfl) ?_
      have e9 := Option.some.inj hf
      subst e9
      exact a_iret rfl dX9_looks_28 rfl
  · replace hf := iteT hf c9
    refine a_aload_n dX9_looks_8 rfl 0 rfl ?_
    refine a_iconst (v := -1) dX9_looks_9 (by decide) ?_
    obtain ⟨q8_, eq8_, hf⟩ := bnd hf
    refine a_callV (As := [.int ((-1 : Int32))]) (rest := []) dX9_looks_10 mfX9_no cvX9_122 (wX9_no eq8_) rc9 (kX9_no eq8_) (by decide) rfl rfl (Nat.le_of_ble_eq_true rfl) ?_
    have e9 := Option.some.inj hf
    subst e9
    exact a_iret rfl dX9_looks_13 rfl
theorem kX9_right {a0 : Nat} {M : Mm} {q : Int32 × Mm} (hf : fX9_right a0 M = some q) : (mK M a0).1 = 10 := by
  unfold fX9_right at hf
  obtain ⟨u0, eu0, -⟩ := bnd hf
  exact kc_of eu0
set_option maxHeartbeats 4000000 in
set_option maxRecDepth 100000 in
theorem wX9_right {l : Launch} {Γ : Gx} {a0 : Nat} {M : Mm} {q : Int32 × Mm} (hf : fX9_right a0 M = some q) : AM l Γ 2 yX9_right cX9_right 1 ((some .int)) [.ref a0] M (some (.int q.1)) q.2 := by
  unfold fX9_right at hf
  refine AM.of mfX9_right (Nat.le_of_ble_eq_true rfl) ?_
  generalize mT M = t0
  generalize mW M = w0
  show AW _ _ _ _ _ _ _ _ _ 0 [(0, .ref a0)] [] _ _ _
  obtain ⟨u0, eu0, hf⟩ := bnd hf
  refine a_aload_n dX9_right_0 rfl 0 rfl ?_
  obtain ⟨v1_, ev1_, hf⟩ := bnd hf
  refine a_getI dX9_right_1 flX9_22 rfl ev1_ ?_
  refine a_iconst (v := -1) dX9_right_4 (by decide) ?_
  refine a_icmp_ne dX9_right_5 (tgt := 15) (by decide) (fun c9 => ?_) (fun c9 => ?_)
  · replace hf := iteF hf c9
    refine a_aload_n dX9_right_15 rfl 0 rfl ?_
    obtain ⟨v2_, ev2_, hf⟩ := bnd hf
    refine a_getI dX9_right_16 flX9_22 rfl ev2_ ?_
    refine a_aload_n dX9_right_19 rfl 0 rfl ?_
    obtain ⟨q3_, eq3_, hf⟩ := bnd hf
    refine a_callV (As := []) (rest := [.int v2_]) dX9_right_20 mfX9_sure cvX9_250 (wX9_sure eq3_) rc9 (kX9_sure eq3_) (by decide) rfl rfl (Nat.le_of_ble_eq_true rfl) ?_
    refine a_icmp_ne dX9_right_23 (tgt := 30) (by decide) (fun c9 => ?_) (fun c9 => ?_)
    · replace hf := iteF hf c9
      refine a_iconst (v := 0) dX9_right_30 (by decide) ?_
      have e9 := Option.some.inj hf
      subst e9
      exact a_iret rfl dX9_right_31 rfl
    · replace hf := iteT hf c9
      refine a_iconst (v := 1) dX9_right_26 (by decide) ?_
      refine a_goto (tgt := 31) dX9_right_27 (by decide) ?_
      have e9 := Option.some.inj hf
      subst e9
      exact a_iret rfl dX9_right_31 rfl
  · replace hf := iteT hf c9
    refine a_aload_n dX9_right_8 rfl 0 rfl ?_
    refine a_bipush (v := -6) dX9_right_9 (by decide) ?_
    obtain ⟨q4_, eq4_, hf⟩ := bnd hf
    refine a_callV (As := [.int ((-6 : Int32))]) (rest := []) dX9_right_11 mfX9_no cvX9_122 (wX9_no eq4_) rc9 (kX9_no eq4_) (by decide) rfl rfl (Nat.le_of_ble_eq_true rfl) ?_
    have e9 := Option.some.inj hf
    subst e9
    exact a_iret rfl dX9_right_14 rfl
theorem kX9_seed {a0 : Nat} {x1 : Int32} {M : Mm} {q : Int32 × Mm} (hf : fX9_seed a0 x1 M = some q) : (mK M a0).1 = 10 := by
  unfold fX9_seed at hf
  obtain ⟨u0, eu0, -⟩ := bnd hf
  exact kc_of eu0
set_option maxHeartbeats 4000000 in
set_option maxRecDepth 100000 in
theorem wX9_seed {l : Launch} {Γ : Gx} {a0 : Nat} {x1 : Int32} {M : Mm} {q : Int32 × Mm} (hf : fX9_seed a0 x1 M = some q) : AM l Γ 1 yX9_seed cX9_seed 3 ((some .int)) [.ref a0, .int x1] M (some (.int q.1)) q.2 := by
  unfold fX9_seed at hf
  refine AM.of mfX9_seed (Nat.le_of_ble_eq_true rfl) ?_
  generalize mT M = t0
  generalize mW M = w0
  show AW _ _ _ _ _ _ _ _ _ 0 [(0, .ref a0), (1, .int x1)] [] _ _ _
  obtain ⟨u0, eu0, hf⟩ := bnd hf
  refine a_aload_n dX9_seed_0 rfl 0 rfl ?_
  obtain ⟨v1_, ev1_, hf⟩ := bnd hf
  refine a_getI dX9_seed_1 flX9_25 rfl ev1_ ?_
  refine a_istore_n (i := 2) (lv1 := [(2, .int v1_), (0, .ref a0), (1, .int x1)]) dX9_seed_4 rfl (by decide) rfl ?_
  refine a_aload_n dX9_seed_5 rfl 1 rfl ?_
  refine a_iload_n dX9_seed_6 rfl 2 rfl ?_
  obtain ⟨M2_, eM2_, hf⟩ := bnd hf
  refine a_putI dX9_seed_7 fpX9_25 rfl (Or.inr nf9_11) eM2_ ?_
  refine a_iload_n dX9_seed_10 rfl 0 rfl ?_
  have e9 := Option.some.inj hf
  subst e9
  exact a_iret rfl dX9_seed_11 rfl
theorem kX9_body {a0 : Nat} {x1 : Int32} {M : Mm} {q : Mm} (hf : fX9_body a0 x1 M = some q) : (mK M a0).1 = 10 := by
  unfold fX9_body at hf
  obtain ⟨u0, eu0, -⟩ := bnd hf
  exact kc_of eu0
set_option maxHeartbeats 4000000 in
set_option maxRecDepth 100000 in
theorem wX9_body_b19 {l : Launch} {Γ : Gx} {t0 w0 : Nat} {q : Mm} (a0 : Nat) (M : Mm) (hf : fX9_body_b19 a0 M = some q) : AW l Γ yX9_body cX9_body 2 (none) 1 t0 w0 19 [(0, .ref a0)] [] M none q := by
  unfold fX9_body_b19 at hf
  refine a_aload_n dX9_body_19 rfl 0 rfl ?_
  refine a_dup dX9_body_20 rfl ?_
  obtain ⟨v1_, ev1_, hf⟩ := bnd hf
  refine a_getI dX9_body_21 flX9_294 rfl ev1_ ?_
  refine a_iconst (v := 1) dX9_body_24 (by decide) ?_
  refine a_iadd dX9_body_25 ?_
  obtain ⟨M2_, eM2_, hf⟩ := bnd hf
  refine a_putI dX9_body_26 fpX9_294 rfl (Or.inr nf9_47) eM2_ ?_
  have e9 := Option.some.inj hf
  subst e9
  exact a_vret rfl dX9_body_29 rfl
set_option maxHeartbeats 4000000 in
set_option maxRecDepth 100000 in
theorem wX9_body {l : Launch} {Γ : Gx} {a0 : Nat} {x1 : Int32} {M : Mm} {q : Mm} (hf : fX9_body a0 x1 M = some q) : AM l Γ 1 yX9_body cX9_body 2 (none) [.ref a0, .int x1] M none q := by
  unfold fX9_body at hf
  refine AM.of mfX9_body (Nat.le_of_ble_eq_true rfl) ?_
  generalize mT M = t0
  generalize mW M = w0
  show AW _ _ _ _ _ _ _ _ _ 0 [(0, .ref a0), (1, .int x1)] [] _ _ _
  obtain ⟨u0, eu0, hf⟩ := bnd hf
  refine a_aload_n dX9_body_0 rfl 0 rfl ?_
  obtain ⟨v1_, ev1_, hf⟩ := bnd hf
  refine a_getI dX9_body_1 flX9_294 rfl ev1_ ?_
  refine a_bipush (v := 20) dX9_body_4 (by decide) ?_
  refine a_icmp_ge dX9_body_6 (tgt := 19) (by decide) (fun c9 => ?_) (fun c9 => ?_)
  · replace hf := iteT hf c9
    refine AW.sub (lv1 := [(0, .ref a0)]) [0] rfl ?_
    exact wX9_body_b19 _ _ hf
  · replace hf := iteF hf c9
    refine a_aload_n dX9_body_9 rfl 0 rfl ?_
    obtain ⟨o2_, eo2_, hf⟩ := bnd hf
    refine a_getR dX9_body_10 flX9_108 rfl eo2_ ?_
    refine a_aload_n dX9_body_13 rfl 0 rfl ?_
    obtain ⟨v3_, ev3_, hf⟩ := bnd hf
    refine a_getI dX9_body_14 flX9_294 rfl ev3_ ?_
    refine a_iload_n dX9_body_17 rfl 1 rfl ?_
    obtain ⟨M4_, eM4_, hf⟩ := bnd hf
    refine a_iast dX9_body_18 eM4_ ?_
    refine AW.sub (lv1 := [(0, .ref a0)]) [0] rfl ?_
    exact wX9_body_b19 _ _ hf
theorem kX9_feeling {a0 : Nat} {x1 : Int32} {x2 : Int32} {M : Mm} {q : Int32 × Mm} (hf : fX9_feeling a0 x1 x2 M = some q) : (mK M a0).1 = 10 := by
  unfold fX9_feeling at hf
  obtain ⟨u0, eu0, -⟩ := bnd hf
  exact kc_of eu0
set_option maxHeartbeats 4000000 in
set_option maxRecDepth 100000 in
theorem wX9_feeling_b52 {l : Launch} {Γ : Gx} {t0 w0 : Nat} {q : Int32 × Mm} (a0 : Nat) (x1 : Int32) (x2 : Int32) (x3 : Int32) (x4 : Int32) (M : Mm) (hf : fX9_feeling_b52 a0 x1 x2 x3 x4 M = some q) : AW l Γ yX9_feeling cX9_feeling 6 ((some .int)) 2 t0 w0 52 [(0, .ref a0), (1, .int x1), (2, .int x2), (3, .int x3), (4, .int x4)] [] M (some (.int q.1)) q.2 := by
  unfold fX9_feeling_b52 at hf
  refine a_aload_n dX9_feeling_52 rfl 0 rfl ?_
  refine a_bipush (v := 10) dX9_feeling_53 (by decide) ?_
  obtain ⟨M1_, eM1_, hf⟩ := bnd hf
  refine a_callV (As := [.int ((10 : Int32))]) (rest := []) dX9_feeling_55 mfX9_body cvX9_297 (wX9_body eM1_) rc9 (kX9_body eM1_) (by decide) rfl rfl (Nat.le_of_ble_eq_true rfl) ?_
  refine a_iload_n dX9_feeling_58 rfl 2 rfl ?_
  refine a_iload_n dX9_feeling_59 rfl 1 rfl ?_
  refine a_iadd dX9_feeling_60 ?_
  refine a_istore (i := 5) (lv1 := [(5, .int (x2 + x1)), (0, .ref a0), (1, .int x1), (2, .int x2), (3, .int x3), (4, .int x4)]) dX9_feeling_61 (by decide) rfl ?_
  refine a_iload dX9_feeling_63 5 rfl ?_
  refine a_if_eq dX9_feeling_65 (tgt := 80) (by decide) (fun c9 => ?_) (fun c9 => ?_)
  · replace hf := iteT hf c9
    refine a_iload_n dX9_feeling_80 rfl 4 rfl ?_
    refine a_iconst (v := 5) dX9_feeling_81 (by decide) ?_
    refine a_icmp_ne dX9_feeling_82 (tgt := 92) (by decide) (fun c9 => ?_) (fun c9 => ?_)
    · replace hf := iteF hf c9
      refine a_iload dX9_feeling_92 0 rfl ?_
      have e9 := Option.some.inj hf
      subst e9
      exact a_iret rfl dX9_feeling_94 rfl
    · replace hf := iteT hf c9
      refine a_iload dX9_feeling_85 0 rfl ?_
      refine a_iconst (v := 2) dX9_feeling_87 (by decide) ?_
      refine a_imul dX9_feeling_88 ?_
      refine a_goto (tgt := 94) dX9_feeling_89 (by decide) ?_
      have e9 := Option.some.inj hf
      subst e9
      exact a_iret rfl dX9_feeling_94 rfl
  · replace hf := iteF hf c9
    refine a_iload dX9_feeling_68 0 rfl ?_
    refine a_aload_n dX9_feeling_70 rfl 1 rfl ?_
    obtain ⟨o2_, eo2_, hf⟩ := bnd hf
    refine a_getR dX9_feeling_71 flX9_44 rfl eo2_ ?_
    refine a_iload_n dX9_feeling_74 rfl 2 rfl ?_
    obtain ⟨v3_, ev3_, hf⟩ := bnd hf
    refine a_iald dX9_feeling_75 ev3_ ?_
    refine a_iadd dX9_feeling_76 ?_
    refine a_goto (tgt := 94) dX9_feeling_77 (by decide) ?_
    have e9 := Option.some.inj hf
    subst e9
    exact a_iret rfl dX9_feeling_94 rfl
set_option maxHeartbeats 4000000 in
set_option maxRecDepth 100000 in
theorem wX9_feeling_b41 {l : Launch} {Γ : Gx} {t0 w0 : Nat} {q : Int32 × Mm} (a0 : Nat) (x1 : Int32) (x2 : Int32) (x3 : Int32) (x4 : Int32) (M : Mm) (hf : fX9_feeling_b41 a0 x1 x2 x3 x4 M = some q) : AW l Γ yX9_feeling cX9_feeling 6 ((some .int)) 2 t0 w0 41 [(0, .ref a0), (1, .int x1), (2, .int x2), (3, .int x3), (4, .int x4)] [] M (some (.int q.1)) q.2 := by
  unfold fX9_feeling_b41 at hf
  refine a_iload_n dX9_feeling_41 rfl 3 rfl ?_
  refine a_iconst (v := 5) dX9_feeling_42 (by decide) ?_
  refine a_icmp_ne dX9_feeling_43 (tgt := 52) (by decide) (fun c9 => ?_) (fun c9 => ?_)
  · replace hf := iteF hf c9
    exact wX9_feeling_b52 _ _ _ _ _ _ hf
  · replace hf := iteT hf c9
    refine a_aload_n dX9_feeling_46 rfl 0 rfl ?_
    refine a_bipush (v := 70) dX9_feeling_47 (by decide) ?_
    obtain ⟨M1_, eM1_, hf⟩ := bnd hf
    refine a_callV (As := [.int ((70 : Int32))]) (rest := []) dX9_feeling_49 mfX9_body cvX9_297 (wX9_body eM1_) rc9 (kX9_body eM1_) (by decide) rfl rfl (Nat.le_of_ble_eq_true rfl) ?_
    exact wX9_feeling_b52 _ _ _ _ _ _ hf
set_option maxHeartbeats 4000000 in
set_option maxRecDepth 100000 in
theorem wX9_feeling_b28 {l : Launch} {Γ : Gx} {t0 w0 : Nat} {q : Int32 × Mm} (a0 : Nat) (x1 : Int32) (x2 : Int32) (x3 : Int32) (s0 : Int32) (M : Mm) (hf : fX9_feeling_b28 a0 x1 x2 x3 s0 M = some q) : AW l Γ yX9_feeling cX9_feeling 6 ((some .int)) 2 t0 w0 28 [(0, .ref a0), (1, .int x1), (2, .int x2), (3, .int x3)] [.int s0] M (some (.int q.1)) q.2 := by
  unfold fX9_feeling_b28 at hf
  refine a_istore (i := 4) (lv1 := [(4, .int s0), (0, .ref a0), (1, .int x1), (2, .int x2), (3, .int x3)]) dX9_feeling_28 (by decide) rfl ?_
  refine a_iload dX9_feeling_30 0 rfl ?_
  refine a_if_eq dX9_feeling_32 (tgt := 41) (by decide) (fun c9 => ?_) (fun c9 => ?_)
  · replace hf := iteT hf c9
    refine AW.sub (lv1 := [(0, .ref a0), (1, .int x1), (2, .int x2), (3, .int x3), (4, .int s0)]) [1, 2, 3, 4, 0] rfl ?_
    exact wX9_feeling_b41 _ _ _ _ _ _ hf
  · replace hf := iteF hf c9
    refine a_aload_n dX9_feeling_35 rfl 1 rfl ?_
    refine a_bipush (v := 20) dX9_feeling_36 (by decide) ?_
    obtain ⟨M1_, eM1_, hf⟩ := bnd hf
    refine a_callV (As := [.int ((20 : Int32))]) (rest := []) dX9_feeling_38 mfX9_body cvX9_297 (wX9_body eM1_) rc9 (kX9_body eM1_) (by decide) rfl rfl (Nat.le_of_ble_eq_true rfl) ?_
    refine AW.sub (lv1 := [(0, .ref a0), (1, .int x1), (2, .int x2), (3, .int x3), (4, .int s0)]) [1, 2, 3, 4, 0] rfl ?_
    exact wX9_feeling_b41 _ _ _ _ _ _ hf
set_option maxHeartbeats 4000000 in
set_option maxRecDepth 100000 in
theorem wX9_feeling_b23 {l : Launch} {Γ : Gx} {t0 w0 : Nat} {q : Int32 × Mm} (a0 : Nat) (x1 : Int32) (x2 : Int32) (x3 : Int32) (M : Mm) (hf : fX9_feeling_b23 a0 x1 x2 x3 M = some q) : AW l Γ yX9_feeling cX9_feeling 6 ((some .int)) 2 t0 w0 23 [(0, .ref a0), (1, .int x1), (2, .int x2), (3, .int x3)] [] M (some (.int q.1)) q.2 := by
  unfold fX9_feeling_b23 at hf
  refine a_iconst (v := 1) dX9_feeling_23 (by decide) ?_
  refine a_goto (tgt := 28) dX9_feeling_24 (by decide) ?_
  exact wX9_feeling_b28 _ _ _ _ _ _ hf
set_option maxHeartbeats 4000000 in
set_option maxRecDepth 100000 in
theorem wX9_feeling {l : Launch} {Γ : Gx} {a0 : Nat} {x1 : Int32} {x2 : Int32} {M : Mm} {q : Int32 × Mm} (hf : fX9_feeling a0 x1 x2 M = some q) : AM l Γ 2 yX9_feeling cX9_feeling 6 ((some .int)) [.ref a0, .int x1, .int x2] M (some (.int q.1)) q.2 := by
  unfold fX9_feeling at hf
  refine AM.of mfX9_feeling (Nat.le_of_ble_eq_true rfl) ?_
  generalize mT M = t0
  generalize mW M = w0
  show AW _ _ _ _ _ _ _ _ _ 0 [(0, .ref a0), (1, .int x1), (2, .int x2)] [] _ _ _
  obtain ⟨u0, eu0, hf⟩ := bnd hf
  refine a_aload_n dX9_feeling_0 rfl 0 rfl ?_
  obtain ⟨o1_, eo1_, hf⟩ := bnd hf
  refine a_getR dX9_feeling_1 flX9_35 rfl eo1_ ?_
  refine a_iload_n dX9_feeling_4 rfl 1 rfl ?_
  obtain ⟨v2_, ev2_, hf⟩ := bnd hf
  refine a_iald dX9_feeling_5 ev2_ ?_
  refine a_istore_n (i := 3) (lv1 := [(3, .int v2_), (0, .ref a0), (1, .int x1), (2, .int x2)]) dX9_feeling_6 rfl (by decide) rfl ?_
  refine a_iload_n dX9_feeling_7 rfl 0 rfl ?_
  refine a_iconst (v := 1) dX9_feeling_8 (by decide) ?_
  refine a_icmp_eq dX9_feeling_9 (tgt := 23) (by decide) (fun c9 => ?_) (fun c9 => ?_)
  · replace hf := iteT hf c9
    refine AW.sub (lv1 := [(0, .ref a0), (1, .int x1), (2, .int x2), (3, .int v2_)]) [1, 2, 3, 0] rfl ?_
    exact wX9_feeling_b23 _ _ _ _ _ hf
  · replace hf := iteF hf c9
    refine a_iload_n dX9_feeling_12 rfl 0 rfl ?_
    refine a_iconst (v := 4) dX9_feeling_13 (by decide) ?_
    refine a_icmp_eq dX9_feeling_14 (tgt := 23) (by decide) (fun c9 => ?_) (fun c9 => ?_)
    · replace hf := iteT hf c9
      refine AW.sub (lv1 := [(0, .ref a0), (1, .int x1), (2, .int x2), (3, .int v2_)]) [1, 2, 3, 0] rfl ?_
      exact wX9_feeling_b23 _ _ _ _ _ hf
    · replace hf := iteF hf c9
      refine a_iload_n dX9_feeling_17 rfl 0 rfl ?_
      refine a_bipush (v := 6) dX9_feeling_18 (by decide) ?_
      refine a_icmp_ne dX9_feeling_20 (tgt := 27) (by decide) (fun c9 => ?_) (fun c9 => ?_)
      · replace hf := iteF hf c9
        refine a_iconst (v := 0) dX9_feeling_27 (by decide) ?_
        refine AW.sub (lv1 := [(0, .ref a0), (1, .int x1), (2, .int x2), (3, .int v2_)]) [1, 2, 3, 0] rfl ?_
        exact wX9_feeling_b28 _ _ _ _ _ _ hf
      · replace hf := iteT hf c9
        refine AW.sub (lv1 := [(0, .ref a0), (1, .int x1), (2, .int x2), (3, .int v2_)]) [1, 2, 3, 0] rfl ?_
        exact wX9_feeling_b23 _ _ _ _ _ hf
theorem kX9_teaching {a0 : Nat} {x1 : Int32} {x2 : Int32} {M : Mm} {q : Int32 × Mm} (hf : fX9_teaching a0 x1 x2 M = some q) : (mK M a0).1 = 10 := by
  unfold fX9_teaching at hf
  obtain ⟨u0, eu0, -⟩ := bnd hf
  exact kc_of eu0
set_option maxHeartbeats 4000000 in
set_option maxRecDepth 100000 in
theorem wX9_teaching_b59 {l : Launch} {Γ : Gx} {t0 w0 : Nat} {q : Int32 × Mm} (a0 : Nat) (x1 : Int32) (x3 : Int32) (x4 : Int32) (M : Mm) (hf : fX9_teaching_b59 a0 x1 x3 x4 M = some q) : AW l Γ yX9_teaching cX9_teaching 6 ((some .int)) 3 t0 w0 59 [(0, .ref a0), (1, .int x1), (3, .int x3), (4, .int x4)] [] M (some (.int q.1)) q.2 := by
  unfold fX9_teaching_b59 at hf
  refine a_aload_n dX9_teaching_59 rfl 0 rfl ?_
  refine a_bipush (v := 11) dX9_teaching_60 (by decide) ?_
  obtain ⟨M1_, eM1_, hf⟩ := bnd hf
  refine a_callV (As := [.int ((11 : Int32))]) (rest := []) dX9_teaching_62 mfX9_body cvX9_297 (wX9_body eM1_) rc9 (kX9_body eM1_) (by decide) rfl rfl (Nat.le_of_ble_eq_true rfl) ?_
  refine a_aload_n dX9_teaching_65 rfl 0 rfl ?_
  refine a_iload_n dX9_teaching_66 rfl 1 rfl ?_
  refine a_iload dX9_teaching_67 3 rfl ?_
  obtain ⟨q2_, eq2_, hf⟩ := bnd hf
  refine a_callV (As := [.int x1, .int x4]) (rest := []) dX9_teaching_69 mfX9_feeling cvX9_300 (wX9_feeling eq2_) rc9 (kX9_feeling eq2_) (by decide) rfl rfl (Nat.le_of_ble_eq_true rfl) ?_
  refine a_iconst (v := 2) dX9_teaching_72 (by decide) ?_
  refine a_imul dX9_teaching_73 ?_
  refine a_istore (i := 5) (lv1 := [(5, .int (q2_.1 * ((2 : Int32)))), (0, .ref a0), (1, .int x1), (3, .int x3), (4, .int x4)]) dX9_teaching_74 (by decide) rfl ?_
  refine a_iload_n dX9_teaching_76 rfl 3 rfl ?_
  refine a_iconst (v := 4) dX9_teaching_77 (by decide) ?_
  refine a_icmp_ne dX9_teaching_78 (tgt := 88) (by decide) (fun c9 => ?_) (fun c9 => ?_)
  · replace hf := iteF hf c9
    refine a_iload dX9_teaching_88 0 rfl ?_
    have e9 := Option.some.inj hf
    subst e9
    exact a_iret rfl dX9_teaching_90 rfl
  · replace hf := iteT hf c9
    refine a_iload dX9_teaching_81 0 rfl ?_
    refine a_iconst (v := 3) dX9_teaching_83 (by decide) ?_
    refine a_imul dX9_teaching_84 ?_
    refine a_goto (tgt := 90) dX9_teaching_85 (by decide) ?_
    have e9 := Option.some.inj hf
    subst e9
    exact a_iret rfl dX9_teaching_90 rfl
set_option maxHeartbeats 4000000 in
set_option maxRecDepth 100000 in
theorem wX9_teaching_b38 {l : Launch} {Γ : Gx} {t0 w0 : Nat} {q : Int32 × Mm} (a0 : Nat) (x1 : Int32) (x2 : Int32) (x3 : Int32) (x4 : Int32) (M : Mm) (hf : fX9_teaching_b38 a0 x1 x2 x3 x4 M = some q) : AW l Γ yX9_teaching cX9_teaching 6 ((some .int)) 3 t0 w0 38 [(0, .ref a0), (1, .int x1), (2, .int x2), (3, .int x3), (4, .int x4)] [] M (some (.int q.1)) q.2 := by
  unfold fX9_teaching_b38 at hf
  refine a_iload_n dX9_teaching_38 rfl 3 rfl ?_
  refine a_iconst (v := 5) dX9_teaching_39 (by decide) ?_
  refine a_icmp_ne dX9_teaching_40 (tgt := 59) (by decide) (fun c9 => ?_) (fun c9 => ?_)
  · replace hf := iteF hf c9
    refine AW.sub (lv1 := [(0, .ref a0), (1, .int x1), (3, .int x3), (4, .int x4)]) [0, 1, 3, 4] rfl ?_
    exact wX9_teaching_b59 _ _ _ _ _ hf
  · replace hf := iteT hf c9
    refine a_aload_n dX9_teaching_43 rfl 0 rfl ?_
    refine a_bipush (v := 71) dX9_teaching_44 (by decide) ?_
    obtain ⟨M1_, eM1_, hf⟩ := bnd hf
    refine a_callV (As := [.int ((71 : Int32))]) (rest := []) dX9_teaching_46 mfX9_body cvX9_297 (wX9_body eM1_) rc9 (kX9_body eM1_) (by decide) rfl rfl (Nat.le_of_ble_eq_true rfl) ?_
    refine a_iload_n dX9_teaching_49 rfl 2 rfl ?_
    refine a_aload_n dX9_teaching_50 rfl 0 rfl ?_
    obtain ⟨o2_, eo2_, hf⟩ := bnd hf
    refine a_getR dX9_teaching_51 flX9_44 rfl eo2_ ?_
    refine a_iload_n dX9_teaching_54 rfl 1 rfl ?_
    obtain ⟨v3_, ev3_, hf⟩ := bnd hf
    refine a_iald dX9_teaching_55 ev3_ ?_
    refine a_isub dX9_teaching_56 ?_
    refine a_istore (i := 4) (lv1 := [(4, .int (x2 - v3_)), (0, .ref a0), (1, .int x1), (2, .int x2), (3, .int x3)]) dX9_teaching_57 (by decide) rfl ?_
    refine AW.sub (lv1 := [(0, .ref a0), (1, .int x1), (3, .int x3), (4, .int (x2 - v3_))]) [1, 2, 4, 0] rfl ?_
    exact wX9_teaching_b59 _ _ _ _ _ hf
set_option maxHeartbeats 4000000 in
set_option maxRecDepth 100000 in
theorem wX9_teaching_b21 {l : Launch} {Γ : Gx} {t0 w0 : Nat} {q : Int32 × Mm} (a0 : Nat) (x1 : Int32) (x2 : Int32) (x3 : Int32) (x4 : Int32) (M : Mm) (hf : fX9_teaching_b21 a0 x1 x2 x3 x4 M = some q) : AW l Γ yX9_teaching cX9_teaching 6 ((some .int)) 3 t0 w0 21 [(0, .ref a0), (1, .int x1), (2, .int x2), (3, .int x3), (4, .int x4)] [] M (some (.int q.1)) q.2 := by
  unfold fX9_teaching_b21 at hf
  refine a_iload_n dX9_teaching_21 rfl 3 rfl ?_
  refine a_bipush (v := 6) dX9_teaching_22 (by decide) ?_
  refine a_icmp_ne dX9_teaching_24 (tgt := 38) (by decide) (fun c9 => ?_) (fun c9 => ?_)
  · replace hf := iteF hf c9
    exact wX9_teaching_b38 _ _ _ _ _ _ hf
  · replace hf := iteT hf c9
    refine a_aload_n dX9_teaching_27 rfl 0 rfl ?_
    refine a_bipush (v := 40) dX9_teaching_28 (by decide) ?_
    obtain ⟨M1_, eM1_, hf⟩ := bnd hf
    refine a_callV (As := [.int ((40 : Int32))]) (rest := []) dX9_teaching_30 mfX9_body cvX9_297 (wX9_body eM1_) rc9 (kX9_body eM1_) (by decide) rfl rfl (Nat.le_of_ble_eq_true rfl) ?_
    refine a_iload_n dX9_teaching_33 rfl 2 rfl ?_
    refine a_iconst (v := 1) dX9_teaching_34 (by decide) ?_
    refine a_iadd dX9_teaching_35 ?_
    refine a_istore (i := 4) (lv1 := [(4, .int (x2 + ((1 : Int32)))), (0, .ref a0), (1, .int x1), (2, .int x2), (3, .int x3)]) dX9_teaching_36 (by decide) rfl ?_
    refine AW.sub (lv1 := [(0, .ref a0), (1, .int x1), (2, .int x2), (3, .int x3), (4, .int (x2 + ((1 : Int32))))]) [1, 2, 3, 4, 0] rfl ?_
    exact wX9_teaching_b38 _ _ _ _ _ _ hf
set_option maxHeartbeats 4000000 in
set_option maxRecDepth 100000 in
theorem wX9_teaching {l : Launch} {Γ : Gx} {a0 : Nat} {x1 : Int32} {x2 : Int32} {M : Mm} {q : Int32 × Mm} (hf : fX9_teaching a0 x1 x2 M = some q) : AM l Γ 3 yX9_teaching cX9_teaching 6 ((some .int)) [.ref a0, .int x1, .int x2] M (some (.int q.1)) q.2 := by
  unfold fX9_teaching at hf
  refine AM.of mfX9_teaching (Nat.le_of_ble_eq_true rfl) ?_
  generalize mT M = t0
  generalize mW M = w0
  show AW _ _ _ _ _ _ _ _ _ 0 [(0, .ref a0), (1, .int x1), (2, .int x2)] [] _ _ _
  obtain ⟨u0, eu0, hf⟩ := bnd hf
  refine a_aload_n dX9_teaching_0 rfl 0 rfl ?_
  obtain ⟨o1_, eo1_, hf⟩ := bnd hf
  refine a_getR dX9_teaching_1 flX9_35 rfl eo1_ ?_
  refine a_iload_n dX9_teaching_4 rfl 1 rfl ?_
  obtain ⟨v2_, ev2_, hf⟩ := bnd hf
  refine a_iald dX9_teaching_5 ev2_ ?_
  refine a_istore_n (i := 3) (lv1 := [(3, .int v2_), (0, .ref a0), (1, .int x1), (2, .int x2)]) dX9_teaching_6 rfl (by decide) rfl ?_
  refine a_iload_n dX9_teaching_7 rfl 3 rfl ?_
  refine a_istore (i := 4) (lv1 := [(4, .int x2), (3, .int v2_), (0, .ref a0), (1, .int x1), (2, .int x2)]) dX9_teaching_8 (by decide) rfl ?_
  refine a_iload_n dX9_teaching_10 rfl 1 rfl ?_
  refine a_iconst (v := 4) dX9_teaching_11 (by decide) ?_
  refine a_icmp_ne dX9_teaching_12 (tgt := 21) (by decide) (fun c9 => ?_) (fun c9 => ?_)
  · replace hf := iteF hf c9
    refine AW.sub (lv1 := [(0, .ref a0), (1, .int x1), (2, .int x2), (3, .int v2_), (4, .int x2)]) [2, 3, 4, 1, 0] rfl ?_
    exact wX9_teaching_b21 _ _ _ _ _ _ hf
  · replace hf := iteT hf c9
    refine a_aload_n dX9_teaching_15 rfl 2 rfl ?_
    refine a_bipush (v := 30) dX9_teaching_16 (by decide) ?_
    obtain ⟨M3_, eM3_, hf⟩ := bnd hf
    refine a_callV (As := [.int ((30 : Int32))]) (rest := []) dX9_teaching_18 mfX9_body cvX9_297 (wX9_body eM3_) rc9 (kX9_body eM3_) (by decide) rfl rfl (Nat.le_of_ble_eq_true rfl) ?_
    refine AW.sub (lv1 := [(0, .ref a0), (1, .int x1), (2, .int x2), (3, .int v2_), (4, .int x2)]) [2, 3, 4, 1, 0] rfl ?_
    exact wX9_teaching_b21 _ _ _ _ _ _ hf
theorem kX9_fading {a0 : Nat} {x1 : Int32} {x2 : Int32} {M : Mm} {q : Int32 × Mm} (hf : fX9_fading a0 x1 x2 M = some q) : (mK M a0).1 = 10 := by
  unfold fX9_fading at hf
  obtain ⟨u0, eu0, -⟩ := bnd hf
  exact kc_of eu0
set_option maxHeartbeats 4000000 in
set_option maxRecDepth 100000 in
theorem wX9_fading_b46 {l : Launch} {Γ : Gx} {t0 w0 : Nat} {q : Int32 × Mm} (a0 : Nat) (x1 : Int32) (x2 : Int32) (x3 : Int32) (M : Mm) (hf : fX9_fading_b46 a0 x1 x2 x3 M = some q) : AW l Γ yX9_fading cX9_fading 5 ((some .int)) 4 t0 w0 46 [(0, .ref a0), (1, .int x1), (2, .int x2), (3, .int x3)] [] M (some (.int q.1)) q.2 := by
  unfold fX9_fading_b46 at hf
  refine a_aload_n dX9_fading_46 rfl 0 rfl ?_
  refine a_bipush (v := 12) dX9_fading_47 (by decide) ?_
  obtain ⟨M1_, eM1_, hf⟩ := bnd hf
  refine a_callV (As := [.int ((12 : Int32))]) (rest := []) dX9_fading_49 mfX9_body cvX9_297 (wX9_body eM1_) rc9 (kX9_body eM1_) (by decide) rfl rfl (Nat.le_of_ble_eq_true rfl) ?_
  refine a_aload_n dX9_fading_52 rfl 0 rfl ?_
  refine a_iload_n dX9_fading_53 rfl 1 rfl ?_
  refine a_iload_n dX9_fading_54 rfl 2 rfl ?_
  obtain ⟨q2_, eq2_, hf⟩ := bnd hf
  refine a_callV (As := [.int x1, .int x2]) (rest := []) dX9_fading_55 mfX9_teaching cvX9_303 (wX9_teaching eq2_) rc9 (kX9_teaching eq2_) (by decide) rfl rfl (Nat.le_of_ble_eq_true rfl) ?_
  refine a_istore (i := 4) (lv1 := [(4, .int q2_.1), (0, .ref a0), (1, .int x1), (2, .int x2), (3, .int x3)]) dX9_fading_58 (by decide) rfl ?_
  refine a_iload dX9_fading_60 0 rfl ?_
  refine a_aload_n dX9_fading_62 rfl 1 rfl ?_
  refine a_iload_n dX9_fading_63 rfl 2 rfl ?_
  refine a_iload_n dX9_fading_64 rfl 3 rfl ?_
  refine a_aload_n dX9_fading_65 rfl 1 rfl ?_
  obtain ⟨o3_, eo3_, hf⟩ := bnd hf
  refine a_getR dX9_fading_66 flX9_44 rfl eo3_ ?_
  refine a_iload_n dX9_fading_69 rfl 2 rfl ?_
  obtain ⟨v4_, ev4_, hf⟩ := bnd hf
  refine a_iald dX9_fading_70 ev4_ ?_
  refine a_isub dX9_fading_71 ?_
  obtain ⟨q5_, eq5_, hf⟩ := bnd hf
  refine a_callV (As := [.int x1, .int (x2 - v4_)]) (rest := [.int q2_.1]) dX9_fading_72 mfX9_feeling cvX9_300 (wX9_feeling eq5_) rc9 (kX9_feeling eq5_) (by decide) rfl rfl (Nat.le_of_ble_eq_true rfl) ?_
  refine a_ixor dX9_fading_75 ?_
  refine a_istore (i := 4) (lv1 := [(4, .int (q2_.1 ^^^ q5_.1)), (0, .ref a0), (1, .int x1), (2, .int x2), (3, .int x3)]) dX9_fading_76 (by decide) rfl ?_
  refine a_iload_n dX9_fading_78 rfl 4 rfl ?_
  refine a_bipush (v := 6) dX9_fading_79 (by decide) ?_
  refine a_icmp_ne dX9_fading_81 (tgt := 91) (by decide) (fun c9 => ?_) (fun c9 => ?_)
  · replace hf := iteF hf c9
    refine a_iload_n dX9_fading_91 rfl 4 rfl ?_
    refine a_iconst (v := 2) dX9_fading_92 (by decide) ?_
    refine a_icmp_ne dX9_fading_93 (tgt := 102) (by decide) (fun c9 => ?_) (fun c9 => ?_)
    · replace hf := iteF hf c9
      refine a_iload_n dX9_fading_102 rfl 4 rfl ?_
      refine a_iconst (v := 3) dX9_fading_103 (by decide) ?_
      refine a_icmp_ne dX9_fading_104 (tgt := 115) (by decide) (fun c9 => ?_) (fun c9 => ?_)
      · replace hf := iteF hf c9
        refine a_iload dX9_fading_115 0 rfl ?_
        have e9 := Option.some.inj hf
        subst e9
        exact a_iret rfl dX9_fading_117 rfl
      · replace hf := iteT hf c9
        refine a_iload dX9_fading_107 0 rfl ?_
        refine a_ineg dX9_fading_109 ?_
        refine a_iconst (v := 5) dX9_fading_110 (by decide) ?_
        refine a_ixor dX9_fading_111 ?_
        refine a_goto (tgt := 117) dX9_fading_112 (by decide) ?_
        have e9 := Option.some.inj hf
        subst e9
        exact a_iret rfl dX9_fading_117 rfl
    · replace hf := iteT hf c9
      refine a_iload dX9_fading_96 0 rfl ?_
      refine a_ineg dX9_fading_98 ?_
      refine a_goto (tgt := 117) dX9_fading_99 (by decide) ?_
      have e9 := Option.some.inj hf
      subst e9
      exact a_iret rfl dX9_fading_117 rfl
  · replace hf := iteT hf c9
    refine a_iload dX9_fading_84 0 rfl ?_
    refine a_iload_n dX9_fading_86 rfl 2 rfl ?_
    refine a_isub dX9_fading_87 ?_
    refine a_goto (tgt := 117) dX9_fading_88 (by decide) ?_
    have e9 := Option.some.inj hf
    subst e9
    exact a_iret rfl dX9_fading_117 rfl
set_option maxHeartbeats 4000000 in
set_option maxRecDepth 100000 in
theorem wX9_fading_b40 {l : Launch} {Γ : Gx} {t0 w0 : Nat} {q : Int32 × Mm} (a0 : Nat) (x1 : Int32) (x2 : Int32) (x3 : Int32) (M : Mm) (hf : fX9_fading_b40 a0 x1 x2 x3 M = some q) : AW l Γ yX9_fading cX9_fading 5 ((some .int)) 4 t0 w0 40 [(0, .ref a0), (1, .int x1), (2, .int x2), (3, .int x3)] [] M (some (.int q.1)) q.2 := by
  unfold fX9_fading_b40 at hf
  refine a_aload_n dX9_fading_40 rfl 0 rfl ?_
  refine a_bipush (v := 50) dX9_fading_41 (by decide) ?_
  obtain ⟨M1_, eM1_, hf⟩ := bnd hf
  refine a_callV (As := [.int ((50 : Int32))]) (rest := []) dX9_fading_43 mfX9_body cvX9_297 (wX9_body eM1_) rc9 (kX9_body eM1_) (by decide) rfl rfl (Nat.le_of_ble_eq_true rfl) ?_
  exact wX9_fading_b46 _ _ _ _ _ hf
set_option maxHeartbeats 4000000 in
set_option maxRecDepth 100000 in
theorem wX9_fading_b30 {l : Launch} {Γ : Gx} {t0 w0 : Nat} {q : Int32 × Mm} (a0 : Nat) (x1 : Int32) (x2 : Int32) (x3 : Int32) (M : Mm) (hf : fX9_fading_b30 a0 x1 x2 x3 M = some q) : AW l Γ yX9_fading cX9_fading 5 ((some .int)) 4 t0 w0 30 [(0, .ref a0), (1, .int x1), (2, .int x2), (3, .int x3)] [] M (some (.int q.1)) q.2 := by
  unfold fX9_fading_b30 at hf
  refine a_iload_n dX9_fading_30 rfl 3 rfl ?_
  refine a_iconst (v := 2) dX9_fading_31 (by decide) ?_
  refine a_icmp_eq dX9_fading_32 (tgt := 40) (by decide) (fun c9 => ?_) (fun c9 => ?_)
  · replace hf := iteT hf c9
    exact wX9_fading_b40 _ _ _ _ _ hf
  · replace hf := iteF hf c9
    refine a_iload_n dX9_fading_35 rfl 3 rfl ?_
    refine a_iconst (v := 3) dX9_fading_36 (by decide) ?_
    refine a_icmp_ne dX9_fading_37 (tgt := 46) (by decide) (fun c9 => ?_) (fun c9 => ?_)
    · replace hf := iteF hf c9
      exact wX9_fading_b46 _ _ _ _ _ hf
    · replace hf := iteT hf c9
      exact wX9_fading_b40 _ _ _ _ _ hf
set_option maxHeartbeats 4000000 in
set_option maxRecDepth 100000 in
theorem wX9_fading_b19 {l : Launch} {Γ : Gx} {t0 w0 : Nat} {q : Int32 × Mm} (a0 : Nat) (x1 : Int32) (x2 : Int32) (x3 : Int32) (M : Mm) (hf : fX9_fading_b19 a0 x1 x2 x3 M = some q) : AW l Γ yX9_fading cX9_fading 5 ((some .int)) 4 t0 w0 19 [(0, .ref a0), (1, .int x1), (2, .int x2), (3, .int x3)] [] M (some (.int q.1)) q.2 := by
  unfold fX9_fading_b19 at hf
  refine a_iload_n dX9_fading_19 rfl 3 rfl ?_
  refine a_iconst (v := 3) dX9_fading_20 (by decide) ?_
  refine a_icmp_ne dX9_fading_21 (tgt := 30) (by decide) (fun c9 => ?_) (fun c9 => ?_)
  · replace hf := iteF hf c9
    exact wX9_fading_b30 _ _ _ _ _ hf
  · replace hf := iteT hf c9
    refine a_aload_n dX9_fading_24 rfl 0 rfl ?_
    refine a_bipush (v := 60) dX9_fading_25 (by decide) ?_
    obtain ⟨M1_, eM1_, hf⟩ := bnd hf
    refine a_callV (As := [.int ((60 : Int32))]) (rest := []) dX9_fading_27 mfX9_body cvX9_297 (wX9_body eM1_) rc9 (kX9_body eM1_) (by decide) rfl rfl (Nat.le_of_ble_eq_true rfl) ?_
    exact wX9_fading_b30 _ _ _ _ _ hf
set_option maxHeartbeats 4000000 in
set_option maxRecDepth 100000 in
theorem wX9_fading {l : Launch} {Γ : Gx} {a0 : Nat} {x1 : Int32} {x2 : Int32} {M : Mm} {q : Int32 × Mm} (hf : fX9_fading a0 x1 x2 M = some q) : AM l Γ 4 yX9_fading cX9_fading 5 ((some .int)) [.ref a0, .int x1, .int x2] M (some (.int q.1)) q.2 := by
  unfold fX9_fading at hf
  refine AM.of mfX9_fading (Nat.le_of_ble_eq_true rfl) ?_
  generalize mT M = t0
  generalize mW M = w0
  show AW _ _ _ _ _ _ _ _ _ 0 [(0, .ref a0), (1, .int x1), (2, .int x2)] [] _ _ _
  obtain ⟨u0, eu0, hf⟩ := bnd hf
  refine a_aload_n dX9_fading_0 rfl 0 rfl ?_
  obtain ⟨o1_, eo1_, hf⟩ := bnd hf
  refine a_getR dX9_fading_1 flX9_35 rfl eo1_ ?_
  refine a_iload_n dX9_fading_4 rfl 1 rfl ?_
  obtain ⟨v2_, ev2_, hf⟩ := bnd hf
  refine a_iald dX9_fading_5 ev2_ ?_
  refine a_istore_n (i := 3) (lv1 := [(3, .int v2_), (0, .ref a0), (1, .int x1), (2, .int x2)]) dX9_fading_6 rfl (by decide) rfl ?_
  refine a_iload_n dX9_fading_7 rfl 0 rfl ?_
  refine a_bipush (v := 6) dX9_fading_8 (by decide) ?_
  refine a_icmp_ne dX9_fading_10 (tgt := 19) (by decide) (fun c9 => ?_) (fun c9 => ?_)
  · replace hf := iteF hf c9
    refine AW.sub (lv1 := [(0, .ref a0), (1, .int x1), (2, .int x2), (3, .int v2_)]) [1, 2, 3, 0] rfl ?_
    exact wX9_fading_b19 _ _ _ _ _ hf
  · replace hf := iteT hf c9
    refine a_aload_n dX9_fading_13 rfl 1 rfl ?_
    refine a_bipush (v := 41) dX9_fading_14 (by decide) ?_
    obtain ⟨M3_, eM3_, hf⟩ := bnd hf
    refine a_callV (As := [.int ((41 : Int32))]) (rest := []) dX9_fading_16 mfX9_body cvX9_297 (wX9_body eM3_) rc9 (kX9_body eM3_) (by decide) rfl rfl (Nat.le_of_ble_eq_true rfl) ?_
    refine AW.sub (lv1 := [(0, .ref a0), (1, .int x1), (2, .int x2), (3, .int v2_)]) [1, 2, 3, 0] rfl ?_
    exact wX9_fading_b19 _ _ _ _ _ hf
theorem kX9_act {a0 : Nat} {x1 : Int32} {x2 : Int32} {x3 : Int32} {M : Mm} {q : Int32 × Mm} (hf : fX9_act a0 x1 x2 x3 M = some q) : (mK M a0).1 = 10 := by
  unfold fX9_act at hf
  obtain ⟨u0, eu0, -⟩ := bnd hf
  exact kc_of eu0
set_option maxHeartbeats 4000000 in
set_option maxRecDepth 100000 in
theorem wX9_act {l : Launch} {Γ : Gx} {a0 : Nat} {x1 : Int32} {x2 : Int32} {x3 : Int32} {M : Mm} {q : Int32 × Mm} (hf : fX9_act a0 x1 x2 x3 M = some q) : AM l Γ 5 yX9_act cX9_act 4 ((some .int)) [.ref a0, .int x1, .int x2, .int x3] M (some (.int q.1)) q.2 := by
  unfold fX9_act at hf
  refine AM.of mfX9_act (Nat.le_of_ble_eq_true rfl) ?_
  generalize mT M = t0
  generalize mW M = w0
  show AW _ _ _ _ _ _ _ _ _ 0 [(0, .ref a0), (1, .int x1), (2, .int x2), (3, .int x3)] [] _ _ _
  obtain ⟨u0, eu0, hf⟩ := bnd hf
  refine a_aload_n dX9_act_0 rfl 0 rfl ?_
  refine a_iconst (v := 0) dX9_act_1 (by decide) ?_
  obtain ⟨M1_, eM1_, hf⟩ := bnd hf
  refine a_putI dX9_act_2 fpX9_294 rfl (Or.inr nf9_47) eM1_ ?_
  refine a_aload_n dX9_act_5 rfl 0 rfl ?_
  refine a_iload_n dX9_act_6 rfl 1 rfl ?_
  obtain ⟨q2_, eq2_, hf⟩ := bnd hf
  refine a_callV (As := [.int x1]) (rest := []) dX9_act_7 mfX9_isSign cvX9_126 (wX9_isSign eq2_) rc9 (kX9_isSign eq2_) (by decide) rfl rfl (Nat.le_of_ble_eq_true rfl) ?_
  refine a_if_eq dX9_act_10 (tgt := 22) (by decide) (fun c9 => ?_) (fun c9 => ?_)
  · replace hf := iteT hf c9
    refine a_iconst (v := 0) dX9_act_22 (by decide) ?_
    have e9 := Option.some.inj hf
    subst e9
    exact a_iret rfl dX9_act_23 rfl
  · replace hf := iteF hf c9
    refine a_iload_n dX9_act_13 rfl 2 rfl ?_
    refine a_if_lt dX9_act_14 (tgt := 22) (by decide) (fun c9 => ?_) (fun c9 => ?_)
    · replace hf := iteT hf c9
      refine a_iconst (v := 0) dX9_act_22 (by decide) ?_
      have e9 := Option.some.inj hf
      subst e9
      exact a_iret rfl dX9_act_23 rfl
    · replace hf := iteF hf c9
      refine a_iload_n dX9_act_17 rfl 2 rfl ?_
      refine a_iconst (v := 2) dX9_act_18 (by decide) ?_
      refine a_icmp_le dX9_act_19 (tgt := 24) (by decide) (fun c9 => ?_) (fun c9 => ?_)
      · replace hf := iteT hf c9
        refine a_iload_n dX9_act_24 rfl 2 rfl ?_
        refine a_if_ne dX9_act_25 (tgt := 37) (by decide) (fun c9 => ?_) (fun c9 => ?_)
        · replace hf := iteF hf c9
          refine a_iload_n dX9_act_37 rfl 2 rfl ?_
          refine a_iconst (v := 1) dX9_act_38 (by decide) ?_
          refine a_icmp_ne dX9_act_39 (tgt := 51) (by decide) (fun c9 => ?_) (fun c9 => ?_)
          · replace hf := iteF hf c9
            refine a_aload_n dX9_act_51 rfl 0 rfl ?_
            refine a_iload_n dX9_act_52 rfl 1 rfl ?_
            refine a_iload_n dX9_act_53 rfl 3 rfl ?_
            obtain ⟨q3_, eq3_, hf⟩ := bnd hf
            refine a_callV (As := [.int x1, .int x3]) (rest := []) dX9_act_54 mfX9_fading cvX9_306 (wX9_fading eq3_) rc9 (kX9_fading eq3_) (by decide) rfl rfl (Nat.le_of_ble_eq_true rfl) ?_
            have e9 := Option.some.inj hf
            subst e9
            exact a_iret rfl dX9_act_57 rfl
          · replace hf := iteT hf c9
            refine a_aload_n dX9_act_42 rfl 0 rfl ?_
            refine a_iload_n dX9_act_43 rfl 1 rfl ?_
            refine a_iload_n dX9_act_44 rfl 3 rfl ?_
            obtain ⟨q4_, eq4_, hf⟩ := bnd hf
            refine a_callV (As := [.int x1, .int x3]) (rest := []) dX9_act_45 mfX9_teaching cvX9_303 (wX9_teaching eq4_) rc9 (kX9_teaching eq4_) (by decide) rfl rfl (Nat.le_of_ble_eq_true rfl) ?_
            refine a_goto (tgt := 57) dX9_act_48 (by decide) ?_
            have e9 := Option.some.inj hf
            subst e9
            exact a_iret rfl dX9_act_57 rfl
        · replace hf := iteT hf c9
          refine a_aload_n dX9_act_28 rfl 0 rfl ?_
          refine a_iload_n dX9_act_29 rfl 1 rfl ?_
          refine a_iload_n dX9_act_30 rfl 3 rfl ?_
          obtain ⟨q5_, eq5_, hf⟩ := bnd hf
          refine a_callV (As := [.int x1, .int x3]) (rest := []) dX9_act_31 mfX9_feeling cvX9_300 (wX9_feeling eq5_) rc9 (kX9_feeling eq5_) (by decide) rfl rfl (Nat.le_of_ble_eq_true rfl) ?_
          refine a_goto (tgt := 57) dX9_act_34 (by decide) ?_
          have e9 := Option.some.inj hf
          subst e9
          exact a_iret rfl dX9_act_57 rfl
      · replace hf := iteF hf c9
        refine a_iconst (v := 0) dX9_act_22 (by decide) ?_
        have e9 := Option.some.inj hf
        subst e9
        exact a_iret rfl dX9_act_23 rfl
theorem kX9_trace {a0 : Nat} {x1 : Int32} {M : Mm} {q : Int32 × Mm} (hf : fX9_trace a0 x1 M = some q) : (mK M a0).1 = 10 := by
  unfold fX9_trace at hf
  obtain ⟨u0, eu0, -⟩ := bnd hf
  exact kc_of eu0
set_option maxHeartbeats 4000000 in
set_option maxRecDepth 100000 in
theorem wX9_trace {l : Launch} {Γ : Gx} {a0 : Nat} {x1 : Int32} {M : Mm} {q : Int32 × Mm} (hf : fX9_trace a0 x1 M = some q) : AM l Γ 1 yX9_trace cX9_trace 2 ((some .int)) [.ref a0, .int x1] M (some (.int q.1)) q.2 := by
  unfold fX9_trace at hf
  refine AM.of mfX9_trace (Nat.le_of_ble_eq_true rfl) ?_
  generalize mT M = t0
  generalize mW M = w0
  show AW _ _ _ _ _ _ _ _ _ 0 [(0, .ref a0), (1, .int x1)] [] _ _ _
  obtain ⟨u0, eu0, hf⟩ := bnd hf
  refine a_iload_n dX9_trace_0 rfl 1 rfl ?_
  refine a_if_lt dX9_trace_1 (tgt := 27) (by decide) (fun c9 => ?_) (fun c9 => ?_)
  · replace hf := iteT hf c9
    refine a_iconst (v := -1) dX9_trace_27 (by decide) ?_
    have e9 := Option.some.inj hf
    subst e9
    exact a_iret rfl dX9_trace_28 rfl
  · replace hf := iteF hf c9
    refine a_iload_n dX9_trace_4 rfl 1 rfl ?_
    refine a_bipush (v := 20) dX9_trace_5 (by decide) ?_
    refine a_icmp_ge dX9_trace_7 (tgt := 27) (by decide) (fun c9 => ?_) (fun c9 => ?_)
    · replace hf := iteT hf c9
      refine a_iconst (v := -1) dX9_trace_27 (by decide) ?_
      have e9 := Option.some.inj hf
      subst e9
      exact a_iret rfl dX9_trace_28 rfl
    · replace hf := iteF hf c9
      refine a_iload_n dX9_trace_10 rfl 1 rfl ?_
      refine a_aload_n dX9_trace_11 rfl 0 rfl ?_
      obtain ⟨v1_, ev1_, hf⟩ := bnd hf
      refine a_getI dX9_trace_12 flX9_294 rfl ev1_ ?_
      refine a_icmp_ge dX9_trace_15 (tgt := 27) (by decide) (fun c9 => ?_) (fun c9 => ?_)
      · replace hf := iteT hf c9
        refine a_iconst (v := -1) dX9_trace_27 (by decide) ?_
        have e9 := Option.some.inj hf
        subst e9
        exact a_iret rfl dX9_trace_28 rfl
      · replace hf := iteF hf c9
        refine a_aload_n dX9_trace_18 rfl 0 rfl ?_
        obtain ⟨o2_, eo2_, hf⟩ := bnd hf
        refine a_getR dX9_trace_19 flX9_108 rfl eo2_ ?_
        refine a_iload_n dX9_trace_22 rfl 1 rfl ?_
        obtain ⟨v3_, ev3_, hf⟩ := bnd hf
        refine a_iald dX9_trace_23 ev3_ ?_
        refine a_goto (tgt := 28) dX9_trace_24 (by decide) ?_
        have e9 := Option.some.inj hf
        subst e9
        exact a_iret rfl dX9_trace_28 rfl
theorem kX9_image {a0 : Nat} {M : Mm} {q : Int32 × Mm} (hf : fX9_image a0 M = some q) : (mK M a0).1 = 10 := by
  unfold fX9_image at hf
  obtain ⟨u0, eu0, -⟩ := bnd hf
  exact kc_of eu0
set_option maxHeartbeats 4000000 in
set_option maxRecDepth 100000 in
theorem wX9_image {l : Launch} {Γ : Gx} {a0 : Nat} {M : Mm} {q : Int32 × Mm} (hf : fX9_image a0 M = some q) : AM l Γ 3 yX9_image cX9_image 1 ((some .int)) [.ref a0] M (some (.int q.1)) q.2 := by
  unfold fX9_image at hf
  refine AM.of mfX9_image (Nat.le_of_ble_eq_true rfl) ?_
  generalize mT M = t0
  generalize mW M = w0
  show AW _ _ _ _ _ _ _ _ _ 0 [(0, .ref a0)] [] _ _ _
  obtain ⟨u0, eu0, hf⟩ := bnd hf
  refine a_aload_n dX9_image_0 rfl 0 rfl ?_
  refine a_iconst (v := 1) dX9_image_1 (by decide) ?_
  obtain ⟨M1_, eM1_, hf⟩ := bnd hf
  refine a_putZ dX9_image_2 fpX9_309 rfl (Or.inr nf9_48) eM1_ ?_
  refine a_aload_n dX9_image_5 rfl 0 rfl ?_
  refine a_aload_n dX9_image_6 rfl 0 rfl ?_
  obtain ⟨o2_, eo2_, hf⟩ := bnd hf
  refine a_getR dX9_image_7 flX9_90 rfl eo2_ ?_
  refine a_aload_n dX9_image_10 rfl 0 rfl ?_
  obtain ⟨o3_, eo3_, hf⟩ := bnd hf
  refine a_getR dX9_image_11 flX9_96 rfl eo3_ ?_
  refine a_iconst (v := 0) dX9_image_14 (by decide) ?_
  obtain ⟨M4_, eM4_, hf⟩ := bnd hf
  refine a_callV (As := [.ref o2_, .ref o3_, .int ((0 : Int32))]) (rest := []) dX9_image_15 mfX9_all cvX9_219 (wX9_all eM4_) rc9 (kX9_all eM4_) (by decide) rfl rfl (Nat.le_of_ble_eq_true rfl) ?_
  refine a_aload_n dX9_image_18 rfl 0 rfl ?_
  obtain ⟨v5_, ev5_, hf⟩ := bnd hf
  refine a_getI dX9_image_19 flX9_115 rfl ev5_ ?_
  have e9 := Option.some.inj hf
  subst e9
  exact a_iret rfl dX9_image_22 rfl
theorem kX9_restore {a0 : Nat} {M : Mm} {q : Int32 × Mm} (hf : fX9_restore a0 M = some q) : (mK M a0).1 = 10 := by
  unfold fX9_restore at hf
  obtain ⟨u0, eu0, -⟩ := bnd hf
  exact kc_of eu0
set_option maxHeartbeats 4000000 in
set_option maxRecDepth 100000 in
theorem wX9_restore_b29 {l : Launch} {Γ : Gx} {t0 w0 : Nat} {q : Int32 × Mm} : ∀ (n : Nat) (a0 : Nat) (x1 : Int32) (M : Mm), fX9_restore_b29 n a0 x1 M = some q → AW l Γ yX9_restore cX9_restore 2 ((some .int)) 3 t0 w0 29 [(0, .ref a0), (1, .int x1)] [] M (some (.int q.1)) q.2 := by
  intro n
  induction n with
  | zero =>
    intro a0 x1 M hf
    cases hf
  | succ n ih =>
    intro a0 x1 M hf
    rw [fX9_restore_b29.eq_2] at hf
    refine a_iload_n dX9_restore_29 rfl 1 rfl ?_
    refine a_bipush (v := 8) dX9_restore_30 (by decide) ?_
    refine a_icmp_ge dX9_restore_32 (tgt := 71) (by decide) (fun c9 => ?_) (fun c9 => ?_)
    · replace hf := iteT hf c9
      refine a_aload_n dX9_restore_71 rfl 0 rfl ?_
      obtain ⟨v1_, ev1_, hf⟩ := bnd hf
      refine a_getI dX9_restore_72 flX9_115 rfl ev1_ ?_
      have e9 := Option.some.inj hf
      subst e9
      exact a_iret rfl dX9_restore_75 rfl
    · replace hf := iteF hf c9
      refine a_aload_n dX9_restore_35 rfl 0 rfl ?_
      obtain ⟨o2_, eo2_, hf⟩ := bnd hf
      refine a_getR dX9_restore_36 flX9_63 rfl eo2_ ?_
      refine a_iload_n dX9_restore_39 rfl 1 rfl ?_
      obtain ⟨v3_, ev3_, hf⟩ := bnd hf
      refine a_iald dX9_restore_40 ev3_ ?_
      refine a_iconst (v := 2) dX9_restore_41 (by decide) ?_
      refine a_icmp_ne dX9_restore_42 (tgt := 65) (by decide) (fun c9 => ?_) (fun c9 => ?_)
      · replace hf := iteF hf c9
        refine a_iinc (v := x1 + (1 : Int32)) (lv1 := [(1, .int (x1 + (1 : Int32))), (0, .ref a0)]) dX9_restore_65 1 rfl rfl (by decide) rfl ?_
        refine a_goto (tgt := 29) dX9_restore_68 (by decide) ?_
        refine AW.sub (lv1 := [(0, .ref a0), (1, .int (x1 + (1 : Int32)))]) [1, 0] rfl ?_
        exact ih _ _ _ hf
      · replace hf := iteT hf c9
        refine a_aload_n dX9_restore_45 rfl 0 rfl ?_
        obtain ⟨o4_, eo4_, hf⟩ := bnd hf
        refine a_getR dX9_restore_46 flX9_72 rfl eo4_ ?_
        refine a_iload_n dX9_restore_49 rfl 1 rfl ?_
        obtain ⟨v5_, ev5_, hf⟩ := bnd hf
        refine a_iald dX9_restore_50 ev5_ ?_
        refine a_aload_n dX9_restore_51 rfl 0 rfl ?_
        obtain ⟨v6_, ev6_, hf⟩ := bnd hf
        refine a_getI dX9_restore_52 flX9_115 rfl ev6_ ?_
        refine a_icmp_lt dX9_restore_55 (tgt := 65) (by decide) (fun c9 => ?_) (fun c9 => ?_)
        · replace hf := iteT hf c9
          refine a_iinc (v := x1 + (1 : Int32)) (lv1 := [(1, .int (x1 + (1 : Int32))), (0, .ref a0)]) dX9_restore_65 1 rfl rfl (by decide) rfl ?_
          refine a_goto (tgt := 29) dX9_restore_68 (by decide) ?_
          refine AW.sub (lv1 := [(0, .ref a0), (1, .int (x1 + (1 : Int32)))]) [1, 0] rfl ?_
          exact ih _ _ _ hf
        · replace hf := iteF hf c9
          refine a_aload_n dX9_restore_58 rfl 0 rfl ?_
          obtain ⟨o7_, eo7_, hf⟩ := bnd hf
          refine a_getR dX9_restore_59 flX9_63 rfl eo7_ ?_
          refine a_iload_n dX9_restore_62 rfl 1 rfl ?_
          refine a_iconst (v := 0) dX9_restore_63 (by decide) ?_
          obtain ⟨M8_, eM8_, hf⟩ := bnd hf
          refine a_iast dX9_restore_64 eM8_ ?_
          refine a_iinc (v := x1 + (1 : Int32)) (lv1 := [(1, .int (x1 + (1 : Int32))), (0, .ref a0)]) dX9_restore_65 1 rfl rfl (by decide) rfl ?_
          refine a_goto (tgt := 29) dX9_restore_68 (by decide) ?_
          refine AW.sub (lv1 := [(0, .ref a0), (1, .int (x1 + (1 : Int32)))]) [1, 0] rfl ?_
          exact ih _ _ _ hf
set_option maxHeartbeats 4000000 in
set_option maxRecDepth 100000 in
theorem wX9_restore {l : Launch} {Γ : Gx} {a0 : Nat} {M : Mm} {q : Int32 × Mm} (hf : fX9_restore a0 M = some q) : AM l Γ 3 yX9_restore cX9_restore 2 ((some .int)) [.ref a0] M (some (.int q.1)) q.2 := by
  unfold fX9_restore at hf
  refine AM.of mfX9_restore (Nat.le_of_ble_eq_true rfl) ?_
  generalize mT M = t0
  generalize mW M = w0
  show AW _ _ _ _ _ _ _ _ _ 0 [(0, .ref a0)] [] _ _ _
  obtain ⟨u0, eu0, hf⟩ := bnd hf
  refine a_aload_n dX9_restore_0 rfl 0 rfl ?_
  obtain ⟨v1_, ev1_, hf⟩ := bnd hf
  refine a_getI dX9_restore_1 flX9_309 rfl ev1_ ?_
  refine a_if_ne dX9_restore_4 (tgt := 14) (by decide) (fun c9 => ?_) (fun c9 => ?_)
  · replace hf := iteF hf c9
    refine a_aload_n dX9_restore_14 rfl 0 rfl ?_
    refine a_aload_n dX9_restore_15 rfl 0 rfl ?_
    obtain ⟨o2_, eo2_, hf⟩ := bnd hf
    refine a_getR dX9_restore_16 flX9_90 rfl eo2_ ?_
    refine a_aload_n dX9_restore_19 rfl 0 rfl ?_
    obtain ⟨o3_, eo3_, hf⟩ := bnd hf
    refine a_getR dX9_restore_20 flX9_96 rfl eo3_ ?_
    refine a_iconst (v := 1) dX9_restore_23 (by decide) ?_
    obtain ⟨M4_, eM4_, hf⟩ := bnd hf
    refine a_callV (As := [.ref o2_, .ref o3_, .int ((1 : Int32))]) (rest := []) dX9_restore_24 mfX9_all cvX9_219 (wX9_all eM4_) rc9 (kX9_all eM4_) (by decide) rfl rfl (Nat.le_of_ble_eq_true rfl) ?_
    refine a_iconst (v := 0) dX9_restore_27 (by decide) ?_
    refine a_istore_n (i := 1) (lv1 := [(1, .int ((0 : Int32))), (0, .ref a0)]) dX9_restore_28 rfl (by decide) rfl ?_
    refine AW.sub (lv1 := [(0, .ref a0), (1, .int ((0 : Int32)))]) [1, 0] rfl ?_
    exact wX9_restore_b29 _ _ _ _ hf
  · replace hf := iteT hf c9
    refine a_aload_n dX9_restore_7 rfl 0 rfl ?_
    refine a_bipush (v := -6) dX9_restore_8 (by decide) ?_
    obtain ⟨q5_, eq5_, hf⟩ := bnd hf
    refine a_callV (As := [.int ((-6 : Int32))]) (rest := []) dX9_restore_10 mfX9_no cvX9_122 (wX9_no eq5_) rc9 (kX9_no eq5_) (by decide) rfl rfl (Nat.le_of_ble_eq_true rfl) ?_
    have e9 := Option.some.inj hf
    subst e9
    exact a_iret rfl dX9_restore_13 rfl
theorem kX9_status {a0 : Nat} {x1 : Int32} {M : Mm} {q : Int32 × Mm} (hf : fX9_status a0 x1 M = some q) : (mK M a0).1 = 10 := by
  unfold fX9_status at hf
  obtain ⟨u0, eu0, -⟩ := bnd hf
  exact kc_of eu0
set_option maxHeartbeats 4000000 in
set_option maxRecDepth 100000 in
theorem wX9_status_b22 {l : Launch} {Γ : Gx} {t0 w0 : Nat} {q : Int32 × Mm} (a0 : Nat) (x1 : Int32) (M : Mm) (hf : fX9_status_b22 a0 x1 M = some q) : AW l Γ yX9_status cX9_status 2 ((some .int)) 1 t0 w0 22 [(0, .ref a0), (1, .int x1)] [] M (some (.int q.1)) q.2 := by
  unfold fX9_status_b22 at hf
  refine a_iload_n dX9_status_22 rfl 1 rfl ?_
  by_cases c0 : x1 = (0 : Int32)
  · replace hf := iteT hf c0
    refine a_tableAt 0 (off := 53) (tgt := 76) dX9_status_23 ((congrArg Int32.toInt c0).trans rfl) (by decide) (by decide) ?_
    refine a_aload_n dX9_status_76 rfl 0 rfl ?_
    obtain ⟨v1_, ev1_, hf⟩ := bnd hf
    refine a_getI dX9_status_77 flX9_7 rfl ev1_ ?_
    have e9 := Option.some.inj hf
    subst e9
    exact a_iret rfl dX9_status_80 rfl
  · replace hf := iteF hf c0
    by_cases c1 : x1 = (1 : Int32)
    · replace hf := iteT hf c1
      refine a_tableAt 1 (off := 58) (tgt := 81) dX9_status_23 ((congrArg Int32.toInt c1).trans rfl) (by decide) (by decide) ?_
      refine a_aload_n dX9_status_81 rfl 0 rfl ?_
      obtain ⟨v2_, ev2_, hf⟩ := bnd hf
      refine a_getI dX9_status_82 flX9_115 rfl ev2_ ?_
      have e9 := Option.some.inj hf
      subst e9
      exact a_iret rfl dX9_status_85 rfl
    · replace hf := iteF hf c1
      by_cases c2 : x1 = (2 : Int32)
      · replace hf := iteT hf c2
        refine a_tableAt 2 (off := 63) (tgt := 86) dX9_status_23 ((congrArg Int32.toInt c2).trans rfl) (by decide) (by decide) ?_
        refine a_aload_n dX9_status_86 rfl 0 rfl ?_
        obtain ⟨v3_, ev3_, hf⟩ := bnd hf
        refine a_getI dX9_status_87 flX9_143 rfl ev3_ ?_
        have e9 := Option.some.inj hf
        subst e9
        exact a_iret rfl dX9_status_90 rfl
      · replace hf := iteF hf c2
        by_cases c3 : x1 = (3 : Int32)
        · replace hf := iteT hf c3
          refine a_tableAt 3 (off := 68) (tgt := 91) dX9_status_23 ((congrArg Int32.toInt c3).trans rfl) (by decide) (by decide) ?_
          refine a_aload_n dX9_status_91 rfl 0 rfl ?_
          obtain ⟨v4_, ev4_, hf⟩ := bnd hf
          refine a_getI dX9_status_92 flX9_136 rfl ev4_ ?_
          have e9 := Option.some.inj hf
          subst e9
          exact a_iret rfl dX9_status_95 rfl
        · replace hf := iteF hf c3
          by_cases c4 : x1 = (4 : Int32)
          · replace hf := iteT hf c4
            refine a_tableAt 4 (off := 73) (tgt := 96) dX9_status_23 ((congrArg Int32.toInt c4).trans rfl) (by decide) (by decide) ?_
            refine a_aload_n dX9_status_96 rfl 0 rfl ?_
            obtain ⟨v5_, ev5_, hf⟩ := bnd hf
            refine a_getI dX9_status_97 flX9_129 rfl ev5_ ?_
            have e9 := Option.some.inj hf
            subst e9
            exact a_iret rfl dX9_status_100 rfl
          · replace hf := iteF hf c4
            by_cases c5 : x1 = (5 : Int32)
            · replace hf := iteT hf c5
              refine a_tableAt 5 (off := 78) (tgt := 101) dX9_status_23 ((congrArg Int32.toInt c5).trans rfl) (by decide) (by decide) ?_
              refine a_aload_n dX9_status_101 rfl 0 rfl ?_
              obtain ⟨v6_, ev6_, hf⟩ := bnd hf
              refine a_getI dX9_status_102 flX9_167 rfl ev6_ ?_
              have e9 := Option.some.inj hf
              subst e9
              exact a_iret rfl dX9_status_105 rfl
            · replace hf := iteF hf c5
              by_cases c6 : x1 = (6 : Int32)
              · replace hf := iteT hf c6
                refine a_tableAt 6 (off := 83) (tgt := 106) dX9_status_23 ((congrArg Int32.toInt c6).trans rfl) (by decide) (by decide) ?_
                refine a_aload_n dX9_status_106 rfl 0 rfl ?_
                obtain ⟨v7_, ev7_, hf⟩ := bnd hf
                refine a_getI dX9_status_107 flX9_170 rfl ev7_ ?_
                have e9 := Option.some.inj hf
                subst e9
                exact a_iret rfl dX9_status_110 rfl
              · replace hf := iteF hf c6
                by_cases c7 : x1 = (7 : Int32)
                · replace hf := iteT hf c7
                  refine a_tableAt 7 (off := 88) (tgt := 111) dX9_status_23 ((congrArg Int32.toInt c7).trans rfl) (by decide) (by decide) ?_
                  refine a_aload_n dX9_status_111 rfl 0 rfl ?_
                  obtain ⟨v8_, ev8_, hf⟩ := bnd hf
                  refine a_getI dX9_status_112 flX9_19 rfl ev8_ ?_
                  have e9 := Option.some.inj hf
                  subst e9
                  exact a_iret rfl dX9_status_115 rfl
                · replace hf := iteF hf c7
                  by_cases c8 : x1 = (8 : Int32)
                  · replace hf := iteT hf c8
                    refine a_tableAt 8 (off := 93) (tgt := 116) dX9_status_23 ((congrArg Int32.toInt c8).trans rfl) (by decide) (by decide) ?_
                    refine a_aload_n dX9_status_116 rfl 0 rfl ?_
                    obtain ⟨v9_, ev9_, hf⟩ := bnd hf
                    refine a_getI dX9_status_117 flX9_294 rfl ev9_ ?_
                    have e9 := Option.some.inj hf
                    subst e9
                    exact a_iret rfl dX9_status_120 rfl
                  · replace hf := iteF hf c8
                    by_cases c9 : x1 = (9 : Int32)
                    · replace hf := iteT hf c9
                      refine a_tableAt 9 (off := 98) (tgt := 121) dX9_status_23 ((congrArg Int32.toInt c9).trans rfl) (by decide) (by decide) ?_
                      refine a_aload_n dX9_status_121 rfl 0 rfl ?_
                      obtain ⟨v10_, ev10_, hf⟩ := bnd hf
                      refine a_getI dX9_status_122 flX9_25 rfl ev10_ ?_
                      have e9 := Option.some.inj hf
                      subst e9
                      exact a_iret rfl dX9_status_125 rfl
                    · replace hf := iteF hf c9
                      refine a_tableOut (tgt := 126) dX9_status_23 (by have nc0 := swne c0 (k9 := 0) rfl; have nc1 := swne c1 (k9 := 1) rfl; have nc2 := swne c2 (k9 := 2) rfl; have nc3 := swne c3 (k9 := 3) rfl; have nc4 := swne c4 (k9 := 4) rfl; have nc5 := swne c5 (k9 := 5) rfl; have nc6 := swne c6 (k9 := 6) rfl; have nc7 := swne c7 (k9 := 7) rfl; have nc8 := swne c8 (k9 := 8) rfl; have nc9 := swne c9 (k9 := 9) rfl; omega) (by decide) ?_
                      refine a_iconst (v := -1) dX9_status_126 (by decide) ?_
                      have e9 := Option.some.inj hf
                      subst e9
                      exact a_iret rfl dX9_status_127 rfl
set_option maxHeartbeats 4000000 in
set_option maxRecDepth 100000 in
theorem wX9_status {l : Launch} {Γ : Gx} {a0 : Nat} {x1 : Int32} {M : Mm} {q : Int32 × Mm} (hf : fX9_status a0 x1 M = some q) : AM l Γ 1 yX9_status cX9_status 2 ((some .int)) [.ref a0, .int x1] M (some (.int q.1)) q.2 := by
  unfold fX9_status at hf
  refine AM.of mfX9_status (Nat.le_of_ble_eq_true rfl) ?_
  generalize mT M = t0
  generalize mW M = w0
  show AW _ _ _ _ _ _ _ _ _ 0 [(0, .ref a0), (1, .int x1)] [] _ _ _
  obtain ⟨u0, eu0, hf⟩ := bnd hf
  refine a_iload_n dX9_status_0 rfl 1 rfl ?_
  refine a_bipush (v := 11) dX9_status_1 (by decide) ?_
  refine a_icmp_lt dX9_status_3 (tgt := 22) (by decide) (fun c9 => ?_) (fun c9 => ?_)
  · replace hf := iteT hf c9
    exact wX9_status_b22 _ _ _ hf
  · replace hf := iteF hf c9
    refine a_iload_n dX9_status_6 rfl 1 rfl ?_
    refine a_bipush (v := 17) dX9_status_7 (by decide) ?_
    refine a_icmp_gt dX9_status_9 (tgt := 22) (by decide) (fun c9 => ?_) (fun c9 => ?_)
    · replace hf := iteT hf c9
      exact wX9_status_b22 _ _ _ hf
    · replace hf := iteF hf c9
      refine a_aload_n dX9_status_12 rfl 0 rfl ?_
      obtain ⟨o1_, eo1_, hf⟩ := bnd hf
      refine a_getR dX9_status_13 flX9_31 rfl eo1_ ?_
      refine a_iload_n dX9_status_16 rfl 1 rfl ?_
      refine a_bipush (v := 10) dX9_status_17 (by decide) ?_
      refine a_isub dX9_status_19 ?_
      obtain ⟨v2_, ev2_, hf⟩ := bnd hf
      refine a_iald dX9_status_20 ev2_ ?_
      have e9 := Option.some.inj hf
      subst e9
      exact a_iret rfl dX9_status_21 rfl
