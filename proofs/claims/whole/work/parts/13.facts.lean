/-! facts of the tables, by their places (written by wip/whole/gen.py) -/
theorem cf0 : CF 0 RX0 TX0 := ⟨rfl, sub_gw (by decide +kernel) (by decide +kernel), tyX0_ok, nmX0⟩
theorem rc0 : RC 0 RX0 := ⟨by decide, TX0, _, rfl⟩
theorem nz0 : ∀ k, k < nF 0 → fT 0 k = .int ∨ fT 0 k = .boolean ∨ (fT 0 k).isReference = true := by decide +kernel
theorem cf1 : CF 1 RX1 TX1 := ⟨rfl, sub_gw (by decide +kernel) (by decide +kernel), tyX1_ok, nmX1⟩
theorem rc1 : RC 1 RX1 := ⟨by decide, TX1, _, rfl⟩
theorem nz1 : ∀ k, k < nF 1 → fT 1 k = .int ∨ fT 1 k = .boolean ∨ (fT 1 k).isReference = true := by decide +kernel
theorem nf1_2 : ∀ (C : String) (T : u_T), CF 1 C T → (T 2).2.2.2 = false := fun C T h => by
  have e := Option.some.inj h.1
  have e2 : TX1 = T := congrArg (fun q => q.2.1) e
  rw [← e2]
  rfl
theorem nf1_3 : ∀ (C : String) (T : u_T), CF 1 C T → (T 3).2.2.2 = false := fun C T h => by
  have e := Option.some.inj h.1
  have e2 : TX1 = T := congrArg (fun q => q.2.1) e
  rw [← e2]
  rfl
theorem cf2 : CF 2 RX2 TX2 := ⟨rfl, sub_gw (by decide +kernel) (by decide +kernel), tyX2_ok, nmX2⟩
theorem rc2 : RC 2 RX2 := ⟨by decide, TX2, _, rfl⟩
theorem nz2 : ∀ k, k < nF 2 → fT 2 k = .int ∨ fT 2 k = .boolean ∨ (fT 2 k).isReference = true := by decide +kernel
theorem nf2_2 : ∀ (C : String) (T : u_T), CF 2 C T → (T 2).2.2.2 = false := fun C T h => by
  have e := Option.some.inj h.1
  have e2 : TX2 = T := congrArg (fun q => q.2.1) e
  rw [← e2]
  rfl
theorem nf2_3 : ∀ (C : String) (T : u_T), CF 2 C T → (T 3).2.2.2 = false := fun C T h => by
  have e := Option.some.inj h.1
  have e2 : TX2 = T := congrArg (fun q => q.2.1) e
  rw [← e2]
  rfl
theorem nf2_4 : ∀ (C : String) (T : u_T), CF 2 C T → (T 4).2.2.2 = false := fun C T h => by
  have e := Option.some.inj h.1
  have e2 : TX2 = T := congrArg (fun q => q.2.1) e
  rw [← e2]
  rfl
theorem cf3 : CF 3 RX3 TX3 := ⟨rfl, sub_gw (by decide +kernel) (by decide +kernel), tyX3_ok, nmX3⟩
theorem rc3 : RC 3 RX3 := ⟨by decide, TX3, _, rfl⟩
theorem nz3 : ∀ k, k < nF 3 → fT 3 k = .int ∨ fT 3 k = .boolean ∨ (fT 3 k).isReference = true := by decide +kernel
theorem nf3_0 : ∀ (C : String) (T : u_T), CF 3 C T → (T 0).2.2.2 = false := fun C T h => by
  have e := Option.some.inj h.1
  have e2 : TX3 = T := congrArg (fun q => q.2.1) e
  rw [← e2]
  rfl
theorem nf3_1 : ∀ (C : String) (T : u_T), CF 3 C T → (T 1).2.2.2 = false := fun C T h => by
  have e := Option.some.inj h.1
  have e2 : TX3 = T := congrArg (fun q => q.2.1) e
  rw [← e2]
  rfl
theorem cf4 : CF 4 RX4 TX4 := ⟨rfl, sub_gw (by decide +kernel) (by decide +kernel), tyX4_ok, nmX4⟩
theorem rc4 : RC 4 RX4 := ⟨by decide, TX4, _, rfl⟩
theorem nz4 : ∀ k, k < nF 4 → fT 4 k = .int ∨ fT 4 k = .boolean ∨ (fT 4 k).isReference = true := by decide +kernel
theorem cf5 : CF 5 RX5 TX5 := ⟨rfl, sub_gw (by decide +kernel) (by decide +kernel), tyX5_ok, nmX5⟩
theorem rc5 : RC 5 RX5 := ⟨by decide, TX5, _, rfl⟩
theorem nz5 : ∀ k, k < nF 5 → fT 5 k = .int ∨ fT 5 k = .boolean ∨ (fT 5 k).isReference = true := by decide +kernel
theorem nf5_0 : ∀ (C : String) (T : u_T), CF 5 C T → (T 0).2.2.2 = false := fun C T h => by
  have e := Option.some.inj h.1
  have e2 : TX5 = T := congrArg (fun q => q.2.1) e
  rw [← e2]
  rfl
theorem nf5_1 : ∀ (C : String) (T : u_T), CF 5 C T → (T 1).2.2.2 = false := fun C T h => by
  have e := Option.some.inj h.1
  have e2 : TX5 = T := congrArg (fun q => q.2.1) e
  rw [← e2]
  rfl
theorem nf5_2 : ∀ (C : String) (T : u_T), CF 5 C T → (T 2).2.2.2 = false := fun C T h => by
  have e := Option.some.inj h.1
  have e2 : TX5 = T := congrArg (fun q => q.2.1) e
  rw [← e2]
  rfl
theorem nf5_3 : ∀ (C : String) (T : u_T), CF 5 C T → (T 3).2.2.2 = false := fun C T h => by
  have e := Option.some.inj h.1
  have e2 : TX5 = T := congrArg (fun q => q.2.1) e
  rw [← e2]
  rfl
theorem nf5_4 : ∀ (C : String) (T : u_T), CF 5 C T → (T 4).2.2.2 = false := fun C T h => by
  have e := Option.some.inj h.1
  have e2 : TX5 = T := congrArg (fun q => q.2.1) e
  rw [← e2]
  rfl
theorem nf5_5 : ∀ (C : String) (T : u_T), CF 5 C T → (T 5).2.2.2 = false := fun C T h => by
  have e := Option.some.inj h.1
  have e2 : TX5 = T := congrArg (fun q => q.2.1) e
  rw [← e2]
  rfl
theorem nf5_7 : ∀ (C : String) (T : u_T), CF 5 C T → (T 7).2.2.2 = false := fun C T h => by
  have e := Option.some.inj h.1
  have e2 : TX5 = T := congrArg (fun q => q.2.1) e
  rw [← e2]
  rfl
theorem nf5_9 : ∀ (C : String) (T : u_T), CF 5 C T → (T 9).2.2.2 = false := fun C T h => by
  have e := Option.some.inj h.1
  have e2 : TX5 = T := congrArg (fun q => q.2.1) e
  rw [← e2]
  rfl
theorem nf5_11 : ∀ (C : String) (T : u_T), CF 5 C T → (T 11).2.2.2 = false := fun C T h => by
  have e := Option.some.inj h.1
  have e2 : TX5 = T := congrArg (fun q => q.2.1) e
  rw [← e2]
  rfl
theorem nf5_12 : ∀ (C : String) (T : u_T), CF 5 C T → (T 12).2.2.2 = false := fun C T h => by
  have e := Option.some.inj h.1
  have e2 : TX5 = T := congrArg (fun q => q.2.1) e
  rw [← e2]
  rfl
theorem nf5_13 : ∀ (C : String) (T : u_T), CF 5 C T → (T 13).2.2.2 = false := fun C T h => by
  have e := Option.some.inj h.1
  have e2 : TX5 = T := congrArg (fun q => q.2.1) e
  rw [← e2]
  rfl
theorem nf5_14 : ∀ (C : String) (T : u_T), CF 5 C T → (T 14).2.2.2 = false := fun C T h => by
  have e := Option.some.inj h.1
  have e2 : TX5 = T := congrArg (fun q => q.2.1) e
  rw [← e2]
  rfl
theorem cf6 : CF 6 RX6 TX6 := ⟨rfl, sub_gw (by decide +kernel) (by decide +kernel), tyX6_ok, nmX6⟩
theorem rc6 : RC 6 RX6 := ⟨by decide, TX6, _, rfl⟩
theorem nz6 : ∀ k, k < nF 6 → fT 6 k = .int ∨ fT 6 k = .boolean ∨ (fT 6 k).isReference = true := by decide +kernel
theorem cf7 : CF 7 RX7 TX7 := ⟨rfl, sub_gw (by decide +kernel) (by decide +kernel), tyX7_ok, nmX7⟩
theorem rc7 : RC 7 RX7 := ⟨by decide, TX7, _, rfl⟩
theorem nz7 : ∀ k, k < nF 7 → fT 7 k = .int ∨ fT 7 k = .boolean ∨ (fT 7 k).isReference = true := by decide +kernel
theorem nf7_1 : ∀ (C : String) (T : u_T), CF 7 C T → (T 1).2.2.2 = false := fun C T h => by
  have e := Option.some.inj h.1
  have e2 : TX7 = T := congrArg (fun q => q.2.1) e
  rw [← e2]
  rfl
theorem cf8 : CF 8 RX8 TX8 := ⟨rfl, sub_gw (by decide +kernel) (by decide +kernel), tyX8_ok, nmX8⟩
theorem rc8 : RC 8 RX8 := ⟨by decide, TX8, _, rfl⟩
theorem nz8 : ∀ k, k < nF 8 → fT 8 k = .int ∨ fT 8 k = .boolean ∨ (fT 8 k).isReference = true := by decide +kernel
theorem nf8_4 : ∀ (C : String) (T : u_T), CF 8 C T → (T 4).2.2.2 = false := fun C T h => by
  have e := Option.some.inj h.1
  have e2 : TX8 = T := congrArg (fun q => q.2.1) e
  rw [← e2]
  rfl
theorem nf8_6 : ∀ (C : String) (T : u_T), CF 8 C T → (T 6).2.2.2 = false := fun C T h => by
  have e := Option.some.inj h.1
  have e2 : TX8 = T := congrArg (fun q => q.2.1) e
  rw [← e2]
  rfl
theorem cf9 : CF 9 RX9 TX9 := ⟨rfl, sub_gw (by decide +kernel) (by decide +kernel), tyX9_ok, nmX9⟩
theorem rc9 : RC 9 RX9 := ⟨by decide, TX9, _, rfl⟩
theorem nz9 : ∀ k, k < nF 9 → fT 9 k = .int ∨ fT 9 k = .boolean ∨ (fT 9 k).isReference = true := by decide +kernel
theorem nf9_0 : ∀ (C : String) (T : u_T), CF 9 C T → (T 0).2.2.2 = false := fun C T h => by
  have e := Option.some.inj h.1
  have e2 : TX9 = T := congrArg (fun q => q.2.1) e
  rw [← e2]
  rfl
theorem nf9_1 : ∀ (C : String) (T : u_T), CF 9 C T → (T 1).2.2.2 = false := fun C T h => by
  have e := Option.some.inj h.1
  have e2 : TX9 = T := congrArg (fun q => q.2.1) e
  rw [← e2]
  rfl
theorem nf9_2 : ∀ (C : String) (T : u_T), CF 9 C T → (T 2).2.2.2 = false := fun C T h => by
  have e := Option.some.inj h.1
  have e2 : TX9 = T := congrArg (fun q => q.2.1) e
  rw [← e2]
  rfl
theorem nf9_3 : ∀ (C : String) (T : u_T), CF 9 C T → (T 3).2.2.2 = false := fun C T h => by
  have e := Option.some.inj h.1
  have e2 : TX9 = T := congrArg (fun q => q.2.1) e
  rw [← e2]
  rfl
theorem nf9_4 : ∀ (C : String) (T : u_T), CF 9 C T → (T 4).2.2.2 = false := fun C T h => by
  have e := Option.some.inj h.1
  have e2 : TX9 = T := congrArg (fun q => q.2.1) e
  rw [← e2]
  rfl
theorem nf9_5 : ∀ (C : String) (T : u_T), CF 9 C T → (T 5).2.2.2 = false := fun C T h => by
  have e := Option.some.inj h.1
  have e2 : TX9 = T := congrArg (fun q => q.2.1) e
  rw [← e2]
  rfl
theorem nf9_6 : ∀ (C : String) (T : u_T), CF 9 C T → (T 6).2.2.2 = false := fun C T h => by
  have e := Option.some.inj h.1
  have e2 : TX9 = T := congrArg (fun q => q.2.1) e
  rw [← e2]
  rfl
theorem nf9_7 : ∀ (C : String) (T : u_T), CF 9 C T → (T 7).2.2.2 = false := fun C T h => by
  have e := Option.some.inj h.1
  have e2 : TX9 = T := congrArg (fun q => q.2.1) e
  rw [← e2]
  rfl
theorem nf9_8 : ∀ (C : String) (T : u_T), CF 9 C T → (T 8).2.2.2 = false := fun C T h => by
  have e := Option.some.inj h.1
  have e2 : TX9 = T := congrArg (fun q => q.2.1) e
  rw [← e2]
  rfl
theorem nf9_9 : ∀ (C : String) (T : u_T), CF 9 C T → (T 9).2.2.2 = false := fun C T h => by
  have e := Option.some.inj h.1
  have e2 : TX9 = T := congrArg (fun q => q.2.1) e
  rw [← e2]
  rfl
theorem nf9_10 : ∀ (C : String) (T : u_T), CF 9 C T → (T 10).2.2.2 = false := fun C T h => by
  have e := Option.some.inj h.1
  have e2 : TX9 = T := congrArg (fun q => q.2.1) e
  rw [← e2]
  rfl
theorem nf9_11 : ∀ (C : String) (T : u_T), CF 9 C T → (T 11).2.2.2 = false := fun C T h => by
  have e := Option.some.inj h.1
  have e2 : TX9 = T := congrArg (fun q => q.2.1) e
  rw [← e2]
  rfl
theorem nf9_12 : ∀ (C : String) (T : u_T), CF 9 C T → (T 12).2.2.2 = false := fun C T h => by
  have e := Option.some.inj h.1
  have e2 : TX9 = T := congrArg (fun q => q.2.1) e
  rw [← e2]
  rfl
theorem nf9_29 : ∀ (C : String) (T : u_T), CF 9 C T → (T 29).2.2.2 = false := fun C T h => by
  have e := Option.some.inj h.1
  have e2 : TX9 = T := congrArg (fun q => q.2.1) e
  rw [← e2]
  rfl
theorem nf9_32 : ∀ (C : String) (T : u_T), CF 9 C T → (T 32).2.2.2 = false := fun C T h => by
  have e := Option.some.inj h.1
  have e2 : TX9 = T := congrArg (fun q => q.2.1) e
  rw [← e2]
  rfl
theorem nf9_33 : ∀ (C : String) (T : u_T), CF 9 C T → (T 33).2.2.2 = false := fun C T h => by
  have e := Option.some.inj h.1
  have e2 : TX9 = T := congrArg (fun q => q.2.1) e
  rw [← e2]
  rfl
theorem nf9_34 : ∀ (C : String) (T : u_T), CF 9 C T → (T 34).2.2.2 = false := fun C T h => by
  have e := Option.some.inj h.1
  have e2 : TX9 = T := congrArg (fun q => q.2.1) e
  rw [← e2]
  rfl
theorem nf9_35 : ∀ (C : String) (T : u_T), CF 9 C T → (T 35).2.2.2 = false := fun C T h => by
  have e := Option.some.inj h.1
  have e2 : TX9 = T := congrArg (fun q => q.2.1) e
  rw [← e2]
  rfl
theorem nf9_36 : ∀ (C : String) (T : u_T), CF 9 C T → (T 36).2.2.2 = false := fun C T h => by
  have e := Option.some.inj h.1
  have e2 : TX9 = T := congrArg (fun q => q.2.1) e
  rw [← e2]
  rfl
theorem nf9_42 : ∀ (C : String) (T : u_T), CF 9 C T → (T 42).2.2.2 = false := fun C T h => by
  have e := Option.some.inj h.1
  have e2 : TX9 = T := congrArg (fun q => q.2.1) e
  rw [← e2]
  rfl
theorem nf9_43 : ∀ (C : String) (T : u_T), CF 9 C T → (T 43).2.2.2 = false := fun C T h => by
  have e := Option.some.inj h.1
  have e2 : TX9 = T := congrArg (fun q => q.2.1) e
  rw [← e2]
  rfl
theorem nf9_47 : ∀ (C : String) (T : u_T), CF 9 C T → (T 47).2.2.2 = false := fun C T h => by
  have e := Option.some.inj h.1
  have e2 : TX9 = T := congrArg (fun q => q.2.1) e
  rw [← e2]
  rfl
theorem nf9_48 : ∀ (C : String) (T : u_T), CF 9 C T → (T 48).2.2.2 = false := fun C T h => by
  have e := Option.some.inj h.1
  have e2 : TX9 = T := congrArg (fun q => q.2.1) e
  rw [← e2]
  rfl
theorem mfX0_init : MF yX0_init cX0_init 1 (none) 0 := ⟨⟨by decide +kernel, by decide⟩, ⟨by decide +kernel, by decide +kernel, by decide +kernel⟩, in_t 43 (by decide +kernel) rfl, in_t 3 (by decide +kernel) rfl⟩
theorem mfX0_becomeEven : MF yX0_becomeEven cX0_becomeEven 3 (none) 1 := ⟨⟨by decide +kernel, by decide⟩, ⟨by decide +kernel, by decide +kernel, by decide +kernel⟩, in_t 56 (by decide +kernel) rfl, in_t 3 (by decide +kernel) rfl⟩
theorem mfX5_init : MF yX5_init cX5_init 1 (none) 0 := ⟨⟨by decide +kernel, by decide⟩, ⟨by decide +kernel, by decide +kernel, by decide +kernel⟩, in_t 33 (by decide +kernel) rfl, in_t 2 (by decide +kernel) rfl⟩
theorem mfX1_init : MF yX1_init cX1_init 1 (none) 0 := ⟨⟨by decide +kernel, by decide⟩, ⟨by decide +kernel, by decide +kernel, by decide +kernel⟩, in_t 128 (by decide +kernel) rfl, in_t 4 (by decide +kernel) rfl⟩
theorem mfX7_init : MF yX7_init cX7_init 1 (none) 0 := ⟨⟨by decide +kernel, by decide⟩, ⟨by decide +kernel, by decide +kernel, by decide +kernel⟩, in_t 152 (by decide +kernel) rfl, in_t 5 (by decide +kernel) rfl⟩
theorem mfX3_init : MF yX3_init cX3_init 1 (none) 0 := ⟨⟨by decide +kernel, by decide⟩, ⟨by decide +kernel, by decide +kernel, by decide +kernel⟩, in_t 165 (by decide +kernel) rfl, in_t 6 (by decide +kernel) rfl⟩
theorem mfX8_init : MF yX8_init cX8_init 2 (none) 0 := ⟨⟨by decide +kernel, by decide⟩, ⟨by decide +kernel, by decide +kernel, by decide +kernel⟩, in_t 23 (by decide +kernel) rfl, in_t 1 (by decide +kernel) rfl⟩
theorem mfX9_knows : MF yX9_knows cX9_knows 3 (none) 1 := ⟨⟨by decide +kernel, by decide⟩, ⟨by decide +kernel, by decide +kernel, by decide +kernel⟩, in_t 953 (by decide +kernel) rfl, in_t 7 (by decide +kernel) rfl⟩
theorem mfX9_init : MF yX9_init cX9_init 1 (none) 0 := ⟨⟨by decide +kernel, by decide⟩, ⟨by decide +kernel, by decide +kernel, by decide +kernel⟩, in_t 948 (by decide +kernel) rfl, in_t 7 (by decide +kernel) rfl⟩
theorem mfX8_shelfAt : MF yX8_shelfAt cX8_shelfAt 2 ((some (.object "AStreetByACane$Shelf"))) 1 := ⟨⟨by decide +kernel, by decide⟩, ⟨by decide +kernel, by decide +kernel, by decide +kernel⟩, in_t 219 (by decide +kernel) rfl, in_t 1 (by decide +kernel) rfl⟩
theorem mfX8_refused : MF yX8_refused cX8_refused 3 ((some .int)) 1 := ⟨⟨by decide +kernel, by decide⟩, ⟨by decide +kernel, by decide +kernel, by decide +kernel⟩, in_t 223 (by decide +kernel) rfl, in_t 1 (by decide +kernel) rfl⟩
theorem mfJ7_fill_d0a16 : MF yJ7_fill_d0a16 cJ7_fill_d0a16 5 (none) 2 := ⟨⟨by decide +kernel, by decide⟩, ⟨by decide +kernel, by decide +kernel, by decide +kernel⟩, in_t 230 (by decide +kernel) rfl, in_t 8 (by decide +kernel) rfl⟩
theorem mfX3_takeRow : MF yX3_takeRow cX3_takeRow 3 (none) 2 := ⟨⟨by decide +kernel, by decide⟩, ⟨by decide +kernel, by decide +kernel, by decide +kernel⟩, in_t 227 (by decide +kernel) rfl, in_t 6 (by decide +kernel) rfl⟩
theorem mfX8_row : MF yX8_row cX8_row 5 ((some .int)) 3 := ⟨⟨by decide +kernel, by decide⟩, ⟨by decide +kernel, by decide +kernel, by decide +kernel⟩, in_t 215 (by decide +kernel) rfl, in_t 1 (by decide +kernel) rfl⟩
theorem mfX9_isShelf : MF yX9_isShelf cX9_isShelf 2 ((some .boolean)) 1 := ⟨⟨by decide +kernel, by decide⟩, ⟨by decide +kernel, by decide +kernel, by decide +kernel⟩, in_t 1109 (by decide +kernel) rfl, in_t 7 (by decide +kernel) rfl⟩
theorem mfX9_no : MF yX9_no cX9_no 2 ((some .int)) 1 := ⟨⟨by decide +kernel, by decide⟩, ⟨by decide +kernel, by decide +kernel, by decide +kernel⟩, in_t 1113 (by decide +kernel) rfl, in_t 7 (by decide +kernel) rfl⟩
theorem mfX9_row : MF yX9_row cX9_row 5 ((some .int)) 3 := ⟨⟨by decide +kernel, by decide⟩, ⟨by decide +kernel, by decide +kernel, by decide +kernel⟩, in_t 1105 (by decide +kernel) rfl, in_t 7 (by decide +kernel) rfl⟩
theorem mfX3_holdsRow : MF yX3_holdsRow cX3_holdsRow 1 ((some .boolean)) 0 := ⟨⟨by decide +kernel, by decide⟩, ⟨by decide +kernel, by decide +kernel, by decide +kernel⟩, in_t 241 (by decide +kernel) rfl, in_t 6 (by decide +kernel) rfl⟩
theorem mfX8_rowTrouble : MF yX8_rowTrouble cX8_rowTrouble 1 ((some .int)) 1 := ⟨⟨by decide +kernel, by decide⟩, ⟨by decide +kernel, by decide +kernel, by decide +kernel⟩, in_t 237 (by decide +kernel) rfl, in_t 1 (by decide +kernel) rfl⟩
theorem mfX3_hasRun : MF yX3_hasRun cX3_hasRun 3 ((some .boolean)) 2 := ⟨⟨by decide +kernel, by decide⟩, ⟨by decide +kernel, by decide +kernel, by decide +kernel⟩, in_t 245 (by decide +kernel) rfl, in_t 6 (by decide +kernel) rfl⟩
theorem mfX3_lowestBits : MF yX3_lowestBits cX3_lowestBits 3 ((some .long)) 1 := ⟨⟨by decide +kernel, by decide⟩, ⟨by decide +kernel, by decide +kernel, by decide +kernel⟩, in_t 253 (by decide +kernel) rfl, in_t 6 (by decide +kernel) rfl⟩
theorem mfX3_put : MF yX3_put cX3_put 4 (none) 2 := ⟨⟨by decide +kernel, by decide⟩, ⟨by decide +kernel, by decide +kernel, by decide +kernel⟩, in_t 249 (by decide +kernel) rfl, in_t 6 (by decide +kernel) rfl⟩
theorem mfX8_set : MF yX8_set cX8_set 7 ((some .int)) 3 := ⟨⟨by decide +kernel, by decide⟩, ⟨by decide +kernel, by decide +kernel, by decide +kernel⟩, in_t 234 (by decide +kernel) rfl, in_t 1 (by decide +kernel) rfl⟩
theorem mfX9_set : MF yX9_set cX9_set 5 ((some .int)) 3 := ⟨⟨by decide +kernel, by decide⟩, ⟨by decide +kernel, by decide +kernel, by decide +kernel⟩, in_t 1117 (by decide +kernel) rfl, in_t 7 (by decide +kernel) rfl⟩
theorem mfX8_pairTrouble : MF yX8_pairTrouble cX8_pairTrouble 4 ((some .int)) 2 := ⟨⟨by decide +kernel, by decide⟩, ⟨by decide +kernel, by decide +kernel, by decide +kernel⟩, in_t 260 (by decide +kernel) rfl, in_t 1 (by decide +kernel) rfl⟩
theorem mfX8_copy : MF yX8_copy cX8_copy 9 ((some .int)) 5 := ⟨⟨by decide +kernel, by decide⟩, ⟨by decide +kernel, by decide +kernel, by decide +kernel⟩, in_t 257 (by decide +kernel) rfl, in_t 1 (by decide +kernel) rfl⟩
theorem mfX9_copy : MF yX9_copy cX9_copy 7 ((some .int)) 5 := ⟨⟨by decide +kernel, by decide⟩, ⟨by decide +kernel, by decide +kernel, by decide +kernel⟩, in_t 1121 (by decide +kernel) rfl, in_t 7 (by decide +kernel) rfl⟩
theorem mfX3_valueAt : MF yX3_valueAt cX3_valueAt 2 ((some .long)) 1 := ⟨⟨by decide +kernel, by decide⟩, ⟨by decide +kernel, by decide +kernel, by decide +kernel⟩, in_t 271 (by decide +kernel) rfl, in_t 6 (by decide +kernel) rfl⟩
theorem mfX8_element : MF yX8_element cX8_element 4 ((some .long)) 2 := ⟨⟨by decide +kernel, by decide⟩, ⟨by decide +kernel, by decide +kernel, by decide +kernel⟩, in_t 267 (by decide +kernel) rfl, in_t 1 (by decide +kernel) rfl⟩
theorem mfX9_element : MF yX9_element cX9_element 3 ((some .long)) 2 := ⟨⟨by decide +kernel, by decide⟩, ⟨by decide +kernel, by decide +kernel, by decide +kernel⟩, in_t 1125 (by decide +kernel) rfl, in_t 7 (by decide +kernel) rfl⟩
theorem mfX5_signAt : MF yX5_signAt cX5_signAt 2 ((some (.object "AStreetByACane$Sign"))) 1 := ⟨⟨by decide +kernel, by decide⟩, ⟨by decide +kernel, by decide +kernel, by decide +kernel⟩, in_t 279 (by decide +kernel) rfl, in_t 2 (by decide +kernel) rfl⟩
theorem mfX3_takeSign : MF yX3_takeSign cX3_takeSign 2 (none) 1 := ⟨⟨by decide +kernel, by decide⟩, ⟨by decide +kernel, by decide +kernel, by decide +kernel⟩, in_t 283 (by decide +kernel) rfl, in_t 6 (by decide +kernel) rfl⟩
theorem mfX8_show : MF yX8_show cX8_show 4 ((some .int)) 2 := ⟨⟨by decide +kernel, by decide⟩, ⟨by decide +kernel, by decide +kernel, by decide +kernel⟩, in_t 275 (by decide +kernel) rfl, in_t 1 (by decide +kernel) rfl⟩
theorem mfX9_isSign : MF yX9_isSign cX9_isSign 2 ((some .boolean)) 1 := ⟨⟨by decide +kernel, by decide⟩, ⟨by decide +kernel, by decide +kernel, by decide +kernel⟩, in_t 1133 (by decide +kernel) rfl, in_t 7 (by decide +kernel) rfl⟩
theorem mfX9_show : MF yX9_show cX9_show 3 ((some .int)) 2 := ⟨⟨by decide +kernel, by decide⟩, ⟨by decide +kernel, by decide +kernel, by decide +kernel⟩, in_t 1129 (by decide +kernel) rfl, in_t 7 (by decide +kernel) rfl⟩
theorem mfX8_holds : MF yX8_holds cX8_holds 3 ((some .int)) 1 := ⟨⟨by decide +kernel, by decide⟩, ⟨by decide +kernel, by decide +kernel, by decide +kernel⟩, in_t 287 (by decide +kernel) rfl, in_t 1 (by decide +kernel) rfl⟩
theorem mfX9_holds : MF yX9_holds cX9_holds 2 ((some .int)) 1 := ⟨⟨by decide +kernel, by decide⟩, ⟨by decide +kernel, by decide +kernel, by decide +kernel⟩, in_t 1137 (by decide +kernel) rfl, in_t 7 (by decide +kernel) rfl⟩
theorem mfX4_isOf : MF yX4_isOf cX4_isOf 4 ((some .boolean)) 1 := ⟨⟨by decide +kernel, by decide⟩, ⟨by decide +kernel, by decide +kernel, by decide +kernel⟩, in_t 295 (by decide +kernel) rfl, in_t 12 (by decide +kernel) rfl⟩
theorem mfX5_loudness : MF yX5_loudness cX5_loudness 3 ((some .int)) 2 := ⟨⟨by decide +kernel, by decide⟩, ⟨by decide +kernel, by decide +kernel, by decide +kernel⟩, in_t 312 (by decide +kernel) rfl, in_t 2 (by decide +kernel) rfl⟩
theorem mfX5_otherCellOf : MF yX5_otherCellOf cX5_otherCellOf 2 ((some .int)) 1 := ⟨⟨by decide +kernel, by decide⟩, ⟨by decide +kernel, by decide +kernel, by decide +kernel⟩, in_t 309 (by decide +kernel) rfl, in_t 2 (by decide +kernel) rfl⟩
theorem mfX5_tenthsOf : MF yX5_tenthsOf cX5_tenthsOf 4 ((some .int)) 2 := ⟨⟨by decide +kernel, by decide⟩, ⟨by decide +kernel, by decide +kernel, by decide +kernel⟩, in_t 305 (by decide +kernel) rfl, in_t 2 (by decide +kernel) rfl⟩
theorem mfJ6_bitCount_0f7a4 : MF yJ6_bitCount_0f7a4 cJ6_bitCount_0f7a4 1 ((some .int)) 1 := ⟨⟨by decide +kernel, by decide⟩, ⟨by decide +kernel, by decide +kernel, by decide +kernel⟩, in_t 318 (by decide +kernel) rfl, in_t 11 (by decide +kernel) rfl⟩
theorem mfX5_saidBy : MF yX5_saidBy cX5_saidBy 3 ((some .int)) 2 := ⟨⟨by decide +kernel, by decide⟩, ⟨by decide +kernel, by decide +kernel, by decide +kernel⟩, in_t 301 (by decide +kernel) rfl, in_t 2 (by decide +kernel) rfl⟩
theorem mfX8_says : MF yX8_says cX8_says 5 ((some .int)) 2 := ⟨⟨by decide +kernel, by decide⟩, ⟨by decide +kernel, by decide +kernel, by decide +kernel⟩, in_t 291 (by decide +kernel) rfl, in_t 1 (by decide +kernel) rfl⟩
theorem mfX9_strengthOf : MF yX9_strengthOf cX9_strengthOf 5 ((some .int)) 2 := ⟨⟨by decide +kernel, by decide⟩, ⟨by decide +kernel, by decide +kernel, by decide +kernel⟩, in_t 1145 (by decide +kernel) rfl, in_t 7 (by decide +kernel) rfl⟩
theorem mfX9_says : MF yX9_says cX9_says 7 ((some .int)) 2 := ⟨⟨by decide +kernel, by decide⟩, ⟨by decide +kernel, by decide +kernel, by decide +kernel⟩, in_t 1141 (by decide +kernel) rfl, in_t 7 (by decide +kernel) rfl⟩
theorem mfX5_knowNothing : MF yX5_knowNothing cX5_knowNothing 1 (none) 0 := ⟨⟨by decide +kernel, by decide⟩, ⟨by decide +kernel, by decide +kernel, by decide +kernel⟩, in_t 336 (by decide +kernel) rfl, in_t 2 (by decide +kernel) rfl⟩
theorem mfX5_tellLength : MF yX5_tellLength cX5_tellLength 2 (none) 1 := ⟨⟨by decide +kernel, by decide⟩, ⟨by decide +kernel, by decide +kernel, by decide +kernel⟩, in_t 332 (by decide +kernel) rfl, in_t 2 (by decide +kernel) rfl⟩
theorem mfX8_dropSignsFrom : MF yX8_dropSignsFrom cX8_dropSignsFrom 4 (none) 1 := ⟨⟨by decide +kernel, by decide⟩, ⟨by decide +kernel, by decide +kernel, by decide +kernel⟩, in_t 340 (by decide +kernel) rfl, in_t 1 (by decide +kernel) rfl⟩
theorem mfX8_street : MF yX8_street cX8_street 3 ((some .int)) 1 := ⟨⟨by decide +kernel, by decide⟩, ⟨by decide +kernel, by decide +kernel, by decide +kernel⟩, in_t 328 (by decide +kernel) rfl, in_t 1 (by decide +kernel) rfl⟩
theorem mfX9_along : MF yX9_along cX9_along 2 (none) 1 := ⟨⟨by decide +kernel, by decide⟩, ⟨by decide +kernel, by decide +kernel, by decide +kernel⟩, in_t 1153 (by decide +kernel) rfl, in_t 7 (by decide +kernel) rfl⟩
theorem mfX9_empties : MF yX9_empties cX9_empties 2 (none) 0 := ⟨⟨by decide +kernel, by decide⟩, ⟨by decide +kernel, by decide +kernel, by decide +kernel⟩, in_t 1157 (by decide +kernel) rfl, in_t 7 (by decide +kernel) rfl⟩
theorem mfX9_street : MF yX9_street cX9_street 3 ((some .int)) 1 := ⟨⟨by decide +kernel, by decide⟩, ⟨by decide +kernel, by decide +kernel, by decide +kernel⟩, in_t 1149 (by decide +kernel) rfl, in_t 7 (by decide +kernel) rfl⟩
theorem mfX5_hasCell : MF yX5_hasCell cX5_hasCell 2 ((some .boolean)) 1 := ⟨⟨by decide +kernel, by decide⟩, ⟨by decide +kernel, by decide +kernel, by decide +kernel⟩, in_t 348 (by decide +kernel) rfl, in_t 2 (by decide +kernel) rfl⟩
theorem mfX5_hasRoomForSign : MF yX5_hasRoomForSign cX5_hasRoomForSign 1 ((some .boolean)) 0 := ⟨⟨by decide +kernel, by decide⟩, ⟨by decide +kernel, by decide +kernel, by decide +kernel⟩, in_t 352 (by decide +kernel) rfl, in_t 2 (by decide +kernel) rfl⟩
theorem mfX4_init : MF yX4_init cX4_init 6 (none) 5 := ⟨⟨by decide +kernel, by decide⟩, ⟨by decide +kernel, by decide +kernel, by decide +kernel⟩, in_t 360 (by decide +kernel) rfl, in_t 12 (by decide +kernel) rfl⟩
theorem mfX5_addSign : MF yX5_addSign cX5_addSign 6 ((some .int)) 4 := ⟨⟨by decide +kernel, by decide⟩, ⟨by decide +kernel, by decide +kernel, by decide +kernel⟩, in_t 356 (by decide +kernel) rfl, in_t 2 (by decide +kernel) rfl⟩
theorem mfX8_sign : MF yX8_sign cX8_sign 5 ((some .int)) 4 := ⟨⟨by decide +kernel, by decide⟩, ⟨by decide +kernel, by decide +kernel, by decide +kernel⟩, in_t 344 (by decide +kernel) rfl, in_t 1 (by decide +kernel) rfl⟩
theorem mfX9_isCell : MF yX9_isCell cX9_isCell 2 ((some .boolean)) 1 := ⟨⟨by decide +kernel, by decide⟩, ⟨by decide +kernel, by decide +kernel, by decide +kernel⟩, in_t 1165 (by decide +kernel) rfl, in_t 7 (by decide +kernel) rfl⟩
theorem mfX9_signs : MF yX9_signs cX9_signs 5 ((some .int)) 4 := ⟨⟨by decide +kernel, by decide⟩, ⟨by decide +kernel, by decide +kernel, by decide +kernel⟩, in_t 1169 (by decide +kernel) rfl, in_t 7 (by decide +kernel) rfl⟩
theorem mfX9_sign : MF yX9_sign cX9_sign 5 ((some .int)) 4 := ⟨⟨by decide +kernel, by decide⟩, ⟨by decide +kernel, by decide +kernel, by decide +kernel⟩, in_t 1161 (by decide +kernel) rfl, in_t 7 (by decide +kernel) rfl⟩
theorem mfX5_hasRoomForThing : MF yX5_hasRoomForThing cX5_hasRoomForThing 1 ((some .boolean)) 0 := ⟨⟨by decide +kernel, by decide⟩, ⟨by decide +kernel, by decide +kernel, by decide +kernel⟩, in_t 394 (by decide +kernel) rfl, in_t 2 (by decide +kernel) rfl⟩
theorem mfX6_init : MF yX6_init cX6_init 4 (none) 3 := ⟨⟨by decide +kernel, by decide⟩, ⟨by decide +kernel, by decide +kernel, by decide +kernel⟩, in_t 402 (by decide +kernel) rfl, in_t 13 (by decide +kernel) rfl⟩
theorem mfX5_addThing : MF yX5_addThing cX5_addThing 5 ((some .int)) 3 := ⟨⟨by decide +kernel, by decide⟩, ⟨by decide +kernel, by decide +kernel, by decide +kernel⟩, in_t 398 (by decide +kernel) rfl, in_t 2 (by decide +kernel) rfl⟩
theorem mfX8_thing : MF yX8_thing cX8_thing 4 ((some .int)) 3 := ⟨⟨by decide +kernel, by decide⟩, ⟨by decide +kernel, by decide +kernel, by decide +kernel⟩, in_t 390 (by decide +kernel) rfl, in_t 1 (by decide +kernel) rfl⟩
theorem mfX9_stands : MF yX9_stands cX9_stands 4 ((some .int)) 3 := ⟨⟨by decide +kernel, by decide⟩, ⟨by decide +kernel, by decide +kernel, by decide +kernel⟩, in_t 1177 (by decide +kernel) rfl, in_t 7 (by decide +kernel) rfl⟩
theorem mfX9_thing : MF yX9_thing cX9_thing 4 ((some .int)) 3 := ⟨⟨by decide +kernel, by decide⟩, ⟨by decide +kernel, by decide +kernel, by decide +kernel⟩, in_t 1173 (by decide +kernel) rfl, in_t 7 (by decide +kernel) rfl⟩
theorem mfX3_intAt : MF yX3_intAt cX3_intAt 2 ((some .int)) 1 := ⟨⟨by decide +kernel, by decide⟩, ⟨by decide +kernel, by decide +kernel, by decide +kernel⟩, in_t 431 (by decide +kernel) rfl, in_t 6 (by decide +kernel) rfl⟩
theorem mfX8_addThingFrom : MF yX8_addThingFrom cX8_addThingFrom 6 ((some .boolean)) 2 := ⟨⟨by decide +kernel, by decide⟩, ⟨by decide +kernel, by decide +kernel, by decide +kernel⟩, in_t 427 (by decide +kernel) rfl, in_t 1 (by decide +kernel) rfl⟩
theorem mfX8_things : MF yX8_things cX8_things 7 ((some .int)) 3 := ⟨⟨by decide +kernel, by decide⟩, ⟨by decide +kernel, by decide +kernel, by decide +kernel⟩, in_t 423 (by decide +kernel) rfl, in_t 1 (by decide +kernel) rfl⟩
theorem mfX9_wants : MF yX9_wants cX9_wants 2 ((some .int)) 1 := ⟨⟨by decide +kernel, by decide⟩, ⟨by decide +kernel, by decide +kernel, by decide +kernel⟩, in_t 1185 (by decide +kernel) rfl, in_t 7 (by decide +kernel) rfl⟩
theorem mfX9_intAt : MF yX9_intAt cX9_intAt 3 ((some .int)) 2 := ⟨⟨by decide +kernel, by decide⟩, ⟨by decide +kernel, by decide +kernel, by decide +kernel⟩, in_t 1189 (by decide +kernel) rfl, in_t 7 (by decide +kernel) rfl⟩
theorem mfX9_things : MF yX9_things cX9_things 9 ((some .int)) 3 := ⟨⟨by decide +kernel, by decide⟩, ⟨by decide +kernel, by decide +kernel, by decide +kernel⟩, in_t 1181 (by decide +kernel) rfl, in_t 7 (by decide +kernel) rfl⟩
theorem mfX8_wander : MF yX8_wander cX8_wander 4 ((some .int)) 2 := ⟨⟨by decide +kernel, by decide⟩, ⟨by decide +kernel, by decide +kernel, by decide +kernel⟩, in_t 435 (by decide +kernel) rfl, in_t 1 (by decide +kernel) rfl⟩
theorem mfX9_wander : MF yX9_wander cX9_wander 4 ((some .int)) 2 := ⟨⟨by decide +kernel, by decide⟩, ⟨by decide +kernel, by decide +kernel, by decide +kernel⟩, in_t 1193 (by decide +kernel) rfl, in_t 7 (by decide +kernel) rfl⟩
theorem mfX8_askHour : MF yX8_askHour cX8_askHour 3 ((some .int)) 1 := ⟨⟨by decide +kernel, by decide⟩, ⟨by decide +kernel, by decide +kernel, by decide +kernel⟩, in_t 443 (by decide +kernel) rfl, in_t 1 (by decide +kernel) rfl⟩
theorem mfX8_askSnow : MF yX8_askSnow cX8_askSnow 3 ((some .int)) 1 := ⟨⟨by decide +kernel, by decide⟩, ⟨by decide +kernel, by decide +kernel, by decide +kernel⟩, in_t 447 (by decide +kernel) rfl, in_t 1 (by decide +kernel) rfl⟩
theorem mfX8_askArc : MF yX8_askArc cX8_askArc 3 ((some .int)) 1 := ⟨⟨by decide +kernel, by decide⟩, ⟨by decide +kernel, by decide +kernel, by decide +kernel⟩, in_t 451 (by decide +kernel) rfl, in_t 1 (by decide +kernel) rfl⟩
theorem mfX8_ask : MF yX8_ask cX8_ask 3 ((some .int)) 2 := ⟨⟨by decide +kernel, by decide⟩, ⟨by decide +kernel, by decide +kernel, by decide +kernel⟩, in_t 439 (by decide +kernel) rfl, in_t 1 (by decide +kernel) rfl⟩
theorem mfX9_ask : MF yX9_ask cX9_ask 4 ((some .int)) 2 := ⟨⟨by decide +kernel, by decide⟩, ⟨by decide +kernel, by decide +kernel, by decide +kernel⟩, in_t 1197 (by decide +kernel) rfl, in_t 7 (by decide +kernel) rfl⟩
theorem mfX8_signOf : MF yX8_signOf cX8_signOf 4 ((some .int)) 2 := ⟨⟨by decide +kernel, by decide⟩, ⟨by decide +kernel, by decide +kernel, by decide +kernel⟩, in_t 455 (by decide +kernel) rfl, in_t 1 (by decide +kernel) rfl⟩
theorem mfX9_signOf : MF yX9_signOf cX9_signOf 3 ((some .int)) 2 := ⟨⟨by decide +kernel, by decide⟩, ⟨by decide +kernel, by decide +kernel, by decide +kernel⟩, in_t 1201 (by decide +kernel) rfl, in_t 7 (by decide +kernel) rfl⟩
theorem mfX5_thingAt : MF yX5_thingAt cX5_thingAt 2 ((some (.object "AStreetByACane$Thing"))) 1 := ⟨⟨by decide +kernel, by decide⟩, ⟨by decide +kernel, by decide +kernel, by decide +kernel⟩, in_t 463 (by decide +kernel) rfl, in_t 2 (by decide +kernel) rfl⟩
theorem mfX8_thingOf : MF yX8_thingOf cX8_thingOf 4 ((some .int)) 2 := ⟨⟨by decide +kernel, by decide⟩, ⟨by decide +kernel, by decide +kernel, by decide +kernel⟩, in_t 459 (by decide +kernel) rfl, in_t 1 (by decide +kernel) rfl⟩
theorem mfX9_thingOf : MF yX9_thingOf cX9_thingOf 3 ((some .int)) 2 := ⟨⟨by decide +kernel, by decide⟩, ⟨by decide +kernel, by decide +kernel, by decide +kernel⟩, in_t 1205 (by decide +kernel) rfl, in_t 7 (by decide +kernel) rfl⟩
theorem mfX5_removeThing : MF yX5_removeThing cX5_removeThing 3 (none) 1 := ⟨⟨by decide +kernel, by decide⟩, ⟨by decide +kernel, by decide +kernel, by decide +kernel⟩, in_t 471 (by decide +kernel) rfl, in_t 2 (by decide +kernel) rfl⟩
theorem mfX8_clear : MF yX8_clear cX8_clear 2 ((some .int)) 1 := ⟨⟨by decide +kernel, by decide⟩, ⟨by decide +kernel, by decide +kernel, by decide +kernel⟩, in_t 467 (by decide +kernel) rfl, in_t 1 (by decide +kernel) rfl⟩
theorem mfX9_clear : MF yX9_clear cX9_clear 3 ((some .int)) 1 := ⟨⟨by decide +kernel, by decide⟩, ⟨by decide +kernel, by decide +kernel, by decide +kernel⟩, in_t 1209 (by decide +kernel) rfl, in_t 7 (by decide +kernel) rfl⟩
theorem mfX0_becomeLike : MF yX0_becomeLike cX0_becomeLike 2 (none) 1 := ⟨⟨by decide +kernel, by decide⟩, ⟨by decide +kernel, by decide +kernel, by decide +kernel⟩, in_t 483 (by decide +kernel) rfl, in_t 3 (by decide +kernel) rfl⟩
theorem mfX5_becomeLike : MF yX5_becomeLike cX5_becomeLike 3 (none) 1 := ⟨⟨by decide +kernel, by decide⟩, ⟨by decide +kernel, by decide +kernel, by decide +kernel⟩, in_t 479 (by decide +kernel) rfl, in_t 2 (by decide +kernel) rfl⟩
theorem mfX2_init : MF yX2_init cX2_init 3 (none) 2 := ⟨⟨by decide +kernel, by decide⟩, ⟨by decide +kernel, by decide +kernel, by decide +kernel⟩, in_t 489 (by decide +kernel) rfl, in_t 14 (by decide +kernel) rfl⟩
theorem mfX2_letter : MF yX2_letter cX2_letter 1 ((some .int)) 0 := ⟨⟨by decide +kernel, by decide⟩, ⟨by decide +kernel, by decide +kernel, by decide +kernel⟩, in_t 520 (by decide +kernel) rfl, in_t 14 (by decide +kernel) rfl⟩
theorem mfX2_wordWith : MF yX2_wordWith cX2_wordWith 1 ((some (.object "java/lang/String"))) 1 := ⟨⟨by decide +kernel, by decide⟩, ⟨by decide +kernel, by decide +kernel, by decide +kernel⟩, in_t 523 (by decide +kernel) rfl, in_t 14 (by decide +kernel) rfl⟩
theorem mfX2_pass : MF yX2_pass cX2_pass 2 (none) 1 := ⟨⟨by decide +kernel, by decide⟩, ⟨by decide +kernel, by decide +kernel, by decide +kernel⟩, in_t 590 (by decide +kernel) rfl, in_t 14 (by decide +kernel) rfl⟩
theorem mfX2_readNumber : MF yX2_readNumber cX2_readNumber 6 ((some .int)) 2 := ⟨⟨by decide +kernel, by decide⟩, ⟨by decide +kernel, by decide +kernel, by decide +kernel⟩, in_t 598 (by decide +kernel) rfl, in_t 14 (by decide +kernel) rfl⟩
theorem mfJ0_isEmpty_aae02 : MF yJ0_isEmpty_aae02 cJ0_isEmpty_aae02 1 ((some .boolean)) 0 := ⟨⟨by decide +kernel, by decide⟩, ⟨by decide +kernel, by decide +kernel, by decide +kernel⟩, in_t 538 (by decide +kernel) rfl, in_t 15 (by decide +kernel) rfl⟩
theorem mfJ0_coder_7d493 : MF yJ0_coder_7d493 cJ0_coder_7d493 1 ((some .byte)) 0 := ⟨⟨by decide +kernel, by decide⟩, ⟨by decide +kernel, by decide +kernel, by decide +kernel⟩, in_t 546 (by decide +kernel) rfl, in_t 15 (by decide +kernel) rfl⟩
theorem mfJ0_length_8abf5 : MF yJ0_length_8abf5 cJ0_length_8abf5 1 ((some .int)) 0 := ⟨⟨by decide +kernel, by decide⟩, ⟨by decide +kernel, by decide +kernel, by decide +kernel⟩, in_t 542 (by decide +kernel) rfl, in_t 15 (by decide +kernel) rfl⟩
theorem mfJ0_isLatin1_aae02 : MF yJ0_isLatin1_aae02 cJ0_isLatin1_aae02 1 ((some .boolean)) 0 := ⟨⟨by decide +kernel, by decide⟩, ⟨by decide +kernel, by decide +kernel, by decide +kernel⟩, in_t 556 (by decide +kernel) rfl, in_t 15 (by decide +kernel) rfl⟩
theorem mfJ3_checkIndex_8e157 : MF yJ3_checkIndex_8e157 cJ3_checkIndex_8e157 3 ((some .int)) 3 := ⟨⟨by decide +kernel, by decide⟩, ⟨by decide +kernel, by decide +kernel, by decide +kernel⟩, in_t 567 (by decide +kernel) rfl, in_t 17 (by decide +kernel) rfl⟩
theorem mfJ0_checkIndex_df160 : MF yJ0_checkIndex_df160 cJ0_checkIndex_df160 2 (none) 2 := ⟨⟨by decide +kernel, by decide⟩, ⟨by decide +kernel, by decide +kernel, by decide +kernel⟩, in_t 562 (by decide +kernel) rfl, in_t 15 (by decide +kernel) rfl⟩
theorem mfJ1_charAt_3b067 : MF yJ1_charAt_3b067 cJ1_charAt_3b067 2 ((some .char)) 2 := ⟨⟨by decide +kernel, by decide⟩, ⟨by decide +kernel, by decide +kernel, by decide +kernel⟩, in_t 559 (by decide +kernel) rfl, in_t 16 (by decide +kernel) rfl⟩
theorem mfJ0_charAt_5068e : MF yJ0_charAt_5068e cJ0_charAt_5068e 2 ((some .char)) 1 := ⟨⟨by decide +kernel, by decide⟩, ⟨by decide +kernel, by decide +kernel, by decide +kernel⟩, in_t 552 (by decide +kernel) rfl, in_t 15 (by decide +kernel) rfl⟩
theorem mfX2_readWord : MF yX2_readWord cX2_readWord 3 (none) 1 := ⟨⟨by decide +kernel, by decide⟩, ⟨by decide +kernel, by decide +kernel, by decide +kernel⟩, in_t 534 (by decide +kernel) rfl, in_t 14 (by decide +kernel) rfl⟩
theorem mfX2_readLength : MF yX2_readLength cX2_readLength 2 (none) 0 := ⟨⟨by decide +kernel, by decide⟩, ⟨by decide +kernel, by decide +kernel, by decide +kernel⟩, in_t 594 (by decide +kernel) rfl, in_t 14 (by decide +kernel) rfl⟩
theorem mfX2_readSign : MF yX2_readSign cX2_readSign 6 (none) 1 := ⟨⟨by decide +kernel, by decide⟩, ⟨by decide +kernel, by decide +kernel, by decide +kernel⟩, in_t 603 (by decide +kernel) rfl, in_t 14 (by decide +kernel) rfl⟩
theorem mfX2_readThing : MF yX2_readThing cX2_readThing 5 (none) 1 := ⟨⟨by decide +kernel, by decide⟩, ⟨by decide +kernel, by decide +kernel, by decide +kernel⟩, in_t 609 (by decide +kernel) rfl, in_t 14 (by decide +kernel) rfl⟩
theorem mfX2_readWander : MF yX2_readWander cX2_readWander 3 (none) 0 := ⟨⟨by decide +kernel, by decide⟩, ⟨by decide +kernel, by decide +kernel, by decide +kernel⟩, in_t 615 (by decide +kernel) rfl, in_t 14 (by decide +kernel) rfl⟩
theorem mfX2_readItem : MF yX2_readItem cX2_readItem 3 (none) 0 := ⟨⟨by decide +kernel, by decide⟩, ⟨by decide +kernel, by decide +kernel, by decide +kernel⟩, in_t 516 (by decide +kernel) rfl, in_t 14 (by decide +kernel) rfl⟩
theorem mfX2_readItems : MF yX2_readItems cX2_readItems 3 ((some .int)) 0 := ⟨⟨by decide +kernel, by decide⟩, ⟨by decide +kernel, by decide +kernel, by decide +kernel⟩, in_t 512 (by decide +kernel) rfl, in_t 14 (by decide +kernel) rfl⟩
theorem mfX8_town : MF yX8_town cX8_town 6 ((some .int)) 1 := ⟨⟨by decide +kernel, by decide⟩, ⟨by decide +kernel, by decide +kernel, by decide +kernel⟩, in_t 475 (by decide +kernel) rfl, in_t 1 (by decide +kernel) rfl⟩
theorem mfX9_keeps : MF yX9_keeps cX9_keeps 7 ((some .int)) 5 := ⟨⟨by decide +kernel, by decide⟩, ⟨by decide +kernel, by decide +kernel, by decide +kernel⟩, in_t 1221 (by decide +kernel) rfl, in_t 7 (by decide +kernel) rfl⟩
theorem mfX9_all : MF yX9_all cX9_all 6 (none) 3 := ⟨⟨by decide +kernel, by decide⟩, ⟨by decide +kernel, by decide +kernel, by decide +kernel⟩, in_t 1217 (by decide +kernel) rfl, in_t 7 (by decide +kernel) rfl⟩
theorem mfX9_isWordAt : MF yX9_isWordAt cX9_isWordAt 4 ((some .boolean)) 1 := ⟨⟨by decide +kernel, by decide⟩, ⟨by decide +kernel, by decide +kernel, by decide +kernel⟩, in_t 1229 (by decide +kernel) rfl, in_t 7 (by decide +kernel) rfl⟩
theorem mfX9_isFull : MF yX9_isFull cX9_isFull 2 ((some .boolean)) 1 := ⟨⟨by decide +kernel, by decide⟩, ⟨by decide +kernel, by decide +kernel, by decide +kernel⟩, in_t 1233 (by decide +kernel) rfl, in_t 7 (by decide +kernel) rfl⟩
theorem mfX9_wrong : MF yX9_wrong cX9_wrong 2 ((some .boolean)) 1 := ⟨⟨by decide +kernel, by decide⟩, ⟨by decide +kernel, by decide +kernel, by decide +kernel⟩, in_t 1237 (by decide +kernel) rfl, in_t 7 (by decide +kernel) rfl⟩
theorem mfX9_word : MF yX9_word cX9_word 6 ((some .int)) 0 := ⟨⟨by decide +kernel, by decide⟩, ⟨by decide +kernel, by decide +kernel, by decide +kernel⟩, in_t 1241 (by decide +kernel) rfl, in_t 7 (by decide +kernel) rfl⟩
theorem mfX9_low : MF yX9_low cX9_low 3 ((some .int)) 2 := ⟨⟨by decide +kernel, by decide⟩, ⟨by decide +kernel, by decide +kernel, by decide +kernel⟩, in_t 1245 (by decide +kernel) rfl, in_t 7 (by decide +kernel) rfl⟩
theorem mfX9_top : MF yX9_top cX9_top 3 ((some .int)) 2 := ⟨⟨by decide +kernel, by decide⟩, ⟨by decide +kernel, by decide +kernel, by decide +kernel⟩, in_t 1249 (by decide +kernel) rfl, in_t 7 (by decide +kernel) rfl⟩
theorem mfX9_isDigit : MF yX9_isDigit cX9_isDigit 1 ((some .boolean)) 0 := ⟨⟨by decide +kernel, by decide⟩, ⟨by decide +kernel, by decide +kernel, by decide +kernel⟩, in_t 1257 (by decide +kernel) rfl, in_t 7 (by decide +kernel) rfl⟩
theorem mfX9_number : MF yX9_number cX9_number 5 ((some .boolean)) 2 := ⟨⟨by decide +kernel, by decide⟩, ⟨by decide +kernel, by decide +kernel, by decide +kernel⟩, in_t 1253 (by decide +kernel) rfl, in_t 7 (by decide +kernel) rfl⟩
theorem mfX9_item : MF yX9_item cX9_item 5 ((some .boolean)) 0 := ⟨⟨by decide +kernel, by decide⟩, ⟨by decide +kernel, by decide +kernel, by decide +kernel⟩, in_t 1225 (by decide +kernel) rfl, in_t 7 (by decide +kernel) rfl⟩
theorem mfX9_town : MF yX9_town cX9_town 5 ((some .int)) 1 := ⟨⟨by decide +kernel, by decide⟩, ⟨by decide +kernel, by decide +kernel, by decide +kernel⟩, in_t 1213 (by decide +kernel) rfl, in_t 7 (by decide +kernel) rfl⟩
theorem mfX8_fault : MF yX8_fault cX8_fault 1 ((some .int)) 0 := ⟨⟨by decide +kernel, by decide⟩, ⟨by decide +kernel, by decide +kernel, by decide +kernel⟩, in_t 621 (by decide +kernel) rfl, in_t 1 (by decide +kernel) rfl⟩
theorem mfX9_fault : MF yX9_fault cX9_fault 1 ((some .int)) 0 := ⟨⟨by decide +kernel, by decide⟩, ⟨by decide +kernel, by decide +kernel, by decide +kernel⟩, in_t 1261 (by decide +kernel) rfl, in_t 7 (by decide +kernel) rfl⟩
theorem mfX0_becomeSure : MF yX0_becomeSure cX0_becomeSure 3 (none) 1 := ⟨⟨by decide +kernel, by decide⟩, ⟨by decide +kernel, by decide +kernel, by decide +kernel⟩, in_t 633 (by decide +kernel) rfl, in_t 3 (by decide +kernel) rfl⟩
theorem mfX5_knowCell : MF yX5_knowCell cX5_knowCell 2 (none) 1 := ⟨⟨by decide +kernel, by decide⟩, ⟨by decide +kernel, by decide +kernel, by decide +kernel⟩, in_t 629 (by decide +kernel) rfl, in_t 2 (by decide +kernel) rfl⟩
theorem mfX8_lost : MF yX8_lost cX8_lost 3 ((some .int)) 1 := ⟨⟨by decide +kernel, by decide⟩, ⟨by decide +kernel, by decide +kernel, by decide +kernel⟩, in_t 625 (by decide +kernel) rfl, in_t 1 (by decide +kernel) rfl⟩
theorem mfX9_lost : MF yX9_lost cX9_lost 3 ((some .int)) 1 := ⟨⟨by decide +kernel, by decide⟩, ⟨by decide +kernel, by decide +kernel, by decide +kernel⟩, in_t 1265 (by decide +kernel) rfl, in_t 7 (by decide +kernel) rfl⟩
theorem mfX0_all : MF yX0_all cX0_all 4 ((some .long)) 0 := ⟨⟨by decide +kernel, by decide⟩, ⟨by decide +kernel, by decide +kernel, by decide +kernel⟩, in_t 641 (by decide +kernel) rfl, in_t 3 (by decide +kernel) rfl⟩
theorem mfX0_at : MF yX0_at cX0_at 2 ((some .long)) 1 := ⟨⟨by decide +kernel, by decide⟩, ⟨by decide +kernel, by decide +kernel, by decide +kernel⟩, in_t 645 (by decide +kernel) rfl, in_t 3 (by decide +kernel) rfl⟩
theorem mfX8_odds : MF yX8_odds cX8_odds 2 ((some .long)) 1 := ⟨⟨by decide +kernel, by decide⟩, ⟨by decide +kernel, by decide +kernel, by decide +kernel⟩, in_t 637 (by decide +kernel) rfl, in_t 1 (by decide +kernel) rfl⟩
theorem mfX9_sum : MF yX9_sum cX9_sum 4 ((some .long)) 0 := ⟨⟨by decide +kernel, by decide⟩, ⟨by decide +kernel, by decide +kernel, by decide +kernel⟩, in_t 1273 (by decide +kernel) rfl, in_t 7 (by decide +kernel) rfl⟩
theorem mfX9_odds : MF yX9_odds cX9_odds 2 ((some .long)) 1 := ⟨⟨by decide +kernel, by decide⟩, ⟨by decide +kernel, by decide +kernel, by decide +kernel⟩, in_t 1269 (by decide +kernel) rfl, in_t 7 (by decide +kernel) rfl⟩
theorem mfX8_strength : MF yX8_strength cX8_strength 4 ((some .int)) 2 := ⟨⟨by decide +kernel, by decide⟩, ⟨by decide +kernel, by decide +kernel, by decide +kernel⟩, in_t 649 (by decide +kernel) rfl, in_t 1 (by decide +kernel) rfl⟩
theorem mfX9_strength : MF yX9_strength cX9_strength 3 ((some .int)) 2 := ⟨⟨by decide +kernel, by decide⟩, ⟨by decide +kernel, by decide +kernel, by decide +kernel⟩, in_t 1277 (by decide +kernel) rfl, in_t 7 (by decide +kernel) rfl⟩
theorem mfX0_move : MF yX0_move cX0_move 4 (none) 3 := ⟨⟨by decide +kernel, by decide⟩, ⟨by decide +kernel, by decide +kernel, by decide +kernel⟩, in_t 662 (by decide +kernel) rfl, in_t 3 (by decide +kernel) rfl⟩
theorem mfX5_reach : MF yX5_reach cX5_reach 3 ((some .int)) 2 := ⟨⟨by decide +kernel, by decide⟩, ⟨by decide +kernel, by decide +kernel, by decide +kernel⟩, in_t 667 (by decide +kernel) rfl, in_t 2 (by decide +kernel) rfl⟩
theorem mfX0_endMoves : MF yX0_endMoves cX0_endMoves 1 (none) 0 := ⟨⟨by decide +kernel, by decide⟩, ⟨by decide +kernel, by decide +kernel, by decide +kernel⟩, in_t 674 (by decide +kernel) rfl, in_t 3 (by decide +kernel) rfl⟩
theorem mfX0_commonPart : MF yX0_commonPart cX0_commonPart 11 ((some .long)) 2 := ⟨⟨by decide +kernel, by decide⟩, ⟨by decide +kernel, by decide +kernel, by decide +kernel⟩, in_t 682 (by decide +kernel) rfl, in_t 3 (by decide +kernel) rfl⟩
theorem mfX0_lessen : MF yX0_lessen cX0_lessen 4 (none) 0 := ⟨⟨by decide +kernel, by decide⟩, ⟨by decide +kernel, by decide +kernel, by decide +kernel⟩, in_t 679 (by decide +kernel) rfl, in_t 3 (by decide +kernel) rfl⟩
theorem mfX5_hearStep : MF yX5_hearStep cX5_hearStep 4 (none) 1 := ⟨⟨by decide +kernel, by decide⟩, ⟨by decide +kernel, by decide +kernel, by decide +kernel⟩, in_t 658 (by decide +kernel) rfl, in_t 2 (by decide +kernel) rfl⟩
theorem mfX8_step : MF yX8_step cX8_step 2 ((some .int)) 1 := ⟨⟨by decide +kernel, by decide⟩, ⟨by decide +kernel, by decide +kernel, by decide +kernel⟩, in_t 654 (by decide +kernel) rfl, in_t 1 (by decide +kernel) rfl⟩
theorem mfX9_goneTo : MF yX9_goneTo cX9_goneTo 5 ((some .int)) 3 := ⟨⟨by decide +kernel, by decide⟩, ⟨by decide +kernel, by decide +kernel, by decide +kernel⟩, in_t 1289 (by decide +kernel) rfl, in_t 7 (by decide +kernel) rfl⟩
theorem mfX9_lessens : MF yX9_lessens cX9_lessens 10 (none) 0 := ⟨⟨by decide +kernel, by decide⟩, ⟨by decide +kernel, by decide +kernel, by decide +kernel⟩, in_t 1293 (by decide +kernel) rfl, in_t 7 (by decide +kernel) rfl⟩
theorem mfX9_steps : MF yX9_steps cX9_steps 3 (none) 1 := ⟨⟨by decide +kernel, by decide⟩, ⟨by decide +kernel, by decide +kernel, by decide +kernel⟩, in_t 1285 (by decide +kernel) rfl, in_t 7 (by decide +kernel) rfl⟩
theorem mfX9_step : MF yX9_step cX9_step 2 ((some .int)) 1 := ⟨⟨by decide +kernel, by decide⟩, ⟨by decide +kernel, by decide +kernel, by decide +kernel⟩, in_t 1281 (by decide +kernel) rfl, in_t 7 (by decide +kernel) rfl⟩
theorem mfX5_timesOf : MF yX5_timesOf cX5_timesOf 5 ((some .int)) 3 := ⟨⟨by decide +kernel, by decide⟩, ⟨by decide +kernel, by decide +kernel, by decide +kernel⟩, in_t 695 (by decide +kernel) rfl, in_t 2 (by decide +kernel) rfl⟩
theorem mfX5_canBe : MF yX5_canBe cX5_canBe 4 ((some .boolean)) 2 := ⟨⟨by decide +kernel, by decide⟩, ⟨by decide +kernel, by decide +kernel, by decide +kernel⟩, in_t 690 (by decide +kernel) rfl, in_t 2 (by decide +kernel) rfl⟩
theorem mfX0_multiply : MF yX0_multiply cX0_multiply 3 (none) 2 := ⟨⟨by decide +kernel, by decide⟩, ⟨by decide +kernel, by decide +kernel, by decide +kernel⟩, in_t 703 (by decide +kernel) rfl, in_t 3 (by decide +kernel) rfl⟩
theorem mfX5_hearSign : MF yX5_hearSign cX5_hearSign 4 (none) 2 := ⟨⟨by decide +kernel, by decide⟩, ⟨by decide +kernel, by decide +kernel, by decide +kernel⟩, in_t 699 (by decide +kernel) rfl, in_t 2 (by decide +kernel) rfl⟩
theorem mfX8_feel : MF yX8_feel cX8_feel 4 ((some .int)) 2 := ⟨⟨by decide +kernel, by decide⟩, ⟨by decide +kernel, by decide +kernel, by decide +kernel⟩, in_t 686 (by decide +kernel) rfl, in_t 1 (by decide +kernel) rfl⟩
theorem mfX9_canBe : MF yX9_canBe cX9_canBe 5 ((some .boolean)) 2 := ⟨⟨by decide +kernel, by decide⟩, ⟨by decide +kernel, by decide +kernel, by decide +kernel⟩, in_t 1302 (by decide +kernel) rfl, in_t 7 (by decide +kernel) rfl⟩
theorem mfX9_feels : MF yX9_feels cX9_feels 5 (none) 2 := ⟨⟨by decide +kernel, by decide⟩, ⟨by decide +kernel, by decide +kernel, by decide +kernel⟩, in_t 1306 (by decide +kernel) rfl, in_t 7 (by decide +kernel) rfl⟩
theorem mfX9_feel : MF yX9_feel cX9_feel 3 ((some .int)) 2 := ⟨⟨by decide +kernel, by decide⟩, ⟨by decide +kernel, by decide +kernel, by decide +kernel⟩, in_t 1298 (by decide +kernel) rfl, in_t 7 (by decide +kernel) rfl⟩
theorem mfX0_surest : MF yX0_surest cX0_surest 3 ((some .int)) 0 := ⟨⟨by decide +kernel, by decide⟩, ⟨by decide +kernel, by decide +kernel, by decide +kernel⟩, in_t 711 (by decide +kernel) rfl, in_t 3 (by decide +kernel) rfl⟩
theorem mfX8_where : MF yX8_where cX8_where 1 ((some .int)) 0 := ⟨⟨by decide +kernel, by decide⟩, ⟨by decide +kernel, by decide +kernel, by decide +kernel⟩, in_t 707 (by decide +kernel) rfl, in_t 1 (by decide +kernel) rfl⟩
theorem mfX9_sure : MF yX9_sure cX9_sure 3 ((some .int)) 0 := ⟨⟨by decide +kernel, by decide⟩, ⟨by decide +kernel, by decide +kernel, by decide +kernel⟩, in_t 1314 (by decide +kernel) rfl, in_t 7 (by decide +kernel) rfl⟩
theorem mfX9_where : MF yX9_where cX9_where 1 ((some .int)) 0 := ⟨⟨by decide +kernel, by decide⟩, ⟨by decide +kernel, by decide +kernel, by decide +kernel⟩, in_t 1310 (by decide +kernel) rfl, in_t 7 (by decide +kernel) rfl⟩
theorem mfX8_isLost : MF yX8_isLost cX8_isLost 2 ((some .int)) 0 := ⟨⟨by decide +kernel, by decide⟩, ⟨by decide +kernel, by decide +kernel, by decide +kernel⟩, in_t 715 (by decide +kernel) rfl, in_t 1 (by decide +kernel) rfl⟩
theorem mfX9_isLost : MF yX9_isLost cX9_isLost 1 ((some .int)) 0 := ⟨⟨by decide +kernel, by decide⟩, ⟨by decide +kernel, by decide +kernel, by decide +kernel⟩, in_t 1318 (by decide +kernel) rfl, in_t 7 (by decide +kernel) rfl⟩
theorem mfX8_newsTrouble : MF yX8_newsTrouble cX8_newsTrouble 3 ((some .int)) 2 := ⟨⟨by decide +kernel, by decide⟩, ⟨by decide +kernel, by decide +kernel, by decide +kernel⟩, in_t 723 (by decide +kernel) rfl, in_t 1 (by decide +kernel) rfl⟩
theorem mfX5_hears : MF yX5_hears cX5_hears 4 ((some .boolean)) 1 := ⟨⟨by decide +kernel, by decide⟩, ⟨by decide +kernel, by decide +kernel, by decide +kernel⟩, in_t 731 (by decide +kernel) rfl, in_t 2 (by decide +kernel) rfl⟩
theorem mfX8_tryNews : MF yX8_tryNews cX8_tryNews 4 ((some .int)) 2 := ⟨⟨by decide +kernel, by decide⟩, ⟨by decide +kernel, by decide +kernel, by decide +kernel⟩, in_t 727 (by decide +kernel) rfl, in_t 1 (by decide +kernel) rfl⟩
theorem mfX8_judge : MF yX8_judge cX8_judge 5 ((some .int)) 2 := ⟨⟨by decide +kernel, by decide⟩, ⟨by decide +kernel, by decide +kernel, by decide +kernel⟩, in_t 720 (by decide +kernel) rfl, in_t 1 (by decide +kernel) rfl⟩
theorem mfX9_played : MF yX9_played cX9_played 11 ((some .int)) 2 := ⟨⟨by decide +kernel, by decide⟩, ⟨by decide +kernel, by decide +kernel, by decide +kernel⟩, in_t 1326 (by decide +kernel) rfl, in_t 7 (by decide +kernel) rfl⟩
theorem mfX9_judge : MF yX9_judge cX9_judge 4 ((some .int)) 2 := ⟨⟨by decide +kernel, by decide⟩, ⟨by decide +kernel, by decide +kernel, by decide +kernel⟩, in_t 1322 (by decide +kernel) rfl, in_t 7 (by decide +kernel) rfl⟩
theorem mfX8_told : MF yX8_told cX8_told 5 ((some .int)) 2 := ⟨⟨by decide +kernel, by decide⟩, ⟨by decide +kernel, by decide +kernel, by decide +kernel⟩, in_t 739 (by decide +kernel) rfl, in_t 1 (by decide +kernel) rfl⟩
theorem mfX9_told : MF yX9_told cX9_told 4 ((some .int)) 2 := ⟨⟨by decide +kernel, by decide⟩, ⟨by decide +kernel, by decide +kernel, by decide +kernel⟩, in_t 1330 (by decide +kernel) rfl, in_t 7 (by decide +kernel) rfl⟩
theorem mfX1_lookFrom : MF yX1_lookFrom cX1_lookFrom 5 (none) 1 := ⟨⟨by decide +kernel, by decide⟩, ⟨by decide +kernel, by decide +kernel, by decide +kernel⟩, in_t 748 (by decide +kernel) rfl, in_t 4 (by decide +kernel) rfl⟩
theorem mfX1_greatest : MF yX1_greatest cX1_greatest 6 ((some .long)) 1 := ⟨⟨by decide +kernel, by decide⟩, ⟨by decide +kernel, by decide +kernel, by decide +kernel⟩, in_t 762 (by decide +kernel) rfl, in_t 4 (by decide +kernel) rfl⟩
theorem mfX1_lowestOf : MF yX1_lowestOf cX1_lowestOf 2 ((some .int)) 1 := ⟨⟨by decide +kernel, by decide⟩, ⟨by decide +kernel, by decide +kernel, by decide +kernel⟩, in_t 765 (by decide +kernel) rfl, in_t 4 (by decide +kernel) rfl⟩
theorem mfX1_weigh : MF yX1_weigh cX1_weigh 10 ((some .boolean)) 3 := ⟨⟨by decide +kernel, by decide⟩, ⟨by decide +kernel, by decide +kernel, by decide +kernel⟩, in_t 769 (by decide +kernel) rfl, in_t 4 (by decide +kernel) rfl⟩
theorem mfX1_worthBehind : MF yX1_worthBehind cX1_worthBehind 7 ((some .long)) 3 := ⟨⟨by decide +kernel, by decide⟩, ⟨by decide +kernel, by decide +kernel, by decide +kernel⟩, in_t 758 (by decide +kernel) rfl, in_t 4 (by decide +kernel) rfl⟩
theorem mfX1_worthOf : MF yX1_worthOf cX1_worthOf 2 ((some .long)) 1 := ⟨⟨by decide +kernel, by decide⟩, ⟨by decide +kernel, by decide +kernel, by decide +kernel⟩, in_t 755 (by decide +kernel) rfl, in_t 4 (by decide +kernel) rfl⟩
theorem mfX8_worth : MF yX8_worth cX8_worth 2 ((some .long)) 1 := ⟨⟨by decide +kernel, by decide⟩, ⟨by decide +kernel, by decide +kernel, by decide +kernel⟩, in_t 743 (by decide +kernel) rfl, in_t 1 (by decide +kernel) rfl⟩
theorem mfX9_count : MF yX9_count cX9_count 4 ((some .int)) 1 := ⟨⟨by decide +kernel, by decide⟩, ⟨by decide +kernel, by decide +kernel, by decide +kernel⟩, in_t 1338 (by decide +kernel) rfl, in_t 7 (by decide +kernel) rfl⟩
theorem mfX9_worthOf : MF yX9_worthOf cX9_worthOf 12 ((some .long)) 1 := ⟨⟨by decide +kernel, by decide⟩, ⟨by decide +kernel, by decide +kernel, by decide +kernel⟩, in_t 1342 (by decide +kernel) rfl, in_t 7 (by decide +kernel) rfl⟩
theorem mfX9_worth : MF yX9_worth cX9_worth 2 ((some .long)) 1 := ⟨⟨by decide +kernel, by decide⟩, ⟨by decide +kernel, by decide +kernel, by decide +kernel⟩, in_t 1334 (by decide +kernel) rfl, in_t 7 (by decide +kernel) rfl⟩
theorem mfX1_bestAlone : MF yX1_bestAlone cX1_bestAlone 7 ((some .int)) 0 := ⟨⟨by decide +kernel, by decide⟩, ⟨by decide +kernel, by decide +kernel, by decide +kernel⟩, in_t 777 (by decide +kernel) rfl, in_t 4 (by decide +kernel) rfl⟩
theorem mfX8_next : MF yX8_next cX8_next 1 ((some .int)) 0 := ⟨⟨by decide +kernel, by decide⟩, ⟨by decide +kernel, by decide +kernel, by decide +kernel⟩, in_t 773 (by decide +kernel) rfl, in_t 1 (by decide +kernel) rfl⟩
theorem mfX9_next : MF yX9_next cX9_next 7 ((some .int)) 0 := ⟨⟨by decide +kernel, by decide⟩, ⟨by decide +kernel, by decide +kernel, by decide +kernel⟩, in_t 1346 (by decide +kernel) rfl, in_t 7 (by decide +kernel) rfl⟩
theorem mfX1_bestMoreBut : MF yX1_bestMoreBut cX1_bestMoreBut 5 ((some .long)) 1 := ⟨⟨by decide +kernel, by decide⟩, ⟨by decide +kernel, by decide +kernel, by decide +kernel⟩, in_t 790 (by decide +kernel) rfl, in_t 4 (by decide +kernel) rfl⟩
theorem mfX1_bestOfTwo : MF yX1_bestOfTwo cX1_bestOfTwo 7 ((some .int)) 0 := ⟨⟨by decide +kernel, by decide⟩, ⟨by decide +kernel, by decide +kernel, by decide +kernel⟩, in_t 786 (by decide +kernel) rfl, in_t 4 (by decide +kernel) rfl⟩
theorem mfX8_ahead : MF yX8_ahead cX8_ahead 1 ((some .int)) 0 := ⟨⟨by decide +kernel, by decide⟩, ⟨by decide +kernel, by decide +kernel, by decide +kernel⟩, in_t 782 (by decide +kernel) rfl, in_t 1 (by decide +kernel) rfl⟩
theorem mfX9_behind : MF yX9_behind cX9_behind 14 ((some .long)) 3 := ⟨⟨by decide +kernel, by decide⟩, ⟨by decide +kernel, by decide +kernel, by decide +kernel⟩, in_t 1354 (by decide +kernel) rfl, in_t 7 (by decide +kernel) rfl⟩
theorem mfX9_ahead : MF yX9_ahead cX9_ahead 13 ((some .int)) 0 := ⟨⟨by decide +kernel, by decide⟩, ⟨by decide +kernel, by decide +kernel, by decide +kernel⟩, in_t 1350 (by decide +kernel) rfl, in_t 7 (by decide +kernel) rfl⟩
theorem mfX1_reaches : MF yX1_reaches cX1_reaches 11 ((some .boolean)) 4 := ⟨⟨by decide +kernel, by decide⟩, ⟨by decide +kernel, by decide +kernel, by decide +kernel⟩, in_t 807 (by decide +kernel) rfl, in_t 4 (by decide +kernel) rfl⟩
theorem mfX1_fewestFor : MF yX1_fewestFor cX1_fewestFor 6 ((some .int)) 2 := ⟨⟨by decide +kernel, by decide⟩, ⟨by decide +kernel, by decide +kernel, by decide +kernel⟩, in_t 802 (by decide +kernel) rfl, in_t 4 (by decide +kernel) rfl⟩
theorem mfX8_least : MF yX8_least cX8_least 2 ((some .int)) 1 := ⟨⟨by decide +kernel, by decide⟩, ⟨by decide +kernel, by decide +kernel, by decide +kernel⟩, in_t 798 (by decide +kernel) rfl, in_t 1 (by decide +kernel) rfl⟩
theorem mfX9_noTen : MF yX9_noTen cX9_noTen 2 ((some .int)) 1 := ⟨⟨by decide +kernel, by decide⟩, ⟨by decide +kernel, by decide +kernel, by decide +kernel⟩, in_t 1362 (by decide +kernel) rfl, in_t 7 (by decide +kernel) rfl⟩
theorem mfX9_least : MF yX9_least cX9_least 12 ((some .int)) 1 := ⟨⟨by decide +kernel, by decide⟩, ⟨by decide +kernel, by decide +kernel, by decide +kernel⟩, in_t 1358 (by decide +kernel) rfl, in_t 7 (by decide +kernel) rfl⟩
theorem mfX5_standsOnWalk : MF yX5_standsOnWalk cX5_standsOnWalk 6 ((some .boolean)) 4 := ⟨⟨by decide +kernel, by decide⟩, ⟨by decide +kernel, by decide +kernel, by decide +kernel⟩, in_t 819 (by decide +kernel) rfl, in_t 2 (by decide +kernel) rfl⟩
theorem mfX5_missedOfHundred : MF yX5_missedOfHundred cX5_missedOfHundred 3 ((some .int)) 1 := ⟨⟨by decide +kernel, by decide⟩, ⟨by decide +kernel, by decide +kernel, by decide +kernel⟩, in_t 824 (by decide +kernel) rfl, in_t 2 (by decide +kernel) rfl⟩
theorem mfX5_safeBut : MF yX5_safeBut cX5_safeBut 7 ((some .long)) 3 := ⟨⟨by decide +kernel, by decide⟩, ⟨by decide +kernel, by decide +kernel, by decide +kernel⟩, in_t 815 (by decide +kernel) rfl, in_t 2 (by decide +kernel) rfl⟩
theorem mfX8_safe : MF yX8_safe cX8_safe 3 ((some .long)) 2 := ⟨⟨by decide +kernel, by decide⟩, ⟨by decide +kernel, by decide +kernel, by decide +kernel⟩, in_t 811 (by decide +kernel) rfl, in_t 1 (by decide +kernel) rfl⟩
theorem mfX9_onWalk : MF yX9_onWalk cX9_onWalk 7 ((some .int)) 2 := ⟨⟨by decide +kernel, by decide⟩, ⟨by decide +kernel, by decide +kernel, by decide +kernel⟩, in_t 1371 (by decide +kernel) rfl, in_t 7 (by decide +kernel) rfl⟩
theorem mfX9_safeOf : MF yX9_safeOf cX9_safeOf 5 ((some .long)) 1 := ⟨⟨by decide +kernel, by decide⟩, ⟨by decide +kernel, by decide +kernel, by decide +kernel⟩, in_t 1375 (by decide +kernel) rfl, in_t 7 (by decide +kernel) rfl⟩
theorem mfX9_safe : MF yX9_safe cX9_safe 3 ((some .long)) 2 := ⟨⟨by decide +kernel, by decide⟩, ⟨by decide +kernel, by decide +kernel, by decide +kernel⟩, in_t 1367 (by decide +kernel) rfl, in_t 7 (by decide +kernel) rfl⟩
theorem mfX5_firstBut : MF yX5_firstBut cX5_firstBut 10 ((some .int)) 3 := ⟨⟨by decide +kernel, by decide⟩, ⟨by decide +kernel, by decide +kernel, by decide +kernel⟩, in_t 832 (by decide +kernel) rfl, in_t 2 (by decide +kernel) rfl⟩
theorem mfX8_first : MF yX8_first cX8_first 4 ((some .int)) 2 := ⟨⟨by decide +kernel, by decide⟩, ⟨by decide +kernel, by decide +kernel, by decide +kernel⟩, in_t 828 (by decide +kernel) rfl, in_t 1 (by decide +kernel) rfl⟩
theorem mfX9_firstOf : MF yX9_firstOf cX9_firstOf 8 ((some .int)) 1 := ⟨⟨by decide +kernel, by decide⟩, ⟨by decide +kernel, by decide +kernel, by decide +kernel⟩, in_t 1383 (by decide +kernel) rfl, in_t 7 (by decide +kernel) rfl⟩
theorem mfX9_first : MF yX9_first cX9_first 4 ((some .int)) 2 := ⟨⟨by decide +kernel, by decide⟩, ⟨by decide +kernel, by decide +kernel, by decide +kernel⟩, in_t 1379 (by decide +kernel) rfl, in_t 7 (by decide +kernel) rfl⟩
theorem mfX5_orderedAt : MF yX5_orderedAt cX5_orderedAt 7 ((some .int)) 3 := ⟨⟨by decide +kernel, by decide⟩, ⟨by decide +kernel, by decide +kernel, by decide +kernel⟩, in_t 842 (by decide +kernel) rfl, in_t 2 (by decide +kernel) rfl⟩
theorem mfX8_order : MF yX8_order cX8_order 5 ((some .int)) 3 := ⟨⟨by decide +kernel, by decide⟩, ⟨by decide +kernel, by decide +kernel, by decide +kernel⟩, in_t 838 (by decide +kernel) rfl, in_t 1 (by decide +kernel) rfl⟩
theorem mfX9_order : MF yX9_order cX9_order 6 ((some .int)) 3 := ⟨⟨by decide +kernel, by decide⟩, ⟨by decide +kernel, by decide +kernel, by decide +kernel⟩, in_t 1387 (by decide +kernel) rfl, in_t 7 (by decide +kernel) rfl⟩
theorem mfX8_driftAt : MF yX8_driftAt cX8_driftAt 2 ((some .long)) 1 := ⟨⟨by decide +kernel, by decide⟩, ⟨by decide +kernel, by decide +kernel, by decide +kernel⟩, in_t 856 (by decide +kernel) rfl, in_t 1 (by decide +kernel) rfl⟩
theorem mfX8_driftedBy : MF yX8_driftedBy cX8_driftedBy 8 ((some .long)) 4 := ⟨⟨by decide +kernel, by decide⟩, ⟨by decide +kernel, by decide +kernel, by decide +kernel⟩, in_t 851 (by decide +kernel) rfl, in_t 1 (by decide +kernel) rfl⟩
theorem mfX8_over : MF yX8_over cX8_over 5 ((some .int)) 4 := ⟨⟨by decide +kernel, by decide⟩, ⟨by decide +kernel, by decide +kernel, by decide +kernel⟩, in_t 847 (by decide +kernel) rfl, in_t 1 (by decide +kernel) rfl⟩
theorem mfX9_over : MF yX9_over cX9_over 7 ((some .int)) 4 := ⟨⟨by decide +kernel, by decide⟩, ⟨by decide +kernel, by decide +kernel, by decide +kernel⟩, in_t 1391 (by decide +kernel) rfl, in_t 7 (by decide +kernel) rfl⟩
theorem mfX8_knownOfHundred : MF yX8_knownOfHundred cX8_knownOfHundred 5 ((some .int)) 2 := ⟨⟨by decide +kernel, by decide⟩, ⟨by decide +kernel, by decide +kernel, by decide +kernel⟩, in_t 863 (by decide +kernel) rfl, in_t 1 (by decide +kernel) rfl⟩
theorem mfX8_learnt : MF yX8_learnt cX8_learnt 3 ((some .int)) 2 := ⟨⟨by decide +kernel, by decide⟩, ⟨by decide +kernel, by decide +kernel, by decide +kernel⟩, in_t 860 (by decide +kernel) rfl, in_t 1 (by decide +kernel) rfl⟩
theorem mfX9_learntBy : MF yX9_learntBy cX9_learntBy 6 ((some .int)) 2 := ⟨⟨by decide +kernel, by decide⟩, ⟨by decide +kernel, by decide +kernel, by decide +kernel⟩, in_t 1399 (by decide +kernel) rfl, in_t 7 (by decide +kernel) rfl⟩
theorem mfX9_learnt : MF yX9_learnt cX9_learnt 3 ((some .int)) 2 := ⟨⟨by decide +kernel, by decide⟩, ⟨by decide +kernel, by decide +kernel, by decide +kernel⟩, in_t 1395 (by decide +kernel) rfl, in_t 7 (by decide +kernel) rfl⟩
theorem mfX8_goings : MF yX8_goings cX8_goings 4 ((some .int)) 2 := ⟨⟨by decide +kernel, by decide⟩, ⟨by decide +kernel, by decide +kernel, by decide +kernel⟩, in_t 867 (by decide +kernel) rfl, in_t 1 (by decide +kernel) rfl⟩
theorem mfX9_goings : MF yX9_goings cX9_goings 4 ((some .int)) 2 := ⟨⟨by decide +kernel, by decide⟩, ⟨by decide +kernel, by decide +kernel, by decide +kernel⟩, in_t 1403 (by decide +kernel) rfl, in_t 7 (by decide +kernel) rfl⟩
theorem mfX8_begin : MF yX8_begin cX8_begin 3 ((some .int)) 1 := ⟨⟨by decide +kernel, by decide⟩, ⟨by decide +kernel, by decide +kernel, by decide +kernel⟩, in_t 871 (by decide +kernel) rfl, in_t 1 (by decide +kernel) rfl⟩
theorem mfX9_begin : MF yX9_begin cX9_begin 3 ((some .int)) 1 := ⟨⟨by decide +kernel, by decide⟩, ⟨by decide +kernel, by decide +kernel, by decide +kernel⟩, in_t 1407 (by decide +kernel) rfl, in_t 7 (by decide +kernel) rfl⟩
theorem mfX8_seedBehind : MF yX8_seedBehind cX8_seedBehind 1 ((some .int)) 1 := ⟨⟨by decide +kernel, by decide⟩, ⟨by decide +kernel, by decide +kernel, by decide +kernel⟩, in_t 878 (by decide +kernel) rfl, in_t 1 (by decide +kernel) rfl⟩
theorem mfX8_drawOf : MF yX8_drawOf cX8_drawOf 1 ((some .int)) 1 := ⟨⟨by decide +kernel, by decide⟩, ⟨by decide +kernel, by decide +kernel, by decide +kernel⟩, in_t 882 (by decide +kernel) rfl, in_t 1 (by decide +kernel) rfl⟩
theorem mfX8_goes : MF yX8_goes cX8_goes 4 ((some .int)) 1 := ⟨⟨by decide +kernel, by decide⟩, ⟨by decide +kernel, by decide +kernel, by decide +kernel⟩, in_t 875 (by decide +kernel) rfl, in_t 1 (by decide +kernel) rfl⟩
theorem mfX9_draw : MF yX9_draw cX9_draw 2 ((some .int)) 1 := ⟨⟨by decide +kernel, by decide⟩, ⟨by decide +kernel, by decide +kernel, by decide +kernel⟩, in_t 1415 (by decide +kernel) rfl, in_t 7 (by decide +kernel) rfl⟩
theorem mfX9_goes : MF yX9_goes cX9_goes 4 ((some .int)) 1 := ⟨⟨by decide +kernel, by decide⟩, ⟨by decide +kernel, by decide +kernel, by decide +kernel⟩, in_t 1411 (by decide +kernel) rfl, in_t 7 (by decide +kernel) rfl⟩
theorem mfX8_looks : MF yX8_looks cX8_looks 5 ((some .int)) 1 := ⟨⟨by decide +kernel, by decide⟩, ⟨by decide +kernel, by decide +kernel, by decide +kernel⟩, in_t 887 (by decide +kernel) rfl, in_t 1 (by decide +kernel) rfl⟩
theorem mfX9_looks : MF yX9_looks cX9_looks 5 ((some .int)) 1 := ⟨⟨by decide +kernel, by decide⟩, ⟨by decide +kernel, by decide +kernel, by decide +kernel⟩, in_t 1420 (by decide +kernel) rfl, in_t 7 (by decide +kernel) rfl⟩
theorem mfX8_right : MF yX8_right cX8_right 1 ((some .int)) 0 := ⟨⟨by decide +kernel, by decide⟩, ⟨by decide +kernel, by decide +kernel, by decide +kernel⟩, in_t 891 (by decide +kernel) rfl, in_t 1 (by decide +kernel) rfl⟩
theorem mfX9_right : MF yX9_right cX9_right 1 ((some .int)) 0 := ⟨⟨by decide +kernel, by decide⟩, ⟨by decide +kernel, by decide +kernel, by decide +kernel⟩, in_t 1424 (by decide +kernel) rfl, in_t 7 (by decide +kernel) rfl⟩
theorem mfX8_seed : MF yX8_seed cX8_seed 3 ((some .int)) 1 := ⟨⟨by decide +kernel, by decide⟩, ⟨by decide +kernel, by decide +kernel, by decide +kernel⟩, in_t 895 (by decide +kernel) rfl, in_t 1 (by decide +kernel) rfl⟩
theorem mfX9_seed : MF yX9_seed cX9_seed 3 ((some .int)) 1 := ⟨⟨by decide +kernel, by decide⟩, ⟨by decide +kernel, by decide +kernel, by decide +kernel⟩, in_t 1428 (by decide +kernel) rfl, in_t 7 (by decide +kernel) rfl⟩
theorem mfX7_wipe : MF yX7_wipe cX7_wipe 1 (none) 0 := ⟨⟨by decide +kernel, by decide⟩, ⟨by decide +kernel, by decide +kernel, by decide +kernel⟩, in_t 903 (by decide +kernel) rfl, in_t 5 (by decide +kernel) rfl⟩
theorem mfX8_bodyOf : MF yX8_bodyOf cX8_bodyOf 3 ((some .int)) 2 := ⟨⟨by decide +kernel, by decide⟩, ⟨by decide +kernel, by decide +kernel, by decide +kernel⟩, in_t 912 (by decide +kernel) rfl, in_t 1 (by decide +kernel) rfl⟩
theorem mfX8_kindWithBody : MF yX8_kindWithBody cX8_kindWithBody 4 ((some .int)) 2 := ⟨⟨by decide +kernel, by decide⟩, ⟨by decide +kernel, by decide +kernel, by decide +kernel⟩, in_t 909 (by decide +kernel) rfl, in_t 1 (by decide +kernel) rfl⟩
theorem mfX7_add : MF yX7_add cX7_add 2 (none) 1 := ⟨⟨by decide +kernel, by decide⟩, ⟨by decide +kernel, by decide +kernel, by decide +kernel⟩, in_t 919 (by decide +kernel) rfl, in_t 5 (by decide +kernel) rfl⟩
theorem mfX8_perform : MF yX8_perform cX8_perform 10 ((some .int)) 6 := ⟨⟨by decide +kernel, by decide⟩, ⟨by decide +kernel, by decide +kernel, by decide +kernel⟩, in_t 906 (by decide +kernel) rfl, in_t 1 (by decide +kernel) rfl⟩
theorem mfX8_act : MF yX8_act cX8_act 5 ((some .int)) 3 := ⟨⟨by decide +kernel, by decide⟩, ⟨by decide +kernel, by decide +kernel, by decide +kernel⟩, in_t 899 (by decide +kernel) rfl, in_t 1 (by decide +kernel) rfl⟩
theorem mfX9_body : MF yX9_body cX9_body 2 (none) 1 := ⟨⟨by decide +kernel, by decide⟩, ⟨by decide +kernel, by decide +kernel, by decide +kernel⟩, in_t 1440 (by decide +kernel) rfl, in_t 7 (by decide +kernel) rfl⟩
theorem mfX9_feeling : MF yX9_feeling cX9_feeling 6 ((some .int)) 2 := ⟨⟨by decide +kernel, by decide⟩, ⟨by decide +kernel, by decide +kernel, by decide +kernel⟩, in_t 1436 (by decide +kernel) rfl, in_t 7 (by decide +kernel) rfl⟩
theorem mfX9_teaching : MF yX9_teaching cX9_teaching 6 ((some .int)) 2 := ⟨⟨by decide +kernel, by decide⟩, ⟨by decide +kernel, by decide +kernel, by decide +kernel⟩, in_t 1444 (by decide +kernel) rfl, in_t 7 (by decide +kernel) rfl⟩
theorem mfX9_fading : MF yX9_fading cX9_fading 5 ((some .int)) 2 := ⟨⟨by decide +kernel, by decide⟩, ⟨by decide +kernel, by decide +kernel, by decide +kernel⟩, in_t 1448 (by decide +kernel) rfl, in_t 7 (by decide +kernel) rfl⟩
theorem mfX9_act : MF yX9_act cX9_act 4 ((some .int)) 3 := ⟨⟨by decide +kernel, by decide⟩, ⟨by decide +kernel, by decide +kernel, by decide +kernel⟩, in_t 1432 (by decide +kernel) rfl, in_t 7 (by decide +kernel) rfl⟩
theorem mfX7_bodyAt : MF yX7_bodyAt cX7_bodyAt 2 ((some .int)) 1 := ⟨⟨by decide +kernel, by decide⟩, ⟨by decide +kernel, by decide +kernel, by decide +kernel⟩, in_t 927 (by decide +kernel) rfl, in_t 5 (by decide +kernel) rfl⟩
theorem mfX8_trace : MF yX8_trace cX8_trace 2 ((some .int)) 1 := ⟨⟨by decide +kernel, by decide⟩, ⟨by decide +kernel, by decide +kernel, by decide +kernel⟩, in_t 923 (by decide +kernel) rfl, in_t 1 (by decide +kernel) rfl⟩
theorem mfX9_trace : MF yX9_trace cX9_trace 2 ((some .int)) 1 := ⟨⟨by decide +kernel, by decide⟩, ⟨by decide +kernel, by decide +kernel, by decide +kernel⟩, in_t 1452 (by decide +kernel) rfl, in_t 7 (by decide +kernel) rfl⟩
theorem mfX8_image : MF yX8_image cX8_image 1 ((some .int)) 0 := ⟨⟨by decide +kernel, by decide⟩, ⟨by decide +kernel, by decide +kernel, by decide +kernel⟩, in_t 931 (by decide +kernel) rfl, in_t 1 (by decide +kernel) rfl⟩
theorem mfX9_image : MF yX9_image cX9_image 1 ((some .int)) 0 := ⟨⟨by decide +kernel, by decide⟩, ⟨by decide +kernel, by decide +kernel, by decide +kernel⟩, in_t 1456 (by decide +kernel) rfl, in_t 7 (by decide +kernel) rfl⟩
theorem mfX8_restore : MF yX8_restore cX8_restore 1 ((some .int)) 0 := ⟨⟨by decide +kernel, by decide⟩, ⟨by decide +kernel, by decide +kernel, by decide +kernel⟩, in_t 935 (by decide +kernel) rfl, in_t 1 (by decide +kernel) rfl⟩
theorem mfX9_restore : MF yX9_restore cX9_restore 2 ((some .int)) 0 := ⟨⟨by decide +kernel, by decide⟩, ⟨by decide +kernel, by decide +kernel, by decide +kernel⟩, in_t 1460 (by decide +kernel) rfl, in_t 7 (by decide +kernel) rfl⟩
theorem mfX8_refusalsOf : MF yX8_refusalsOf cX8_refusalsOf 3 ((some .int)) 1 := ⟨⟨by decide +kernel, by decide⟩, ⟨by decide +kernel, by decide +kernel, by decide +kernel⟩, in_t 943 (by decide +kernel) rfl, in_t 1 (by decide +kernel) rfl⟩
theorem mfX8_status : MF yX8_status cX8_status 2 ((some .int)) 1 := ⟨⟨by decide +kernel, by decide⟩, ⟨by decide +kernel, by decide +kernel, by decide +kernel⟩, in_t 939 (by decide +kernel) rfl, in_t 1 (by decide +kernel) rfl⟩
theorem mfX9_status : MF yX9_status cX9_status 2 ((some .int)) 1 := ⟨⟨by decide +kernel, by decide⟩, ⟨by decide +kernel, by decide +kernel, by decide +kernel⟩, in_t 1464 (by decide +kernel) rfl, in_t 7 (by decide +kernel) rfl⟩
theorem wmX0_3 : Cond.methodLink RX0 3 objectInit ∈ gw := in_t 44 (by decide +kernel) rfl
theorem fpX0_9 : FP RX0 9 0 0 := ⟨RX0, TX0, cf0, by decide, by decide, in_t 45 (by decide +kernel) rfl, Or.inr ⟨rfl, rfl⟩⟩
theorem fpX0_15 : FP RX0 15 0 1 := ⟨RX0, TX0, cf0, by decide, by decide, in_t 46 (by decide +kernel) rfl, Or.inr ⟨rfl, rfl⟩⟩
theorem flX0_9 : FL RX0 9 0 0 := ⟨RX0, TX0, cf0, by decide, by decide, in_t 45 (by decide +kernel) rfl⟩
theorem wmX5_3 : Cond.methodLink RX5 3 objectInit ∈ gw := in_t 34 (by decide +kernel) rfl
theorem fpX5_9 : FP RX5 9 5 0 := ⟨RX5, TX5, cf5, by decide, by decide, in_t 57 (by decide +kernel) rfl, Or.inl rfl⟩
theorem fpX5_15 : FP RX5 15 5 1 := ⟨RX5, TX5, cf5, by decide, by decide, in_t 61 (by decide +kernel) rfl, Or.inl rfl⟩
theorem fpX5_18 : FP RX5 18 5 2 := ⟨RX5, TX5, cf5, by decide, by decide, in_t 64 (by decide +kernel) rfl, Or.inl rfl⟩
theorem fpX5_21 : FP RX5 21 5 3 := ⟨RX5, TX5, cf5, by decide, by decide, in_t 67 (by decide +kernel) rfl, Or.inl rfl⟩
theorem fpX5_24 : FP RX5 24 5 4 := ⟨RX5, TX5, cf5, by decide, by decide, in_t 70 (by decide +kernel) rfl, Or.inl rfl⟩
theorem fpX5_28 : FP RX5 28 5 5 := ⟨RX5, TX5, cf5, by decide, by decide, in_t 72 (by decide +kernel) rfl, Or.inl rfl⟩
theorem wclX5_31 : Cond.classLink RX5 31 "AStreetByACane$Sign" ∈ gw := in_t 35 (by decide +kernel) rfl
theorem fpX5_33 : FP RX5 33 5 6 := ⟨RX5, TX5, cf5, by decide, by decide, in_t 75 (by decide +kernel) rfl, Or.inr ⟨rfl, rfl⟩⟩
theorem fpX5_37 : FP RX5 37 5 7 := ⟨RX5, TX5, cf5, by decide, by decide, in_t 76 (by decide +kernel) rfl, Or.inl rfl⟩
theorem wclX5_40 : Cond.classLink RX5 40 "AStreetByACane$Thing" ∈ gw := in_t 37 (by decide +kernel) rfl
theorem fpX5_42 : FP RX5 42 5 8 := ⟨RX5, TX5, cf5, by decide, by decide, in_t 79 (by decide +kernel) rfl, Or.inr ⟨rfl, rfl⟩⟩
theorem fpX5_46 : FP RX5 46 5 9 := ⟨RX5, TX5, cf5, by decide, by decide, in_t 80 (by decide +kernel) rfl, Or.inl rfl⟩
theorem nwX5_49 : NW RX5 49 0 := ⟨by decide, RX0, TX0, cf0, in_t 39 (by decide +kernel) rfl, in_t 40 (by decide +kernel) rfl, in_t 3 (by decide +kernel) rfl⟩
theorem wiX0_init : Cond.instanceMethod yX0_init ∈ gw := in_t 42 (by decide +kernel) rfl
theorem fpX5_52 : FP RX5 52 5 10 := ⟨RX5, TX5, cf5, by decide, by decide, in_t 82 (by decide +kernel) rfl, Or.inr ⟨rfl, rfl⟩⟩
theorem fpX5_56 : FP RX5 56 5 11 := ⟨RX5, TX5, cf5, by decide, by decide, in_t 85 (by decide +kernel) rfl, Or.inl rfl⟩
theorem fpX5_59 : FP RX5 59 5 12 := ⟨RX5, TX5, cf5, by decide, by decide, in_t 87 (by decide +kernel) rfl, Or.inl rfl⟩
theorem fpX5_62 : FP RX5 62 5 13 := ⟨RX5, TX5, cf5, by decide, by decide, in_t 89 (by decide +kernel) rfl, Or.inl rfl⟩
theorem fpX5_65 : FP RX5 65 5 14 := ⟨RX5, TX5, cf5, by decide, by decide, in_t 91 (by decide +kernel) rfl, Or.inl rfl⟩
theorem flX5_52 : FL RX5 52 5 10 := ⟨RX5, TX5, cf5, by decide, by decide, in_t 82 (by decide +kernel) rfl⟩
theorem flX5_9 : FL RX5 9 5 0 := ⟨RX5, TX5, cf5, by decide, by decide, in_t 57 (by decide +kernel) rfl⟩
theorem cvX5_68 : CV RX5 68 yX0_becomeEven := ⟨in_t 53 (by decide +kernel) rfl, in_t 54 (by decide +kernel) rfl, in_t 55 (by decide +kernel) rfl⟩
theorem wmX1_3 : Cond.methodLink RX1 3 objectInit ∈ gw := in_t 129 (by decide +kernel) rfl
theorem wclX1_9 : Cond.classLink RX1 9 ("[" ++ (FieldType.array .int).toString) ∈ gw := in_t 130 (by decide +kernel) rfl
theorem fpX1_11 : FP RX1 11 1 0 := ⟨RX1, TX1, cf1, by decide, by decide, in_t 134 (by decide +kernel) rfl, Or.inr ⟨rfl, rfl⟩⟩
theorem wclX1_16 : Cond.classLink RX1 16 ("[" ++ (FieldType.array .long).toString) ∈ gw := in_t 132 (by decide +kernel) rfl
theorem fpX1_18 : FP RX1 18 1 1 := ⟨RX1, TX1, cf1, by decide, by decide, in_t 135 (by decide +kernel) rfl, Or.inr ⟨rfl, rfl⟩⟩
theorem fpX1_21 : FP RX1 21 1 2 := ⟨RX1, TX1, cf1, by decide, by decide, in_t 136 (by decide +kernel) rfl, Or.inl rfl⟩
theorem fpX1_25 : FP RX1 25 1 3 := ⟨RX1, TX1, cf1, by decide, by decide, in_t 137 (by decide +kernel) rfl, Or.inl rfl⟩
theorem wmX7_3 : Cond.methodLink RX7 3 objectInit ∈ gw := in_t 153 (by decide +kernel) rfl
theorem fpX7_11 : FP RX7 11 7 0 := ⟨RX7, TX7, cf7, by decide, by decide, in_t 154 (by decide +kernel) rfl, Or.inr ⟨rfl, rfl⟩⟩
theorem fpX7_15 : FP RX7 15 7 1 := ⟨RX7, TX7, cf7, by decide, by decide, in_t 155 (by decide +kernel) rfl, Or.inl rfl⟩
theorem wmX3_3 : Cond.methodLink RX3 3 objectInit ∈ gw := in_t 166 (by decide +kernel) rfl
theorem fpX3_9 : FP RX3 9 3 0 := ⟨RX3, TX3, cf3, by decide, by decide, in_t 167 (by decide +kernel) rfl, Or.inl rfl⟩
theorem fpX3_15 : FP RX3 15 3 1 := ⟨RX3, TX3, cf3, by decide, by decide, in_t 169 (by decide +kernel) rfl, Or.inl rfl⟩
theorem fpX3_18 : FP RX3 18 3 2 := ⟨RX3, TX3, cf3, by decide, by decide, in_t 171 (by decide +kernel) rfl, Or.inr ⟨rfl, rfl⟩⟩
theorem wmX8_1 : Cond.methodLink RX8 1 objectInit ∈ gw := in_t 24 (by decide +kernel) rfl
theorem wclX8_9 : Cond.classLink RX8 9 "AStreetByACane$Shelf" ∈ gw := in_t 27 (by decide +kernel) rfl
theorem fpX8_11 : FP RX8 11 8 0 := ⟨RX8, TX8, cf8, by decide, by decide, in_t 181 (by decide +kernel) rfl, Or.inr ⟨rfl, rfl⟩⟩
theorem nwX8_15 : NW RX8 15 5 := ⟨by decide, RX5, TX5, cf5, in_t 29 (by decide +kernel) rfl, in_t 30 (by decide +kernel) rfl, in_t 2 (by decide +kernel) rfl⟩
theorem ciX8_17 : CI RX8 17 yX5_init := ⟨in_t 31 (by decide +kernel) rfl, in_t 32 (by decide +kernel) rfl, rfl⟩
theorem fpX8_18 : FP RX8 18 8 1 := ⟨RX8, TX8, cf8, by decide, by decide, in_t 182 (by decide +kernel) rfl, Or.inr ⟨rfl, rfl⟩⟩
theorem fpX8_22 : FP RX8 22 8 2 := ⟨RX8, TX8, cf8, by decide, by decide, in_t 183 (by decide +kernel) rfl, Or.inr ⟨rfl, rfl⟩⟩
theorem fpX8_25 : FP RX8 25 8 3 := ⟨RX8, TX8, cf8, by decide, by decide, in_t 184 (by decide +kernel) rfl, Or.inr ⟨rfl, rfl⟩⟩
theorem fpX8_28 : FP RX8 28 8 4 := ⟨RX8, TX8, cf8, by decide, by decide, in_t 185 (by decide +kernel) rfl, Or.inl rfl⟩
theorem fpX8_32 : FP RX8 32 8 5 := ⟨RX8, TX8, cf8, by decide, by decide, in_t 186 (by decide +kernel) rfl, Or.inr ⟨rfl, rfl⟩⟩
theorem fpX8_36 : FP RX8 36 8 6 := ⟨RX8, TX8, cf8, by decide, by decide, in_t 187 (by decide +kernel) rfl, Or.inl rfl⟩
theorem nwX8_40 : NW RX8 40 1 := ⟨by decide, RX1, TX1, cf1, in_t 124 (by decide +kernel) rfl, in_t 125 (by decide +kernel) rfl, in_t 4 (by decide +kernel) rfl⟩
theorem wiX1_init : Cond.instanceMethod yX1_init ∈ gw := in_t 127 (by decide +kernel) rfl
theorem fpX8_43 : FP RX8 43 8 7 := ⟨RX8, TX8, cf8, by decide, by decide, in_t 188 (by decide +kernel) rfl, Or.inr ⟨rfl, rfl⟩⟩
theorem nwX8_47 : NW RX8 47 7 := ⟨by decide, RX7, TX7, cf7, in_t 148 (by decide +kernel) rfl, in_t 149 (by decide +kernel) rfl, in_t 5 (by decide +kernel) rfl⟩
theorem wiX7_init : Cond.instanceMethod yX7_init ∈ gw := in_t 151 (by decide +kernel) rfl
theorem fpX8_50 : FP RX8 50 8 8 := ⟨RX8, TX8, cf8, by decide, by decide, in_t 189 (by decide +kernel) rfl, Or.inr ⟨rfl, rfl⟩⟩
theorem fpX8_54 : FP RX8 54 8 9 := ⟨RX8, TX8, cf8, by decide, by decide, in_t 190 (by decide +kernel) rfl, Or.inr ⟨rfl, rfl⟩⟩
theorem flX8_11 : FL RX8 11 8 0 := ⟨RX8, TX8, cf8, by decide, by decide, in_t 181 (by decide +kernel) rfl⟩
theorem nwX8_9 : NW RX8 9 3 := ⟨by decide, RX3, TX3, cf3, in_t 27 (by decide +kernel) rfl, in_t 162 (by decide +kernel) rfl, in_t 6 (by decide +kernel) rfl⟩
theorem wiX3_init : Cond.instanceMethod yX3_init ∈ gw := in_t 164 (by decide +kernel) rfl
theorem flX9_56 : FL RX9 56 9 21 := ⟨RX9, TX9, cf9, by decide, by decide, in_t 975 (by decide +kernel) rfl⟩
theorem flX9_7 : FL RX9 7 9 0 := ⟨RX9, TX9, cf9, by decide, by decide, in_t 954 (by decide +kernel) rfl⟩
theorem fpX9_136 : FP RX9 136 9 8 := ⟨RX9, TX9, cf9, by decide, by decide, in_t 962 (by decide +kernel) rfl, Or.inl rfl⟩
theorem fpX9_129 : FP RX9 129 9 9 := ⟨RX9, TX9, cf9, by decide, by decide, in_t 963 (by decide +kernel) rfl, Or.inl rfl⟩
theorem wmX9_1 : Cond.methodLink RX9 1 objectInit ∈ gw := in_t 949 (by decide +kernel) rfl
theorem fpX9_7 : FP RX9 7 9 0 := ⟨RX9, TX9, cf9, by decide, by decide, in_t 954 (by decide +kernel) rfl, Or.inl rfl⟩
theorem fpX9_13 : FP RX9 13 9 1 := ⟨RX9, TX9, cf9, by decide, by decide, in_t 955 (by decide +kernel) rfl, Or.inl rfl⟩
theorem fpX9_16 : FP RX9 16 9 2 := ⟨RX9, TX9, cf9, by decide, by decide, in_t 956 (by decide +kernel) rfl, Or.inl rfl⟩
theorem fpX9_19 : FP RX9 19 9 5 := ⟨RX9, TX9, cf9, by decide, by decide, in_t 959 (by decide +kernel) rfl, Or.inl rfl⟩
theorem fpX9_22 : FP RX9 22 9 10 := ⟨RX9, TX9, cf9, by decide, by decide, in_t 964 (by decide +kernel) rfl, Or.inl rfl⟩
theorem fpX9_25 : FP RX9 25 9 11 := ⟨RX9, TX9, cf9, by decide, by decide, in_t 965 (by decide +kernel) rfl, Or.inl rfl⟩
theorem fpX9_28 : FP RX9 28 9 12 := ⟨RX9, TX9, cf9, by decide, by decide, in_t 966 (by decide +kernel) rfl, Or.inl rfl⟩
theorem fpX9_31 : FP RX9 31 9 13 := ⟨RX9, TX9, cf9, by decide, by decide, in_t 967 (by decide +kernel) rfl, Or.inr ⟨rfl, rfl⟩⟩
theorem fpX9_35 : FP RX9 35 9 14 := ⟨RX9, TX9, cf9, by decide, by decide, in_t 968 (by decide +kernel) rfl, Or.inr ⟨rfl, rfl⟩⟩
theorem fpX9_38 : FP RX9 38 9 15 := ⟨RX9, TX9, cf9, by decide, by decide, in_t 969 (by decide +kernel) rfl, Or.inr ⟨rfl, rfl⟩⟩
theorem fpX9_41 : FP RX9 41 9 16 := ⟨RX9, TX9, cf9, by decide, by decide, in_t 970 (by decide +kernel) rfl, Or.inr ⟨rfl, rfl⟩⟩
theorem fpX9_44 : FP RX9 44 9 17 := ⟨RX9, TX9, cf9, by decide, by decide, in_t 971 (by decide +kernel) rfl, Or.inr ⟨rfl, rfl⟩⟩
theorem fpX9_47 : FP RX9 47 9 18 := ⟨RX9, TX9, cf9, by decide, by decide, in_t 972 (by decide +kernel) rfl, Or.inr ⟨rfl, rfl⟩⟩
theorem fpX9_50 : FP RX9 50 9 19 := ⟨RX9, TX9, cf9, by decide, by decide, in_t 973 (by decide +kernel) rfl, Or.inr ⟨rfl, rfl⟩⟩
theorem fpX9_53 : FP RX9 53 9 20 := ⟨RX9, TX9, cf9, by decide, by decide, in_t 974 (by decide +kernel) rfl, Or.inr ⟨rfl, rfl⟩⟩
theorem fpX9_56 : FP RX9 56 9 21 := ⟨RX9, TX9, cf9, by decide, by decide, in_t 975 (by decide +kernel) rfl, Or.inr ⟨rfl, rfl⟩⟩
theorem fpX9_60 : FP RX9 60 9 22 := ⟨RX9, TX9, cf9, by decide, by decide, in_t 976 (by decide +kernel) rfl, Or.inr ⟨rfl, rfl⟩⟩
theorem fpX9_63 : FP RX9 63 9 23 := ⟨RX9, TX9, cf9, by decide, by decide, in_t 977 (by decide +kernel) rfl, Or.inr ⟨rfl, rfl⟩⟩
theorem fpX9_66 : FP RX9 66 9 24 := ⟨RX9, TX9, cf9, by decide, by decide, in_t 978 (by decide +kernel) rfl, Or.inr ⟨rfl, rfl⟩⟩
theorem fpX9_69 : FP RX9 69 9 25 := ⟨RX9, TX9, cf9, by decide, by decide, in_t 979 (by decide +kernel) rfl, Or.inr ⟨rfl, rfl⟩⟩
theorem fpX9_72 : FP RX9 72 9 26 := ⟨RX9, TX9, cf9, by decide, by decide, in_t 980 (by decide +kernel) rfl, Or.inr ⟨rfl, rfl⟩⟩
theorem fpX9_75 : FP RX9 75 9 27 := ⟨RX9, TX9, cf9, by decide, by decide, in_t 981 (by decide +kernel) rfl, Or.inr ⟨rfl, rfl⟩⟩
theorem fpX9_78 : FP RX9 78 9 28 := ⟨RX9, TX9, cf9, by decide, by decide, in_t 982 (by decide +kernel) rfl, Or.inr ⟨rfl, rfl⟩⟩
theorem fpX9_81 : FP RX9 81 9 30 := ⟨RX9, TX9, cf9, by decide, by decide, in_t 984 (by decide +kernel) rfl, Or.inr ⟨rfl, rfl⟩⟩
theorem fpX9_84 : FP RX9 84 9 31 := ⟨RX9, TX9, cf9, by decide, by decide, in_t 985 (by decide +kernel) rfl, Or.inr ⟨rfl, rfl⟩⟩
theorem fpX9_87 : FP RX9 87 9 37 := ⟨RX9, TX9, cf9, by decide, by decide, in_t 991 (by decide +kernel) rfl, Or.inr ⟨rfl, rfl⟩⟩
theorem fpX9_90 : FP RX9 90 9 38 := ⟨RX9, TX9, cf9, by decide, by decide, in_t 992 (by decide +kernel) rfl, Or.inr ⟨rfl, rfl⟩⟩
theorem fpX9_93 : FP RX9 93 9 39 := ⟨RX9, TX9, cf9, by decide, by decide, in_t 993 (by decide +kernel) rfl, Or.inr ⟨rfl, rfl⟩⟩
theorem fpX9_96 : FP RX9 96 9 40 := ⟨RX9, TX9, cf9, by decide, by decide, in_t 994 (by decide +kernel) rfl, Or.inr ⟨rfl, rfl⟩⟩
theorem fpX9_99 : FP RX9 99 9 41 := ⟨RX9, TX9, cf9, by decide, by decide, in_t 995 (by decide +kernel) rfl, Or.inr ⟨rfl, rfl⟩⟩
theorem fpX9_102 : FP RX9 102 9 44 := ⟨RX9, TX9, cf9, by decide, by decide, in_t 998 (by decide +kernel) rfl, Or.inr ⟨rfl, rfl⟩⟩
theorem fpX9_105 : FP RX9 105 9 45 := ⟨RX9, TX9, cf9, by decide, by decide, in_t 999 (by decide +kernel) rfl, Or.inr ⟨rfl, rfl⟩⟩
theorem fpX9_108 : FP RX9 108 9 46 := ⟨RX9, TX9, cf9, by decide, by decide, in_t 1000 (by decide +kernel) rfl, Or.inr ⟨rfl, rfl⟩⟩
theorem cvX9_111 : CV RX9 111 yX9_knows := ⟨in_t 950 (by decide +kernel) rfl, in_t 952 (by decide +kernel) rfl, in_s 28 (by decide +kernel) rfl⟩
theorem flX8_32 : FL RX8 32 8 5 := ⟨RX8, TX8, cf8, by decide, by decide, in_t 186 (by decide +kernel) rfl⟩
theorem flX3_18 : FL RX3 18 3 2 := ⟨RX3, TX3, cf3, by decide, by decide, in_t 171 (by decide +kernel) rfl⟩
theorem csX3_22 : CS RX3 22 yJ7_fill_d0a16 := ⟨in_t 228 (by decide +kernel) rfl, in_t 229 (by decide +kernel) rfl⟩
theorem cvX8_59 : CV RX8 59 yX8_shelfAt := ⟨in_t 216 (by decide +kernel) rfl, in_t 218 (by decide +kernel) rfl, in_s 0 (by decide +kernel) rfl⟩
theorem cvX8_63 : CV RX8 63 yX8_refused := ⟨in_t 220 (by decide +kernel) rfl, in_t 222 (by decide +kernel) rfl, in_s 1 (by decide +kernel) rfl⟩
theorem cvX8_67 : CV RX8 67 yX3_takeRow := ⟨in_t 224 (by decide +kernel) rfl, in_t 225 (by decide +kernel) rfl, in_t 226 (by decide +kernel) rfl⟩
theorem flX9_31 : FL RX9 31 9 13 := ⟨RX9, TX9, cf9, by decide, by decide, in_t 967 (by decide +kernel) rfl⟩
theorem cvX9_118 : CV RX9 118 yX9_isShelf := ⟨in_t 1106 (by decide +kernel) rfl, in_t 1108 (by decide +kernel) rfl, in_s 29 (by decide +kernel) rfl⟩
theorem cvX9_122 : CV RX9 122 yX9_no := ⟨in_t 1110 (by decide +kernel) rfl, in_t 1112 (by decide +kernel) rfl, in_s 30 (by decide +kernel) rfl⟩
theorem flX9_63 : FL RX9 63 9 23 := ⟨RX9, TX9, cf9, by decide, by decide, in_t 977 (by decide +kernel) rfl⟩
theorem flX9_66 : FL RX9 66 9 24 := ⟨RX9, TX9, cf9, by decide, by decide, in_t 978 (by decide +kernel) rfl⟩
theorem flX9_69 : FL RX9 69 9 25 := ⟨RX9, TX9, cf9, by decide, by decide, in_t 979 (by decide +kernel) rfl⟩
theorem flX9_75 : FL RX9 75 9 27 := ⟨RX9, TX9, cf9, by decide, by decide, in_t 981 (by decide +kernel) rfl⟩
theorem flX3_9 : FL RX3 9 3 0 := ⟨RX3, TX3, cf3, by decide, by decide, in_t 167 (by decide +kernel) rfl⟩
theorem cvX8_352 : CV RX8 352 yX3_holdsRow := ⟨in_t 238 (by decide +kernel) rfl, in_t 239 (by decide +kernel) rfl, in_t 240 (by decide +kernel) rfl⟩
theorem flX8_108 : FL RX8 108 3 0 := ⟨RX3, TX3, cf3, by decide, by decide, in_t 168 (by decide +kernel) rfl⟩
theorem flX3_15 : FL RX3 15 3 1 := ⟨RX3, TX3, cf3, by decide, by decide, in_t 169 (by decide +kernel) rfl⟩
theorem cvX3_28 : CV RX3 28 yX3_lowestBits := ⟨in_t 250 (by decide +kernel) rfl, in_t 252 (by decide +kernel) rfl, in_s 2 (by decide +kernel) rfl⟩
theorem csX8_71 : CS RX8 71 yX8_rowTrouble := ⟨in_t 235 (by decide +kernel) rfl, in_t 236 (by decide +kernel) rfl⟩
theorem cvX8_75 : CV RX8 75 yX3_hasRun := ⟨in_t 242 (by decide +kernel) rfl, in_t 243 (by decide +kernel) rfl, in_t 244 (by decide +kernel) rfl⟩
theorem cvX8_79 : CV RX8 79 yX3_put := ⟨in_t 246 (by decide +kernel) rfl, in_t 247 (by decide +kernel) rfl, in_t 248 (by decide +kernel) rfl⟩
theorem csX8_83 : CS RX8 83 yX8_pairTrouble := ⟨in_t 258 (by decide +kernel) rfl, in_t 259 (by decide +kernel) rfl⟩
theorem flX8_87 : FL RX8 87 3 2 := ⟨RX3, TX3, cf3, by decide, by decide, in_t 173 (by decide +kernel) rfl⟩
theorem wmX8_90 : Cond.methodLink RX8 90 arraycopyName ∈ gw := in_t 261 (by decide +kernel) rfl
theorem wac_n : Cond.native arraycopyName ∈ gw := in_t 263 (by decide +kernel) rfl
theorem wac_s : Cond.static arraycopyName ∈ gw := in_t 262 (by decide +kernel) rfl
theorem wac_i : Cond.initialized "java/lang/System" ∈ gw := in_t 9 (by decide +kernel) rfl
theorem flX9_78 : FL RX9 78 9 28 := ⟨RX9, TX9, cf9, by decide, by decide, in_t 982 (by decide +kernel) rfl⟩
theorem cvX8_96 : CV RX8 96 yX3_valueAt := ⟨in_t 268 (by decide +kernel) rfl, in_t 269 (by decide +kernel) rfl, in_t 270 (by decide +kernel) rfl⟩
theorem flX5_37 : FL RX5 37 5 7 := ⟨RX5, TX5, cf5, by decide, by decide, in_t 76 (by decide +kernel) rfl⟩
theorem flX5_33 : FL RX5 33 5 6 := ⟨RX5, TX5, cf5, by decide, by decide, in_t 75 (by decide +kernel) rfl⟩
theorem flX8_18 : FL RX8 18 8 1 := ⟨RX8, TX8, cf8, by decide, by decide, in_t 182 (by decide +kernel) rfl⟩
theorem cvX8_100 : CV RX8 100 yX5_signAt := ⟨in_t 276 (by decide +kernel) rfl, in_t 277 (by decide +kernel) rfl, in_t 278 (by decide +kernel) rfl⟩
theorem cvX8_104 : CV RX8 104 yX3_takeSign := ⟨in_t 280 (by decide +kernel) rfl, in_t 281 (by decide +kernel) rfl, in_t 282 (by decide +kernel) rfl⟩
theorem flX9_115 : FL RX9 115 9 6 := ⟨RX9, TX9, cf9, by decide, by decide, in_t 960 (by decide +kernel) rfl⟩
theorem cvX9_126 : CV RX9 126 yX9_isSign := ⟨in_t 1130 (by decide +kernel) rfl, in_t 1132 (by decide +kernel) rfl, in_s 31 (by decide +kernel) rfl⟩
theorem flX9_72 : FL RX9 72 9 26 := ⟨RX9, TX9, cf9, by decide, by decide, in_t 980 (by decide +kernel) rfl⟩
theorem flX4_15 : FL RX4 15 4 1 := ⟨RX4, TX4, cf4, by decide, by decide, in_t 364 (by decide +kernel) rfl⟩
theorem flX5_97 : FL RX5 97 4 2 := ⟨RX4, TX4, cf4, by decide, by decide, in_t 368 (by decide +kernel) rfl⟩
theorem wmX5_114 : Cond.methodLink RX5 114 Lib.Math.abs.name ∈ gw := in_t 313 (by decide +kernel) rfl
theorem wma_abI : Cond.static Lib.Math.abs.name ∈ gw ∧ Cond.initialized "java/lang/Math" ∈ gw ∧ Cond.code Lib.Math.abs.name Lib.Math.abs.code 1 (some .int) ∈ gw := ⟨in_t 314 (by decide +kernel) rfl, in_t 10 (by decide +kernel) rfl, in_t 315 (by decide +kernel) rfl⟩
theorem flX5_100 : FL RX5 100 4 3 := ⟨RX4, TX4, cf4, by decide, by decide, in_t 371 (by decide +kernel) rfl⟩
theorem flX5_94 : FL RX5 94 4 4 := ⟨RX4, TX4, cf4, by decide, by decide, in_t 374 (by decide +kernel) rfl⟩
theorem flX5_103 : FL RX5 103 4 1 := ⟨RX4, TX4, cf4, by decide, by decide, in_t 365 (by decide +kernel) rfl⟩
theorem flX5_24 : FL RX5 24 5 4 := ⟨RX5, TX5, cf5, by decide, by decide, in_t 70 (by decide +kernel) rfl⟩
theorem cvX5_106 : CV RX5 106 yX5_otherCellOf := ⟨in_t 306 (by decide +kernel) rfl, in_t 307 (by decide +kernel) rfl, in_t 308 (by decide +kernel) rfl⟩
theorem csX5_110 : CS RX5 110 yX5_loudness := ⟨in_t 310 (by decide +kernel) rfl, in_t 311 (by decide +kernel) rfl⟩
theorem flX5_21 : FL RX5 21 5 3 := ⟨RX5, TX5, cf5, by decide, by decide, in_t 67 (by decide +kernel) rfl⟩
theorem flX5_56 : FL RX5 56 5 11 := ⟨RX5, TX5, cf5, by decide, by decide, in_t 85 (by decide +kernel) rfl⟩
theorem wcJ6_265 : Cond.constant RJ6 265 (1431655765) ∈ gw := in_t 319 (by decide +kernel) rfl
theorem wcJ6_266 : Cond.constant RJ6 266 (858993459) ∈ gw := in_t 320 (by decide +kernel) rfl
theorem wcJ6_267 : Cond.constant RJ6 267 (252645135) ∈ gw := in_t 321 (by decide +kernel) rfl
theorem cvX5_118 : CV RX5 118 yX5_tenthsOf := ⟨in_t 302 (by decide +kernel) rfl, in_t 303 (by decide +kernel) rfl, in_t 304 (by decide +kernel) rfl⟩
theorem csX5_121 : CS RX5 121 yJ6_bitCount_0f7a4 := ⟨in_t 316 (by decide +kernel) rfl, in_t 317 (by decide +kernel) rfl⟩
theorem wmX5_85 : Cond.methodLink RX5 85 Lib.Math.max.name ∈ gw := in_t 322 (by decide +kernel) rfl
theorem wma_mxI : Cond.static Lib.Math.max.name ∈ gw ∧ Cond.initialized "java/lang/Math" ∈ gw ∧ Cond.code Lib.Math.max.name Lib.Math.max.code 2 (some .int) ∈ gw := ⟨in_t 323 (by decide +kernel) rfl, in_t 10 (by decide +kernel) rfl, in_t 324 (by decide +kernel) rfl⟩
theorem cvX8_111 : CV RX8 111 yX4_isOf := ⟨in_t 292 (by decide +kernel) rfl, in_t 293 (by decide +kernel) rfl, in_t 294 (by decide +kernel) rfl⟩
theorem cvX8_117 : CV RX8 117 yX5_saidBy := ⟨in_t 298 (by decide +kernel) rfl, in_t 299 (by decide +kernel) rfl, in_t 300 (by decide +kernel) rfl⟩
theorem flX9_41 : FL RX9 41 9 16 := ⟨RX9, TX9, cf9, by decide, by decide, in_t 970 (by decide +kernel) rfl⟩
theorem flX9_38 : FL RX9 38 9 15 := ⟨RX9, TX9, cf9, by decide, by decide, in_t 969 (by decide +kernel) rfl⟩
theorem flX9_35 : FL RX9 35 9 14 := ⟨RX9, TX9, cf9, by decide, by decide, in_t 968 (by decide +kernel) rfl⟩
theorem flX9_170 : FL RX9 170 9 4 := ⟨RX9, TX9, cf9, by decide, by decide, in_t 958 (by decide +kernel) rfl⟩
theorem flX9_44 : FL RX9 44 9 17 := ⟨RX9, TX9, cf9, by decide, by decide, in_t 971 (by decide +kernel) rfl⟩
theorem flX9_167 : FL RX9 167 9 3 := ⟨RX9, TX9, cf9, by decide, by decide, in_t 957 (by decide +kernel) rfl⟩
theorem flX9_129 : FL RX9 129 9 9 := ⟨RX9, TX9, cf9, by decide, by decide, in_t 963 (by decide +kernel) rfl⟩
theorem cvX9_132 : CV RX9 132 yX9_strengthOf := ⟨in_t 1142 (by decide +kernel) rfl, in_t 1144 (by decide +kernel) rfl, in_s 32 (by decide +kernel) rfl⟩
theorem cvX5_76 : CV RX5 76 yX5_knowNothing := ⟨in_t 333 (by decide +kernel) rfl, in_t 334 (by decide +kernel) rfl, in_t 335 (by decide +kernel) rfl⟩
theorem flX8_121 : FL RX8 121 5 0 := ⟨RX5, TX5, cf5, by decide, by decide, in_t 59 (by decide +kernel) rfl⟩
theorem cvX8_124 : CV RX8 124 yX5_tellLength := ⟨in_t 329 (by decide +kernel) rfl, in_t 330 (by decide +kernel) rfl, in_t 331 (by decide +kernel) rfl⟩
theorem cvX8_127 : CV RX8 127 yX8_dropSignsFrom := ⟨in_t 337 (by decide +kernel) rfl, in_t 339 (by decide +kernel) rfl, in_s 3 (by decide +kernel) rfl⟩
theorem fpX9_139 : FP RX9 139 9 29 := ⟨RX9, TX9, cf9, by decide, by decide, in_t 983 (by decide +kernel) rfl, Or.inl rfl⟩
theorem fpX9_115 : FP RX9 115 9 6 := ⟨RX9, TX9, cf9, by decide, by decide, in_t 960 (by decide +kernel) rfl, Or.inl rfl⟩
theorem fpX9_143 : FP RX9 143 9 7 := ⟨RX9, TX9, cf9, by decide, by decide, in_t 961 (by decide +kernel) rfl, Or.inl rfl⟩
theorem cvX9_146 : CV RX9 146 yX9_along := ⟨in_t 1150 (by decide +kernel) rfl, in_t 1152 (by decide +kernel) rfl, in_s 33 (by decide +kernel) rfl⟩
theorem cvX9_148 : CV RX9 148 yX9_empties := ⟨in_t 1154 (by decide +kernel) rfl, in_t 1156 (by decide +kernel) rfl, in_s 34 (by decide +kernel) rfl⟩
theorem wmX4_3 : Cond.methodLink RX4 3 objectInit ∈ gw := in_t 361 (by decide +kernel) rfl
theorem fpX4_9 : FP RX4 9 4 0 := ⟨RX4, TX4, cf4, by decide, by decide, in_t 362 (by decide +kernel) rfl, Or.inr ⟨rfl, rfl⟩⟩
theorem fpX4_15 : FP RX4 15 4 1 := ⟨RX4, TX4, cf4, by decide, by decide, in_t 364 (by decide +kernel) rfl, Or.inr ⟨rfl, rfl⟩⟩
theorem fpX4_18 : FP RX4 18 4 2 := ⟨RX4, TX4, cf4, by decide, by decide, in_t 367 (by decide +kernel) rfl, Or.inr ⟨rfl, rfl⟩⟩
theorem fpX4_21 : FP RX4 21 4 3 := ⟨RX4, TX4, cf4, by decide, by decide, in_t 370 (by decide +kernel) rfl, Or.inr ⟨rfl, rfl⟩⟩
theorem fpX4_24 : FP RX4 24 4 4 := ⟨RX4, TX4, cf4, by decide, by decide, in_t 373 (by decide +kernel) rfl, Or.inr ⟨rfl, rfl⟩⟩
theorem nwX5_31 : NW RX5 31 4 := ⟨by decide, RX4, TX4, cf4, in_t 35 (by decide +kernel) rfl, in_t 357 (by decide +kernel) rfl, in_t 12 (by decide +kernel) rfl⟩
theorem ciX5_79 : CI RX5 79 yX4_init := ⟨in_t 358 (by decide +kernel) rfl, in_t 359 (by decide +kernel) rfl, rfl⟩
theorem cvX8_130 : CV RX8 130 yX5_hasCell := ⟨in_t 345 (by decide +kernel) rfl, in_t 346 (by decide +kernel) rfl, in_t 347 (by decide +kernel) rfl⟩
theorem cvX8_133 : CV RX8 133 yX5_hasRoomForSign := ⟨in_t 349 (by decide +kernel) rfl, in_t 350 (by decide +kernel) rfl, in_t 351 (by decide +kernel) rfl⟩
theorem cvX8_137 : CV RX8 137 yX5_addSign := ⟨in_t 353 (by decide +kernel) rfl, in_t 354 (by decide +kernel) rfl, in_t 355 (by decide +kernel) rfl⟩
theorem cvX9_151 : CV RX9 151 yX9_isCell := ⟨in_t 1162 (by decide +kernel) rfl, in_t 1164 (by decide +kernel) rfl, in_s 35 (by decide +kernel) rfl⟩
theorem cvX9_154 : CV RX9 154 yX9_signs := ⟨in_t 1166 (by decide +kernel) rfl, in_t 1168 (by decide +kernel) rfl, in_s 36 (by decide +kernel) rfl⟩
theorem flX5_46 : FL RX5 46 5 9 := ⟨RX5, TX5, cf5, by decide, by decide, in_t 80 (by decide +kernel) rfl⟩
theorem wmX6_1 : Cond.methodLink RX6 1 objectInit ∈ gw := in_t 403 (by decide +kernel) rfl
theorem fpX6_7 : FP RX6 7 6 0 := ⟨RX6, TX6, cf6, by decide, by decide, in_t 404 (by decide +kernel) rfl, Or.inr ⟨rfl, rfl⟩⟩
theorem fpX6_13 : FP RX6 13 6 1 := ⟨RX6, TX6, cf6, by decide, by decide, in_t 407 (by decide +kernel) rfl, Or.inr ⟨rfl, rfl⟩⟩
theorem fpX6_17 : FP RX6 17 6 2 := ⟨RX6, TX6, cf6, by decide, by decide, in_t 410 (by decide +kernel) rfl, Or.inr ⟨rfl, rfl⟩⟩
theorem flX5_42 : FL RX5 42 5 8 := ⟨RX5, TX5, cf5, by decide, by decide, in_t 79 (by decide +kernel) rfl⟩
theorem nwX5_40 : NW RX5 40 6 := ⟨by decide, RX6, TX6, cf6, in_t 37 (by decide +kernel) rfl, in_t 399 (by decide +kernel) rfl, in_t 13 (by decide +kernel) rfl⟩
theorem ciX5_82 : CI RX5 82 yX6_init := ⟨in_t 400 (by decide +kernel) rfl, in_t 401 (by decide +kernel) rfl, rfl⟩
theorem cvX8_141 : CV RX8 141 yX5_hasRoomForThing := ⟨in_t 391 (by decide +kernel) rfl, in_t 392 (by decide +kernel) rfl, in_t 393 (by decide +kernel) rfl⟩
theorem cvX8_144 : CV RX8 144 yX5_addThing := ⟨in_t 395 (by decide +kernel) rfl, in_t 396 (by decide +kernel) rfl, in_t 397 (by decide +kernel) rfl⟩
theorem flX9_47 : FL RX9 47 9 18 := ⟨RX9, TX9, cf9, by decide, by decide, in_t 972 (by decide +kernel) rfl⟩
theorem flX9_143 : FL RX9 143 9 7 := ⟨RX9, TX9, cf9, by decide, by decide, in_t 961 (by decide +kernel) rfl⟩
theorem flX9_50 : FL RX9 50 9 19 := ⟨RX9, TX9, cf9, by decide, by decide, in_t 973 (by decide +kernel) rfl⟩
theorem flX9_53 : FL RX9 53 9 20 := ⟨RX9, TX9, cf9, by decide, by decide, in_t 974 (by decide +kernel) rfl⟩
theorem cvX9_157 : CV RX9 157 yX9_stands := ⟨in_t 1174 (by decide +kernel) rfl, in_t 1176 (by decide +kernel) rfl, in_s 37 (by decide +kernel) rfl⟩
theorem cvX8_355 : CV RX8 355 yX3_intAt := ⟨in_t 428 (by decide +kernel) rfl, in_t 429 (by decide +kernel) rfl, in_t 430 (by decide +kernel) rfl⟩
theorem cvX8_148 : CV RX8 148 yX8_addThingFrom := ⟨in_t 424 (by decide +kernel) rfl, in_t 426 (by decide +kernel) rfl, in_s 4 (by decide +kernel) rfl⟩
theorem cvX9_161 : CV RX9 161 yX9_wants := ⟨in_t 1182 (by decide +kernel) rfl, in_t 1184 (by decide +kernel) rfl, in_s 38 (by decide +kernel) rfl⟩
theorem cvX9_164 : CV RX9 164 yX9_intAt := ⟨in_t 1186 (by decide +kernel) rfl, in_t 1188 (by decide +kernel) rfl, in_s 39 (by decide +kernel) rfl⟩
theorem flX8_152 : FL RX8 152 5 1 := ⟨RX5, TX5, cf5, by decide, by decide, in_t 63 (by decide +kernel) rfl⟩
theorem flX8_155 : FL RX8 155 5 2 := ⟨RX5, TX5, cf5, by decide, by decide, in_t 66 (by decide +kernel) rfl⟩
theorem fpX8_152 : FP RX8 152 5 1 := ⟨RX5, TX5, cf5, by decide, by decide, in_t 63 (by decide +kernel) rfl, Or.inl rfl⟩
theorem fpX8_155 : FP RX8 155 5 2 := ⟨RX5, TX5, cf5, by decide, by decide, in_t 66 (by decide +kernel) rfl, Or.inl rfl⟩
theorem flX9_13 : FL RX9 13 9 1 := ⟨RX9, TX9, cf9, by decide, by decide, in_t 955 (by decide +kernel) rfl⟩
theorem flX9_16 : FL RX9 16 9 2 := ⟨RX9, TX9, cf9, by decide, by decide, in_t 956 (by decide +kernel) rfl⟩
theorem flX8_337 : FL RX8 337 5 3 := ⟨RX5, TX5, cf5, by decide, by decide, in_t 69 (by decide +kernel) rfl⟩
theorem fpX8_337 : FP RX8 337 5 3 := ⟨RX5, TX5, cf5, by decide, by decide, in_t 69 (by decide +kernel) rfl, Or.inl rfl⟩
theorem flX8_340 : FL RX8 340 5 4 := ⟨RX5, TX5, cf5, by decide, by decide, in_t 71 (by decide +kernel) rfl⟩
theorem fpX8_340 : FP RX8 340 5 4 := ⟨RX5, TX5, cf5, by decide, by decide, in_t 71 (by decide +kernel) rfl, Or.inl rfl⟩
theorem flX8_343 : FL RX8 343 5 5 := ⟨RX5, TX5, cf5, by decide, by decide, in_t 74 (by decide +kernel) rfl⟩
theorem fpX8_343 : FP RX8 343 5 5 := ⟨RX5, TX5, cf5, by decide, by decide, in_t 74 (by decide +kernel) rfl, Or.inl rfl⟩
theorem cvX8_158 : CV RX8 158 yX8_askHour := ⟨in_t 440 (by decide +kernel) rfl, in_t 442 (by decide +kernel) rfl, in_s 5 (by decide +kernel) rfl⟩
theorem cvX8_161 : CV RX8 161 yX8_askSnow := ⟨in_t 444 (by decide +kernel) rfl, in_t 446 (by decide +kernel) rfl, in_s 6 (by decide +kernel) rfl⟩
theorem cvX8_164 : CV RX8 164 yX8_askArc := ⟨in_t 448 (by decide +kernel) rfl, in_t 450 (by decide +kernel) rfl, in_s 7 (by decide +kernel) rfl⟩
theorem fpX9_167 : FP RX9 167 9 3 := ⟨RX9, TX9, cf9, by decide, by decide, in_t 957 (by decide +kernel) rfl, Or.inl rfl⟩
theorem fpX9_170 : FP RX9 170 9 4 := ⟨RX9, TX9, cf9, by decide, by decide, in_t 958 (by decide +kernel) rfl, Or.inl rfl⟩
theorem flX9_19 : FL RX9 19 9 5 := ⟨RX9, TX9, cf9, by decide, by decide, in_t 959 (by decide +kernel) rfl⟩
theorem flX8_167 : FL RX8 167 4 1 := ⟨RX4, TX4, cf4, by decide, by decide, in_t 366 (by decide +kernel) rfl⟩
theorem flX8_170 : FL RX8 170 4 2 := ⟨RX4, TX4, cf4, by decide, by decide, in_t 369 (by decide +kernel) rfl⟩
theorem flX8_173 : FL RX8 173 4 3 := ⟨RX4, TX4, cf4, by decide, by decide, in_t 372 (by decide +kernel) rfl⟩
theorem flX8_176 : FL RX8 176 4 4 := ⟨RX4, TX4, cf4, by decide, by decide, in_t 375 (by decide +kernel) rfl⟩
theorem cvX8_179 : CV RX8 179 yX5_thingAt := ⟨in_t 460 (by decide +kernel) rfl, in_t 461 (by decide +kernel) rfl, in_t 462 (by decide +kernel) rfl⟩
theorem flX8_183 : FL RX8 183 6 0 := ⟨RX6, TX6, cf6, by decide, by decide, in_t 405 (by decide +kernel) rfl⟩
theorem flX8_186 : FL RX8 186 6 1 := ⟨RX6, TX6, cf6, by decide, by decide, in_t 408 (by decide +kernel) rfl⟩
theorem flX8_189 : FL RX8 189 6 2 := ⟨RX6, TX6, cf6, by decide, by decide, in_t 411 (by decide +kernel) rfl⟩
theorem cvX8_192 : CV RX8 192 yX5_removeThing := ⟨in_t 468 (by decide +kernel) rfl, in_t 469 (by decide +kernel) rfl, in_t 470 (by decide +kernel) rfl⟩
theorem flX8_195 : FL RX8 195 5 9 := ⟨RX5, TX5, cf5, by decide, by decide, in_t 81 (by decide +kernel) rfl⟩
theorem wmX0_18 : Cond.methodLink RX0 18 arraycopyName ∈ gw := in_t 484 (by decide +kernel) rfl
theorem flX5_15 : FL RX5 15 5 1 := ⟨RX5, TX5, cf5, by decide, by decide, in_t 61 (by decide +kernel) rfl⟩
theorem flX5_18 : FL RX5 18 5 2 := ⟨RX5, TX5, cf5, by decide, by decide, in_t 64 (by decide +kernel) rfl⟩
theorem flX5_28 : FL RX5 28 5 5 := ⟨RX5, TX5, cf5, by decide, by decide, in_t 72 (by decide +kernel) rfl⟩
theorem cvX5_72 : CV RX5 72 yX0_becomeLike := ⟨in_t 480 (by decide +kernel) rfl, in_t 481 (by decide +kernel) rfl, in_t 482 (by decide +kernel) rfl⟩
theorem flX5_59 : FL RX5 59 5 12 := ⟨RX5, TX5, cf5, by decide, by decide, in_t 87 (by decide +kernel) rfl⟩
theorem flX5_62 : FL RX5 62 5 13 := ⟨RX5, TX5, cf5, by decide, by decide, in_t 89 (by decide +kernel) rfl⟩
theorem flX5_65 : FL RX5 65 5 14 := ⟨RX5, TX5, cf5, by decide, by decide, in_t 91 (by decide +kernel) rfl⟩
theorem wmX2_3 : Cond.methodLink RX2 3 objectInit ∈ gw := in_t 490 (by decide +kernel) rfl
theorem fpX2_9 : FP RX2 9 2 2 := ⟨RX2, TX2, cf2, by decide, by decide, in_t 493 (by decide +kernel) rfl, Or.inl rfl⟩
theorem fpX2_15 : FP RX2 15 2 3 := ⟨RX2, TX2, cf2, by decide, by decide, in_t 494 (by decide +kernel) rfl, Or.inl rfl⟩
theorem fpX2_18 : FP RX2 18 2 4 := ⟨RX2, TX2, cf2, by decide, by decide, in_t 496 (by decide +kernel) rfl, Or.inl rfl⟩
theorem fpX2_22 : FP RX2 22 2 0 := ⟨RX2, TX2, cf2, by decide, by decide, in_t 491 (by decide +kernel) rfl, Or.inr ⟨rfl, rfl⟩⟩
theorem fpX2_26 : FP RX2 26 2 1 := ⟨RX2, TX2, cf2, by decide, by decide, in_t 492 (by decide +kernel) rfl, Or.inr ⟨rfl, rfl⟩⟩
theorem flX2_9 : FL RX2 9 2 2 := ⟨RX2, TX2, cf2, by decide, by decide, in_t 493 (by decide +kernel) rfl⟩
theorem flX2_22 : FL RX2 22 2 0 := ⟨RX2, TX2, cf2, by decide, by decide, in_t 491 (by decide +kernel) rfl⟩
theorem flX2_33 : FL RX2 33 3 1 := ⟨RX3, TX3, cf3, by decide, by decide, in_t 170 (by decide +kernel) rfl⟩
theorem flX2_42 : FL RX2 42 3 2 := ⟨RX3, TX3, cf3, by decide, by decide, in_t 172 (by decide +kernel) rfl⟩
theorem cvX2_46 : CV RX2 46 yX2_letter := ⟨in_t 517 (by decide +kernel) rfl, in_t 519 (by decide +kernel) rfl, in_s 9 (by decide +kernel) rfl⟩
theorem flX2_15 : FL RX2 15 2 3 := ⟨RX2, TX2, cf2, by decide, by decide, in_t 494 (by decide +kernel) rfl⟩
theorem cvX2_38 : CV RX2 38 yX2_pass := ⟨in_t 587 (by decide +kernel) rfl, in_t 589 (by decide +kernel) rfl, in_s 11 (by decide +kernel) rfl⟩
theorem wfJ0_9 : Cond.fieldLink RJ0 9 "java/lang/String" "value" "[B" ∈ gw := in_t 1466 (by decide +kernel) rfl
theorem ws_J0_38 : Cond.fieldLink RJ0 38 "java/lang/String" "COMPACT_STRINGS" "Z" ∈ gw := in_t 547 (by decide +kernel) rfl
theorem wfJ0_15 : Cond.fieldLink RJ0 15 "java/lang/String" "coder" "B" ∈ gw := in_t 1467 (by decide +kernel) rfl
theorem cvJ0_335 : CV RJ0 335 yJ0_coder_7d493 := ⟨in_t 543 (by decide +kernel) rfl, in_t 544 (by decide +kernel) rfl, in_t 545 (by decide +kernel) rfl⟩
theorem ws_J0_1053 : Cond.fieldLink RJ0 1053 "jdk/internal/util/Preconditions" "SIOOBE_FORMATTER" "Ljava/util/function/BiFunction;" ∈ gw := in_t 563 (by decide +kernel) rfl
theorem csJ0_1059 : CS RJ0 1059 yJ3_checkIndex_8e157 := ⟨in_t 565 (by decide +kernel) rfl, in_t 566 (by decide +kernel) rfl⟩
theorem csJ1_9 : CS RJ1 9 yJ0_checkIndex_df160 := ⟨in_t 560 (by decide +kernel) rfl, in_t 561 (by decide +kernel) rfl⟩
theorem cvJ0_492 : CV RJ0 492 yJ0_isLatin1_aae02 := ⟨in_t 553 (by decide +kernel) rfl, in_t 554 (by decide +kernel) rfl, in_t 555 (by decide +kernel) rfl⟩
theorem csJ0_495 : CS RJ0 495 yJ1_charAt_3b067 := ⟨in_t 557 (by decide +kernel) rfl, in_t 558 (by decide +kernel) rfl⟩
theorem cvX2_94 : CV RX2 94 yJ0_isEmpty_aae02 := ⟨in_t 535 (by decide +kernel) rfl, in_t 536 (by decide +kernel) rfl, in_t 537 (by decide +kernel) rfl⟩
theorem cvX2_100 : CV RX2 100 yJ0_length_8abf5 := ⟨in_t 539 (by decide +kernel) rfl, in_t 540 (by decide +kernel) rfl, in_t 541 (by decide +kernel) rfl⟩
theorem cvX2_103 : CV RX2 103 yJ0_charAt_5068e := ⟨in_t 549 (by decide +kernel) rfl, in_t 550 (by decide +kernel) rfl, in_t 551 (by decide +kernel) rfl⟩
theorem cvX2_70 : CV RX2 70 yX2_readNumber := ⟨in_t 595 (by decide +kernel) rfl, in_t 597 (by decide +kernel) rfl, in_s 13 (by decide +kernel) rfl⟩
theorem flX2_26 : FL RX2 26 2 1 := ⟨RX2, TX2, cf2, by decide, by decide, in_t 492 (by decide +kernel) rfl⟩
theorem cvX2_107 : CV RX2 107 yX5_tellLength := ⟨in_t 599 (by decide +kernel) rfl, in_t 330 (by decide +kernel) rfl, in_t 331 (by decide +kernel) rfl⟩
theorem cvX2_110 : CV RX2 110 yX5_hasRoomForSign := ⟨in_t 604 (by decide +kernel) rfl, in_t 350 (by decide +kernel) rfl, in_t 351 (by decide +kernel) rfl⟩
theorem flX2_113 : FL RX2 113 5 0 := ⟨RX5, TX5, cf5, by decide, by decide, in_t 60 (by decide +kernel) rfl⟩
theorem cvX2_115 : CV RX2 115 yX5_addSign := ⟨in_t 605 (by decide +kernel) rfl, in_t 354 (by decide +kernel) rfl, in_t 355 (by decide +kernel) rfl⟩
theorem cvX2_119 : CV RX2 119 yX5_hasRoomForThing := ⟨in_t 610 (by decide +kernel) rfl, in_t 392 (by decide +kernel) rfl, in_t 393 (by decide +kernel) rfl⟩
theorem cvX2_122 : CV RX2 122 yX5_addThing := ⟨in_t 611 (by decide +kernel) rfl, in_t 396 (by decide +kernel) rfl, in_t 397 (by decide +kernel) rfl⟩
theorem fpX2_126 : FP RX2 126 5 1 := ⟨RX5, TX5, cf5, by decide, by decide, in_t 62 (by decide +kernel) rfl, Or.inl rfl⟩
theorem fpX2_129 : FP RX2 129 5 2 := ⟨RX5, TX5, cf5, by decide, by decide, in_t 65 (by decide +kernel) rfl, Or.inl rfl⟩
theorem csX2_50 : CS RX2 50 yX2_wordWith := ⟨in_t 521 (by decide +kernel) rfl, in_t 522 (by decide +kernel) rfl⟩
theorem cvX2_54 : CV RX2 54 yX2_readWord := ⟨in_t 531 (by decide +kernel) rfl, in_t 533 (by decide +kernel) rfl, in_s 10 (by decide +kernel) rfl⟩
theorem cvX2_58 : CV RX2 58 yX2_readLength := ⟨in_t 591 (by decide +kernel) rfl, in_t 593 (by decide +kernel) rfl, in_s 12 (by decide +kernel) rfl⟩
theorem cvX2_61 : CV RX2 61 yX2_readSign := ⟨in_t 600 (by decide +kernel) rfl, in_t 602 (by decide +kernel) rfl, in_s 14 (by decide +kernel) rfl⟩
theorem cvX2_64 : CV RX2 64 yX2_readThing := ⟨in_t 606 (by decide +kernel) rfl, in_t 608 (by decide +kernel) rfl, in_s 15 (by decide +kernel) rfl⟩
theorem cvX2_67 : CV RX2 67 yX2_readWander := ⟨in_t 612 (by decide +kernel) rfl, in_t 614 (by decide +kernel) rfl, in_s 16 (by decide +kernel) rfl⟩
theorem fpX2_74 : FP RX2 74 5 5 := ⟨RX5, TX5, cf5, by decide, by decide, in_t 73 (by decide +kernel) rfl, Or.inl rfl⟩
theorem fpX2_79 : FP RX2 79 5 3 := ⟨RX5, TX5, cf5, by decide, by decide, in_t 68 (by decide +kernel) rfl, Or.inl rfl⟩
theorem cvX2_30 : CV RX2 30 yX2_readItem := ⟨in_t 513 (by decide +kernel) rfl, in_t 515 (by decide +kernel) rfl, in_s 8 (by decide +kernel) rfl⟩
theorem flX8_22 : FL RX8 22 8 2 := ⟨RX8, TX8, cf8, by decide, by decide, in_t 183 (by decide +kernel) rfl⟩
theorem cvX8_198 : CV RX8 198 yX5_becomeLike := ⟨in_t 476 (by decide +kernel) rfl, in_t 477 (by decide +kernel) rfl, in_t 478 (by decide +kernel) rfl⟩
theorem nwX8_202 : NW RX8 202 2 := ⟨by decide, RX2, TX2, cf2, in_t 485 (by decide +kernel) rfl, in_t 486 (by decide +kernel) rfl, in_t 14 (by decide +kernel) rfl⟩
theorem ciX8_204 : CI RX8 204 yX2_init := ⟨in_t 487 (by decide +kernel) rfl, in_t 488 (by decide +kernel) rfl, rfl⟩
theorem cvX8_207 : CV RX8 207 yX2_readItems := ⟨in_t 509 (by decide +kernel) rfl, in_t 510 (by decide +kernel) rfl, in_t 511 (by decide +kernel) rfl⟩
theorem flX8_211 : FL RX8 211 2 3 := ⟨RX2, TX2, cf2, by decide, by decide, in_t 495 (by decide +kernel) rfl⟩
theorem flX8_36 : FL RX8 36 8 6 := ⟨RX8, TX8, cf8, by decide, by decide, in_t 187 (by decide +kernel) rfl⟩
theorem cvX8_214 : CV RX8 214 yX5_knowNothing := ⟨in_t 616 (by decide +kernel) rfl, in_t 334 (by decide +kernel) rfl, in_t 335 (by decide +kernel) rfl⟩
theorem flX8_217 : FL RX8 217 2 4 := ⟨RX2, TX2, cf2, by decide, by decide, in_t 497 (by decide +kernel) rfl⟩
theorem cvX9_215 : CV RX9 215 yX9_keeps := ⟨in_t 1218 (by decide +kernel) rfl, in_t 1220 (by decide +kernel) rfl, in_s 41 (by decide +kernel) rfl⟩
theorem flX9_136 : FL RX9 136 9 8 := ⟨RX9, TX9, cf9, by decide, by decide, in_t 962 (by decide +kernel) rfl⟩
theorem flX9_22 : FL RX9 22 9 10 := ⟨RX9, TX9, cf9, by decide, by decide, in_t 964 (by decide +kernel) rfl⟩
theorem flX9_25 : FL RX9 25 9 11 := ⟨RX9, TX9, cf9, by decide, by decide, in_t 965 (by decide +kernel) rfl⟩
theorem flX9_81 : FL RX9 81 9 30 := ⟨RX9, TX9, cf9, by decide, by decide, in_t 984 (by decide +kernel) rfl⟩
theorem flX9_176 : FL RX9 176 9 33 := ⟨RX9, TX9, cf9, by decide, by decide, in_t 987 (by decide +kernel) rfl⟩
theorem flX9_179 : FL RX9 179 9 34 := ⟨RX9, TX9, cf9, by decide, by decide, in_t 988 (by decide +kernel) rfl⟩
theorem flX9_182 : FL RX9 182 9 32 := ⟨RX9, TX9, cf9, by decide, by decide, in_t 986 (by decide +kernel) rfl⟩
theorem fpX9_173 : FP RX9 173 9 36 := ⟨RX9, TX9, cf9, by decide, by decide, in_t 990 (by decide +kernel) rfl, Or.inl rfl⟩
theorem fpX9_176 : FP RX9 176 9 33 := ⟨RX9, TX9, cf9, by decide, by decide, in_t 987 (by decide +kernel) rfl, Or.inl rfl⟩
theorem flX9_84 : FL RX9 84 9 31 := ⟨RX9, TX9, cf9, by decide, by decide, in_t 985 (by decide +kernel) rfl⟩
theorem fpX9_185 : FP RX9 185 9 35 := ⟨RX9, TX9, cf9, by decide, by decide, in_t 989 (by decide +kernel) rfl, Or.inl rfl⟩
theorem cvX9_188 : CV RX9 188 yX9_isDigit := ⟨in_t 1254 (by decide +kernel) rfl, in_t 1256 (by decide +kernel) rfl, in_s 50 (by decide +kernel) rfl⟩
theorem cvX9_192 : CV RX9 192 yX9_wrong := ⟨in_t 1234 (by decide +kernel) rfl, in_t 1236 (by decide +kernel) rfl, in_s 45 (by decide +kernel) rfl⟩
theorem flX9_185 : FL RX9 185 9 35 := ⟨RX9, TX9, cf9, by decide, by decide, in_t 989 (by decide +kernel) rfl⟩
theorem cvX9_195 : CV RX9 195 yX9_isWordAt := ⟨in_t 1226 (by decide +kernel) rfl, in_t 1228 (by decide +kernel) rfl, in_s 43 (by decide +kernel) rfl⟩
theorem cvX9_198 : CV RX9 198 yX9_isFull := ⟨in_t 1230 (by decide +kernel) rfl, in_t 1232 (by decide +kernel) rfl, in_s 44 (by decide +kernel) rfl⟩
theorem cvX9_201 : CV RX9 201 yX9_word := ⟨in_t 1238 (by decide +kernel) rfl, in_t 1240 (by decide +kernel) rfl, in_s 46 (by decide +kernel) rfl⟩
theorem cvX9_205 : CV RX9 205 yX9_low := ⟨in_t 1242 (by decide +kernel) rfl, in_t 1244 (by decide +kernel) rfl, in_s 47 (by decide +kernel) rfl⟩
theorem cvX9_208 : CV RX9 208 yX9_top := ⟨in_t 1246 (by decide +kernel) rfl, in_t 1248 (by decide +kernel) rfl, in_s 48 (by decide +kernel) rfl⟩
theorem cvX9_211 : CV RX9 211 yX9_number := ⟨in_t 1250 (by decide +kernel) rfl, in_t 1252 (by decide +kernel) rfl, in_s 49 (by decide +kernel) rfl⟩
theorem flX9_87 : FL RX9 87 9 37 := ⟨RX9, TX9, cf9, by decide, by decide, in_t 991 (by decide +kernel) rfl⟩
theorem flX9_93 : FL RX9 93 9 39 := ⟨RX9, TX9, cf9, by decide, by decide, in_t 993 (by decide +kernel) rfl⟩
theorem cvX9_219 : CV RX9 219 yX9_all := ⟨in_t 1214 (by decide +kernel) rfl, in_t 1216 (by decide +kernel) rfl, in_s 40 (by decide +kernel) rfl⟩
theorem fpX9_182 : FP RX9 182 9 32 := ⟨RX9, TX9, cf9, by decide, by decide, in_t 986 (by decide +kernel) rfl, Or.inl rfl⟩
theorem fpX9_179 : FP RX9 179 9 34 := ⟨RX9, TX9, cf9, by decide, by decide, in_t 988 (by decide +kernel) rfl, Or.inl rfl⟩
theorem cvX9_223 : CV RX9 223 yX9_item := ⟨in_t 1222 (by decide +kernel) rfl, in_t 1224 (by decide +kernel) rfl, in_s 42 (by decide +kernel) rfl⟩
theorem flX9_139 : FL RX9 139 9 29 := ⟨RX9, TX9, cf9, by decide, by decide, in_t 983 (by decide +kernel) rfl⟩
theorem flX9_173 : FL RX9 173 9 36 := ⟨RX9, TX9, cf9, by decide, by decide, in_t 990 (by decide +kernel) rfl⟩
theorem flX9_28 : FL RX9 28 9 12 := ⟨RX9, TX9, cf9, by decide, by decide, in_t 966 (by decide +kernel) rfl⟩
theorem cvX5_126 : CV RX5 126 yX0_becomeSure := ⟨in_t 630 (by decide +kernel) rfl, in_t 631 (by decide +kernel) rfl, in_t 632 (by decide +kernel) rfl⟩
theorem flX8_220 : FL RX8 220 5 12 := ⟨RX5, TX5, cf5, by decide, by decide, in_t 88 (by decide +kernel) rfl⟩
theorem cvX8_223 : CV RX8 223 yX5_knowCell := ⟨in_t 626 (by decide +kernel) rfl, in_t 627 (by decide +kernel) rfl, in_t 628 (by decide +kernel) rfl⟩
theorem flX8_226 : FL RX8 226 5 10 := ⟨RX5, TX5, cf5, by decide, by decide, in_t 84 (by decide +kernel) rfl⟩
theorem cvX8_230 : CV RX8 230 yX0_all := ⟨in_t 638 (by decide +kernel) rfl, in_t 639 (by decide +kernel) rfl, in_t 640 (by decide +kernel) rfl⟩
theorem cvX8_236 : CV RX8 236 yX0_at := ⟨in_t 642 (by decide +kernel) rfl, in_t 643 (by decide +kernel) rfl, in_t 644 (by decide +kernel) rfl⟩
theorem cvX9_226 : CV RX9 226 yX9_sum := ⟨in_t 1270 (by decide +kernel) rfl, in_t 1272 (by decide +kernel) rfl, in_s 51 (by decide +kernel) rfl⟩
theorem cvX8_239 : CV RX8 239 yX5_tenthsOf := ⟨in_t 650 (by decide +kernel) rfl, in_t 303 (by decide +kernel) rfl, in_t 304 (by decide +kernel) rfl⟩
theorem flX0_15 : FL RX0 15 0 1 := ⟨RX0, TX0, cf0, by decide, by decide, in_t 46 (by decide +kernel) rfl⟩
theorem cvX0_24 : CV RX0 24 yX0_at := ⟨in_t 663 (by decide +kernel) rfl, in_t 643 (by decide +kernel) rfl, in_t 644 (by decide +kernel) rfl⟩
theorem wmX5_91 : Cond.methodLink RX5 91 Lib.Math.min.name ∈ gw := in_t 668 (by decide +kernel) rfl
theorem wma_mnI : Cond.static Lib.Math.min.name ∈ gw ∧ Cond.initialized "java/lang/Math" ∈ gw ∧ Cond.code Lib.Math.min.name Lib.Math.min.code 2 (some .int) ∈ gw := ⟨in_t 669 (by decide +kernel) rfl, in_t 10 (by decide +kernel) rfl, in_t 670 (by decide +kernel) rfl⟩
theorem csX0_28 : CS RX0 28 yJ7_fill_d0a16 := ⟨in_t 675 (by decide +kernel) rfl, in_t 229 (by decide +kernel) rfl⟩
theorem csX0_34 : CS RX0 34 yX0_commonPart := ⟨in_t 680 (by decide +kernel) rfl, in_t 681 (by decide +kernel) rfl⟩
theorem cvX5_129 : CV RX5 129 yX0_move := ⟨in_t 659 (by decide +kernel) rfl, in_t 660 (by decide +kernel) rfl, in_t 661 (by decide +kernel) rfl⟩
theorem cvX5_133 : CV RX5 133 yX5_reach := ⟨in_t 664 (by decide +kernel) rfl, in_t 665 (by decide +kernel) rfl, in_t 666 (by decide +kernel) rfl⟩
theorem cvX5_136 : CV RX5 136 yX0_endMoves := ⟨in_t 671 (by decide +kernel) rfl, in_t 672 (by decide +kernel) rfl, in_t 673 (by decide +kernel) rfl⟩
theorem cvX5_139 : CV RX5 139 yX0_lessen := ⟨in_t 676 (by decide +kernel) rfl, in_t 677 (by decide +kernel) rfl, in_t 678 (by decide +kernel) rfl⟩
theorem cvX8_242 : CV RX8 242 yX5_hearStep := ⟨in_t 655 (by decide +kernel) rfl, in_t 656 (by decide +kernel) rfl, in_t 657 (by decide +kernel) rfl⟩
theorem wcX9_230 : Cond.constantLong RX9 230 (2) ∈ gw := in_t 1294 (by decide +kernel) rfl
theorem flX9_60 : FL RX9 60 9 22 := ⟨RX9, TX9, cf9, by decide, by decide, in_t 976 (by decide +kernel) rfl⟩
theorem cvX9_232 : CV RX9 232 yX9_goneTo := ⟨in_t 1286 (by decide +kernel) rfl, in_t 1288 (by decide +kernel) rfl, in_s 53 (by decide +kernel) rfl⟩
theorem cvX9_236 : CV RX9 236 yX9_lessens := ⟨in_t 1290 (by decide +kernel) rfl, in_t 1292 (by decide +kernel) rfl, in_s 54 (by decide +kernel) rfl⟩
theorem cvX9_239 : CV RX9 239 yX9_steps := ⟨in_t 1282 (by decide +kernel) rfl, in_t 1284 (by decide +kernel) rfl, in_s 52 (by decide +kernel) rfl⟩
theorem cvX5_142 : CV RX5 142 yX0_at := ⟨in_t 691 (by decide +kernel) rfl, in_t 643 (by decide +kernel) rfl, in_t 644 (by decide +kernel) rfl⟩
theorem cvX5_146 : CV RX5 146 yX5_timesOf := ⟨in_t 692 (by decide +kernel) rfl, in_t 694 (by decide +kernel) rfl, in_s 17 (by decide +kernel) rfl⟩
theorem cvX5_150 : CV RX5 150 yX0_multiply := ⟨in_t 700 (by decide +kernel) rfl, in_t 701 (by decide +kernel) rfl, in_t 702 (by decide +kernel) rfl⟩
theorem cvX8_246 : CV RX8 246 yX5_canBe := ⟨in_t 687 (by decide +kernel) rfl, in_t 688 (by decide +kernel) rfl, in_t 689 (by decide +kernel) rfl⟩
theorem cvX8_250 : CV RX8 250 yX5_hearSign := ⟨in_t 696 (by decide +kernel) rfl, in_t 697 (by decide +kernel) rfl, in_t 698 (by decide +kernel) rfl⟩
theorem cvX9_242 : CV RX9 242 yX9_canBe := ⟨in_t 1299 (by decide +kernel) rfl, in_t 1301 (by decide +kernel) rfl, in_s 55 (by decide +kernel) rfl⟩
theorem cvX9_246 : CV RX9 246 yX9_feels := ⟨in_t 1303 (by decide +kernel) rfl, in_t 1305 (by decide +kernel) rfl, in_s 56 (by decide +kernel) rfl⟩
theorem cvX8_254 : CV RX8 254 yX0_surest := ⟨in_t 708 (by decide +kernel) rfl, in_t 709 (by decide +kernel) rfl, in_t 710 (by decide +kernel) rfl⟩
theorem cvX9_250 : CV RX9 250 yX9_sure := ⟨in_t 1311 (by decide +kernel) rfl, in_t 1313 (by decide +kernel) rfl, in_s 57 (by decide +kernel) rfl⟩
theorem wcX8_257 : Cond.constantLong RX8 257 (2) ∈ gw := in_t 716 (by decide +kernel) rfl
theorem cvX5_154 : CV RX5 154 yX5_hearStep := ⟨in_t 732 (by decide +kernel) rfl, in_t 656 (by decide +kernel) rfl, in_t 657 (by decide +kernel) rfl⟩
theorem cvX5_158 : CV RX5 158 yX5_signAt := ⟨in_t 733 (by decide +kernel) rfl, in_t 277 (by decide +kernel) rfl, in_t 278 (by decide +kernel) rfl⟩
theorem cvX5_162 : CV RX5 162 yX5_canBe := ⟨in_t 734 (by decide +kernel) rfl, in_t 688 (by decide +kernel) rfl, in_t 689 (by decide +kernel) rfl⟩
theorem cvX5_166 : CV RX5 166 yX5_hearSign := ⟨in_t 735 (by decide +kernel) rfl, in_t 697 (by decide +kernel) rfl, in_t 698 (by decide +kernel) rfl⟩
theorem cvX8_358 : CV RX8 358 yX5_hears := ⟨in_t 728 (by decide +kernel) rfl, in_t 729 (by decide +kernel) rfl, in_t 730 (by decide +kernel) rfl⟩
theorem csX8_259 : CS RX8 259 yX8_newsTrouble := ⟨in_t 721 (by decide +kernel) rfl, in_t 722 (by decide +kernel) rfl⟩
theorem cvX8_263 : CV RX8 263 yX8_tryNews := ⟨in_t 724 (by decide +kernel) rfl, in_t 726 (by decide +kernel) rfl, in_s 18 (by decide +kernel) rfl⟩
theorem flX9_99 : FL RX9 99 9 41 := ⟨RX9, TX9, cf9, by decide, by decide, in_t 995 (by decide +kernel) rfl⟩
theorem fpX9_253 : FP RX9 253 9 42 := ⟨RX9, TX9, cf9, by decide, by decide, in_t 996 (by decide +kernel) rfl, Or.inl rfl⟩
theorem flX9_253 : FL RX9 253 9 42 := ⟨RX9, TX9, cf9, by decide, by decide, in_t 996 (by decide +kernel) rfl⟩
theorem fpX9_256 : FP RX9 256 9 43 := ⟨RX9, TX9, cf9, by decide, by decide, in_t 997 (by decide +kernel) rfl, Or.inl rfl⟩
theorem cvX9_259 : CV RX9 259 yX9_played := ⟨in_t 1323 (by decide +kernel) rfl, in_t 1325 (by decide +kernel) rfl, in_s 58 (by decide +kernel) rfl⟩
theorem flX9_256 : FL RX9 256 9 43 := ⟨RX9, TX9, cf9, by decide, by decide, in_t 997 (by decide +kernel) rfl⟩
theorem flX1_28 : FL RX1 28 5 7 := ⟨RX5, TX5, cf5, by decide, by decide, in_t 77 (by decide +kernel) rfl⟩
theorem flX1_31 : FL RX1 31 5 0 := ⟨RX5, TX5, cf5, by decide, by decide, in_t 58 (by decide +kernel) rfl⟩
theorem flX1_18 : FL RX1 18 1 1 := ⟨RX1, TX1, cf1, by decide, by decide, in_t 135 (by decide +kernel) rfl⟩
theorem flX1_34 : FL RX1 34 5 10 := ⟨RX5, TX5, cf5, by decide, by decide, in_t 83 (by decide +kernel) rfl⟩
theorem cvX1_38 : CV RX1 38 yX0_at := ⟨in_t 749 (by decide +kernel) rfl, in_t 643 (by decide +kernel) rfl, in_t 644 (by decide +kernel) rfl⟩
theorem cvX1_44 : CV RX1 44 yX5_signAt := ⟨in_t 750 (by decide +kernel) rfl, in_t 277 (by decide +kernel) rfl, in_t 278 (by decide +kernel) rfl⟩
theorem flX1_11 : FL RX1 11 1 0 := ⟨RX1, TX1, cf1, by decide, by decide, in_t 134 (by decide +kernel) rfl⟩
theorem cvX1_48 : CV RX1 48 yX5_tenthsOf := ⟨in_t 751 (by decide +kernel) rfl, in_t 303 (by decide +kernel) rfl, in_t 304 (by decide +kernel) rfl⟩
theorem flX1_25 : FL RX1 25 1 3 := ⟨RX1, TX1, cf1, by decide, by decide, in_t 137 (by decide +kernel) rfl⟩
theorem cvX1_67 : CV RX1 67 yX1_greatest := ⟨in_t 759 (by decide +kernel) rfl, in_t 761 (by decide +kernel) rfl, in_s 19 (by decide +kernel) rfl⟩
theorem csX1_86 : CS RX1 86 yX1_lowestOf := ⟨in_t 763 (by decide +kernel) rfl, in_t 764 (by decide +kernel) rfl⟩
theorem cvX1_58 : CV RX1 58 yX1_weigh := ⟨in_t 766 (by decide +kernel) rfl, in_t 768 (by decide +kernel) rfl, in_s 20 (by decide +kernel) rfl⟩
theorem csX1_52 : CS RX1 52 yX1_worthBehind := ⟨in_t 756 (by decide +kernel) rfl, in_t 757 (by decide +kernel) rfl⟩
theorem flX8_266 : FL RX8 266 5 7 := ⟨RX5, TX5, cf5, by decide, by decide, in_t 78 (by decide +kernel) rfl⟩
theorem csX8_269 : CS RX8 269 yJ6_bitCount_0f7a4 := ⟨in_t 744 (by decide +kernel) rfl, in_t 317 (by decide +kernel) rfl⟩
theorem flX8_43 : FL RX8 43 8 7 := ⟨RX8, TX8, cf8, by decide, by decide, in_t 188 (by decide +kernel) rfl⟩
theorem cvX8_274 : CV RX8 274 yX1_lookFrom := ⟨in_t 745 (by decide +kernel) rfl, in_t 746 (by decide +kernel) rfl, in_t 747 (by decide +kernel) rfl⟩
theorem cvX8_277 : CV RX8 277 yX1_worthOf := ⟨in_t 752 (by decide +kernel) rfl, in_t 753 (by decide +kernel) rfl, in_t 754 (by decide +kernel) rfl⟩
theorem cvX9_262 : CV RX9 262 yX9_count := ⟨in_t 1335 (by decide +kernel) rfl, in_t 1337 (by decide +kernel) rfl, in_s 59 (by decide +kernel) rfl⟩
theorem cvX9_265 : CV RX9 265 yX9_worthOf := ⟨in_t 1339 (by decide +kernel) rfl, in_t 1341 (by decide +kernel) rfl, in_s 60 (by decide +kernel) rfl⟩
theorem wcX1_56 : Cond.constantLong RX1 56 (-1) ∈ gw := in_t 778 (by decide +kernel) rfl
theorem flX1_21 : FL RX1 21 1 2 := ⟨RX1, TX1, cf1, by decide, by decide, in_t 136 (by decide +kernel) rfl⟩
theorem cvX8_280 : CV RX8 280 yX1_bestAlone := ⟨in_t 774 (by decide +kernel) rfl, in_t 775 (by decide +kernel) rfl, in_t 776 (by decide +kernel) rfl⟩
theorem wcX1_65 : Cond.constantLong RX1 65 (10) ∈ gw := in_t 791 (by decide +kernel) rfl
theorem wmX1_70 : Cond.methodLink RX1 70 Lib.MathLoose.max_long.x ∈ gw := in_t 792 (by decide +kernel) rfl
theorem wma_mxJ : Cond.static Lib.MathLoose.max_long.x ∈ gw ∧ Cond.initialized "java/lang/Math" ∈ gw ∧ Cond.code Lib.MathLoose.max_long.x Lib.MathLoose.max_long.code 4 (some .long) ∈ gw := ⟨in_t 793 (by decide +kernel) rfl, in_t 10 (by decide +kernel) rfl, in_t 794 (by decide +kernel) rfl⟩
theorem cvX1_62 : CV RX1 62 yX1_bestMoreBut := ⟨in_t 787 (by decide +kernel) rfl, in_t 789 (by decide +kernel) rfl, in_s 21 (by decide +kernel) rfl⟩
theorem cvX8_283 : CV RX8 283 yX1_bestOfTwo := ⟨in_t 783 (by decide +kernel) rfl, in_t 784 (by decide +kernel) rfl, in_t 785 (by decide +kernel) rfl⟩
theorem cvX9_269 : CV RX9 269 yX9_behind := ⟨in_t 1351 (by decide +kernel) rfl, in_t 1353 (by decide +kernel) rfl, in_s 61 (by decide +kernel) rfl⟩
theorem csX1_76 : CS RX1 76 yJ6_bitCount_0f7a4 := ⟨in_t 803 (by decide +kernel) rfl, in_t 317 (by decide +kernel) rfl⟩
theorem cvX1_82 : CV RX1 82 yX1_reaches := ⟨in_t 804 (by decide +kernel) rfl, in_t 806 (by decide +kernel) rfl, in_s 22 (by decide +kernel) rfl⟩
theorem cvX8_286 : CV RX8 286 yX1_fewestFor := ⟨in_t 799 (by decide +kernel) rfl, in_t 800 (by decide +kernel) rfl, in_t 801 (by decide +kernel) rfl⟩
theorem cvX9_273 : CV RX9 273 yX9_noTen := ⟨in_t 1359 (by decide +kernel) rfl, in_t 1361 (by decide +kernel) rfl, in_s 62 (by decide +kernel) rfl⟩
theorem wcX9_276 : Cond.constantLong RX9 276 (10) ∈ gw := in_t 1363 (by decide +kernel) rfl
theorem cvX5_170 : CV RX5 170 yX5_thingAt := ⟨in_t 820 (by decide +kernel) rfl, in_t 461 (by decide +kernel) rfl, in_t 462 (by decide +kernel) rfl⟩
theorem flX5_174 : FL RX5 174 6 0 := ⟨RX6, TX6, cf6, by decide, by decide, in_t 406 (by decide +kernel) rfl⟩
theorem flX5_175 : FL RX5 175 6 2 := ⟨RX6, TX6, cf6, by decide, by decide, in_t 412 (by decide +kernel) rfl⟩
theorem flX5_178 : FL RX5 178 6 1 := ⟨RX6, TX6, cf6, by decide, by decide, in_t 409 (by decide +kernel) rfl⟩
theorem cvX5_181 : CV RX5 181 yX5_standsOnWalk := ⟨in_t 816 (by decide +kernel) rfl, in_t 818 (by decide +kernel) rfl, in_s 23 (by decide +kernel) rfl⟩
theorem cvX5_185 : CV RX5 185 yX5_missedOfHundred := ⟨in_t 821 (by decide +kernel) rfl, in_t 823 (by decide +kernel) rfl, in_s 24 (by decide +kernel) rfl⟩
theorem cvX8_290 : CV RX8 290 yX5_safeBut := ⟨in_t 812 (by decide +kernel) rfl, in_t 813 (by decide +kernel) rfl, in_t 814 (by decide +kernel) rfl⟩
theorem cvX9_278 : CV RX9 278 yX9_onWalk := ⟨in_t 1368 (by decide +kernel) rfl, in_t 1370 (by decide +kernel) rfl, in_s 63 (by decide +kernel) rfl⟩
theorem cvX9_281 : CV RX9 281 yX9_safeOf := ⟨in_t 1372 (by decide +kernel) rfl, in_t 1374 (by decide +kernel) rfl, in_s 64 (by decide +kernel) rfl⟩
theorem wcX5_188 : Cond.constantLong RX5 188 (-1) ∈ gw := in_t 833 (by decide +kernel) rfl
theorem cvX5_190 : CV RX5 190 yX5_safeBut := ⟨in_t 834 (by decide +kernel) rfl, in_t 813 (by decide +kernel) rfl, in_t 814 (by decide +kernel) rfl⟩
theorem cvX8_294 : CV RX8 294 yX5_firstBut := ⟨in_t 829 (by decide +kernel) rfl, in_t 830 (by decide +kernel) rfl, in_t 831 (by decide +kernel) rfl⟩
theorem cvX9_284 : CV RX9 284 yX9_firstOf := ⟨in_t 1380 (by decide +kernel) rfl, in_t 1382 (by decide +kernel) rfl, in_s 65 (by decide +kernel) rfl⟩
theorem cvX5_194 : CV RX5 194 yX5_firstBut := ⟨in_t 843 (by decide +kernel) rfl, in_t 830 (by decide +kernel) rfl, in_t 831 (by decide +kernel) rfl⟩
theorem cvX8_298 : CV RX8 298 yX5_orderedAt := ⟨in_t 839 (by decide +kernel) rfl, in_t 840 (by decide +kernel) rfl, in_t 841 (by decide +kernel) rfl⟩
theorem flX8_54 : FL RX8 54 8 9 := ⟨RX8, TX8, cf8, by decide, by decide, in_t 190 (by decide +kernel) rfl⟩
theorem csX8_361 : CS RX8 361 yJ7_fill_d0a16 := ⟨in_t 852 (by decide +kernel) rfl, in_t 229 (by decide +kernel) rfl⟩
theorem cvX8_367 : CV RX8 367 yX8_driftAt := ⟨in_t 853 (by decide +kernel) rfl, in_t 855 (by decide +kernel) rfl, in_s 26 (by decide +kernel) rfl⟩
theorem cvX8_301 : CV RX8 301 yX8_driftedBy := ⟨in_t 848 (by decide +kernel) rfl, in_t 850 (by decide +kernel) rfl, in_s 25 (by decide +kernel) rfl⟩
theorem flX9_102 : FL RX9 102 9 44 := ⟨RX9, TX9, cf9, by decide, by decide, in_t 998 (by decide +kernel) rfl⟩
theorem flX9_105 : FL RX9 105 9 45 := ⟨RX9, TX9, cf9, by decide, by decide, in_t 999 (by decide +kernel) rfl⟩
theorem csX8_305 : CS RX8 305 yX8_knownOfHundred := ⟨in_t 861 (by decide +kernel) rfl, in_t 862 (by decide +kernel) rfl⟩
theorem cvX9_287 : CV RX9 287 yX9_learntBy := ⟨in_t 1396 (by decide +kernel) rfl, in_t 1398 (by decide +kernel) rfl, in_s 66 (by decide +kernel) rfl⟩
theorem flX8_309 : FL RX8 309 5 13 := ⟨RX5, TX5, cf5, by decide, by decide, in_t 90 (by decide +kernel) rfl⟩
theorem fpX8_309 : FP RX8 309 5 13 := ⟨RX5, TX5, cf5, by decide, by decide, in_t 90 (by decide +kernel) rfl, Or.inl rfl⟩
theorem wcX8_370 : Cond.constant RX8 370 (1103515245) ∈ gw := in_t 879 (by decide +kernel) rfl
theorem flX8_312 : FL RX8 312 5 14 := ⟨RX5, TX5, cf5, by decide, by decide, in_t 92 (by decide +kernel) rfl⟩
theorem csX8_315 : CS RX8 315 yX8_seedBehind := ⟨in_t 876 (by decide +kernel) rfl, in_t 877 (by decide +kernel) rfl⟩
theorem fpX8_312 : FP RX8 312 5 14 := ⟨RX5, TX5, cf5, by decide, by decide, in_t 92 (by decide +kernel) rfl, Or.inl rfl⟩
theorem csX8_318 : CS RX8 318 yX8_drawOf := ⟨in_t 880 (by decide +kernel) rfl, in_t 881 (by decide +kernel) rfl⟩
theorem cvX8_321 : CV RX8 321 yX5_reach := ⟨in_t 883 (by decide +kernel) rfl, in_t 665 (by decide +kernel) rfl, in_t 666 (by decide +kernel) rfl⟩
theorem wcX9_290 : Cond.constant RX9 290 (1103515245) ∈ gw := in_t 1416 (by decide +kernel) rfl
theorem cvX9_291 : CV RX9 291 yX9_draw := ⟨in_t 1412 (by decide +kernel) rfl, in_t 1414 (by decide +kernel) rfl, in_s 67 (by decide +kernel) rfl⟩
theorem ws_X8_377 : Cond.fieldLink RX8 377 "AStreetByACane" "BODIES" "[I" ∈ gw := in_t 913 (by decide +kernel) rfl
theorem csX8_371 : CS RX8 371 yX8_bodyOf := ⟨in_t 910 (by decide +kernel) rfl, in_t 911 (by decide +kernel) rfl⟩
theorem ws_X8_374 : Cond.fieldLink RX8 374 "AStreetByACane" "ABOVE" "[I" ∈ gw := in_t 915 (by decide +kernel) rfl
theorem flX7_15 : FL RX7 15 7 1 := ⟨RX7, TX7, cf7, by decide, by decide, in_t 155 (by decide +kernel) rfl⟩
theorem flX7_11 : FL RX7 11 7 0 := ⟨RX7, TX7, cf7, by decide, by decide, in_t 154 (by decide +kernel) rfl⟩
theorem csX8_380 : CS RX8 380 yX8_kindWithBody := ⟨in_t 907 (by decide +kernel) rfl, in_t 908 (by decide +kernel) rfl⟩
theorem cvX8_383 : CV RX8 383 yX7_add := ⟨in_t 916 (by decide +kernel) rfl, in_t 917 (by decide +kernel) rfl, in_t 918 (by decide +kernel) rfl⟩
theorem flX8_386 : FL RX8 386 4 0 := ⟨RX4, TX4, cf4, by decide, by decide, in_t 363 (by decide +kernel) rfl⟩
theorem csX8_327 : CS RX8 327 yX8_perform := ⟨in_t 904 (by decide +kernel) rfl, in_t 905 (by decide +kernel) rfl⟩
theorem flX8_50 : FL RX8 50 8 8 := ⟨RX8, TX8, cf8, by decide, by decide, in_t 189 (by decide +kernel) rfl⟩
theorem cvX8_324 : CV RX8 324 yX7_wipe := ⟨in_t 900 (by decide +kernel) rfl, in_t 901 (by decide +kernel) rfl, in_t 902 (by decide +kernel) rfl⟩
theorem flX9_294 : FL RX9 294 9 47 := ⟨RX9, TX9, cf9, by decide, by decide, in_t 1001 (by decide +kernel) rfl⟩
theorem flX9_108 : FL RX9 108 9 46 := ⟨RX9, TX9, cf9, by decide, by decide, in_t 1000 (by decide +kernel) rfl⟩
theorem fpX9_294 : FP RX9 294 9 47 := ⟨RX9, TX9, cf9, by decide, by decide, in_t 1001 (by decide +kernel) rfl, Or.inl rfl⟩
theorem cvX9_297 : CV RX9 297 yX9_body := ⟨in_t 1437 (by decide +kernel) rfl, in_t 1439 (by decide +kernel) rfl, in_s 69 (by decide +kernel) rfl⟩
theorem cvX9_300 : CV RX9 300 yX9_feeling := ⟨in_t 1433 (by decide +kernel) rfl, in_t 1435 (by decide +kernel) rfl, in_s 68 (by decide +kernel) rfl⟩
theorem cvX9_303 : CV RX9 303 yX9_teaching := ⟨in_t 1441 (by decide +kernel) rfl, in_t 1443 (by decide +kernel) rfl, in_s 70 (by decide +kernel) rfl⟩
theorem cvX9_306 : CV RX9 306 yX9_fading := ⟨in_t 1445 (by decide +kernel) rfl, in_t 1447 (by decide +kernel) rfl, in_s 71 (by decide +kernel) rfl⟩
theorem cvX8_331 : CV RX8 331 yX7_bodyAt := ⟨in_t 924 (by decide +kernel) rfl, in_t 925 (by decide +kernel) rfl, in_t 926 (by decide +kernel) rfl⟩
theorem flX8_25 : FL RX8 25 8 3 := ⟨RX8, TX8, cf8, by decide, by decide, in_t 184 (by decide +kernel) rfl⟩
theorem fpX9_309 : FP RX9 309 9 48 := ⟨RX9, TX9, cf9, by decide, by decide, in_t 1002 (by decide +kernel) rfl, Or.inl rfl⟩
theorem flX9_90 : FL RX9 90 9 38 := ⟨RX9, TX9, cf9, by decide, by decide, in_t 992 (by decide +kernel) rfl⟩
theorem flX9_96 : FL RX9 96 9 40 := ⟨RX9, TX9, cf9, by decide, by decide, in_t 994 (by decide +kernel) rfl⟩
theorem flX8_28 : FL RX8 28 8 4 := ⟨RX8, TX8, cf8, by decide, by decide, in_t 185 (by decide +kernel) rfl⟩
theorem flX9_309 : FL RX9 309 9 48 := ⟨RX9, TX9, cf9, by decide, by decide, in_t 1002 (by decide +kernel) rfl⟩
theorem flX8_334 : FL RX8 334 5 11 := ⟨RX5, TX5, cf5, by decide, by decide, in_t 86 (by decide +kernel) rfl⟩
theorem flX8_346 : FL RX8 346 7 1 := ⟨RX7, TX7, cf7, by decide, by decide, in_t 156 (by decide +kernel) rfl⟩
theorem cvX8_349 : CV RX8 349 yX8_refusalsOf := ⟨in_t 940 (by decide +kernel) rfl, in_t 942 (by decide +kernel) rfl, in_s 27 (by decide +kernel) rfl⟩
theorem nwL_7 : NW RL 7 8 := ⟨by decide, RX8, TX8, cf8, in_t 19 (by decide +kernel) rfl, in_t 20 (by decide +kernel) rfl, in_t 1 (by decide +kernel) rfl⟩
theorem ciL_9 : CI RL 9 yX8_init := ⟨in_t 21 (by decide +kernel) rfl, in_t 22 (by decide +kernel) rfl, rfl⟩
theorem nwL_10 : NW RL 10 9 := ⟨by decide, RX9, TX9, cf9, in_t 944 (by decide +kernel) rfl, in_t 945 (by decide +kernel) rfl, in_t 7 (by decide +kernel) rfl⟩
theorem ciL_12 : CI RL 12 yX9_init := ⟨in_t 946 (by decide +kernel) rfl, in_t 947 (by decide +kernel) rfl, rfl⟩
theorem cvL_13 : CV RL 13 yX8_row := ⟨in_t 212 (by decide +kernel) rfl, in_t 213 (by decide +kernel) rfl, in_t 214 (by decide +kernel) rfl⟩
theorem cvL_17 : CV RL 17 yX9_row := ⟨in_t 1102 (by decide +kernel) rfl, in_t 1103 (by decide +kernel) rfl, in_t 1104 (by decide +kernel) rfl⟩
theorem wcL_18 : Cond.constantLong RL 18 (4294967295) ∈ gw := in_t 1465 (by decide +kernel) rfl
theorem cvL_20 : CV RL 20 yX8_set := ⟨in_t 231 (by decide +kernel) rfl, in_t 232 (by decide +kernel) rfl, in_t 233 (by decide +kernel) rfl⟩
theorem cvL_24 : CV RL 24 yX9_set := ⟨in_t 1114 (by decide +kernel) rfl, in_t 1115 (by decide +kernel) rfl, in_t 1116 (by decide +kernel) rfl⟩
theorem cvL_25 : CV RL 25 yX8_copy := ⟨in_t 254 (by decide +kernel) rfl, in_t 255 (by decide +kernel) rfl, in_t 256 (by decide +kernel) rfl⟩
theorem cvL_29 : CV RL 29 yX9_copy := ⟨in_t 1118 (by decide +kernel) rfl, in_t 1119 (by decide +kernel) rfl, in_t 1120 (by decide +kernel) rfl⟩
theorem cvL_30 : CV RL 30 yX8_element := ⟨in_t 264 (by decide +kernel) rfl, in_t 265 (by decide +kernel) rfl, in_t 266 (by decide +kernel) rfl⟩
theorem cvL_34 : CV RL 34 yX9_element := ⟨in_t 1122 (by decide +kernel) rfl, in_t 1123 (by decide +kernel) rfl, in_t 1124 (by decide +kernel) rfl⟩
theorem cvL_35 : CV RL 35 yX8_show := ⟨in_t 272 (by decide +kernel) rfl, in_t 273 (by decide +kernel) rfl, in_t 274 (by decide +kernel) rfl⟩
theorem cvL_39 : CV RL 39 yX9_show := ⟨in_t 1126 (by decide +kernel) rfl, in_t 1127 (by decide +kernel) rfl, in_t 1128 (by decide +kernel) rfl⟩
theorem cvL_40 : CV RL 40 yX8_holds := ⟨in_t 284 (by decide +kernel) rfl, in_t 285 (by decide +kernel) rfl, in_t 286 (by decide +kernel) rfl⟩
theorem cvL_44 : CV RL 44 yX9_holds := ⟨in_t 1134 (by decide +kernel) rfl, in_t 1135 (by decide +kernel) rfl, in_t 1136 (by decide +kernel) rfl⟩
theorem cvL_45 : CV RL 45 yX8_says := ⟨in_t 288 (by decide +kernel) rfl, in_t 289 (by decide +kernel) rfl, in_t 290 (by decide +kernel) rfl⟩
theorem cvL_48 : CV RL 48 yX9_says := ⟨in_t 1138 (by decide +kernel) rfl, in_t 1139 (by decide +kernel) rfl, in_t 1140 (by decide +kernel) rfl⟩
theorem cvL_49 : CV RL 49 yX8_street := ⟨in_t 325 (by decide +kernel) rfl, in_t 326 (by decide +kernel) rfl, in_t 327 (by decide +kernel) rfl⟩
theorem cvL_52 : CV RL 52 yX9_street := ⟨in_t 1146 (by decide +kernel) rfl, in_t 1147 (by decide +kernel) rfl, in_t 1148 (by decide +kernel) rfl⟩
theorem cvL_53 : CV RL 53 yX8_sign := ⟨in_t 341 (by decide +kernel) rfl, in_t 342 (by decide +kernel) rfl, in_t 343 (by decide +kernel) rfl⟩
theorem cvL_57 : CV RL 57 yX9_sign := ⟨in_t 1158 (by decide +kernel) rfl, in_t 1159 (by decide +kernel) rfl, in_t 1160 (by decide +kernel) rfl⟩
theorem cvL_58 : CV RL 58 yX8_thing := ⟨in_t 387 (by decide +kernel) rfl, in_t 388 (by decide +kernel) rfl, in_t 389 (by decide +kernel) rfl⟩
theorem cvL_62 : CV RL 62 yX9_thing := ⟨in_t 1170 (by decide +kernel) rfl, in_t 1171 (by decide +kernel) rfl, in_t 1172 (by decide +kernel) rfl⟩
theorem cvL_63 : CV RL 63 yX8_things := ⟨in_t 420 (by decide +kernel) rfl, in_t 421 (by decide +kernel) rfl, in_t 422 (by decide +kernel) rfl⟩
theorem cvL_66 : CV RL 66 yX9_things := ⟨in_t 1178 (by decide +kernel) rfl, in_t 1179 (by decide +kernel) rfl, in_t 1180 (by decide +kernel) rfl⟩
theorem cvL_67 : CV RL 67 yX8_wander := ⟨in_t 432 (by decide +kernel) rfl, in_t 433 (by decide +kernel) rfl, in_t 434 (by decide +kernel) rfl⟩
theorem cvL_70 : CV RL 70 yX9_wander := ⟨in_t 1190 (by decide +kernel) rfl, in_t 1191 (by decide +kernel) rfl, in_t 1192 (by decide +kernel) rfl⟩
theorem cvL_71 : CV RL 71 yX8_ask := ⟨in_t 436 (by decide +kernel) rfl, in_t 437 (by decide +kernel) rfl, in_t 438 (by decide +kernel) rfl⟩
theorem cvL_74 : CV RL 74 yX9_ask := ⟨in_t 1194 (by decide +kernel) rfl, in_t 1195 (by decide +kernel) rfl, in_t 1196 (by decide +kernel) rfl⟩
theorem cvL_75 : CV RL 75 yX8_signOf := ⟨in_t 452 (by decide +kernel) rfl, in_t 453 (by decide +kernel) rfl, in_t 454 (by decide +kernel) rfl⟩
theorem cvL_78 : CV RL 78 yX9_signOf := ⟨in_t 1198 (by decide +kernel) rfl, in_t 1199 (by decide +kernel) rfl, in_t 1200 (by decide +kernel) rfl⟩
theorem cvL_79 : CV RL 79 yX8_thingOf := ⟨in_t 456 (by decide +kernel) rfl, in_t 457 (by decide +kernel) rfl, in_t 458 (by decide +kernel) rfl⟩
theorem cvL_82 : CV RL 82 yX9_thingOf := ⟨in_t 1202 (by decide +kernel) rfl, in_t 1203 (by decide +kernel) rfl, in_t 1204 (by decide +kernel) rfl⟩
theorem cvL_83 : CV RL 83 yX8_clear := ⟨in_t 464 (by decide +kernel) rfl, in_t 465 (by decide +kernel) rfl, in_t 466 (by decide +kernel) rfl⟩
theorem cvL_86 : CV RL 86 yX9_clear := ⟨in_t 1206 (by decide +kernel) rfl, in_t 1207 (by decide +kernel) rfl, in_t 1208 (by decide +kernel) rfl⟩
theorem cvL_87 : CV RL 87 yX8_town := ⟨in_t 472 (by decide +kernel) rfl, in_t 473 (by decide +kernel) rfl, in_t 474 (by decide +kernel) rfl⟩
theorem cvL_90 : CV RL 90 yX9_town := ⟨in_t 1210 (by decide +kernel) rfl, in_t 1211 (by decide +kernel) rfl, in_t 1212 (by decide +kernel) rfl⟩
theorem cvL_91 : CV RL 91 yX8_fault := ⟨in_t 618 (by decide +kernel) rfl, in_t 619 (by decide +kernel) rfl, in_t 620 (by decide +kernel) rfl⟩
theorem cvL_95 : CV RL 95 yX9_fault := ⟨in_t 1258 (by decide +kernel) rfl, in_t 1259 (by decide +kernel) rfl, in_t 1260 (by decide +kernel) rfl⟩
theorem cvL_96 : CV RL 96 yX8_lost := ⟨in_t 622 (by decide +kernel) rfl, in_t 623 (by decide +kernel) rfl, in_t 624 (by decide +kernel) rfl⟩
theorem cvL_99 : CV RL 99 yX9_lost := ⟨in_t 1262 (by decide +kernel) rfl, in_t 1263 (by decide +kernel) rfl, in_t 1264 (by decide +kernel) rfl⟩
theorem cvL_100 : CV RL 100 yX8_odds := ⟨in_t 634 (by decide +kernel) rfl, in_t 635 (by decide +kernel) rfl, in_t 636 (by decide +kernel) rfl⟩
theorem cvL_104 : CV RL 104 yX9_odds := ⟨in_t 1266 (by decide +kernel) rfl, in_t 1267 (by decide +kernel) rfl, in_t 1268 (by decide +kernel) rfl⟩
theorem cvL_105 : CV RL 105 yX8_strength := ⟨in_t 646 (by decide +kernel) rfl, in_t 647 (by decide +kernel) rfl, in_t 648 (by decide +kernel) rfl⟩
theorem cvL_108 : CV RL 108 yX9_strength := ⟨in_t 1274 (by decide +kernel) rfl, in_t 1275 (by decide +kernel) rfl, in_t 1276 (by decide +kernel) rfl⟩
theorem cvL_109 : CV RL 109 yX8_step := ⟨in_t 651 (by decide +kernel) rfl, in_t 652 (by decide +kernel) rfl, in_t 653 (by decide +kernel) rfl⟩
theorem cvL_113 : CV RL 113 yX9_step := ⟨in_t 1278 (by decide +kernel) rfl, in_t 1279 (by decide +kernel) rfl, in_t 1280 (by decide +kernel) rfl⟩
theorem cvL_114 : CV RL 114 yX8_feel := ⟨in_t 683 (by decide +kernel) rfl, in_t 684 (by decide +kernel) rfl, in_t 685 (by decide +kernel) rfl⟩
theorem cvL_118 : CV RL 118 yX9_feel := ⟨in_t 1295 (by decide +kernel) rfl, in_t 1296 (by decide +kernel) rfl, in_t 1297 (by decide +kernel) rfl⟩
theorem cvL_119 : CV RL 119 yX8_where := ⟨in_t 704 (by decide +kernel) rfl, in_t 705 (by decide +kernel) rfl, in_t 706 (by decide +kernel) rfl⟩
theorem cvL_122 : CV RL 122 yX9_where := ⟨in_t 1307 (by decide +kernel) rfl, in_t 1308 (by decide +kernel) rfl, in_t 1309 (by decide +kernel) rfl⟩
theorem cvL_123 : CV RL 123 yX8_isLost := ⟨in_t 712 (by decide +kernel) rfl, in_t 713 (by decide +kernel) rfl, in_t 714 (by decide +kernel) rfl⟩
theorem cvL_126 : CV RL 126 yX9_isLost := ⟨in_t 1315 (by decide +kernel) rfl, in_t 1316 (by decide +kernel) rfl, in_t 1317 (by decide +kernel) rfl⟩
theorem cvL_127 : CV RL 127 yX8_judge := ⟨in_t 717 (by decide +kernel) rfl, in_t 718 (by decide +kernel) rfl, in_t 719 (by decide +kernel) rfl⟩
theorem cvL_130 : CV RL 130 yX9_judge := ⟨in_t 1319 (by decide +kernel) rfl, in_t 1320 (by decide +kernel) rfl, in_t 1321 (by decide +kernel) rfl⟩
theorem cvL_131 : CV RL 131 yX8_told := ⟨in_t 736 (by decide +kernel) rfl, in_t 737 (by decide +kernel) rfl, in_t 738 (by decide +kernel) rfl⟩
theorem cvL_134 : CV RL 134 yX9_told := ⟨in_t 1327 (by decide +kernel) rfl, in_t 1328 (by decide +kernel) rfl, in_t 1329 (by decide +kernel) rfl⟩
theorem cvL_135 : CV RL 135 yX8_worth := ⟨in_t 740 (by decide +kernel) rfl, in_t 741 (by decide +kernel) rfl, in_t 742 (by decide +kernel) rfl⟩
theorem cvL_138 : CV RL 138 yX9_worth := ⟨in_t 1331 (by decide +kernel) rfl, in_t 1332 (by decide +kernel) rfl, in_t 1333 (by decide +kernel) rfl⟩
theorem cvL_139 : CV RL 139 yX8_next := ⟨in_t 770 (by decide +kernel) rfl, in_t 771 (by decide +kernel) rfl, in_t 772 (by decide +kernel) rfl⟩
theorem cvL_142 : CV RL 142 yX9_next := ⟨in_t 1343 (by decide +kernel) rfl, in_t 1344 (by decide +kernel) rfl, in_t 1345 (by decide +kernel) rfl⟩
theorem cvL_143 : CV RL 143 yX8_ahead := ⟨in_t 779 (by decide +kernel) rfl, in_t 780 (by decide +kernel) rfl, in_t 781 (by decide +kernel) rfl⟩
theorem cvL_146 : CV RL 146 yX9_ahead := ⟨in_t 1347 (by decide +kernel) rfl, in_t 1348 (by decide +kernel) rfl, in_t 1349 (by decide +kernel) rfl⟩
theorem cvL_147 : CV RL 147 yX8_least := ⟨in_t 795 (by decide +kernel) rfl, in_t 796 (by decide +kernel) rfl, in_t 797 (by decide +kernel) rfl⟩
theorem cvL_150 : CV RL 150 yX9_least := ⟨in_t 1355 (by decide +kernel) rfl, in_t 1356 (by decide +kernel) rfl, in_t 1357 (by decide +kernel) rfl⟩
theorem cvL_151 : CV RL 151 yX8_safe := ⟨in_t 808 (by decide +kernel) rfl, in_t 809 (by decide +kernel) rfl, in_t 810 (by decide +kernel) rfl⟩
theorem cvL_154 : CV RL 154 yX9_safe := ⟨in_t 1364 (by decide +kernel) rfl, in_t 1365 (by decide +kernel) rfl, in_t 1366 (by decide +kernel) rfl⟩
theorem cvL_155 : CV RL 155 yX8_first := ⟨in_t 825 (by decide +kernel) rfl, in_t 826 (by decide +kernel) rfl, in_t 827 (by decide +kernel) rfl⟩
theorem cvL_158 : CV RL 158 yX9_first := ⟨in_t 1376 (by decide +kernel) rfl, in_t 1377 (by decide +kernel) rfl, in_t 1378 (by decide +kernel) rfl⟩
theorem cvL_159 : CV RL 159 yX8_order := ⟨in_t 835 (by decide +kernel) rfl, in_t 836 (by decide +kernel) rfl, in_t 837 (by decide +kernel) rfl⟩
theorem cvL_162 : CV RL 162 yX9_order := ⟨in_t 1384 (by decide +kernel) rfl, in_t 1385 (by decide +kernel) rfl, in_t 1386 (by decide +kernel) rfl⟩
theorem cvL_163 : CV RL 163 yX8_over := ⟨in_t 844 (by decide +kernel) rfl, in_t 845 (by decide +kernel) rfl, in_t 846 (by decide +kernel) rfl⟩
theorem cvL_166 : CV RL 166 yX9_over := ⟨in_t 1388 (by decide +kernel) rfl, in_t 1389 (by decide +kernel) rfl, in_t 1390 (by decide +kernel) rfl⟩
theorem cvL_167 : CV RL 167 yX8_learnt := ⟨in_t 857 (by decide +kernel) rfl, in_t 858 (by decide +kernel) rfl, in_t 859 (by decide +kernel) rfl⟩
theorem cvL_170 : CV RL 170 yX9_learnt := ⟨in_t 1392 (by decide +kernel) rfl, in_t 1393 (by decide +kernel) rfl, in_t 1394 (by decide +kernel) rfl⟩
theorem cvL_171 : CV RL 171 yX8_goings := ⟨in_t 864 (by decide +kernel) rfl, in_t 865 (by decide +kernel) rfl, in_t 866 (by decide +kernel) rfl⟩
theorem cvL_174 : CV RL 174 yX9_goings := ⟨in_t 1400 (by decide +kernel) rfl, in_t 1401 (by decide +kernel) rfl, in_t 1402 (by decide +kernel) rfl⟩
theorem cvL_175 : CV RL 175 yX8_begin := ⟨in_t 868 (by decide +kernel) rfl, in_t 869 (by decide +kernel) rfl, in_t 870 (by decide +kernel) rfl⟩
theorem cvL_178 : CV RL 178 yX9_begin := ⟨in_t 1404 (by decide +kernel) rfl, in_t 1405 (by decide +kernel) rfl, in_t 1406 (by decide +kernel) rfl⟩
theorem cvL_179 : CV RL 179 yX8_goes := ⟨in_t 872 (by decide +kernel) rfl, in_t 873 (by decide +kernel) rfl, in_t 874 (by decide +kernel) rfl⟩
theorem cvL_182 : CV RL 182 yX9_goes := ⟨in_t 1408 (by decide +kernel) rfl, in_t 1409 (by decide +kernel) rfl, in_t 1410 (by decide +kernel) rfl⟩
theorem cvL_183 : CV RL 183 yX8_looks := ⟨in_t 884 (by decide +kernel) rfl, in_t 885 (by decide +kernel) rfl, in_t 886 (by decide +kernel) rfl⟩
theorem cvL_186 : CV RL 186 yX9_looks := ⟨in_t 1417 (by decide +kernel) rfl, in_t 1418 (by decide +kernel) rfl, in_t 1419 (by decide +kernel) rfl⟩
theorem cvL_187 : CV RL 187 yX8_right := ⟨in_t 888 (by decide +kernel) rfl, in_t 889 (by decide +kernel) rfl, in_t 890 (by decide +kernel) rfl⟩
theorem cvL_190 : CV RL 190 yX9_right := ⟨in_t 1421 (by decide +kernel) rfl, in_t 1422 (by decide +kernel) rfl, in_t 1423 (by decide +kernel) rfl⟩
theorem cvL_191 : CV RL 191 yX8_seed := ⟨in_t 892 (by decide +kernel) rfl, in_t 893 (by decide +kernel) rfl, in_t 894 (by decide +kernel) rfl⟩
theorem cvL_194 : CV RL 194 yX9_seed := ⟨in_t 1425 (by decide +kernel) rfl, in_t 1426 (by decide +kernel) rfl, in_t 1427 (by decide +kernel) rfl⟩
theorem cvL_195 : CV RL 195 yX8_act := ⟨in_t 896 (by decide +kernel) rfl, in_t 897 (by decide +kernel) rfl, in_t 898 (by decide +kernel) rfl⟩
theorem cvL_198 : CV RL 198 yX9_act := ⟨in_t 1429 (by decide +kernel) rfl, in_t 1430 (by decide +kernel) rfl, in_t 1431 (by decide +kernel) rfl⟩
theorem cvL_199 : CV RL 199 yX8_trace := ⟨in_t 920 (by decide +kernel) rfl, in_t 921 (by decide +kernel) rfl, in_t 922 (by decide +kernel) rfl⟩
theorem cvL_202 : CV RL 202 yX9_trace := ⟨in_t 1449 (by decide +kernel) rfl, in_t 1450 (by decide +kernel) rfl, in_t 1451 (by decide +kernel) rfl⟩
theorem cvL_203 : CV RL 203 yX8_image := ⟨in_t 928 (by decide +kernel) rfl, in_t 929 (by decide +kernel) rfl, in_t 930 (by decide +kernel) rfl⟩
theorem cvL_206 : CV RL 206 yX9_image := ⟨in_t 1453 (by decide +kernel) rfl, in_t 1454 (by decide +kernel) rfl, in_t 1455 (by decide +kernel) rfl⟩
theorem cvL_207 : CV RL 207 yX8_restore := ⟨in_t 932 (by decide +kernel) rfl, in_t 933 (by decide +kernel) rfl, in_t 934 (by decide +kernel) rfl⟩
theorem cvL_210 : CV RL 210 yX9_restore := ⟨in_t 1457 (by decide +kernel) rfl, in_t 1458 (by decide +kernel) rfl, in_t 1459 (by decide +kernel) rfl⟩
theorem cvL_211 : CV RL 211 yX8_status := ⟨in_t 936 (by decide +kernel) rfl, in_t 937 (by decide +kernel) rfl, in_t 938 (by decide +kernel) rfl⟩
theorem cvL_214 : CV RL 214 yX9_status := ⟨in_t 1461 (by decide +kernel) rfl, in_t 1462 (by decide +kernel) rfl, in_t 1463 (by decide +kernel) rfl⟩
theorem wob1 : Cond.instanceMethod objectInit ∈ gw := in_t 25 (by decide +kernel) rfl
theorem wob2 : Cond.code objectInit ⟨#[0xb1]⟩ 1 none ∈ gw := in_t 26 (by decide +kernel) rfl
theorem wac0 : Cond.arrayClass .int ∈ gw := in_t 147 (by decide +kernel) rfl
theorem wac1 : Cond.arrayClass .long ∈ gw := in_t 52 (by decide +kernel) rfl
theorem re22 : RE 2 3 := ⟨by decide, by decide, by decide, fun Γ => ⟨RX3, TX3, nF 3, rfl, rfl⟩⟩
theorem re23 : RE 3 4 := ⟨by decide, by decide, by decide, fun Γ => ⟨RX4, TX4, nF 4, rfl, rfl⟩⟩
theorem re24 : RE 4 6 := ⟨by decide, by decide, by decide, fun Γ => ⟨RX6, TX6, nF 6, rfl, rfl⟩⟩
theorem ov22 : ∀ (Γ : Gx) (U : State), gVF Γ U → va_AO "AStreetByACane$Shelf" U := fun _ _ h => h.2.2.2.1.1
theorem ov23 : ∀ (Γ : Gx) (U : State), gVF Γ U → va_AO "AStreetByACane$Sign" U := fun _ _ h => h.2.2.2.1.2.1
theorem ov24 : ∀ (Γ : Gx) (U : State), gVF Γ U → va_AO "AStreetByACane$Thing" U := fun _ _ h => h.2.2.2.1.2.2.1
