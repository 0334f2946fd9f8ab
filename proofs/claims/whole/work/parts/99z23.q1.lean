/-! the start: what the machine holds at the law's entry -/
def mS (L : Nat) (xs : Nat → Int32) (fm : Option Nat) : Mm := (20, 0, (fun o => if o = 0 then (30, L) else if o = 1 then (30, 7) else if o = 2 then (30, 21) else if o < 10 then (if 3 ≤ o then (32, 0) else (0, 0)) else if o < 17 then (31, wln (o - 10)) else (0, 0)),
  (fun o j => if o = 0 then xs j else if o = 1 then [-1, 0, 0, 2, 1, 0, 1].getD j 0 else if o = 2 then nI (BT.getD j 0) else if 10 ≤ o ∧ o < 17 then nI (wc (wst (o - 10) + j)) else 0), (fun _ _ => 0), (fun o _ => if o = 18 then fm else none))
theorem mS_scr {L : Nat} (hL : L ≤ 3072) (xs : Nat → Int32) (fm : Option Nat) : SCR (mS L xs fm) L := by
  refine ⟨fun o ho => ?_, ⟨rfl, ?_, rfl, rfl, rfl, rfl, rfl, rfl⟩, ⟨rfl, fun j _ => rfl⟩, fun k hk => ⟨?_, ?_, fun x hx => ?_⟩, rfl, hL⟩
  · have : o = 0 ∨ o = 1 ∨ o = 2 ∨ o = 3 ∨ o = 4 ∨ o = 5 ∨ o = 6 ∨ o = 7 ∨ o = 8 ∨ o = 9 ∨ o = 10 ∨ o = 11 ∨ o = 12 ∨ o = 13 ∨ o = 14 ∨ o = 15 ∨ o = 16 ∨ o = 17 ∨ o = 18 ∨ o = 19 := by omega
    rcases this with rfl | rfl | rfl | rfl | rfl | rfl | rfl | rfl | rfl | rfl | rfl | rfl | rfl | rfl | rfl | rfl | rfl | rfl | rfl | rfl
    all_goals first | exact Or.inl rfl | exact Or.inr (Nat.le_refl 30) | exact Or.inr (show 30 ≤ 31 by decide) | exact Or.inr (show 30 ≤ 32 by decide)
  · show (-1 : Int32) = -nI 1
    decide
  · show (if 3 + k = 0 then (30, L) else if 3 + k = 1 then (30, 7) else if 3 + k = 2 then (30, 21) else if 3 + k < 10 then (if 3 ≤ 3 + k then (32, 0) else (0, 0)) else if 3 + k < 17 then (31, wln (3 + k - 10)) else (0, 0) : Nat × Nat).1 = 32
    rw [if_neg (by omega), if_neg (by omega), if_neg (by omega), if_pos (by omega), if_pos (by omega)]
  · show (if 10 + k = 0 then (30, L) else if 10 + k = 1 then (30, 7) else if 10 + k = 2 then (30, 21) else if 10 + k < 10 then (if 3 ≤ 10 + k then (32, 0) else (0, 0)) else if 10 + k < 17 then (31, wln (10 + k - 10)) else (0, 0) : Nat × Nat) = _
    rw [if_neg (by omega), if_neg (by omega), if_neg (by omega), if_neg (by omega), if_pos (by omega), show 10 + k - 10 = k by omega]
  · show (if 10 + k = 0 then xs x else if 10 + k = 1 then [-1, 0, 0, 2, 1, 0, 1].getD x 0 else if 10 + k = 2 then nI (BT.getD x 0) else if 10 ≤ 10 + k ∧ 10 + k < 17 then nI (wc (wst (10 + k - 10) + x)) else 0) = _
    rw [if_neg (by omega), if_neg (by omega), if_neg (by omega), if_pos (by omega), show 10 + k - 10 = k by omega]
theorem u_all {s : State} {b : Nat} (hts : ∀ w ∈ lw_tbl, w.before #[Value.ref b] s = true) : ∃ D : va_G, ∀ (c : Nat) (q : vw_C), vwCl[c]? = some q → u_Kn s q.1 q.2.1 q.2.2 (D.1 c) (D.2 c) := by
  have g : ∀ w ∈ gw, w.before #[Value.ref b] s = true := fun w hw => hts w (List.mem_filter.mp hw).1
  obtain ⟨c0, i0, k0⟩ := u_known g cf0.2.1 (hts (.instantiable RX0 2) (by decide +kernel))
  obtain ⟨c1, i1, k1⟩ := u_known g cf1.2.1 (hts (.instantiable RX1 4) (by decide +kernel))
  obtain ⟨c2, i2, k2⟩ := u_known g cf2.2.1 (hts (.instantiable RX2 5) (by decide +kernel))
  obtain ⟨c3, i3, k3⟩ := u_known g cf3.2.1 (hts (.instantiable RX3 3) (by decide +kernel))
  obtain ⟨c4, i4, k4⟩ := u_known g cf4.2.1 (hts (.instantiable RX4 5) (by decide +kernel))
  obtain ⟨c5, i5, k5⟩ := u_known g cf5.2.1 (hts (.instantiable RX5 15) (by decide +kernel))
  obtain ⟨c6, i6, k6⟩ := u_known g cf6.2.1 (hts (.instantiable RX6 3) (by decide +kernel))
  obtain ⟨c7, i7, k7⟩ := u_known g cf7.2.1 (hts (.instantiable RX7 2) (by decide +kernel))
  obtain ⟨c8, i8, k8⟩ := u_known g cf8.2.1 (hts (.instantiable RX8 10) (by decide +kernel))
  obtain ⟨c9, i9, k9⟩ := u_known g cf9.2.1 (hts (.instantiable RX9 49) (by decide +kernel))
  refine ⟨(fun c => [c0, c1, c2, c3, c4, c5, c6, c7, c8, c9].getD c c0, fun c => [i0, i1, i2, i3, i4, i5, i6, i7, i8, i9].getD c i0), fun c q hq => ?_⟩
  match c, hq with
  | 0, hq => cases hq; exact k0
  | 1, hq => cases hq; exact k1
  | 2, hq => cases hq; exact k2
  | 3, hq => cases hq; exact k3
  | 4, hq => cases hq; exact k4
  | 5, hq => cases hq; exact k5
  | 6, hq => cases hq; exact k6
  | 7, hq => cases hq; exact k7
  | 8, hq => cases hq; exact k8
  | 9, hq => cases hq; exact k9
  | c + 10, hq => simp [vwCl] at hq
theorem a_all {s : State} {b : Nat} (hts : ∀ w ∈ lw_tbl, w.before #[Value.ref b] s = true) : ∃ a0 a1 a2 a3 a4 a5 a6 : ClassId, ∀ (k : Nat) (q : ClassId × FieldType), ([(a0, .int), (a1, .long), (a2, .object RX3), (a3, .object RX4), (a4, .object RX6), (a5, .array .int), (a6, .array .long)] : List (ClassId × FieldType))[k]? = some q → ArrOfT s q.1 q.2 ∧ va_RA s q.1 q.2 := by
  obtain ⟨a0, k0, p0, x0, y0, z0⟩ := Cond.arrayClass_spec (hts (.arrayClass .int) (by decide +kernel))
  obtain ⟨a1, k1, p1, x1, y1, z1⟩ := Cond.arrayClass_spec (hts (.arrayClass .long) (by decide +kernel))
  obtain ⟨p2, a2, k2, x2, -, y2, z2, w2⟩ := Cond.arrayOver_spec (hts (.arrayOver (.object RX3)) (by decide +kernel))
  obtain ⟨p3, a3, k3, x3, -, y3, z3, w3⟩ := Cond.arrayOver_spec (hts (.arrayOver (.object RX4)) (by decide +kernel))
  obtain ⟨p4, a4, k4, x4, -, y4, z4, w4⟩ := Cond.arrayOver_spec (hts (.arrayOver (.object RX6)) (by decide +kernel))
  obtain ⟨p5, a5, k5, x5, -, y5, z5, w5⟩ := Jvm.Stand.arrayOver_specB (hts (.arrayOver (.array .int)) (by decide +kernel))
  obtain ⟨p6, a6, k6, x6, -, y6, z6, w6⟩ := Jvm.Stand.arrayOver_specB (hts (.arrayOver (.array .long)) (by decide +kernel))
  refine ⟨a0, a1, a2, a3, a4, a5, a6, fun k q hq => ?_⟩
  match k, hq with
  | 0, hq => cases hq; exact ⟨fun n z => ⟨fun k h => (by cases h), k0, y0, p0, z0⟩, x0⟩
  | 1, hq => cases hq; exact ⟨fun n z => ⟨fun k h => (by cases h), k1, y1, p1, z1⟩, x1⟩
  | 2, hq => cases hq; exact ⟨fun n z => ⟨fun k h => (by cases h), k2, y2, p2, z2⟩, k2, p2, y2, z2, x2, w2⟩
  | 3, hq => cases hq; exact ⟨fun n z => ⟨fun k h => (by cases h), k3, y3, p3, z3⟩, k3, p3, y3, z3, x3, w3⟩
  | 4, hq => cases hq; exact ⟨fun n z => ⟨fun k h => (by cases h), k4, y4, p4, z4⟩, k4, p4, y4, z4, x4, w4⟩
  | 5, hq => cases hq; exact ⟨fun n z => ⟨fun k h => (by cases h), k5, y5, p5, z5⟩, w5⟩
  | 6, hq => cases hq; exact ⟨fun n z => ⟨fun k h => (by cases h), k6, y6, p6, z6⟩, w6⟩
  | k + 7, hq => simp at hq
