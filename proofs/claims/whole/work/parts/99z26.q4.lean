/-! whole_start (written by q4.py) -/
theorem va_Tcg {ty : FieldType} {t N N2 : Nat} {f g : Nat → Value} {A : Nat → Prop} {U : State} {H : Heap} (h : va_T ty t N f A U H) (hN : N = N2) (e : ∀ j, j < N → f j = g j) : va_T ty t N2 g A U H := by
  subst hN
  obtain ⟨cell, h1, h2, h3, h4, h5, h6, h7⟩ := h
  exact ⟨cell, h1, h2, h3, h4, h5, fun j hj => by rw [h6 j hj, e j hj], h7⟩
theorem strEq : ∀ k, k < 7 → strL.getD k 0 = wln k ∧ ∀ j, j < strL.getD k 0 → (strB.getD k []).getD j 0 = nI (wc (wst k + j)) := by decide
theorem abEq : ∀ j, j < 21 → ([10, 11, 12, 20, 0, 0, 0, 0, 50, 0, 0, 60, 0, 30, 0, 70, 71, 0, 0, 40, 41] : List Int32).getD j 0 = nI (BT.getD j 0) := by decide
def gO0 (b t1 t2 : Nat) (adK adV : Nat → Nat) (tf : Nat) : Nat → Nat := fun o => if o = 0 then b else if o = 1 then t1 else if o = 2 then t2 else if o < 10 then adK (o - 3) else if o < 17 then adV (o - 10) else if o = 17 then tf else 0
theorem start0 {p : Program} {s : State} {m : MethodId} {meth : Method} {c : Code} {b L : Nat} {xs : Nat → Int32} (hL : L ≤ 3072) (C0 : lw_At p s m meth c b L xs) : ∃ (Γ : Gx) (fm : Option Nat), gB Γ = s.heap.size ∧ gO Γ 0 = b ∧ gM Γ = mS L xs fm ∧ gVF Γ s ∧ mRep Γ (mS L xs fm) s.heap := by
  obtain ⟨hx, hb, hr, hml, hown, hts, hX, hbl, hlocks, hgv⟩ := id C0
  have hs := flat_of_before _ hgv
  obtain ⟨D, hD⟩ := u_all hts
  obtain ⟨a0, a1, a2, a3, a4, a5, a6, hA⟩ := a_all hts
  have hAA : ∀ a : Nat, a < s.heap.size → ¬ (fun q : Nat => s.heap.size ≤ q) a := fun a h => Nat.not_le.mpr h
  obtain ⟨t1, e1, v1⟩ := stA hs _ hAA
  obtain ⟨t2, e2, v2⟩ := stB hs _ hAA
  obtain ⟨adK, adV, ⟨k1, -⟩, k2⟩ := stS hs _ hAA
  have z1 := va_Zref (hts (.laysStatic "AStreetByACane" "ABOVE" "[I") (by decide +kernel)) (hts (.initialized "AStreetByACane") (by decide +kernel)) e1 hAA
  have z2 := va_Zref (hts (.laysStatic "AStreetByACane" "BODIES" "[I") (by decide +kernel)) (hts (.initialized "AStreetByACane") (by decide +kernel)) e2 hAA
  have z3 := va_Zof (hts (.laysStatic "java/lang/String" "COMPACT_STRINGS" "Z") (by decide +kernel)) (hts (.initialized "java/lang/String") (by decide +kernel)) (va_eqi (hs (.eq (.static "java/lang/String" "COMPACT_STRINGS" "Z") (.int 1)) (by decide +kernel))) hAA
  have z4 := va_Zqof (hts (.laysStatic "jdk/internal/util/Preconditions" "SIOOBE_FORMATTER" "Ljava/util/function/BiFunction;") (by decide +kernel)) (hts (.initialized "jdk/internal/util/Preconditions") (by decide +kernel)) (hs (.isRef (.static "jdk/internal/util/Preconditions" "SIOOBE_FORMATTER" "Ljava/util/function/BiFunction;")) (by decide +kernel)) hAA
  obtain ⟨fm, tf, hf⟩ : ∃ (fm : Option Nat) (tf : Nat), ∀ adX : Nat → Nat, adX 17 = tf → va_Z "jdk/internal/util/Preconditions" "SIOOBE_FORMATTER" "Ljava/util/function/BiFunction;" (va_rf (fm.map adX)) (fun q : Nat => s.heap.size ≤ q) s s.heap := by
    rcases z4 with z | ⟨t, z⟩
    · exact ⟨none, 0, fun _ _ => z⟩
    · exact ⟨some 17, t, fun adX h => by show va_Z _ _ _ (.ref (adX 17)) _ _ _; rw [h]; exact z⟩
  obtain ⟨scr, x1, x2, x3, x4, x5⟩ := hX
  have v0 : va_T .int b L (fun j => .int (xs j)) (fun q : Nat => s.heap.size ≤ q) s s.heap := ⟨scr, x1, x2, x3, Nat.le_of_eq x4.symm, by rw [x4], x5, hAA b hbl⟩
  have hSC := mS_scr hL xs fm
  obtain ⟨Γ, hΓ⟩ : ∃ Γ : Gx, Γ = (s.heap.size, gO0 b t1 t2 adK adV tf, D, (fun k => [a0, a1, a2, a3, a4, a5, a6].getD (k - 20) a0), mS L xs fm) := ⟨_, rfl⟩
  have bts : ∀ k, k < 7 → va_T .byte (adV k) (wln k) (fun j => .int (nI (wc (wst k + j)))) (fun q : Nat => s.heap.size ≤ q) s s.heap := fun k hk => va_Tcg (k1 k hk).2.2.2 (strEq k hk).1 (fun j hj => by rw [(strEq k hk).2 j hj])
  have v2b : va_T .int t2 21 (fun j => .int (nI (BT.getD j 0))) (fun q : Nat => s.heap.size ≤ q) s s.heap := va_Tcg v2 rfl (fun j hj => by rw [abEq j hj])
  refine ⟨Γ, fm, by rw [hΓ]; rfl, by rw [hΓ]; rfl, by rw [hΓ]; rfl, ?_, ?_⟩
  · subst hΓ
    refine ⟨⟨hD, fun k q hk => hA k q hk⟩, fun w hw => ?_, va_Nw.of rfl (hts gNF (by decide +kernel)), ⟨hts (.arrayOver (.object RX3)) (by decide +kernel), hts (.arrayOver (.object RX4)) (by decide +kernel), hts (.arrayOver (.object RX6)) (by decide +kernel), hts (.arrayOver (.array .int)) (by decide +kernel), hts (.arrayOver (.array .long)) (by decide +kernel)⟩, fun q hq => ?_, fun o ho hk => ?_, fun o ho hk => ?_, fun o ho hk => ?_, fun q hq => ?_⟩
    · simp only [gN, List.mem_cons, List.not_mem_nil, or_false] at hw
      rcases hw with rfl | rfl | rfl | rfl
      · exact va_Nw.of rfl (hts _ (by decide +kernel))
      · exact va_Nw.of rfl (hts _ (by decide +kernel))
      · exact va_Nw.of rfl (hts _ (by decide +kernel))
      · exact va_Nw.of rfl (hts _ (by decide +kernel))
    · simp only [gLd, List.mem_cons, List.not_mem_nil, or_false] at hq
      rcases hq with rfl | rfl | rfl | rfl | rfl | rfl | rfl
      · exact vk_R.of (hts (.stringRef "AStreetByACane$Reader" 82 "long") (by decide +kernel)) (k2 0 (by decide))
      · exact vk_R.of (hts (.stringRef "AStreetByACane$Reader" 84 "sign") (by decide +kernel)) (k2 1 (by decide))
      · exact vk_R.of (hts (.stringRef "AStreetByACane$Reader" 86 "thing") (by decide +kernel)) (k2 2 (by decide))
      · exact vk_R.of (hts (.stringRef "AStreetByACane$Reader" 88 "wander") (by decide +kernel)) (k2 3 (by decide))
      · exact vk_R.of (hts (.stringRef "AStreetByACane$Reader" 90 "arc") (by decide +kernel)) (k2 4 (by decide))
      · exact vk_R.of (hts (.stringRef "AStreetByACane$Reader" 91 "hour") (by decide +kernel)) (k2 5 (by decide))
      · exact vk_R.of (hts (.stringRef "AStreetByACane$Reader" 92 "") (by decide +kernel)) (k2 6 (by decide))
    · have : o = 0 ∨ o = 1 ∨ o = 2 ∨ o = 3 ∨ o = 4 ∨ o = 5 ∨ o = 6 ∨ o = 7 ∨ o = 8 ∨ o = 9 ∨ o = 10 ∨ o = 11 ∨ o = 12 ∨ o = 13 ∨ o = 14 ∨ o = 15 ∨ o = 16 ∨ o = 17 ∨ o = 18 ∨ o = 19 := by omega
      rcases this with rfl | rfl | rfl | rfl | rfl | rfl | rfl | rfl | rfl | rfl | rfl | rfl | rfl | rfl | rfl | rfl | rfl | rfl | rfl | rfl
      · exact v0
      · exact v1
      · exact v2b
      · exact absurd (show (32 : Nat) = 30 from hk) (by decide)
      · exact absurd (show (32 : Nat) = 30 from hk) (by decide)
      · exact absurd (show (32 : Nat) = 30 from hk) (by decide)
      · exact absurd (show (32 : Nat) = 30 from hk) (by decide)
      · exact absurd (show (32 : Nat) = 30 from hk) (by decide)
      · exact absurd (show (32 : Nat) = 30 from hk) (by decide)
      · exact absurd (show (32 : Nat) = 30 from hk) (by decide)
      · exact absurd (show (31 : Nat) = 30 from hk) (by decide)
      · exact absurd (show (31 : Nat) = 30 from hk) (by decide)
      · exact absurd (show (31 : Nat) = 30 from hk) (by decide)
      · exact absurd (show (31 : Nat) = 30 from hk) (by decide)
      · exact absurd (show (31 : Nat) = 30 from hk) (by decide)
      · exact absurd (show (31 : Nat) = 30 from hk) (by decide)
      · exact absurd (show (31 : Nat) = 30 from hk) (by decide)
      · exact absurd (show (0 : Nat) = 30 from hk) (by decide)
      · exact absurd (show (0 : Nat) = 30 from hk) (by decide)
      · exact absurd (show (0 : Nat) = 30 from hk) (by decide)
    · have : o = 0 ∨ o = 1 ∨ o = 2 ∨ o = 3 ∨ o = 4 ∨ o = 5 ∨ o = 6 ∨ o = 7 ∨ o = 8 ∨ o = 9 ∨ o = 10 ∨ o = 11 ∨ o = 12 ∨ o = 13 ∨ o = 14 ∨ o = 15 ∨ o = 16 ∨ o = 17 ∨ o = 18 ∨ o = 19 := by omega
      rcases this with rfl | rfl | rfl | rfl | rfl | rfl | rfl | rfl | rfl | rfl | rfl | rfl | rfl | rfl | rfl | rfl | rfl | rfl | rfl | rfl
      · exact absurd (show (30 : Nat) = 31 from hk) (by decide)
      · exact absurd (show (30 : Nat) = 31 from hk) (by decide)
      · exact absurd (show (30 : Nat) = 31 from hk) (by decide)
      · exact absurd (show (32 : Nat) = 31 from hk) (by decide)
      · exact absurd (show (32 : Nat) = 31 from hk) (by decide)
      · exact absurd (show (32 : Nat) = 31 from hk) (by decide)
      · exact absurd (show (32 : Nat) = 31 from hk) (by decide)
      · exact absurd (show (32 : Nat) = 31 from hk) (by decide)
      · exact absurd (show (32 : Nat) = 31 from hk) (by decide)
      · exact absurd (show (32 : Nat) = 31 from hk) (by decide)
      · exact bts 0 (by decide)
      · exact bts 1 (by decide)
      · exact bts 2 (by decide)
      · exact bts 3 (by decide)
      · exact bts 4 (by decide)
      · exact bts 5 (by decide)
      · exact bts 6 (by decide)
      · exact absurd (show (0 : Nat) = 31 from hk) (by decide)
      · exact absurd (show (0 : Nat) = 31 from hk) (by decide)
      · exact absurd (show (0 : Nat) = 31 from hk) (by decide)
    · have : o = 0 ∨ o = 1 ∨ o = 2 ∨ o = 3 ∨ o = 4 ∨ o = 5 ∨ o = 6 ∨ o = 7 ∨ o = 8 ∨ o = 9 ∨ o = 10 ∨ o = 11 ∨ o = 12 ∨ o = 13 ∨ o = 14 ∨ o = 15 ∨ o = 16 ∨ o = 17 ∨ o = 18 ∨ o = 19 := by omega
      rcases this with rfl | rfl | rfl | rfl | rfl | rfl | rfl | rfl | rfl | rfl | rfl | rfl | rfl | rfl | rfl | rfl | rfl | rfl | rfl | rfl
      · exact absurd (show (30 : Nat) = 32 from hk) (by decide)
      · exact absurd (show (30 : Nat) = 32 from hk) (by decide)
      · exact absurd (show (30 : Nat) = 32 from hk) (by decide)
      · exact ⟨(k1 0 (by decide)).1, (k1 0 (by decide)).2.1, (k1 0 (by decide)).2.2.1, by decide⟩
      · exact ⟨(k1 1 (by decide)).1, (k1 1 (by decide)).2.1, (k1 1 (by decide)).2.2.1, by decide⟩
      · exact ⟨(k1 2 (by decide)).1, (k1 2 (by decide)).2.1, (k1 2 (by decide)).2.2.1, by decide⟩
      · exact ⟨(k1 3 (by decide)).1, (k1 3 (by decide)).2.1, (k1 3 (by decide)).2.2.1, by decide⟩
      · exact ⟨(k1 4 (by decide)).1, (k1 4 (by decide)).2.1, (k1 4 (by decide)).2.2.1, by decide⟩
      · exact ⟨(k1 5 (by decide)).1, (k1 5 (by decide)).2.1, (k1 5 (by decide)).2.2.1, by decide⟩
      · exact ⟨(k1 6 (by decide)).1, (k1 6 (by decide)).2.1, (k1 6 (by decide)).2.2.1, by decide⟩
      · exact absurd (show (31 : Nat) = 32 from hk) (by decide)
      · exact absurd (show (31 : Nat) = 32 from hk) (by decide)
      · exact absurd (show (31 : Nat) = 32 from hk) (by decide)
      · exact absurd (show (31 : Nat) = 32 from hk) (by decide)
      · exact absurd (show (31 : Nat) = 32 from hk) (by decide)
      · exact absurd (show (31 : Nat) = 32 from hk) (by decide)
      · exact absurd (show (31 : Nat) = 32 from hk) (by decide)
      · exact absurd (show (0 : Nat) = 32 from hk) (by decide)
      · exact absurd (show (0 : Nat) = 32 from hk) (by decide)
      · exact absurd (show (0 : Nat) = 32 from hk) (by decide)
    · simp only [gSt, List.mem_cons, List.not_mem_nil, or_false] at hq
      rcases hq with rfl | rfl | rfl | rfl
      · exact z1
      · exact z2
      · exact z3
      · have := hf (ad (s.heap.size, gO0 b t1 t2 adK adV tf, D, (fun k => [a0, a1, a2, a3, a4, a5, a6].getD (k - 20) a0), mS L xs fm)) rfl
        dsimp only
        rw [tv_rv]
        exact this
  · subst hΓ
    refine ⟨⟨rfl, Nat.le_refl 20⟩, fun o h1 h2 => absurd (show o < 20 from h2) (by omega), fun o ho => ?_, fun o ho => ⟨⟨rfl, rfl, rfl⟩, hSC.1 o ho⟩, fun o ho => ?_⟩
    · show (if o = 0 then (30, L) else if o = 1 then (30, 7) else if o = 2 then (30, 21) else if o < 10 then (if 3 ≤ o then (32, 0) else (0, 0)) else if o < 17 then (31, wln (o - 10)) else (0, 0) : Nat × Nat) = _
      have ho2 : 20 ≤ o := ho
      rw [if_neg (by omega), if_neg (by omega), if_neg (by omega), if_neg (by omega), if_neg (by omega)]
    · show (if o = 0 then (30, L) else if o = 1 then (30, 7) else if o = 2 then (30, 21) else if o < 10 then (if 3 ≤ o then (32, 0) else (0, 0)) else if o < 17 then (31, wln (o - 10)) else (0, 0) : Nat × Nat).1 < 30
      rw [if_neg (by omega), if_neg (by omega), if_neg (by omega), if_neg (by omega), if_neg (by omega)]
      decide
/-- from the entry, for every script of at most 3072 ints, the law comes to its end with true -/
theorem whole_start {p : Program} {e : Env} {s : State} {m : MethodId} {below : List Frame} {meth : Method} {c : Code} (l : Launch) (hflags : l.flags = flags0) {b L : Nat} {xs : Nat → Int32} (hL : L ≤ 3072) (C0 : lw_At p s m meth c b L xs) (hname : meth.name = yL_law.name) : W p l e room_1 s m #[Value.ref b] below meth c s.heap [] 0 0 (lw_Z below #[Value.ref b] s) (entryFrame m ([Value.ref b] : List Value).toArray 4) := by
  obtain ⟨hx, hb, hr, hml, hown, hts, hX, hbl, hlocks, hgv⟩ := id C0
  obtain ⟨Γ, fm, hB, hO, hG, hV, hRep⟩ := start0 hL C0
  obtain ⟨M1, ee, t, w⟩ := lawL (M0 := mS L xs fm) rfl (mS_scr hL xs fm)
  have hW0 : mW (mS L xs fm) = 0 := rfl
  have A := wL_law (l := l) (Γ := Γ) (t0 := 20) (w0 := 0) ee
  have hl := lv_entry ([.ref b]) (n := 4) (Nat.le_of_ble_eq_true rfl)
  rw [lg_entry_eq]
  have hl2 : lv_has (lg_sl ([.ref b]) ++ List.replicate (4 - (lg_sl ([.ref b])).length) Slot.unset).toArray 4 (tl Γ [(0, .ref 0)]) := by
    show lv_has _ 4 [(0, .ref (ad Γ 0))]
    rw [show ad Γ 0 = b from hO]
    exact hl
  have R := A.2 p e room_1 s m #[Value.ref b] below meth c s.heap [] 0 0 _ ⟨hx, hb, hml, hr, hlocks, hname, hown, fun w hw => hts w (List.mem_filter.mp hw).1, hV⟩ ⟨by decide, by decide, by show mT M1 ≤ 20 + 600000; omega, by show mW M1 ≤ 0 + 7302250; omega⟩ ⟨rfl, rfl⟩ hRep va_S.rf hl2
  intro T hT X
  obtain ⟨t2, st, o, r1, r2, ⟨r3, -⟩, J, r4, r5⟩ := R T hT X
  refine ⟨t2, st, o, r1, r2, r3, r4.1, r4.2.1, r4.2.2.weaken (fun x hx hlt => ?_) (show mT M1 - 20 ≤ 600000 by omega) (show mW M1 - 0 ≤ 7302250 by omega)⟩
  have q := r5 x hx
  have q2 : gB Γ ≤ x.base := q
  rw [hB] at q2
  exact absurd hlt (Nat.not_lt.mpr q2)
