/-! rows that make arrays, read statics, copy, call -/
section RULES3
variable {l : Launch} {Γ : Gx} {y : MethodName} {cc : ByteArray} {nl : Nat} {rt : Option FieldType} {d t0 w0 pc : Nat} {lv : List (Nat × Value)} {st : List Value} {M M1 M2 : Mm} {r : Option Value}
theorem adT_top {Γ : Gx} {M : Mm} {H : Heap} (h : mRep Γ M H) : tv Γ (.ref (mT M)) = .ref H.size := by
  show Value.ref (ad Γ (mT M)) = _
  rw [h.adT]
theorem sN_at {Γ : Gx} {M : Mm} {H H1 : Heap} {kd n w : Nat} (g1 : mRep Γ M H) (h20 : 20 ≤ kd ∧ kd < 27) (hz1 : H1.size = H.size + 1) (hq : ∀ q, q < H.size → H1[q]? = H[q]?) (hcell : H1[H.size]? = some (arrV (gA Γ kd) n (fun _ => if kd = 20 then .int 0 else if kd = 21 then .long 0 else .null))) : mRep Γ (sN M kd n w) H1 := by
  have eK : mK (sN M kd n w) (mT M) = (kd, n) := by simp [sN, mK, u1]
  refine g1.new rfl (fun x hx => u1_ne hx) (fun x hx => u1_ne hx) (fun x hx => u1_ne hx) (fun x hx => u1_ne hx) ?_ hz1 hq ⟨fun c9 hc9 hl9 => ?_, fun _ => ?_⟩
  · rw [eK]
    show kd < 30
    omega
  · rw [eK] at hc9
    have : kd = c9 + 1 := hc9
    omega
  · rw [eK, g1.adT, hcell]
    congr 2
    funext j
    unfold eV
    have e1 : mI (sN M kd n w) (mT M) j = 0 := by simp [sN, mI, u1]
    have e2 : mJ (sN M kd n w) (mT M) j = 0 := by simp [sN, mJ, u1]
    have e3 : mR (sN M kd n w) (mT M) j = none := by simp [sN, mR, u1]
    rw [e1, e2, e3]
    rfl
set_option maxHeartbeats 1000000 in
theorem a_newarr {t n9 : Nat} {at9 : ArrayType} {ty : FieldType} {n : Int32} {q : Nat × Mm} (hd : decode cc pc = .ok (.newarray at9, 2)) (hn9 : n9 = 20 + t) (ht : t ≤ 1) (hat : newarray.typeOf at9 = ty) (hy : ∀ Γ : Gx, (gY Γ)[t]? = some (gA Γ (20 + t), ty)) (hno : ∀ C, ty ≠ .object C) (hdv : defaultValue ty = (if 20 + t = 20 then .int 0 else if 20 + t = 21 then .long 0 else .null)) (hw : Cond.arrayClass ty ∈ gw) (hb : componentBytes ty ≤ 8) (ho : nA M n9 n = some q) (h : AW l Γ y cc nl rt d t0 w0 (pc + 2) lv (.ref q.1 :: st) q.2 r M1) : AW l Γ y cc nl rt d t0 w0 pc lv (.int n :: st) M r M1 := by
  subst hn9
  unfold nA at ho
  split at ho
  · rename_i hc
    cases ho
    obtain ⟨hn, hl⟩ := hc
    subst hat
    refine AW.nw (M2 := sN M (20 + t) n.toNatClampNeg n.toNatClampNeg) (dc := 1) (dw := n.toNatClampNeg) rfl rfl h (fun {p e R s m args below meth c' H locs cells slots Q ls} G g1 g2 hroom w => ?_)
    refine W.newa G.1 G.2.1 (G.2.2.2.2.2.2.2.1 _ hw) rfl hd rfl hn (Nat.le_trans (Nat.mul_le_mul hl hb) (Nat.le_of_ble_eq_true rfl)) hroom.1 hroom.2 (fun cA kA comp k1 k2 k3 => ?_)
    have hRA := (G.2.2.2.2.2.2.2.2.1.2 t _ (hy Γ)).2
    have hcA : gA Γ (20 + t) = cA := by
      have e : s.vm.findClass ("[" ++ (newarray.typeOf at9).toString) = some (gA Γ (20 + t)) := by
        revert hRA hno
        generalize newarray.typeOf at9 = tz
        intro hno hRA
        cases tz <;> first | exact hRA | exact absurd rfl (hno _)
      exact Option.some.inj (e.symm.trans k1)
    have hz : (H.push { cls := cA, slots := Array.replicate n.toNatClampNeg (defaultValue (newarray.typeOf at9)), vm := .none }).size = H.size + 1 := by simp
    have hq : ∀ q, q < H.size → (H.push { cls := cA, slots := Array.replicate n.toNatClampNeg (defaultValue (newarray.typeOf at9)), vm := .none })[q]? = H[q]? := fun q hq => by
      rw [Array.getElem?_push]
      rw [if_neg (by omega)]
    have hR := sN_at (w := n.toNatClampNeg) (n := n.toNatClampNeg) (kd := 20 + t) g1 (by omega) hz hq (by
      rw [Array.getElem?_push, if_pos rfl, arrV_new, hdv, ← hcA])
    have w1 := w _ hR (va_S.new g2 (by omega) hq)
    have w2 : W p l e R s m args below meth c' _ locs (cells + 1) (slots + n.toNatClampNeg) Q (F0 m (pc + 2) ls (tv Γ (.ref (mT M)) :: ts Γ st)) := w1
    rw [adT_top g1] at w2
    exact w2
  · cases ho
set_option maxHeartbeats 1000000 in
theorem a_anew {t n9 index : Nat} {C : String} {n : Int32} {q : Nat × Mm} (hd : decode cc pc = .ok (.anewarray index, 3)) (hn9 : n9 = 20 + t) (ht : 2 ≤ t ∧ t ≤ 4) (hy : ∀ Γ : Gx, (gY Γ)[t]? = some (gA Γ (20 + t), .object C)) (hw : Cond.classLink y.cls index C ∈ gw) (hov : ∀ (Γ : Gx) (U : State), gVF Γ U → va_AO C U) (ho : nA M n9 n = some q) (h : AW l Γ y cc nl rt d t0 w0 (pc + 3) lv (.ref q.1 :: st) q.2 r M1) : AW l Γ y cc nl rt d t0 w0 pc lv (.int n :: st) M r M1 := by
  subst hn9
  unfold nA at ho
  split at ho
  · rename_i hc
    cases ho
    obtain ⟨hn, hl⟩ := hc
    refine AW.nw (M2 := sN M (20 + t) n.toNatClampNeg n.toNatClampNeg) (dc := 1) (dw := n.toNatClampNeg) rfl rfl h (fun {p e R s m args below meth c' H locs cells slots Q ls} G g1 g2 hroom w => ?_)
    refine W.anew G.1 G.2.1 G.2.2.2.2.2.2.1 (G.2.2.2.2.2.2.2.1 _ hw) (va_AO.use (hov Γ s G.2.2.2.2.2.2.2.2)) rfl hd rfl hn (by omega) hroom.1 hroom.2 (fun cA kA comp k1 k2 k3 k4 => ?_)
    obtain ⟨kA', comp', r1, r2, r3, r4⟩ := (G.2.2.2.2.2.2.2.2.1.2 t _ (hy Γ)).2
    have hcA : gA Γ (20 + t) = cA := Option.some.inj (r4.symm.trans k1)
    have hz : (H.push { cls := cA, slots := Array.replicate n.toNatClampNeg .null, vm := .none }).size = H.size + 1 := by simp
    have hq : ∀ q, q < H.size → (H.push { cls := cA, slots := Array.replicate n.toNatClampNeg .null, vm := .none })[q]? = H[q]? := fun q hq => by
      rw [Array.getElem?_push]
      rw [if_neg (by omega)]
    have hR := sN_at (w := n.toNatClampNeg) (n := n.toNatClampNeg) (kd := 20 + t) g1 (by omega) hz hq (by
      rw [Array.getElem?_push, if_pos rfl, arrV_new, ← hcA, if_neg (by omega), if_neg (by omega)])
    have w1 := w _ hR (va_S.new g2 (by omega) hq)
    have w2 : W p l e R s m args below meth c' _ locs (cells + 1) (slots + n.toNatClampNeg) Q (F0 m (pc + 3) ls (tv Γ (.ref (mT M)) :: ts Γ st)) := w1
    rw [adT_top g1] at w2
    exact w2
  · cases ho
/-- what lies behind rows -/
theorem sRows_of (kd m : Nat) (M : Mm) : ∀ i : Nat, mT (sRows kd m i M) = mT M + i ∧ mW (sRows kd m i M) = mW M + i * m ∧ (∀ x, mK (sRows kd m i M) x = if mT M ≤ x ∧ x < mT M + i then (kd, m) else mK M x) ∧ (∀ x j, mI (sRows kd m i M) x j = if mT M ≤ x ∧ x < mT M + i then 0 else mI M x j) ∧ (∀ x j, mJ (sRows kd m i M) x j = if mT M ≤ x ∧ x < mT M + i then 0 else mJ M x j) ∧ (∀ x j, mR (sRows kd m i M) x j = if mT M ≤ x ∧ x < mT M + i then none else mR M x j)
  | 0 => ⟨rfl, by show mW M = _; omega, fun x => by rw [if_neg (by omega)]; rfl, fun x j => by rw [if_neg (by omega)]; rfl, fun x j => by rw [if_neg (by omega)]; rfl, fun x j => by rw [if_neg (by omega)]; rfl⟩
  | i + 1 => by
    obtain ⟨a1, a2, a3, a4, a5, a6⟩ := sRows_of kd m M i
    refine ⟨by show mT (sRows kd m i M) + 1 = _; omega, by show mW (sRows kd m i M) + m = _; rw [a2, Nat.succ_mul]; omega, fun x => ?_, fun x j => ?_, fun x j => ?_, fun x j => ?_⟩
    · show u1 (mK (sRows kd m i M)) (mT (sRows kd m i M)) (kd, m) x = _
      unfold u1
      rw [a1, a3]
      by_cases e : x = mT M + i
      · rw [if_pos e, if_pos (by omega)]
      · rw [if_neg e]
        by_cases e2 : mT M ≤ x ∧ x < mT M + i
        · rw [if_pos e2, if_pos (by omega)]
        · rw [if_neg e2, if_neg (by omega)]
    · show u1 (mI (sRows kd m i M)) (mT (sRows kd m i M)) (fun _ => 0) x j = _
      unfold u1
      rw [a1]
      by_cases e : x = mT M + i
      · rw [if_pos e, if_pos (by omega)]
      · rw [if_neg e, a4]
        by_cases e2 : mT M ≤ x ∧ x < mT M + i
        · rw [if_pos e2, if_pos (by omega)]
        · rw [if_neg e2, if_neg (by omega)]
    · show u1 (mJ (sRows kd m i M)) (mT (sRows kd m i M)) (fun _ => 0) x j = _
      unfold u1
      rw [a1]
      by_cases e : x = mT M + i
      · rw [if_pos e, if_pos (by omega)]
      · rw [if_neg e, a5]
        by_cases e2 : mT M ≤ x ∧ x < mT M + i
        · rw [if_pos e2, if_pos (by omega)]
        · rw [if_neg e2, if_neg (by omega)]
    · show u1 (mR (sRows kd m i M)) (mT (sRows kd m i M)) (fun _ => none) x j = _
      unfold u1
      rw [a1]
      by_cases e : x = mT M + i
      · rw [if_pos e, if_pos (by omega)]
      · rw [if_neg e, a6]
        by_cases e2 : mT M ≤ x ∧ x < mT M + i
        · rw [if_pos e2, if_pos (by omega)]
        · rw [if_neg e2, if_neg (by omega)]
/-- a static field read: its value, by gSt -/
theorem a_gets {index : Nat} {C n9 d9 : String} {v : Value} (hd : decode cc pc = .ok (.getstatic index, 3)) (hw : Cond.fieldLink y.cls index C n9 d9 ∈ gw) (hq : ∀ Γ : Gx, (C, n9, d9, v) ∈ gSt Γ) (h : AW l Γ y cc nl rt d t0 w0 (pc + 3) lv (v :: st) M r M1) : AW l Γ y cc nl rt d t0 w0 pc lv st M r M1 :=
  AW.rd h (fun {p e R s m args below meth c' H locs cells slots Q ls} G g1 g2 w => va_gets (v := tv Γ v) G.1 G.2.1 (G.2.2.2.2.2.2.2.2.2.2.2.2.2.2.2.2 _ (hq Γ)) g2 G.2.2.2.2.2.2.1 (G.2.2.2.2.2.2.2.1 _ hw) (fun _ h => h) hd w)
theorem a_getsN {v : Value} (hd : decode cc pc = .ok (.getstatic 27, 3)) (hy : y.cls = "AStreetByACane$Sign") (hv : v = .ref 1) (h : AW l Γ y cc nl rt d t0 w0 (pc + 3) lv (v :: st) M r M1) : AW l Γ y cc nl rt d t0 w0 pc lv st M r M1 := by
  subst hv
  refine AW.rd h (fun {p e R s m args below meth c' H locs cells slots Q ls} G g1 g2 w => ?_)
  obtain ⟨cf, kf, fi, f, a, cell, h1, h2, h3, h4, h5, h6, h7, h8⟩ := G.2.2.2.2.2.2.2.2.2.2.2.2.2.2.2.2 ("AStreetByACane", "ABOVE", "[I", .ref 1) (by simp [gSt])
  have hnf : va_Nw gNF s := G.2.2.2.2.2.2.2.2.2.2.1
  refine va_WgetsN (own := "AStreetByACane$Sign") (v := tv Γ (.ref 1)) G.1 G.2.1 (by rw [← hy]; exact G.2.2.2.2.2.2.1) (va_Nw.use rfl hnf) h1 h2 h3 h4 (by rw [g2.2.1 a (Array.getElem?_eq_some_iff.mp h5).1 h8]; exact h5) (fun e => by rw [e] at h6; cases h6) h7 rfl hd w
/-- the one static of which only that it is a reference or null is known -/
theorem a_getsQ {index : Nat} (hd : decode cc pc = .ok (.getstatic index, 3)) (hw : Cond.fieldLink y.cls index "jdk/internal/util/Preconditions" "SIOOBE_FORMATTER" "Ljava/util/function/BiFunction;" ∈ gw) (h : AW l Γ y cc nl rt d t0 w0 (pc + 3) lv (rv (mR M 18 0) :: st) M r M1) : AW l Γ y cc nl rt d t0 w0 pc lv st M r M1 :=
  AW.rd h (fun {p e R s m args below meth c' H locs cells slots Q ls} G g1 g2 w => va_gets (v := tv Γ (rv (mR M 18 0))) G.1 G.2.1 (by rw [(g1.2.2.2.1 18 (by decide)).1.2.2]; exact G.2.2.2.2.2.2.2.2.2.2.2.2.2.2.2.2 ("jdk/internal/util/Preconditions", "SIOOBE_FORMATTER", "Ljava/util/function/BiFunction;", rv (mR (gM Γ) 18 0)) (by simp [gSt])) g2 G.2.2.2.2.2.2.1 (G.2.2.2.2.2.2.2.1 _ hw) (fun _ h => h) hd w)
/-- String's two fields -/
theorem a_getSv {index o : Nat} (hd : decode cc pc = .ok (.getfield index, 3)) (hw : Cond.fieldLink y.cls index "java/lang/String" "value" "[B" ∈ gw) (ho : kc M 31 o = some ()) (h : AW l Γ y cc nl rt d t0 w0 (pc + 3) lv (.ref (o + 7) :: st) M r M1) : AW l Γ y cc nl rt d t0 w0 pc lv (.ref o :: st) M r M1 := by
  have hk := kc_of ho
  refine AW.rd h (fun {p e R s m args below meth c' H locs cells slots Q ls} G g1 g2 w => ?_)
  have ho20 : o < 20 := Nat.not_le.mp fun q => by have := g1.2.2.2.2 o q; omega
  have e1 := (g1.2.2.2.1 o ho20).1.1
  rw [e1] at hk
  obtain ⟨s1, s2, s3, s4⟩ := G.2.2.2.2.2.2.2.2.2.2.2.2.2.2.2.1 o ho20 hk
  have ea : ad Γ o = gO Γ o := if_pos ho20
  have eb : ad Γ (o + 7) = gO Γ (o + 7) := if_pos s4
  have w1 : W p l e R s m args below meth c' H locs cells slots Q (F0 m (pc + 3) ls (.ref (ad Γ (o + 7)) :: ts Γ st)) := w
  rw [eb] at w1
  show W _ _ _ _ _ _ _ _ _ _ _ _ _ _ _ (F0 m pc ls (.ref (ad Γ o) :: ts Γ st))
  rw [ea]
  exact vk_getf G.1 G.2.1 s3 g2 G.2.2.2.2.2.2.1 (G.2.2.2.2.2.2.2.1 _ hw) (fun _ h => h) hd w1
theorem a_getSc {index o : Nat} (hd : decode cc pc = .ok (.getfield index, 3)) (hw : Cond.fieldLink y.cls index "java/lang/String" "coder" "B" ∈ gw) (ho : kc M 31 o = some ()) (h : AW l Γ y cc nl rt d t0 w0 (pc + 3) lv (.int 0 :: st) M r M1) : AW l Γ y cc nl rt d t0 w0 pc lv (.ref o :: st) M r M1 := by
  have hk := kc_of ho
  refine AW.rd h (fun {p e R s m args below meth c' H locs cells slots Q ls} G g1 g2 w => ?_)
  have ho20 : o < 20 := Nat.not_le.mp fun q => by have := g1.2.2.2.2 o q; omega
  have e1 := (g1.2.2.2.1 o ho20).1.1
  rw [e1] at hk
  obtain ⟨s1, s2, s3, s4⟩ := G.2.2.2.2.2.2.2.2.2.2.2.2.2.2.2.1 o ho20 hk
  have ea : ad Γ o = gO Γ o := if_pos ho20
  show W _ _ _ _ _ _ _ _ _ _ _ _ _ _ _ (F0 m pc ls (.ref (ad Γ o) :: ts Γ st))
  rw [ea]
  exact vk_getf G.1 G.2.1 s2 g2 G.2.2.2.2.2.2.1 (G.2.2.2.2.2.2.2.1 _ hw) (fun _ h => h) hd w
/-! calls -/
theorem va_goR {p : Program} {e : Env} {R : Room} {s : State} {m : MethodId} {args : Array Value} {below : List Frame} {meth : Method} {c : Code} {H : Heap} {locs : List Loc} {cells slots mc ms : Nat} {Q : State → Prop} {ls : Array Slot} {st9 rest : List Value} {a9 : Array Value} {r1 : Option Value}
    (hr : va_Run p l e R s m args below meth c H locs cells slots mc ms (F0 m pc ls st9) rest (mQc Γ r1 M2 a9) (gF Γ)) (hS : va_S (gF Γ) s.heap H locs)
    (kk : ∀ (H1 : Heap) (locs1 : List Loc), mRep Γ M2 H1 → va_S (gF Γ) s.heap H1 locs1 → W p l e R s m args below meth c H1 locs1 (cells + mc) (slots + ms) Q (F0 m (pc + 3) ls ((r1.map (tv Γ)).toList ++ rest))) : W p l e R s m args below meth c H locs cells slots Q (F0 m pc ls st9) := by
  intro T hT X
  obtain ⟨v, st₀, t, T', L, h0, X', hL, e1, e2, ⟨hv, hR, hz, hk⟩, go⟩ := hr T hT X
  have hv2 : v = r1.map (tv Γ) := by cases hv; rfl
  subst hv2
  rw [h0] at hz hk
  obtain ⟨t2, a1, b1⟩ := kk T'.heap (locs ++ L) (by rw [e1]; exact hR) ⟨Nat.le_trans hS.1 (by rw [e1]; exact hz), fun q h1 h2 => by rw [e1, hk q (Nat.lt_of_lt_of_le h1 hS.1) h2]; exact hS.2.1 q h1 h2, fun q hq => by
      rcases List.mem_append.mp hq with h | h
      · exact hS.2.2 q h
      · exact hL q h⟩ T' rfl X'
  exact ⟨t2, go t2 a1, b1⟩
def CV (own : String) (index : Nat) (y1 : MethodName) : Prop := Cond.methodLink own index y1 ∈ gw ∧ Cond.instanceMethod y1 ∈ gw ∧ Cond.selects y1.cls y1 y1 ∈ gw
def CS (own : String) (index : Nat) (y1 : MethodName) : Prop := Cond.methodLink own index y1 ∈ gw ∧ Cond.static y1 ∈ gw
def CI (own : String) (index : Nat) (y1 : MethodName) : Prop := Cond.methodLink own index y1 ∈ gw ∧ Cond.instanceMethod y1 ∈ gw ∧ y1.name = "<init>"
/-- class c is that of the method's name -/
def RC (c : Nat) (C : String) : Prop := c < 10 ∧ ∃ (T : u_T) (N : Nat), vwCl[c]? = some (C, T, N)
theorem gVF.at {s U : State} {H : Heap} {locs : List Loc} (h : gVF Γ s) (hS : va_S (gF Γ) s.heap H locs) (hU : U.heap = H) (hW : s.WarmedH U.vm) : gVF Γ U := h.warm hW (fun a h1 h2 => by rw [hU]; exact hS.2.1 a h1 h2)
theorem call_room {d1 n1 t1 t2 : Nat} {R : Room} (h1 : d ≤ R.frames ∧ 64 * d ≤ R.locals) (hd1 : d1 + 1 ≤ d) (hn : n1 ≤ 40) : d1 + 1 ≤ R.frames ∧ 8 + (n1 + 11) + 64 * d1 ≤ R.locals := by
  constructor <;> omega
variable {index d1 n1 k1 : Nat} {y1 : MethodName} {c1 : ByteArray} {rt1 : Option FieldType} {As rest st9 : List Value} {r1 : Option Value} {o c : Nat}
theorem a_callV (hd : decode cc pc = .ok (.invokevirtual index, 3)) (hM : MF y1 c1 n1 rt1 k1) (hC : CV y.cls index y1) (hA : AM l Γ d1 y1 c1 n1 rt1 (.ref o :: As) M r1 M2) (hRc : RC c y1.cls) (ho : (mK M o).1 = c + 1) (hdd : d1 + 1 ≤ d) (hn : As.length = k1) (hs : st9 = As.reverse ++ .ref o :: rest) (h8 : (rest.map fun v => v.category).sum ≤ 8)
    (h : AW l Γ y cc nl rt d t0 w0 (pc + 3) lv (r1.toList ++ rest) M2 r M1) : AW l Γ y cc nl rt d t0 w0 pc lv st9 M r M1 := by
  refine ⟨⟨Nat.le_trans hA.1.1 h.1.1, Nat.le_trans hA.1.2 h.1.2⟩, fun p e R s m args below meth c' H locs cells slots ls G q1 q2 q3 q4 q5 => ?_⟩
  obtain ⟨m1, m2, m3, m4⟩ := hM
  obtain ⟨c1', c2', c3'⟩ := hC
  obtain ⟨hc10, T, N, e1⟩ := hRc
  have hown := q3.own ho (by omega) (by omega)
  obtain ⟨cell, z1, z2, z3, -⟩ := (q3.2.1 o hown.1 hown.2).1 c ho hc10
  have hcl := (G.2.2.2.2.2.2.2.2.1.1 c _ e1).2.1
  have f1 := hA.1.1
  have f2 := hA.1.2
  have f3 := h.1.1
  have f4 := h.1.2
  refine va_goR (va_runV (As := ts Γ As) (rest := ts Γ rest) (own := y.cls) ⟨G.1, G.2.1, G.2.2.1, G.2.2.2.2.2.2.1, G.2.2.2.2.2.2.2.1⟩ hA.2 (cwV k1 G.2.2.2.2.2.2.2.1 (C := y1.cls) (fun w hw => ?_) rfl rfl rfl ⟨rfl, m2.1, m2.2.1, m2.2.2⟩ (call_room (t1 := 0) (t2 := 0) ⟨q1.1, q1.2.1⟩ hdd m1.2)) ⟨mPc.blind, ⟨cell, z1, by rw [z3]; rfl, by rw [z2]; exact hcl⟩, fun U hU hW => ⟨rfl, by rw [hU]; exact q3, G.2.2.2.2.2.2.2.2.at q4 hU hW⟩⟩ rfl (by unfold ts; rw [List.length_map]; exact hn) q5.1 ?_ (lv_room (by rw [ts_cat]; exact h8)) hd ⟨by omega, by omega⟩) q4 (fun H1 locs1 g1 g2 => ?_)
  · have h9 : w ∈ gw := by
      simp only [wsV, List.cons_append, List.nil_append, List.mem_cons] at hw
      rcases hw with rfl | rfl | rfl | rfl | rfl | hw
      · exact c1'
      · exact c2'
      · exact c3'
      · exact m4
      · exact m3
      · exact hw
    exact ⟨h9, good_of_word (List.mem_filter.mp h9).2⟩
  · rw [hs]
    show ts Γ (As.reverse ++ .ref o :: rest) = _
    unfold ts
    rw [List.map_append, List.map_reverse]
    rfl
  · have w := h.2 p e R s m args below meth c' H1 locs1 (cells + (mT M2 - mT M)) (slots + (mW M2 - mW M)) ls G q1 ⟨by omega, by omega⟩ g1 g2 q5
    have e9 : ts Γ (r1.toList ++ rest) = (r1.map (tv Γ)).toList ++ ts Γ rest := by
      unfold ts
      rw [List.map_append]
      cases r1 <;> rfl
    rw [e9] at w
    exact w
theorem a_callS (hd : decode cc pc = .ok (.invokestatic index, 3)) (hM : MF y1 c1 n1 rt1 k1) (hC : CS y.cls index y1) (hA : AM l Γ d1 y1 c1 n1 rt1 As M r1 M2) (hdd : d1 + 1 ≤ d) (hn : As.length = k1) (hs : st9 = As.reverse ++ rest) (h8 : (rest.map fun v => v.category).sum ≤ 8)
    (h : AW l Γ y cc nl rt d t0 w0 (pc + 3) lv (r1.toList ++ rest) M2 r M1) : AW l Γ y cc nl rt d t0 w0 pc lv st9 M r M1 := by
  refine ⟨⟨Nat.le_trans hA.1.1 h.1.1, Nat.le_trans hA.1.2 h.1.2⟩, fun p e R s m args below meth c' H locs cells slots ls G q1 q2 q3 q4 q5 => ?_⟩
  obtain ⟨m1, m2, m3, m4⟩ := hM
  obtain ⟨c1', c2'⟩ := hC
  have f1 := hA.1.1
  have f2 := hA.1.2
  have f3 := h.1.1
  have f4 := h.1.2
  have hts := G.2.2.2.2.2.2.2.1
  refine va_goR (va_runS (As := ts Γ As) (rest := ts Γ rest) (own := y.cls) ⟨G.1, G.2.1, G.2.2.1, G.2.2.2.2.2.2.1, hts⟩ hA.2 ⟨callB_of k1 hts (gw_ws m3) rfl rfl rfl (hts _ m4) (hts _ c1') ⟨m2.1, m2.2.1, m2.2.2⟩ (call_room (t1 := 0) (t2 := 0) ⟨q1.1, q1.2.1⟩ hdd m1.2), hts _ c2'⟩ ⟨mPc.blind, fun U hU hW => ⟨rfl, by rw [hU]; exact q3, G.2.2.2.2.2.2.2.2.at q4 hU hW⟩⟩ rfl (by unfold ts; rw [List.length_map]; exact hn) q5.1 ?_ (lv_room (by rw [ts_cat]; exact h8)) hd ⟨by omega, by omega⟩) q4 (fun H1 locs1 g1 g2 => ?_)
  · rw [hs]
    show ts Γ (As.reverse ++ rest) = _
    unfold ts
    rw [List.map_append, List.map_reverse]
  · have w := h.2 p e R s m args below meth c' H1 locs1 (cells + (mT M2 - mT M)) (slots + (mW M2 - mW M)) ls G q1 ⟨by omega, by omega⟩ g1 g2 q5
    have e9 : ts Γ (r1.toList ++ rest) = (r1.map (tv Γ)).toList ++ ts Γ rest := by
      unfold ts
      rw [List.map_append]
      cases r1 <;> rfl
    rw [e9] at w
    exact w
theorem a_callI (hd : decode cc pc = .ok (.invokespecial index, 3)) (hM : MF y1 c1 n1 none k1) (hC : CI y.cls index y1) (hA : AM l Γ d1 y1 c1 n1 none (.ref o :: As) M none M2) (hdd : d1 + 1 ≤ d) (hn : As.length = k1) (hs : st9 = As.reverse ++ .ref o :: rest) (h8 : (rest.map fun v => v.category).sum ≤ 8)
    (h : AW l Γ y cc nl rt d t0 w0 (pc + 3) lv rest M2 r M1) : AW l Γ y cc nl rt d t0 w0 pc lv st9 M r M1 := by
  refine ⟨⟨Nat.le_trans hA.1.1 h.1.1, Nat.le_trans hA.1.2 h.1.2⟩, fun p e R s m args below meth c' H locs cells slots ls G q1 q2 q3 q4 q5 => ?_⟩
  obtain ⟨m1, m2, m3, m4⟩ := hM
  obtain ⟨c1', c2', c3'⟩ := hC
  have f1 := hA.1.1
  have f2 := hA.1.2
  have f3 := h.1.1
  have f4 := h.1.2
  have hts := G.2.2.2.2.2.2.2.1
  refine va_goR (va_runI (As := ts Γ As) (rest := ts Γ rest) (own := y.cls) ⟨G.1, G.2.1, G.2.2.1, G.2.2.2.2.2.2.1, hts⟩ hA.2 (cwI k1 hts (gw_ws m3) rfl rfl rfl (hts _ m4) (hts _ c1') (hts _ c2') c3' ⟨m2.1, m2.2.1, m2.2.2⟩ (call_room (t1 := 0) (t2 := 0) ⟨q1.1, q1.2.1⟩ hdd m1.2)) ⟨mPc.blind, fun U hU hW => ⟨rfl, by rw [hU]; exact q3, G.2.2.2.2.2.2.2.2.at q4 hU hW⟩⟩ rfl (by unfold ts; rw [List.length_map]; exact hn) q5.1 ?_ (lv_room (by rw [ts_cat]; exact h8)) hd ⟨by omega, by omega⟩) q4 (fun H1 locs1 g1 g2 => ?_)
  · rw [hs]
    show ts Γ (As.reverse ++ .ref o :: rest) = _
    unfold ts
    rw [List.map_append, List.map_reverse]
    rfl
  · exact h.2 p e R s m args below meth c' H1 locs1 (cells + (mT M2 - mT M)) (slots + (mW M2 - mW M)) ls G q1 ⟨by omega, by omega⟩ g1 g2 q5
/-- a constructor of a nest mate -/
theorem a_callIN {host : String} (hd : decode cc pc = .ok (.invokespecial index, 3)) (hM : MF y1 c1 n1 none k1) (hC : Cond.methodLinkNest y.cls index y1 host ∈ gN) (hi : Cond.instanceMethod y1 ∈ gw) (hy1 : y1.name = "<init>") (hA : AM l Γ d1 y1 c1 n1 none (.ref o :: As) M none M2) (hdd : d1 + 1 ≤ d) (hn : As.length = k1) (hs : st9 = As.reverse ++ .ref o :: rest) (h8 : (rest.map fun v => v.category).sum ≤ 8)
    (h : AW l Γ y cc nl rt d t0 w0 (pc + 3) lv rest M2 r M1) : AW l Γ y cc nl rt d t0 w0 pc lv st9 M r M1 := by
  refine ⟨⟨Nat.le_trans hA.1.1 h.1.1, Nat.le_trans hA.1.2 h.1.2⟩, fun p e R s m args below meth c' H locs cells slots ls G q1 q2 q3 q4 q5 => ?_⟩
  obtain ⟨m1, m2, m3, m4⟩ := hM
  have f1 := hA.1.1
  have f2 := hA.1.2
  have f3 := h.1.1
  have f4 := h.1.2
  have hts := G.2.2.2.2.2.2.2.1
  refine va_goR (va_runIN (As := ts Γ As) (rest := ts Γ rest) (own := y.cls) ⟨G.1, G.2.1, G.2.2.1, G.2.2.2.2.2.2.1, hts⟩ hA.2 ⟨va_cnB k1 hts (gw_ws m3) rfl rfl rfl (G.2.2.2.2.2.2.2.2.2.1 _ hC) (hts _ m4) ⟨m2.1, m2.2.1, m2.2.2⟩ (call_room (t1 := 0) (t2 := 0) ⟨q1.1, q1.2.1⟩ hdd m1.2), hy1, hts _ hi⟩ ⟨mPc.blind, fun U hU hW => ⟨rfl, by rw [hU]; exact q3, G.2.2.2.2.2.2.2.2.at q4 hU hW⟩⟩ rfl (by unfold ts; rw [List.length_map]; exact hn) q5.1 ?_ (lv_room (by rw [ts_cat]; exact h8)) hd ⟨by omega, by omega⟩) q4 (fun H1 locs1 g1 g2 => ?_)
  · rw [hs]
    show ts Γ (As.reverse ++ .ref o :: rest) = _
    unfold ts
    rw [List.map_append, List.map_reverse]
    rfl
  · exact h.2 p e R s m args below meth c' H1 locs1 (cells + (mT M2 - mT M)) (slots + (mW M2 - mW M)) ls G q1 ⟨by omega, by omega⟩ g1 g2 q5
/-- Object's constructor -/
theorem a_objI (hd : decode cc pc = .ok (.invokespecial index, 3)) (h1 : Cond.methodLink y.cls index objectInit ∈ gw) (h2 : Cond.instanceMethod objectInit ∈ gw) (h3 : Cond.code objectInit ⟨#[0xb1]⟩ 1 none ∈ gw) (hdd : 1 ≤ d) (h8 : (st.map fun v => v.category).sum ≤ 8) (h : AW l Γ y cc nl rt d t0 w0 (pc + 3) lv st M r M1) : AW l Γ y cc nl rt d t0 w0 pc lv (.ref o :: st) M r M1 := by
  refine ⟨h.1, fun p e R s m args below meth c' H locs cells slots ls G q1 q2 q3 q4 q5 => ?_⟩
  have hts := G.2.2.2.2.2.2.2.1
  refine W.objInit G.1 G.2.1 G.2.2.2.2.2.2.1 (hts _ h1) (hts _ h2) (hts _ h3) rfl (q5.1.trans G.2.2.1.symm) (rest := ts Γ st) rfl hd (by omega) ?_ (h.2 p e R s m args below meth c' H locs cells slots ls G q1 q2 q3 q4 q5)
  rw [ts_cat]
  show 2 * 0 + _ + 12 ≤ _
  omega
/-- a call of a text's method -/
theorem a_callT (hd : decode cc pc = .ok (.invokevirtual index, 3)) (hM : MF y1 c1 n1 rt1 k1) (hC : CV y.cls index y1) (hA : AM l Γ d1 y1 c1 n1 rt1 (.ref o :: As) M r1 M2) (hRc : y1.cls = "java/lang/String") (ho : (mK M o).1 = 32) (hdd : d1 + 1 ≤ d) (hn : As.length = k1) (hs : st9 = As.reverse ++ .ref o :: rest) (h8 : (rest.map fun v => v.category).sum ≤ 8)
    (h : AW l Γ y cc nl rt d t0 w0 (pc + 3) lv (r1.toList ++ rest) M2 r M1) : AW l Γ y cc nl rt d t0 w0 pc lv st9 M r M1 := by
  refine ⟨⟨Nat.le_trans hA.1.1 h.1.1, Nat.le_trans hA.1.2 h.1.2⟩, fun p e R s m args below meth c' H locs cells slots ls G q1 q2 q3 q4 q5 => ?_⟩
  obtain ⟨m1, m2, m3, m4⟩ := hM
  obtain ⟨c1', c2', c3'⟩ := hC
  have ho20 : o < 20 := Nat.not_le.mp fun q => by have := q3.2.2.2.2 o q; omega
  have e1 := (q3.2.2.2.1 o ho20).1.1
  rw [e1] at ho
  obtain ⟨s1, s2, s3, s4⟩ := G.2.2.2.2.2.2.2.2.2.2.2.2.2.2.2.1 o ho20 ho
  obtain ⟨cell, z1, z2, z3, -⟩ := s1.kept q4.2.1
  have ea : ad Γ o = gO Γ o := if_pos ho20
  have f1 := hA.1.1
  have f2 := hA.1.2
  have f3 := h.1.1
  have f4 := h.1.2
  refine va_goR (va_runV (As := ts Γ As) (rest := ts Γ rest) (own := y.cls) (b := ad Γ o) ⟨G.1, G.2.1, G.2.2.1, G.2.2.2.2.2.2.1, G.2.2.2.2.2.2.2.1⟩ hA.2 (cwV k1 G.2.2.2.2.2.2.2.1 (C := y1.cls) (fun w hw => ?_) rfl rfl rfl ⟨rfl, m2.1, m2.2.1, m2.2.2⟩ (call_room (t1 := 0) (t2 := 0) ⟨q1.1, q1.2.1⟩ hdd m1.2)) ⟨mPc.blind, ⟨cell, by rw [ea]; exact z1, z2, by rw [hRc]; exact z3⟩, fun U hU hW => ⟨rfl, by rw [hU]; exact q3, G.2.2.2.2.2.2.2.2.at q4 hU hW⟩⟩ rfl (by unfold ts; rw [List.length_map]; exact hn) q5.1 ?_ (lv_room (by rw [ts_cat]; exact h8)) hd ⟨by omega, by omega⟩) q4 (fun H1 locs1 g1 g2 => ?_)
  · have h9 : w ∈ gw := by
      simp only [wsV, List.cons_append, List.nil_append, List.mem_cons] at hw
      rcases hw with rfl | rfl | rfl | rfl | rfl | hw
      · exact c1'
      · exact c2'
      · exact c3'
      · exact m4
      · exact m3
      · exact hw
    exact ⟨h9, good_of_word (List.mem_filter.mp h9).2⟩
  · rw [hs]
    show ts Γ (As.reverse ++ .ref o :: rest) = _
    unfold ts
    rw [List.map_append, List.map_reverse]
    rfl
  · have w := h.2 p e R s m args below meth c' H1 locs1 (cells + (mT M2 - mT M)) (slots + (mW M2 - mW M)) ls G q1 ⟨by omega, by omega⟩ g1 g2 q5
    have e9 : ts Γ (r1.toList ++ rest) = (r1.map (tv Γ)).toList ++ ts Γ rest := by
      unfold ts
      rw [List.map_append]
      cases r1 <;> rfl
    rw [e9] at w
    exact w
end RULES3
