/-! rows that read and write the memory, make cells, call -/
section RULES2
variable {l : Launch} {Γ : Gx} {y : MethodName} {cc : ByteArray} {nl : Nat} {rt : Option FieldType} {d t0 w0 pc : Nat} {lv : List (Nat × Value)} {st : List Value} {M M1 M2 : Mm} {r : Option Value}
/-- a read: the memory stays -/
theorem AW.rd {pc1 : Nat} {st1 : List Value} (h : AW l Γ y cc nl rt d t0 w0 pc1 lv st1 M r M1)
    (k : ∀ {p : Program} {e : Env} {R : Room} {s : State} {m : MethodId} {args : Array Value} {below : List Frame} {meth : Method} {c : Code} {H : Heap} {locs : List Loc} {cells slots : Nat} {Q : State → Prop} {ls : Array Slot}, gCt Γ y cc nl rt p s m args meth c → mRep Γ M H → va_S (gF Γ) s.heap H locs →
      W p l e R s m args below meth c H locs cells slots Q (F0 m pc1 ls (ts Γ st1)) → W p l e R s m args below meth c H locs cells slots Q (F0 m pc ls (ts Γ st))) : AW l Γ y cc nl rt d t0 w0 pc lv st M r M1 :=
  ⟨h.1, fun p e R s m args below meth c H locs cells slots ls G h1 h2 h3 h4 h5 => k G h3 h4 (h.2 p e R s m args below meth c H locs cells slots ls G h1 h2 h3 h4 h5)⟩
/-- a write: cells and slots stay -/
theorem AW.wr {pc1 : Nat} {st1 : List Value} (eT : mT M2 = mT M) (eW : mW M2 = mW M) (h : AW l Γ y cc nl rt d t0 w0 pc1 lv st1 M2 r M1)
    (k : ∀ {p : Program} {e : Env} {R : Room} {s : State} {m : MethodId} {args : Array Value} {below : List Frame} {meth : Method} {c : Code} {H : Heap} {locs : List Loc} {cells slots : Nat} {Q : State → Prop} {ls : Array Slot}, gCt Γ y cc nl rt p s m args meth c → mRep Γ M H → va_S (gF Γ) s.heap H locs → (d ≤ R.frames ∧ 64 * d ≤ R.locals) → ls.size = nl →
      (∀ (H1 : Heap) (locs1 : List Loc), mRep Γ M2 H1 → va_S (gF Γ) s.heap H1 locs1 → W p l e R s m args below meth c H1 locs1 cells slots Q (F0 m pc1 ls (ts Γ st1))) → W p l e R s m args below meth c H locs cells slots Q (F0 m pc ls (ts Γ st))) : AW l Γ y cc nl rt d t0 w0 pc lv st M r M1 :=
  ⟨by rw [← eT, ← eW]; exact h.1, fun p e R s m args below meth c H locs cells slots ls G h1 h2 h3 h4 h5 => k G h3 h4 ⟨h1.1, h1.2.1⟩ h5.1 (fun H1 locs1 g1 g2 => h.2 p e R s m args below meth c H1 locs1 cells slots ls G h1 (by rw [eT, eW]; exact h2) g1 g2 h5)⟩
/-- cells made -/
theorem AW.nw {pc1 dc dw : Nat} {st1 : List Value} (eT : mT M2 = mT M + dc) (eW : mW M2 = mW M + dw) (h : AW l Γ y cc nl rt d t0 w0 pc1 lv st1 M2 r M1)
    (k : ∀ {p : Program} {e : Env} {R : Room} {s : State} {m : MethodId} {args : Array Value} {below : List Frame} {meth : Method} {c : Code} {H : Heap} {locs : List Loc} {cells slots : Nat} {Q : State → Prop} {ls : Array Slot}, gCt Γ y cc nl rt p s m args meth c → mRep Γ M H → va_S (gF Γ) s.heap H locs → (cells + dc ≤ R.cells ∧ slots + dw ≤ R.slots) →
      (∀ (H1 : Heap), mRep Γ M2 H1 → va_S (gF Γ) s.heap H1 locs → W p l e R s m args below meth c H1 locs (cells + dc) (slots + dw) Q (F0 m pc1 ls (ts Γ st1))) → W p l e R s m args below meth c H locs cells slots Q (F0 m pc ls (ts Γ st))) : AW l Γ y cc nl rt d t0 w0 pc lv st M r M1 :=
  ⟨⟨by have := h.1.1; omega, by have := h.1.2; omega⟩, fun p e R s m args below meth c H locs cells slots ls G h1 h2 h3 h4 h5 => k G h3 h4 ⟨by have := h.1.1; have := h1.2.2.1; omega, by have := h.1.2; have := h1.2.2.2; omega⟩ (fun H1 g1 g2 => h.2 p e R s m args below meth c H1 locs (cells + dc) (slots + dw) ls G h1 ⟨by omega, by omega⟩ g1 g2 h5)⟩
/-- a new cell is beyond what was there -/
theorem va_S.new {A : Nat → Prop} {H0 H H1 : Heap} {locs : List Loc} (h : va_S A H0 H locs) (z : H.size ≤ H1.size) (oq : ∀ q : Nat, q < H.size → H1[q]? = H[q]?) : va_S A H0 H1 locs :=
  ⟨Nat.le_trans h.1 z, fun q h1 h2 => (oq q (Nat.lt_of_lt_of_le h1 h.1)).trans (h.2.1 q h1 h2), h.2.2⟩
/-- a word that links a field: class c's k-th -/
def FL (own : String) (index c k : Nat) : Prop := ∃ (C : String) (T : u_T), CF c C T ∧ c < 10 ∧ k < nF c ∧ Cond.fieldLink own index (T k).1 (T k).2.1 (T k).2.2.1 ∈ gw
/-- and may be written anywhere: it isn't final -/
def FP (own : String) (index c k : Nat) : Prop := ∃ (C : String) (T : u_T), CF c C T ∧ c < 10 ∧ k < nF c ∧ Cond.fieldLink own index (T k).1 (T k).2.1 (T k).2.2.1 ∈ gw ∧ ((T k).2.2.2 = false ∨ ((T k).2.2.2 = true ∧ (T k).1 = own))
theorem a_get {index c k o : Nat} {v : Value} (hd : decode cc pc = .ok (.getfield index, 3)) (hf : FL y.cls index c k) (ho : (mK M o).1 = c + 1) (hv : ∀ Γ : Gx, fV Γ M c o k = tv Γ v) (h : AW l Γ y cc nl rt d t0 w0 (pc + 3) lv (v :: st) M r M1) : AW l Γ y cc nl rt d t0 w0 pc lv (.ref o :: st) M r M1 := by
  obtain ⟨C, T, ⟨c1, c2, -, -⟩, c5, c6, c7⟩ := hf
  refine AW.rd h (fun {p e R s m args below meth c' H locs cells slots Q ls} G g1 _ w => ?_)
  have hown := g1.own ho (by omega) (by omega)
  obtain ⟨cell, q1, q2, q3, q4⟩ := (g1.2.1 o hown.1 hown.2).1 c ho c5
  obtain ⟨hS, hfc, kC, hkC, hkind⟩ := G.2.2.2.2.2.2.2.2.1.1 c _ c1
  obtain ⟨cf, kf, fi, f, hi, hsl⟩ := hS k c6
  refine W.getf G.1 G.2.1 G.2.2.2.2.2.2.1 (G.2.2.2.2.2.2.2.1 _ c7) hi (u_facts hfc hkC (u_lays G.2.2.2.2.2.2.2.1 c2 c6) hi).1 q1 (by rw [q3]; exact fun h => by cases h) (v := tv Γ v) ?_ rfl rfl hd w
  rw [hsl, q4 k c6, hv]
theorem a_getI {index c k o : Nat} {v : Int32} (hd : decode cc pc = .ok (.getfield index, 3)) (hf : FL y.cls index c k) (hk : isR c k = false) (ho : fI M c o k = some v) (h : AW l Γ y cc nl rt d t0 w0 (pc + 3) lv (.int v :: st) M r M1) : AW l Γ y cc nl rt d t0 w0 pc lv (.ref o :: st) M r M1 := by
  unfold fI at ho
  split at ho
  · rename_i hc
    cases ho
    exact a_get hd hf hc (fun Γ => by unfold fV; rw [hk]; rfl) h
  · cases ho
theorem a_getR {index c k o v : Nat} (hd : decode cc pc = .ok (.getfield index, 3)) (hf : FL y.cls index c k) (hk : isR c k = true) (ho : fR M c o k = some v) (h : AW l Γ y cc nl rt d t0 w0 (pc + 3) lv (.ref v :: st) M r M1) : AW l Γ y cc nl rt d t0 w0 pc lv (.ref o :: st) M r M1 := by
  unfold fR at ho
  split at ho
  · rename_i hc
    exact a_get hd hf hc (fun Γ => by unfold fV; rw [hk, ho]; rfl) h
  · cases ho
theorem t_obj {cN N : Nat} {iS : Nat → Nat} {a : Nat} {V V1 : Nat → Value} {cell : Cell} {H1 : Heap} {k : Nat} {v : Value} (q2 : cell.cls = cN) (q3 : cell.vm = .none) (q4 : ∀ k, k < N → cell.slots[iS k]? = some (V k)) (hap : ∀ a b, a < N → b < N → a ≠ b → iS a ≠ iS b) (hk : k < N) (e1 : H1[a]? = some (cell.setSlot (iS k) v)) (hV : ∀ j, j < N → updV V k v j = V1 j) : t_OB a cN N iS H1 V1 :=
  t_OB.to (V := updV V k v) ⟨_, e1, q2, q3, t_set q4 hap hk v⟩ hV
set_option maxHeartbeats 1000000 in
theorem a_put {index c k o : Nat} {v : Value} (hd : decode cc pc = .ok (.putfield index, 3)) (hf : FP y.cls index c k) (ho : (mK M o).1 = c + 1) (hfit : narrow (fT c k) v = v) (hfit2 : ∀ Γ : Gx, narrow (fT c k) (tv Γ v) = tv Γ v ∧ fits (fT c k) (tv Γ v) = true) (hin : y.name = "<init>" ∨ ∀ (C : String) (T : u_T), CF c C T → (T k).2.2.2 = false)
    (hT : mT M2 = mT M) (hW : mW M2 = mW M) (hK : mK M2 = mK M) (hi : ∀ x, x ≠ o → mI M2 x = mI M x) (hj : ∀ x, x ≠ o → mJ M2 x = mJ M x) (hr : ∀ x, x ≠ o → mR M2 x = mR M x) (hV : ∀ (Γ : Gx) (j : Nat), updV (fV Γ M c o) k (tv Γ v) j = fV Γ M2 c o j)
    (h : AW l Γ y cc nl rt d t0 w0 (pc + 3) lv st M2 r M1) : AW l Γ y cc nl rt d t0 w0 pc lv (v :: .ref o :: st) M r M1 := by
  obtain ⟨C, T, cF, c5, c6, c7, c8⟩ := hf
  obtain ⟨c1, c2, c3, c4⟩ := id cF
  refine AW.wr hT hW h (fun {p e R s m args below meth c' H locs cells slots Q ls} G g1 g2 _ _ w => ?_)
  have hown := g1.own ho (by omega) (by omega)
  have hts := G.2.2.2.2.2.2.2.1
  obtain ⟨cell, q1, q2, q3, q4⟩ := (g1.2.1 o hown.1 hown.2).1 c ho c5
  have hap := va_apart (own := y.cls) hts c2 (fT c) c3 c4 G.2.2.2.2.2.2.2.2.1 c1
  obtain ⟨hS, hfc, kC, hkC, hkind⟩ := G.2.2.2.2.2.2.2.2.1.1 c _ c1
  obtain ⟨cf, kf, fi, f, hi2, hsl⟩ := hS k c6
  have hst := (u_facts hfc hkC (u_lays hts c2 c6) hi2).1
  have fin : ∀ H1 : Heap, H1[ad Γ o]? = some (cell.setSlot f.slot (tv Γ v)) → H1.size = H.size → (∀ q, q ≠ ad Γ o → H1[q]? = H[q]?) → mRep Γ M2 H1 := fun H1 e1 e2 e3 => by
    refine g1.put hown hT hK hi hj hr e2 e3 ⟨fun c' hc' hl' => ?_, fun h20 => ?_⟩
    · rw [hK, ho] at hc'
      have ec : c' = c := by omega
      subst ec
      rw [hsl] at e1
      exact t_obj q2 q3 q4 hap c6 e1 (fun j _ => hV Γ j)
    · rw [hK, ho] at h20
      omega
  rcases c8 with hfin | ⟨hfin, hdecl⟩
  · have hlay := hts _ (c2 _ (u_in_lay c6))
    unfold u_lay at hlay
    rw [if_neg (by rw [hfin]; decide)] at hlay
    have h6 := u_store hfc hkC hkind hlay hi2 (c3 k c6) (hfit2 Γ).1 (hfit2 Γ).2
    refine W.putK G.1 G.2.1 (f := f) ⟨G.2.2.2.2.2.2.1, hts _ c7, ⟨_, _, _, hi2⟩, hst⟩ (by rw [q2]; exact h6) q1 q3 (by rw [hsl]; exact k2_hasslot (q4 k c6)) rfl rfl hd fun H1 e1 e2 e3 => ?_
    exact w H1 _ (fin H1 e1 e2 e3) (g2.put e2 e3 (gF_own hown.1))
  · rcases hin with hin | hin
    · have h6 := u_fits hfc hkC hkind (u_lays hts c2 c6) hi2 (c3 k c6) (hfit2 Γ).1 (hfit2 Γ).2
      have hcf : m.cls = cf := by
        have hlay := hts _ (c2 _ (u_in_lay c6))
        unfold u_lay at hlay
        rw [if_pos hfin] at hlay
        obtain ⟨_, _, c9, _, _, _, -, -, hf9, -, -, -, hown2, -⟩ := Cond.laysFinal_spec hlay
        have e1 : c9 = cf := by have := hi2.symm.trans hf9; simp at this; exact this.1.symm
        rw [hdecl] at hown2
        rw [← e1]
        exact Option.some.inj (G.2.2.2.2.2.2.1.symm.trans hown2)
      refine W.putFinK G.1 G.2.1 G.2.2.2.2.2.2.1 (hts _ c7) hi2 hst hcf (G.2.2.2.2.2.1.trans hin) (by rw [q2]; exact h6) q1 q3 (by rw [hsl]; exact k2_hasslot (q4 k c6)) rfl rfl hd fun H1 e1 e2 e3 => ?_
      exact w H1 _ (fin H1 e1 e2 e3) (g2.put e2 e3 (gF_own hown.1))
    · exact absurd (hin C T cF) (by rw [hfin]; decide)
theorem updV_fI {Γ : Gx} {M : Mm} {c o k : Nat} {v : Int32} (hk : isR c k = false) (j : Nat) : updV (fV Γ M c o) k (tv Γ (.int v)) j = fV Γ (sI M o k v) c o j := by
  unfold updV fV
  by_cases e : j = k
  · subst e
    simp [hk, tv, sI, mI, u2]
  · simp [e, sI, mI, mR, u2]
theorem updV_fR {Γ : Gx} {M : Mm} {c o k v : Nat} (hk : isR c k = true) (j : Nat) : updV (fV Γ M c o) k (tv Γ (.ref v)) j = fV Γ (sR M o k (some v)) c o j := by
  unfold updV fV
  by_cases e : j = k
  · subst e
    simp [hk, tv, sR, mR, u2, va_rf]
  · simp [e, sR, mI, mR, u2]
theorem u2_ne {α : Type} {f : Nat → Nat → α} {a k x : Nat} {v : α} (h : x ≠ a) : u2 f a k v x = f x := by
  funext j
  simp [u2, h]
theorem a_putI {index c k o : Nat} {v : Int32} (hd : decode cc pc = .ok (.putfield index, 3)) (hf : FP y.cls index c k) (hk : fT c k = .int) (hin : y.name = "<init>" ∨ ∀ (C : String) (T : u_T), CF c C T → (T k).2.2.2 = false) (ho : pI M c o k v = some M2) (h : AW l Γ y cc nl rt d t0 w0 (pc + 3) lv st M2 r M1) : AW l Γ y cc nl rt d t0 w0 pc lv (.int v :: .ref o :: st) M r M1 := by
  unfold pI at ho
  split at ho
  · rename_i hc
    cases ho
    exact a_put (M2 := sI M o k v) hd hf hc (by rw [hk]; rfl) (fun Γ => by rw [hk]; exact ⟨rfl, rfl⟩) hin rfl rfl rfl (fun x hx => u2_ne hx) (fun _ _ => rfl) (fun _ _ => rfl) (fun Γ j => updV_fI (by unfold isR; rw [hk]; rfl) j) h
  · cases ho
theorem a_putZ {index c k o : Nat} {v : Int32} (hd : decode cc pc = .ok (.putfield index, 3)) (hf : FP y.cls index c k) (hk : fT c k = .boolean) (hin : y.name = "<init>" ∨ ∀ (C : String) (T : u_T), CF c C T → (T k).2.2.2 = false) (ho : pZ M c o k v = some M2) (h : AW l Γ y cc nl rt d t0 w0 (pc + 3) lv st M2 r M1) : AW l Γ y cc nl rt d t0 w0 pc lv (.int v :: .ref o :: st) M r M1 := by
  unfold pZ at ho
  split at ho
  · rename_i hc
    cases ho
    have hv : v = 0 ∨ v = 1 := by
      obtain ⟨j, hj, e⟩ := pk_andE v (m := 1) 1 rfl
      rw [hc.2] at e
      rcases (show j = 0 ∨ j = 1 by omega) with rfl | rfl
      · exact Or.inl e
      · exact Or.inr e
    exact a_put (M2 := sI M o k v) hd hf hc.1 (by rw [hk]; rcases hv with rfl | rfl <;> rfl) (fun Γ => by rw [hk]; rcases hv with rfl | rfl <;> exact ⟨rfl, rfl⟩) hin rfl rfl rfl (fun x hx => u2_ne hx) (fun _ _ => rfl) (fun _ _ => rfl) (fun Γ j => updV_fI (by unfold isR; rw [hk]; rfl) j) h
  · cases ho
theorem a_putR {index c k o v : Nat} (hd : decode cc pc = .ok (.putfield index, 3)) (hf : FP y.cls index c k) (hk : isR c k = true) (hin : y.name = "<init>" ∨ ∀ (C : String) (T : u_T), CF c C T → (T k).2.2.2 = false) (ho : pR M c o k v = some M2) (h : AW l Γ y cc nl rt d t0 w0 (pc + 3) lv st M2 r M1) : AW l Γ y cc nl rt d t0 w0 pc lv (.ref v :: .ref o :: st) M r M1 := by
  unfold pR at ho
  split at ho
  · rename_i hc
    cases ho
    have hn : ∀ a : Nat, narrow (fT c k) (.ref a) = .ref a ∧ fits (fT c k) (.ref a) = true := by
      intro a
      unfold isR at hk
      cases hT : fT c k <;> rw [hT] at hk <;> first | (simp [FieldType.isReference] at hk; done) | exact ⟨rfl, rfl⟩
    exact a_put (M2 := sR M o k (some v)) hd hf hc (hn v).1 (fun Γ => hn _) hin rfl rfl rfl (fun _ _ => rfl) (fun _ _ => rfl) (fun x hx => u2_ne hx) (fun Γ j => updV_fR hk j) h
  · cases ho
/-! arrays -/
theorem gY_at {Γ : Gx} {s : State} (h : gVF Γ s) (k : Nat) {ty : FieldType} (e : (gY Γ)[k]? = some (gA Γ (20 + k), ty)) : ArrOfT s (gA Γ (20 + k)) ty := (h.1.2 k _ e).1
/-- an int array, read -/
theorem a_iald {o : Nat} {i v : Int32} (hd : decode cc pc = .ok (.iaload, 1)) (ho : aI M o i = some v) (h : AW l Γ y cc nl rt d t0 w0 (pc + 1) lv (.int v :: st) M r M1) : AW l Γ y cc nl rt d t0 w0 pc lv (.int i :: .ref o :: st) M r M1 := by
  unfold aI at ho
  split at ho
  · rename_i hc
    cases ho
    obtain ⟨hk, hi, hl⟩ := hc
    refine AW.rd h (fun {p e R s m args below meth c' H locs cells slots Q ls} G g1 g2 w => ?_)
    rcases hk with hk | hk
    · have hown := g1.own hk (by omega) (by omega)
      have e := (g1.2.1 o hown.1 hown.2).2 (by omega)
      rw [hk] at e
      refine W.iald (v := .int (mI M o i.toNatClampNeg)) G.1 G.2.1 e (gY_at G.2.2.2.2.2.2.2.2 0 rfl _ _) (fun q => by cases q) (by rw [arrV_size]; exact fun q => q.elim hi (fun z => by omega)) ?_ rfl rfl hd w
      rw [arrV_read _ _ hl]
      rfl
    · rcases Nat.lt_or_ge o 20 with q | q
      · obtain ⟨⟨a1, a2, a3⟩, -⟩ := g1.2.2.2.1 o q
        rw [a1] at hk hl
        obtain ⟨cell, b1, b2, b3, b4, b5, b6, b7⟩ := (G.2.2.2.2.2.2.2.2.2.2.2.2.2.1 o q hk).kept g2.2.1
        have ea : ad Γ o = gO Γ o := if_pos q
        show W _ _ _ _ _ _ _ _ _ _ _ _ _ _ _ (F0 m pc ls (.int i :: .ref (ad Γ o) :: ts Γ st))
        rw [ea]
        refine W.iald (v := .int (mI M o i.toNatClampNeg)) G.1 G.2.1 b1 b2 b3 (fun q => q.elim hi (fun z => by omega)) ?_ rfl rfl hd w
        rw [b6 _ hl, a2]
      · have := g1.2.2.2.2 o q
        omega
  · cases ho
theorem a_lald {o : Nat} {i : Int32} {v : Int64} (hd : decode cc pc = .ok (.laload, 1)) (ho : aJ M o i = some v) (h : AW l Γ y cc nl rt d t0 w0 (pc + 1) lv (.long v :: st) M r M1) : AW l Γ y cc nl rt d t0 w0 pc lv (.int i :: .ref o :: st) M r M1 := by
  unfold aJ at ho
  split at ho
  · rename_i hc
    cases ho
    obtain ⟨hk, hi, hl⟩ := hc
    refine AW.rd h (fun {p e R s m args below meth c' H locs cells slots Q ls} G g1 g2 w => ?_)
    have hown := g1.own hk (by omega) (by omega)
    have e := (g1.2.1 o hown.1 hown.2).2 (by omega)
    rw [hk] at e
    refine W.lald (v := .long (mJ M o i.toNatClampNeg)) G.1 G.2.1 e (gY_at G.2.2.2.2.2.2.2.2 1 rfl _ _) (fun q => by cases q) (by rw [arrV_size]; exact fun q => q.elim hi (fun z => by omega)) ?_ rfl rfl hd w
    rw [arrV_read _ _ hl]
    rfl
  · cases ho
theorem a_bald {o : Nat} {i v : Int32} (hd : decode cc pc = .ok (.baload, 1)) (ho : aB M o i = some v) (h : AW l Γ y cc nl rt d t0 w0 (pc + 1) lv (.int v :: st) M r M1) : AW l Γ y cc nl rt d t0 w0 pc lv (.int i :: .ref o :: st) M r M1 := by
  unfold aB at ho
  split at ho
  · rename_i hc
    cases ho
    obtain ⟨hk, hi, hl⟩ := hc
    refine AW.rd h (fun {p e R s m args below meth c' H locs cells slots Q ls} G g1 g2 w => ?_)
    rcases Nat.lt_or_ge o 20 with q | q
    · obtain ⟨⟨a1, a2, a3⟩, -⟩ := g1.2.2.2.1 o q
      rw [a1] at hk hl
      obtain ⟨cell, b1, b2, b3, b4, b5, b6, b7⟩ := (G.2.2.2.2.2.2.2.2.2.2.2.2.2.2.1 o q hk).kept g2.2.1
      have ea : ad Γ o = gO Γ o := if_pos q
      show W _ _ _ _ _ _ _ _ _ _ _ _ _ _ _ (F0 m pc ls (.int i :: .ref (ad Γ o) :: ts Γ st))
      rw [ea]
      refine W.bald (v := .int (mI M o i.toNatClampNeg)) G.1 G.2.1 b1 b2 b3 (fun q => q.elim hi (fun z => by omega)) ?_ rfl rfl hd w
      rw [b6 _ hl, a2]
    · have := g1.2.2.2.2 o q
      omega
  · cases ho
theorem gY_ref {Γ : Gx} {t : Nat} (h : 2 ≤ t ∧ t ≤ 6) : ∃ ty, (gY Γ)[t]? = some (gA Γ (20 + t), ty) ∧ ty.isReference = true ∧ (t ≤ 4 → ∃ C, ty = .object C) := by
  obtain ⟨h1, h2⟩ := h
  rcases (show t = 2 ∨ t = 3 ∨ t = 4 ∨ t = 5 ∨ t = 6 by omega) with rfl | rfl | rfl | rfl | rfl
  · exact ⟨_, rfl, rfl, fun _ => ⟨_, rfl⟩⟩
  · exact ⟨_, rfl, rfl, fun _ => ⟨_, rfl⟩⟩
  · exact ⟨_, rfl, rfl, fun _ => ⟨_, rfl⟩⟩
  · exact ⟨_, rfl, rfl, fun h => absurd h (by decide)⟩
  · exact ⟨_, rfl, rfl, fun h => absurd h (by decide)⟩
theorem a_aald {t o : Nat} {i : Int32} {v : Option Nat} (hd : decode cc pc = .ok (.aaload, 1)) (ht : 2 ≤ t ∧ t ≤ 6) (ho : aR M (20 + t) o i = some v) (h : AW l Γ y cc nl rt d t0 w0 (pc + 1) lv (rv v :: st) M r M1) : AW l Γ y cc nl rt d t0 w0 pc lv (.int i :: .ref o :: st) M r M1 := by
  unfold aR at ho
  split at ho
  · rename_i hc
    cases ho
    obtain ⟨hk, hi, hl⟩ := hc
    refine AW.rd h (fun {p e R s m args below meth c' H locs cells slots Q ls} G g1 g2 w => ?_)
    have hown := g1.own hk (by omega) (by omega)
    have e := (g1.2.1 o hown.1 hown.2).2 (by omega)
    rw [hk] at e
    obtain ⟨ty, y1, y2, -⟩ := gY_ref (Γ := Γ) ht
    refine W.aald (v := tv Γ (rv (mR M o i.toNatClampNeg))) (ty := ty) G.1 G.2.1 e (gY_at G.2.2.2.2.2.2.2.2 t y1 _ _) y2 (fun q => by cases q) (by rw [arrV_size]; exact fun q => q.elim hi (fun z => by omega)) ?_ rfl rfl hd w
    rw [arrV_read _ _ hl, tv_rv]
    unfold eV
    rw [if_neg (by omega), if_neg (by omega)]
  · cases ho
theorem a_alen {o : Nat} {v : Int32} (hd : decode cc pc = .ok (.arraylength, 1)) (ho : aL M o = some v) (h : AW l Γ y cc nl rt d t0 w0 (pc + 1) lv (.int v :: st) M r M1) : AW l Γ y cc nl rt d t0 w0 pc lv (.ref o :: st) M r M1 := by
  unfold aL at ho
  split at ho
  · rename_i hc
    cases ho
    refine AW.rd h (fun {p e R s m args below meth c' H locs cells slots Q ls} G g1 g2 w => ?_)
    rcases Nat.lt_or_ge o 20 with q | q
    · obtain ⟨⟨a1, a2, a3⟩, a4⟩ := g1.2.2.2.1 o q
      have ea : ad Γ o = gO Γ o := if_pos q
      show W _ _ _ _ _ _ _ _ _ _ _ _ _ _ _ (F0 m pc ls (.ref (ad Γ o) :: ts Γ st))
      rw [ea]
      rcases (show (mK M o).1 = 30 ∨ (mK M o).1 = 31 by omega) with hk3 | hk3
      · rw [a1] at hk3
        obtain ⟨cell, b1, b2, b3, b4, b5, b6, b7⟩ := (G.2.2.2.2.2.2.2.2.2.2.2.2.2.1 o q hk3).kept g2.2.1
        exact W.alen (n := Int32.ofNat (mK M o).2) G.1 G.2.1 b1 b2 (by rw [b5, a1]) rfl rfl hd w
      · rw [a1] at hk3
        obtain ⟨cell, b1, b2, b3, b4, b5, b6, b7⟩ := (G.2.2.2.2.2.2.2.2.2.2.2.2.2.2.1 o q hk3).kept g2.2.1
        exact W.alen (n := Int32.ofNat (mK M o).2) G.1 G.2.1 b1 b2 (by rw [b5, a1]) rfl rfl hd w
    · have h30 := g1.2.2.2.2 o q
      have hown := g1.own (o := o) rfl (by omega) (by omega)
      have e := (g1.2.1 o hown.1 hown.2).2 (by omega)
      have hK : ∃ t ty, (mK M o).1 = 20 + t ∧ (gY Γ)[t]? = some (gA Γ (20 + t), ty) := by
        rcases (show (mK M o).1 = 20 ∨ (mK M o).1 = 21 ∨ (mK M o).1 = 22 ∨ (mK M o).1 = 23 ∨ (mK M o).1 = 24 ∨ (mK M o).1 = 25 ∨ (mK M o).1 = 26 by omega) with e | e | e | e | e | e | e
        · exact ⟨0, _, e, rfl⟩
        · exact ⟨1, _, e, rfl⟩
        · exact ⟨2, _, e, rfl⟩
        · exact ⟨3, _, e, rfl⟩
        · exact ⟨4, _, e, rfl⟩
        · exact ⟨5, _, e, rfl⟩
        · exact ⟨6, _, e, rfl⟩
      obtain ⟨t, ty, k1, k2⟩ := hK
      rw [k1] at e
      exact W.alen (n := Int32.ofNat (mK M o).2) G.1 G.2.1 e (gY_at G.2.2.2.2.2.2.2.2 t k2 _ _) (by rw [arrV_size]) rfl rfl hd w
  · cases ho
theorem a_iast {o : Nat} {i v : Int32} (hd : decode cc pc = .ok (.iastore, 1)) (ho : tI M o i v = some M2) (h : AW l Γ y cc nl rt d t0 w0 (pc + 1) lv st M2 r M1) : AW l Γ y cc nl rt d t0 w0 pc lv (.int v :: .int i :: .ref o :: st) M r M1 := by
  unfold tI at ho
  split at ho
  · rename_i hc
    cases ho
    obtain ⟨hk, hi, hl⟩ := hc
    refine AW.wr (M2 := sI M o i.toNatClampNeg v) rfl rfl h (fun {p e R s m args below meth c' H locs cells slots Q ls} G g1 g2 _ _ w => ?_)
    have hown := g1.own hk (by omega) (by omega)
    have e := (g1.2.1 o hown.1 hown.2).2 (by omega)
    rw [hk] at e
    refine W.iast G.1 G.2.1 e (gY_at G.2.2.2.2.2.2.2.2 0 rfl _ _) (fun q => by cases q) (by rw [arrV_size]; exact fun q => q.elim hi (fun z => by omega)) rfl rfl hd fun H1 e1 e2 e3 => ?_
    refine w H1 _ (g1.put hown rfl rfl (fun x hx => u2_ne hx) (fun _ _ => rfl) (fun _ _ => rfl) e2 e3 ⟨fun c hc _ => ?_, fun _ => ?_⟩) (g2.put e2 e3 (gF_own hown.1))
    · have : (mK M o).1 = c + 1 := hc
      omega
    · show H1[ad Γ o]? = some (arrV (gA Γ (mK M o).1) (mK M o).2 (eV Γ (sI M o i.toNatClampNeg v) (mK M o).1 o))
      rw [e1, arrV_store, hk]
      congr 2
      funext j
      unfold updV eV
      by_cases ej : j = i.toNatClampNeg
      · simp [ej, sI, mI, u2]
      · simp [ej, sI, mI, u2]
  · cases ho
theorem a_last {o : Nat} {i : Int32} {v : Int64} (hd : decode cc pc = .ok (.lastore, 1)) (ho : tJ M o i v = some M2) (h : AW l Γ y cc nl rt d t0 w0 (pc + 1) lv st M2 r M1) : AW l Γ y cc nl rt d t0 w0 pc lv (.long v :: .int i :: .ref o :: st) M r M1 := by
  unfold tJ at ho
  split at ho
  · rename_i hc
    cases ho
    obtain ⟨hk, hi, hl⟩ := hc
    refine AW.wr (M2 := sJ M o i.toNatClampNeg v) rfl rfl h (fun {p e R s m args below meth c' H locs cells slots Q ls} G g1 g2 _ _ w => ?_)
    have hown := g1.own hk (by omega) (by omega)
    have e := (g1.2.1 o hown.1 hown.2).2 (by omega)
    rw [hk] at e
    refine W.last G.1 G.2.1 e (gY_at G.2.2.2.2.2.2.2.2 1 rfl _ _) (fun q => by cases q) (by rw [arrV_size]; exact fun q => q.elim hi (fun z => by omega)) rfl rfl hd fun H1 e1 e2 e3 => ?_
    refine w H1 _ (g1.put hown rfl rfl (fun _ _ => rfl) (fun x hx => u2_ne hx) (fun _ _ => rfl) e2 e3 ⟨fun c hc _ => ?_, fun _ => ?_⟩) (g2.put e2 e3 (gF_own hown.1))
    · have : (mK M o).1 = c + 1 := hc
      omega
    · show H1[ad Γ o]? = some (arrV (gA Γ (mK M o).1) (mK M o).2 (eV Γ (sJ M o i.toNatClampNeg v) (mK M o).1 o))
      rw [e1, arrV_store, hk]
      congr 2
      funext j
      unfold updV eV
      by_cases ej : j = i.toNatClampNeg
      · simp [ej, sJ, mJ, u2]
      · simp [ej, sJ, mJ, u2]
  · cases ho
theorem eV_ref {Γ : Gx} {M : Mm} {kd o j : Nat} (h : 22 ≤ kd) : eV Γ M kd o j = va_rf ((mR M o j).map (ad Γ)) := by
  unfold eV
  rw [if_neg (by omega), if_neg (by omega)]
/-- which class the elements of an array of kind 20 + t are of -/
def RE (t c : Nat) : Prop := 2 ≤ t ∧ t ≤ 4 ∧ c < 10 ∧ ∀ Γ : Gx, ∃ (C : String) (T : u_T) (N : Nat), vwCl[c]? = some (C, T, N) ∧ (gY Γ)[t]? = some (gA Γ (20 + t), .object C)
set_option maxHeartbeats 1000000 in
theorem a_aast {t c o : Nat} {i : Int32} {v : Option Nat} (hd : decode cc pc = .ok (.aastore, 1)) (ht : RE t c) (ho : tR M (20 + t) c o i v = some M2) (h : AW l Γ y cc nl rt d t0 w0 (pc + 1) lv st M2 r M1) : AW l Γ y cc nl rt d t0 w0 pc lv (rv v :: .int i :: .ref o :: st) M r M1 := by
  unfold tR at ho
  split at ho
  · rename_i hc
    cases ho
    obtain ⟨hk, hi, hl, hvk⟩ := hc
    obtain ⟨ht1, ht2, hc10, hE⟩ := ht
    obtain ⟨C, T, N, y1, y2⟩ := hE Γ
    refine AW.wr (M2 := sR M o i.toNatClampNeg v) rfl rfl h (fun {p e R s m args below meth c' H locs cells slots Q ls} G g1 g2 _ _ w => ?_)
    have hown := g1.own hk (by omega) (by omega)
    have e := (g1.2.1 o hown.1 hown.2).2 (by omega)
    rw [hk] at e
    have hK := G.2.2.2.2.2.2.2.2.1
    have fin : ∀ (H1 : Heap), H1[ad Γ o]? = some ((arrV (gA Γ (20 + t)) (mK M o).2 (eV Γ M (20 + t) o)).setSlot i.toNatClampNeg (tv Γ (rv v))) → H1.size = H.size → (∀ q, q ≠ ad Γ o → H1[q]? = H[q]?) → mRep Γ (sR M o i.toNatClampNeg v) H1 := by
      intro H1 e1 e2 e3
      refine g1.put hown rfl rfl (fun _ _ => rfl) (fun _ _ => rfl) (fun x hx => u2_ne hx) e2 e3 ⟨fun c hc _ => ?_, fun _ => ?_⟩
      · have : (mK M o).1 = c + 1 := hc
        omega
      · show H1[ad Γ o]? = some (arrV (gA Γ (mK M o).1) (mK M o).2 (eV Γ (sR M o i.toNatClampNeg v) (mK M o).1 o))
        rw [e1, arrV_store, hk]
        congr 2
        funext j
        unfold updV
        rw [tv_rv, eV_ref (by omega), eV_ref (by omega)]
        by_cases ej : j = i.toNatClampNeg
        · simp [ej, sR, mR, u2]
        · simp [ej, sR, mR, u2]
    cases v with
    | none => exact va_WaastN G.1 G.2.1 e ((hK.2 t _ y2).1 _ _) (fun q => by cases q) (by rw [arrV_size]; exact fun q => q.elim hi (fun z => by omega)) rfl rfl hd fun H1 e1 e2 e3 => w H1 _ (fin H1 e1 e2 e3) (g2.put e2 e3 (gF_own hown.1))
    | some a =>
      have hka := hvk a rfl
      have hown2 := g1.own hka (by omega) (by omega)
      obtain ⟨cellV, z1, z2, z3, -⟩ := (g1.2.1 a hown2.1 hown2.2).1 c hka hc10
      have hcls := (hK.1 c _ y1).2
      obtain ⟨kA, comp, k1, k2, k3, -⟩ := (hK.2 t _ y2).2
      have hcomp : comp = (gD Γ).1 c := Option.some.inj (k3.symm.trans hcls.1)
      subst hcomp
      obtain ⟨kC, hkC, -⟩ := hcls.2
      exact W.aast G.1 G.2.1 e (fun q h => by cases h) (fun h => by cases h) k1 k2 rfl hkC ⟨hi, by rw [arrV_size]; exact hl⟩ z1 (fun q h => by rw [z3] at h; cases h) (by rw [z2]; exact hkC) (by rw [z2]; exact va_assign hcls) rfl rfl hd fun H1 e1 e2 e3 => w H1 _ (fin H1 e1 e2 e3) (g2.put e2 e3 (gF_own hown.1))
  · cases ho
/-! new cells -/
theorem u1_ne {α : Type} {f : Nat → α} {a x : Nat} {v : α} (h : x ≠ a) : u1 f a v x = f x := if_neg h
theorem u1_eq {α : Type} {f : Nat → α} {a : Nat} {v : α} : u1 f a v a = v := if_pos rfl
/-- class c can be made by the row index of the class own -/
def NW (own : String) (index c : Nat) : Prop := c < 10 ∧ ∃ (C : String) (T : u_T), CF c C T ∧ Cond.classLink own index C ∈ gw ∧ Cond.instantiable C (nF c) ∈ gw ∧ Cond.initialized C ∈ gw
theorem fT_zero {Γ : Gx} {M : Mm} {kd n w c k : Nat} (h : fT c k = .int ∨ fT c k = .boolean ∨ (fT c k).isReference = true) : defaultValue (fT c k) = fV Γ (sN M kd n w) c (mT M) k := by
  have e1 : mI (sN M kd n w) (mT M) k = 0 := by simp [sN, mI, u1]
  have e2 : mR (sN M kd n w) (mT M) k = none := by simp [sN, mR, u1]
  unfold fV isR
  rw [e1, e2]
  rcases h with h | h | h
  · rw [h]; rfl
  · rw [h]; rfl
  · rw [if_pos h]
    cases hT : fT c k <;> rw [hT] at h <;> first | (simp [FieldType.isReference] at h; done) | rfl
theorem a_new {index c w : Nat} {q : Nat × Mm} (hd : decode cc pc = .ok (.new index, 3)) (hN : NW y.cls index c) (hw : w = nF c) (hz : ∀ k, k < nF c → fT c k = .int ∨ fT c k = .boolean ∨ (fT c k).isReference = true) (ho : nO M c w = some q) (h : AW l Γ y cc nl rt d t0 w0 (pc + 3) lv (.ref q.1 :: st) q.2 r M1) : AW l Γ y cc nl rt d t0 w0 pc lv st M r M1 := by
  subst hw
  unfold nO at ho
  cases ho
  obtain ⟨hc10, C, T, ⟨c1, c2, c3, -⟩, n1, n2, n3⟩ := hN
  refine AW.nw (M2 := sN M (c + 1) 0 (nF c)) (dc := 1) (dw := nF c) rfl rfl h (fun {p e R s m args below meth c' H locs cells slots Q ls} G g1 g2 hroom w => ?_)
  have hts := G.2.2.2.2.2.2.2.1
  have hKn := G.2.2.2.2.2.2.2.2.1.1 c _ c1
  refine W.newcK G.1 G.2.1 G.2.2.2.2.2.2.1 (hts _ n1) (hts _ n2) (hts _ n3) rfl hd hroom.1 hroom.2 hKn.2.1 rfl (fun H1 kC hkC hcell hz1 hq => ?_)
  have hborn := u_born (fT c) hts c2 hKn hkC hcell c3
  have hR : mRep Γ (sN M (c + 1) 0 (nF c)) H1 := by
    refine g1.new rfl (fun x hx => u1_ne hx) (fun x hx => u1_ne hx) (fun x hx => u1_ne hx) (fun x hx => u1_ne hx) ?_ hz1 hq ⟨fun c9 hc9 _ => ?_, fun h20 => ?_⟩
    · show (u1 (mK M) (mT M) (c + 1, 0) (mT M)).1 < 30
      rw [u1_eq]
      show c + 1 < 30
      omega
    · have e9 : (u1 (mK M) (mT M) (c + 1, 0) (mT M)).1 = c9 + 1 := hc9
      rw [u1_eq] at e9
      have : c9 = c := by have : c + 1 = c9 + 1 := e9; omega
      subst this
      rw [g1.adT]
      exact t_OB.to hborn (fun k hk => fT_zero (hz k hk))
    · have e9 : 20 ≤ (u1 (mK M) (mT M) (c + 1, 0) (mT M)).1 := h20
      rw [u1_eq] at e9
      have : 20 ≤ c + 1 := e9
      omega
  have w1 := w H1 hR (va_S.new g2 (by omega) hq)
  have e9 : tv Γ (.ref (mT M)) = .ref H.size := by show Value.ref (ad Γ (mT M)) = _; rw [g1.adT]
  have w2 : W p l e R s m args below meth c' H1 locs (cells + 1) (slots + nF c) Q (F0 m (pc + 3) ls (tv Γ (.ref (mT M)) :: ts Γ st)) := w1
  rw [e9] at w2
  exact w2
end RULES2
