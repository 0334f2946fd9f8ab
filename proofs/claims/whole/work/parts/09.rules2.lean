/-! rows that read and write the memory, make cells, call -/
section RULES2
variable {l : Launch} {Γ : Gx} {y : MethodName} {cc : ByteArray} {nl : Nat} {rt : Option FieldType} {d t0 w0 pc : Nat} {lv : List (Nat × Value)} {st : List Value} {M M1 M2 : Mm} {r : Option Value}
/-- a read: the memory stays -/
theorem AW.rd {pc1 : Nat} {st1 : List Value} (h : AW l Γ y cc nl rt d t0 w0 pc1 lv st1 M r M1)
    (k : ∀ {p : Program} {e : Env} {R : Room} {s : State} {m : MethodId} {args : Array Value} {below : List Frame} {meth : Method} {c : Code} {H : Heap} {locs : List Loc} {cells slots : Nat} {Q : State → Prop} {ls : Array Slot}, gCt Γ y cc nl rt p s m args meth c → mRep Γ M H → va_S (gF Γ) s.heap H locs →
      W p l e R s m args below meth c H locs cells slots Q (F0 m pc1 ls (ts Γ st1)) → W p l e R s m args below meth c H locs cells slots Q (F0 m pc ls (ts Γ st))) : AW l Γ y cc nl rt d t0 w0 pc lv st M r M1 :=
  ⟨h.1, fun p e R s m args below meth c H locs cells slots ls G h1 h2 h3 h4 h5 => k G h3 h4 (h.2 p e R s m args below meth c H locs cells slots ls G h1 h2 h3 h4 h5)⟩
/-- a write: cells and slots stay -/
theorem AW.wr {pc1 : Nat} {st1 : List Value} (eT : mT M2 = mT M) (eW : mW M2 = mW M) (h : AW l Γ y cc nl rt d t0 w0 pc1 lv st1 M2 r M1)
    (k : ∀ {p : Program} {e : Env} {R : Room} {s : State} {m : MethodId} {args : Array Value} {below : List Frame} {meth : Method} {c : Code} {H : Heap} {locs : List Loc} {cells slots : Nat} {Q : State → Prop} {ls : Array Slot}, gCt Γ y cc nl rt p s m args meth c → mRep Γ M H → va_S (gF Γ) s.heap H locs → (d ≤ R.frames ∧ 64 * d ≤ R.locals) → ls.size = nl →
      (∀ (H1 : Heap) (locs1 : List Loc), mRep Γ M2 H1 → va_S (gF Γ) s.heap H1 locs1 → W p l e R s m args below meth c H1 locs1 cells slots Q (F0 m pc1 ls (ts Γ st1))) → W p l e R s m args below meth c H locs cells slots Q (F0 m pc ls (ts Γ st))) : AW l Γ y cc nl rt d t0 w0 pc lv st M r M1 :=
  ⟨by rw [← eT, ← eW]; exact h.1, fun p e R s m args below meth c H locs cells slots ls G h1 h2 h3 h4 h5 => k G h3 h4 ⟨h1.1, h1.2.1⟩ h5.1 (fun H1 locs1 g1 g2 => h.2 p e R s m args below meth c H1 locs1 cells slots ls G h1 (by rw [eT, eW]; exact h2) g1 g2 h5)⟩
/-- cells made -/
theorem AW.nw {pc1 dc dw : Nat} {st1 : List Value} (eT : mT M2 = mT M + dc) (eW : mW M2 = mW M + dw) (h : AW l Γ y cc nl rt d t0 w0 pc1 lv st1 M2 r M1)
    (k : ∀ {p : Program} {e : Env} {R : Room} {s : State} {m : MethodId} {args : Array Value} {below : List Frame} {meth : Method} {c : Code} {H : Heap} {locs : List Loc} {cells slots : Nat} {Q : State → Prop} {ls : Array Slot}, gCt Γ y cc nl rt p s m args meth c → mRep Γ M H → va_S (gF Γ) s.heap H locs → (cells + dc ≤ R.cells ∧ slots + dw ≤ R.slots) →
      (∀ (H1 : Heap), mRep Γ M2 H1 → va_S (gF Γ) s.heap H1 locs → W p l e R s m args below meth c H1 locs (cells + dc) (slots + dw) Q (F0 m pc1 ls (ts Γ st1))) → W p l e R s m args below meth c H locs cells slots Q (F0 m pc ls (ts Γ st))) : AW l Γ y cc nl rt d t0 w0 pc lv st M r M1 :=
  ⟨⟨by have := h.1.1; omega, by have := h.1.2; omega⟩, fun p e R s m args below meth c H locs cells slots ls G h1 h2 h3 h4 h5 => k G h3 h4 ⟨by have := h.1.1; have := h1.2.2.1; omega, by have := h.1.2; have := h1.2.2.2; omega⟩ (fun H1 g1 g2 => h.2 p e R s m args below meth c H1 locs (cells + dc) (slots + dw) ls G h1 ⟨by omega, by omega⟩ g1 g2 h5)⟩
/-- a new cell is beyond what was there -/
theorem va_S.new {A : Nat → Prop} {H0 H H1 : Heap} {locs : List Loc} (h : va_S A H0 H locs) (z : H.size ≤ H1.size) (oq : ∀ q : Nat, q < H.size → H1[q]? = H[q]?) : va_S A H0 H1 locs :=
  ⟨Nat.le_trans h.1 z, fun q h1 h2 => (oq q (Nat.lt_of_lt_of_le h1 h.1)).trans (h.2.1 q h1 h2), h.2.2⟩
/-- a word that links a field: class c's k-th -/
def FL (own : String) (index c k : Nat) : Prop := ∃ (C : String) (T : u_T), CF c C T ∧ c < 10 ∧ k < nF c ∧ Cond.fieldLink own index (T k).1 (T k).2.1 (T k).2.2.1 ∈ gw
/-- and may be written anywhere: it isn't final -/
def FP (own : String) (index c k : Nat) : Prop := ∃ (C : String) (T : u_T), CF c C T ∧ c < 10 ∧ k < nF c ∧ Cond.fieldLink own index (T k).1 (T k).2.1 (T k).2.2.1 ∈ gw ∧ ((T k).2.2.2 = false ∨ ((T k).2.2.2 = true ∧ (T k).1 = own))
theorem a_get {index c k o : Nat} {v : Value} (hd : decode cc pc = .ok (.getfield index, 3)) (hf : FL y.cls index c k) (ho : (mK M o).1 = c + 1) (hv : ∀ Γ : Gx, fV Γ M c o k = tv Γ v) (h : AW l Γ y cc nl rt d t0 w0 (pc + 3) lv (v :: st) M r M1) : AW l Γ y cc nl rt d t0 w0 pc lv (.ref o :: st) M r M1 := by
  obtain ⟨C, T, ⟨c1, c2, -, -⟩, c5, c6, c7⟩ := hf
  refine AW.rd h (fun {p e R s m args below meth c' H locs cells slots Q ls} G g1 _ w => ?_)
  have hown := g1.own ho (by omega) (by omega)
  obtain ⟨cell, q1, q2, q3, q4⟩ := (g1.2.1 o hown.1 hown.2).1 c ho c5
  obtain ⟨hS, hfc, kC, hkC, hkind⟩ := G.2.2.2.2.2.2.2.2.1.1 c _ c1
  obtain ⟨cf, kf, fi, f, hi, hsl⟩ := hS k c6
  refine W.getf G.1 G.2.1 G.2.2.2.2.2.2.1 (G.2.2.2.2.2.2.2.1 _ c7) hi (u_facts hfc hkC (u_lays G.2.2.2.2.2.2.2.1 c2 c6) hi).1 q1 (by rw [q3]; exact fun h => by cases h) (v := tv Γ v) ?_ rfl rfl hd w
  rw [hsl, q4 k c6, hv]
theorem a_getI {index c k o : Nat} {v : Int32} (hd : decode cc pc = .ok (.getfield index, 3)) (hf : FL y.cls index c k) (hk : isR c k = false) (ho : fI M c o k = some v) (h : AW l Γ y cc nl rt d t0 w0 (pc + 3) lv (.int v :: st) M r M1) : AW l Γ y cc nl rt d t0 w0 pc lv (.ref o :: st) M r M1 := by
  unfold fI at ho
  split at ho
  · rename_i hc
    cases ho
    exact a_get hd hf hc (fun Γ => by unfold fV; rw [hk]; rfl) h
  · cases ho
theorem a_getR {index c k o v : Nat} (hd : decode cc pc = .ok (.getfield index, 3)) (hf : FL y.cls index c k) (hk : isR c k = true) (ho : fR M c o k = some v) (h : AW l Γ y cc nl rt d t0 w0 (pc + 3) lv (.ref v :: st) M r M1) : AW l Γ y cc nl rt d t0 w0 pc lv (.ref o :: st) M r M1 := by
  unfold fR at ho
  split at ho
  · rename_i hc
    exact a_get hd hf hc (fun Γ => by unfold fV; rw [hk, ho]; rfl) h
  · cases ho
theorem t_obj {cN N : Nat} {iS : Nat → Nat} {a : Nat} {V V1 : Nat → Value} {cell : Cell} {H1 : Heap} {k : Nat} {v : Value} (q2 : cell.cls = cN) (q3 : cell.vm = .none) (q4 : ∀ k, k < N → cell.slots[iS k]? = some (V k)) (hap : ∀ a b, a < N → b < N → a ≠ b → iS a ≠ iS b) (hk : k < N) (e1 : H1[a]? = some (cell.setSlot (iS k) v)) (hV : ∀ j, j < N → updV V k v j = V1 j) : t_OB a cN N iS H1 V1 :=
  t_OB.to (V := updV V k v) ⟨_, e1, q2, q3, t_set q4 hap hk v⟩ hV
set_option maxHeartbeats 1000000 in
theorem a_put {index c k o : Nat} {v : Value} (hd : decode cc pc = .ok (.putfield index, 3)) (hf : FP y.cls index c k) (ho : (mK M o).1 = c + 1) (hfit : narrow (fT c k) v = v) (hfit2 : ∀ Γ : Gx, narrow (fT c k) (tv Γ v) = tv Γ v ∧ fits (fT c k) (tv Γ v) = true) (hin : y.name = "<init>" ∨ ∀ (C : String) (T : u_T), CF c C T → (T k).2.2.2 = false)
    (hT : mT M2 = mT M) (hW : mW M2 = mW M) (hK : mK M2 = mK M) (hi : ∀ x, x ≠ o → mI M2 x = mI M x) (hj : ∀ x, x ≠ o → mJ M2 x = mJ M x) (hr : ∀ x, x ≠ o → mR M2 x = mR M x) (hV : ∀ (Γ : Gx) (j : Nat), updV (fV Γ M c o) k (tv Γ v) j = fV Γ M2 c o j)
    (h : AW l Γ y cc nl rt d t0 w0 (pc + 3) lv st M2 r M1) : AW l Γ y cc nl rt d t0 w0 pc lv (v :: .ref o :: st) M r M1 := by
  obtain ⟨C, T, cF, c5, c6, c7, c8⟩ := hf
  obtain ⟨c1, c2, c3, c4⟩ := id cF
  refine AW.wr hT hW h (fun {p e R s m args below meth c' H locs cells slots Q ls} G g1 g2 _ _ w => ?_)
  have hown := g1.own ho (by omega) (by omega)
  have hts := G.2.2.2.2.2.2.2.1
  obtain ⟨cell, q1, q2, q3, q4⟩ := (g1.2.1 o hown.1 hown.2).1 c ho c5
  have hap := va_apart (own := y.cls) hts c2 (fT c) c3 c4 G.2.2.2.2.2.2.2.2.1 c1
  obtain ⟨hS, hfc, kC, hkC, hkind⟩ := G.2.2.2.2.2.2.2.2.1.1 c _ c1
  obtain ⟨cf, kf, fi, f, hi2, hsl⟩ := hS k c6
  have hst := (u_facts hfc hkC (u_lays hts c2 c6) hi2).1
  have fin : ∀ H1 : Heap, H1[ad Γ o]? = some (cell.setSlot f.slot (tv Γ v)) → H1.size = H.size → (∀ q, q ≠ ad Γ o → H1[q]? = H[q]?) → mRep Γ M2 H1 := fun H1 e1 e2 e3 => by
    refine g1.put hown hT hK hi hj hr e2 e3 ⟨fun c' hc' hl' => ?_, fun h20 => ?_⟩
    · rw [hK, ho] at hc'
      have ec : c' = c := by omega
      subst ec
      rw [hsl] at e1
      exact t_obj q2 q3 q4 hap c6 e1 (fun j _ => hV Γ j)
    · rw [hK, ho] at h20
      omega
  rcases c8 with hfin | ⟨hfin, hdecl⟩
  · have hlay := hts _ (c2 _ (u_in_lay c6))
    unfold u_lay at hlay
    rw [if_neg (by rw [hfin]; decide)] at hlay
    have h6 := u_store hfc hkC hkind hlay hi2 (c3 k c6) (hfit2 Γ).1 (hfit2 Γ).2
    refine W.putK G.1 G.2.1 (f := f) ⟨G.2.2.2.2.2.2.1, hts _ c7, ⟨_, _, _, hi2⟩, hst⟩ (by rw [q2]; exact h6) q1 q3 (by rw [hsl]; exact k2_hasslot (q4 k c6)) rfl rfl hd fun H1 e1 e2 e3 => ?_
    exact w H1 _ (fin H1 e1 e2 e3) (g2.put e2 e3 (gF_own hown.1))
  · rcases hin with hin | hin
    · have h6 := u_fits hfc hkC hkind (u_lays hts c2 c6) hi2 (c3 k c6) (hfit2 Γ).1 (hfit2 Γ).2
      have hcf : m.cls = cf := by
        have e1 := (State.fieldFound?_spec hi2).1
        have hlay := hts _ (c2 _ (u_in_lay c6))
        unfold u_lay at hlay
        rw [if_pos hfin] at hlay
        obtain ⟨x1, x2, cf', kf', fi', fd', r1, r2, hi', hst', hfn', hcast', hcl, -⟩ := Cond.laysFinal_spec hlay
        sorry
      refine W.putFinK G.1 G.2.1 G.2.2.2.2.2.2.1 (hts _ c7) hi2 hst hcf (G.2.2.2.2.2.1.trans hin) (by rw [q2]; exact h6) q1 q3 (by rw [hsl]; exact k2_hasslot (q4 k c6)) rfl rfl hd fun H1 e1 e2 e3 => ?_
      exact w H1 _ (fin H1 e1 e2 e3) (g2.put e2 e3 (gF_own hown.1))
    · exact absurd (hin C T cF) (by rw [hfin]; decide)
theorem zz_wide {p : Program} {e : Env} {R : Room} {s : State} {m : MethodId} {args : Array Value} {below : List Frame} {meth : Method} {c : Code} {T : State} {locs : List Loc} {cells slots : Nat} (X : Stand p l e R s m args below meth c T locs cells slots) : True := by
  have := @Jvm.Stand.multianewarray2F
  trivial
end RULES2
