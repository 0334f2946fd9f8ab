/-! the rows: an instruction each, over AW -/
section RULES
variable {l : Launch} {Γ : Gx} {y : MethodName} {cc : ByteArray} {nl : Nat} {rt : Option FieldType} {d t0 w0 pc : Nat} {lv : List (Nat × Value)} {st : List Value} {M M1 : Mm} {r : Option Value}
theorem AW.step1 {pc1 : Nat} {st1 : List Value} (h : AW l Γ y cc nl rt d t0 w0 pc1 lv st1 M r M1)
    (k : ∀ {p : Program} {e : Env} {R : Room} {s : State} {m : MethodId} {args : Array Value} {below : List Frame} {meth : Method} {c : Code} {H : Heap} {locs : List Loc} {cells slots : Nat} {Q : State → Prop} {ls : Array Slot}, gCt Γ y cc nl rt p s m args meth c → lv_has ls nl (tl Γ lv) →
      W p l e R s m args below meth c H locs cells slots Q (F0 m pc1 ls (ts Γ st1)) → W p l e R s m args below meth c H locs cells slots Q (F0 m pc ls (ts Γ st))) : AW l Γ y cc nl rt d t0 w0 pc lv st M r M1 :=
  ⟨h.1, fun p e R s m args below meth c H locs cells slots ls G h1 h2 h3 h4 h5 => k G h5 (h.2 p e R s m args below meth c H locs cells slots ls G h1 h2 h3 h4 h5)⟩
theorem AW.lc {pc1 : Nat} {lv1 : List (Nat × Value)} {st1 : List Value} (h : AW l Γ y cc nl rt d t0 w0 pc1 lv1 st1 M r M1)
    (k : ∀ {p : Program} {e : Env} {R : Room} {s : State} {m : MethodId} {args : Array Value} {below : List Frame} {meth : Method} {c : Code} {H : Heap} {locs : List Loc} {cells slots : Nat} {Q : State → Prop} {ls : Array Slot}, gCt Γ y cc nl rt p s m args meth c → lv_has ls nl (tl Γ lv) →
      (∀ ls1 : Array Slot, lv_has ls1 nl (tl Γ lv1) → W p l e R s m args below meth c H locs cells slots Q (F0 m pc1 ls1 (ts Γ st1))) → W p l e R s m args below meth c H locs cells slots Q (F0 m pc ls (ts Γ st))) : AW l Γ y cc nl rt d t0 w0 pc lv st M r M1 :=
  ⟨h.1, fun p e R s m args below meth c H locs cells slots ls G h1 h2 h3 h4 h5 => k G h5 (fun ls1 hl1 => h.2 p e R s m args below meth c H locs cells slots ls1 G h1 h2 h3 h4 hl1)⟩
theorem AW.br {P : Prop} {pc1 pc2 : Nat} {st1 st2 : List Value} (ht : P → AW l Γ y cc nl rt d t0 w0 pc1 lv st1 M r M1) (hf : ¬ P → AW l Γ y cc nl rt d t0 w0 pc2 lv st2 M r M1)
    (k : ∀ {p : Program} {e : Env} {R : Room} {s : State} {m : MethodId} {args : Array Value} {below : List Frame} {meth : Method} {c : Code} {H : Heap} {locs : List Loc} {cells slots : Nat} {Q : State → Prop} {ls : Array Slot}, gCt Γ y cc nl rt p s m args meth c → lv_has ls nl (tl Γ lv) →
      (P → W p l e R s m args below meth c H locs cells slots Q (F0 m pc1 ls (ts Γ st1))) → (¬ P → W p l e R s m args below meth c H locs cells slots Q (F0 m pc2 ls (ts Γ st2))) → W p l e R s m args below meth c H locs cells slots Q (F0 m pc ls (ts Γ st))) : AW l Γ y cc nl rt d t0 w0 pc lv st M r M1 := by
  by_cases hP : P
  · exact ⟨(ht hP).1, fun p e R s m args below meth c H locs cells slots ls G h1 h2 h3 h4 h5 => k G h5 (fun _ => (ht hP).2 p e R s m args below meth c H locs cells slots ls G h1 h2 h3 h4 h5) (fun n => absurd hP n)⟩
  · exact ⟨(hf hP).1, fun p e R s m args below meth c H locs cells slots ls G h1 h2 h3 h4 h5 => k G h5 (fun n => absurd n hP) (fun _ => (hf hP).2 p e R s m args below meth c H locs cells slots ls G h1 h2 h3 h4 h5)⟩
/-- fewer locals, or in another order -/
theorem AW.sub {lv1 : List (Nat × Value)} (ks : List Nat) (e : lv_pick lv ks = lv1) (h : AW l Γ y cc nl rt d t0 w0 pc lv1 st M r M1) : AW l Γ y cc nl rt d t0 w0 pc lv st M r M1 :=
  AW.lc h (fun _ hl k => k _ (lv_sub hl ks (by rw [tl_pick, e])))
theorem a_iconst {n : Int} {v : Int32} (hd : decode cc pc = .ok (.iconst n, 1)) (hv : Int32.ofInt n = v) (h : AW l Γ y cc nl rt d t0 w0 (pc + 1) lv (.int v :: st) M r M1) : AW l Γ y cc nl rt d t0 w0 pc lv st M r M1 :=
  AW.step1 h (fun G _ w => lv_iconst G.1 G.2.1 hd hv w)
theorem a_bipush {n : Int} {v : Int32} (hd : decode cc pc = .ok (.bipush n, 2)) (hv : (Int8.ofInt n).toInt32 = v) (h : AW l Γ y cc nl rt d t0 w0 (pc + 2) lv (.int v :: st) M r M1) : AW l Γ y cc nl rt d t0 w0 pc lv st M r M1 :=
  AW.step1 h (fun G _ w => lv_bipush G.1 G.2.1 hd hv w)
theorem a_sipush {n : Int} {v : Int32} (hd : decode cc pc = .ok (.sipush n, 3)) (hv : (Int16.ofInt n).toInt32 = v) (h : AW l Γ y cc nl rt d t0 w0 (pc + 3) lv (.int v :: st) M r M1) : AW l Γ y cc nl rt d t0 w0 pc lv st M r M1 :=
  AW.step1 h (fun G _ w => lv_sipush G.1 G.2.1 hd hv w)
theorem a_lconst {n : Fin 2} {v : Int64} (hd : decode cc pc = .ok (.lconst n, 1)) (hv : Int64.ofNat (n : Nat) = v) (h : AW l Γ y cc nl rt d t0 w0 (pc + 1) lv (.long v :: st) M r M1) : AW l Γ y cc nl rt d t0 w0 pc lv st M r M1 :=
  AW.step1 h (fun G _ w => lv_lconst G.1 G.2.1 hd hv w)
theorem a_null  (hd : decode cc pc = .ok (.aconst_null, 1)) (h : AW l Γ y cc nl rt d t0 w0 (pc + 1) lv (.null :: st) M r M1) : AW l Γ y cc nl rt d t0 w0 pc lv st M r M1 :=
  AW.step1 h (fun G _ w => lv_null G.1 G.2.1 hd w)
theorem a_ldc {index : Nat} {v : Int32} (hd : decode cc pc = .ok (.ldc index, 2)) (hw : Cond.constant y.cls index v ∈ gw) (h : AW l Γ y cc nl rt d t0 w0 (pc + 2) lv (.int v :: st) M r M1) : AW l Γ y cc nl rt d t0 w0 pc lv st M r M1 :=
  AW.step1 h (fun G _ w => lv_ldc G.1 G.2.1 G.2.2.2.2.2.2.1 (G.2.2.2.2.2.2.2.1 _ hw) hd w)
theorem a_ldcw {index : Nat} {v : Int32} (hd : decode cc pc = .ok (.ldc_w index, 3)) (hw : Cond.constant y.cls index v ∈ gw) (h : AW l Γ y cc nl rt d t0 w0 (pc + 3) lv (.int v :: st) M r M1) : AW l Γ y cc nl rt d t0 w0 pc lv st M r M1 :=
  AW.step1 h (fun G _ w => lv_ldcw G.1 G.2.1 G.2.2.2.2.2.2.1 (G.2.2.2.2.2.2.2.1 _ hw) hd w)
theorem a_ldc2 {index : Nat} {v : Int64} (hd : decode cc pc = .ok (.ldc2_w index, 3)) (hw : Cond.constantLong y.cls index v ∈ gw) (h : AW l Γ y cc nl rt d t0 w0 (pc + 3) lv (.long v :: st) M r M1) : AW l Γ y cc nl rt d t0 w0 pc lv st M r M1 :=
  AW.step1 h (fun G _ w => lv_ldc2 G.1 G.2.1 G.2.2.2.2.2.2.1 (G.2.2.2.2.2.2.2.1 _ hw) hd w)
theorem a_ldcS {index o : Nat} {tx : String} (hd : decode cc pc = .ok (.ldc index, 2)) (hy : y.cls = "AStreetByACane$Reader") (hq : (index, tx, o) ∈ gLd) (ho : o < 20) (h : AW l Γ y cc nl rt d t0 w0 (pc + 2) lv (.ref o :: st) M r M1) : AW l Γ y cc nl rt d t0 w0 pc lv st M r M1 :=
  AW.step1 h (fun G _ w => by
    have e : tv Γ (.ref o) = .ref (gO Γ o) := by show Value.ref (ad Γ o) = _; rw [ad, if_pos ho]
    refine va_ldcS G.1 G.2.1 G.2.2.2.2.2.2.1 (by rw [hy]; exact G.2.2.2.2.2.2.2.2.2.2.2.2.1 _ hq) hd ?_
    have w1 : W _ _ _ _ _ _ _ _ _ _ _ _ _ _ _ (F0 _ (pc + 2) _ (tv Γ (.ref o) :: ts Γ st)) := w
    rw [e] at w1
    exact w1)
theorem a_iload_n {k : Fin 4} {i : Nat} {x : Int32} (hd : decode cc pc = .ok (.iload_n k, 1)) (hi : (k : Nat) = i) (q : Nat) (hq : lv[q]? = some (i, .int x)) (h : AW l Γ y cc nl rt d t0 w0 (pc + 1) lv (.int x :: st) M r M1) : AW l Γ y cc nl rt d t0 w0 pc lv st M r M1 :=
  AW.step1 h (fun G hl w => lv_iload_n G.1 G.2.1 hd hi (lv_at hl q (tl_get hq)) w)
theorem a_iload {i : Nat} {x : Int32} (hd : decode cc pc = .ok (.iload i, 2)) (q : Nat) (hq : lv[q]? = some (i, .int x)) (h : AW l Γ y cc nl rt d t0 w0 (pc + 2) lv (.int x :: st) M r M1) : AW l Γ y cc nl rt d t0 w0 pc lv st M r M1 :=
  AW.step1 h (fun G hl w => lv_iload G.1 G.2.1 hd (lv_at hl q (tl_get hq)) w)
theorem a_lload_n {k : Fin 4} {i : Nat} {x : Int64} (hd : decode cc pc = .ok (.lload_n k, 1)) (hi : (k : Nat) = i) (q : Nat) (hq : lv[q]? = some (i, .long x)) (h : AW l Γ y cc nl rt d t0 w0 (pc + 1) lv (.long x :: st) M r M1) : AW l Γ y cc nl rt d t0 w0 pc lv st M r M1 :=
  AW.step1 h (fun G hl w => lv_lload_n G.1 G.2.1 hd hi (lv_at hl q (tl_get hq)) w)
theorem a_lload {i : Nat} {x : Int64} (hd : decode cc pc = .ok (.lload i, 2)) (q : Nat) (hq : lv[q]? = some (i, .long x)) (h : AW l Γ y cc nl rt d t0 w0 (pc + 2) lv (.long x :: st) M r M1) : AW l Γ y cc nl rt d t0 w0 pc lv st M r M1 :=
  AW.step1 h (fun G hl w => lv_lload G.1 G.2.1 hd (lv_at hl q (tl_get hq)) w)
theorem a_aload_n {k : Fin 4} {i : Nat} {x : Nat} (hd : decode cc pc = .ok (.aload_n k, 1)) (hi : (k : Nat) = i) (q : Nat) (hq : lv[q]? = some (i, .ref x)) (h : AW l Γ y cc nl rt d t0 w0 (pc + 1) lv (.ref x :: st) M r M1) : AW l Γ y cc nl rt d t0 w0 pc lv st M r M1 :=
  AW.step1 h (fun G hl w => lv_aload_n G.1 G.2.1 hd hi (lv_at hl q (tl_get hq)) w)
theorem a_aload {i : Nat} {x : Nat} (hd : decode cc pc = .ok (.aload i, 2)) (q : Nat) (hq : lv[q]? = some (i, .ref x)) (h : AW l Γ y cc nl rt d t0 w0 (pc + 2) lv (.ref x :: st) M r M1) : AW l Γ y cc nl rt d t0 w0 pc lv st M r M1 :=
  AW.step1 h (fun G hl w => lv_aload G.1 G.2.1 hd (lv_at hl q (tl_get hq)) w)
theorem a_aload_nq {k : Fin 4} {i : Nat} {x : Option Nat} (hd : decode cc pc = .ok (.aload_n k, 1)) (hi : (k : Nat) = i) (q : Nat) (hq : lv[q]? = some (i, rv x)) (h : AW l Γ y cc nl rt d t0 w0 (pc + 1) lv (rv x :: st) M r M1) : AW l Γ y cc nl rt d t0 w0 pc lv st M r M1 :=
  AW.step1 h (fun G hl w => by
    cases x with
    | none => exact lv_aload_nN G.1 G.2.1 hd hi (lv_at hl q (tl_get hq)) w
    | some a => exact lv_aload_n G.1 G.2.1 hd hi (lv_at hl q (tl_get hq)) w)
theorem a_aloadq {i : Nat} {x : Option Nat} (hd : decode cc pc = .ok (.aload i, 2)) (q : Nat) (hq : lv[q]? = some (i, rv x)) (h : AW l Γ y cc nl rt d t0 w0 (pc + 2) lv (rv x :: st) M r M1) : AW l Γ y cc nl rt d t0 w0 pc lv st M r M1 :=
  AW.step1 h (fun G hl w => by
    cases x with
    | none => exact lv_aloadN G.1 G.2.1 hd (lv_at hl q (tl_get hq)) w
    | some a => exact lv_aload G.1 G.2.1 hd (lv_at hl q (tl_get hq)) w)
theorem a_istore_n {k : Fin 4} {i : Nat} {x : Int32} {lv1 : List (Nat × Value)} (hd : decode cc pc = .ok (.istore_n k, 1)) (hi : (k : Nat) = i) (hn : i < nl) (e : lvS lv i (.int x) = lv1) (h : AW l Γ y cc nl rt d t0 w0 (pc + 1) lv1 st M r M1) : AW l Γ y cc nl rt d t0 w0 pc lv (.int x :: st) M r M1 :=
  AW.lc h (fun G hl w => lv_istore_n G.1 G.2.1 hd hi hl hn (by rw [← e]; exact tl_lvS Γ lv i (.int x)) w)
theorem a_istore {i : Nat} {x : Int32} {lv1 : List (Nat × Value)} (hd : decode cc pc = .ok (.istore i, 2)) (hn : i < nl) (e : lvS lv i (.int x) = lv1) (h : AW l Γ y cc nl rt d t0 w0 (pc + 2) lv1 st M r M1) : AW l Γ y cc nl rt d t0 w0 pc lv (.int x :: st) M r M1 :=
  AW.lc h (fun G hl w => lv_istore G.1 G.2.1 hd hl hn (by rw [← e]; exact tl_lvS Γ lv i (.int x)) w)
theorem a_lstore_n {k : Fin 4} {i : Nat} {x : Int64} {lv1 : List (Nat × Value)} (hd : decode cc pc = .ok (.lstore_n k, 1)) (hi : (k : Nat) = i) (hn : i + 1 < nl) (e : lvD lv i (.long x) = lv1) (h : AW l Γ y cc nl rt d t0 w0 (pc + 1) lv1 st M r M1) : AW l Γ y cc nl rt d t0 w0 pc lv (.long x :: st) M r M1 :=
  AW.lc h (fun G hl w => lv_lstore_n G.1 G.2.1 hd hi hl hn (by rw [← e]; exact tl_lvD Γ lv i (.long x)) w)
theorem a_lstore {i : Nat} {x : Int64} {lv1 : List (Nat × Value)} (hd : decode cc pc = .ok (.lstore i, 2)) (hn : i + 1 < nl) (e : lvD lv i (.long x) = lv1) (h : AW l Γ y cc nl rt d t0 w0 (pc + 2) lv1 st M r M1) : AW l Γ y cc nl rt d t0 w0 pc lv (.long x :: st) M r M1 :=
  AW.lc h (fun G hl w => lv_lstore G.1 G.2.1 hd hl hn (by rw [← e]; exact tl_lvD Γ lv i (.long x)) w)
theorem a_astore_n {k : Fin 4} {i : Nat} {x : Nat} {lv1 : List (Nat × Value)} (hd : decode cc pc = .ok (.astore_n k, 1)) (hi : (k : Nat) = i) (hn : i < nl) (e : lvS lv i (.ref x) = lv1) (h : AW l Γ y cc nl rt d t0 w0 (pc + 1) lv1 st M r M1) : AW l Γ y cc nl rt d t0 w0 pc lv (.ref x :: st) M r M1 :=
  AW.lc h (fun G hl w => lv_astore_n G.1 G.2.1 hd hi hl hn (by rw [← e]; exact tl_lvS Γ lv i (.ref x)) w)
theorem a_astore {i : Nat} {x : Nat} {lv1 : List (Nat × Value)} (hd : decode cc pc = .ok (.astore i, 2)) (hn : i < nl) (e : lvS lv i (.ref x) = lv1) (h : AW l Γ y cc nl rt d t0 w0 (pc + 2) lv1 st M r M1) : AW l Γ y cc nl rt d t0 w0 pc lv (.ref x :: st) M r M1 :=
  AW.lc h (fun G hl w => lv_astore G.1 G.2.1 hd hl hn (by rw [← e]; exact tl_lvS Γ lv i (.ref x)) w)
theorem a_astore_nq {k : Fin 4} {i : Nat} {x : Option Nat} {lv1 : List (Nat × Value)} (hd : decode cc pc = .ok (.astore_n k, 1)) (hi : (k : Nat) = i) (hn : i < nl) (e : lvS lv i (rv x) = lv1) (h : AW l Γ y cc nl rt d t0 w0 (pc + 1) lv1 st M r M1) : AW l Γ y cc nl rt d t0 w0 pc lv (rv x :: st) M r M1 :=
  AW.lc h (fun G hl w => by
    cases x with
    | none => exact lv_astore_nN G.1 G.2.1 hd hi hl hn (by rw [← e]; exact tl_lvS Γ lv i .null) w
    | some a => exact lv_astore_n G.1 G.2.1 hd hi hl hn (by rw [← e]; exact tl_lvS Γ lv i (.ref a)) w)
theorem a_astoreq {i : Nat} {x : Option Nat} {lv1 : List (Nat × Value)} (hd : decode cc pc = .ok (.astore i, 2)) (hn : i < nl) (e : lvS lv i (rv x) = lv1) (h : AW l Γ y cc nl rt d t0 w0 (pc + 2) lv1 st M r M1) : AW l Γ y cc nl rt d t0 w0 pc lv (rv x :: st) M r M1 :=
  AW.lc h (fun G hl w => by
    cases x with
    | none => exact lv_astoreN G.1 G.2.1 hd hl hn (by rw [← e]; exact tl_lvS Γ lv i .null) w
    | some a => exact lv_astore G.1 G.2.1 hd hl hn (by rw [← e]; exact tl_lvS Γ lv i (.ref a)) w)
theorem a_iinc {i : Nat} {n : Int} {x v : Int32} {lv1 : List (Nat × Value)} (hd : decode cc pc = .ok (.iinc i n, 3)) (q : Nat) (hq : lv[q]? = some (i, .int x)) (hv : x + Int32.ofInt n = v) (hn : i < nl) (e : lvS lv i (.int v) = lv1) (h : AW l Γ y cc nl rt d t0 w0 (pc + 3) lv1 st M r M1) : AW l Γ y cc nl rt d t0 w0 pc lv st M r M1 :=
  AW.lc h (fun G hl w => lv_iinc G.1 G.2.1 hd hl (k := q) (tl_get hq) hv hn (by rw [← e]; exact tl_lvS Γ lv i (.int v)) w)
theorem a_iadd {x y1 : Int32} (hd : decode cc pc = .ok (.iadd, 1)) (h : AW l Γ y cc nl rt d t0 w0 (pc + 1) lv (.int (x + y1) :: st) M r M1) : AW l Γ y cc nl rt d t0 w0 pc lv (.int y1 :: .int x :: st) M r M1 :=
  AW.step1 h (fun G _ w => lv_iadd G.1 G.2.1 hd w)
theorem a_isub {x y1 : Int32} (hd : decode cc pc = .ok (.isub, 1)) (h : AW l Γ y cc nl rt d t0 w0 (pc + 1) lv (.int (x - y1) :: st) M r M1) : AW l Γ y cc nl rt d t0 w0 pc lv (.int y1 :: .int x :: st) M r M1 :=
  AW.step1 h (fun G _ w => lv_isub G.1 G.2.1 hd w)
theorem a_imul {x y1 : Int32} (hd : decode cc pc = .ok (.imul, 1)) (h : AW l Γ y cc nl rt d t0 w0 (pc + 1) lv (.int (x * y1) :: st) M r M1) : AW l Γ y cc nl rt d t0 w0 pc lv (.int y1 :: .int x :: st) M r M1 :=
  AW.step1 h (fun G _ w => lv_imul G.1 G.2.1 hd w)
theorem a_iand {x y1 : Int32} (hd : decode cc pc = .ok (.iand, 1)) (h : AW l Γ y cc nl rt d t0 w0 (pc + 1) lv (.int (x &&& y1) :: st) M r M1) : AW l Γ y cc nl rt d t0 w0 pc lv (.int y1 :: .int x :: st) M r M1 :=
  AW.step1 h (fun G _ w => lv_iand G.1 G.2.1 hd w)
theorem a_ior {x y1 : Int32} (hd : decode cc pc = .ok (.ior, 1)) (h : AW l Γ y cc nl rt d t0 w0 (pc + 1) lv (.int (x ||| y1) :: st) M r M1) : AW l Γ y cc nl rt d t0 w0 pc lv (.int y1 :: .int x :: st) M r M1 :=
  AW.step1 h (fun G _ w => lv_ior G.1 G.2.1 hd w)
theorem a_ixor {x y1 : Int32} (hd : decode cc pc = .ok (.ixor, 1)) (h : AW l Γ y cc nl rt d t0 w0 (pc + 1) lv (.int (x ^^^ y1) :: st) M r M1) : AW l Γ y cc nl rt d t0 w0 pc lv (.int y1 :: .int x :: st) M r M1 :=
  AW.step1 h (fun G _ w => lv_ixor G.1 G.2.1 hd w)
theorem a_ishl {x y1 : Int32} (hd : decode cc pc = .ok (.ishl, 1)) (h : AW l Γ y cc nl rt d t0 w0 (pc + 1) lv (.int (x <<< (y1 &&& 31)) :: st) M r M1) : AW l Γ y cc nl rt d t0 w0 pc lv (.int y1 :: .int x :: st) M r M1 :=
  AW.step1 h (fun G _ w => lv_ishl G.1 G.2.1 hd w)
theorem a_ishr {x y1 : Int32} (hd : decode cc pc = .ok (.ishr, 1)) (h : AW l Γ y cc nl rt d t0 w0 (pc + 1) lv (.int (x >>> (y1 &&& 31)) :: st) M r M1) : AW l Γ y cc nl rt d t0 w0 pc lv (.int y1 :: .int x :: st) M r M1 :=
  AW.step1 h (fun G _ w => lv_ishr G.1 G.2.1 hd w)
theorem a_ladd {x y1 : Int64} (hd : decode cc pc = .ok (.ladd, 1)) (h : AW l Γ y cc nl rt d t0 w0 (pc + 1) lv (.long (x + y1) :: st) M r M1) : AW l Γ y cc nl rt d t0 w0 pc lv (.long y1 :: .long x :: st) M r M1 :=
  AW.step1 h (fun G _ w => lv_ladd G.1 G.2.1 hd w)
theorem a_lsub {x y1 : Int64} (hd : decode cc pc = .ok (.lsub, 1)) (h : AW l Γ y cc nl rt d t0 w0 (pc + 1) lv (.long (x - y1) :: st) M r M1) : AW l Γ y cc nl rt d t0 w0 pc lv (.long y1 :: .long x :: st) M r M1 :=
  AW.step1 h (fun G _ w => lv_lsub G.1 G.2.1 hd w)
theorem a_lmul {x y1 : Int64} (hd : decode cc pc = .ok (.lmul, 1)) (h : AW l Γ y cc nl rt d t0 w0 (pc + 1) lv (.long (x * y1) :: st) M r M1) : AW l Γ y cc nl rt d t0 w0 pc lv (.long y1 :: .long x :: st) M r M1 :=
  AW.step1 h (fun G _ w => lv_lmul G.1 G.2.1 hd w)
theorem a_land {x y1 : Int64} (hd : decode cc pc = .ok (.land, 1)) (h : AW l Γ y cc nl rt d t0 w0 (pc + 1) lv (.long (x &&& y1) :: st) M r M1) : AW l Γ y cc nl rt d t0 w0 pc lv (.long y1 :: .long x :: st) M r M1 :=
  AW.step1 h (fun G _ w => lv_land G.1 G.2.1 hd w)
theorem a_lor {x y1 : Int64} (hd : decode cc pc = .ok (.lor, 1)) (h : AW l Γ y cc nl rt d t0 w0 (pc + 1) lv (.long (x ||| y1) :: st) M r M1) : AW l Γ y cc nl rt d t0 w0 pc lv (.long y1 :: .long x :: st) M r M1 :=
  AW.step1 h (fun G _ w => lv_lor G.1 G.2.1 hd w)
theorem a_idiv {x y1 z : Int32} (hd : decode cc pc = .ok (.idiv, 1)) (hz : dI x y1 = some z) (h : AW l Γ y cc nl rt d t0 w0 (pc + 1) lv (.int z :: st) M r M1) : AW l Γ y cc nl rt d t0 w0 pc lv (.int y1 :: .int x :: st) M r M1 := by
  unfold dI at hz
  split at hz
  · cases hz
  · rename_i hne
    cases hz
    exact AW.step1 h (fun G _ w => lv_idiv G.1 G.2.1 hd hne w)
theorem a_irem {x y1 z : Int32} (hd : decode cc pc = .ok (.irem, 1)) (hz : mdI x y1 = some z) (h : AW l Γ y cc nl rt d t0 w0 (pc + 1) lv (.int z :: st) M r M1) : AW l Γ y cc nl rt d t0 w0 pc lv (.int y1 :: .int x :: st) M r M1 := by
  unfold mdI at hz
  split at hz
  · cases hz
  · rename_i hne
    cases hz
    exact AW.step1 h (fun G _ w => lv_irem G.1 G.2.1 hd hne w)
theorem a_ldiv {x y1 z : Int64} (hd : decode cc pc = .ok (.ldiv, 1)) (hz : dJ x y1 = some z) (h : AW l Γ y cc nl rt d t0 w0 (pc + 1) lv (.long z :: st) M r M1) : AW l Γ y cc nl rt d t0 w0 pc lv (.long y1 :: .long x :: st) M r M1 := by
  unfold dJ at hz
  split at hz
  · cases hz
  · rename_i hne
    cases hz
    exact AW.step1 h (fun G _ w => lv_ldiv G.1 G.2.1 hd hne w)
theorem a_lrem {x y1 z : Int64} (hd : decode cc pc = .ok (.lrem, 1)) (hz : mdJ x y1 = some z) (h : AW l Γ y cc nl rt d t0 w0 (pc + 1) lv (.long z :: st) M r M1) : AW l Γ y cc nl rt d t0 w0 pc lv (.long y1 :: .long x :: st) M r M1 := by
  unfold mdJ at hz
  split at hz
  · cases hz
  · rename_i hne
    cases hz
    exact AW.step1 h (fun G _ w => lv_lrem G.1 G.2.1 hd hne w)
theorem a_lcmp {x y1 : Int64} (hd : decode cc pc = .ok (.lcmp, 1)) (h : AW l Γ y cc nl rt d t0 w0 (pc + 1) lv (.int (lg_cmp x y1) :: st) M r M1) : AW l Γ y cc nl rt d t0 w0 pc lv (.long y1 :: .long x :: st) M r M1 :=
  AW.step1 h (fun G _ w => W.lcmp G.1 G.2.1 hd w)
theorem a_iushr {x y1 : Int32} (hd : decode cc pc = .ok (.iushr, 1)) (h : AW l Γ y cc nl rt d t0 w0 (pc + 1) lv (.int ((x.toUInt32 >>> (y1.toUInt32 &&& Int32.toUInt32 31)).toInt32) :: st) M r M1) : AW l Γ y cc nl rt d t0 w0 pc lv (.int y1 :: .int x :: st) M r M1 :=
  AW.step1 h (fun G _ w => lv_iushr G.1 G.2.1 hd rfl w)
theorem a_lshl {x : Int64} {y1 : Int32} (hd : decode cc pc = .ok (.lshl, 1)) (h : AW l Γ y cc nl rt d t0 w0 (pc + 1) lv (.long (x <<< (y1.toInt64 &&& 63)) :: st) M r M1) : AW l Γ y cc nl rt d t0 w0 pc lv (.int y1 :: .long x :: st) M r M1 :=
  AW.step1 h (fun G _ w => lv_lshl G.1 G.2.1 hd rfl w)
theorem a_ineg {x : Int32} (hd : decode cc pc = .ok (.ineg, 1)) (h : AW l Γ y cc nl rt d t0 w0 (pc + 1) lv (.int (-x) :: st) M r M1) : AW l Γ y cc nl rt d t0 w0 pc lv (.int x :: st) M r M1 :=
  AW.step1 h (fun G _ w => lv_ineg G.1 G.2.1 hd w)
theorem a_i2l {x : Int32} (hd : decode cc pc = .ok (.i2l, 1)) (h : AW l Γ y cc nl rt d t0 w0 (pc + 1) lv (.long (x.toInt64) :: st) M r M1) : AW l Γ y cc nl rt d t0 w0 pc lv (.int x :: st) M r M1 :=
  AW.step1 h (fun G _ w => lv_i2l G.1 G.2.1 hd rfl w)
theorem a_l2i {x : Int64} (hd : decode cc pc = .ok (.l2i, 1)) (h : AW l Γ y cc nl rt d t0 w0 (pc + 1) lv (.int (x.toInt32) :: st) M r M1) : AW l Γ y cc nl rt d t0 w0 pc lv (.long x :: st) M r M1 :=
  AW.step1 h (fun G _ w => lv_l2i G.1 G.2.1 hd rfl w)
theorem a_i2b {x : Int32} (hd : decode cc pc = .ok (.i2b, 1)) (h : AW l Γ y cc nl rt d t0 w0 (pc + 1) lv (.int (x.toInt8.toInt32) :: st) M r M1) : AW l Γ y cc nl rt d t0 w0 pc lv (.int x :: st) M r M1 :=
  AW.step1 h (fun G _ w => lv_i2b G.1 G.2.1 hd rfl w)
theorem a_i2s {x : Int32} (hd : decode cc pc = .ok (.i2s, 1)) (h : AW l Γ y cc nl rt d t0 w0 (pc + 1) lv (.int (x.toInt16.toInt32) :: st) M r M1) : AW l Γ y cc nl rt d t0 w0 pc lv (.int x :: st) M r M1 :=
  AW.step1 h (fun G _ w => lv_i2s G.1 G.2.1 hd rfl w)
theorem a_i2c {x : Int32} (hd : decode cc pc = .ok (.i2c, 1)) (h : AW l Γ y cc nl rt d t0 w0 (pc + 1) lv (.int ((x.toUInt32 % 65536).toInt32) :: st) M r M1) : AW l Γ y cc nl rt d t0 w0 pc lv (.int x :: st) M r M1 :=
  AW.step1 h (fun G _ w => lv_i2c G.1 G.2.1 hd rfl w)
theorem a_dup {v : Value} (hd : decode cc pc = .ok (.dup, 1)) (hv : v.category = 1) (h : AW l Γ y cc nl rt d t0 w0 (pc + 1) lv (v :: v :: st) M r M1) : AW l Γ y cc nl rt d t0 w0 pc lv (v :: st) M r M1 :=
  AW.step1 h (fun G _ w => lv_dup G.1 G.2.1 hd ((tv_cat Γ v).trans hv) w)
theorem a_pop {v : Value} (hd : decode cc pc = .ok (.pop, 1)) (hv : v.category = 1) (h : AW l Γ y cc nl rt d t0 w0 (pc + 1) lv st M r M1) : AW l Γ y cc nl rt d t0 w0 pc lv (v :: st) M r M1 :=
  AW.step1 h (fun G _ w => lv_pop G.1 G.2.1 hd ((tv_cat Γ v).trans hv) w)
theorem a_dup_x1 {v u : Value} (hd : decode cc pc = .ok (.dup_x1, 1)) (hv : v.category = 1) (hu : u.category = 1) (h : AW l Γ y cc nl rt d t0 w0 (pc + 1) lv (v :: u :: v :: st) M r M1) : AW l Γ y cc nl rt d t0 w0 pc lv (v :: u :: st) M r M1 :=
  AW.step1 h (fun G _ w => lv_dup_x1 G.1 G.2.1 hd ((tv_cat Γ v).trans hv) ((tv_cat Γ u).trans hu) w)
theorem a_dup2 {v u : Value} (hd : decode cc pc = .ok (.dup2, 1)) (hv : v.category = 1) (hu : u.category = 1) (h : AW l Γ y cc nl rt d t0 w0 (pc + 1) lv (v :: u :: v :: u :: st) M r M1) : AW l Γ y cc nl rt d t0 w0 pc lv (v :: u :: st) M r M1 :=
  AW.step1 h (fun G _ w => lv_dup2_11 G.1 G.2.1 hd ((tv_cat Γ v).trans hv) ((tv_cat Γ u).trans hu) w)
theorem a_dup2L {v : Value} (hd : decode cc pc = .ok (.dup2, 1)) (hv : v.category = 2) (h : AW l Γ y cc nl rt d t0 w0 (pc + 1) lv (v :: v :: st) M r M1) : AW l Γ y cc nl rt d t0 w0 pc lv (v :: st) M r M1 :=
  AW.step1 h (fun G _ w => lv_dup2_2 G.1 G.2.1 hd ((tv_cat Γ v).trans hv) w)
theorem a_if_eq {x : Int32} {off : Int} {tgt : Nat} (hd : decode cc pc = .ok (.ifCond .eq off, 3)) (ht : (pc : Int) + off = (tgt : Int)) (kt : x = 0 → AW l Γ y cc nl rt d t0 w0 tgt lv st M r M1) (kf : ¬ x = 0 → AW l Γ y cc nl rt d t0 w0 (pc + 3) lv st M r M1) : AW l Γ y cc nl rt d t0 w0 pc lv (.int x :: st) M r M1 :=
  AW.br kt kf (fun G _ w1 w2 => lv_if_eq G.1 G.2.1 hd ht w1 w2)
theorem a_icmp_eq {x y1 : Int32} {off : Int} {tgt : Nat} (hd : decode cc pc = .ok (.if_icmp .eq off, 3)) (ht : (pc : Int) + off = (tgt : Int)) (kt : x = y1 → AW l Γ y cc nl rt d t0 w0 tgt lv st M r M1) (kf : ¬ x = y1 → AW l Γ y cc nl rt d t0 w0 (pc + 3) lv st M r M1) : AW l Γ y cc nl rt d t0 w0 pc lv (.int y1 :: .int x :: st) M r M1 :=
  AW.br kt kf (fun G _ w1 w2 => lv_icmp_eq G.1 G.2.1 hd ht w1 w2)
theorem a_if_lt {x : Int32} {off : Int} {tgt : Nat} (hd : decode cc pc = .ok (.ifCond .lt off, 3)) (ht : (pc : Int) + off = (tgt : Int)) (kt : x < 0 → AW l Γ y cc nl rt d t0 w0 tgt lv st M r M1) (kf : ¬ x < 0 → AW l Γ y cc nl rt d t0 w0 (pc + 3) lv st M r M1) : AW l Γ y cc nl rt d t0 w0 pc lv (.int x :: st) M r M1 :=
  AW.br kt kf (fun G _ w1 w2 => lv_if_lt G.1 G.2.1 hd ht w1 w2)
theorem a_icmp_lt {x y1 : Int32} {off : Int} {tgt : Nat} (hd : decode cc pc = .ok (.if_icmp .lt off, 3)) (ht : (pc : Int) + off = (tgt : Int)) (kt : x < y1 → AW l Γ y cc nl rt d t0 w0 tgt lv st M r M1) (kf : ¬ x < y1 → AW l Γ y cc nl rt d t0 w0 (pc + 3) lv st M r M1) : AW l Γ y cc nl rt d t0 w0 pc lv (.int y1 :: .int x :: st) M r M1 :=
  AW.br kt kf (fun G _ w1 w2 => lv_icmp_lt G.1 G.2.1 hd ht w1 w2)
theorem a_if_ge {x : Int32} {off : Int} {tgt : Nat} (hd : decode cc pc = .ok (.ifCond .ge off, 3)) (ht : (pc : Int) + off = (tgt : Int)) (kt : 0 ≤ x → AW l Γ y cc nl rt d t0 w0 tgt lv st M r M1) (kf : ¬ 0 ≤ x → AW l Γ y cc nl rt d t0 w0 (pc + 3) lv st M r M1) : AW l Γ y cc nl rt d t0 w0 pc lv (.int x :: st) M r M1 :=
  AW.br kt kf (fun G _ w1 w2 => lv_if_ge G.1 G.2.1 hd ht w1 w2)
theorem a_icmp_ge {x y1 : Int32} {off : Int} {tgt : Nat} (hd : decode cc pc = .ok (.if_icmp .ge off, 3)) (ht : (pc : Int) + off = (tgt : Int)) (kt : y1 ≤ x → AW l Γ y cc nl rt d t0 w0 tgt lv st M r M1) (kf : ¬ y1 ≤ x → AW l Γ y cc nl rt d t0 w0 (pc + 3) lv st M r M1) : AW l Γ y cc nl rt d t0 w0 pc lv (.int y1 :: .int x :: st) M r M1 :=
  AW.br kt kf (fun G _ w1 w2 => lv_icmp_ge G.1 G.2.1 hd ht w1 w2)
theorem a_if_gt {x : Int32} {off : Int} {tgt : Nat} (hd : decode cc pc = .ok (.ifCond .gt off, 3)) (ht : (pc : Int) + off = (tgt : Int)) (kt : 0 < x → AW l Γ y cc nl rt d t0 w0 tgt lv st M r M1) (kf : ¬ 0 < x → AW l Γ y cc nl rt d t0 w0 (pc + 3) lv st M r M1) : AW l Γ y cc nl rt d t0 w0 pc lv (.int x :: st) M r M1 :=
  AW.br kt kf (fun G _ w1 w2 => lv_if_gt G.1 G.2.1 hd ht w1 w2)
theorem a_icmp_gt {x y1 : Int32} {off : Int} {tgt : Nat} (hd : decode cc pc = .ok (.if_icmp .gt off, 3)) (ht : (pc : Int) + off = (tgt : Int)) (kt : y1 < x → AW l Γ y cc nl rt d t0 w0 tgt lv st M r M1) (kf : ¬ y1 < x → AW l Γ y cc nl rt d t0 w0 (pc + 3) lv st M r M1) : AW l Γ y cc nl rt d t0 w0 pc lv (.int y1 :: .int x :: st) M r M1 :=
  AW.br kt kf (fun G _ w1 w2 => lv_icmp_gt G.1 G.2.1 hd ht w1 w2)
theorem a_if_le {x : Int32} {off : Int} {tgt : Nat} (hd : decode cc pc = .ok (.ifCond .le off, 3)) (ht : (pc : Int) + off = (tgt : Int)) (kt : x ≤ 0 → AW l Γ y cc nl rt d t0 w0 tgt lv st M r M1) (kf : ¬ x ≤ 0 → AW l Γ y cc nl rt d t0 w0 (pc + 3) lv st M r M1) : AW l Γ y cc nl rt d t0 w0 pc lv (.int x :: st) M r M1 :=
  AW.br kt kf (fun G _ w1 w2 => lv_if_le G.1 G.2.1 hd ht w1 w2)
theorem a_icmp_le {x y1 : Int32} {off : Int} {tgt : Nat} (hd : decode cc pc = .ok (.if_icmp .le off, 3)) (ht : (pc : Int) + off = (tgt : Int)) (kt : x ≤ y1 → AW l Γ y cc nl rt d t0 w0 tgt lv st M r M1) (kf : ¬ x ≤ y1 → AW l Γ y cc nl rt d t0 w0 (pc + 3) lv st M r M1) : AW l Γ y cc nl rt d t0 w0 pc lv (.int y1 :: .int x :: st) M r M1 :=
  AW.br kt kf (fun G _ w1 w2 => lv_icmp_le G.1 G.2.1 hd ht w1 w2)
theorem a_if_ne {x : Int32} {off : Int} {tgt : Nat} (hd : decode cc pc = .ok (.ifCond .ne off, 3)) (ht : (pc : Int) + off = (tgt : Int)) (kt : ¬ x = 0 → AW l Γ y cc nl rt d t0 w0 tgt lv st M r M1) (kf : x = 0 → AW l Γ y cc nl rt d t0 w0 (pc + 3) lv st M r M1) : AW l Γ y cc nl rt d t0 w0 pc lv (.int x :: st) M r M1 :=
  AW.br kf kt (fun G _ w1 w2 => lv_if_ne G.1 G.2.1 hd ht w2 w1)
theorem a_icmp_ne {x y1 : Int32} {off : Int} {tgt : Nat} (hd : decode cc pc = .ok (.if_icmp .ne off, 3)) (ht : (pc : Int) + off = (tgt : Int)) (kt : ¬ x = y1 → AW l Γ y cc nl rt d t0 w0 tgt lv st M r M1) (kf : x = y1 → AW l Γ y cc nl rt d t0 w0 (pc + 3) lv st M r M1) : AW l Γ y cc nl rt d t0 w0 pc lv (.int y1 :: .int x :: st) M r M1 :=
  AW.br kf kt (fun G _ w1 w2 => lv_icmp_ne G.1 G.2.1 hd ht w2 w1)
theorem a_goto {off : Int} {tgt : Nat} (hd : decode cc pc = .ok (.goto off, 3)) (ht : (pc : Int) + off = (tgt : Int)) (h : AW l Γ y cc nl rt d t0 w0 tgt lv st M r M1) : AW l Γ y cc nl rt d t0 w0 pc lv st M r M1 :=
  AW.step1 h (fun G _ w => lv_goto G.1 G.2.1 hd ht w)
theorem a_ifnull {x : Option Nat} {off : Int} {tgt : Nat} (hd : decode cc pc = .ok (.ifnull off, 3)) (ht : (pc : Int) + off = (tgt : Int)) (kt : x = none → AW l Γ y cc nl rt d t0 w0 tgt lv st M r M1) (kf : ∀ a, x = some a → AW l Γ y cc nl rt d t0 w0 (pc + 3) lv st M r M1) : AW l Γ y cc nl rt d t0 w0 pc lv (rv x :: st) M r M1 := by
  cases x with
  | none => exact AW.step1 (kt rfl) (fun G _ w => lv_ifnullN G.1 G.2.1 hd ht w)
  | some a => exact AW.step1 (kf a rfl) (fun G _ w => lv_ifnull G.1 G.2.1 hd w)
theorem a_ifnonnull {x : Option Nat} {off : Int} {tgt : Nat} (hd : decode cc pc = .ok (.ifnonnull off, 3)) (ht : (pc : Int) + off = (tgt : Int)) (kt : ∀ a, x = some a → AW l Γ y cc nl rt d t0 w0 tgt lv st M r M1) (kf : x = none → AW l Γ y cc nl rt d t0 w0 (pc + 3) lv st M r M1) : AW l Γ y cc nl rt d t0 w0 pc lv (rv x :: st) M r M1 := by
  cases x with
  | none => exact AW.step1 (kf rfl) (fun G _ w => lv_ifnonnullN G.1 G.2.1 hd w)
  | some a => exact AW.step1 (kt a rfl) (fun G _ w => lv_ifnonnull G.1 G.2.1 hd ht w)
theorem a_lookup {dflt : Int} {ps : Array (Int × Int)} {len : Nat} {x : Int32} {off : Int} {tgt : Nat} (hd : decode cc pc = .ok (.lookupswitch dflt ps, len)) (hp : (ps.toList.zip (ps.toList.drop 1)).all (fun (a, next) => a.1 < next.1) = true) (ho : Op.lookupswitch.offset ps.toList dflt x.toInt = off) (ht : (pc : Int) + off = (tgt : Int)) (h : AW l Γ y cc nl rt d t0 w0 tgt lv st M r M1) : AW l Γ y cc nl rt d t0 w0 pc lv (.int x :: st) M r M1 :=
  AW.step1 h (fun G _ w => lv_lookup G.1 G.2.1 hd hp ho ht w)
theorem a_tableOut {dflt lo hi : Int} {offs : Array Int} {len : Nat} {x : Int32} {tgt : Nat} (hd : decode cc pc = .ok (.tableswitch dflt lo hi offs, len)) (hx : x.toInt < lo ∨ hi < x.toInt) (ht : (pc : Int) + dflt = (tgt : Int)) (h : AW l Γ y cc nl rt d t0 w0 tgt lv st M r M1) : AW l Γ y cc nl rt d t0 w0 pc lv (.int x :: st) M r M1 :=
  AW.step1 h (fun G _ w => lv_tableOut G.1 G.2.1 hd hx ht w)
theorem a_tableIn {dflt lo hi : Int} {offs : Array Int} {len : Nat} {x : Int32} {off : Int} {tgt : Nat} (hd : decode cc pc = .ok (.tableswitch dflt lo hi offs, len)) (h1 : ¬ x.toInt < lo) (h2 : ¬ hi < x.toInt) (ho : offs[(x.toInt - lo).toNat]? = some off) (ht : (pc : Int) + off = (tgt : Int)) (h : AW l Γ y cc nl rt d t0 w0 tgt lv st M r M1) : AW l Γ y cc nl rt d t0 w0 pc lv (.int x :: st) M r M1 :=
  AW.step1 h (fun G _ w => lv_tableIn G.1 G.2.1 hd h1 h2 ho ht w)
/-- one case of a tableswitch: x is the literal k -/
theorem a_tableAt {dflt lo hi : Int} {offs : Array Int} {len : Nat} {x : Int32} (k : Int) {off : Int} {tgt : Nat} (hd : decode cc pc = .ok (.tableswitch dflt lo hi offs, len)) (hx : x.toInt = k) (hk : lo ≤ k ∧ k ≤ hi ∧ offs[(k - lo).toNat]? = some off) (ht : (pc : Int) + off = (tgt : Int)) (h : AW l Γ y cc nl rt d t0 w0 tgt lv st M r M1) : AW l Γ y cc nl rt d t0 w0 pc lv (.int x :: st) M r M1 :=
  a_tableIn hd (by rw [hx]; omega) (by rw [hx]; omega) (by rw [hx]; exact hk.2.2) ht h
theorem a_iret {v : Int32} (hr : rt = some .int) (hd : decode cc pc = .ok (.ireturn, 1)) (e : r = some (.int v)) : AW l Γ y cc nl rt d t0 w0 pc lv [.int v] M1 r M1 := by
  subst e
  refine ⟨⟨Nat.le_refl _, Nat.le_refl _⟩, fun p e R s m args below meth c H locs cells slots ls G h1 h2 h3 h4 h5 => ?_⟩
  rw [show mT M1 - t0 = cells by omega, show mW M1 - w0 = slots by omega]
  exact W.iret (v := v) G.1 G.2.1 (G.2.2.2.1.trans hr) (fun t ht _ => ⟨rfl, by rw [ht]; exact h3, h4.F ht⟩) h4.2.2 hd G.2.2.2.2.1
theorem a_zret {v : Int32} {ty : FieldType} (hr : rt = some ty) (hn : narrow ty (.int v) = .int v) (hd : decode cc pc = .ok (.ireturn, 1)) (e : r = some (.int v)) : AW l Γ y cc nl rt d t0 w0 pc lv [.int v] M1 r M1 := by
  subst e
  refine ⟨⟨Nat.le_refl _, Nat.le_refl _⟩, fun p e R s m args below meth c H locs cells slots ls G h1 h2 h3 h4 h5 => ?_⟩
  rw [show mT M1 - t0 = cells by omega, show mW M1 - w0 = slots by omega]
  exact W.zret (v := v) G.1 G.2.1 (G.2.2.2.1.trans hr) hn (fun t ht _ => ⟨rfl, by rw [ht]; exact h3, h4.F ht⟩) h4.2.2 hd G.2.2.2.2.1
theorem a_lret {v : Int64} (hr : rt = some .long) (hd : decode cc pc = .ok (.lreturn, 1)) (e : r = some (.long v)) : AW l Γ y cc nl rt d t0 w0 pc lv [.long v] M1 r M1 := by
  subst e
  refine ⟨⟨Nat.le_refl _, Nat.le_refl _⟩, fun p e R s m args below meth c H locs cells slots ls G h1 h2 h3 h4 h5 => ?_⟩
  rw [show mT M1 - t0 = cells by omega, show mW M1 - w0 = slots by omega]
  exact W.lret (v := v) G.1 G.2.1 (G.2.2.2.1.trans hr) (fun t ht _ => ⟨rfl, by rw [ht]; exact h3, h4.F ht⟩) h4.2.2 hd G.2.2.2.2.1
theorem a_vret (hr : rt = none) (hd : decode cc pc = .ok (.return_, 1)) (e : r = none) : AW l Γ y cc nl rt d t0 w0 pc lv [] M1 r M1 := by
  subst e
  refine ⟨⟨Nat.le_refl _, Nat.le_refl _⟩, fun p e R s m args below meth c H locs cells slots ls G h1 h2 h3 h4 h5 => ?_⟩
  rw [show mT M1 - t0 = cells by omega, show mW M1 - w0 = slots by omega]
  exact W.vret G.1 G.2.1 (G.2.2.2.1.trans hr) (fun t ht _ => ⟨rfl, by rw [ht]; exact h3, h4.F ht⟩) h4.2.2 hd G.2.2.2.2.1
theorem a_aret {x : Option Nat} {nm : String} (hr : rt = some (.object nm)) (hd : decode cc pc = .ok (.areturn, 1)) (e : r = some (rv x)) : AW l Γ y cc nl rt d t0 w0 pc lv [rv x] M1 r M1 := by
  subst e
  refine ⟨⟨Nat.le_refl _, Nat.le_refl _⟩, fun p e R s m args below meth c H locs cells slots ls G h1 h2 h3 h4 h5 => ?_⟩
  rw [show mT M1 - t0 = cells by omega, show mW M1 - w0 = slots by omega]
  exact W.aret (v := tv Γ (rv x)) G.1 G.2.1 (G.2.2.2.1.trans hr) (Or.inl ⟨nm, rfl⟩) (by cases x with
    | none => exact Or.inl rfl
    | some a => exact Or.inr ⟨_, rfl⟩) (fun t ht _ => ⟨rfl, by rw [ht]; exact h3, h4.F ht⟩) h4.2.2 hd G.2.2.2.2.1
end RULES
