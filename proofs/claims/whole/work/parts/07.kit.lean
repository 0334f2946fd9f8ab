/-! A walk's start and end over the memory Mm: AW (from a place in a method), AM (a whole method). Row by row as the kit's W, but that p, e, R, s .. are said once. -/
abbrev Gx : Type := Nat × (Nat → Nat) × va_G × (Nat → ClassId) × Mm
def gB (Γ : Gx) : Nat := Γ.1
def gO (Γ : Gx) : Nat → Nat := Γ.2.1
def gD (Γ : Gx) : va_G := Γ.2.2.1
def gA (Γ : Gx) : Nat → ClassId := Γ.2.2.2.1
def gM (Γ : Gx) : Mm := Γ.2.2.2.2
/-- where a cell lies -/
def ad (Γ : Gx) (o : Nat) : Nat := if o < 20 then gO Γ o else gB Γ + (o - 20)
theorem ad_own {Γ : Gx} {o : Nat} (h : 20 ≤ o) : ad Γ o = gB Γ + (o - 20) := if_neg (by omega)
theorem ad_inj {Γ : Gx} {a b : Nat} (ha : 20 ≤ a) (hb : 20 ≤ b) (h : ad Γ a = ad Γ b) : a = b := by
  rw [ad_own ha, ad_own hb] at h
  omega
def tv (Γ : Gx) : Value → Value
  | .ref o => .ref (ad Γ o)
  | v => v
theorem tv_cat (Γ : Gx) (v : Value) : (tv Γ v).category = v.category := by cases v <;> rfl
def rv (x : Option Nat) : Value := match x with
  | none => .null
  | some a => .ref a
theorem tv_rv (Γ : Gx) (x : Option Nat) : tv Γ (rv x) = va_rf (x.map (ad Γ)) := by cases x <;> rfl
def tl (Γ : Gx) (lv : List (Nat × Value)) : List (Nat × Value) := lv.map (fun q => (q.1, tv Γ q.2))
def ts (Γ : Gx) (st : List Value) : List Value := st.map (tv Γ)
theorem tl_get {Γ : Gx} {lv : List (Nat × Value)} {k i : Nat} {v : Value} (h : lv[k]? = some (i, v)) : (tl Γ lv)[k]? = some (i, tv Γ v) := by
  unfold tl
  rw [List.getElem?_map, h]
  rfl
theorem tl_pick (Γ : Gx) (lv : List (Nat × Value)) (ks : List Nat) : lv_pick (tl Γ lv) ks = tl Γ (lv_pick lv ks) := by
  unfold lv_pick tl
  induction ks with
  | nil => rfl
  | cons k t ih =>
    simp only [List.filterMap_cons, List.getElem?_map]
    cases lv[k]? with
    | none => simpa using ih
    | some q => simpa using ih
def lvS (lv : List (Nat × Value)) (i : Nat) (v : Value) : List (Nat × Value) := (i, v) :: lv.filter (fun q => !(q.1 == i) && !(q.1 + 1 == i && q.2.category == 2))
def lvD (lv : List (Nat × Value)) (i : Nat) (v : Value) : List (Nat × Value) := (i, v) :: lv.filter (fun q => !(q.1 == i) && (!(q.1 == i + 1) && !(q.1 + 1 == i && q.2.category == 2)))
theorem tl_lvS (Γ : Gx) (lv : List (Nat × Value)) (i : Nat) (v : Value) : (i, tv Γ v) :: (tl Γ lv).filter (fun q => !(q.1 == i) && !(q.1 + 1 == i && q.2.category == 2)) = tl Γ (lvS lv i v) := by
  show _ = (i, tv Γ v) :: (lv.filter _).map _
  congr 1
  unfold tl
  rw [List.filter_map]
  congr 1
  apply List.filter_congr
  intro q _
  simp only [Function.comp, tv_cat]
theorem tl_lvD (Γ : Gx) (lv : List (Nat × Value)) (i : Nat) (v : Value) : (i, tv Γ v) :: (tl Γ lv).filter (fun q => !(q.1 == i) && (!(q.1 == i + 1) && !(q.1 + 1 == i && q.2.category == 2))) = tl Γ (lvD lv i v) := by
  show _ = (i, tv Γ v) :: (lv.filter _).map _
  congr 1
  unfold tl
  rw [List.filter_map]
  congr 1
  apply List.filter_congr
  intro q _
  simp only [Function.comp, tv_cat]
theorem tl_args (Γ : Gx) (vs : List Value) : ∀ i : Nat, lv_args i (vs.map (tv Γ)) = tl Γ (lv_args i vs) := by
  induction vs with
  | nil => intro i; rfl
  | cons v t ih =>
    intro i
    show (i, tv Γ v) :: lv_args (if (tv Γ v).category = 2 then i + 2 else i + 1) (t.map (tv Γ)) = (i, tv Γ v) :: tl Γ (lv_args (if v.category = 2 then i + 2 else i + 1) t)
    rw [tv_cat, ih]
theorem tl_sl (Γ : Gx) (vs : List Value) : (lg_sl (vs.map (tv Γ))).length = (lg_sl vs).length := by
  unfold lg_sl
  induction vs with
  | nil => rfl
  | cons v t ih =>
    simp only [List.map_cons, List.flatMap_cons, List.length_append, tv_cat, ih]
    split <;> rfl
theorem ts_cat (Γ : Gx) (st : List Value) : ((ts Γ st).map fun v => v.category).sum = (st.map fun v => v.category).sum := by
  unfold ts
  rw [List.map_map]
  congr 1
  apply List.map_congr_left
  intro v _
  exact tv_cat Γ v
/-! the tables' good words -/
def gw : List Cond := lw_tbl.filter goodWord
theorem gw_in {w : Cond} (h : w ∈ lw_tbl) (g : goodWord w = true) : w ∈ gw := List.mem_filter.mpr ⟨h, g⟩
theorem in_t (i : Nat) {w : Cond} (h : tables_1[i]? = some w) (g : goodWord w = true) : w ∈ gw := gw_in (List.mem_append_right _ (List.mem_of_getElem? h)) g
theorem in_s (i : Nat) {w : Cond} (h : (k2_sels lw_privs)[i]? = some w) (g : goodWord w = true) : w ∈ gw := gw_in (List.mem_append_left _ (List.mem_of_getElem? h)) g
theorem gw_ws {c : Cond} (h : c ∈ gw) : GoodIn gw (c :: gw) := fun w hw => by
  have h1 : w ∈ gw := by
    rcases List.mem_cons.mp hw with e | e
    · rw [e]; exact h
    · exact e
  exact ⟨h1, good_of_word (List.mem_filter.mp h1).2⟩
/-! fields of the classes -/
def fT (c : Nat) : Nat → FieldType := match c with
  | 0 => tyX0 | 1 => tyX1 | 2 => tyX2 | 3 => tyX3 | 4 => tyX4 | 5 => tyX5 | 6 => tyX6 | 7 => tyX7 | 8 => tyX8 | _ => tyX9
def nF (c : Nat) : Nat := match c with
  | 0 => 2 | 1 => 4 | 2 => 5 | 3 => 3 | 4 => 5 | 5 => 15 | 6 => 3 | 7 => 2 | 8 => 10 | _ => 49
def isR (c k : Nat) : Bool := (fT c k).isReference
/-- what is known of class c -/
def CF (c : Nat) (C : String) (T : u_T) : Prop := vwCl[c]? = some (C, T, nF c) ∧ (∀ w ∈ u_ws C T (nF c), w ∈ gw) ∧ (∀ k, k < nF c → parseFieldDescriptor (T k).2.2.1 = some (fT c k)) ∧ (∀ a, a < nF c → ∀ b, b < nF c → a ≠ b → (T a).2.1 ≠ (T b).2.1)
theorem sub_gw {ws : List Cond} (h : ∀ w ∈ ws, w ∈ lw_tbl) (g : ws.all goodWord = true) : ∀ w ∈ ws, w ∈ gw := fun w hw => gw_in (h w hw) (List.all_eq_true.mp g w hw)
/-- what a field of an object holds, an array's element -/
def fV (Γ : Gx) (M : Mm) (c o k : Nat) : Value := if isR c k = true then va_rf ((mR M o k).map (ad Γ)) else .int (mI M o k)
def eV (Γ : Gx) (M : Mm) (kd o j : Nat) : Value := if kd = 20 then .int (mI M o j) else if kd = 21 then .long (mJ M o j) else va_rf ((mR M o j).map (ad Γ))
def mC (Γ : Gx) (M : Mm) (o : Nat) (H : Heap) : Prop :=
  (∀ c, (mK M o).1 = c + 1 → c < 10 → t_OB (ad Γ o) ((gD Γ).1 c) (nF c) ((gD Γ).2 c) H (fV Γ M c o)) ∧
  (20 ≤ (mK M o).1 → H[ad Γ o]? = some (arrV (gA Γ (mK M o).1) (mK M o).2 (eV Γ M (mK M o).1 o)))
theorem mC.cong {Γ : Gx} {M M1 : Mm} {o : Nat} {H H1 : Heap} (h : mC Γ M o H) (hk : mK M1 o = mK M o) (hi : ∀ j, mI M1 o j = mI M o j) (hj : ∀ j, mJ M1 o j = mJ M o j) (hr : ∀ j, mR M1 o j = mR M o j) (hq : H1[ad Γ o]? = H[ad Γ o]?) : mC Γ M1 o H1 := by
  refine ⟨fun c hc hl => ?_, fun h20 => ?_⟩
  · rw [hk] at hc
    refine t_OB.to ((h.1 c hc hl).kept hq) (fun k _ => ?_)
    unfold fV
    rw [hi, hr]
  · rw [hk] at h20 ⊢
    rw [hq, h.2 h20]
    congr 2
    funext j
    unfold eV
    rw [hi, hj, hr]
/-- the heap is as the memory says -/
def mRep (Γ : Gx) (M : Mm) (H : Heap) : Prop := (H.size + 20 = gB Γ + mT M ∧ 20 ≤ mT M) ∧ (∀ o, 20 ≤ o → o < mT M → mC Γ M o H) ∧ (∀ o, mT M ≤ o → mK M o = (0, 0)) ∧
  (∀ o, o < 20 → (mK M o = mK (gM Γ) o ∧ mI M o = mI (gM Γ) o ∧ mR M o = mR (gM Γ) o) ∧ ((mK M o).1 = 0 ∨ 30 ≤ (mK M o).1)) ∧ ∀ o, 20 ≤ o → (mK M o).1 < 30
theorem mRep.own {Γ : Gx} {M : Mm} {H : Heap} (h : mRep Γ M H) {o k : Nat} (hk : (mK M o).1 = k) (h1 : 1 ≤ k) (h2 : k < 30) : 20 ≤ o ∧ o < mT M := by
  constructor
  · rcases Nat.lt_or_ge o 20 with q | q
    · rcases (h.2.2.2.1 o q).2 with e | e <;> omega
    · exact q
  · rcases Nat.lt_or_ge o (mT M) with q | q
    · exact q
    · have e := h.2.2.1 o q
      rw [e] at hk
      have : (0 : Nat) = k := hk
      omega
/-- which places the run may write -/
def gF (Γ : Gx) : Nat → Prop := fun q => gB Γ ≤ q
theorem gF_own {Γ : Gx} {o : Nat} (h : 20 ≤ o) : gF Γ (ad Γ o) := by
  rw [ad_own h]
  exact Nat.le_add_right _ _
/-- one cell written -/
theorem mRep.put {Γ : Gx} {M M1 : Mm} {H H1 : Heap} (h : mRep Γ M H) {o : Nat} (ho : 20 ≤ o ∧ o < mT M) (hT : mT M1 = mT M) (hK : mK M1 = mK M) (hi : ∀ x, x ≠ o → mI M1 x = mI M x) (hj : ∀ x, x ≠ o → mJ M1 x = mJ M x) (hr : ∀ x, x ≠ o → mR M1 x = mR M x)
    (hz : H1.size = H.size) (hq : ∀ q, q ≠ ad Γ o → H1[q]? = H[q]?) (hc : mC Γ M1 o H1) : mRep Γ M1 H1 := by
  refine ⟨⟨by rw [hz, hT]; exact h.1.1, by rw [hT]; exact h.1.2⟩, fun x hx hl => ?_, fun x hx => by rw [hK]; exact h.2.2.1 x (by rw [← hT]; exact hx), fun x hx => ?_, fun x hx => by rw [hK]; exact h.2.2.2.2 x hx⟩
  · by_cases e : x = o
    · rw [e]; exact hc
    · refine (h.2.1 x hx (by rw [← hT]; exact hl)).cong (by rw [hK]) (fun j => by rw [hi x e]) (fun j => by rw [hj x e]) (fun j => by rw [hr x e]) (hq _ (fun z => e (ad_inj hx ho.1 z)))
  · have e : x ≠ o := by omega
    rw [hK, hi x e, hr x e]
    exact h.2.2.2.1 x hx
/-- a cell more -/
theorem mRep.new {Γ : Gx} {M M1 : Mm} {H H1 : Heap} (h : mRep Γ M H) (hT : mT M1 = mT M + 1) (hK : ∀ x, x ≠ mT M → mK M1 x = mK M x) (hi : ∀ x, x ≠ mT M → mI M1 x = mI M x) (hj : ∀ x, x ≠ mT M → mJ M1 x = mJ M x) (hr : ∀ x, x ≠ mT M → mR M1 x = mR M x)
    (h30 : (mK M1 (mT M)).1 < 30) (hz : H1.size = H.size + 1) (hq : ∀ q, q < H.size → H1[q]? = H[q]?) (hc : mC Γ M1 (mT M) H1) : mRep Γ M1 H1 := by
  have ha := h.1.1
  have hb := h.1.2
  refine ⟨⟨by rw [hz, hT]; omega, by rw [hT]; omega⟩, fun x hx hl => ?_, fun x hx => by rw [hK x (by omega)]; exact h.2.2.1 x (by omega), fun x hx => ?_, fun x hx => by
    by_cases e : x = mT M
    · rw [e]; exact h30
    · rw [hK x e]; exact h.2.2.2.2 x hx⟩
  · by_cases e : x = mT M
    · rw [e]; exact hc
    · refine (h.2.1 x hx (by omega)).cong (hK x e) (fun j => by rw [hi x e]) (fun j => by rw [hj x e]) (fun j => by rw [hr x e]) (hq _ ?_)
      rw [ad_own hx]
      omega
  · have e : x ≠ mT M := by omega
    rw [hK x e, hi x e, hr x e]
    exact h.2.2.2.1 x hx
theorem mRep.adT {Γ : Gx} {M : Mm} {H : Heap} (h : mRep Γ M H) : ad Γ (mT M) = H.size := by
  have ha := h.1.1
  have hb := h.1.2
  rw [ad_own hb]
  omega
/-! what is known of the machine: classes, array classes, nest mates, statics, what was there before -/
def gY (Γ : Gx) : List (ClassId × FieldType) := [(gA Γ 20, .int), (gA Γ 21, .long), (gA Γ 22, .object "AStreetByACane$Shelf"), (gA Γ 23, .object "AStreetByACane$Sign"), (gA Γ 24, .object "AStreetByACane$Thing"), (gA Γ 25, .array .int), (gA Γ 26, .array .long)]
def gN : List Cond := [.methodLinkNest "AStreetByACane" 42 ⟨"AStreetByACane$Outlook", "<init>", "()V"⟩ "AStreetByACane", .methodLinkNest "AStreetByACane" 49 ⟨"AStreetByACane$Trace", "<init>", "()V"⟩ "AStreetByACane", .methodLinkNest "AStreetByACane" 58 ⟨"AStreetByACane$Shelf", "<init>", "()V"⟩ "AStreetByACane", .methodLinkNest "AStreetByACane$Street" 51 ⟨"AStreetByACane$Odds", "<init>", "()V"⟩ "AStreetByACane"]
def gNF : Cond := .fieldLinkNest "AStreetByACane$Sign" 27 "AStreetByACane" "ABOVE" "[I" "AStreetByACane"
/-- a static and what it holds -/
def gSt (Γ : Gx) : List (String × String × String × Value) := [("AStreetByACane", "ABOVE", "[I", .ref 1), ("AStreetByACane", "BODIES", "[I", .ref 2), ("java/lang/String", "COMPACT_STRINGS", "Z", .int 1), ("jdk/internal/util/Preconditions", "SIOOBE_FORMATTER", "Ljava/util/function/BiFunction;", rv (mR (gM Γ) 18 0))]
/-- the texts, by their places in Reader's constant pool -/
def gLd : List (Nat × String × Nat) := [(82, "long", 3), (84, "sign", 4), (86, "thing", 5), (88, "wander", 6), (90, "arc", 7), (91, "hour", 8), (92, "", 9)]
def gRO (Γ : Gx) (U : State) (H : Heap) : Prop :=
  (∀ o, o < 20 → (mK (gM Γ) o).1 = 30 → va_T .int (gO Γ o) (mK (gM Γ) o).2 (fun j => .int (mI (gM Γ) o j)) (gF Γ) U H) ∧
  (∀ o, o < 20 → (mK (gM Γ) o).1 = 31 → va_T .byte (gO Γ o) (mK (gM Γ) o).2 (fun j => .int (mI (gM Γ) o j)) (gF Γ) U H) ∧
  (∀ o, o < 20 → (mK (gM Γ) o).1 = 32 → va_O "java/lang/String" (gO Γ o) (gF Γ) U H ∧ va_OF "java/lang/String" "coder" "B" (.int 0) (gO Γ o) (gF Γ) U H ∧ va_OF "java/lang/String" "value" "[B" (.ref (gO Γ (o + 7))) (gO Γ o) (gF Γ) U H ∧ o + 7 < 20) ∧
  ∀ q ∈ gSt Γ, va_Z q.1 q.2.1 q.2.2.1 (tv Γ q.2.2.2) (gF Γ) U H
def gAOA (ty : FieldType) (U : State) : Prop := (Cond.arrayOver (.array ty)).before #[] U = true
def gVF (Γ : Gx) (U : State) : Prop :=
  va_K (gD Γ) vwCl (gY Γ) U ∧ (∀ w ∈ gN, va_Nw w U) ∧ va_Nw gNF U ∧ (va_AO "AStreetByACane$Shelf" U ∧ va_AO "AStreetByACane$Sign" U ∧ va_AO "AStreetByACane$Thing" U ∧ gAOA .int U ∧ gAOA .long U) ∧
  (∀ q ∈ gLd, vk_R "AStreetByACane$Reader" q.1 q.2.1 (gO Γ q.2.2) U) ∧ gRO Γ U U.heap
theorem gAOA.moved {ty : FieldType} {u U : State} (hvm : u.vm.Alike U.vm) (h : gAOA ty u) : gAOA ty U := by
  have e := Cond.arrayOver_setVmC (args := #[]) hvm (.array ty)
  have h1 : (Cond.arrayOver (.array ty)).before #[] (u.setVm U.vm) = true := e.trans h
  exact h1
theorem gRO.moved {Γ : Gx} {u U : State} {H : Heap} (hvm : u.vm.Alike U.vm) (h : gRO Γ u H) : gRO Γ U H :=
  ⟨fun o ho hk => (h.1 o ho hk).moved hvm, fun o ho hk => (h.2.1 o ho hk).moved hvm, fun o ho hk => ⟨(h.2.2.1 o ho hk).1.moved hvm, (h.2.2.1 o ho hk).2.1.moved hvm, (h.2.2.1 o ho hk).2.2.1.moved hvm, (h.2.2.1 o ho hk).2.2.2⟩, fun q hq => (h.2.2.2 q hq).moved hvm⟩
theorem gRO.kept {Γ : Gx} {U : State} {H H1 : Heap} (h : gRO Γ U H) (hq : ∀ a : Nat, a < H.size → ¬ gF Γ a → H1[a]? = H[a]?) : gRO Γ U H1 :=
  ⟨fun o ho hk => (h.1 o ho hk).kept hq, fun o ho hk => (h.2.1 o ho hk).kept hq, fun o ho hk => ⟨(h.2.2.1 o ho hk).1.kept hq, (h.2.2.1 o ho hk).2.1.kept hq, (h.2.2.1 o ho hk).2.2.1.kept hq, (h.2.2.1 o ho hk).2.2.2⟩, fun q hq2 => (h.2.2.2 q hq2).kept hq⟩
theorem gNw_warm {s U : State} (hW : s.WarmedH U.vm) (h : ∀ w ∈ gN, va_Nw w s) : ∀ w ∈ gN, va_Nw w U := by
  intro w hw
  have h1 := h w hw
  simp only [gN, List.mem_cons, List.not_mem_nil, or_false] at hw
  rcases hw with rfl | rfl | rfl | rfl <;> exact va_Nw.warmM hW h1
theorem gVF.warm {Γ : Gx} {s U : State} (h : gVF Γ s) (hW : s.WarmedH U.vm) (hq : ∀ a : Nat, a < s.heap.size → ¬ gF Γ a → U.heap[a]? = s.heap[a]?) : gVF Γ U := by
  obtain ⟨h1, h2, h3, ⟨a1, a2, a3, a4, a5⟩, h5, h6⟩ := h
  exact ⟨va_K.moved hW.alike h1, gNw_warm hW h2, va_Nw.warmF hW h3, ⟨va_AO.moved hW.alike a1, va_AO.moved hW.alike a2, va_AO.moved hW.alike a3, gAOA.moved hW.alike a4, gAOA.moved hW.alike a5⟩, fun q hq2 => vk_R.warm hW (h5 q hq2), (gRO.moved hW.alike h6).kept hq⟩
/-- blind for the frame -/
theorem gVF.calling {Γ : Gx} {U : State} {g : JFrame} {mk : MethodId} {a : Array Value} (h : gVF Γ U) : gVF Γ (U.calling g mk a) := by
  obtain ⟨h1, h2, h3, ⟨a1, a2, a3, a4, a5⟩, h5, h6⟩ := h
  exact ⟨va_K.moved (u := U) (U := U.calling g mk a) (Vm.Alike.refl U.vm) h1, fun w hw => va_Nw.same (u := U) (by simp only [gN, List.mem_cons, List.not_mem_nil, or_false] at hw; rcases hw with rfl | rfl | rfl | rfl <;> rfl) rfl (h2 w hw), va_Nw.same (u := U) rfl rfl h3,
    ⟨va_AO.moved (u := U) (Vm.Alike.refl U.vm) a1, va_AO.moved (u := U) (Vm.Alike.refl U.vm) a2, va_AO.moved (u := U) (Vm.Alike.refl U.vm) a3, gAOA.moved (u := U) (Vm.Alike.refl U.vm) a4, gAOA.moved (u := U) (Vm.Alike.refl U.vm) a5⟩,
    fun q hq => vk_R.same (u := U) rfl (h5 q hq), gRO.moved (u := U) (U := U.calling g mk a) (H := U.heap) (Vm.Alike.refl U.vm) h6⟩
/-- a method: its name, code, locals, answer -/
abbrev MI : Type := MethodName × ByteArray × Nat × Option FieldType
/-- what stands through a method's walk -/
def gCt (Γ : Gx) (y : MethodName) (cc : ByteArray) (nl : Nat) (rt : Option FieldType) (p : Program) (s : State) (m : MethodId) (args : Array Value) (meth : Method) (c : Code) : Prop :=
  p.tables.exec = Jvm.exec ∧ c.code = cc ∧ c.maxLocals = nl ∧ meth.sig.returnType = rt ∧ meth.locks = false ∧ meth.name = y.name ∧ s.vm.findClass y.cls = some m.cls ∧ (∀ w ∈ gw, w.before args s = true) ∧ gVF Γ s
def mPc (Γ : Gx) (av : List Value) (M : Mm) : Array Value → State → Prop := fun v U => v = (ts Γ av).toArray ∧ mRep Γ M U.heap ∧ gVF Γ U
def mQc (Γ : Gx) (r : Option Value) (M : Mm) : Array Value → State → Outcome → State → Prop := fun _ st o t => o = .returned (r.map (tv Γ)) ∧ mRep Γ M t.heap ∧ va_F (gF Γ) st t
def AW (l : Launch) (Γ : Gx) (y : MethodName) (cc : ByteArray) (nl : Nat) (rt : Option FieldType) (d t0 w0 pc : Nat) (lv : List (Nat × Value)) (st : List Value) (M : Mm) (r : Option Value) (M1 : Mm) : Prop :=
  (mT M ≤ mT M1 ∧ mW M ≤ mW M1) ∧ ∀ (p : Program) (e : Env) (R : Room) (s : State) (m : MethodId) (args : Array Value) (below : List Frame) (meth : Method) (c : Code) (H : Heap) (locs : List Loc) (cells slots : Nat) (ls : Array Slot),
    gCt Γ y cc nl rt p s m args meth c → (d ≤ R.frames ∧ 64 * d ≤ R.locals ∧ mT M1 ≤ t0 + R.cells ∧ mW M1 ≤ w0 + R.slots) → (t0 + cells = mT M ∧ w0 + slots = mW M) → mRep Γ M H → va_S (gF Γ) s.heap H locs → lv_has ls nl (tl Γ lv) →
    W p l e R s m args below meth c H locs cells slots (MQ below (mQc Γ r M1) args s (mT M1 - t0) (mW M1 - w0) (gF Γ)) (F0 m pc ls (ts Γ st))
def AM (l : Launch) (Γ : Gx) (d : Nat) (y : MethodName) (cc : ByteArray) (nl : Nat) (rt : Option FieldType) (av : List Value) (M : Mm) (r : Option Value) (M1 : Mm) : Prop :=
  (mT M ≤ mT M1 ∧ mW M ≤ mW M1) ∧ Met l y (.code y cc nl rt :: gw) ({ frames := d, cells := mT M1 - mT M, slots := mW M1 - mW M, locals := 64 * d }) (mPc Γ av M) (mQc Γ r M1) (mT M1 - mT M) (mW M1 - mW M) (gF Γ)
/-- what is read of a method's name and code -/
def MF (y : MethodName) (cc : ByteArray) (nl : Nat) (rt : Option FieldType) (n : Nat) : Prop :=
  (plainName y.cls = true ∧ nl ≤ 40) ∧ (y.cls ≠ "java/lang/invoke/MethodHandle" ∧ y.cls ≠ "java/lang/invoke/VarHandle" ∧ (parseMethodDescriptor y.desc).map (fun d => d.parameters.length) = some n) ∧ Cond.code y cc nl rt ∈ gw ∧ Cond.initialized y.cls ∈ gw
theorem mPc.blind {Γ : Gx} {av : List Value} {M : Mm} : FrameBlind (mPc Γ av M) := fun _ _ _ _ h => ⟨h.1, h.2.1, h.2.2.calling⟩
set_option maxHeartbeats 4000000 in
theorem AM.of {l : Launch} {Γ : Gx} {d : Nat} {y : MethodName} {cc : ByteArray} {nl n : Nat} {rt : Option FieldType} {av : List Value} {M : Mm} {r : Option Value} {M1 : Mm} (hM : MF y cc nl rt n) (hlen : (lg_sl av).length ≤ nl)
    (h : AW l Γ y cc nl rt d (mT M) (mW M) 0 (lv_args 0 av) [] M r M1) : AM l Γ d y cc nl rt av M r M1 := by
  refine ⟨h.1, Met.ofW (cc := cc) (maxL := nl) (ret := rt) hM.1.1 rfl ?_⟩
  intro p e s m args below meth c s₁ B hml hv
  obtain ⟨rfl, hR, hV⟩ := hv
  have hts := atoms_spec (ws := .code y cc nl rt :: gw) B.pre
  rw [lg_entry_eq]
  have hl := lv_entry (ts Γ av) (n := nl) (by unfold ts; rw [tl_sl]; exact hlen)
  rw [show lv_args 0 (ts Γ av) = tl Γ (lv_args 0 av) from tl_args Γ av 0] at hl
  have hd1 : mT M1 ≤ mT M + (mT M1 - mT M) := by omega
  have hd2 : mW M1 ≤ mW M + (mW M1 - mW M) := by omega
  exact h.2 p e _ s m _ below meth c s.heap [] 0 0 _ ⟨B.exec, B.bytes, hml, B.returns, B.notSynchronized, (name_of_methodNamed B.named B.method).1, findClass_of_methodNamed B.named, fun w hw => hts w (List.mem_cons_of_mem _ hw), hV⟩ ⟨Nat.le_refl _, Nat.le_refl _, hd1, hd2⟩ ⟨rfl, rfl⟩ hR va_S.rf hl
