/-! steps of the functions, cell by cell: to be used by simp before it looks into what follows (written by gen3.py) -/
theorem bnd1 {α β : Type} {x : Option α} {a : α} (h : x = some a) (f : α → Option β) : Option.bind x f = f a := by rw [h]; exact Eq.trans (Eq.refl _) (Eq.refl _)
theorem kb20 {β : Type} {M : Mm} (h : FIX M) (f : Unit → Option β) : Option.bind (kc M 8 20) f = f () := by
  have hk := K20 h
  exact bnd1 (by unfold kc; rw [hk]; rfl) f
theorem ib20 {β : Type} {M : Mm} (h : FIX M) (k : Nat) (f : Int32 → Option β) : Option.bind (fI M 8 20 k) f = f (mI M 20 k) := by
  have hk := K20 h
  exact bnd1 (by unfold fI; rw [hk]; rfl) f
theorem pb20 {β : Type} {M : Mm} (h : FIX M) (k : Nat) (v : Int32) (f : Mm → Option β) : Option.bind (pI M 8 20 k v) f = f (sI M 20 k v) := by
  have hk := K20 h
  exact bnd1 (by unfold pI; rw [hk]; rfl) f
theorem kb22 {β : Type} {M : Mm} (h : FIX M) (f : Unit → Option β) : Option.bind (kc M 5 22) f = f () := by
  have hk := K22 h
  exact bnd1 (by unfold kc; rw [hk]; rfl) f
theorem ib22 {β : Type} {M : Mm} (h : FIX M) (k : Nat) (f : Int32 → Option β) : Option.bind (fI M 5 22 k) f = f (mI M 22 k) := by
  have hk := K22 h
  exact bnd1 (by unfold fI; rw [hk]; rfl) f
theorem pb22 {β : Type} {M : Mm} (h : FIX M) (k : Nat) (v : Int32) (f : Mm → Option β) : Option.bind (pI M 5 22 k v) f = f (sI M 22 k v) := by
  have hk := K22 h
  exact bnd1 (by unfold pI; rw [hk]; rfl) f
theorem kb25 {β : Type} {M : Mm} (h : FIX M) (f : Unit → Option β) : Option.bind (kc M 0 25) f = f () := by
  have hk := K25 h
  exact bnd1 (by unfold kc; rw [hk]; rfl) f
theorem ib25 {β : Type} {M : Mm} (h : FIX M) (k : Nat) (f : Int32 → Option β) : Option.bind (fI M 0 25 k) f = f (mI M 25 k) := by
  have hk := K25 h
  exact bnd1 (by unfold fI; rw [hk]; rfl) f
theorem pb25 {β : Type} {M : Mm} (h : FIX M) (k : Nat) (v : Int32) (f : Mm → Option β) : Option.bind (pI M 0 25 k v) f = f (sI M 25 k v) := by
  have hk := K25 h
  exact bnd1 (by unfold pI; rw [hk]; rfl) f
theorem ab26 {β : Type} {M : Mm} (h : FIX M) {i : Nat} (hi : i < 24) (f : Int64 → Option β) : Option.bind (aJ M 26 (nI i)) f = f (mJ M 26 i) := by
  have hk := K26 h
  exact bnd1 (by have hc := nI_clamp (show i < 2 ^ 31 by omega); unfold aJ; rw [if_pos (by rw [hk, hc]; exact ⟨rfl, nI_pos (by omega), hi⟩), hc]) f
theorem tb26 {β : Type} {M : Mm} (h : FIX M) {i : Nat} (hi : i < 24) (v : Int64) (f : Mm → Option β) : Option.bind (tJ M 26 (nI i) v) f = f (sJ M 26 i v) := by
  have hk := K26 h
  exact bnd1 (by have hc := nI_clamp (show i < 2 ^ 31 by omega); unfold tJ; rw [if_pos (by rw [hk, hc]; exact ⟨rfl, nI_pos (by omega), hi⟩), hc]) f
theorem ab27 {β : Type} {M : Mm} (h : FIX M) {i : Nat} (hi : i < 24) (f : Int64 → Option β) : Option.bind (aJ M 27 (nI i)) f = f (mJ M 27 i) := by
  have hk := K27 h
  exact bnd1 (by have hc := nI_clamp (show i < 2 ^ 31 by omega); unfold aJ; rw [if_pos (by rw [hk, hc]; exact ⟨rfl, nI_pos (by omega), hi⟩), hc]) f
theorem tb27 {β : Type} {M : Mm} (h : FIX M) {i : Nat} (hi : i < 24) (v : Int64) (f : Mm → Option β) : Option.bind (tJ M 27 (nI i) v) f = f (sJ M 27 i v) := by
  have hk := K27 h
  exact bnd1 (by have hc := nI_clamp (show i < 2 ^ 31 by omega); unfold tJ; rw [if_pos (by rw [hk, hc]; exact ⟨rfl, nI_pos (by omega), hi⟩), hc]) f
theorem kb28 {β : Type} {M : Mm} (h : FIX M) (f : Unit → Option β) : Option.bind (kc M 5 28) f = f () := by
  have hk := K28 h
  exact bnd1 (by unfold kc; rw [hk]; rfl) f
theorem ib28 {β : Type} {M : Mm} (h : FIX M) (k : Nat) (f : Int32 → Option β) : Option.bind (fI M 5 28 k) f = f (mI M 28 k) := by
  have hk := K28 h
  exact bnd1 (by unfold fI; rw [hk]; rfl) f
theorem pb28 {β : Type} {M : Mm} (h : FIX M) (k : Nat) (v : Int32) (f : Mm → Option β) : Option.bind (pI M 5 28 k v) f = f (sI M 28 k v) := by
  have hk := K28 h
  exact bnd1 (by unfold pI; rw [hk]; rfl) f
theorem kb31 {β : Type} {M : Mm} (h : FIX M) (f : Unit → Option β) : Option.bind (kc M 0 31) f = f () := by
  have hk := K31 h
  exact bnd1 (by unfold kc; rw [hk]; rfl) f
theorem ib31 {β : Type} {M : Mm} (h : FIX M) (k : Nat) (f : Int32 → Option β) : Option.bind (fI M 0 31 k) f = f (mI M 31 k) := by
  have hk := K31 h
  exact bnd1 (by unfold fI; rw [hk]; rfl) f
theorem pb31 {β : Type} {M : Mm} (h : FIX M) (k : Nat) (v : Int32) (f : Mm → Option β) : Option.bind (pI M 0 31 k v) f = f (sI M 31 k v) := by
  have hk := K31 h
  exact bnd1 (by unfold pI; rw [hk]; rfl) f
theorem ab32 {β : Type} {M : Mm} (h : FIX M) {i : Nat} (hi : i < 24) (f : Int64 → Option β) : Option.bind (aJ M 32 (nI i)) f = f (mJ M 32 i) := by
  have hk := K32 h
  exact bnd1 (by have hc := nI_clamp (show i < 2 ^ 31 by omega); unfold aJ; rw [if_pos (by rw [hk, hc]; exact ⟨rfl, nI_pos (by omega), hi⟩), hc]) f
theorem tb32 {β : Type} {M : Mm} (h : FIX M) {i : Nat} (hi : i < 24) (v : Int64) (f : Mm → Option β) : Option.bind (tJ M 32 (nI i) v) f = f (sJ M 32 i v) := by
  have hk := K32 h
  exact bnd1 (by have hc := nI_clamp (show i < 2 ^ 31 by omega); unfold tJ; rw [if_pos (by rw [hk, hc]; exact ⟨rfl, nI_pos (by omega), hi⟩), hc]) f
theorem ab33 {β : Type} {M : Mm} (h : FIX M) {i : Nat} (hi : i < 24) (f : Int64 → Option β) : Option.bind (aJ M 33 (nI i)) f = f (mJ M 33 i) := by
  have hk := K33 h
  exact bnd1 (by have hc := nI_clamp (show i < 2 ^ 31 by omega); unfold aJ; rw [if_pos (by rw [hk, hc]; exact ⟨rfl, nI_pos (by omega), hi⟩), hc]) f
theorem tb33 {β : Type} {M : Mm} (h : FIX M) {i : Nat} (hi : i < 24) (v : Int64) (f : Mm → Option β) : Option.bind (tJ M 33 (nI i) v) f = f (sJ M 33 i v) := by
  have hk := K33 h
  exact bnd1 (by have hc := nI_clamp (show i < 2 ^ 31 by omega); unfold tJ; rw [if_pos (by rw [hk, hc]; exact ⟨rfl, nI_pos (by omega), hi⟩), hc]) f
theorem kb34 {β : Type} {M : Mm} (h : FIX M) (f : Unit → Option β) : Option.bind (kc M 5 34) f = f () := by
  have hk := K34 h
  exact bnd1 (by unfold kc; rw [hk]; rfl) f
theorem ib34 {β : Type} {M : Mm} (h : FIX M) (k : Nat) (f : Int32 → Option β) : Option.bind (fI M 5 34 k) f = f (mI M 34 k) := by
  have hk := K34 h
  exact bnd1 (by unfold fI; rw [hk]; rfl) f
theorem pb34 {β : Type} {M : Mm} (h : FIX M) (k : Nat) (v : Int32) (f : Mm → Option β) : Option.bind (pI M 5 34 k v) f = f (sI M 34 k v) := by
  have hk := K34 h
  exact bnd1 (by unfold pI; rw [hk]; rfl) f
theorem kb37 {β : Type} {M : Mm} (h : FIX M) (f : Unit → Option β) : Option.bind (kc M 0 37) f = f () := by
  have hk := K37 h
  exact bnd1 (by unfold kc; rw [hk]; rfl) f
theorem ib37 {β : Type} {M : Mm} (h : FIX M) (k : Nat) (f : Int32 → Option β) : Option.bind (fI M 0 37 k) f = f (mI M 37 k) := by
  have hk := K37 h
  exact bnd1 (by unfold fI; rw [hk]; rfl) f
theorem pb37 {β : Type} {M : Mm} (h : FIX M) (k : Nat) (v : Int32) (f : Mm → Option β) : Option.bind (pI M 0 37 k v) f = f (sI M 37 k v) := by
  have hk := K37 h
  exact bnd1 (by unfold pI; rw [hk]; rfl) f
theorem ab38 {β : Type} {M : Mm} (h : FIX M) {i : Nat} (hi : i < 24) (f : Int64 → Option β) : Option.bind (aJ M 38 (nI i)) f = f (mJ M 38 i) := by
  have hk := K38 h
  exact bnd1 (by have hc := nI_clamp (show i < 2 ^ 31 by omega); unfold aJ; rw [if_pos (by rw [hk, hc]; exact ⟨rfl, nI_pos (by omega), hi⟩), hc]) f
theorem tb38 {β : Type} {M : Mm} (h : FIX M) {i : Nat} (hi : i < 24) (v : Int64) (f : Mm → Option β) : Option.bind (tJ M 38 (nI i) v) f = f (sJ M 38 i v) := by
  have hk := K38 h
  exact bnd1 (by have hc := nI_clamp (show i < 2 ^ 31 by omega); unfold tJ; rw [if_pos (by rw [hk, hc]; exact ⟨rfl, nI_pos (by omega), hi⟩), hc]) f
theorem ab39 {β : Type} {M : Mm} (h : FIX M) {i : Nat} (hi : i < 24) (f : Int64 → Option β) : Option.bind (aJ M 39 (nI i)) f = f (mJ M 39 i) := by
  have hk := K39 h
  exact bnd1 (by have hc := nI_clamp (show i < 2 ^ 31 by omega); unfold aJ; rw [if_pos (by rw [hk, hc]; exact ⟨rfl, nI_pos (by omega), hi⟩), hc]) f
theorem tb39 {β : Type} {M : Mm} (h : FIX M) {i : Nat} (hi : i < 24) (v : Int64) (f : Mm → Option β) : Option.bind (tJ M 39 (nI i) v) f = f (sJ M 39 i v) := by
  have hk := K39 h
  exact bnd1 (by have hc := nI_clamp (show i < 2 ^ 31 by omega); unfold tJ; rw [if_pos (by rw [hk, hc]; exact ⟨rfl, nI_pos (by omega), hi⟩), hc]) f
theorem ab40 {β : Type} {M : Mm} (h : FIX M) {i : Nat} (hi : i < 8) (f : Int32 → Option β) : Option.bind (aI M 40 (nI i)) f = f (mI M 40 i) := by
  have hk := K40 h
  exact bnd1 (by have hc := nI_clamp (show i < 2 ^ 31 by omega); unfold aI; rw [if_pos (by rw [hk, hc]; exact ⟨Or.inl rfl, nI_pos (by omega), hi⟩), hc]) f
theorem tb40 {β : Type} {M : Mm} (h : FIX M) {i : Nat} (hi : i < 8) (v : Int32) (f : Mm → Option β) : Option.bind (tI M 40 (nI i) v) f = f (sI M 40 i v) := by
  have hk := K40 h
  exact bnd1 (by have hc := nI_clamp (show i < 2 ^ 31 by omega); unfold tI; rw [if_pos (by rw [hk, hc]; exact ⟨rfl, nI_pos (by omega), hi⟩), hc]) f
theorem kb41 {β : Type} {M : Mm} (h : FIX M) (f : Unit → Option β) : Option.bind (kc M 1 41) f = f () := by
  have hk := K41 h
  exact bnd1 (by unfold kc; rw [hk]; rfl) f
theorem ib41 {β : Type} {M : Mm} (h : FIX M) (k : Nat) (f : Int32 → Option β) : Option.bind (fI M 1 41 k) f = f (mI M 41 k) := by
  have hk := K41 h
  exact bnd1 (by unfold fI; rw [hk]; rfl) f
theorem pb41 {β : Type} {M : Mm} (h : FIX M) (k : Nat) (v : Int32) (f : Mm → Option β) : Option.bind (pI M 1 41 k v) f = f (sI M 41 k v) := by
  have hk := K41 h
  exact bnd1 (by unfold pI; rw [hk]; rfl) f
theorem ab43 {β : Type} {M : Mm} (h : FIX M) {i : Nat} (hi : i < 24) (f : Int32 → Option β) : Option.bind (aI M 43 (nI i)) f = f (mI M 43 i) := by
  have hk := K43 h
  exact bnd1 (by have hc := nI_clamp (show i < 2 ^ 31 by omega); unfold aI; rw [if_pos (by rw [hk, hc]; exact ⟨Or.inl rfl, nI_pos (by omega), hi⟩), hc]) f
theorem tb43 {β : Type} {M : Mm} (h : FIX M) {i : Nat} (hi : i < 24) (v : Int32) (f : Mm → Option β) : Option.bind (tI M 43 (nI i) v) f = f (sI M 43 i v) := by
  have hk := K43 h
  exact bnd1 (by have hc := nI_clamp (show i < 2 ^ 31 by omega); unfold tI; rw [if_pos (by rw [hk, hc]; exact ⟨rfl, nI_pos (by omega), hi⟩), hc]) f
theorem ab44 {β : Type} {M : Mm} (h : FIX M) {i : Nat} (hi : i < 24) (f : Int32 → Option β) : Option.bind (aI M 44 (nI i)) f = f (mI M 44 i) := by
  have hk := K44 h
  exact bnd1 (by have hc := nI_clamp (show i < 2 ^ 31 by omega); unfold aI; rw [if_pos (by rw [hk, hc]; exact ⟨Or.inl rfl, nI_pos (by omega), hi⟩), hc]) f
theorem tb44 {β : Type} {M : Mm} (h : FIX M) {i : Nat} (hi : i < 24) (v : Int32) (f : Mm → Option β) : Option.bind (tI M 44 (nI i) v) f = f (sI M 44 i v) := by
  have hk := K44 h
  exact bnd1 (by have hc := nI_clamp (show i < 2 ^ 31 by omega); unfold tI; rw [if_pos (by rw [hk, hc]; exact ⟨rfl, nI_pos (by omega), hi⟩), hc]) f
theorem ab45 {β : Type} {M : Mm} (h : FIX M) {i : Nat} (hi : i < 24) (f : Int32 → Option β) : Option.bind (aI M 45 (nI i)) f = f (mI M 45 i) := by
  have hk := K45 h
  exact bnd1 (by have hc := nI_clamp (show i < 2 ^ 31 by omega); unfold aI; rw [if_pos (by rw [hk, hc]; exact ⟨Or.inl rfl, nI_pos (by omega), hi⟩), hc]) f
theorem tb45 {β : Type} {M : Mm} (h : FIX M) {i : Nat} (hi : i < 24) (v : Int32) (f : Mm → Option β) : Option.bind (tI M 45 (nI i) v) f = f (sI M 45 i v) := by
  have hk := K45 h
  exact bnd1 (by have hc := nI_clamp (show i < 2 ^ 31 by omega); unfold tI; rw [if_pos (by rw [hk, hc]; exact ⟨rfl, nI_pos (by omega), hi⟩), hc]) f
theorem ab46 {β : Type} {M : Mm} (h : FIX M) {i : Nat} (hi : i < 24) (f : Int32 → Option β) : Option.bind (aI M 46 (nI i)) f = f (mI M 46 i) := by
  have hk := K46 h
  exact bnd1 (by have hc := nI_clamp (show i < 2 ^ 31 by omega); unfold aI; rw [if_pos (by rw [hk, hc]; exact ⟨Or.inl rfl, nI_pos (by omega), hi⟩), hc]) f
theorem tb46 {β : Type} {M : Mm} (h : FIX M) {i : Nat} (hi : i < 24) (v : Int32) (f : Mm → Option β) : Option.bind (tI M 46 (nI i) v) f = f (sI M 46 i v) := by
  have hk := K46 h
  exact bnd1 (by have hc := nI_clamp (show i < 2 ^ 31 by omega); unfold tI; rw [if_pos (by rw [hk, hc]; exact ⟨rfl, nI_pos (by omega), hi⟩), hc]) f
theorem ab47 {β : Type} {M : Mm} (h : FIX M) {i : Nat} (hi : i < 24) (f : Int32 → Option β) : Option.bind (aI M 47 (nI i)) f = f (mI M 47 i) := by
  have hk := K47 h
  exact bnd1 (by have hc := nI_clamp (show i < 2 ^ 31 by omega); unfold aI; rw [if_pos (by rw [hk, hc]; exact ⟨Or.inl rfl, nI_pos (by omega), hi⟩), hc]) f
theorem tb47 {β : Type} {M : Mm} (h : FIX M) {i : Nat} (hi : i < 24) (v : Int32) (f : Mm → Option β) : Option.bind (tI M 47 (nI i) v) f = f (sI M 47 i v) := by
  have hk := K47 h
  exact bnd1 (by have hc := nI_clamp (show i < 2 ^ 31 by omega); unfold tI; rw [if_pos (by rw [hk, hc]; exact ⟨rfl, nI_pos (by omega), hi⟩), hc]) f
theorem ab48 {β : Type} {M : Mm} (h : FIX M) {i : Nat} (hi : i < 24) (f : Int32 → Option β) : Option.bind (aI M 48 (nI i)) f = f (mI M 48 i) := by
  have hk := K48 h
  exact bnd1 (by have hc := nI_clamp (show i < 2 ^ 31 by omega); unfold aI; rw [if_pos (by rw [hk, hc]; exact ⟨Or.inl rfl, nI_pos (by omega), hi⟩), hc]) f
theorem tb48 {β : Type} {M : Mm} (h : FIX M) {i : Nat} (hi : i < 24) (v : Int32) (f : Mm → Option β) : Option.bind (tI M 48 (nI i) v) f = f (sI M 48 i v) := by
  have hk := K48 h
  exact bnd1 (by have hc := nI_clamp (show i < 2 ^ 31 by omega); unfold tI; rw [if_pos (by rw [hk, hc]; exact ⟨rfl, nI_pos (by omega), hi⟩), hc]) f
theorem ab49 {β : Type} {M : Mm} (h : FIX M) {i : Nat} (hi : i < 24) (f : Int32 → Option β) : Option.bind (aI M 49 (nI i)) f = f (mI M 49 i) := by
  have hk := K49 h
  exact bnd1 (by have hc := nI_clamp (show i < 2 ^ 31 by omega); unfold aI; rw [if_pos (by rw [hk, hc]; exact ⟨Or.inl rfl, nI_pos (by omega), hi⟩), hc]) f
theorem tb49 {β : Type} {M : Mm} (h : FIX M) {i : Nat} (hi : i < 24) (v : Int32) (f : Mm → Option β) : Option.bind (tI M 49 (nI i) v) f = f (sI M 49 i v) := by
  have hk := K49 h
  exact bnd1 (by have hc := nI_clamp (show i < 2 ^ 31 by omega); unfold tI; rw [if_pos (by rw [hk, hc]; exact ⟨rfl, nI_pos (by omega), hi⟩), hc]) f
theorem ab50 {β : Type} {M : Mm} (h : FIX M) {i : Nat} (hi : i < 24) (f : Int32 → Option β) : Option.bind (aI M 50 (nI i)) f = f (mI M 50 i) := by
  have hk := K50 h
  exact bnd1 (by have hc := nI_clamp (show i < 2 ^ 31 by omega); unfold aI; rw [if_pos (by rw [hk, hc]; exact ⟨Or.inl rfl, nI_pos (by omega), hi⟩), hc]) f
theorem tb50 {β : Type} {M : Mm} (h : FIX M) {i : Nat} (hi : i < 24) (v : Int32) (f : Mm → Option β) : Option.bind (tI M 50 (nI i) v) f = f (sI M 50 i v) := by
  have hk := K50 h
  exact bnd1 (by have hc := nI_clamp (show i < 2 ^ 31 by omega); unfold tI; rw [if_pos (by rw [hk, hc]; exact ⟨rfl, nI_pos (by omega), hi⟩), hc]) f
theorem ab52 {β : Type} {M : Mm} (h : FIX M) {i : Nat} (hi : i < 24) (f : Int64 → Option β) : Option.bind (aJ M 52 (nI i)) f = f (mJ M 52 i) := by
  have hk := K52 h
  exact bnd1 (by have hc := nI_clamp (show i < 2 ^ 31 by omega); unfold aJ; rw [if_pos (by rw [hk, hc]; exact ⟨rfl, nI_pos (by omega), hi⟩), hc]) f
theorem tb52 {β : Type} {M : Mm} (h : FIX M) {i : Nat} (hi : i < 24) (v : Int64) (f : Mm → Option β) : Option.bind (tJ M 52 (nI i) v) f = f (sJ M 52 i v) := by
  have hk := K52 h
  exact bnd1 (by have hc := nI_clamp (show i < 2 ^ 31 by omega); unfold tJ; rw [if_pos (by rw [hk, hc]; exact ⟨rfl, nI_pos (by omega), hi⟩), hc]) f
theorem ab53 {β : Type} {M : Mm} (h : FIX M) {i : Nat} (hi : i < 24) (f : Int64 → Option β) : Option.bind (aJ M 53 (nI i)) f = f (mJ M 53 i) := by
  have hk := K53 h
  exact bnd1 (by have hc := nI_clamp (show i < 2 ^ 31 by omega); unfold aJ; rw [if_pos (by rw [hk, hc]; exact ⟨rfl, nI_pos (by omega), hi⟩), hc]) f
theorem tb53 {β : Type} {M : Mm} (h : FIX M) {i : Nat} (hi : i < 24) (v : Int64) (f : Mm → Option β) : Option.bind (tJ M 53 (nI i) v) f = f (sJ M 53 i v) := by
  have hk := K53 h
  exact bnd1 (by have hc := nI_clamp (show i < 2 ^ 31 by omega); unfold tJ; rw [if_pos (by rw [hk, hc]; exact ⟨rfl, nI_pos (by omega), hi⟩), hc]) f
theorem ab54 {β : Type} {M : Mm} (h : FIX M) {i : Nat} (hi : i < 24) (f : Int64 → Option β) : Option.bind (aJ M 54 (nI i)) f = f (mJ M 54 i) := by
  have hk := K54 h
  exact bnd1 (by have hc := nI_clamp (show i < 2 ^ 31 by omega); unfold aJ; rw [if_pos (by rw [hk, hc]; exact ⟨rfl, nI_pos (by omega), hi⟩), hc]) f
theorem tb54 {β : Type} {M : Mm} (h : FIX M) {i : Nat} (hi : i < 24) (v : Int64) (f : Mm → Option β) : Option.bind (tJ M 54 (nI i) v) f = f (sJ M 54 i v) := by
  have hk := K54 h
  exact bnd1 (by have hc := nI_clamp (show i < 2 ^ 31 by omega); unfold tJ; rw [if_pos (by rw [hk, hc]; exact ⟨rfl, nI_pos (by omega), hi⟩), hc]) f
theorem ab55 {β : Type} {M : Mm} (h : FIX M) {i : Nat} (hi : i < 24) (f : Int64 → Option β) : Option.bind (aJ M 55 (nI i)) f = f (mJ M 55 i) := by
  have hk := K55 h
  exact bnd1 (by have hc := nI_clamp (show i < 2 ^ 31 by omega); unfold aJ; rw [if_pos (by rw [hk, hc]; exact ⟨rfl, nI_pos (by omega), hi⟩), hc]) f
theorem tb55 {β : Type} {M : Mm} (h : FIX M) {i : Nat} (hi : i < 24) (v : Int64) (f : Mm → Option β) : Option.bind (tJ M 55 (nI i) v) f = f (sJ M 55 i v) := by
  have hk := K55 h
  exact bnd1 (by have hc := nI_clamp (show i < 2 ^ 31 by omega); unfold tJ; rw [if_pos (by rw [hk, hc]; exact ⟨rfl, nI_pos (by omega), hi⟩), hc]) f
theorem ab56 {β : Type} {M : Mm} (h : FIX M) {i : Nat} (hi : i < 24) (f : Int64 → Option β) : Option.bind (aJ M 56 (nI i)) f = f (mJ M 56 i) := by
  have hk := K56 h
  exact bnd1 (by have hc := nI_clamp (show i < 2 ^ 31 by omega); unfold aJ; rw [if_pos (by rw [hk, hc]; exact ⟨rfl, nI_pos (by omega), hi⟩), hc]) f
theorem tb56 {β : Type} {M : Mm} (h : FIX M) {i : Nat} (hi : i < 24) (v : Int64) (f : Mm → Option β) : Option.bind (tJ M 56 (nI i) v) f = f (sJ M 56 i v) := by
  have hk := K56 h
  exact bnd1 (by have hc := nI_clamp (show i < 2 ^ 31 by omega); unfold tJ; rw [if_pos (by rw [hk, hc]; exact ⟨rfl, nI_pos (by omega), hi⟩), hc]) f
theorem ab57 {β : Type} {M : Mm} (h : FIX M) {i : Nat} (hi : i < 24) (f : Int64 → Option β) : Option.bind (aJ M 57 (nI i)) f = f (mJ M 57 i) := by
  have hk := K57 h
  exact bnd1 (by have hc := nI_clamp (show i < 2 ^ 31 by omega); unfold aJ; rw [if_pos (by rw [hk, hc]; exact ⟨rfl, nI_pos (by omega), hi⟩), hc]) f
theorem tb57 {β : Type} {M : Mm} (h : FIX M) {i : Nat} (hi : i < 24) (v : Int64) (f : Mm → Option β) : Option.bind (tJ M 57 (nI i) v) f = f (sJ M 57 i v) := by
  have hk := K57 h
  exact bnd1 (by have hc := nI_clamp (show i < 2 ^ 31 by omega); unfold tJ; rw [if_pos (by rw [hk, hc]; exact ⟨rfl, nI_pos (by omega), hi⟩), hc]) f
theorem ab58 {β : Type} {M : Mm} (h : FIX M) {i : Nat} (hi : i < 24) (f : Int64 → Option β) : Option.bind (aJ M 58 (nI i)) f = f (mJ M 58 i) := by
  have hk := K58 h
  exact bnd1 (by have hc := nI_clamp (show i < 2 ^ 31 by omega); unfold aJ; rw [if_pos (by rw [hk, hc]; exact ⟨rfl, nI_pos (by omega), hi⟩), hc]) f
theorem tb58 {β : Type} {M : Mm} (h : FIX M) {i : Nat} (hi : i < 24) (v : Int64) (f : Mm → Option β) : Option.bind (tJ M 58 (nI i) v) f = f (sJ M 58 i v) := by
  have hk := K58 h
  exact bnd1 (by have hc := nI_clamp (show i < 2 ^ 31 by omega); unfold tJ; rw [if_pos (by rw [hk, hc]; exact ⟨rfl, nI_pos (by omega), hi⟩), hc]) f
theorem ab59 {β : Type} {M : Mm} (h : FIX M) {i : Nat} (hi : i < 24) (f : Int64 → Option β) : Option.bind (aJ M 59 (nI i)) f = f (mJ M 59 i) := by
  have hk := K59 h
  exact bnd1 (by have hc := nI_clamp (show i < 2 ^ 31 by omega); unfold aJ; rw [if_pos (by rw [hk, hc]; exact ⟨rfl, nI_pos (by omega), hi⟩), hc]) f
theorem tb59 {β : Type} {M : Mm} (h : FIX M) {i : Nat} (hi : i < 24) (v : Int64) (f : Mm → Option β) : Option.bind (tJ M 59 (nI i) v) f = f (sJ M 59 i v) := by
  have hk := K59 h
  exact bnd1 (by have hc := nI_clamp (show i < 2 ^ 31 by omega); unfold tJ; rw [if_pos (by rw [hk, hc]; exact ⟨rfl, nI_pos (by omega), hi⟩), hc]) f
theorem ab60 {β : Type} {M : Mm} (h : FIX M) {i : Nat} (hi : i < 24) (f : Int64 → Option β) : Option.bind (aJ M 60 (nI i)) f = f (mJ M 60 i) := by
  have hk := K60 h
  exact bnd1 (by have hc := nI_clamp (show i < 2 ^ 31 by omega); unfold aJ; rw [if_pos (by rw [hk, hc]; exact ⟨rfl, nI_pos (by omega), hi⟩), hc]) f
theorem tb60 {β : Type} {M : Mm} (h : FIX M) {i : Nat} (hi : i < 24) (v : Int64) (f : Mm → Option β) : Option.bind (tJ M 60 (nI i) v) f = f (sJ M 60 i v) := by
  have hk := K60 h
  exact bnd1 (by have hc := nI_clamp (show i < 2 ^ 31 by omega); unfold tJ; rw [if_pos (by rw [hk, hc]; exact ⟨rfl, nI_pos (by omega), hi⟩), hc]) f
theorem kb61 {β : Type} {M : Mm} (h : FIX M) (f : Unit → Option β) : Option.bind (kc M 7 61) f = f () := by
  have hk := K61 h
  exact bnd1 (by unfold kc; rw [hk]; rfl) f
theorem ib61 {β : Type} {M : Mm} (h : FIX M) (k : Nat) (f : Int32 → Option β) : Option.bind (fI M 7 61 k) f = f (mI M 61 k) := by
  have hk := K61 h
  exact bnd1 (by unfold fI; rw [hk]; rfl) f
theorem pb61 {β : Type} {M : Mm} (h : FIX M) (k : Nat) (v : Int32) (f : Mm → Option β) : Option.bind (pI M 7 61 k v) f = f (sI M 61 k v) := by
  have hk := K61 h
  exact bnd1 (by unfold pI; rw [hk]; rfl) f
theorem ab62 {β : Type} {M : Mm} (h : FIX M) {i : Nat} (hi : i < 20) (f : Int32 → Option β) : Option.bind (aI M 62 (nI i)) f = f (mI M 62 i) := by
  have hk := K62 h
  exact bnd1 (by have hc := nI_clamp (show i < 2 ^ 31 by omega); unfold aI; rw [if_pos (by rw [hk, hc]; exact ⟨Or.inl rfl, nI_pos (by omega), hi⟩), hc]) f
theorem tb62 {β : Type} {M : Mm} (h : FIX M) {i : Nat} (hi : i < 20) (v : Int32) (f : Mm → Option β) : Option.bind (tI M 62 (nI i) v) f = f (sI M 62 i v) := by
  have hk := K62 h
  exact bnd1 (by have hc := nI_clamp (show i < 2 ^ 31 by omega); unfold tI; rw [if_pos (by rw [hk, hc]; exact ⟨rfl, nI_pos (by omega), hi⟩), hc]) f
theorem ab63 {β : Type} {M : Mm} (h : FIX M) {i : Nat} (hi : i < 19) (f : Int64 → Option β) : Option.bind (aJ M 63 (nI i)) f = f (mJ M 63 i) := by
  have hk := K63 h
  exact bnd1 (by have hc := nI_clamp (show i < 2 ^ 31 by omega); unfold aJ; rw [if_pos (by rw [hk, hc]; exact ⟨rfl, nI_pos (by omega), hi⟩), hc]) f
theorem tb63 {β : Type} {M : Mm} (h : FIX M) {i : Nat} (hi : i < 19) (v : Int64) (f : Mm → Option β) : Option.bind (tJ M 63 (nI i) v) f = f (sJ M 63 i v) := by
  have hk := K63 h
  exact bnd1 (by have hc := nI_clamp (show i < 2 ^ 31 by omega); unfold tJ; rw [if_pos (by rw [hk, hc]; exact ⟨rfl, nI_pos (by omega), hi⟩), hc]) f
theorem kb64 {β : Type} {M : Mm} (h : FIX M) (f : Unit → Option β) : Option.bind (kc M 3 64) f = f () := by
  have hk := K64 h
  exact bnd1 (by unfold kc; rw [hk]; rfl) f
theorem ib64 {β : Type} {M : Mm} (h : FIX M) (k : Nat) (f : Int32 → Option β) : Option.bind (fI M 3 64 k) f = f (mI M 64 k) := by
  have hk := K64 h
  exact bnd1 (by unfold fI; rw [hk]; rfl) f
theorem pb64 {β : Type} {M : Mm} (h : FIX M) (k : Nat) (v : Int32) (f : Mm → Option β) : Option.bind (pI M 3 64 k v) f = f (sI M 64 k v) := by
  have hk := K64 h
  exact bnd1 (by unfold pI; rw [hk]; rfl) f
theorem ab65 {β : Type} {M : Mm} (h : FIX M) {i : Nat} (hi : i < 160) (f : Int64 → Option β) : Option.bind (aJ M 65 (nI i)) f = f (mJ M 65 i) := by
  have hk := K65 h
  exact bnd1 (by have hc := nI_clamp (show i < 2 ^ 31 by omega); unfold aJ; rw [if_pos (by rw [hk, hc]; exact ⟨rfl, nI_pos (by omega), hi⟩), hc]) f
theorem tb65 {β : Type} {M : Mm} (h : FIX M) {i : Nat} (hi : i < 160) (v : Int64) (f : Mm → Option β) : Option.bind (tJ M 65 (nI i) v) f = f (sJ M 65 i v) := by
  have hk := K65 h
  exact bnd1 (by have hc := nI_clamp (show i < 2 ^ 31 by omega); unfold tJ; rw [if_pos (by rw [hk, hc]; exact ⟨rfl, nI_pos (by omega), hi⟩), hc]) f
theorem kb66 {β : Type} {M : Mm} (h : FIX M) (f : Unit → Option β) : Option.bind (kc M 3 66) f = f () := by
  have hk := K66 h
  exact bnd1 (by unfold kc; rw [hk]; rfl) f
theorem ib66 {β : Type} {M : Mm} (h : FIX M) (k : Nat) (f : Int32 → Option β) : Option.bind (fI M 3 66 k) f = f (mI M 66 k) := by
  have hk := K66 h
  exact bnd1 (by unfold fI; rw [hk]; rfl) f
theorem pb66 {β : Type} {M : Mm} (h : FIX M) (k : Nat) (v : Int32) (f : Mm → Option β) : Option.bind (pI M 3 66 k v) f = f (sI M 66 k v) := by
  have hk := K66 h
  exact bnd1 (by unfold pI; rw [hk]; rfl) f
theorem ab67 {β : Type} {M : Mm} (h : FIX M) {i : Nat} (hi : i < 160) (f : Int64 → Option β) : Option.bind (aJ M 67 (nI i)) f = f (mJ M 67 i) := by
  have hk := K67 h
  exact bnd1 (by have hc := nI_clamp (show i < 2 ^ 31 by omega); unfold aJ; rw [if_pos (by rw [hk, hc]; exact ⟨rfl, nI_pos (by omega), hi⟩), hc]) f
theorem tb67 {β : Type} {M : Mm} (h : FIX M) {i : Nat} (hi : i < 160) (v : Int64) (f : Mm → Option β) : Option.bind (tJ M 67 (nI i) v) f = f (sJ M 67 i v) := by
  have hk := K67 h
  exact bnd1 (by have hc := nI_clamp (show i < 2 ^ 31 by omega); unfold tJ; rw [if_pos (by rw [hk, hc]; exact ⟨rfl, nI_pos (by omega), hi⟩), hc]) f
theorem kb68 {β : Type} {M : Mm} (h : FIX M) (f : Unit → Option β) : Option.bind (kc M 3 68) f = f () := by
  have hk := K68 h
  exact bnd1 (by unfold kc; rw [hk]; rfl) f
theorem ib68 {β : Type} {M : Mm} (h : FIX M) (k : Nat) (f : Int32 → Option β) : Option.bind (fI M 3 68 k) f = f (mI M 68 k) := by
  have hk := K68 h
  exact bnd1 (by unfold fI; rw [hk]; rfl) f
theorem pb68 {β : Type} {M : Mm} (h : FIX M) (k : Nat) (v : Int32) (f : Mm → Option β) : Option.bind (pI M 3 68 k v) f = f (sI M 68 k v) := by
  have hk := K68 h
  exact bnd1 (by unfold pI; rw [hk]; rfl) f
theorem ab69 {β : Type} {M : Mm} (h : FIX M) {i : Nat} (hi : i < 160) (f : Int64 → Option β) : Option.bind (aJ M 69 (nI i)) f = f (mJ M 69 i) := by
  have hk := K69 h
  exact bnd1 (by have hc := nI_clamp (show i < 2 ^ 31 by omega); unfold aJ; rw [if_pos (by rw [hk, hc]; exact ⟨rfl, nI_pos (by omega), hi⟩), hc]) f
theorem tb69 {β : Type} {M : Mm} (h : FIX M) {i : Nat} (hi : i < 160) (v : Int64) (f : Mm → Option β) : Option.bind (tJ M 69 (nI i) v) f = f (sJ M 69 i v) := by
  have hk := K69 h
  exact bnd1 (by have hc := nI_clamp (show i < 2 ^ 31 by omega); unfold tJ; rw [if_pos (by rw [hk, hc]; exact ⟨rfl, nI_pos (by omega), hi⟩), hc]) f
theorem kb70 {β : Type} {M : Mm} (h : FIX M) (f : Unit → Option β) : Option.bind (kc M 3 70) f = f () := by
  have hk := K70 h
  exact bnd1 (by unfold kc; rw [hk]; rfl) f
theorem ib70 {β : Type} {M : Mm} (h : FIX M) (k : Nat) (f : Int32 → Option β) : Option.bind (fI M 3 70 k) f = f (mI M 70 k) := by
  have hk := K70 h
  exact bnd1 (by unfold fI; rw [hk]; rfl) f
theorem pb70 {β : Type} {M : Mm} (h : FIX M) (k : Nat) (v : Int32) (f : Mm → Option β) : Option.bind (pI M 3 70 k v) f = f (sI M 70 k v) := by
  have hk := K70 h
  exact bnd1 (by unfold pI; rw [hk]; rfl) f
theorem ab71 {β : Type} {M : Mm} (h : FIX M) {i : Nat} (hi : i < 160) (f : Int64 → Option β) : Option.bind (aJ M 71 (nI i)) f = f (mJ M 71 i) := by
  have hk := K71 h
  exact bnd1 (by have hc := nI_clamp (show i < 2 ^ 31 by omega); unfold aJ; rw [if_pos (by rw [hk, hc]; exact ⟨rfl, nI_pos (by omega), hi⟩), hc]) f
theorem tb71 {β : Type} {M : Mm} (h : FIX M) {i : Nat} (hi : i < 160) (v : Int64) (f : Mm → Option β) : Option.bind (tJ M 71 (nI i) v) f = f (sJ M 71 i v) := by
  have hk := K71 h
  exact bnd1 (by have hc := nI_clamp (show i < 2 ^ 31 by omega); unfold tJ; rw [if_pos (by rw [hk, hc]; exact ⟨rfl, nI_pos (by omega), hi⟩), hc]) f
theorem kb72 {β : Type} {M : Mm} (h : FIX M) (f : Unit → Option β) : Option.bind (kc M 3 72) f = f () := by
  have hk := K72 h
  exact bnd1 (by unfold kc; rw [hk]; rfl) f
theorem ib72 {β : Type} {M : Mm} (h : FIX M) (k : Nat) (f : Int32 → Option β) : Option.bind (fI M 3 72 k) f = f (mI M 72 k) := by
  have hk := K72 h
  exact bnd1 (by unfold fI; rw [hk]; rfl) f
theorem pb72 {β : Type} {M : Mm} (h : FIX M) (k : Nat) (v : Int32) (f : Mm → Option β) : Option.bind (pI M 3 72 k v) f = f (sI M 72 k v) := by
  have hk := K72 h
  exact bnd1 (by unfold pI; rw [hk]; rfl) f
theorem ab73 {β : Type} {M : Mm} (h : FIX M) {i : Nat} (hi : i < 160) (f : Int64 → Option β) : Option.bind (aJ M 73 (nI i)) f = f (mJ M 73 i) := by
  have hk := K73 h
  exact bnd1 (by have hc := nI_clamp (show i < 2 ^ 31 by omega); unfold aJ; rw [if_pos (by rw [hk, hc]; exact ⟨rfl, nI_pos (by omega), hi⟩), hc]) f
theorem tb73 {β : Type} {M : Mm} (h : FIX M) {i : Nat} (hi : i < 160) (v : Int64) (f : Mm → Option β) : Option.bind (tJ M 73 (nI i) v) f = f (sJ M 73 i v) := by
  have hk := K73 h
  exact bnd1 (by have hc := nI_clamp (show i < 2 ^ 31 by omega); unfold tJ; rw [if_pos (by rw [hk, hc]; exact ⟨rfl, nI_pos (by omega), hi⟩), hc]) f
theorem kb74 {β : Type} {M : Mm} (h : FIX M) (f : Unit → Option β) : Option.bind (kc M 3 74) f = f () := by
  have hk := K74 h
  exact bnd1 (by unfold kc; rw [hk]; rfl) f
theorem ib74 {β : Type} {M : Mm} (h : FIX M) (k : Nat) (f : Int32 → Option β) : Option.bind (fI M 3 74 k) f = f (mI M 74 k) := by
  have hk := K74 h
  exact bnd1 (by unfold fI; rw [hk]; rfl) f
theorem pb74 {β : Type} {M : Mm} (h : FIX M) (k : Nat) (v : Int32) (f : Mm → Option β) : Option.bind (pI M 3 74 k v) f = f (sI M 74 k v) := by
  have hk := K74 h
  exact bnd1 (by unfold pI; rw [hk]; rfl) f
theorem ab75 {β : Type} {M : Mm} (h : FIX M) {i : Nat} (hi : i < 160) (f : Int64 → Option β) : Option.bind (aJ M 75 (nI i)) f = f (mJ M 75 i) := by
  have hk := K75 h
  exact bnd1 (by have hc := nI_clamp (show i < 2 ^ 31 by omega); unfold aJ; rw [if_pos (by rw [hk, hc]; exact ⟨rfl, nI_pos (by omega), hi⟩), hc]) f
theorem tb75 {β : Type} {M : Mm} (h : FIX M) {i : Nat} (hi : i < 160) (v : Int64) (f : Mm → Option β) : Option.bind (tJ M 75 (nI i) v) f = f (sJ M 75 i v) := by
  have hk := K75 h
  exact bnd1 (by have hc := nI_clamp (show i < 2 ^ 31 by omega); unfold tJ; rw [if_pos (by rw [hk, hc]; exact ⟨rfl, nI_pos (by omega), hi⟩), hc]) f
theorem kb76 {β : Type} {M : Mm} (h : FIX M) (f : Unit → Option β) : Option.bind (kc M 3 76) f = f () := by
  have hk := K76 h
  exact bnd1 (by unfold kc; rw [hk]; rfl) f
theorem ib76 {β : Type} {M : Mm} (h : FIX M) (k : Nat) (f : Int32 → Option β) : Option.bind (fI M 3 76 k) f = f (mI M 76 k) := by
  have hk := K76 h
  exact bnd1 (by unfold fI; rw [hk]; rfl) f
theorem pb76 {β : Type} {M : Mm} (h : FIX M) (k : Nat) (v : Int32) (f : Mm → Option β) : Option.bind (pI M 3 76 k v) f = f (sI M 76 k v) := by
  have hk := K76 h
  exact bnd1 (by unfold pI; rw [hk]; rfl) f
theorem ab77 {β : Type} {M : Mm} (h : FIX M) {i : Nat} (hi : i < 160) (f : Int64 → Option β) : Option.bind (aJ M 77 (nI i)) f = f (mJ M 77 i) := by
  have hk := K77 h
  exact bnd1 (by have hc := nI_clamp (show i < 2 ^ 31 by omega); unfold aJ; rw [if_pos (by rw [hk, hc]; exact ⟨rfl, nI_pos (by omega), hi⟩), hc]) f
theorem tb77 {β : Type} {M : Mm} (h : FIX M) {i : Nat} (hi : i < 160) (v : Int64) (f : Mm → Option β) : Option.bind (tJ M 77 (nI i) v) f = f (sJ M 77 i v) := by
  have hk := K77 h
  exact bnd1 (by have hc := nI_clamp (show i < 2 ^ 31 by omega); unfold tJ; rw [if_pos (by rw [hk, hc]; exact ⟨rfl, nI_pos (by omega), hi⟩), hc]) f
theorem kb78 {β : Type} {M : Mm} (h : FIX M) (f : Unit → Option β) : Option.bind (kc M 3 78) f = f () := by
  have hk := K78 h
  exact bnd1 (by unfold kc; rw [hk]; rfl) f
theorem ib78 {β : Type} {M : Mm} (h : FIX M) (k : Nat) (f : Int32 → Option β) : Option.bind (fI M 3 78 k) f = f (mI M 78 k) := by
  have hk := K78 h
  exact bnd1 (by unfold fI; rw [hk]; rfl) f
theorem pb78 {β : Type} {M : Mm} (h : FIX M) (k : Nat) (v : Int32) (f : Mm → Option β) : Option.bind (pI M 3 78 k v) f = f (sI M 78 k v) := by
  have hk := K78 h
  exact bnd1 (by unfold pI; rw [hk]; rfl) f
theorem ab79 {β : Type} {M : Mm} (h : FIX M) {i : Nat} (hi : i < 160) (f : Int64 → Option β) : Option.bind (aJ M 79 (nI i)) f = f (mJ M 79 i) := by
  have hk := K79 h
  exact bnd1 (by have hc := nI_clamp (show i < 2 ^ 31 by omega); unfold aJ; rw [if_pos (by rw [hk, hc]; exact ⟨rfl, nI_pos (by omega), hi⟩), hc]) f
theorem tb79 {β : Type} {M : Mm} (h : FIX M) {i : Nat} (hi : i < 160) (v : Int64) (f : Mm → Option β) : Option.bind (tJ M 79 (nI i) v) f = f (sJ M 79 i v) := by
  have hk := K79 h
  exact bnd1 (by have hc := nI_clamp (show i < 2 ^ 31 by omega); unfold tJ; rw [if_pos (by rw [hk, hc]; exact ⟨rfl, nI_pos (by omega), hi⟩), hc]) f
theorem kb80 {β : Type} {M : Mm} (h : FIX M) (f : Unit → Option β) : Option.bind (kc M 9 80) f = f () := by
  have hk := K80 h
  exact bnd1 (by unfold kc; rw [hk]; rfl) f
theorem ib80 {β : Type} {M : Mm} (h : FIX M) (k : Nat) (f : Int32 → Option β) : Option.bind (fI M 9 80 k) f = f (mI M 80 k) := by
  have hk := K80 h
  exact bnd1 (by unfold fI; rw [hk]; rfl) f
theorem pb80 {β : Type} {M : Mm} (h : FIX M) (k : Nat) (v : Int32) (f : Mm → Option β) : Option.bind (pI M 9 80 k v) f = f (sI M 80 k v) := by
  have hk := K80 h
  exact bnd1 (by unfold pI; rw [hk]; rfl) f
theorem ab81 {β : Type} {M : Mm} (h : FIX M) {i : Nat} (hi : i < 8) (f : Int32 → Option β) : Option.bind (aI M 81 (nI i)) f = f (mI M 81 i) := by
  have hk := K81 h
  exact bnd1 (by have hc := nI_clamp (show i < 2 ^ 31 by omega); unfold aI; rw [if_pos (by rw [hk, hc]; exact ⟨Or.inl rfl, nI_pos (by omega), hi⟩), hc]) f
theorem tb81 {β : Type} {M : Mm} (h : FIX M) {i : Nat} (hi : i < 8) (v : Int32) (f : Mm → Option β) : Option.bind (tI M 81 (nI i) v) f = f (sI M 81 i v) := by
  have hk := K81 h
  exact bnd1 (by have hc := nI_clamp (show i < 2 ^ 31 by omega); unfold tI; rw [if_pos (by rw [hk, hc]; exact ⟨rfl, nI_pos (by omega), hi⟩), hc]) f
theorem ab82 {β : Type} {M : Mm} (h : FIX M) {i : Nat} (hi : i < 8) (f : Int32 → Option β) : Option.bind (aI M 82 (nI i)) f = f (mI M 82 i) := by
  have hk := K82 h
  exact bnd1 (by have hc := nI_clamp (show i < 2 ^ 31 by omega); unfold aI; rw [if_pos (by rw [hk, hc]; exact ⟨Or.inl rfl, nI_pos (by omega), hi⟩), hc]) f
theorem tb82 {β : Type} {M : Mm} (h : FIX M) {i : Nat} (hi : i < 8) (v : Int32) (f : Mm → Option β) : Option.bind (tI M 82 (nI i) v) f = f (sI M 82 i v) := by
  have hk := K82 h
  exact bnd1 (by have hc := nI_clamp (show i < 2 ^ 31 by omega); unfold tI; rw [if_pos (by rw [hk, hc]; exact ⟨rfl, nI_pos (by omega), hi⟩), hc]) f
theorem ab83 {β : Type} {M : Mm} (h : FIX M) {i : Nat} (hi : i < 8) (f : Int32 → Option β) : Option.bind (aI M 83 (nI i)) f = f (mI M 83 i) := by
  have hk := K83 h
  exact bnd1 (by have hc := nI_clamp (show i < 2 ^ 31 by omega); unfold aI; rw [if_pos (by rw [hk, hc]; exact ⟨Or.inl rfl, nI_pos (by omega), hi⟩), hc]) f
theorem tb83 {β : Type} {M : Mm} (h : FIX M) {i : Nat} (hi : i < 8) (v : Int32) (f : Mm → Option β) : Option.bind (tI M 83 (nI i) v) f = f (sI M 83 i v) := by
  have hk := K83 h
  exact bnd1 (by have hc := nI_clamp (show i < 2 ^ 31 by omega); unfold tI; rw [if_pos (by rw [hk, hc]; exact ⟨rfl, nI_pos (by omega), hi⟩), hc]) f
theorem ab84 {β : Type} {M : Mm} (h : FIX M) {i : Nat} (hi : i < 8) (f : Int32 → Option β) : Option.bind (aI M 84 (nI i)) f = f (mI M 84 i) := by
  have hk := K84 h
  exact bnd1 (by have hc := nI_clamp (show i < 2 ^ 31 by omega); unfold aI; rw [if_pos (by rw [hk, hc]; exact ⟨Or.inl rfl, nI_pos (by omega), hi⟩), hc]) f
theorem tb84 {β : Type} {M : Mm} (h : FIX M) {i : Nat} (hi : i < 8) (v : Int32) (f : Mm → Option β) : Option.bind (tI M 84 (nI i) v) f = f (sI M 84 i v) := by
  have hk := K84 h
  exact bnd1 (by have hc := nI_clamp (show i < 2 ^ 31 by omega); unfold tI; rw [if_pos (by rw [hk, hc]; exact ⟨rfl, nI_pos (by omega), hi⟩), hc]) f
theorem ab85 {β : Type} {M : Mm} (h : FIX M) {i : Nat} (hi : i < 8) (f : Int32 → Option β) : Option.bind (aI M 85 (nI i)) f = f (mI M 85 i) := by
  have hk := K85 h
  exact bnd1 (by have hc := nI_clamp (show i < 2 ^ 31 by omega); unfold aI; rw [if_pos (by rw [hk, hc]; exact ⟨Or.inl rfl, nI_pos (by omega), hi⟩), hc]) f
theorem tb85 {β : Type} {M : Mm} (h : FIX M) {i : Nat} (hi : i < 8) (v : Int32) (f : Mm → Option β) : Option.bind (tI M 85 (nI i) v) f = f (sI M 85 i v) := by
  have hk := K85 h
  exact bnd1 (by have hc := nI_clamp (show i < 2 ^ 31 by omega); unfold tI; rw [if_pos (by rw [hk, hc]; exact ⟨rfl, nI_pos (by omega), hi⟩), hc]) f
theorem ab86 {β : Type} {M : Mm} (h : FIX M) {i : Nat} (hi : i < 8) (f : Int32 → Option β) : Option.bind (aI M 86 (nI i)) f = f (mI M 86 i) := by
  have hk := K86 h
  exact bnd1 (by have hc := nI_clamp (show i < 2 ^ 31 by omega); unfold aI; rw [if_pos (by rw [hk, hc]; exact ⟨Or.inl rfl, nI_pos (by omega), hi⟩), hc]) f
theorem tb86 {β : Type} {M : Mm} (h : FIX M) {i : Nat} (hi : i < 8) (v : Int32) (f : Mm → Option β) : Option.bind (tI M 86 (nI i) v) f = f (sI M 86 i v) := by
  have hk := K86 h
  exact bnd1 (by have hc := nI_clamp (show i < 2 ^ 31 by omega); unfold tI; rw [if_pos (by rw [hk, hc]; exact ⟨rfl, nI_pos (by omega), hi⟩), hc]) f
theorem ab87 {β : Type} {M : Mm} (h : FIX M) {i : Nat} (hi : i < 8) (f : Int32 → Option β) : Option.bind (aI M 87 (nI i)) f = f (mI M 87 i) := by
  have hk := K87 h
  exact bnd1 (by have hc := nI_clamp (show i < 2 ^ 31 by omega); unfold aI; rw [if_pos (by rw [hk, hc]; exact ⟨Or.inl rfl, nI_pos (by omega), hi⟩), hc]) f
theorem tb87 {β : Type} {M : Mm} (h : FIX M) {i : Nat} (hi : i < 8) (v : Int32) (f : Mm → Option β) : Option.bind (tI M 87 (nI i) v) f = f (sI M 87 i v) := by
  have hk := K87 h
  exact bnd1 (by have hc := nI_clamp (show i < 2 ^ 31 by omega); unfold tI; rw [if_pos (by rw [hk, hc]; exact ⟨rfl, nI_pos (by omega), hi⟩), hc]) f
theorem ab88 {β : Type} {M : Mm} (h : FIX M) {i : Nat} (hi : i < 8) (f : Int32 → Option β) : Option.bind (aI M 88 (nI i)) f = f (mI M 88 i) := by
  have hk := K88 h
  exact bnd1 (by have hc := nI_clamp (show i < 2 ^ 31 by omega); unfold aI; rw [if_pos (by rw [hk, hc]; exact ⟨Or.inl rfl, nI_pos (by omega), hi⟩), hc]) f
theorem tb88 {β : Type} {M : Mm} (h : FIX M) {i : Nat} (hi : i < 8) (v : Int32) (f : Mm → Option β) : Option.bind (tI M 88 (nI i) v) f = f (sI M 88 i v) := by
  have hk := K88 h
  exact bnd1 (by have hc := nI_clamp (show i < 2 ^ 31 by omega); unfold tI; rw [if_pos (by rw [hk, hc]; exact ⟨rfl, nI_pos (by omega), hi⟩), hc]) f
theorem ab89 {β : Type} {M : Mm} (h : FIX M) {i : Nat} (hi : i < 24) (f : Int64 → Option β) : Option.bind (aJ M 89 (nI i)) f = f (mJ M 89 i) := by
  have hk := K89 h
  exact bnd1 (by have hc := nI_clamp (show i < 2 ^ 31 by omega); unfold aJ; rw [if_pos (by rw [hk, hc]; exact ⟨rfl, nI_pos (by omega), hi⟩), hc]) f
theorem tb89 {β : Type} {M : Mm} (h : FIX M) {i : Nat} (hi : i < 24) (v : Int64) (f : Mm → Option β) : Option.bind (tJ M 89 (nI i) v) f = f (sJ M 89 i v) := by
  have hk := K89 h
  exact bnd1 (by have hc := nI_clamp (show i < 2 ^ 31 by omega); unfold tJ; rw [if_pos (by rw [hk, hc]; exact ⟨rfl, nI_pos (by omega), hi⟩), hc]) f
theorem ab90 {β : Type} {M : Mm} (h : FIX M) {i : Nat} (hi : i < 24) (f : Int64 → Option β) : Option.bind (aJ M 90 (nI i)) f = f (mJ M 90 i) := by
  have hk := K90 h
  exact bnd1 (by have hc := nI_clamp (show i < 2 ^ 31 by omega); unfold aJ; rw [if_pos (by rw [hk, hc]; exact ⟨rfl, nI_pos (by omega), hi⟩), hc]) f
theorem tb90 {β : Type} {M : Mm} (h : FIX M) {i : Nat} (hi : i < 24) (v : Int64) (f : Mm → Option β) : Option.bind (tJ M 90 (nI i) v) f = f (sJ M 90 i v) := by
  have hk := K90 h
  exact bnd1 (by have hc := nI_clamp (show i < 2 ^ 31 by omega); unfold tJ; rw [if_pos (by rw [hk, hc]; exact ⟨rfl, nI_pos (by omega), hi⟩), hc]) f
theorem ab91 {β : Type} {M : Mm} (h : FIX M) {i : Nat} (hi : i < 8) (f : Int32 → Option β) : Option.bind (aI M 91 (nI i)) f = f (mI M 91 i) := by
  have hk := K91 h
  exact bnd1 (by have hc := nI_clamp (show i < 2 ^ 31 by omega); unfold aI; rw [if_pos (by rw [hk, hc]; exact ⟨Or.inl rfl, nI_pos (by omega), hi⟩), hc]) f
theorem tb91 {β : Type} {M : Mm} (h : FIX M) {i : Nat} (hi : i < 8) (v : Int32) (f : Mm → Option β) : Option.bind (tI M 91 (nI i) v) f = f (sI M 91 i v) := by
  have hk := K91 h
  exact bnd1 (by have hc := nI_clamp (show i < 2 ^ 31 by omega); unfold tI; rw [if_pos (by rw [hk, hc]; exact ⟨rfl, nI_pos (by omega), hi⟩), hc]) f
theorem ab92 {β : Type} {M : Mm} (h : FIX M) {i : Nat} (hi : i < 8) (f : Int32 → Option β) : Option.bind (aI M 92 (nI i)) f = f (mI M 92 i) := by
  have hk := K92 h
  exact bnd1 (by have hc := nI_clamp (show i < 2 ^ 31 by omega); unfold aI; rw [if_pos (by rw [hk, hc]; exact ⟨Or.inl rfl, nI_pos (by omega), hi⟩), hc]) f
theorem tb92 {β : Type} {M : Mm} (h : FIX M) {i : Nat} (hi : i < 8) (v : Int32) (f : Mm → Option β) : Option.bind (tI M 92 (nI i) v) f = f (sI M 92 i v) := by
  have hk := K92 h
  exact bnd1 (by have hc := nI_clamp (show i < 2 ^ 31 by omega); unfold tI; rw [if_pos (by rw [hk, hc]; exact ⟨rfl, nI_pos (by omega), hi⟩), hc]) f
theorem ab93 {β : Type} {M : Mm} (h : FIX M) {i : Nat} (hi : i < 8) (f : Int32 → Option β) : Option.bind (aI M 93 (nI i)) f = f (mI M 93 i) := by
  have hk := K93 h
  exact bnd1 (by have hc := nI_clamp (show i < 2 ^ 31 by omega); unfold aI; rw [if_pos (by rw [hk, hc]; exact ⟨Or.inl rfl, nI_pos (by omega), hi⟩), hc]) f
theorem tb93 {β : Type} {M : Mm} (h : FIX M) {i : Nat} (hi : i < 8) (v : Int32) (f : Mm → Option β) : Option.bind (tI M 93 (nI i) v) f = f (sI M 93 i v) := by
  have hk := K93 h
  exact bnd1 (by have hc := nI_clamp (show i < 2 ^ 31 by omega); unfold tI; rw [if_pos (by rw [hk, hc]; exact ⟨rfl, nI_pos (by omega), hi⟩), hc]) f
theorem ab94 {β : Type} {M : Mm} (h : FIX M) {i : Nat} (hi : i < 8) (f : Int32 → Option β) : Option.bind (aI M 94 (nI i)) f = f (mI M 94 i) := by
  have hk := K94 h
  exact bnd1 (by have hc := nI_clamp (show i < 2 ^ 31 by omega); unfold aI; rw [if_pos (by rw [hk, hc]; exact ⟨Or.inl rfl, nI_pos (by omega), hi⟩), hc]) f
theorem tb94 {β : Type} {M : Mm} (h : FIX M) {i : Nat} (hi : i < 8) (v : Int32) (f : Mm → Option β) : Option.bind (tI M 94 (nI i) v) f = f (sI M 94 i v) := by
  have hk := K94 h
  exact bnd1 (by have hc := nI_clamp (show i < 2 ^ 31 by omega); unfold tI; rw [if_pos (by rw [hk, hc]; exact ⟨rfl, nI_pos (by omega), hi⟩), hc]) f
theorem ab95 {β : Type} {M : Mm} (h : FIX M) {i : Nat} (hi : i < 1280) (f : Int64 → Option β) : Option.bind (aJ M 95 (nI i)) f = f (mJ M 95 i) := by
  have hk := K95 h
  exact bnd1 (by have hc := nI_clamp (show i < 2 ^ 31 by omega); unfold aJ; rw [if_pos (by rw [hk, hc]; exact ⟨rfl, nI_pos (by omega), hi⟩), hc]) f
theorem tb95 {β : Type} {M : Mm} (h : FIX M) {i : Nat} (hi : i < 1280) (v : Int64) (f : Mm → Option β) : Option.bind (tJ M 95 (nI i) v) f = f (sJ M 95 i v) := by
  have hk := K95 h
  exact bnd1 (by have hc := nI_clamp (show i < 2 ^ 31 by omega); unfold tJ; rw [if_pos (by rw [hk, hc]; exact ⟨rfl, nI_pos (by omega), hi⟩), hc]) f
theorem ab96 {β : Type} {M : Mm} (h : FIX M) {i : Nat} (hi : i < 160) (f : Int64 → Option β) : Option.bind (aJ M 96 (nI i)) f = f (mJ M 96 i) := by
  have hk := K96 h
  exact bnd1 (by have hc := nI_clamp (show i < 2 ^ 31 by omega); unfold aJ; rw [if_pos (by rw [hk, hc]; exact ⟨rfl, nI_pos (by omega), hi⟩), hc]) f
theorem tb96 {β : Type} {M : Mm} (h : FIX M) {i : Nat} (hi : i < 160) (v : Int64) (f : Mm → Option β) : Option.bind (tJ M 96 (nI i) v) f = f (sJ M 96 i v) := by
  have hk := K96 h
  exact bnd1 (by have hc := nI_clamp (show i < 2 ^ 31 by omega); unfold tJ; rw [if_pos (by rw [hk, hc]; exact ⟨rfl, nI_pos (by omega), hi⟩), hc]) f
theorem ab97 {β : Type} {M : Mm} (h : FIX M) {i : Nat} (hi : i < 38) (f : Int32 → Option β) : Option.bind (aI M 97 (nI i)) f = f (mI M 97 i) := by
  have hk := K97 h
  exact bnd1 (by have hc := nI_clamp (show i < 2 ^ 31 by omega); unfold aI; rw [if_pos (by rw [hk, hc]; exact ⟨Or.inl rfl, nI_pos (by omega), hi⟩), hc]) f
theorem tb97 {β : Type} {M : Mm} (h : FIX M) {i : Nat} (hi : i < 38) (v : Int32) (f : Mm → Option β) : Option.bind (tI M 97 (nI i) v) f = f (sI M 97 i v) := by
  have hk := K97 h
  exact bnd1 (by have hc := nI_clamp (show i < 2 ^ 31 by omega); unfold tI; rw [if_pos (by rw [hk, hc]; exact ⟨rfl, nI_pos (by omega), hi⟩), hc]) f
theorem ab98 {β : Type} {M : Mm} (h : FIX M) {i : Nat} (hi : i < 4) (f : Int32 → Option β) : Option.bind (aI M 98 (nI i)) f = f (mI M 98 i) := by
  have hk := K98 h
  exact bnd1 (by have hc := nI_clamp (show i < 2 ^ 31 by omega); unfold aI; rw [if_pos (by rw [hk, hc]; exact ⟨Or.inl rfl, nI_pos (by omega), hi⟩), hc]) f
theorem tb98 {β : Type} {M : Mm} (h : FIX M) {i : Nat} (hi : i < 4) (v : Int32) (f : Mm → Option β) : Option.bind (tI M 98 (nI i) v) f = f (sI M 98 i v) := by
  have hk := K98 h
  exact bnd1 (by have hc := nI_clamp (show i < 2 ^ 31 by omega); unfold tI; rw [if_pos (by rw [hk, hc]; exact ⟨rfl, nI_pos (by omega), hi⟩), hc]) f
theorem ab99 {β : Type} {M : Mm} (h : FIX M) {i : Nat} (hi : i < 80) (f : Int32 → Option β) : Option.bind (aI M 99 (nI i)) f = f (mI M 99 i) := by
  have hk := K99 h
  exact bnd1 (by have hc := nI_clamp (show i < 2 ^ 31 by omega); unfold aI; rw [if_pos (by rw [hk, hc]; exact ⟨Or.inl rfl, nI_pos (by omega), hi⟩), hc]) f
theorem tb99 {β : Type} {M : Mm} (h : FIX M) {i : Nat} (hi : i < 80) (v : Int32) (f : Mm → Option β) : Option.bind (tI M 99 (nI i) v) f = f (sI M 99 i v) := by
  have hk := K99 h
  exact bnd1 (by have hc := nI_clamp (show i < 2 ^ 31 by omega); unfold tI; rw [if_pos (by rw [hk, hc]; exact ⟨rfl, nI_pos (by omega), hi⟩), hc]) f
theorem ab100 {β : Type} {M : Mm} (h : FIX M) {i : Nat} (hi : i < 80) (f : Int32 → Option β) : Option.bind (aI M 100 (nI i)) f = f (mI M 100 i) := by
  have hk := K100 h
  exact bnd1 (by have hc := nI_clamp (show i < 2 ^ 31 by omega); unfold aI; rw [if_pos (by rw [hk, hc]; exact ⟨Or.inl rfl, nI_pos (by omega), hi⟩), hc]) f
theorem tb100 {β : Type} {M : Mm} (h : FIX M) {i : Nat} (hi : i < 80) (v : Int32) (f : Mm → Option β) : Option.bind (tI M 100 (nI i) v) f = f (sI M 100 i v) := by
  have hk := K100 h
  exact bnd1 (by have hc := nI_clamp (show i < 2 ^ 31 by omega); unfold tI; rw [if_pos (by rw [hk, hc]; exact ⟨rfl, nI_pos (by omega), hi⟩), hc]) f
theorem ab101 {β : Type} {M : Mm} (h : FIX M) {i : Nat} (hi : i < 24) (f : Int64 → Option β) : Option.bind (aJ M 101 (nI i)) f = f (mJ M 101 i) := by
  have hk := K101 h
  exact bnd1 (by have hc := nI_clamp (show i < 2 ^ 31 by omega); unfold aJ; rw [if_pos (by rw [hk, hc]; exact ⟨rfl, nI_pos (by omega), hi⟩), hc]) f
theorem tb101 {β : Type} {M : Mm} (h : FIX M) {i : Nat} (hi : i < 24) (v : Int64) (f : Mm → Option β) : Option.bind (tJ M 101 (nI i) v) f = f (sJ M 101 i v) := by
  have hk := K101 h
  exact bnd1 (by have hc := nI_clamp (show i < 2 ^ 31 by omega); unfold tJ; rw [if_pos (by rw [hk, hc]; exact ⟨rfl, nI_pos (by omega), hi⟩), hc]) f
theorem ab102 {β : Type} {M : Mm} (h : FIX M) {i : Nat} (hi : i < 24) (f : Int64 → Option β) : Option.bind (aJ M 102 (nI i)) f = f (mJ M 102 i) := by
  have hk := K102 h
  exact bnd1 (by have hc := nI_clamp (show i < 2 ^ 31 by omega); unfold aJ; rw [if_pos (by rw [hk, hc]; exact ⟨rfl, nI_pos (by omega), hi⟩), hc]) f
theorem tb102 {β : Type} {M : Mm} (h : FIX M) {i : Nat} (hi : i < 24) (v : Int64) (f : Mm → Option β) : Option.bind (tJ M 102 (nI i) v) f = f (sJ M 102 i v) := by
  have hk := K102 h
  exact bnd1 (by have hc := nI_clamp (show i < 2 ^ 31 by omega); unfold tJ; rw [if_pos (by rw [hk, hc]; exact ⟨rfl, nI_pos (by omega), hi⟩), hc]) f
theorem ab103 {β : Type} {M : Mm} (h : FIX M) {i : Nat} (hi : i < 24) (f : Int64 → Option β) : Option.bind (aJ M 103 (nI i)) f = f (mJ M 103 i) := by
  have hk := K103 h
  exact bnd1 (by have hc := nI_clamp (show i < 2 ^ 31 by omega); unfold aJ; rw [if_pos (by rw [hk, hc]; exact ⟨rfl, nI_pos (by omega), hi⟩), hc]) f
theorem tb103 {β : Type} {M : Mm} (h : FIX M) {i : Nat} (hi : i < 24) (v : Int64) (f : Mm → Option β) : Option.bind (tJ M 103 (nI i) v) f = f (sJ M 103 i v) := by
  have hk := K103 h
  exact bnd1 (by have hc := nI_clamp (show i < 2 ^ 31 by omega); unfold tJ; rw [if_pos (by rw [hk, hc]; exact ⟨rfl, nI_pos (by omega), hi⟩), hc]) f
theorem ab104 {β : Type} {M : Mm} (h : FIX M) {i : Nat} (hi : i < 21) (f : Int32 → Option β) : Option.bind (aI M 104 (nI i)) f = f (mI M 104 i) := by
  have hk := K104 h
  exact bnd1 (by have hc := nI_clamp (show i < 2 ^ 31 by omega); unfold aI; rw [if_pos (by rw [hk, hc]; exact ⟨Or.inl rfl, nI_pos (by omega), hi⟩), hc]) f
theorem tb104 {β : Type} {M : Mm} (h : FIX M) {i : Nat} (hi : i < 21) (v : Int32) (f : Mm → Option β) : Option.bind (tI M 104 (nI i) v) f = f (sI M 104 i v) := by
  have hk := K104 h
  exact bnd1 (by have hc := nI_clamp (show i < 2 ^ 31 by omega); unfold tI; rw [if_pos (by rw [hk, hc]; exact ⟨rfl, nI_pos (by omega), hi⟩), hc]) f
theorem ab105 {β : Type} {M : Mm} (h : FIX M) {i : Nat} (hi : i < 21) (f : Int32 → Option β) : Option.bind (aI M 105 (nI i)) f = f (mI M 105 i) := by
  have hk := K105 h
  exact bnd1 (by have hc := nI_clamp (show i < 2 ^ 31 by omega); unfold aI; rw [if_pos (by rw [hk, hc]; exact ⟨Or.inl rfl, nI_pos (by omega), hi⟩), hc]) f
theorem tb105 {β : Type} {M : Mm} (h : FIX M) {i : Nat} (hi : i < 21) (v : Int32) (f : Mm → Option β) : Option.bind (tI M 105 (nI i) v) f = f (sI M 105 i v) := by
  have hk := K105 h
  exact bnd1 (by have hc := nI_clamp (show i < 2 ^ 31 by omega); unfold tI; rw [if_pos (by rw [hk, hc]; exact ⟨rfl, nI_pos (by omega), hi⟩), hc]) f
theorem ab106 {β : Type} {M : Mm} (h : FIX M) {i : Nat} (hi : i < 20) (f : Int32 → Option β) : Option.bind (aI M 106 (nI i)) f = f (mI M 106 i) := by
  have hk := K106 h
  exact bnd1 (by have hc := nI_clamp (show i < 2 ^ 31 by omega); unfold aI; rw [if_pos (by rw [hk, hc]; exact ⟨Or.inl rfl, nI_pos (by omega), hi⟩), hc]) f
theorem tb106 {β : Type} {M : Mm} (h : FIX M) {i : Nat} (hi : i < 20) (v : Int32) (f : Mm → Option β) : Option.bind (tI M 106 (nI i) v) f = f (sI M 106 i v) := by
  have hk := K106 h
  exact bnd1 (by have hc := nI_clamp (show i < 2 ^ 31 by omega); unfold tI; rw [if_pos (by rw [hk, hc]; exact ⟨rfl, nI_pos (by omega), hi⟩), hc]) f
theorem rb20_0 {β : Type} {M : Mm} (h : FIX M) (f : Nat → Option β) : Option.bind (fR M 8 20 0) f = f 21 := by
  have hk := K20 h
  exact bnd1 (by unfold fR; rw [hk, R20_0 h]; rfl) f
theorem rb20_1 {β : Type} {M : Mm} (h : FIX M) (f : Nat → Option β) : Option.bind (fR M 8 20 1) f = f 22 := by
  have hk := K20 h
  exact bnd1 (by unfold fR; rw [hk, R20_1 h]; rfl) f
theorem rb20_2 {β : Type} {M : Mm} (h : FIX M) (f : Nat → Option β) : Option.bind (fR M 8 20 2) f = f 28 := by
  have hk := K20 h
  exact bnd1 (by unfold fR; rw [hk, R20_2 h]; rfl) f
theorem rb20_3 {β : Type} {M : Mm} (h : FIX M) (f : Nat → Option β) : Option.bind (fR M 8 20 3) f = f 34 := by
  have hk := K20 h
  exact bnd1 (by unfold fR; rw [hk, R20_3 h]; rfl) f
theorem rb20_5 {β : Type} {M : Mm} (h : FIX M) (f : Nat → Option β) : Option.bind (fR M 8 20 5) f = f 40 := by
  have hk := K20 h
  exact bnd1 (by unfold fR; rw [hk, R20_5 h]; rfl) f
theorem rb20_7 {β : Type} {M : Mm} (h : FIX M) (f : Nat → Option β) : Option.bind (fR M 8 20 7) f = f 41 := by
  have hk := K20 h
  exact bnd1 (by unfold fR; rw [hk, R20_7 h]; rfl) f
theorem rb20_8 {β : Type} {M : Mm} (h : FIX M) (f : Nat → Option β) : Option.bind (fR M 8 20 8) f = f 61 := by
  have hk := K20 h
  exact bnd1 (by unfold fR; rw [hk, R20_8 h]; rfl) f
theorem rb20_9 {β : Type} {M : Mm} (h : FIX M) (f : Nat → Option β) : Option.bind (fR M 8 20 9) f = f 63 := by
  have hk := K20 h
  exact bnd1 (by unfold fR; rw [hk, R20_9 h]; rfl) f
theorem rb22_6 {β : Type} {M : Mm} (h : FIX M) (f : Nat → Option β) : Option.bind (fR M 5 22 6) f = f 23 := by
  have hk := K22 h
  exact bnd1 (by unfold fR; rw [hk, R22_6 h]; rfl) f
theorem rb22_8 {β : Type} {M : Mm} (h : FIX M) (f : Nat → Option β) : Option.bind (fR M 5 22 8) f = f 24 := by
  have hk := K22 h
  exact bnd1 (by unfold fR; rw [hk, R22_8 h]; rfl) f
theorem rb22_10 {β : Type} {M : Mm} (h : FIX M) (f : Nat → Option β) : Option.bind (fR M 5 22 10) f = f 25 := by
  have hk := K22 h
  exact bnd1 (by unfold fR; rw [hk, R22_10 h]; rfl) f
theorem rb25_0 {β : Type} {M : Mm} (h : FIX M) (f : Nat → Option β) : Option.bind (fR M 0 25 0) f = f 26 := by
  have hk := K25 h
  exact bnd1 (by unfold fR; rw [hk, R25_0 h]; rfl) f
theorem rb25_1 {β : Type} {M : Mm} (h : FIX M) (f : Nat → Option β) : Option.bind (fR M 0 25 1) f = f 27 := by
  have hk := K25 h
  exact bnd1 (by unfold fR; rw [hk, R25_1 h]; rfl) f
theorem rb28_6 {β : Type} {M : Mm} (h : FIX M) (f : Nat → Option β) : Option.bind (fR M 5 28 6) f = f 29 := by
  have hk := K28 h
  exact bnd1 (by unfold fR; rw [hk, R28_6 h]; rfl) f
theorem rb28_8 {β : Type} {M : Mm} (h : FIX M) (f : Nat → Option β) : Option.bind (fR M 5 28 8) f = f 30 := by
  have hk := K28 h
  exact bnd1 (by unfold fR; rw [hk, R28_8 h]; rfl) f
theorem rb28_10 {β : Type} {M : Mm} (h : FIX M) (f : Nat → Option β) : Option.bind (fR M 5 28 10) f = f 31 := by
  have hk := K28 h
  exact bnd1 (by unfold fR; rw [hk, R28_10 h]; rfl) f
theorem rb31_0 {β : Type} {M : Mm} (h : FIX M) (f : Nat → Option β) : Option.bind (fR M 0 31 0) f = f 32 := by
  have hk := K31 h
  exact bnd1 (by unfold fR; rw [hk, R31_0 h]; rfl) f
theorem rb31_1 {β : Type} {M : Mm} (h : FIX M) (f : Nat → Option β) : Option.bind (fR M 0 31 1) f = f 33 := by
  have hk := K31 h
  exact bnd1 (by unfold fR; rw [hk, R31_1 h]; rfl) f
theorem rb34_6 {β : Type} {M : Mm} (h : FIX M) (f : Nat → Option β) : Option.bind (fR M 5 34 6) f = f 35 := by
  have hk := K34 h
  exact bnd1 (by unfold fR; rw [hk, R34_6 h]; rfl) f
theorem rb34_8 {β : Type} {M : Mm} (h : FIX M) (f : Nat → Option β) : Option.bind (fR M 5 34 8) f = f 36 := by
  have hk := K34 h
  exact bnd1 (by unfold fR; rw [hk, R34_8 h]; rfl) f
theorem rb34_10 {β : Type} {M : Mm} (h : FIX M) (f : Nat → Option β) : Option.bind (fR M 5 34 10) f = f 37 := by
  have hk := K34 h
  exact bnd1 (by unfold fR; rw [hk, R34_10 h]; rfl) f
theorem rb37_0 {β : Type} {M : Mm} (h : FIX M) (f : Nat → Option β) : Option.bind (fR M 0 37 0) f = f 38 := by
  have hk := K37 h
  exact bnd1 (by unfold fR; rw [hk, R37_0 h]; rfl) f
theorem rb37_1 {β : Type} {M : Mm} (h : FIX M) (f : Nat → Option β) : Option.bind (fR M 0 37 1) f = f 39 := by
  have hk := K37 h
  exact bnd1 (by unfold fR; rw [hk, R37_1 h]; rfl) f
theorem rb41_0 {β : Type} {M : Mm} (h : FIX M) (f : Nat → Option β) : Option.bind (fR M 1 41 0) f = f 42 := by
  have hk := K41 h
  exact bnd1 (by unfold fR; rw [hk, R41_0 h]; rfl) f
theorem rb41_1 {β : Type} {M : Mm} (h : FIX M) (f : Nat → Option β) : Option.bind (fR M 1 41 1) f = f 51 := by
  have hk := K41 h
  exact bnd1 (by unfold fR; rw [hk, R41_1 h]; rfl) f
theorem rb61_0 {β : Type} {M : Mm} (h : FIX M) (f : Nat → Option β) : Option.bind (fR M 7 61 0) f = f 62 := by
  have hk := K61 h
  exact bnd1 (by unfold fR; rw [hk, R61_0 h]; rfl) f
theorem rb80_13 {β : Type} {M : Mm} (h : FIX M) (f : Nat → Option β) : Option.bind (fR M 9 80 13) f = f 81 := by
  have hk := K80 h
  exact bnd1 (by unfold fR; rw [hk, R80_13 h]; rfl) f
theorem rb80_14 {β : Type} {M : Mm} (h : FIX M) (f : Nat → Option β) : Option.bind (fR M 9 80 14) f = f 82 := by
  have hk := K80 h
  exact bnd1 (by unfold fR; rw [hk, R80_14 h]; rfl) f
theorem rb80_15 {β : Type} {M : Mm} (h : FIX M) (f : Nat → Option β) : Option.bind (fR M 9 80 15) f = f 83 := by
  have hk := K80 h
  exact bnd1 (by unfold fR; rw [hk, R80_15 h]; rfl) f
theorem rb80_16 {β : Type} {M : Mm} (h : FIX M) (f : Nat → Option β) : Option.bind (fR M 9 80 16) f = f 84 := by
  have hk := K80 h
  exact bnd1 (by unfold fR; rw [hk, R80_16 h]; rfl) f
theorem rb80_17 {β : Type} {M : Mm} (h : FIX M) (f : Nat → Option β) : Option.bind (fR M 9 80 17) f = f 85 := by
  have hk := K80 h
  exact bnd1 (by unfold fR; rw [hk, R80_17 h]; rfl) f
theorem rb80_18 {β : Type} {M : Mm} (h : FIX M) (f : Nat → Option β) : Option.bind (fR M 9 80 18) f = f 86 := by
  have hk := K80 h
  exact bnd1 (by unfold fR; rw [hk, R80_18 h]; rfl) f
theorem rb80_19 {β : Type} {M : Mm} (h : FIX M) (f : Nat → Option β) : Option.bind (fR M 9 80 19) f = f 87 := by
  have hk := K80 h
  exact bnd1 (by unfold fR; rw [hk, R80_19 h]; rfl) f
theorem rb80_20 {β : Type} {M : Mm} (h : FIX M) (f : Nat → Option β) : Option.bind (fR M 9 80 20) f = f 88 := by
  have hk := K80 h
  exact bnd1 (by unfold fR; rw [hk, R80_20 h]; rfl) f
theorem rb80_21 {β : Type} {M : Mm} (h : FIX M) (f : Nat → Option β) : Option.bind (fR M 9 80 21) f = f 89 := by
  have hk := K80 h
  exact bnd1 (by unfold fR; rw [hk, R80_21 h]; rfl) f
theorem rb80_22 {β : Type} {M : Mm} (h : FIX M) (f : Nat → Option β) : Option.bind (fR M 9 80 22) f = f 90 := by
  have hk := K80 h
  exact bnd1 (by unfold fR; rw [hk, R80_22 h]; rfl) f
theorem rb80_23 {β : Type} {M : Mm} (h : FIX M) (f : Nat → Option β) : Option.bind (fR M 9 80 23) f = f 91 := by
  have hk := K80 h
  exact bnd1 (by unfold fR; rw [hk, R80_23 h]; rfl) f
theorem rb80_24 {β : Type} {M : Mm} (h : FIX M) (f : Nat → Option β) : Option.bind (fR M 9 80 24) f = f 92 := by
  have hk := K80 h
  exact bnd1 (by unfold fR; rw [hk, R80_24 h]; rfl) f
theorem rb80_25 {β : Type} {M : Mm} (h : FIX M) (f : Nat → Option β) : Option.bind (fR M 9 80 25) f = f 93 := by
  have hk := K80 h
  exact bnd1 (by unfold fR; rw [hk, R80_25 h]; rfl) f
theorem rb80_26 {β : Type} {M : Mm} (h : FIX M) (f : Nat → Option β) : Option.bind (fR M 9 80 26) f = f 94 := by
  have hk := K80 h
  exact bnd1 (by unfold fR; rw [hk, R80_26 h]; rfl) f
theorem rb80_27 {β : Type} {M : Mm} (h : FIX M) (f : Nat → Option β) : Option.bind (fR M 9 80 27) f = f 95 := by
  have hk := K80 h
  exact bnd1 (by unfold fR; rw [hk, R80_27 h]; rfl) f
theorem rb80_28 {β : Type} {M : Mm} (h : FIX M) (f : Nat → Option β) : Option.bind (fR M 9 80 28) f = f 96 := by
  have hk := K80 h
  exact bnd1 (by unfold fR; rw [hk, R80_28 h]; rfl) f
theorem rb80_30 {β : Type} {M : Mm} (h : FIX M) (f : Nat → Option β) : Option.bind (fR M 9 80 30) f = f 97 := by
  have hk := K80 h
  exact bnd1 (by unfold fR; rw [hk, R80_30 h]; rfl) f
theorem rb80_31 {β : Type} {M : Mm} (h : FIX M) (f : Nat → Option β) : Option.bind (fR M 9 80 31) f = f 98 := by
  have hk := K80 h
  exact bnd1 (by unfold fR; rw [hk, R80_31 h]; rfl) f
theorem rb80_37 {β : Type} {M : Mm} (h : FIX M) (f : Nat → Option β) : Option.bind (fR M 9 80 37) f = f 99 := by
  have hk := K80 h
  exact bnd1 (by unfold fR; rw [hk, R80_37 h]; rfl) f
theorem rb80_38 {β : Type} {M : Mm} (h : FIX M) (f : Nat → Option β) : Option.bind (fR M 9 80 38) f = f 100 := by
  have hk := K80 h
  exact bnd1 (by unfold fR; rw [hk, R80_38 h]; rfl) f
theorem rb80_39 {β : Type} {M : Mm} (h : FIX M) (f : Nat → Option β) : Option.bind (fR M 9 80 39) f = f 101 := by
  have hk := K80 h
  exact bnd1 (by unfold fR; rw [hk, R80_39 h]; rfl) f
theorem rb80_40 {β : Type} {M : Mm} (h : FIX M) (f : Nat → Option β) : Option.bind (fR M 9 80 40) f = f 102 := by
  have hk := K80 h
  exact bnd1 (by unfold fR; rw [hk, R80_40 h]; rfl) f
theorem rb80_41 {β : Type} {M : Mm} (h : FIX M) (f : Nat → Option β) : Option.bind (fR M 9 80 41) f = f 103 := by
  have hk := K80 h
  exact bnd1 (by unfold fR; rw [hk, R80_41 h]; rfl) f
theorem rb80_44 {β : Type} {M : Mm} (h : FIX M) (f : Nat → Option β) : Option.bind (fR M 9 80 44) f = f 104 := by
  have hk := K80 h
  exact bnd1 (by unfold fR; rw [hk, R80_44 h]; rfl) f
theorem rb80_45 {β : Type} {M : Mm} (h : FIX M) (f : Nat → Option β) : Option.bind (fR M 9 80 45) f = f 105 := by
  have hk := K80 h
  exact bnd1 (by unfold fR; rw [hk, R80_45 h]; rfl) f
theorem rb80_46 {β : Type} {M : Mm} (h : FIX M) (f : Nat → Option β) : Option.bind (fR M 9 80 46) f = f 106 := by
  have hk := K80 h
  exact bnd1 (by unfold fR; rw [hk, R80_46 h]; rfl) f
theorem fb1 {β : Type} {M : Mm} (h : FIX M) (f : Int32 × Mm → Option β) : Option.bind (fX8_refused 20 (-1) M) f = f (-nI 1, sI M 40 1 (mI M 40 1 + nI 1)) := bnd1 (refX h (by decide) (by decide)) f
theorem nb1 {β : Type} {M : Mm} (h : FIX M) (f : Int32 × Mm → Option β) : Option.bind (fX9_no 80 (-1) M) f = f (-nI 1, sI M 81 1 (mI M 81 1 + nI 1)) := bnd1 (refY h (by decide) (by decide)) f
theorem fb2 {β : Type} {M : Mm} (h : FIX M) (f : Int32 × Mm → Option β) : Option.bind (fX8_refused 20 (-2) M) f = f (-nI 2, sI M 40 2 (mI M 40 2 + nI 1)) := bnd1 (refX h (by decide) (by decide)) f
theorem nb2 {β : Type} {M : Mm} (h : FIX M) (f : Int32 × Mm → Option β) : Option.bind (fX9_no 80 (-2) M) f = f (-nI 2, sI M 81 2 (mI M 81 2 + nI 1)) := bnd1 (refY h (by decide) (by decide)) f
theorem fb3 {β : Type} {M : Mm} (h : FIX M) (f : Int32 × Mm → Option β) : Option.bind (fX8_refused 20 (-3) M) f = f (-nI 3, sI M 40 3 (mI M 40 3 + nI 1)) := bnd1 (refX h (by decide) (by decide)) f
theorem nb3 {β : Type} {M : Mm} (h : FIX M) (f : Int32 × Mm → Option β) : Option.bind (fX9_no 80 (-3) M) f = f (-nI 3, sI M 81 3 (mI M 81 3 + nI 1)) := bnd1 (refY h (by decide) (by decide)) f
theorem fb4 {β : Type} {M : Mm} (h : FIX M) (f : Int32 × Mm → Option β) : Option.bind (fX8_refused 20 (-4) M) f = f (-nI 4, sI M 40 4 (mI M 40 4 + nI 1)) := bnd1 (refX h (by decide) (by decide)) f
theorem nb4 {β : Type} {M : Mm} (h : FIX M) (f : Int32 × Mm → Option β) : Option.bind (fX9_no 80 (-4) M) f = f (-nI 4, sI M 81 4 (mI M 81 4 + nI 1)) := bnd1 (refY h (by decide) (by decide)) f
theorem fb5 {β : Type} {M : Mm} (h : FIX M) (f : Int32 × Mm → Option β) : Option.bind (fX8_refused 20 (-5) M) f = f (-nI 5, sI M 40 5 (mI M 40 5 + nI 1)) := bnd1 (refX h (by decide) (by decide)) f
theorem nb5 {β : Type} {M : Mm} (h : FIX M) (f : Int32 × Mm → Option β) : Option.bind (fX9_no 80 (-5) M) f = f (-nI 5, sI M 81 5 (mI M 81 5 + nI 1)) := bnd1 (refY h (by decide) (by decide)) f
theorem fb6 {β : Type} {M : Mm} (h : FIX M) (f : Int32 × Mm → Option β) : Option.bind (fX8_refused 20 (-6) M) f = f (-nI 6, sI M 40 6 (mI M 40 6 + nI 1)) := bnd1 (refX h (by decide) (by decide)) f
theorem nb6 {β : Type} {M : Mm} (h : FIX M) (f : Int32 × Mm → Option β) : Option.bind (fX9_no 80 (-6) M) f = f (-nI 6, sI M 81 6 (mI M 81 6 + nI 1)) := bnd1 (refY h (by decide) (by decide)) f
theorem fb7 {β : Type} {M : Mm} (h : FIX M) (f : Int32 × Mm → Option β) : Option.bind (fX8_refused 20 (-7) M) f = f (-nI 7, sI M 40 7 (mI M 40 7 + nI 1)) := bnd1 (refX h (by decide) (by decide)) f
theorem nb7 {β : Type} {M : Mm} (h : FIX M) (f : Int32 × Mm → Option β) : Option.bind (fX9_no 80 (-7) M) f = f (-nI 7, sI M 81 7 (mI M 81 7 + nI 1)) := bnd1 (refY h (by decide) (by decide)) f
theorem kbH {β : Type} {M : Mm} (h : FIX M) {s : Nat} (hs : s < 8) (f : Unit → Option β) : Option.bind (kc M 3 (64 + 2 * s)) f = f () := bnd1 (by unfold kc; rw [kH h hs]; rfl) f
theorem ibH {β : Type} {M : Mm} (h : FIX M) {s : Nat} (hs : s < 8) (k : Nat) (f : Int32 → Option β) : Option.bind (fI M 3 (64 + 2 * s) k) f = f (mI M (64 + 2 * s) k) := bnd1 (by unfold fI; rw [kH h hs]; rfl) f
theorem pbH {β : Type} {M : Mm} (h : FIX M) {s : Nat} (hs : s < 8) (k : Nat) (v : Int32) (f : Mm → Option β) : Option.bind (pI M 3 (64 + 2 * s) k v) f = f (sI M (64 + 2 * s) k v) := bnd1 (by unfold pI; rw [kH h hs]; rfl) f
theorem rbH {β : Type} {M : Mm} (h : FIX M) {s : Nat} (hs : s < 8) (f : Nat → Option β) : Option.bind (fR M 3 (64 + 2 * s) 2) f = f (65 + 2 * s) := bnd1 (by unfold fR; rw [kH h hs, rE h hs]; rfl) f
theorem abH {β : Type} {M : Mm} (h : FIX M) {s i : Nat} (hs : s < 8) (hi : i < 160) (f : Int64 → Option β) : Option.bind (aJ M (65 + 2 * s) (nI i)) f = f (mJ M (65 + 2 * s) i) := bnd1 (by have hc := nI_clamp (show i < 2 ^ 31 by omega); unfold aJ; rw [if_pos (by rw [kE h hs, hc]; exact ⟨rfl, nI_pos (by omega), hi⟩), hc]) f
theorem tbH {β : Type} {M : Mm} (h : FIX M) {s i : Nat} (hs : s < 8) (hi : i < 160) (v : Int64) (f : Mm → Option β) : Option.bind (tJ M (65 + 2 * s) (nI i) v) f = f (sJ M (65 + 2 * s) i v) := bnd1 (by have hc := nI_clamp (show i < 2 ^ 31 by omega); unfold tJ; rw [if_pos (by rw [kE h hs, hc]; exact ⟨rfl, nI_pos (by omega), hi⟩), hc]) f
theorem sbH {β : Type} {M : Mm} (h : FIX M) {s : Nat} (hs : s < 8) (f : Option Nat × Mm → Option β) : Option.bind (fX8_shelfAt 20 (nI s) M) f = f (some (64 + 2 * s), M) := bnd1 (sAt h hs) f
theorem sbB {β : Type} {M : Mm} (h : FIX M) {x : Int32} (hs : BadS x) (f : Option Nat × Mm → Option β) : Option.bind (fX8_shelfAt 20 x M) f = f (none, M) := bnd1 (sAt_bad h hs) f
theorem zbH {β : Type} {M : Mm} (h : FIX M) {s : Nat} (hs : s < 8) (f : Int32 × Mm → Option β) : Option.bind (fX9_isShelf 80 (nI s) M) f = f (nI 1, M) := bnd1 (isS h hs) f
theorem zbB {β : Type} {M : Mm} (h : FIX M) {x : Int32} (hs : BadS x) (f : Int32 × Mm → Option β) : Option.bind (fX9_isShelf 80 x M) f = f (nI 0, M) := bnd1 (isS_bad h hs) f
