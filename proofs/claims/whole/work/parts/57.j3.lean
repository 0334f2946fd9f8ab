theorem sJ_gJ {M : Mm} {a n t : Nat} {g : Nat → Int64} {v : Int64} (h : t < n) : sJ (gJ M a 0 n g) a t v = gJ M a 0 n (fun j => if j = t then v else g j) := by
  have : u2 (mJ (gJ M a 0 n g)) a t v = (fun x j => if x = a ∧ 0 ≤ j ∧ j < n then (if j = t then v else g j) else mJ M x j) := by
    funext x j
    show (if x = a ∧ j = t then v else mJ (gJ M a 0 n g) x j) = _
    rw [mJ_gJ]
    by_cases e : x = a ∧ j = t
    · obtain ⟨rfl, rfl⟩ := e
      rw [if_pos ⟨rfl, rfl⟩, if_pos ⟨rfl, Nat.zero_le _, h⟩, if_pos rfl]
    · rw [if_neg e]
      by_cases e2 : x = a ∧ 0 ≤ j ∧ j < n
      · rw [if_pos e2, if_pos e2, if_neg (fun z => e ⟨e2.1, z⟩)]
      · rw [if_neg e2, if_neg e2]
  show (mT (gJ M a 0 n g), mW (gJ M a 0 n g), mK (gJ M a 0 n g), mI (gJ M a 0 n g), u2 (mJ (gJ M a 0 n g)) a t v, mR (gJ M a 0 n g)) = _
  rw [this]
  rfl
theorem adt_g {M : Mm} {a n t v : Nat} {f : Nat → Nat} (h : t < n) : sJ (gJ M a 0 n (fun j => lN (f j))) a t (lN (f t + v)) = gJ M a 0 n (fun j => lN (adt f t v j)) := by
  rw [sJ_gJ h]
  congr 1
  funext j
  unfold adt u1
  by_cases e : j = t
  · rw [if_pos e, if_pos e]
  · rw [if_neg e, if_neg e]
theorem adt_comm (f : Nat → Nat) (t v r w : Nat) : adt (adt f t v) r w = adt (adt f r w) t v := by
  funext x
  unfold adt u1
  by_cases a : x = t
  · by_cases b : x = r
    · subst a; subst b
      simp only [↓reduceIte]
      omega
    · have c : ¬ t = r := fun z => b (a.trans z)
      have d : ¬ r = t := fun z => c z.symm
      subst a
      simp only [↓reduceIte, b, c, d]
  · by_cases b : x = r
    · have c : ¬ r = t := fun z => a (b.trans z)
      have d : ¬ t = r := fun z => c z.symm
      subst b
      simp only [↓reduceIte, a, c, d]
    · simp only [↓reduceIte, a, b]
