theorem cJ0 {N : Mm} {a b : Nat} (ha : mK N a = (21, 24)) (hb : mK N b = (21, 24)) : cJ N a (nI 0) b (nI 0) (nI 24) = some (gJ N b 0 24 (fun k => mJ N a k)) := by
  have c0 := nI_clamp (show 0 < 2 ^ 31 by decide)
  have c24 := nI_clamp (show 24 < 2 ^ 31 by decide)
  unfold cJ
  rw [if_pos (by rw [ha, hb, c0, c24]; exact ⟨rfl, rfl, nI_pos (by decide), nI_pos (by decide), nI_pos (by decide), by decide, by decide⟩), c0, c24]
  unfold gJ
  congr 1
  simp only [Nat.zero_add, Nat.sub_zero, Nat.zero_le, true_and]
theorem enM {s : Nat} (hs : sl s) {N : Mm} (hF : FIX N) : fX0_endMoves (s + 3) N = some (gJ (gJ N (s + 4) 0 24 (fun k => mJ N (s + 5) k)) (s + 5) 0 24 (fun _ => 0)) := by
  have e1 := cJ0 (kS5 hF hs) (kS4 hF hs)
  have hF1 : FIX (gJ N (s + 4) 0 24 (fun k => mJ N (s + 5) k)) := by rw [FIX_gJ]; exact hF
  have e2 := fill (a := s + 5) (L := 24) (v := 0) (by decide) (gJ N (s + 4) 0 24 (fun k => mJ N (s + 5) k)) (kS5 hF1 hs)
  unfold fX0_endMoves
  rw [kbO hs hF, rbO1 hs hF, rbO0 hs hF, show (0 : Int32) = nI 0 from rfl, show (24 : Int32) = nI 24 from rfl, bnd1 e1, rbO1 hs hF1, bnd1 e2]
