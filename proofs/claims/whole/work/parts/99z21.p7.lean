/-! the reference made (written by x9.py) -/
def wtI (M : Mm) : Nat → Mm
  | 0 => M
  | i + 1 => sI (wtI M i) 97 i (nI (wc i))
theorem wtI_s (M : Mm) : ∀ i, mK (wtI M i) = mK M ∧ mT (wtI M i) = mT M ∧ mW (wtI M i) = mW M ∧ mR (wtI M i) = mR M ∧ Fx [97] M (wtI M i) := by
  intro i
  induction i with
  | zero => exact ⟨rfl, rfl, rfl, rfl, Fx.rf⟩
  | succ i ih =>
    obtain ⟨a, b, c, d, e⟩ := ih
    have f : Fx [97] (wtI M i) (wtI M (i + 1)) := Fx.wI List.mem_cons_self _ _
    refine ⟨?_, ?_, ?_, ?_, e.tr f⟩
    · show mK (sI (wtI M i) 97 i _) = _
      rw [mK_sI]; exact a
    · show mT (sI (wtI M i) 97 i _) = _
      rw [mT_sI]; exact b
    · show mW (sI (wtI M i) 97 i _) = _
      rw [mW_sI]; exact c
    · show mR (sI (wtI M i) 97 i _) = _
      rw [mR_sI]; exact d
theorem wtI_w (M : Mm) : ∀ i k, k < i → mI (wtI M i) 97 k = nI (wc k) := by
  intro i
  induction i with
  | zero => intro k hk; omega
  | succ i ih =>
    intro k hk
    show mI (sI (wtI M i) 97 i (nI (wc i))) 97 k = _
    by_cases e : k = i
    · rw [e, mI_at]
    · rw [mI_ne (Or.inr e)]; exact ih k (by omega)
theorem bt0 {β : Type} {M : Mm} (h : mK M 97 = (20, 38)) (f : Mm → Option β) : Option.bind (tI (wtI M 0) 97 (0 : Int32) (108 : Int32)) f = f (wtI M 1) := bnd1 (by unfold tI; rw [(wtI_s M 0).1, h, if_pos (by decide)]; exact congrArg some (congrArg (fun i => sI (wtI M 0) 97 i (nI (wc 0))) (by decide : (0 : Int32).toNatClampNeg = 0))) f
theorem bt1 {β : Type} {M : Mm} (h : mK M 97 = (20, 38)) (f : Mm → Option β) : Option.bind (tI (wtI M 1) 97 (1 : Int32) (111 : Int32)) f = f (wtI M 2) := bnd1 (by unfold tI; rw [(wtI_s M 1).1, h, if_pos (by decide)]; exact congrArg some (congrArg (fun i => sI (wtI M 1) 97 i (nI (wc 1))) (by decide : (1 : Int32).toNatClampNeg = 1))) f
theorem bt2 {β : Type} {M : Mm} (h : mK M 97 = (20, 38)) (f : Mm → Option β) : Option.bind (tI (wtI M 2) 97 (2 : Int32) (110 : Int32)) f = f (wtI M 3) := bnd1 (by unfold tI; rw [(wtI_s M 2).1, h, if_pos (by decide)]; exact congrArg some (congrArg (fun i => sI (wtI M 2) 97 i (nI (wc 2))) (by decide : (2 : Int32).toNatClampNeg = 2))) f
theorem bt3 {β : Type} {M : Mm} (h : mK M 97 = (20, 38)) (f : Mm → Option β) : Option.bind (tI (wtI M 3) 97 (3 : Int32) (103 : Int32)) f = f (wtI M 4) := bnd1 (by unfold tI; rw [(wtI_s M 3).1, h, if_pos (by decide)]; exact congrArg some (congrArg (fun i => sI (wtI M 3) 97 i (nI (wc 3))) (by decide : (3 : Int32).toNatClampNeg = 3))) f
theorem bt4 {β : Type} {M : Mm} (h : mK M 97 = (20, 38)) (f : Mm → Option β) : Option.bind (tI (wtI M 4) 97 (4 : Int32) (32 : Int32)) f = f (wtI M 5) := bnd1 (by unfold tI; rw [(wtI_s M 4).1, h, if_pos (by decide)]; exact congrArg some (congrArg (fun i => sI (wtI M 4) 97 i (nI (wc 4))) (by decide : (4 : Int32).toNatClampNeg = 4))) f
theorem bt5 {β : Type} {M : Mm} (h : mK M 97 = (20, 38)) (f : Mm → Option β) : Option.bind (tI (wtI M 5) 97 (5 : Int32) (0 : Int32)) f = f (wtI M 6) := bnd1 (by unfold tI; rw [(wtI_s M 5).1, h, if_pos (by decide)]; exact congrArg some (congrArg (fun i => sI (wtI M 5) 97 i (nI (wc 5))) (by decide : (5 : Int32).toNatClampNeg = 5))) f
theorem bt6 {β : Type} {M : Mm} (h : mK M 97 = (20, 38)) (f : Mm → Option β) : Option.bind (tI (wtI M 6) 97 (6 : Int32) (115 : Int32)) f = f (wtI M 7) := bnd1 (by unfold tI; rw [(wtI_s M 6).1, h, if_pos (by decide)]; exact congrArg some (congrArg (fun i => sI (wtI M 6) 97 i (nI (wc 6))) (by decide : (6 : Int32).toNatClampNeg = 6))) f
theorem bt7 {β : Type} {M : Mm} (h : mK M 97 = (20, 38)) (f : Mm → Option β) : Option.bind (tI (wtI M 7) 97 (7 : Int32) (105 : Int32)) f = f (wtI M 8) := bnd1 (by unfold tI; rw [(wtI_s M 7).1, h, if_pos (by decide)]; exact congrArg some (congrArg (fun i => sI (wtI M 7) 97 i (nI (wc 7))) (by decide : (7 : Int32).toNatClampNeg = 7))) f
theorem bt8 {β : Type} {M : Mm} (h : mK M 97 = (20, 38)) (f : Mm → Option β) : Option.bind (tI (wtI M 8) 97 (8 : Int32) (103 : Int32)) f = f (wtI M 9) := bnd1 (by unfold tI; rw [(wtI_s M 8).1, h, if_pos (by decide)]; exact congrArg some (congrArg (fun i => sI (wtI M 8) 97 i (nI (wc 8))) (by decide : (8 : Int32).toNatClampNeg = 8))) f
theorem bt9 {β : Type} {M : Mm} (h : mK M 97 = (20, 38)) (f : Mm → Option β) : Option.bind (tI (wtI M 9) 97 (9 : Int32) (110 : Int32)) f = f (wtI M 10) := bnd1 (by unfold tI; rw [(wtI_s M 9).1, h, if_pos (by decide)]; exact congrArg some (congrArg (fun i => sI (wtI M 9) 97 i (nI (wc 9))) (by decide : (9 : Int32).toNatClampNeg = 9))) f
theorem bt10 {β : Type} {M : Mm} (h : mK M 97 = (20, 38)) (f : Mm → Option β) : Option.bind (tI (wtI M 10) 97 (10 : Int32) (32 : Int32)) f = f (wtI M 11) := bnd1 (by unfold tI; rw [(wtI_s M 10).1, h, if_pos (by decide)]; exact congrArg some (congrArg (fun i => sI (wtI M 10) 97 i (nI (wc 10))) (by decide : (10 : Int32).toNatClampNeg = 10))) f
theorem bt11 {β : Type} {M : Mm} (h : mK M 97 = (20, 38)) (f : Mm → Option β) : Option.bind (tI (wtI M 11) 97 (11 : Int32) (0 : Int32)) f = f (wtI M 12) := bnd1 (by unfold tI; rw [(wtI_s M 11).1, h, if_pos (by decide)]; exact congrArg some (congrArg (fun i => sI (wtI M 11) 97 i (nI (wc 11))) (by decide : (11 : Int32).toNatClampNeg = 11))) f
theorem bt12 {β : Type} {M : Mm} (h : mK M 97 = (20, 38)) (f : Mm → Option β) : Option.bind (tI (wtI M 12) 97 (12 : Int32) (116 : Int32)) f = f (wtI M 13) := bnd1 (by unfold tI; rw [(wtI_s M 12).1, h, if_pos (by decide)]; exact congrArg some (congrArg (fun i => sI (wtI M 12) 97 i (nI (wc 12))) (by decide : (12 : Int32).toNatClampNeg = 12))) f
theorem bt13 {β : Type} {M : Mm} (h : mK M 97 = (20, 38)) (f : Mm → Option β) : Option.bind (tI (wtI M 13) 97 (13 : Int32) (104 : Int32)) f = f (wtI M 14) := bnd1 (by unfold tI; rw [(wtI_s M 13).1, h, if_pos (by decide)]; exact congrArg some (congrArg (fun i => sI (wtI M 13) 97 i (nI (wc 13))) (by decide : (13 : Int32).toNatClampNeg = 13))) f
theorem bt14 {β : Type} {M : Mm} (h : mK M 97 = (20, 38)) (f : Mm → Option β) : Option.bind (tI (wtI M 14) 97 (14 : Int32) (105 : Int32)) f = f (wtI M 15) := bnd1 (by unfold tI; rw [(wtI_s M 14).1, h, if_pos (by decide)]; exact congrArg some (congrArg (fun i => sI (wtI M 14) 97 i (nI (wc 14))) (by decide : (14 : Int32).toNatClampNeg = 14))) f
theorem bt15 {β : Type} {M : Mm} (h : mK M 97 = (20, 38)) (f : Mm → Option β) : Option.bind (tI (wtI M 15) 97 (15 : Int32) (110 : Int32)) f = f (wtI M 16) := bnd1 (by unfold tI; rw [(wtI_s M 15).1, h, if_pos (by decide)]; exact congrArg some (congrArg (fun i => sI (wtI M 15) 97 i (nI (wc 15))) (by decide : (15 : Int32).toNatClampNeg = 15))) f
theorem bt16 {β : Type} {M : Mm} (h : mK M 97 = (20, 38)) (f : Mm → Option β) : Option.bind (tI (wtI M 16) 97 (16 : Int32) (103 : Int32)) f = f (wtI M 17) := bnd1 (by unfold tI; rw [(wtI_s M 16).1, h, if_pos (by decide)]; exact congrArg some (congrArg (fun i => sI (wtI M 16) 97 i (nI (wc 16))) (by decide : (16 : Int32).toNatClampNeg = 16))) f
theorem bt17 {β : Type} {M : Mm} (h : mK M 97 = (20, 38)) (f : Mm → Option β) : Option.bind (tI (wtI M 17) 97 (17 : Int32) (32 : Int32)) f = f (wtI M 18) := bnd1 (by unfold tI; rw [(wtI_s M 17).1, h, if_pos (by decide)]; exact congrArg some (congrArg (fun i => sI (wtI M 17) 97 i (nI (wc 17))) (by decide : (17 : Int32).toNatClampNeg = 17))) f
theorem bt18 {β : Type} {M : Mm} (h : mK M 97 = (20, 38)) (f : Mm → Option β) : Option.bind (tI (wtI M 18) 97 (18 : Int32) (0 : Int32)) f = f (wtI M 19) := bnd1 (by unfold tI; rw [(wtI_s M 18).1, h, if_pos (by decide)]; exact congrArg some (congrArg (fun i => sI (wtI M 18) 97 i (nI (wc 18))) (by decide : (18 : Int32).toNatClampNeg = 18))) f
theorem bt19 {β : Type} {M : Mm} (h : mK M 97 = (20, 38)) (f : Mm → Option β) : Option.bind (tI (wtI M 19) 97 (19 : Int32) (119 : Int32)) f = f (wtI M 20) := bnd1 (by unfold tI; rw [(wtI_s M 19).1, h, if_pos (by decide)]; exact congrArg some (congrArg (fun i => sI (wtI M 19) 97 i (nI (wc 19))) (by decide : (19 : Int32).toNatClampNeg = 19))) f
theorem bt20 {β : Type} {M : Mm} (h : mK M 97 = (20, 38)) (f : Mm → Option β) : Option.bind (tI (wtI M 20) 97 (20 : Int32) (97 : Int32)) f = f (wtI M 21) := bnd1 (by unfold tI; rw [(wtI_s M 20).1, h, if_pos (by decide)]; exact congrArg some (congrArg (fun i => sI (wtI M 20) 97 i (nI (wc 20))) (by decide : (20 : Int32).toNatClampNeg = 20))) f
theorem bt21 {β : Type} {M : Mm} (h : mK M 97 = (20, 38)) (f : Mm → Option β) : Option.bind (tI (wtI M 21) 97 (21 : Int32) (110 : Int32)) f = f (wtI M 22) := bnd1 (by unfold tI; rw [(wtI_s M 21).1, h, if_pos (by decide)]; exact congrArg some (congrArg (fun i => sI (wtI M 21) 97 i (nI (wc 21))) (by decide : (21 : Int32).toNatClampNeg = 21))) f
theorem bt22 {β : Type} {M : Mm} (h : mK M 97 = (20, 38)) (f : Mm → Option β) : Option.bind (tI (wtI M 22) 97 (22 : Int32) (100 : Int32)) f = f (wtI M 23) := bnd1 (by unfold tI; rw [(wtI_s M 22).1, h, if_pos (by decide)]; exact congrArg some (congrArg (fun i => sI (wtI M 22) 97 i (nI (wc 22))) (by decide : (22 : Int32).toNatClampNeg = 22))) f
theorem bt23 {β : Type} {M : Mm} (h : mK M 97 = (20, 38)) (f : Mm → Option β) : Option.bind (tI (wtI M 23) 97 (23 : Int32) (101 : Int32)) f = f (wtI M 24) := bnd1 (by unfold tI; rw [(wtI_s M 23).1, h, if_pos (by decide)]; exact congrArg some (congrArg (fun i => sI (wtI M 23) 97 i (nI (wc 23))) (by decide : (23 : Int32).toNatClampNeg = 23))) f
theorem bt24 {β : Type} {M : Mm} (h : mK M 97 = (20, 38)) (f : Mm → Option β) : Option.bind (tI (wtI M 24) 97 (24 : Int32) (114 : Int32)) f = f (wtI M 25) := bnd1 (by unfold tI; rw [(wtI_s M 24).1, h, if_pos (by decide)]; exact congrArg some (congrArg (fun i => sI (wtI M 24) 97 i (nI (wc 24))) (by decide : (24 : Int32).toNatClampNeg = 24))) f
theorem bt25 {β : Type} {M : Mm} (h : mK M 97 = (20, 38)) (f : Mm → Option β) : Option.bind (tI (wtI M 25) 97 (25 : Int32) (32 : Int32)) f = f (wtI M 26) := bnd1 (by unfold tI; rw [(wtI_s M 25).1, h, if_pos (by decide)]; exact congrArg some (congrArg (fun i => sI (wtI M 25) 97 i (nI (wc 25))) (by decide : (25 : Int32).toNatClampNeg = 25))) f
theorem bt26 {β : Type} {M : Mm} (h : mK M 97 = (20, 38)) (f : Mm → Option β) : Option.bind (tI (wtI M 26) 97 (26 : Int32) (0 : Int32)) f = f (wtI M 27) := bnd1 (by unfold tI; rw [(wtI_s M 26).1, h, if_pos (by decide)]; exact congrArg some (congrArg (fun i => sI (wtI M 26) 97 i (nI (wc 26))) (by decide : (26 : Int32).toNatClampNeg = 26))) f
theorem bt27 {β : Type} {M : Mm} (h : mK M 97 = (20, 38)) (f : Mm → Option β) : Option.bind (tI (wtI M 27) 97 (27 : Int32) (97 : Int32)) f = f (wtI M 28) := bnd1 (by unfold tI; rw [(wtI_s M 27).1, h, if_pos (by decide)]; exact congrArg some (congrArg (fun i => sI (wtI M 27) 97 i (nI (wc 27))) (by decide : (27 : Int32).toNatClampNeg = 27))) f
theorem bt28 {β : Type} {M : Mm} (h : mK M 97 = (20, 38)) (f : Mm → Option β) : Option.bind (tI (wtI M 28) 97 (28 : Int32) (114 : Int32)) f = f (wtI M 29) := bnd1 (by unfold tI; rw [(wtI_s M 28).1, h, if_pos (by decide)]; exact congrArg some (congrArg (fun i => sI (wtI M 28) 97 i (nI (wc 28))) (by decide : (28 : Int32).toNatClampNeg = 28))) f
theorem bt29 {β : Type} {M : Mm} (h : mK M 97 = (20, 38)) (f : Mm → Option β) : Option.bind (tI (wtI M 29) 97 (29 : Int32) (99 : Int32)) f = f (wtI M 30) := bnd1 (by unfold tI; rw [(wtI_s M 29).1, h, if_pos (by decide)]; exact congrArg some (congrArg (fun i => sI (wtI M 29) 97 i (nI (wc 29))) (by decide : (29 : Int32).toNatClampNeg = 29))) f
theorem bt30 {β : Type} {M : Mm} (h : mK M 97 = (20, 38)) (f : Mm → Option β) : Option.bind (tI (wtI M 30) 97 (30 : Int32) (32 : Int32)) f = f (wtI M 31) := bnd1 (by unfold tI; rw [(wtI_s M 30).1, h, if_pos (by decide)]; exact congrArg some (congrArg (fun i => sI (wtI M 30) 97 i (nI (wc 30))) (by decide : (30 : Int32).toNatClampNeg = 30))) f
theorem bt31 {β : Type} {M : Mm} (h : mK M 97 = (20, 38)) (f : Mm → Option β) : Option.bind (tI (wtI M 31) 97 (31 : Int32) (0 : Int32)) f = f (wtI M 32) := bnd1 (by unfold tI; rw [(wtI_s M 31).1, h, if_pos (by decide)]; exact congrArg some (congrArg (fun i => sI (wtI M 31) 97 i (nI (wc 31))) (by decide : (31 : Int32).toNatClampNeg = 31))) f
theorem bt32 {β : Type} {M : Mm} (h : mK M 97 = (20, 38)) (f : Mm → Option β) : Option.bind (tI (wtI M 32) 97 (32 : Int32) (104 : Int32)) f = f (wtI M 33) := bnd1 (by unfold tI; rw [(wtI_s M 32).1, h, if_pos (by decide)]; exact congrArg some (congrArg (fun i => sI (wtI M 32) 97 i (nI (wc 32))) (by decide : (32 : Int32).toNatClampNeg = 32))) f
theorem bt33 {β : Type} {M : Mm} (h : mK M 97 = (20, 38)) (f : Mm → Option β) : Option.bind (tI (wtI M 33) 97 (33 : Int32) (111 : Int32)) f = f (wtI M 34) := bnd1 (by unfold tI; rw [(wtI_s M 33).1, h, if_pos (by decide)]; exact congrArg some (congrArg (fun i => sI (wtI M 33) 97 i (nI (wc 33))) (by decide : (33 : Int32).toNatClampNeg = 33))) f
theorem bt34 {β : Type} {M : Mm} (h : mK M 97 = (20, 38)) (f : Mm → Option β) : Option.bind (tI (wtI M 34) 97 (34 : Int32) (117 : Int32)) f = f (wtI M 35) := bnd1 (by unfold tI; rw [(wtI_s M 34).1, h, if_pos (by decide)]; exact congrArg some (congrArg (fun i => sI (wtI M 34) 97 i (nI (wc 34))) (by decide : (34 : Int32).toNatClampNeg = 34))) f
theorem bt35 {β : Type} {M : Mm} (h : mK M 97 = (20, 38)) (f : Mm → Option β) : Option.bind (tI (wtI M 35) 97 (35 : Int32) (114 : Int32)) f = f (wtI M 36) := bnd1 (by unfold tI; rw [(wtI_s M 35).1, h, if_pos (by decide)]; exact congrArg some (congrArg (fun i => sI (wtI M 35) 97 i (nI (wc 35))) (by decide : (35 : Int32).toNatClampNeg = 35))) f
theorem bt36 {β : Type} {M : Mm} (h : mK M 97 = (20, 38)) (f : Mm → Option β) : Option.bind (tI (wtI M 36) 97 (36 : Int32) (32 : Int32)) f = f (wtI M 37) := bnd1 (by unfold tI; rw [(wtI_s M 36).1, h, if_pos (by decide)]; exact congrArg some (congrArg (fun i => sI (wtI M 36) 97 i (nI (wc 36))) (by decide : (36 : Int32).toNatClampNeg = 36))) f
theorem bt37 {β : Type} {M : Mm} (h : mK M 97 = (20, 38)) (f : Mm → Option β) : Option.bind (tI (wtI M 37) 97 (37 : Int32) (0 : Int32)) f = f (wtI M 38) := bnd1 (by unfold tI; rw [(wtI_s M 37).1, h, if_pos (by decide)]; exact congrArg some (congrArg (fun i => sI (wtI M 37) 97 i (nI (wc 37))) (by decide : (37 : Int32).toNatClampNeg = 37))) f
def X9F (M : Mm) : Prop := (mK M 80 = (10, 0) ∧ mK M 97 = (20, 38) ∧ Ws M) ∧ (Ze M 81 (20, 8) ∧ Ze M 82 (20, 8) ∧ Ze M 83 (20, 8) ∧ Ze M 84 (20, 8) ∧ Ze M 85 (20, 8) ∧ Ze M 86 (20, 8) ∧ Ze M 87 (20, 8) ∧ Ze M 88 (20, 8) ∧ Ze M 89 (21, 24) ∧ Ze M 90 (21, 24) ∧ Ze M 91 (20, 8) ∧ Ze M 92 (20, 8) ∧ Ze M 93 (20, 8) ∧ Ze M 94 (20, 8) ∧ Ze M 95 (21, 1280) ∧ Ze M 96 (21, 160) ∧ Ze M 98 (20, 4) ∧ Ze M 99 (20, 80) ∧ Ze M 100 (20, 80) ∧ Ze M 101 (21, 24) ∧ Ze M 102 (21, 24) ∧ Ze M 103 (21, 24) ∧ Ze M 104 (20, 21) ∧ Ze M 105 (20, 21) ∧ Ze M 106 (20, 20)) ∧ (mR M 80 13 = some 81 ∧ mR M 80 14 = some 82 ∧ mR M 80 15 = some 83 ∧ mR M 80 16 = some 84 ∧ mR M 80 17 = some 85 ∧ mR M 80 18 = some 86 ∧ mR M 80 19 = some 87 ∧ mR M 80 20 = some 88 ∧ mR M 80 21 = some 89 ∧ mR M 80 22 = some 90 ∧ mR M 80 23 = some 91 ∧ mR M 80 24 = some 92 ∧ mR M 80 25 = some 93 ∧ mR M 80 26 = some 94 ∧ mR M 80 27 = some 95 ∧ mR M 80 28 = some 96 ∧ mR M 80 30 = some 97 ∧ mR M 80 31 = some 98 ∧ mR M 80 37 = some 99 ∧ mR M 80 38 = some 100 ∧ mR M 80 39 = some 101 ∧ mR M 80 40 = some 102 ∧ mR M 80 41 = some 103 ∧ mR M 80 44 = some 104 ∧ mR M 80 45 = some 105 ∧ mR M 80 46 = some 106) ∧ ∀ k, mI M 80 k = if k = 12 then (-1) else if k = 11 then 1 else if k = 10 then (-1) else if k = 5 then 5 else if k = 2 then 1 else if k = 1 then 1 else if k = 0 then 12 else 0
theorem i9 {M0 : Mm} (hT : mT M0 = 80) : ∃ A, fX9_init 80 (sN M0 10 0 49) = Option.bind (fX9_knows 80 ((-1 : Int32)) A) (fun M98_ => some M98_) ∧ mT A = 107 ∧ mW A ≤ mW M0 + 3000 ∧ Fx [] M0 A ∧ X9F A := by
  have in80 : 80 ∈ [80] := List.mem_cons_self
  obtain ⟨A1, hA1⟩ : ∃ A1, A1 = sN M0 10 0 49 := ⟨_, rfl⟩
  have fA1 : Fx [80] M0 A1 := by rw [hA1]; exact Fx.wN _ _ _
  have tA1 : mT A1 = 81 := by rw [hA1, mT_sN, hT]
  have wA1 : mW A1 = mW M0 + 49 := by rw [hA1, mW_sN]
  have zA1 : Ze A1 80 (10, 0) := by
    have := Ze.new M0 10 0 49
    rw [hT, ← hA1] at this
    exact this
  have kA1 : mK A1 80 = (10, 0) := zA1.1
  obtain ⟨A2, hA2⟩ : ∃ A2, A2 = sI A1 80 0 12 := ⟨_, rfl⟩
  have fA2 : Fx [80] A1 A2 := by rw [hA2]; exact Fx.wI in80 _ _
  have tA2 : mT A2 = 81 := by rw [hA2, mT_sI]; exact tA1
  have wA2 : mW A2 = mW A1 := by rw [hA2, mW_sI]
  have RA2 : ∀ j, mR A2 80 j = mR A1 80 j := fun j => by rw [hA2, mR_sI]
  have IA2 : ∀ j, mI A2 80 j = if j = 0 then 12 else mI A1 80 j := fun j => by rw [hA2, mI_sI]; simp only [true_and]
  have kA2 : mK A2 80 = (10, 0) := by rw [fA2.K (by omega)]; exact kA1
  obtain ⟨A3, hA3⟩ : ∃ A3, A3 = sI A2 80 1 1 := ⟨_, rfl⟩
  have fA3 : Fx [80] A2 A3 := by rw [hA3]; exact Fx.wI in80 _ _
  have tA3 : mT A3 = 81 := by rw [hA3, mT_sI]; exact tA2
  have wA3 : mW A3 = mW A2 := by rw [hA3, mW_sI]
  have RA3 : ∀ j, mR A3 80 j = mR A2 80 j := fun j => by rw [hA3, mR_sI]
  have IA3 : ∀ j, mI A3 80 j = if j = 1 then 1 else mI A2 80 j := fun j => by rw [hA3, mI_sI]; simp only [true_and]
  have kA3 : mK A3 80 = (10, 0) := by rw [fA3.K (by omega)]; exact kA2
  obtain ⟨A4, hA4⟩ : ∃ A4, A4 = sI A3 80 2 1 := ⟨_, rfl⟩
  have fA4 : Fx [80] A3 A4 := by rw [hA4]; exact Fx.wI in80 _ _
  have tA4 : mT A4 = 81 := by rw [hA4, mT_sI]; exact tA3
  have wA4 : mW A4 = mW A3 := by rw [hA4, mW_sI]
  have RA4 : ∀ j, mR A4 80 j = mR A3 80 j := fun j => by rw [hA4, mR_sI]
  have IA4 : ∀ j, mI A4 80 j = if j = 2 then 1 else mI A3 80 j := fun j => by rw [hA4, mI_sI]; simp only [true_and]
  have kA4 : mK A4 80 = (10, 0) := by rw [fA4.K (by omega)]; exact kA3
  obtain ⟨A5, hA5⟩ : ∃ A5, A5 = sI A4 80 5 5 := ⟨_, rfl⟩
  have fA5 : Fx [80] A4 A5 := by rw [hA5]; exact Fx.wI in80 _ _
  have tA5 : mT A5 = 81 := by rw [hA5, mT_sI]; exact tA4
  have wA5 : mW A5 = mW A4 := by rw [hA5, mW_sI]
  have RA5 : ∀ j, mR A5 80 j = mR A4 80 j := fun j => by rw [hA5, mR_sI]
  have IA5 : ∀ j, mI A5 80 j = if j = 5 then 5 else mI A4 80 j := fun j => by rw [hA5, mI_sI]; simp only [true_and]
  have kA5 : mK A5 80 = (10, 0) := by rw [fA5.K (by omega)]; exact kA4
  obtain ⟨A6, hA6⟩ : ∃ A6, A6 = sI A5 80 10 (-1) := ⟨_, rfl⟩
  have fA6 : Fx [80] A5 A6 := by rw [hA6]; exact Fx.wI in80 _ _
  have tA6 : mT A6 = 81 := by rw [hA6, mT_sI]; exact tA5
  have wA6 : mW A6 = mW A5 := by rw [hA6, mW_sI]
  have RA6 : ∀ j, mR A6 80 j = mR A5 80 j := fun j => by rw [hA6, mR_sI]
  have IA6 : ∀ j, mI A6 80 j = if j = 10 then (-1) else mI A5 80 j := fun j => by rw [hA6, mI_sI]; simp only [true_and]
  have kA6 : mK A6 80 = (10, 0) := by rw [fA6.K (by omega)]; exact kA5
  obtain ⟨A7, hA7⟩ : ∃ A7, A7 = sI A6 80 11 1 := ⟨_, rfl⟩
  have fA7 : Fx [80] A6 A7 := by rw [hA7]; exact Fx.wI in80 _ _
  have tA7 : mT A7 = 81 := by rw [hA7, mT_sI]; exact tA6
  have wA7 : mW A7 = mW A6 := by rw [hA7, mW_sI]
  have RA7 : ∀ j, mR A7 80 j = mR A6 80 j := fun j => by rw [hA7, mR_sI]
  have IA7 : ∀ j, mI A7 80 j = if j = 11 then 1 else mI A6 80 j := fun j => by rw [hA7, mI_sI]; simp only [true_and]
  have kA7 : mK A7 80 = (10, 0) := by rw [fA7.K (by omega)]; exact kA6
  obtain ⟨A8, hA8⟩ : ∃ A8, A8 = sI A7 80 12 (-1) := ⟨_, rfl⟩
  have fA8 : Fx [80] A7 A8 := by rw [hA8]; exact Fx.wI in80 _ _
  have tA8 : mT A8 = 81 := by rw [hA8, mT_sI]; exact tA7
  have wA8 : mW A8 = mW A7 := by rw [hA8, mW_sI]
  have RA8 : ∀ j, mR A8 80 j = mR A7 80 j := fun j => by rw [hA8, mR_sI]
  have IA8 : ∀ j, mI A8 80 j = if j = 12 then (-1) else mI A7 80 j := fun j => by rw [hA8, mI_sI]; simp only [true_and]
  have kA8 : mK A8 80 = (10, 0) := by rw [fA8.K (by omega)]; exact kA7
  obtain ⟨A9, hA9⟩ : ∃ A9, A9 = sN A8 20 8 8 := ⟨_, rfl⟩
  have fA9 : Fx [80] A8 A9 := by rw [hA9]; exact Fx.wN _ _ _
  have tA9 : mT A9 = 82 := by rw [hA9, mT_sN, tA8]
  have wA9 : mW A9 = mW A8 + 8 := by rw [hA9, mW_sN]
  have zA9 : Ze A9 81 (20, 8) := by
    have := Ze.new A8 20 8 8
    rw [tA8, ← hA9] at this
    exact this
  have RA9 : ∀ j, mR A9 80 j = mR A8 80 j := fun j => by rw [hA9, mR_sN, if_neg (by omega)]
  have IA9 : ∀ j, mI A9 80 j = mI A8 80 j := fun j => by rw [hA9, mI_sN, if_neg (by omega)]
  have kA9 : mK A9 80 = (10, 0) := by rw [fA9.K (by omega)]; exact kA8
  obtain ⟨A10, hA10⟩ : ∃ A10, A10 = sR A9 80 13 (some 81) := ⟨_, rfl⟩
  have fA10 : Fx [80] A9 A10 := by rw [hA10]; exact Fx.wR in80 _ _
  have tA10 : mT A10 = 82 := by rw [hA10, mT_sR]; exact tA9
  have wA10 : mW A10 = mW A9 := by rw [hA10, mW_sR]
  have RA10 : ∀ j, mR A10 80 j = if j = 13 then some 81 else mR A9 80 j := fun j => by rw [hA10, mR_sR]; simp only [true_and]
  have IA10 : ∀ j, mI A10 80 j = mI A9 80 j := fun j => by rw [hA10, mI_sR]
  have kA10 : mK A10 80 = (10, 0) := by rw [fA10.K (by omega)]; exact kA9
  obtain ⟨A11, hA11⟩ : ∃ A11, A11 = sN A10 20 8 8 := ⟨_, rfl⟩
  have fA11 : Fx [80] A10 A11 := by rw [hA11]; exact Fx.wN _ _ _
  have tA11 : mT A11 = 83 := by rw [hA11, mT_sN, tA10]
  have wA11 : mW A11 = mW A10 + 8 := by rw [hA11, mW_sN]
  have zA11 : Ze A11 82 (20, 8) := by
    have := Ze.new A10 20 8 8
    rw [tA10, ← hA11] at this
    exact this
  have RA11 : ∀ j, mR A11 80 j = mR A10 80 j := fun j => by rw [hA11, mR_sN, if_neg (by omega)]
  have IA11 : ∀ j, mI A11 80 j = mI A10 80 j := fun j => by rw [hA11, mI_sN, if_neg (by omega)]
  have kA11 : mK A11 80 = (10, 0) := by rw [fA11.K (by omega)]; exact kA10
  obtain ⟨A12, hA12⟩ : ∃ A12, A12 = sR A11 80 14 (some 82) := ⟨_, rfl⟩
  have fA12 : Fx [80] A11 A12 := by rw [hA12]; exact Fx.wR in80 _ _
  have tA12 : mT A12 = 83 := by rw [hA12, mT_sR]; exact tA11
  have wA12 : mW A12 = mW A11 := by rw [hA12, mW_sR]
  have RA12 : ∀ j, mR A12 80 j = if j = 14 then some 82 else mR A11 80 j := fun j => by rw [hA12, mR_sR]; simp only [true_and]
  have IA12 : ∀ j, mI A12 80 j = mI A11 80 j := fun j => by rw [hA12, mI_sR]
  have kA12 : mK A12 80 = (10, 0) := by rw [fA12.K (by omega)]; exact kA11
  obtain ⟨A13, hA13⟩ : ∃ A13, A13 = sN A12 20 8 8 := ⟨_, rfl⟩
  have fA13 : Fx [80] A12 A13 := by rw [hA13]; exact Fx.wN _ _ _
  have tA13 : mT A13 = 84 := by rw [hA13, mT_sN, tA12]
  have wA13 : mW A13 = mW A12 + 8 := by rw [hA13, mW_sN]
  have zA13 : Ze A13 83 (20, 8) := by
    have := Ze.new A12 20 8 8
    rw [tA12, ← hA13] at this
    exact this
  have RA13 : ∀ j, mR A13 80 j = mR A12 80 j := fun j => by rw [hA13, mR_sN, if_neg (by omega)]
  have IA13 : ∀ j, mI A13 80 j = mI A12 80 j := fun j => by rw [hA13, mI_sN, if_neg (by omega)]
  have kA13 : mK A13 80 = (10, 0) := by rw [fA13.K (by omega)]; exact kA12
  obtain ⟨A14, hA14⟩ : ∃ A14, A14 = sR A13 80 15 (some 83) := ⟨_, rfl⟩
  have fA14 : Fx [80] A13 A14 := by rw [hA14]; exact Fx.wR in80 _ _
  have tA14 : mT A14 = 84 := by rw [hA14, mT_sR]; exact tA13
  have wA14 : mW A14 = mW A13 := by rw [hA14, mW_sR]
  have RA14 : ∀ j, mR A14 80 j = if j = 15 then some 83 else mR A13 80 j := fun j => by rw [hA14, mR_sR]; simp only [true_and]
  have IA14 : ∀ j, mI A14 80 j = mI A13 80 j := fun j => by rw [hA14, mI_sR]
  have kA14 : mK A14 80 = (10, 0) := by rw [fA14.K (by omega)]; exact kA13
  obtain ⟨A15, hA15⟩ : ∃ A15, A15 = sN A14 20 8 8 := ⟨_, rfl⟩
  have fA15 : Fx [80] A14 A15 := by rw [hA15]; exact Fx.wN _ _ _
  have tA15 : mT A15 = 85 := by rw [hA15, mT_sN, tA14]
  have wA15 : mW A15 = mW A14 + 8 := by rw [hA15, mW_sN]
  have zA15 : Ze A15 84 (20, 8) := by
    have := Ze.new A14 20 8 8
    rw [tA14, ← hA15] at this
    exact this
  have RA15 : ∀ j, mR A15 80 j = mR A14 80 j := fun j => by rw [hA15, mR_sN, if_neg (by omega)]
  have IA15 : ∀ j, mI A15 80 j = mI A14 80 j := fun j => by rw [hA15, mI_sN, if_neg (by omega)]
  have kA15 : mK A15 80 = (10, 0) := by rw [fA15.K (by omega)]; exact kA14
  obtain ⟨A16, hA16⟩ : ∃ A16, A16 = sR A15 80 16 (some 84) := ⟨_, rfl⟩
  have fA16 : Fx [80] A15 A16 := by rw [hA16]; exact Fx.wR in80 _ _
  have tA16 : mT A16 = 85 := by rw [hA16, mT_sR]; exact tA15
  have wA16 : mW A16 = mW A15 := by rw [hA16, mW_sR]
  have RA16 : ∀ j, mR A16 80 j = if j = 16 then some 84 else mR A15 80 j := fun j => by rw [hA16, mR_sR]; simp only [true_and]
  have IA16 : ∀ j, mI A16 80 j = mI A15 80 j := fun j => by rw [hA16, mI_sR]
  have kA16 : mK A16 80 = (10, 0) := by rw [fA16.K (by omega)]; exact kA15
  obtain ⟨A17, hA17⟩ : ∃ A17, A17 = sN A16 20 8 8 := ⟨_, rfl⟩
  have fA17 : Fx [80] A16 A17 := by rw [hA17]; exact Fx.wN _ _ _
  have tA17 : mT A17 = 86 := by rw [hA17, mT_sN, tA16]
  have wA17 : mW A17 = mW A16 + 8 := by rw [hA17, mW_sN]
  have zA17 : Ze A17 85 (20, 8) := by
    have := Ze.new A16 20 8 8
    rw [tA16, ← hA17] at this
    exact this
  have RA17 : ∀ j, mR A17 80 j = mR A16 80 j := fun j => by rw [hA17, mR_sN, if_neg (by omega)]
  have IA17 : ∀ j, mI A17 80 j = mI A16 80 j := fun j => by rw [hA17, mI_sN, if_neg (by omega)]
  have kA17 : mK A17 80 = (10, 0) := by rw [fA17.K (by omega)]; exact kA16
  obtain ⟨A18, hA18⟩ : ∃ A18, A18 = sR A17 80 17 (some 85) := ⟨_, rfl⟩
  have fA18 : Fx [80] A17 A18 := by rw [hA18]; exact Fx.wR in80 _ _
  have tA18 : mT A18 = 86 := by rw [hA18, mT_sR]; exact tA17
  have wA18 : mW A18 = mW A17 := by rw [hA18, mW_sR]
  have RA18 : ∀ j, mR A18 80 j = if j = 17 then some 85 else mR A17 80 j := fun j => by rw [hA18, mR_sR]; simp only [true_and]
  have IA18 : ∀ j, mI A18 80 j = mI A17 80 j := fun j => by rw [hA18, mI_sR]
  have kA18 : mK A18 80 = (10, 0) := by rw [fA18.K (by omega)]; exact kA17
  obtain ⟨A19, hA19⟩ : ∃ A19, A19 = sN A18 20 8 8 := ⟨_, rfl⟩
  have fA19 : Fx [80] A18 A19 := by rw [hA19]; exact Fx.wN _ _ _
  have tA19 : mT A19 = 87 := by rw [hA19, mT_sN, tA18]
  have wA19 : mW A19 = mW A18 + 8 := by rw [hA19, mW_sN]
  have zA19 : Ze A19 86 (20, 8) := by
    have := Ze.new A18 20 8 8
    rw [tA18, ← hA19] at this
    exact this
  have RA19 : ∀ j, mR A19 80 j = mR A18 80 j := fun j => by rw [hA19, mR_sN, if_neg (by omega)]
  have IA19 : ∀ j, mI A19 80 j = mI A18 80 j := fun j => by rw [hA19, mI_sN, if_neg (by omega)]
  have kA19 : mK A19 80 = (10, 0) := by rw [fA19.K (by omega)]; exact kA18
  obtain ⟨A20, hA20⟩ : ∃ A20, A20 = sR A19 80 18 (some 86) := ⟨_, rfl⟩
  have fA20 : Fx [80] A19 A20 := by rw [hA20]; exact Fx.wR in80 _ _
  have tA20 : mT A20 = 87 := by rw [hA20, mT_sR]; exact tA19
  have wA20 : mW A20 = mW A19 := by rw [hA20, mW_sR]
  have RA20 : ∀ j, mR A20 80 j = if j = 18 then some 86 else mR A19 80 j := fun j => by rw [hA20, mR_sR]; simp only [true_and]
  have IA20 : ∀ j, mI A20 80 j = mI A19 80 j := fun j => by rw [hA20, mI_sR]
  have kA20 : mK A20 80 = (10, 0) := by rw [fA20.K (by omega)]; exact kA19
  obtain ⟨A21, hA21⟩ : ∃ A21, A21 = sN A20 20 8 8 := ⟨_, rfl⟩
  have fA21 : Fx [80] A20 A21 := by rw [hA21]; exact Fx.wN _ _ _
  have tA21 : mT A21 = 88 := by rw [hA21, mT_sN, tA20]
  have wA21 : mW A21 = mW A20 + 8 := by rw [hA21, mW_sN]
  have zA21 : Ze A21 87 (20, 8) := by
    have := Ze.new A20 20 8 8
    rw [tA20, ← hA21] at this
    exact this
  have RA21 : ∀ j, mR A21 80 j = mR A20 80 j := fun j => by rw [hA21, mR_sN, if_neg (by omega)]
  have IA21 : ∀ j, mI A21 80 j = mI A20 80 j := fun j => by rw [hA21, mI_sN, if_neg (by omega)]
  have kA21 : mK A21 80 = (10, 0) := by rw [fA21.K (by omega)]; exact kA20
  obtain ⟨A22, hA22⟩ : ∃ A22, A22 = sR A21 80 19 (some 87) := ⟨_, rfl⟩
  have fA22 : Fx [80] A21 A22 := by rw [hA22]; exact Fx.wR in80 _ _
  have tA22 : mT A22 = 88 := by rw [hA22, mT_sR]; exact tA21
  have wA22 : mW A22 = mW A21 := by rw [hA22, mW_sR]
  have RA22 : ∀ j, mR A22 80 j = if j = 19 then some 87 else mR A21 80 j := fun j => by rw [hA22, mR_sR]; simp only [true_and]
  have IA22 : ∀ j, mI A22 80 j = mI A21 80 j := fun j => by rw [hA22, mI_sR]
  have kA22 : mK A22 80 = (10, 0) := by rw [fA22.K (by omega)]; exact kA21
  obtain ⟨A23, hA23⟩ : ∃ A23, A23 = sN A22 20 8 8 := ⟨_, rfl⟩
  have fA23 : Fx [80] A22 A23 := by rw [hA23]; exact Fx.wN _ _ _
  have tA23 : mT A23 = 89 := by rw [hA23, mT_sN, tA22]
  have wA23 : mW A23 = mW A22 + 8 := by rw [hA23, mW_sN]
  have zA23 : Ze A23 88 (20, 8) := by
    have := Ze.new A22 20 8 8
    rw [tA22, ← hA23] at this
    exact this
  have RA23 : ∀ j, mR A23 80 j = mR A22 80 j := fun j => by rw [hA23, mR_sN, if_neg (by omega)]
  have IA23 : ∀ j, mI A23 80 j = mI A22 80 j := fun j => by rw [hA23, mI_sN, if_neg (by omega)]
  have kA23 : mK A23 80 = (10, 0) := by rw [fA23.K (by omega)]; exact kA22
  obtain ⟨A24, hA24⟩ : ∃ A24, A24 = sR A23 80 20 (some 88) := ⟨_, rfl⟩
  have fA24 : Fx [80] A23 A24 := by rw [hA24]; exact Fx.wR in80 _ _
  have tA24 : mT A24 = 89 := by rw [hA24, mT_sR]; exact tA23
  have wA24 : mW A24 = mW A23 := by rw [hA24, mW_sR]
  have RA24 : ∀ j, mR A24 80 j = if j = 20 then some 88 else mR A23 80 j := fun j => by rw [hA24, mR_sR]; simp only [true_and]
  have IA24 : ∀ j, mI A24 80 j = mI A23 80 j := fun j => by rw [hA24, mI_sR]
  have kA24 : mK A24 80 = (10, 0) := by rw [fA24.K (by omega)]; exact kA23
  obtain ⟨A25, hA25⟩ : ∃ A25, A25 = sN A24 21 24 24 := ⟨_, rfl⟩
  have fA25 : Fx [80] A24 A25 := by rw [hA25]; exact Fx.wN _ _ _
  have tA25 : mT A25 = 90 := by rw [hA25, mT_sN, tA24]
  have wA25 : mW A25 = mW A24 + 24 := by rw [hA25, mW_sN]
  have zA25 : Ze A25 89 (21, 24) := by
    have := Ze.new A24 21 24 24
    rw [tA24, ← hA25] at this
    exact this
  have RA25 : ∀ j, mR A25 80 j = mR A24 80 j := fun j => by rw [hA25, mR_sN, if_neg (by omega)]
  have IA25 : ∀ j, mI A25 80 j = mI A24 80 j := fun j => by rw [hA25, mI_sN, if_neg (by omega)]
  have kA25 : mK A25 80 = (10, 0) := by rw [fA25.K (by omega)]; exact kA24
  obtain ⟨A26, hA26⟩ : ∃ A26, A26 = sR A25 80 21 (some 89) := ⟨_, rfl⟩
  have fA26 : Fx [80] A25 A26 := by rw [hA26]; exact Fx.wR in80 _ _
  have tA26 : mT A26 = 90 := by rw [hA26, mT_sR]; exact tA25
  have wA26 : mW A26 = mW A25 := by rw [hA26, mW_sR]
  have RA26 : ∀ j, mR A26 80 j = if j = 21 then some 89 else mR A25 80 j := fun j => by rw [hA26, mR_sR]; simp only [true_and]
  have IA26 : ∀ j, mI A26 80 j = mI A25 80 j := fun j => by rw [hA26, mI_sR]
  have kA26 : mK A26 80 = (10, 0) := by rw [fA26.K (by omega)]; exact kA25
  obtain ⟨A27, hA27⟩ : ∃ A27, A27 = sN A26 21 24 24 := ⟨_, rfl⟩
  have fA27 : Fx [80] A26 A27 := by rw [hA27]; exact Fx.wN _ _ _
  have tA27 : mT A27 = 91 := by rw [hA27, mT_sN, tA26]
  have wA27 : mW A27 = mW A26 + 24 := by rw [hA27, mW_sN]
  have zA27 : Ze A27 90 (21, 24) := by
    have := Ze.new A26 21 24 24
    rw [tA26, ← hA27] at this
    exact this
  have RA27 : ∀ j, mR A27 80 j = mR A26 80 j := fun j => by rw [hA27, mR_sN, if_neg (by omega)]
  have IA27 : ∀ j, mI A27 80 j = mI A26 80 j := fun j => by rw [hA27, mI_sN, if_neg (by omega)]
  have kA27 : mK A27 80 = (10, 0) := by rw [fA27.K (by omega)]; exact kA26
  obtain ⟨A28, hA28⟩ : ∃ A28, A28 = sR A27 80 22 (some 90) := ⟨_, rfl⟩
  have fA28 : Fx [80] A27 A28 := by rw [hA28]; exact Fx.wR in80 _ _
  have tA28 : mT A28 = 91 := by rw [hA28, mT_sR]; exact tA27
  have wA28 : mW A28 = mW A27 := by rw [hA28, mW_sR]
  have RA28 : ∀ j, mR A28 80 j = if j = 22 then some 90 else mR A27 80 j := fun j => by rw [hA28, mR_sR]; simp only [true_and]
  have IA28 : ∀ j, mI A28 80 j = mI A27 80 j := fun j => by rw [hA28, mI_sR]
  have kA28 : mK A28 80 = (10, 0) := by rw [fA28.K (by omega)]; exact kA27
  obtain ⟨A29, hA29⟩ : ∃ A29, A29 = sN A28 20 8 8 := ⟨_, rfl⟩
  have fA29 : Fx [80] A28 A29 := by rw [hA29]; exact Fx.wN _ _ _
  have tA29 : mT A29 = 92 := by rw [hA29, mT_sN, tA28]
  have wA29 : mW A29 = mW A28 + 8 := by rw [hA29, mW_sN]
  have zA29 : Ze A29 91 (20, 8) := by
    have := Ze.new A28 20 8 8
    rw [tA28, ← hA29] at this
    exact this
  have RA29 : ∀ j, mR A29 80 j = mR A28 80 j := fun j => by rw [hA29, mR_sN, if_neg (by omega)]
  have IA29 : ∀ j, mI A29 80 j = mI A28 80 j := fun j => by rw [hA29, mI_sN, if_neg (by omega)]
  have kA29 : mK A29 80 = (10, 0) := by rw [fA29.K (by omega)]; exact kA28
  obtain ⟨A30, hA30⟩ : ∃ A30, A30 = sR A29 80 23 (some 91) := ⟨_, rfl⟩
  have fA30 : Fx [80] A29 A30 := by rw [hA30]; exact Fx.wR in80 _ _
  have tA30 : mT A30 = 92 := by rw [hA30, mT_sR]; exact tA29
  have wA30 : mW A30 = mW A29 := by rw [hA30, mW_sR]
  have RA30 : ∀ j, mR A30 80 j = if j = 23 then some 91 else mR A29 80 j := fun j => by rw [hA30, mR_sR]; simp only [true_and]
  have IA30 : ∀ j, mI A30 80 j = mI A29 80 j := fun j => by rw [hA30, mI_sR]
  have kA30 : mK A30 80 = (10, 0) := by rw [fA30.K (by omega)]; exact kA29
  obtain ⟨A31, hA31⟩ : ∃ A31, A31 = sN A30 20 8 8 := ⟨_, rfl⟩
  have fA31 : Fx [80] A30 A31 := by rw [hA31]; exact Fx.wN _ _ _
  have tA31 : mT A31 = 93 := by rw [hA31, mT_sN, tA30]
  have wA31 : mW A31 = mW A30 + 8 := by rw [hA31, mW_sN]
  have zA31 : Ze A31 92 (20, 8) := by
    have := Ze.new A30 20 8 8
    rw [tA30, ← hA31] at this
    exact this
  have RA31 : ∀ j, mR A31 80 j = mR A30 80 j := fun j => by rw [hA31, mR_sN, if_neg (by omega)]
  have IA31 : ∀ j, mI A31 80 j = mI A30 80 j := fun j => by rw [hA31, mI_sN, if_neg (by omega)]
  have kA31 : mK A31 80 = (10, 0) := by rw [fA31.K (by omega)]; exact kA30
  obtain ⟨A32, hA32⟩ : ∃ A32, A32 = sR A31 80 24 (some 92) := ⟨_, rfl⟩
  have fA32 : Fx [80] A31 A32 := by rw [hA32]; exact Fx.wR in80 _ _
  have tA32 : mT A32 = 93 := by rw [hA32, mT_sR]; exact tA31
  have wA32 : mW A32 = mW A31 := by rw [hA32, mW_sR]
  have RA32 : ∀ j, mR A32 80 j = if j = 24 then some 92 else mR A31 80 j := fun j => by rw [hA32, mR_sR]; simp only [true_and]
  have IA32 : ∀ j, mI A32 80 j = mI A31 80 j := fun j => by rw [hA32, mI_sR]
  have kA32 : mK A32 80 = (10, 0) := by rw [fA32.K (by omega)]; exact kA31
  obtain ⟨A33, hA33⟩ : ∃ A33, A33 = sN A32 20 8 8 := ⟨_, rfl⟩
  have fA33 : Fx [80] A32 A33 := by rw [hA33]; exact Fx.wN _ _ _
  have tA33 : mT A33 = 94 := by rw [hA33, mT_sN, tA32]
  have wA33 : mW A33 = mW A32 + 8 := by rw [hA33, mW_sN]
  have zA33 : Ze A33 93 (20, 8) := by
    have := Ze.new A32 20 8 8
    rw [tA32, ← hA33] at this
    exact this
  have RA33 : ∀ j, mR A33 80 j = mR A32 80 j := fun j => by rw [hA33, mR_sN, if_neg (by omega)]
  have IA33 : ∀ j, mI A33 80 j = mI A32 80 j := fun j => by rw [hA33, mI_sN, if_neg (by omega)]
  have kA33 : mK A33 80 = (10, 0) := by rw [fA33.K (by omega)]; exact kA32
  obtain ⟨A34, hA34⟩ : ∃ A34, A34 = sR A33 80 25 (some 93) := ⟨_, rfl⟩
  have fA34 : Fx [80] A33 A34 := by rw [hA34]; exact Fx.wR in80 _ _
  have tA34 : mT A34 = 94 := by rw [hA34, mT_sR]; exact tA33
  have wA34 : mW A34 = mW A33 := by rw [hA34, mW_sR]
  have RA34 : ∀ j, mR A34 80 j = if j = 25 then some 93 else mR A33 80 j := fun j => by rw [hA34, mR_sR]; simp only [true_and]
  have IA34 : ∀ j, mI A34 80 j = mI A33 80 j := fun j => by rw [hA34, mI_sR]
  have kA34 : mK A34 80 = (10, 0) := by rw [fA34.K (by omega)]; exact kA33
  obtain ⟨A35, hA35⟩ : ∃ A35, A35 = sN A34 20 8 8 := ⟨_, rfl⟩
  have fA35 : Fx [80] A34 A35 := by rw [hA35]; exact Fx.wN _ _ _
  have tA35 : mT A35 = 95 := by rw [hA35, mT_sN, tA34]
  have wA35 : mW A35 = mW A34 + 8 := by rw [hA35, mW_sN]
  have zA35 : Ze A35 94 (20, 8) := by
    have := Ze.new A34 20 8 8
    rw [tA34, ← hA35] at this
    exact this
  have RA35 : ∀ j, mR A35 80 j = mR A34 80 j := fun j => by rw [hA35, mR_sN, if_neg (by omega)]
  have IA35 : ∀ j, mI A35 80 j = mI A34 80 j := fun j => by rw [hA35, mI_sN, if_neg (by omega)]
  have kA35 : mK A35 80 = (10, 0) := by rw [fA35.K (by omega)]; exact kA34
  obtain ⟨A36, hA36⟩ : ∃ A36, A36 = sR A35 80 26 (some 94) := ⟨_, rfl⟩
  have fA36 : Fx [80] A35 A36 := by rw [hA36]; exact Fx.wR in80 _ _
  have tA36 : mT A36 = 95 := by rw [hA36, mT_sR]; exact tA35
  have wA36 : mW A36 = mW A35 := by rw [hA36, mW_sR]
  have RA36 : ∀ j, mR A36 80 j = if j = 26 then some 94 else mR A35 80 j := fun j => by rw [hA36, mR_sR]; simp only [true_and]
  have IA36 : ∀ j, mI A36 80 j = mI A35 80 j := fun j => by rw [hA36, mI_sR]
  have kA36 : mK A36 80 = (10, 0) := by rw [fA36.K (by omega)]; exact kA35
  obtain ⟨A37, hA37⟩ : ∃ A37, A37 = sN A36 21 1280 1280 := ⟨_, rfl⟩
  have fA37 : Fx [80] A36 A37 := by rw [hA37]; exact Fx.wN _ _ _
  have tA37 : mT A37 = 96 := by rw [hA37, mT_sN, tA36]
  have wA37 : mW A37 = mW A36 + 1280 := by rw [hA37, mW_sN]
  have zA37 : Ze A37 95 (21, 1280) := by
    have := Ze.new A36 21 1280 1280
    rw [tA36, ← hA37] at this
    exact this
  have RA37 : ∀ j, mR A37 80 j = mR A36 80 j := fun j => by rw [hA37, mR_sN, if_neg (by omega)]
  have IA37 : ∀ j, mI A37 80 j = mI A36 80 j := fun j => by rw [hA37, mI_sN, if_neg (by omega)]
  have kA37 : mK A37 80 = (10, 0) := by rw [fA37.K (by omega)]; exact kA36
  obtain ⟨A38, hA38⟩ : ∃ A38, A38 = sR A37 80 27 (some 95) := ⟨_, rfl⟩
  have fA38 : Fx [80] A37 A38 := by rw [hA38]; exact Fx.wR in80 _ _
  have tA38 : mT A38 = 96 := by rw [hA38, mT_sR]; exact tA37
  have wA38 : mW A38 = mW A37 := by rw [hA38, mW_sR]
  have RA38 : ∀ j, mR A38 80 j = if j = 27 then some 95 else mR A37 80 j := fun j => by rw [hA38, mR_sR]; simp only [true_and]
  have IA38 : ∀ j, mI A38 80 j = mI A37 80 j := fun j => by rw [hA38, mI_sR]
  have kA38 : mK A38 80 = (10, 0) := by rw [fA38.K (by omega)]; exact kA37
  obtain ⟨A39, hA39⟩ : ∃ A39, A39 = sN A38 21 160 160 := ⟨_, rfl⟩
  have fA39 : Fx [80] A38 A39 := by rw [hA39]; exact Fx.wN _ _ _
  have tA39 : mT A39 = 97 := by rw [hA39, mT_sN, tA38]
  have wA39 : mW A39 = mW A38 + 160 := by rw [hA39, mW_sN]
  have zA39 : Ze A39 96 (21, 160) := by
    have := Ze.new A38 21 160 160
    rw [tA38, ← hA39] at this
    exact this
  have RA39 : ∀ j, mR A39 80 j = mR A38 80 j := fun j => by rw [hA39, mR_sN, if_neg (by omega)]
  have IA39 : ∀ j, mI A39 80 j = mI A38 80 j := fun j => by rw [hA39, mI_sN, if_neg (by omega)]
  have kA39 : mK A39 80 = (10, 0) := by rw [fA39.K (by omega)]; exact kA38
  obtain ⟨A40, hA40⟩ : ∃ A40, A40 = sR A39 80 28 (some 96) := ⟨_, rfl⟩
  have fA40 : Fx [80] A39 A40 := by rw [hA40]; exact Fx.wR in80 _ _
  have tA40 : mT A40 = 97 := by rw [hA40, mT_sR]; exact tA39
  have wA40 : mW A40 = mW A39 := by rw [hA40, mW_sR]
  have RA40 : ∀ j, mR A40 80 j = if j = 28 then some 96 else mR A39 80 j := fun j => by rw [hA40, mR_sR]; simp only [true_and]
  have IA40 : ∀ j, mI A40 80 j = mI A39 80 j := fun j => by rw [hA40, mI_sR]
  have kA40 : mK A40 80 = (10, 0) := by rw [fA40.K (by omega)]; exact kA39
  obtain ⟨A41, hA41⟩ : ∃ A41, A41 = sN A40 20 38 38 := ⟨_, rfl⟩
  have fA41 : Fx [80] A40 A41 := by rw [hA41]; exact Fx.wN _ _ _
  have tA41 : mT A41 = 98 := by rw [hA41, mT_sN, tA40]
  have wA41 : mW A41 = mW A40 + 38 := by rw [hA41, mW_sN]
  have zA41 : Ze A41 97 (20, 38) := by
    have := Ze.new A40 20 38 38
    rw [tA40, ← hA41] at this
    exact this
  have RA41 : ∀ j, mR A41 80 j = mR A40 80 j := fun j => by rw [hA41, mR_sN, if_neg (by omega)]
  have IA41 : ∀ j, mI A41 80 j = mI A40 80 j := fun j => by rw [hA41, mI_sN, if_neg (by omega)]
  have kA41 : mK A41 80 = (10, 0) := by rw [fA41.K (by omega)]; exact kA40
  obtain ⟨A42, hA42⟩ : ∃ A42, A42 = wtI A41 38 := ⟨_, rfl⟩
  have fA42 : Fx [97] A41 A42 := by rw [hA42]; exact (wtI_s _ _).2.2.2.2
  have tA42 : mT A42 = 98 := by rw [hA42, (wtI_s _ _).2.1]; exact tA41
  have wA42 : mW A42 = mW A41 := by rw [hA42, (wtI_s _ _).2.2.1]
  have RA42 : ∀ j, mR A42 80 j = mR A41 80 j := fun j => fA42.R (by omega) (by decide) j
  have IA42 : ∀ j, mI A42 80 j = mI A41 80 j := fun j => fA42.I (by omega) (by decide) j
  have kA42 : mK A42 80 = (10, 0) := by rw [fA42.K (by omega)]; exact kA41
  obtain ⟨A43, hA43⟩ : ∃ A43, A43 = sR A42 80 30 (some 97) := ⟨_, rfl⟩
  have fA43 : Fx [80] A42 A43 := by rw [hA43]; exact Fx.wR in80 _ _
  have tA43 : mT A43 = 98 := by rw [hA43, mT_sR]; exact tA42
  have wA43 : mW A43 = mW A42 := by rw [hA43, mW_sR]
  have RA43 : ∀ j, mR A43 80 j = if j = 30 then some 97 else mR A42 80 j := fun j => by rw [hA43, mR_sR]; simp only [true_and]
  have IA43 : ∀ j, mI A43 80 j = mI A42 80 j := fun j => by rw [hA43, mI_sR]
  have kA43 : mK A43 80 = (10, 0) := by rw [fA43.K (by omega)]; exact kA42
  obtain ⟨A44, hA44⟩ : ∃ A44, A44 = sN A43 20 4 4 := ⟨_, rfl⟩
  have fA44 : Fx [80] A43 A44 := by rw [hA44]; exact Fx.wN _ _ _
  have tA44 : mT A44 = 99 := by rw [hA44, mT_sN, tA43]
  have wA44 : mW A44 = mW A43 + 4 := by rw [hA44, mW_sN]
  have zA44 : Ze A44 98 (20, 4) := by
    have := Ze.new A43 20 4 4
    rw [tA43, ← hA44] at this
    exact this
  have RA44 : ∀ j, mR A44 80 j = mR A43 80 j := fun j => by rw [hA44, mR_sN, if_neg (by omega)]
  have IA44 : ∀ j, mI A44 80 j = mI A43 80 j := fun j => by rw [hA44, mI_sN, if_neg (by omega)]
  have kA44 : mK A44 80 = (10, 0) := by rw [fA44.K (by omega)]; exact kA43
  obtain ⟨A45, hA45⟩ : ∃ A45, A45 = sR A44 80 31 (some 98) := ⟨_, rfl⟩
  have fA45 : Fx [80] A44 A45 := by rw [hA45]; exact Fx.wR in80 _ _
  have tA45 : mT A45 = 99 := by rw [hA45, mT_sR]; exact tA44
  have wA45 : mW A45 = mW A44 := by rw [hA45, mW_sR]
  have RA45 : ∀ j, mR A45 80 j = if j = 31 then some 98 else mR A44 80 j := fun j => by rw [hA45, mR_sR]; simp only [true_and]
  have IA45 : ∀ j, mI A45 80 j = mI A44 80 j := fun j => by rw [hA45, mI_sR]
  have kA45 : mK A45 80 = (10, 0) := by rw [fA45.K (by omega)]; exact kA44
  obtain ⟨A46, hA46⟩ : ∃ A46, A46 = sN A45 20 80 80 := ⟨_, rfl⟩
  have fA46 : Fx [80] A45 A46 := by rw [hA46]; exact Fx.wN _ _ _
  have tA46 : mT A46 = 100 := by rw [hA46, mT_sN, tA45]
  have wA46 : mW A46 = mW A45 + 80 := by rw [hA46, mW_sN]
  have zA46 : Ze A46 99 (20, 80) := by
    have := Ze.new A45 20 80 80
    rw [tA45, ← hA46] at this
    exact this
  have RA46 : ∀ j, mR A46 80 j = mR A45 80 j := fun j => by rw [hA46, mR_sN, if_neg (by omega)]
  have IA46 : ∀ j, mI A46 80 j = mI A45 80 j := fun j => by rw [hA46, mI_sN, if_neg (by omega)]
  have kA46 : mK A46 80 = (10, 0) := by rw [fA46.K (by omega)]; exact kA45
  obtain ⟨A47, hA47⟩ : ∃ A47, A47 = sR A46 80 37 (some 99) := ⟨_, rfl⟩
  have fA47 : Fx [80] A46 A47 := by rw [hA47]; exact Fx.wR in80 _ _
  have tA47 : mT A47 = 100 := by rw [hA47, mT_sR]; exact tA46
  have wA47 : mW A47 = mW A46 := by rw [hA47, mW_sR]
  have RA47 : ∀ j, mR A47 80 j = if j = 37 then some 99 else mR A46 80 j := fun j => by rw [hA47, mR_sR]; simp only [true_and]
  have IA47 : ∀ j, mI A47 80 j = mI A46 80 j := fun j => by rw [hA47, mI_sR]
  have kA47 : mK A47 80 = (10, 0) := by rw [fA47.K (by omega)]; exact kA46
  obtain ⟨A48, hA48⟩ : ∃ A48, A48 = sN A47 20 80 80 := ⟨_, rfl⟩
  have fA48 : Fx [80] A47 A48 := by rw [hA48]; exact Fx.wN _ _ _
  have tA48 : mT A48 = 101 := by rw [hA48, mT_sN, tA47]
  have wA48 : mW A48 = mW A47 + 80 := by rw [hA48, mW_sN]
  have zA48 : Ze A48 100 (20, 80) := by
    have := Ze.new A47 20 80 80
    rw [tA47, ← hA48] at this
    exact this
  have RA48 : ∀ j, mR A48 80 j = mR A47 80 j := fun j => by rw [hA48, mR_sN, if_neg (by omega)]
  have IA48 : ∀ j, mI A48 80 j = mI A47 80 j := fun j => by rw [hA48, mI_sN, if_neg (by omega)]
  have kA48 : mK A48 80 = (10, 0) := by rw [fA48.K (by omega)]; exact kA47
  obtain ⟨A49, hA49⟩ : ∃ A49, A49 = sR A48 80 38 (some 100) := ⟨_, rfl⟩
  have fA49 : Fx [80] A48 A49 := by rw [hA49]; exact Fx.wR in80 _ _
  have tA49 : mT A49 = 101 := by rw [hA49, mT_sR]; exact tA48
  have wA49 : mW A49 = mW A48 := by rw [hA49, mW_sR]
  have RA49 : ∀ j, mR A49 80 j = if j = 38 then some 100 else mR A48 80 j := fun j => by rw [hA49, mR_sR]; simp only [true_and]
  have IA49 : ∀ j, mI A49 80 j = mI A48 80 j := fun j => by rw [hA49, mI_sR]
  have kA49 : mK A49 80 = (10, 0) := by rw [fA49.K (by omega)]; exact kA48
  obtain ⟨A50, hA50⟩ : ∃ A50, A50 = sN A49 21 24 24 := ⟨_, rfl⟩
  have fA50 : Fx [80] A49 A50 := by rw [hA50]; exact Fx.wN _ _ _
  have tA50 : mT A50 = 102 := by rw [hA50, mT_sN, tA49]
  have wA50 : mW A50 = mW A49 + 24 := by rw [hA50, mW_sN]
  have zA50 : Ze A50 101 (21, 24) := by
    have := Ze.new A49 21 24 24
    rw [tA49, ← hA50] at this
    exact this
  have RA50 : ∀ j, mR A50 80 j = mR A49 80 j := fun j => by rw [hA50, mR_sN, if_neg (by omega)]
  have IA50 : ∀ j, mI A50 80 j = mI A49 80 j := fun j => by rw [hA50, mI_sN, if_neg (by omega)]
  have kA50 : mK A50 80 = (10, 0) := by rw [fA50.K (by omega)]; exact kA49
  obtain ⟨A51, hA51⟩ : ∃ A51, A51 = sR A50 80 39 (some 101) := ⟨_, rfl⟩
  have fA51 : Fx [80] A50 A51 := by rw [hA51]; exact Fx.wR in80 _ _
  have tA51 : mT A51 = 102 := by rw [hA51, mT_sR]; exact tA50
  have wA51 : mW A51 = mW A50 := by rw [hA51, mW_sR]
  have RA51 : ∀ j, mR A51 80 j = if j = 39 then some 101 else mR A50 80 j := fun j => by rw [hA51, mR_sR]; simp only [true_and]
  have IA51 : ∀ j, mI A51 80 j = mI A50 80 j := fun j => by rw [hA51, mI_sR]
  have kA51 : mK A51 80 = (10, 0) := by rw [fA51.K (by omega)]; exact kA50
  obtain ⟨A52, hA52⟩ : ∃ A52, A52 = sN A51 21 24 24 := ⟨_, rfl⟩
  have fA52 : Fx [80] A51 A52 := by rw [hA52]; exact Fx.wN _ _ _
  have tA52 : mT A52 = 103 := by rw [hA52, mT_sN, tA51]
  have wA52 : mW A52 = mW A51 + 24 := by rw [hA52, mW_sN]
  have zA52 : Ze A52 102 (21, 24) := by
    have := Ze.new A51 21 24 24
    rw [tA51, ← hA52] at this
    exact this
  have RA52 : ∀ j, mR A52 80 j = mR A51 80 j := fun j => by rw [hA52, mR_sN, if_neg (by omega)]
  have IA52 : ∀ j, mI A52 80 j = mI A51 80 j := fun j => by rw [hA52, mI_sN, if_neg (by omega)]
  have kA52 : mK A52 80 = (10, 0) := by rw [fA52.K (by omega)]; exact kA51
  obtain ⟨A53, hA53⟩ : ∃ A53, A53 = sR A52 80 40 (some 102) := ⟨_, rfl⟩
  have fA53 : Fx [80] A52 A53 := by rw [hA53]; exact Fx.wR in80 _ _
  have tA53 : mT A53 = 103 := by rw [hA53, mT_sR]; exact tA52
  have wA53 : mW A53 = mW A52 := by rw [hA53, mW_sR]
  have RA53 : ∀ j, mR A53 80 j = if j = 40 then some 102 else mR A52 80 j := fun j => by rw [hA53, mR_sR]; simp only [true_and]
  have IA53 : ∀ j, mI A53 80 j = mI A52 80 j := fun j => by rw [hA53, mI_sR]
  have kA53 : mK A53 80 = (10, 0) := by rw [fA53.K (by omega)]; exact kA52
  obtain ⟨A54, hA54⟩ : ∃ A54, A54 = sN A53 21 24 24 := ⟨_, rfl⟩
  have fA54 : Fx [80] A53 A54 := by rw [hA54]; exact Fx.wN _ _ _
  have tA54 : mT A54 = 104 := by rw [hA54, mT_sN, tA53]
  have wA54 : mW A54 = mW A53 + 24 := by rw [hA54, mW_sN]
  have zA54 : Ze A54 103 (21, 24) := by
    have := Ze.new A53 21 24 24
    rw [tA53, ← hA54] at this
    exact this
  have RA54 : ∀ j, mR A54 80 j = mR A53 80 j := fun j => by rw [hA54, mR_sN, if_neg (by omega)]
  have IA54 : ∀ j, mI A54 80 j = mI A53 80 j := fun j => by rw [hA54, mI_sN, if_neg (by omega)]
  have kA54 : mK A54 80 = (10, 0) := by rw [fA54.K (by omega)]; exact kA53
  obtain ⟨A55, hA55⟩ : ∃ A55, A55 = sR A54 80 41 (some 103) := ⟨_, rfl⟩
  have fA55 : Fx [80] A54 A55 := by rw [hA55]; exact Fx.wR in80 _ _
  have tA55 : mT A55 = 104 := by rw [hA55, mT_sR]; exact tA54
  have wA55 : mW A55 = mW A54 := by rw [hA55, mW_sR]
  have RA55 : ∀ j, mR A55 80 j = if j = 41 then some 103 else mR A54 80 j := fun j => by rw [hA55, mR_sR]; simp only [true_and]
  have IA55 : ∀ j, mI A55 80 j = mI A54 80 j := fun j => by rw [hA55, mI_sR]
  have kA55 : mK A55 80 = (10, 0) := by rw [fA55.K (by omega)]; exact kA54
  obtain ⟨A56, hA56⟩ : ∃ A56, A56 = sN A55 20 21 21 := ⟨_, rfl⟩
  have fA56 : Fx [80] A55 A56 := by rw [hA56]; exact Fx.wN _ _ _
  have tA56 : mT A56 = 105 := by rw [hA56, mT_sN, tA55]
  have wA56 : mW A56 = mW A55 + 21 := by rw [hA56, mW_sN]
  have zA56 : Ze A56 104 (20, 21) := by
    have := Ze.new A55 20 21 21
    rw [tA55, ← hA56] at this
    exact this
  have RA56 : ∀ j, mR A56 80 j = mR A55 80 j := fun j => by rw [hA56, mR_sN, if_neg (by omega)]
  have IA56 : ∀ j, mI A56 80 j = mI A55 80 j := fun j => by rw [hA56, mI_sN, if_neg (by omega)]
  have kA56 : mK A56 80 = (10, 0) := by rw [fA56.K (by omega)]; exact kA55
  obtain ⟨A57, hA57⟩ : ∃ A57, A57 = sR A56 80 44 (some 104) := ⟨_, rfl⟩
  have fA57 : Fx [80] A56 A57 := by rw [hA57]; exact Fx.wR in80 _ _
  have tA57 : mT A57 = 105 := by rw [hA57, mT_sR]; exact tA56
  have wA57 : mW A57 = mW A56 := by rw [hA57, mW_sR]
  have RA57 : ∀ j, mR A57 80 j = if j = 44 then some 104 else mR A56 80 j := fun j => by rw [hA57, mR_sR]; simp only [true_and]
  have IA57 : ∀ j, mI A57 80 j = mI A56 80 j := fun j => by rw [hA57, mI_sR]
  have kA57 : mK A57 80 = (10, 0) := by rw [fA57.K (by omega)]; exact kA56
  obtain ⟨A58, hA58⟩ : ∃ A58, A58 = sN A57 20 21 21 := ⟨_, rfl⟩
  have fA58 : Fx [80] A57 A58 := by rw [hA58]; exact Fx.wN _ _ _
  have tA58 : mT A58 = 106 := by rw [hA58, mT_sN, tA57]
  have wA58 : mW A58 = mW A57 + 21 := by rw [hA58, mW_sN]
  have zA58 : Ze A58 105 (20, 21) := by
    have := Ze.new A57 20 21 21
    rw [tA57, ← hA58] at this
    exact this
  have RA58 : ∀ j, mR A58 80 j = mR A57 80 j := fun j => by rw [hA58, mR_sN, if_neg (by omega)]
  have IA58 : ∀ j, mI A58 80 j = mI A57 80 j := fun j => by rw [hA58, mI_sN, if_neg (by omega)]
  have kA58 : mK A58 80 = (10, 0) := by rw [fA58.K (by omega)]; exact kA57
  obtain ⟨A59, hA59⟩ : ∃ A59, A59 = sR A58 80 45 (some 105) := ⟨_, rfl⟩
  have fA59 : Fx [80] A58 A59 := by rw [hA59]; exact Fx.wR in80 _ _
  have tA59 : mT A59 = 106 := by rw [hA59, mT_sR]; exact tA58
  have wA59 : mW A59 = mW A58 := by rw [hA59, mW_sR]
  have RA59 : ∀ j, mR A59 80 j = if j = 45 then some 105 else mR A58 80 j := fun j => by rw [hA59, mR_sR]; simp only [true_and]
  have IA59 : ∀ j, mI A59 80 j = mI A58 80 j := fun j => by rw [hA59, mI_sR]
  have kA59 : mK A59 80 = (10, 0) := by rw [fA59.K (by omega)]; exact kA58
  obtain ⟨A60, hA60⟩ : ∃ A60, A60 = sN A59 20 20 20 := ⟨_, rfl⟩
  have fA60 : Fx [80] A59 A60 := by rw [hA60]; exact Fx.wN _ _ _
  have tA60 : mT A60 = 107 := by rw [hA60, mT_sN, tA59]
  have wA60 : mW A60 = mW A59 + 20 := by rw [hA60, mW_sN]
  have zA60 : Ze A60 106 (20, 20) := by
    have := Ze.new A59 20 20 20
    rw [tA59, ← hA60] at this
    exact this
  have RA60 : ∀ j, mR A60 80 j = mR A59 80 j := fun j => by rw [hA60, mR_sN, if_neg (by omega)]
  have IA60 : ∀ j, mI A60 80 j = mI A59 80 j := fun j => by rw [hA60, mI_sN, if_neg (by omega)]
  have kA60 : mK A60 80 = (10, 0) := by rw [fA60.K (by omega)]; exact kA59
  obtain ⟨A61, hA61⟩ : ∃ A61, A61 = sR A60 80 46 (some 106) := ⟨_, rfl⟩
  have fA61 : Fx [80] A60 A61 := by rw [hA61]; exact Fx.wR in80 _ _
  have tA61 : mT A61 = 107 := by rw [hA61, mT_sR]; exact tA60
  have wA61 : mW A61 = mW A60 := by rw [hA61, mW_sR]
  have RA61 : ∀ j, mR A61 80 j = if j = 46 then some 106 else mR A60 80 j := fun j => by rw [hA61, mR_sR]; simp only [true_and]
  have IA61 : ∀ j, mI A61 80 j = mI A60 80 j := fun j => by rw [hA61, mI_sR]
  have kA61 : mK A61 80 = (10, 0) := by rw [fA61.K (by omega)]; exact kA60
  have fM : Fx [] M0 A61 := by
    have a0 : Fx [] M0 A1 := by rw [hA1]; exact Fx.wN _ _ _
    have a1 : Fx [] M0 A2 := a0.cut fA2 (fun o ho => Or.inr (by have := List.mem_singleton.mp ho; omega))
    have a2 : Fx [] M0 A3 := a1.cut fA3 (fun o ho => Or.inr (by have := List.mem_singleton.mp ho; omega))
    have a3 : Fx [] M0 A4 := a2.cut fA4 (fun o ho => Or.inr (by have := List.mem_singleton.mp ho; omega))
    have a4 : Fx [] M0 A5 := a3.cut fA5 (fun o ho => Or.inr (by have := List.mem_singleton.mp ho; omega))
    have a5 : Fx [] M0 A6 := a4.cut fA6 (fun o ho => Or.inr (by have := List.mem_singleton.mp ho; omega))
    have a6 : Fx [] M0 A7 := a5.cut fA7 (fun o ho => Or.inr (by have := List.mem_singleton.mp ho; omega))
    have a7 : Fx [] M0 A8 := a6.cut fA8 (fun o ho => Or.inr (by have := List.mem_singleton.mp ho; omega))
    have a8 : Fx [] M0 A9 := a7.cut fA9 (fun o ho => Or.inr (by have := List.mem_singleton.mp ho; omega))
    have a9 : Fx [] M0 A10 := a8.cut fA10 (fun o ho => Or.inr (by have := List.mem_singleton.mp ho; omega))
    have a10 : Fx [] M0 A11 := a9.cut fA11 (fun o ho => Or.inr (by have := List.mem_singleton.mp ho; omega))
    have a11 : Fx [] M0 A12 := a10.cut fA12 (fun o ho => Or.inr (by have := List.mem_singleton.mp ho; omega))
    have a12 : Fx [] M0 A13 := a11.cut fA13 (fun o ho => Or.inr (by have := List.mem_singleton.mp ho; omega))
    have a13 : Fx [] M0 A14 := a12.cut fA14 (fun o ho => Or.inr (by have := List.mem_singleton.mp ho; omega))
    have a14 : Fx [] M0 A15 := a13.cut fA15 (fun o ho => Or.inr (by have := List.mem_singleton.mp ho; omega))
    have a15 : Fx [] M0 A16 := a14.cut fA16 (fun o ho => Or.inr (by have := List.mem_singleton.mp ho; omega))
    have a16 : Fx [] M0 A17 := a15.cut fA17 (fun o ho => Or.inr (by have := List.mem_singleton.mp ho; omega))
    have a17 : Fx [] M0 A18 := a16.cut fA18 (fun o ho => Or.inr (by have := List.mem_singleton.mp ho; omega))
    have a18 : Fx [] M0 A19 := a17.cut fA19 (fun o ho => Or.inr (by have := List.mem_singleton.mp ho; omega))
    have a19 : Fx [] M0 A20 := a18.cut fA20 (fun o ho => Or.inr (by have := List.mem_singleton.mp ho; omega))
    have a20 : Fx [] M0 A21 := a19.cut fA21 (fun o ho => Or.inr (by have := List.mem_singleton.mp ho; omega))
    have a21 : Fx [] M0 A22 := a20.cut fA22 (fun o ho => Or.inr (by have := List.mem_singleton.mp ho; omega))
    have a22 : Fx [] M0 A23 := a21.cut fA23 (fun o ho => Or.inr (by have := List.mem_singleton.mp ho; omega))
    have a23 : Fx [] M0 A24 := a22.cut fA24 (fun o ho => Or.inr (by have := List.mem_singleton.mp ho; omega))
    have a24 : Fx [] M0 A25 := a23.cut fA25 (fun o ho => Or.inr (by have := List.mem_singleton.mp ho; omega))
    have a25 : Fx [] M0 A26 := a24.cut fA26 (fun o ho => Or.inr (by have := List.mem_singleton.mp ho; omega))
    have a26 : Fx [] M0 A27 := a25.cut fA27 (fun o ho => Or.inr (by have := List.mem_singleton.mp ho; omega))
    have a27 : Fx [] M0 A28 := a26.cut fA28 (fun o ho => Or.inr (by have := List.mem_singleton.mp ho; omega))
    have a28 : Fx [] M0 A29 := a27.cut fA29 (fun o ho => Or.inr (by have := List.mem_singleton.mp ho; omega))
    have a29 : Fx [] M0 A30 := a28.cut fA30 (fun o ho => Or.inr (by have := List.mem_singleton.mp ho; omega))
    have a30 : Fx [] M0 A31 := a29.cut fA31 (fun o ho => Or.inr (by have := List.mem_singleton.mp ho; omega))
    have a31 : Fx [] M0 A32 := a30.cut fA32 (fun o ho => Or.inr (by have := List.mem_singleton.mp ho; omega))
    have a32 : Fx [] M0 A33 := a31.cut fA33 (fun o ho => Or.inr (by have := List.mem_singleton.mp ho; omega))
    have a33 : Fx [] M0 A34 := a32.cut fA34 (fun o ho => Or.inr (by have := List.mem_singleton.mp ho; omega))
    have a34 : Fx [] M0 A35 := a33.cut fA35 (fun o ho => Or.inr (by have := List.mem_singleton.mp ho; omega))
    have a35 : Fx [] M0 A36 := a34.cut fA36 (fun o ho => Or.inr (by have := List.mem_singleton.mp ho; omega))
    have a36 : Fx [] M0 A37 := a35.cut fA37 (fun o ho => Or.inr (by have := List.mem_singleton.mp ho; omega))
    have a37 : Fx [] M0 A38 := a36.cut fA38 (fun o ho => Or.inr (by have := List.mem_singleton.mp ho; omega))
    have a38 : Fx [] M0 A39 := a37.cut fA39 (fun o ho => Or.inr (by have := List.mem_singleton.mp ho; omega))
    have a39 : Fx [] M0 A40 := a38.cut fA40 (fun o ho => Or.inr (by have := List.mem_singleton.mp ho; omega))
    have a40 : Fx [] M0 A41 := a39.cut fA41 (fun o ho => Or.inr (by have := List.mem_singleton.mp ho; omega))
    have a41 : Fx [] M0 A42 := a40.cut fA42 (fun o ho => Or.inr (by have := List.mem_singleton.mp ho; omega))
    have a42 : Fx [] M0 A43 := a41.cut fA43 (fun o ho => Or.inr (by have := List.mem_singleton.mp ho; omega))
    have a43 : Fx [] M0 A44 := a42.cut fA44 (fun o ho => Or.inr (by have := List.mem_singleton.mp ho; omega))
    have a44 : Fx [] M0 A45 := a43.cut fA45 (fun o ho => Or.inr (by have := List.mem_singleton.mp ho; omega))
    have a45 : Fx [] M0 A46 := a44.cut fA46 (fun o ho => Or.inr (by have := List.mem_singleton.mp ho; omega))
    have a46 : Fx [] M0 A47 := a45.cut fA47 (fun o ho => Or.inr (by have := List.mem_singleton.mp ho; omega))
    have a47 : Fx [] M0 A48 := a46.cut fA48 (fun o ho => Or.inr (by have := List.mem_singleton.mp ho; omega))
    have a48 : Fx [] M0 A49 := a47.cut fA49 (fun o ho => Or.inr (by have := List.mem_singleton.mp ho; omega))
    have a49 : Fx [] M0 A50 := a48.cut fA50 (fun o ho => Or.inr (by have := List.mem_singleton.mp ho; omega))
    have a50 : Fx [] M0 A51 := a49.cut fA51 (fun o ho => Or.inr (by have := List.mem_singleton.mp ho; omega))
    have a51 : Fx [] M0 A52 := a50.cut fA52 (fun o ho => Or.inr (by have := List.mem_singleton.mp ho; omega))
    have a52 : Fx [] M0 A53 := a51.cut fA53 (fun o ho => Or.inr (by have := List.mem_singleton.mp ho; omega))
    have a53 : Fx [] M0 A54 := a52.cut fA54 (fun o ho => Or.inr (by have := List.mem_singleton.mp ho; omega))
    have a54 : Fx [] M0 A55 := a53.cut fA55 (fun o ho => Or.inr (by have := List.mem_singleton.mp ho; omega))
    have a55 : Fx [] M0 A56 := a54.cut fA56 (fun o ho => Or.inr (by have := List.mem_singleton.mp ho; omega))
    have a56 : Fx [] M0 A57 := a55.cut fA57 (fun o ho => Or.inr (by have := List.mem_singleton.mp ho; omega))
    have a57 : Fx [] M0 A58 := a56.cut fA58 (fun o ho => Or.inr (by have := List.mem_singleton.mp ho; omega))
    have a58 : Fx [] M0 A59 := a57.cut fA59 (fun o ho => Or.inr (by have := List.mem_singleton.mp ho; omega))
    have a59 : Fx [] M0 A60 := a58.cut fA60 (fun o ho => Or.inr (by have := List.mem_singleton.mp ho; omega))
    have a60 : Fx [] M0 A61 := a59.cut fA61 (fun o ho => Or.inr (by have := List.mem_singleton.mp ho; omega))
    exact a60
  have b60 : Fx [80, 97] A61 A61 := Fx.rf
  have b59 : Fx [80, 97] A60 A61 := by
    have x : Fx [80, 97] A60 A61 := (Fx.rf (l := [80, 97])).cut fA61 (fun o ho => Or.inl (by rw [List.mem_singleton.mp ho]; decide))
    exact x.tr b60
  have b58 : Fx [80, 97] A59 A61 := by
    have x : Fx [80, 97] A59 A60 := (Fx.rf (l := [80, 97])).cut fA60 (fun o ho => Or.inl (by rw [List.mem_singleton.mp ho]; decide))
    exact x.tr b59
  have b57 : Fx [80, 97] A58 A61 := by
    have x : Fx [80, 97] A58 A59 := (Fx.rf (l := [80, 97])).cut fA59 (fun o ho => Or.inl (by rw [List.mem_singleton.mp ho]; decide))
    exact x.tr b58
  have b56 : Fx [80, 97] A57 A61 := by
    have x : Fx [80, 97] A57 A58 := (Fx.rf (l := [80, 97])).cut fA58 (fun o ho => Or.inl (by rw [List.mem_singleton.mp ho]; decide))
    exact x.tr b57
  have b55 : Fx [80, 97] A56 A61 := by
    have x : Fx [80, 97] A56 A57 := (Fx.rf (l := [80, 97])).cut fA57 (fun o ho => Or.inl (by rw [List.mem_singleton.mp ho]; decide))
    exact x.tr b56
  have b54 : Fx [80, 97] A55 A61 := by
    have x : Fx [80, 97] A55 A56 := (Fx.rf (l := [80, 97])).cut fA56 (fun o ho => Or.inl (by rw [List.mem_singleton.mp ho]; decide))
    exact x.tr b55
  have b53 : Fx [80, 97] A54 A61 := by
    have x : Fx [80, 97] A54 A55 := (Fx.rf (l := [80, 97])).cut fA55 (fun o ho => Or.inl (by rw [List.mem_singleton.mp ho]; decide))
    exact x.tr b54
  have b52 : Fx [80, 97] A53 A61 := by
    have x : Fx [80, 97] A53 A54 := (Fx.rf (l := [80, 97])).cut fA54 (fun o ho => Or.inl (by rw [List.mem_singleton.mp ho]; decide))
    exact x.tr b53
  have b51 : Fx [80, 97] A52 A61 := by
    have x : Fx [80, 97] A52 A53 := (Fx.rf (l := [80, 97])).cut fA53 (fun o ho => Or.inl (by rw [List.mem_singleton.mp ho]; decide))
    exact x.tr b52
  have b50 : Fx [80, 97] A51 A61 := by
    have x : Fx [80, 97] A51 A52 := (Fx.rf (l := [80, 97])).cut fA52 (fun o ho => Or.inl (by rw [List.mem_singleton.mp ho]; decide))
    exact x.tr b51
  have b49 : Fx [80, 97] A50 A61 := by
    have x : Fx [80, 97] A50 A51 := (Fx.rf (l := [80, 97])).cut fA51 (fun o ho => Or.inl (by rw [List.mem_singleton.mp ho]; decide))
    exact x.tr b50
  have b48 : Fx [80, 97] A49 A61 := by
    have x : Fx [80, 97] A49 A50 := (Fx.rf (l := [80, 97])).cut fA50 (fun o ho => Or.inl (by rw [List.mem_singleton.mp ho]; decide))
    exact x.tr b49
  have b47 : Fx [80, 97] A48 A61 := by
    have x : Fx [80, 97] A48 A49 := (Fx.rf (l := [80, 97])).cut fA49 (fun o ho => Or.inl (by rw [List.mem_singleton.mp ho]; decide))
    exact x.tr b48
  have b46 : Fx [80, 97] A47 A61 := by
    have x : Fx [80, 97] A47 A48 := (Fx.rf (l := [80, 97])).cut fA48 (fun o ho => Or.inl (by rw [List.mem_singleton.mp ho]; decide))
    exact x.tr b47
  have b45 : Fx [80, 97] A46 A61 := by
    have x : Fx [80, 97] A46 A47 := (Fx.rf (l := [80, 97])).cut fA47 (fun o ho => Or.inl (by rw [List.mem_singleton.mp ho]; decide))
    exact x.tr b46
  have b44 : Fx [80, 97] A45 A61 := by
    have x : Fx [80, 97] A45 A46 := (Fx.rf (l := [80, 97])).cut fA46 (fun o ho => Or.inl (by rw [List.mem_singleton.mp ho]; decide))
    exact x.tr b45
  have b43 : Fx [80, 97] A44 A61 := by
    have x : Fx [80, 97] A44 A45 := (Fx.rf (l := [80, 97])).cut fA45 (fun o ho => Or.inl (by rw [List.mem_singleton.mp ho]; decide))
    exact x.tr b44
  have b42 : Fx [80, 97] A43 A61 := by
    have x : Fx [80, 97] A43 A44 := (Fx.rf (l := [80, 97])).cut fA44 (fun o ho => Or.inl (by rw [List.mem_singleton.mp ho]; decide))
    exact x.tr b43
  have b41 : Fx [80, 97] A42 A61 := by
    have x : Fx [80, 97] A42 A43 := (Fx.rf (l := [80, 97])).cut fA43 (fun o ho => Or.inl (by rw [List.mem_singleton.mp ho]; decide))
    exact x.tr b42
  have b40 : Fx [80, 97] A41 A61 := by
    have x : Fx [80, 97] A41 A42 := (Fx.rf (l := [80, 97])).cut fA42 (fun o ho => Or.inl (by rw [List.mem_singleton.mp ho]; decide))
    exact x.tr b41
  have b39 : Fx [80, 97] A40 A61 := by
    have x : Fx [80, 97] A40 A41 := (Fx.rf (l := [80, 97])).cut fA41 (fun o ho => Or.inl (by rw [List.mem_singleton.mp ho]; decide))
    exact x.tr b40
  have b38 : Fx [80, 97] A39 A61 := by
    have x : Fx [80, 97] A39 A40 := (Fx.rf (l := [80, 97])).cut fA40 (fun o ho => Or.inl (by rw [List.mem_singleton.mp ho]; decide))
    exact x.tr b39
  have b37 : Fx [80, 97] A38 A61 := by
    have x : Fx [80, 97] A38 A39 := (Fx.rf (l := [80, 97])).cut fA39 (fun o ho => Or.inl (by rw [List.mem_singleton.mp ho]; decide))
    exact x.tr b38
  have b36 : Fx [80, 97] A37 A61 := by
    have x : Fx [80, 97] A37 A38 := (Fx.rf (l := [80, 97])).cut fA38 (fun o ho => Or.inl (by rw [List.mem_singleton.mp ho]; decide))
    exact x.tr b37
  have b35 : Fx [80, 97] A36 A61 := by
    have x : Fx [80, 97] A36 A37 := (Fx.rf (l := [80, 97])).cut fA37 (fun o ho => Or.inl (by rw [List.mem_singleton.mp ho]; decide))
    exact x.tr b36
  have b34 : Fx [80, 97] A35 A61 := by
    have x : Fx [80, 97] A35 A36 := (Fx.rf (l := [80, 97])).cut fA36 (fun o ho => Or.inl (by rw [List.mem_singleton.mp ho]; decide))
    exact x.tr b35
  have b33 : Fx [80, 97] A34 A61 := by
    have x : Fx [80, 97] A34 A35 := (Fx.rf (l := [80, 97])).cut fA35 (fun o ho => Or.inl (by rw [List.mem_singleton.mp ho]; decide))
    exact x.tr b34
  have b32 : Fx [80, 97] A33 A61 := by
    have x : Fx [80, 97] A33 A34 := (Fx.rf (l := [80, 97])).cut fA34 (fun o ho => Or.inl (by rw [List.mem_singleton.mp ho]; decide))
    exact x.tr b33
  have b31 : Fx [80, 97] A32 A61 := by
    have x : Fx [80, 97] A32 A33 := (Fx.rf (l := [80, 97])).cut fA33 (fun o ho => Or.inl (by rw [List.mem_singleton.mp ho]; decide))
    exact x.tr b32
  have b30 : Fx [80, 97] A31 A61 := by
    have x : Fx [80, 97] A31 A32 := (Fx.rf (l := [80, 97])).cut fA32 (fun o ho => Or.inl (by rw [List.mem_singleton.mp ho]; decide))
    exact x.tr b31
  have b29 : Fx [80, 97] A30 A61 := by
    have x : Fx [80, 97] A30 A31 := (Fx.rf (l := [80, 97])).cut fA31 (fun o ho => Or.inl (by rw [List.mem_singleton.mp ho]; decide))
    exact x.tr b30
  have b28 : Fx [80, 97] A29 A61 := by
    have x : Fx [80, 97] A29 A30 := (Fx.rf (l := [80, 97])).cut fA30 (fun o ho => Or.inl (by rw [List.mem_singleton.mp ho]; decide))
    exact x.tr b29
  have b27 : Fx [80, 97] A28 A61 := by
    have x : Fx [80, 97] A28 A29 := (Fx.rf (l := [80, 97])).cut fA29 (fun o ho => Or.inl (by rw [List.mem_singleton.mp ho]; decide))
    exact x.tr b28
  have b26 : Fx [80, 97] A27 A61 := by
    have x : Fx [80, 97] A27 A28 := (Fx.rf (l := [80, 97])).cut fA28 (fun o ho => Or.inl (by rw [List.mem_singleton.mp ho]; decide))
    exact x.tr b27
  have b25 : Fx [80, 97] A26 A61 := by
    have x : Fx [80, 97] A26 A27 := (Fx.rf (l := [80, 97])).cut fA27 (fun o ho => Or.inl (by rw [List.mem_singleton.mp ho]; decide))
    exact x.tr b26
  have b24 : Fx [80, 97] A25 A61 := by
    have x : Fx [80, 97] A25 A26 := (Fx.rf (l := [80, 97])).cut fA26 (fun o ho => Or.inl (by rw [List.mem_singleton.mp ho]; decide))
    exact x.tr b25
  have b23 : Fx [80, 97] A24 A61 := by
    have x : Fx [80, 97] A24 A25 := (Fx.rf (l := [80, 97])).cut fA25 (fun o ho => Or.inl (by rw [List.mem_singleton.mp ho]; decide))
    exact x.tr b24
  have b22 : Fx [80, 97] A23 A61 := by
    have x : Fx [80, 97] A23 A24 := (Fx.rf (l := [80, 97])).cut fA24 (fun o ho => Or.inl (by rw [List.mem_singleton.mp ho]; decide))
    exact x.tr b23
  have b21 : Fx [80, 97] A22 A61 := by
    have x : Fx [80, 97] A22 A23 := (Fx.rf (l := [80, 97])).cut fA23 (fun o ho => Or.inl (by rw [List.mem_singleton.mp ho]; decide))
    exact x.tr b22
  have b20 : Fx [80, 97] A21 A61 := by
    have x : Fx [80, 97] A21 A22 := (Fx.rf (l := [80, 97])).cut fA22 (fun o ho => Or.inl (by rw [List.mem_singleton.mp ho]; decide))
    exact x.tr b21
  have b19 : Fx [80, 97] A20 A61 := by
    have x : Fx [80, 97] A20 A21 := (Fx.rf (l := [80, 97])).cut fA21 (fun o ho => Or.inl (by rw [List.mem_singleton.mp ho]; decide))
    exact x.tr b20
  have b18 : Fx [80, 97] A19 A61 := by
    have x : Fx [80, 97] A19 A20 := (Fx.rf (l := [80, 97])).cut fA20 (fun o ho => Or.inl (by rw [List.mem_singleton.mp ho]; decide))
    exact x.tr b19
  have b17 : Fx [80, 97] A18 A61 := by
    have x : Fx [80, 97] A18 A19 := (Fx.rf (l := [80, 97])).cut fA19 (fun o ho => Or.inl (by rw [List.mem_singleton.mp ho]; decide))
    exact x.tr b18
  have b16 : Fx [80, 97] A17 A61 := by
    have x : Fx [80, 97] A17 A18 := (Fx.rf (l := [80, 97])).cut fA18 (fun o ho => Or.inl (by rw [List.mem_singleton.mp ho]; decide))
    exact x.tr b17
  have b15 : Fx [80, 97] A16 A61 := by
    have x : Fx [80, 97] A16 A17 := (Fx.rf (l := [80, 97])).cut fA17 (fun o ho => Or.inl (by rw [List.mem_singleton.mp ho]; decide))
    exact x.tr b16
  have b14 : Fx [80, 97] A15 A61 := by
    have x : Fx [80, 97] A15 A16 := (Fx.rf (l := [80, 97])).cut fA16 (fun o ho => Or.inl (by rw [List.mem_singleton.mp ho]; decide))
    exact x.tr b15
  have b13 : Fx [80, 97] A14 A61 := by
    have x : Fx [80, 97] A14 A15 := (Fx.rf (l := [80, 97])).cut fA15 (fun o ho => Or.inl (by rw [List.mem_singleton.mp ho]; decide))
    exact x.tr b14
  have b12 : Fx [80, 97] A13 A61 := by
    have x : Fx [80, 97] A13 A14 := (Fx.rf (l := [80, 97])).cut fA14 (fun o ho => Or.inl (by rw [List.mem_singleton.mp ho]; decide))
    exact x.tr b13
  have b11 : Fx [80, 97] A12 A61 := by
    have x : Fx [80, 97] A12 A13 := (Fx.rf (l := [80, 97])).cut fA13 (fun o ho => Or.inl (by rw [List.mem_singleton.mp ho]; decide))
    exact x.tr b12
  have b10 : Fx [80, 97] A11 A61 := by
    have x : Fx [80, 97] A11 A12 := (Fx.rf (l := [80, 97])).cut fA12 (fun o ho => Or.inl (by rw [List.mem_singleton.mp ho]; decide))
    exact x.tr b11
  have b9 : Fx [80, 97] A10 A61 := by
    have x : Fx [80, 97] A10 A11 := (Fx.rf (l := [80, 97])).cut fA11 (fun o ho => Or.inl (by rw [List.mem_singleton.mp ho]; decide))
    exact x.tr b10
  have b8 : Fx [80, 97] A9 A61 := by
    have x : Fx [80, 97] A9 A10 := (Fx.rf (l := [80, 97])).cut fA10 (fun o ho => Or.inl (by rw [List.mem_singleton.mp ho]; decide))
    exact x.tr b9
  have b7 : Fx [80, 97] A8 A61 := by
    have x : Fx [80, 97] A8 A9 := (Fx.rf (l := [80, 97])).cut fA9 (fun o ho => Or.inl (by rw [List.mem_singleton.mp ho]; decide))
    exact x.tr b8
  have b6 : Fx [80, 97] A7 A61 := by
    have x : Fx [80, 97] A7 A8 := (Fx.rf (l := [80, 97])).cut fA8 (fun o ho => Or.inl (by rw [List.mem_singleton.mp ho]; decide))
    exact x.tr b7
  have b5 : Fx [80, 97] A6 A61 := by
    have x : Fx [80, 97] A6 A7 := (Fx.rf (l := [80, 97])).cut fA7 (fun o ho => Or.inl (by rw [List.mem_singleton.mp ho]; decide))
    exact x.tr b6
  have b4 : Fx [80, 97] A5 A61 := by
    have x : Fx [80, 97] A5 A6 := (Fx.rf (l := [80, 97])).cut fA6 (fun o ho => Or.inl (by rw [List.mem_singleton.mp ho]; decide))
    exact x.tr b5
  have b3 : Fx [80, 97] A4 A61 := by
    have x : Fx [80, 97] A4 A5 := (Fx.rf (l := [80, 97])).cut fA5 (fun o ho => Or.inl (by rw [List.mem_singleton.mp ho]; decide))
    exact x.tr b4
  have b2 : Fx [80, 97] A3 A61 := by
    have x : Fx [80, 97] A3 A4 := (Fx.rf (l := [80, 97])).cut fA4 (fun o ho => Or.inl (by rw [List.mem_singleton.mp ho]; decide))
    exact x.tr b3
  have b1 : Fx [80, 97] A2 A61 := by
    have x : Fx [80, 97] A2 A3 := (Fx.rf (l := [80, 97])).cut fA3 (fun o ho => Or.inl (by rw [List.mem_singleton.mp ho]; decide))
    exact x.tr b2
  have b0 : Fx [80, 97] A1 A61 := by
    have x : Fx [80, 97] A1 A2 := (Fx.rf (l := [80, 97])).cut fA2 (fun o ho => Or.inl (by rw [List.mem_singleton.mp ho]; decide))
    exact x.tr b1
  have d60 : Fx [80] A61 A61 := Fx.rf
  have d59 : Fx [80] A60 A61 := fA61.tr d60
  have d58 : Fx [80] A59 A61 := fA60.tr d59
  have d57 : Fx [80] A58 A61 := fA59.tr d58
  have d56 : Fx [80] A57 A61 := fA58.tr d57
  have d55 : Fx [80] A56 A61 := fA57.tr d56
  have d54 : Fx [80] A55 A61 := fA56.tr d55
  have d53 : Fx [80] A54 A61 := fA55.tr d54
  have d52 : Fx [80] A53 A61 := fA54.tr d53
  have d51 : Fx [80] A52 A61 := fA53.tr d52
  have d50 : Fx [80] A51 A61 := fA52.tr d51
  have d49 : Fx [80] A50 A61 := fA51.tr d50
  have d48 : Fx [80] A49 A61 := fA50.tr d49
  have d47 : Fx [80] A48 A61 := fA49.tr d48
  have d46 : Fx [80] A47 A61 := fA48.tr d47
  have d45 : Fx [80] A46 A61 := fA47.tr d46
  have d44 : Fx [80] A45 A61 := fA46.tr d45
  have d43 : Fx [80] A44 A61 := fA45.tr d44
  have d42 : Fx [80] A43 A61 := fA44.tr d43
  have d41 : Fx [80] A42 A61 := fA43.tr d42
  have nn : ∀ o, 81 ≤ o → o ≠ 97 → ¬ o ∈ [80, 97] := fun o h1 h2 z => by simp only [List.mem_cons, List.not_mem_nil, or_false] at z; omega
  refine ⟨A61, ?_, tA61, by omega, fM, ⟨kA61, ?_, ?_⟩, ⟨zA9.fx b8 (by omega) (nn _ (by decide) (by decide)), zA11.fx b10 (by omega) (nn _ (by decide) (by decide)), zA13.fx b12 (by omega) (nn _ (by decide) (by decide)), zA15.fx b14 (by omega) (nn _ (by decide) (by decide)), zA17.fx b16 (by omega) (nn _ (by decide) (by decide)), zA19.fx b18 (by omega) (nn _ (by decide) (by decide)), zA21.fx b20 (by omega) (nn _ (by decide) (by decide)), zA23.fx b22 (by omega) (nn _ (by decide) (by decide)), zA25.fx b24 (by omega) (nn _ (by decide) (by decide)), zA27.fx b26 (by omega) (nn _ (by decide) (by decide)), zA29.fx b28 (by omega) (nn _ (by decide) (by decide)), zA31.fx b30 (by omega) (nn _ (by decide) (by decide)), zA33.fx b32 (by omega) (nn _ (by decide) (by decide)), zA35.fx b34 (by omega) (nn _ (by decide) (by decide)), zA37.fx b36 (by omega) (nn _ (by decide) (by decide)), zA39.fx b38 (by omega) (nn _ (by decide) (by decide)), zA44.fx b43 (by omega) (nn _ (by decide) (by decide)), zA46.fx b45 (by omega) (nn _ (by decide) (by decide)), zA48.fx b47 (by omega) (nn _ (by decide) (by decide)), zA50.fx b49 (by omega) (nn _ (by decide) (by decide)), zA52.fx b51 (by omega) (nn _ (by decide) (by decide)), zA54.fx b53 (by omega) (nn _ (by decide) (by decide)), zA56.fx b55 (by omega) (nn _ (by decide) (by decide)), zA58.fx b57 (by omega) (nn _ (by decide) (by decide)), zA60.fx b59 (by omega) (nn _ (by decide) (by decide))⟩, ?_, ?_⟩
  · unfold fX9_init
    rw [← hA1, bkc (by rw [kA1]), bpI (by rw [kA1]), ← hA2, bpI (by rw [kA2]), ← hA3, bpI (by rw [kA3]), ← hA4, bpI (by rw [kA4]), ← hA5, bpI (by rw [kA5]), ← hA6, bpI (by rw [kA6]), ← hA7, bpI (by rw [kA7]), ← hA8]
    rw [bnA8]
    dsimp only
    rw [← hA9, tA8, bpR (by rw [kA9]), ← hA10]
    rw [bnA8]
    dsimp only
    rw [← hA11, tA10, bpR (by rw [kA11]), ← hA12]
    rw [bnA8]
    dsimp only
    rw [← hA13, tA12, bpR (by rw [kA13]), ← hA14]
    rw [bnA8]
    dsimp only
    rw [← hA15, tA14, bpR (by rw [kA15]), ← hA16]
    rw [bnA8]
    dsimp only
    rw [← hA17, tA16, bpR (by rw [kA17]), ← hA18]
    rw [bnA8]
    dsimp only
    rw [← hA19, tA18, bpR (by rw [kA19]), ← hA20]
    rw [bnA8]
    dsimp only
    rw [← hA21, tA20, bpR (by rw [kA21]), ← hA22]
    rw [bnA8]
    dsimp only
    rw [← hA23, tA22, bpR (by rw [kA23]), ← hA24]
    rw [bnA24]
    dsimp only
    rw [← hA25, tA24, bpR (by rw [kA25]), ← hA26]
    rw [bnA24]
    dsimp only
    rw [← hA27, tA26, bpR (by rw [kA27]), ← hA28]
    rw [bnA8]
    dsimp only
    rw [← hA29, tA28, bpR (by rw [kA29]), ← hA30]
    rw [bnA8]
    dsimp only
    rw [← hA31, tA30, bpR (by rw [kA31]), ← hA32]
    rw [bnA8]
    dsimp only
    rw [← hA33, tA32, bpR (by rw [kA33]), ← hA34]
    rw [bnA8]
    dsimp only
    rw [← hA35, tA34, bpR (by rw [kA35]), ← hA36]
    rw [bnA1280]
    dsimp only
    rw [← hA37, tA36, bpR (by rw [kA37]), ← hA38]
    rw [bnA160]
    dsimp only
    rw [← hA39, tA38, bpR (by rw [kA39]), ← hA40]
    rw [bnA38]
    dsimp only
    rw [← hA41, tA40]
    have wz : ∀ {β : Type} (f : Mm → Option β), f (wtI A41 0) = f A41 := fun f => rfl
    have q97 : mK A41 97 = (20, 38) := zA41.1
    rw [show tI A41 97 (0 : Int32) (108 : Int32) = tI (wtI A41 0) 97 (0 : Int32) (108 : Int32) from rfl, bt0 q97, bt1 q97, bt2 q97, bt3 q97, bt4 q97, bt5 q97, bt6 q97, bt7 q97, bt8 q97, bt9 q97, bt10 q97, bt11 q97, bt12 q97, bt13 q97, bt14 q97, bt15 q97, bt16 q97, bt17 q97, bt18 q97, bt19 q97, bt20 q97, bt21 q97, bt22 q97, bt23 q97, bt24 q97, bt25 q97, bt26 q97, bt27 q97, bt28 q97, bt29 q97, bt30 q97, bt31 q97, bt32 q97, bt33 q97, bt34 q97, bt35 q97, bt36 q97, bt37 q97, ← hA42, bpR (by rw [kA42]), ← hA43]
    rw [bnA4]
    dsimp only
    rw [← hA44, tA43, bpR (by rw [kA44]), ← hA45]
    rw [bnA80]
    dsimp only
    rw [← hA46, tA45, bpR (by rw [kA46]), ← hA47]
    rw [bnA80]
    dsimp only
    rw [← hA48, tA47, bpR (by rw [kA48]), ← hA49]
    rw [bnA24]
    dsimp only
    rw [← hA50, tA49, bpR (by rw [kA50]), ← hA51]
    rw [bnA24]
    dsimp only
    rw [← hA52, tA51, bpR (by rw [kA52]), ← hA53]
    rw [bnA24]
    dsimp only
    rw [← hA54, tA53, bpR (by rw [kA54]), ← hA55]
    rw [bnA21]
    dsimp only
    rw [← hA56, tA55, bpR (by rw [kA56]), ← hA57]
    rw [bnA21]
    dsimp only
    rw [← hA58, tA57, bpR (by rw [kA58]), ← hA59]
    rw [bnA20]
    dsimp only
    rw [← hA60, tA59, bpR (by rw [kA60]), ← hA61]
  · rw [d41.K (by omega), fA42.K (by omega)]; exact zA41.1
  · intro k hk
    rw [d41.I (by omega) (by decide), hA42]; exact wtI_w _ 38 k hk
  · refine ⟨?_, ?_, ?_, ?_, ?_, ?_, ?_, ?_, ?_, ?_, ?_, ?_, ?_, ?_, ?_, ?_, ?_, ?_, ?_, ?_, ?_, ?_, ?_, ?_, ?_, ?_⟩
    all_goals simp only [RA61, RA60, RA59, RA58, RA57, RA56, RA55, RA54, RA53, RA52, RA51, RA50, RA49, RA48, RA47, RA46, RA45, RA44, RA43, RA42, RA41, RA40, RA39, RA38, RA37, RA36, RA35, RA34, RA33, RA32, RA31, RA30, RA29, RA28, RA27, RA26, RA25, RA24, RA23, RA22, RA21, RA20, RA19, RA18, RA17, RA16, RA15, RA14, RA13, RA12, RA11, RA10, RA9, RA8, RA7, RA6, RA5, RA4, RA3, RA2, Nat.reduceEqDiff, ↓reduceIte]
  · intro k
    simp only [IA61, IA60, IA59, IA58, IA57, IA56, IA55, IA54, IA53, IA52, IA51, IA50, IA49, IA48, IA47, IA46, IA45, IA44, IA43, IA42, IA41, IA40, IA39, IA38, IA37, IA36, IA35, IA34, IA33, IA32, IA31, IA30, IA29, IA28, IA27, IA26, IA25, IA24, IA23, IA22, IA21, IA20, IA19, IA18, IA17, IA16, IA15, IA14, IA13, IA12, IA11, IA10, IA9, IA8, IA7, IA6, IA5, IA4, IA3, IA2]
    rw [zA1.2.1]
