/-! trial -/
def mk0 (K : Nat → Nat × Nat) (I : Nat → Nat → Int32) (J : Nat → Nat → Int64) (R : Nat → Nat → Option Nat) : Mm := (20, 0, K, I, J, R)
def iX (M : Mm) : Option Mm := (nO M 8 10).bind fun q1_ => fX8_init q1_.1 q1_.2
def Kx : List (Nat × Nat) := [(9, 0), (22, 8), (6, 0), (23, 8), (24, 8), (1, 0), (21, 24), (21, 24), (6, 0), (23, 8), (24, 8), (1, 0), (21, 24), (21, 24), (6, 0), (23, 8), (24, 8), (1, 0), (21, 24), (21, 24), (20, 8), (2, 0), (25, 8), (20, 24), (20, 24), (20, 24), (20, 24), (20, 24), (20, 24), (20, 24), (20, 24), (26, 9), (21, 24), (21, 24), (21, 24), (21, 24), (21, 24), (21, 24), (21, 24), (21, 24), (21, 24), (8, 0), (20, 20), (21, 19), (4, 0), (21, 160), (4, 0), (21, 160), (4, 0), (21, 160), (4, 0), (21, 160), (4, 0), (21, 160), (4, 0), (21, 160), (4, 0), (21, 160), (4, 0), (21, 160)]
set_option maxHeartbeats 4000000 in
set_option maxRecDepth 100000 in
theorem t_x8 (K : Nat → Nat × Nat) (I : Nat → Nat → Int32) (J : Nat → Nat → Int64) (R : Nat → Nat → Option Nat) : ((iX (mk0 K I J R)).map fun M1 => (mT M1, mW M1, (List.range 60).map fun o => mK M1 (o + 20))) = some (80, 2245, Kx) := rfl
