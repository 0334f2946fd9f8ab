theorem mdJ_n {a b : Nat} (ha : a < 9223372036854775808) (h0 : 0 < b) (hb : b < 9223372036854775808) : dJ (lN a) (lN b) = some (lN (a / b)) ∧ mdJ (lN a) (lN b) = some (lN (a % b)) := by
  have hne : ¬ lN b = 0 := by
    show ¬ lN b = lN 0
    rw [eq_LL hb (by decide)]
    omega
  have hd : lN a / lN b = lN (a / b) := by
    have hq : a / b ≤ a := Nat.div_le_self _ _
    apply Int64.toInt_inj.mp
    rw [Int64.toInt_div, L_n ha, L_n hb, L_n (by omega)]
    have hz : (a : Int).tdiv (b : Int) = ((a / b : Nat) : Int) := by rw [Int.tdiv_eq_ediv_of_nonneg (by omega)]; exact (Int.natCast_ediv a b).symm
    rw [hz]
    generalize a / b = m at hq
    exact Int.bmod_eq_of_le (by omega) (by omega)
  refine ⟨by unfold dJ; rw [if_neg hne, hd], ?_⟩
  unfold mdJ
  rw [if_neg hne, hd, lN_mul]
  congr 1
  have h1 : a / b * b ≤ a := Nat.div_mul_le_self a b
  have h2 : a % b = a - a / b * b := by have := Nat.div_add_mod a b; rw [Nat.mul_comm] at this; omega
  have h3 : a % b < b := Nat.mod_lt _ h0
  generalize a / b * b = m at h1 h2
  generalize a % b = w at h2 h3
  apply Int64.toInt_inj.mp
  rw [Int64.toInt_sub, L_n ha, L_n (show m < 9223372036854775808 by omega), L_n (show w < 9223372036854775808 by omega), Int.bmod_eq_of_le (by omega) (by omega)]
  omega
