/-! each method as a function over the memory (written by wip/whole/gen.py) -/
theorem rv_cat (x : Option Nat) : (rv x).category = 1 := by cases x <;> rfl
theorem vc_int (x : Int32) : (Value.int x).category = 1 := rfl
theorem vc_long (x : Int64) : (Value.long x).category = 2 := rfl
theorem vc_ref (x : Nat) : (Value.ref x).category = 1 := rfl
theorem vc_null : Value.null.category = 1 := rfl
theorem rv_some (a : Nat) : rv (some a) = .ref a := rfl
def fX0_init (a0 : Nat) (M : Mm) : Option (Mm) :=
  Option.bind (kc M 0 a0) fun _ =>
  Option.bind (nA M 21 ((24 : Int32))) fun q1_ =>
  Option.bind (pR q1_.2 0 a0 0 q1_.1) fun M2_ =>
  Option.bind (nA M2_ 21 ((24 : Int32))) fun q3_ =>
  Option.bind (pR q3_.2 0 a0 1 q3_.1) fun M4_ =>
  some M4_
def fX0_becomeEven_b2  : Nat → Nat → Int32 → Int32 → Mm → Option (Mm)
  | 0, _, _, _, _ => none
  | n + 1, a0, x1, x2, M =>
    if ((24 : Int32)) ≤ x2 then (
      some M
    ) else (
      Option.bind (fR M 0 a0 0) fun o1_ =>
      if x1 ≤ x2 then (
        Option.bind (tJ M o1_ x2 ((0 : Int64))) fun M2_ =>
        (fX0_becomeEven_b2 n) a0 x1 (x2 + (1 : Int32)) M2_
      ) else (
        Option.bind (tJ M o1_ x2 ((1 : Int64))) fun M3_ =>
        (fX0_becomeEven_b2 n) a0 x1 (x2 + (1 : Int32)) M3_
      )
    )
def fX0_becomeEven (a0 : Nat) (x1 : Int32) (M : Mm) : Option (Mm) :=
  Option.bind (kc M 0 a0) fun _ =>
  fX0_becomeEven_b2 FU a0 x1 ((0 : Int32)) M
def fX5_init (a0 : Nat) (M : Mm) : Option (Mm) :=
  Option.bind (kc M 5 a0) fun _ =>
  Option.bind (pI M 5 a0 0 ((12 : Int32))) fun M1_ =>
  Option.bind (pI M1_ 5 a0 1 ((1 : Int32))) fun M2_ =>
  Option.bind (pI M2_ 5 a0 2 ((1 : Int32))) fun M3_ =>
  Option.bind (pI M3_ 5 a0 3 ((0 : Int32))) fun M4_ =>
  Option.bind (pZ M4_ 5 a0 4 ((0 : Int32))) fun M5_ =>
  Option.bind (pI M5_ 5 a0 5 ((5 : Int32))) fun M6_ =>
  Option.bind (nA M6_ 23 ((8 : Int32))) fun q7_ =>
  Option.bind (pR q7_.2 5 a0 6 q7_.1) fun M8_ =>
  Option.bind (pI M8_ 5 a0 7 ((0 : Int32))) fun M9_ =>
  Option.bind (nA M9_ 24 ((8 : Int32))) fun q10_ =>
  Option.bind (pR q10_.2 5 a0 8 q10_.1) fun M11_ =>
  Option.bind (pI M11_ 5 a0 9 ((0 : Int32))) fun M12_ =>
  Option.bind (nO M12_ 0 2) fun q13_ =>
  Option.bind (fX0_init q13_.1 q13_.2) fun M14_ =>
  Option.bind (pR M14_ 5 a0 10 q13_.1) fun M15_ =>
  Option.bind (pI M15_ 5 a0 11 ((0 : Int32))) fun M16_ =>
  Option.bind (pI M16_ 5 a0 12 ((0 : Int32))) fun M17_ =>
  Option.bind (pI M17_ 5 a0 13 ((-1 : Int32))) fun M18_ =>
  Option.bind (pI M18_ 5 a0 14 ((1 : Int32))) fun M19_ =>
  Option.bind (fR M19_ 5 a0 10) fun o20_ =>
  Option.bind (fI M19_ 5 a0 0) fun v21_ =>
  Option.bind (fX0_becomeEven o20_ v21_ M19_) fun M22_ =>
  some M22_
def fX1_init (a0 : Nat) (M : Mm) : Option (Mm) :=
  Option.bind (kc M 1 a0) fun _ =>
  Option.bind (nG M 25 20 ((8 : Int32)) ((24 : Int32))) fun q1_ =>
  Option.bind (pR q1_.2 1 a0 0 q1_.1) fun M2_ =>
  Option.bind (nG M2_ 26 21 ((9 : Int32)) ((24 : Int32))) fun q3_ =>
  Option.bind (pR q3_.2 1 a0 1 q3_.1) fun M4_ =>
  Option.bind (pI M4_ 1 a0 2 ((0 : Int32))) fun M5_ =>
  Option.bind (pI M5_ 1 a0 3 ((0 : Int32))) fun M6_ =>
  some M6_
def fX7_init (a0 : Nat) (M : Mm) : Option (Mm) :=
  Option.bind (kc M 7 a0) fun _ =>
  Option.bind (nA M 20 ((20 : Int32))) fun q1_ =>
  Option.bind (pR q1_.2 7 a0 0 q1_.1) fun M2_ =>
  Option.bind (pI M2_ 7 a0 1 ((0 : Int32))) fun M3_ =>
  some M3_
def fX3_init (a0 : Nat) (M : Mm) : Option (Mm) :=
  Option.bind (kc M 3 a0) fun _ =>
  Option.bind (pI M 3 a0 0 ((-1 : Int32))) fun M1_ =>
  Option.bind (pI M1_ 3 a0 1 ((0 : Int32))) fun M2_ =>
  Option.bind (nA M2_ 21 ((160 : Int32))) fun q3_ =>
  Option.bind (pR q3_.2 3 a0 2 q3_.1) fun M4_ =>
  some M4_
def fX8_init_b96  : Nat → Nat → Int32 → Mm → Option (Mm)
  | 0, _, _, _ => none
  | n + 1, a0, x1, M =>
    if ((8 : Int32)) ≤ x1 then (
      some M
    ) else (
      Option.bind (fR M 8 a0 0) fun o1_ =>
      Option.bind (nO M 3 3) fun q2_ =>
      Option.bind (fX3_init q2_.1 q2_.2) fun M3_ =>
      Option.bind (tR M3_ 22 3 o1_ x1 (some q2_.1)) fun M4_ =>
      (fX8_init_b96 n) a0 (x1 + (1 : Int32)) M4_
    )
def fX8_init (a0 : Nat) (M : Mm) : Option (Mm) :=
  Option.bind (kc M 8 a0) fun _ =>
  Option.bind (nA M 22 ((8 : Int32))) fun q1_ =>
  Option.bind (pR q1_.2 8 a0 0 q1_.1) fun M2_ =>
  Option.bind (nO M2_ 5 15) fun q3_ =>
  Option.bind (fX5_init q3_.1 q3_.2) fun M4_ =>
  Option.bind (pR M4_ 8 a0 1 q3_.1) fun M5_ =>
  Option.bind (nO M5_ 5 15) fun q6_ =>
  Option.bind (fX5_init q6_.1 q6_.2) fun M7_ =>
  Option.bind (pR M7_ 8 a0 2 q6_.1) fun M8_ =>
  Option.bind (nO M8_ 5 15) fun q9_ =>
  Option.bind (fX5_init q9_.1 q9_.2) fun M10_ =>
  Option.bind (pR M10_ 8 a0 3 q9_.1) fun M11_ =>
  Option.bind (pZ M11_ 8 a0 4 ((0 : Int32))) fun M12_ =>
  Option.bind (nA M12_ 20 ((8 : Int32))) fun q13_ =>
  Option.bind (pR q13_.2 8 a0 5 q13_.1) fun M14_ =>
  Option.bind (pI M14_ 8 a0 6 ((-1 : Int32))) fun M15_ =>
  Option.bind (nO M15_ 1 4) fun q16_ =>
  Option.bind (fX1_init q16_.1 q16_.2) fun M17_ =>
  Option.bind (pR M17_ 8 a0 7 q16_.1) fun M18_ =>
  Option.bind (nO M18_ 7 2) fun q19_ =>
  Option.bind (fX7_init q19_.1 q19_.2) fun M20_ =>
  Option.bind (pR M20_ 8 a0 8 q19_.1) fun M21_ =>
  Option.bind (nA M21_ 21 ((19 : Int32))) fun q22_ =>
  Option.bind (pR q22_.2 8 a0 9 q22_.1) fun M23_ =>
  fX8_init_b96 FU a0 ((0 : Int32)) M23_
def fX9_knows_b35 (k2 : Nat → Int32 → Int32 → Mm → Option (Mm)) (a0 : Nat) (x1 : Int32) (x2 : Int32) (s0 : Nat) (s1 : Int32) (M : Mm) : Option (Mm) :=
  Option.bind (tJ M s0 s1 ((1 : Int64))) fun M1_ =>
  k2 a0 x1 (x2 + (1 : Int32)) M1_
def fX9_knows_b2  : Nat → Nat → Int32 → Int32 → Mm → Option (Mm)
  | 0, _, _, _, _ => none
  | n + 1, a0, x1, x2, M =>
    if ((24 : Int32)) ≤ x2 then (
      Option.bind (pI M 9 a0 8 ((0 : Int32))) fun M1_ =>
      Option.bind (pI M1_ 9 a0 9 ((0 : Int32))) fun M2_ =>
      some M2_
    ) else (
      Option.bind (fR M 9 a0 21) fun o3_ =>
      Option.bind (fI M 9 a0 0) fun v4_ =>
      if x2 < v4_ then (
        if x1 = ((-1 : Int32)) then (
          fX9_knows_b35 (fX9_knows_b2 n) a0 x1 x2 o3_ x2 M
        ) else (
          if x1 = x2 then (
            fX9_knows_b35 (fX9_knows_b2 n) a0 x1 x2 o3_ x2 M
          ) else (
            Option.bind (tJ M o3_ x2 ((0 : Int64))) fun M5_ =>
            (fX9_knows_b2 n) a0 x1 (x2 + (1 : Int32)) M5_
          )
        )
      ) else (
        Option.bind (tJ M o3_ x2 ((0 : Int64))) fun M6_ =>
        (fX9_knows_b2 n) a0 x1 (x2 + (1 : Int32)) M6_
      )
    )
def fX9_knows (a0 : Nat) (x1 : Int32) (M : Mm) : Option (Mm) :=
  Option.bind (kc M 9 a0) fun _ =>
  fX9_knows_b2 FU a0 x1 ((0 : Int32)) M
def fX9_init (a0 : Nat) (M : Mm) : Option (Mm) :=
  Option.bind (kc M 9 a0) fun _ =>
  Option.bind (pI M 9 a0 0 ((12 : Int32))) fun M1_ =>
  Option.bind (pI M1_ 9 a0 1 ((1 : Int32))) fun M2_ =>
  Option.bind (pI M2_ 9 a0 2 ((1 : Int32))) fun M3_ =>
  Option.bind (pI M3_ 9 a0 5 ((5 : Int32))) fun M4_ =>
  Option.bind (pI M4_ 9 a0 10 ((-1 : Int32))) fun M5_ =>
  Option.bind (pI M5_ 9 a0 11 ((1 : Int32))) fun M6_ =>
  Option.bind (pI M6_ 9 a0 12 ((-1 : Int32))) fun M7_ =>
  Option.bind (nA M7_ 20 ((8 : Int32))) fun q8_ =>
  Option.bind (pR q8_.2 9 a0 13 q8_.1) fun M9_ =>
  Option.bind (nA M9_ 20 ((8 : Int32))) fun q10_ =>
  Option.bind (pR q10_.2 9 a0 14 q10_.1) fun M11_ =>
  Option.bind (nA M11_ 20 ((8 : Int32))) fun q12_ =>
  Option.bind (pR q12_.2 9 a0 15 q12_.1) fun M13_ =>
  Option.bind (nA M13_ 20 ((8 : Int32))) fun q14_ =>
  Option.bind (pR q14_.2 9 a0 16 q14_.1) fun M15_ =>
  Option.bind (nA M15_ 20 ((8 : Int32))) fun q16_ =>
  Option.bind (pR q16_.2 9 a0 17 q16_.1) fun M17_ =>
  Option.bind (nA M17_ 20 ((8 : Int32))) fun q18_ =>
  Option.bind (pR q18_.2 9 a0 18 q18_.1) fun M19_ =>
  Option.bind (nA M19_ 20 ((8 : Int32))) fun q20_ =>
  Option.bind (pR q20_.2 9 a0 19 q20_.1) fun M21_ =>
  Option.bind (nA M21_ 20 ((8 : Int32))) fun q22_ =>
  Option.bind (pR q22_.2 9 a0 20 q22_.1) fun M23_ =>
  Option.bind (nA M23_ 21 ((24 : Int32))) fun q24_ =>
  Option.bind (pR q24_.2 9 a0 21 q24_.1) fun M25_ =>
  Option.bind (nA M25_ 21 ((24 : Int32))) fun q26_ =>
  Option.bind (pR q26_.2 9 a0 22 q26_.1) fun M27_ =>
  Option.bind (nA M27_ 20 ((8 : Int32))) fun q28_ =>
  Option.bind (pR q28_.2 9 a0 23 q28_.1) fun M29_ =>
  Option.bind (nA M29_ 20 ((8 : Int32))) fun q30_ =>
  Option.bind (pR q30_.2 9 a0 24 q30_.1) fun M31_ =>
  Option.bind (nA M31_ 20 ((8 : Int32))) fun q32_ =>
  Option.bind (pR q32_.2 9 a0 25 q32_.1) fun M33_ =>
  Option.bind (nA M33_ 20 ((8 : Int32))) fun q34_ =>
  Option.bind (pR q34_.2 9 a0 26 q34_.1) fun M35_ =>
  Option.bind (nA M35_ 21 ((1280 : Int32))) fun q36_ =>
  Option.bind (pR q36_.2 9 a0 27 q36_.1) fun M37_ =>
  Option.bind (nA M37_ 21 ((160 : Int32))) fun q38_ =>
  Option.bind (pR q38_.2 9 a0 28 q38_.1) fun M39_ =>
  Option.bind (nA M39_ 20 ((38 : Int32))) fun q40_ =>
  Option.bind (tI q40_.2 q40_.1 ((0 : Int32)) ((108 : Int32))) fun M41_ =>
  Option.bind (tI M41_ q40_.1 ((1 : Int32)) ((111 : Int32))) fun M42_ =>
  Option.bind (tI M42_ q40_.1 ((2 : Int32)) ((110 : Int32))) fun M43_ =>
  Option.bind (tI M43_ q40_.1 ((3 : Int32)) ((103 : Int32))) fun M44_ =>
  Option.bind (tI M44_ q40_.1 ((4 : Int32)) ((32 : Int32))) fun M45_ =>
  Option.bind (tI M45_ q40_.1 ((5 : Int32)) ((0 : Int32))) fun M46_ =>
  Option.bind (tI M46_ q40_.1 ((6 : Int32)) ((115 : Int32))) fun M47_ =>
  Option.bind (tI M47_ q40_.1 ((7 : Int32)) ((105 : Int32))) fun M48_ =>
  Option.bind (tI M48_ q40_.1 ((8 : Int32)) ((103 : Int32))) fun M49_ =>
  Option.bind (tI M49_ q40_.1 ((9 : Int32)) ((110 : Int32))) fun M50_ =>
  Option.bind (tI M50_ q40_.1 ((10 : Int32)) ((32 : Int32))) fun M51_ =>
  Option.bind (tI M51_ q40_.1 ((11 : Int32)) ((0 : Int32))) fun M52_ =>
  Option.bind (tI M52_ q40_.1 ((12 : Int32)) ((116 : Int32))) fun M53_ =>
  Option.bind (tI M53_ q40_.1 ((13 : Int32)) ((104 : Int32))) fun M54_ =>
  Option.bind (tI M54_ q40_.1 ((14 : Int32)) ((105 : Int32))) fun M55_ =>
  Option.bind (tI M55_ q40_.1 ((15 : Int32)) ((110 : Int32))) fun M56_ =>
  Option.bind (tI M56_ q40_.1 ((16 : Int32)) ((103 : Int32))) fun M57_ =>
  Option.bind (tI M57_ q40_.1 ((17 : Int32)) ((32 : Int32))) fun M58_ =>
  Option.bind (tI M58_ q40_.1 ((18 : Int32)) ((0 : Int32))) fun M59_ =>
  Option.bind (tI M59_ q40_.1 ((19 : Int32)) ((119 : Int32))) fun M60_ =>
  Option.bind (tI M60_ q40_.1 ((20 : Int32)) ((97 : Int32))) fun M61_ =>
  Option.bind (tI M61_ q40_.1 ((21 : Int32)) ((110 : Int32))) fun M62_ =>
  Option.bind (tI M62_ q40_.1 ((22 : Int32)) ((100 : Int32))) fun M63_ =>
  Option.bind (tI M63_ q40_.1 ((23 : Int32)) ((101 : Int32))) fun M64_ =>
  Option.bind (tI M64_ q40_.1 ((24 : Int32)) ((114 : Int32))) fun M65_ =>
  Option.bind (tI M65_ q40_.1 ((25 : Int32)) ((32 : Int32))) fun M66_ =>
  Option.bind (tI M66_ q40_.1 ((26 : Int32)) ((0 : Int32))) fun M67_ =>
  Option.bind (tI M67_ q40_.1 ((27 : Int32)) ((97 : Int32))) fun M68_ =>
  Option.bind (tI M68_ q40_.1 ((28 : Int32)) ((114 : Int32))) fun M69_ =>
  Option.bind (tI M69_ q40_.1 ((29 : Int32)) ((99 : Int32))) fun M70_ =>
  Option.bind (tI M70_ q40_.1 ((30 : Int32)) ((32 : Int32))) fun M71_ =>
  Option.bind (tI M71_ q40_.1 ((31 : Int32)) ((0 : Int32))) fun M72_ =>
  Option.bind (tI M72_ q40_.1 ((32 : Int32)) ((104 : Int32))) fun M73_ =>
  Option.bind (tI M73_ q40_.1 ((33 : Int32)) ((111 : Int32))) fun M74_ =>
  Option.bind (tI M74_ q40_.1 ((34 : Int32)) ((117 : Int32))) fun M75_ =>
  Option.bind (tI M75_ q40_.1 ((35 : Int32)) ((114 : Int32))) fun M76_ =>
  Option.bind (tI M76_ q40_.1 ((36 : Int32)) ((32 : Int32))) fun M77_ =>
  Option.bind (tI M77_ q40_.1 ((37 : Int32)) ((0 : Int32))) fun M78_ =>
  Option.bind (pR M78_ 9 a0 30 q40_.1) fun M79_ =>
  Option.bind (nA M79_ 20 ((4 : Int32))) fun q80_ =>
  Option.bind (pR q80_.2 9 a0 31 q80_.1) fun M81_ =>
  Option.bind (nA M81_ 20 ((80 : Int32))) fun q82_ =>
  Option.bind (pR q82_.2 9 a0 37 q82_.1) fun M83_ =>
  Option.bind (nA M83_ 20 ((80 : Int32))) fun q84_ =>
  Option.bind (pR q84_.2 9 a0 38 q84_.1) fun M85_ =>
  Option.bind (nA M85_ 21 ((24 : Int32))) fun q86_ =>
  Option.bind (pR q86_.2 9 a0 39 q86_.1) fun M87_ =>
  Option.bind (nA M87_ 21 ((24 : Int32))) fun q88_ =>
  Option.bind (pR q88_.2 9 a0 40 q88_.1) fun M89_ =>
  Option.bind (nA M89_ 21 ((24 : Int32))) fun q90_ =>
  Option.bind (pR q90_.2 9 a0 41 q90_.1) fun M91_ =>
  Option.bind (nA M91_ 20 ((21 : Int32))) fun q92_ =>
  Option.bind (pR q92_.2 9 a0 44 q92_.1) fun M93_ =>
  Option.bind (nA M93_ 20 ((21 : Int32))) fun q94_ =>
  Option.bind (pR q94_.2 9 a0 45 q94_.1) fun M95_ =>
  Option.bind (nA M95_ 20 ((20 : Int32))) fun q96_ =>
  Option.bind (pR q96_.2 9 a0 46 q96_.1) fun M97_ =>
  Option.bind (fX9_knows a0 ((-1 : Int32)) M97_) fun M98_ =>
  some M98_
def fX8_shelfAt (a0 : Nat) (x1 : Int32) (M : Mm) : Option (Option Nat × Mm) :=
  Option.bind (kc M 8 a0) fun _ =>
  if x1 < 0 then (
    some (none, M)
  ) else (
    if x1 < ((8 : Int32)) then (
      Option.bind (fR M 8 a0 0) fun o1_ =>
      Option.bind (aR M 22 o1_ x1) fun n2_ =>
      some (n2_, M)
    ) else (
      some (none, M)
    )
  )
def fX8_refused (a0 : Nat) (x1 : Int32) (M : Mm) : Option (Int32 × Mm) :=
  Option.bind (kc M 8 a0) fun _ =>
  if (-x1) ≤ 0 then (
    some (x1, M)
  ) else (
    Option.bind (fR M 8 a0 5) fun o1_ =>
    Option.bind (aL M o1_) fun v2_ =>
    if v2_ ≤ (-x1) then (
      some (x1, M)
    ) else (
      Option.bind (fR M 8 a0 5) fun o3_ =>
      Option.bind (aI M o3_ (-x1)) fun v4_ =>
      Option.bind (tI M o3_ (-x1) (v4_ + ((1 : Int32)))) fun M5_ =>
      some (x1, M5_)
    )
  )
def fJ7_fill_d0a16_b6  : Nat → Nat → Int64 → Int32 → Int32 → Mm → Option (Mm)
  | 0, _, _, _, _, _ => none
  | n + 1, a0, x1, x3, x4, M =>
    if x4 ≤ x3 then (
      some M
    ) else (
      Option.bind (tJ M a0 x3 x1) fun M1_ =>
      (fJ7_fill_d0a16_b6 n) a0 x1 (x3 + (1 : Int32)) x4 M1_
    )
def fJ7_fill_d0a16 (a0 : Nat) (x1 : Int64) (M : Mm) : Option (Mm) :=
  Option.bind (aL M a0) fun v1_ =>
  fJ7_fill_d0a16_b6 FU a0 x1 ((0 : Int32)) v1_ M
def fX3_takeRow (a0 : Nat) (x1 : Int32) (x2 : Int32) (M : Mm) : Option (Mm) :=
  Option.bind (kc M 3 a0) fun _ =>
  Option.bind (pI M 3 a0 0 (((100 : Int32)) + x1)) fun M1_ =>
  Option.bind (pI M1_ 3 a0 1 x2) fun M2_ =>
  Option.bind (fR M2_ 3 a0 2) fun o3_ =>
  Option.bind (fJ7_fill_d0a16 o3_ ((0 : Int64)) M2_) fun M4_ =>
  some M4_
def fX8_row (a0 : Nat) (x1 : Int32) (x2 : Int32) (x3 : Int32) (M : Mm) : Option (Int32 × Mm) :=
  Option.bind (kc M 8 a0) fun _ =>
  Option.bind (fX8_shelfAt a0 x1 M) fun q1_ =>
  Option.bind (some q1_.1) fun n2_ =>
  Option.elim n2_ (
    Option.bind (fX8_refused a0 ((-1 : Int32)) q1_.2) fun q4_ =>
    some (q4_.1, q4_.2)
  ) (fun o3_ =>
    if 0 ≤ x3 then (
      if x2 < 0 then (
        Option.bind (fX8_refused a0 ((-6 : Int32)) q1_.2) fun q5_ =>
        some (q5_.1, q5_.2)
      ) else (
        if x2 < ((4 : Int32)) then (
          if x3 ≤ ((160 : Int32)) then (
            Option.bind (fX3_takeRow o3_ x2 x3 q1_.2) fun M6_ =>
            some ((1 : Int32), M6_)
          ) else (
            Option.bind (fX8_refused a0 ((-7 : Int32)) q1_.2) fun q7_ =>
            some (q7_.1, q7_.2)
          )
        ) else (
          Option.bind (fX8_refused a0 ((-6 : Int32)) q1_.2) fun q8_ =>
          some (q8_.1, q8_.2)
        )
      )
    ) else (
      Option.bind (fX8_refused a0 ((-4 : Int32)) q1_.2) fun q9_ =>
      some (q9_.1, q9_.2)
    )
  )
def fX9_isShelf (a0 : Nat) (x1 : Int32) (M : Mm) : Option (Int32 × Mm) :=
  Option.bind (kc M 9 a0) fun _ =>
  if x1 < 0 then (
    some ((0 : Int32), M)
  ) else (
    if ((8 : Int32)) ≤ x1 then (
      some ((0 : Int32), M)
    ) else (
      some ((1 : Int32), M)
    )
  )
def fX9_no (a0 : Nat) (x1 : Int32) (M : Mm) : Option (Int32 × Mm) :=
  Option.bind (kc M 9 a0) fun _ =>
  Option.bind (fR M 9 a0 13) fun o1_ =>
  Option.bind (aI M o1_ (-x1)) fun v2_ =>
  Option.bind (tI M o1_ (-x1) (v2_ + ((1 : Int32)))) fun M3_ =>
  some (x1, M3_)
def fX9_row_b79  : Nat → Nat → Int32 → Int32 → Mm → Option (Int32 × Mm)
  | 0, _, _, _, _ => none
  | n + 1, a0, x1, x4, M =>
    if ((160 : Int32)) ≤ x4 then (
      some ((1 : Int32), M)
    ) else (
      Option.bind (fR M 9 a0 27) fun o1_ =>
      Option.bind (tJ M o1_ ((((160 : Int32)) * x1) + x4) ((0 : Int64))) fun M2_ =>
      (fX9_row_b79 n) a0 x1 (x4 + (1 : Int32)) M2_
    )
def fX9_row (a0 : Nat) (x1 : Int32) (x2 : Int32) (x3 : Int32) (M : Mm) : Option (Int32 × Mm) :=
  Option.bind (kc M 9 a0) fun _ =>
  Option.bind (fX9_isShelf a0 x1 M) fun q1_ =>
  if q1_.1 = 0 then (
    Option.bind (fX9_no a0 ((-1 : Int32)) q1_.2) fun q12_ =>
    some (q12_.1, q12_.2)
  ) else (
    if 0 ≤ x3 then (
      if x2 < 0 then (
        Option.bind (fX9_no a0 ((-6 : Int32)) q1_.2) fun q2_ =>
        some (q2_.1, q2_.2)
      ) else (
        if x2 ≤ ((3 : Int32)) then (
          if x3 ≤ ((160 : Int32)) then (
            Option.bind (fR q1_.2 9 a0 23) fun o3_ =>
            Option.bind (tI q1_.2 o3_ x1 ((1 : Int32))) fun M4_ =>
            Option.bind (fR M4_ 9 a0 24) fun o5_ =>
            Option.bind (tI M4_ o5_ x1 x2) fun M6_ =>
            Option.bind (fR M6_ 9 a0 25) fun o7_ =>
            Option.bind (tI M6_ o7_ x1 x3) fun M8_ =>
            fX9_row_b79 FU a0 x1 ((0 : Int32)) M8_
          ) else (
            Option.bind (fX9_no a0 ((-7 : Int32)) q1_.2) fun q9_ =>
            some (q9_.1, q9_.2)
          )
        ) else (
          Option.bind (fX9_no a0 ((-6 : Int32)) q1_.2) fun q10_ =>
          some (q10_.1, q10_.2)
        )
      )
    ) else (
      Option.bind (fX9_no a0 ((-4 : Int32)) q1_.2) fun q11_ =>
      some (q11_.1, q11_.2)
    )
  )
def fX3_holdsRow (a0 : Nat) (M : Mm) : Option (Int32 × Mm) :=
  Option.bind (kc M 3 a0) fun _ =>
  Option.bind (fI M 3 a0 0) fun v1_ =>
  if v1_ < ((100 : Int32)) then (
    some ((0 : Int32), M)
  ) else (
    some ((1 : Int32), M)
  )
def fX8_rowTrouble (a0 : Option Nat) (M : Mm) : Option (Int32 × Mm) :=
  Option.elim a0 (
    some ((-1 : Int32), M)
  ) (fun o1_ =>
    Option.bind (fX3_holdsRow o1_ M) fun q2_ =>
    if q2_.1 = 0 then (
      Option.bind (fI q2_.2 3 o1_ 0) fun v3_ =>
      if v3_ = ((-1 : Int32)) then (
        some ((-3 : Int32), q2_.2)
      ) else (
        some ((-2 : Int32), q2_.2)
      )
    ) else (
      some ((0 : Int32), q2_.2)
    )
  )
def fX3_hasRun (a0 : Nat) (x1 : Int32) (x2 : Int32) (M : Mm) : Option (Int32 × Mm) :=
  Option.bind (kc M 3 a0) fun _ =>
  if x2 < 0 then (
    some ((0 : Int32), M)
  ) else (
    Option.bind (fI M 3 a0 1) fun v1_ =>
    if v1_ < x2 then (
      some ((0 : Int32), M)
    ) else (
      if x1 < 0 then (
        some ((0 : Int32), M)
      ) else (
        Option.bind (fI M 3 a0 1) fun v2_ =>
        if (v2_ - x2) < x1 then (
          some ((0 : Int32), M)
        ) else (
          some ((1 : Int32), M)
        )
      )
    )
  )
def fX3_lowestBits (a0 : Nat) (x1 : Int64) (M : Mm) : Option (Int64 × Mm) :=
  Option.bind (kc M 3 a0) fun _ =>
  Option.bind (fI M 3 a0 0) fun v1_ =>
  if (v1_ - ((100 : Int32))) = (0 : Int32) then (
    some (x1.toInt32.toInt8.toInt32.toInt64, M)
  ) else
  if (v1_ - ((100 : Int32))) = (1 : Int32) then (
    some (x1.toInt32.toInt16.toInt32.toInt64, M)
  ) else
  if (v1_ - ((100 : Int32))) = (2 : Int32) then (
    some (x1.toInt32.toInt64, M)
  ) else
  some (x1, M)
def fX3_put (a0 : Nat) (x1 : Int32) (x2 : Int64) (M : Mm) : Option (Mm) :=
  Option.bind (kc M 3 a0) fun _ =>
  if x1 < 0 then (
    some M
  ) else (
    if ((160 : Int32)) ≤ x1 then (
      some M
    ) else (
      Option.bind (fR M 3 a0 2) fun o1_ =>
      Option.bind (fX3_lowestBits a0 x2 M) fun q2_ =>
      Option.bind (tJ q2_.2 o1_ x1 q2_.1) fun M3_ =>
      some M3_
    )
  )
def fX8_set (a0 : Nat) (x1 : Int32) (x2 : Int32) (x3 : Int64) (M : Mm) : Option (Int32 × Mm) :=
  Option.bind (kc M 8 a0) fun _ =>
  Option.bind (fX8_shelfAt a0 x1 M) fun q1_ =>
  Option.bind (some q1_.1) fun n2_ =>
  Option.bind (fX8_rowTrouble n2_ q1_.2) fun q3_ =>
  Option.elim n2_ (
    Option.bind (fX8_refused a0 q3_.1 q3_.2) fun q5_ =>
    some (q5_.1, q5_.2)
  ) (fun o4_ =>
    if q3_.1 = 0 then (
      Option.bind (fX3_hasRun o4_ x2 ((1 : Int32)) q3_.2) fun q6_ =>
      if q6_.1 = 0 then (
        Option.bind (fX8_refused a0 ((-5 : Int32)) q6_.2) fun q8_ =>
        some (q8_.1, q8_.2)
      ) else (
        Option.bind (fX3_put o4_ x2 x3 q6_.2) fun M7_ =>
        some ((1 : Int32), M7_)
      )
    ) else (
      Option.bind (fX8_refused a0 q3_.1 q3_.2) fun q9_ =>
      some (q9_.1, q9_.2)
    )
  )
def fX9_set (a0 : Nat) (x1 : Int32) (x2 : Int32) (x3 : Int64) (M : Mm) : Option (Int32 × Mm) :=
  Option.bind (kc M 9 a0) fun _ =>
  Option.bind (fX9_isShelf a0 x1 M) fun q1_ =>
  if q1_.1 = 0 then (
    Option.bind (fX9_no a0 ((-1 : Int32)) q1_.2) fun q23_ =>
    some (q23_.1, q23_.2)
  ) else (
    Option.bind (fR q1_.2 9 a0 23) fun o2_ =>
    Option.bind (aI q1_.2 o2_ x1) fun v3_ =>
    if v3_ = ((2 : Int32)) then (
      Option.bind (fX9_no a0 ((-2 : Int32)) q1_.2) fun q22_ =>
      some (q22_.1, q22_.2)
    ) else (
      Option.bind (fR q1_.2 9 a0 23) fun o4_ =>
      Option.bind (aI q1_.2 o4_ x1) fun v5_ =>
      if v5_ = 0 then (
        Option.bind (fX9_no a0 ((-3 : Int32)) q1_.2) fun q21_ =>
        some (q21_.1, q21_.2)
      ) else (
        if x2 < 0 then (
          Option.bind (fX9_no a0 ((-5 : Int32)) q1_.2) fun q6_ =>
          some (q6_.1, q6_.2)
        ) else (
          Option.bind (fR q1_.2 9 a0 25) fun o7_ =>
          Option.bind (aI q1_.2 o7_ x1) fun v8_ =>
          if x2 < v8_ then (
            Option.bind (fR q1_.2 9 a0 27) fun o9_ =>
            Option.bind (fR q1_.2 9 a0 24) fun o10_ =>
            Option.bind (aI q1_.2 o10_ x1) fun v11_ =>
            if v11_ = 0 then (
              Option.bind (tJ q1_.2 o9_ ((((160 : Int32)) * x1) + x2) x3.toInt32.toInt8.toInt32.toInt64) fun M19_ =>
              some ((1 : Int32), M19_)
            ) else (
              Option.bind (fR q1_.2 9 a0 24) fun o12_ =>
              Option.bind (aI q1_.2 o12_ x1) fun v13_ =>
              if v13_ = ((1 : Int32)) then (
                Option.bind (tJ q1_.2 o9_ ((((160 : Int32)) * x1) + x2) x3.toInt32.toInt16.toInt32.toInt64) fun M18_ =>
                some ((1 : Int32), M18_)
              ) else (
                Option.bind (fR q1_.2 9 a0 24) fun o14_ =>
                Option.bind (aI q1_.2 o14_ x1) fun v15_ =>
                if v15_ = ((2 : Int32)) then (
                  Option.bind (tJ q1_.2 o9_ ((((160 : Int32)) * x1) + x2) x3.toInt32.toInt64) fun M17_ =>
                  some ((1 : Int32), M17_)
                ) else (
                  Option.bind (tJ q1_.2 o9_ ((((160 : Int32)) * x1) + x2) x3) fun M16_ =>
                  some ((1 : Int32), M16_)
                )
              )
            )
          ) else (
            Option.bind (fX9_no a0 ((-5 : Int32)) q1_.2) fun q20_ =>
            some (q20_.1, q20_.2)
          )
        )
      )
    )
  )
def fX8_pairTrouble (a0 : Option Nat) (a1 : Option Nat) (M : Mm) : Option (Int32 × Mm) :=
  Option.elim a0 (
    some ((-1 : Int32), M)
  ) (fun o1_ =>
    Option.elim a1 (
      some ((-1 : Int32), M)
    ) (fun o2_ =>
      Option.bind (fX8_rowTrouble (some o1_) M) fun q3_ =>
      Option.bind (fX8_rowTrouble (some o2_) q3_.2) fun q4_ =>
      if q3_.1 = ((-2 : Int32)) then (
        some ((-2 : Int32), q4_.2)
      ) else (
        if q4_.1 = ((-2 : Int32)) then (
          some ((-2 : Int32), q4_.2)
        ) else (
          if q3_.1 = ((-3 : Int32)) then (
            some ((-3 : Int32), q4_.2)
          ) else (
            if q4_.1 = ((-3 : Int32)) then (
              some ((-3 : Int32), q4_.2)
            ) else (
              Option.bind (fI q4_.2 3 o1_ 0) fun v5_ =>
              Option.bind (fI q4_.2 3 o2_ 0) fun v6_ =>
              if v5_ = v6_ then (
                some ((0 : Int32), q4_.2)
              ) else (
                some ((-2 : Int32), q4_.2)
              )
            )
          )
        )
      )
    )
  )
def fX8_copy (a0 : Nat) (x1 : Int32) (x2 : Int32) (x3 : Int32) (x4 : Int32) (x5 : Int32) (M : Mm) : Option (Int32 × Mm) :=
  Option.bind (kc M 8 a0) fun _ =>
  Option.bind (fX8_shelfAt a0 x1 M) fun q1_ =>
  Option.bind (some q1_.1) fun n2_ =>
  Option.bind (fX8_shelfAt a0 x2 q1_.2) fun q3_ =>
  Option.bind (some q3_.1) fun n4_ =>
  Option.bind (fX8_pairTrouble n2_ n4_ q3_.2) fun q5_ =>
  Option.elim n2_ (
    Option.bind (fX8_refused a0 q5_.1 q5_.2) fun q7_ =>
    some (q7_.1, q7_.2)
  ) (fun o6_ =>
    Option.elim n4_ (
      Option.bind (fX8_refused a0 q5_.1 q5_.2) fun q9_ =>
      some (q9_.1, q9_.2)
    ) (fun o8_ =>
      if q5_.1 = 0 then (
        if 0 ≤ x5 then (
          Option.bind (fX3_hasRun o6_ x3 x5 q5_.2) fun q10_ =>
          if q10_.1 = 0 then (
            Option.bind (fX8_refused a0 ((-5 : Int32)) q10_.2) fun q11_ =>
            some (q11_.1, q11_.2)
          ) else (
            Option.bind (fX3_hasRun o8_ x4 x5 q10_.2) fun q12_ =>
            if q12_.1 = 0 then (
              Option.bind (fX8_refused a0 ((-5 : Int32)) q12_.2) fun q16_ =>
              some (q16_.1, q16_.2)
            ) else (
              Option.bind (fR q12_.2 3 o6_ 2) fun o13_ =>
              Option.bind (fR q12_.2 3 o8_ 2) fun o14_ =>
              Option.bind (cJ q12_.2 o13_ x3 o14_ x4 x5) fun M15_ =>
              some ((1 : Int32), M15_)
            )
          )
        ) else (
          Option.bind (fX8_refused a0 ((-4 : Int32)) q5_.2) fun q17_ =>
          some (q17_.1, q17_.2)
        )
      ) else (
        Option.bind (fX8_refused a0 q5_.1 q5_.2) fun q18_ =>
        some (q18_.1, q18_.2)
      )
    )
  )
def fX9_copy_b205  : Nat → Nat → Int32 → Int32 → Int32 → Int32 → Mm → Option (Int32 × Mm)
  | 0, _, _, _, _, _, _ => none
  | n + 1, a0, x2, x4, x5, x6, M =>
    if x5 ≤ x6 then (
      some ((1 : Int32), M)
    ) else (
      Option.bind (fR M 9 a0 27) fun o1_ =>
      Option.bind (fR M 9 a0 28) fun o2_ =>
      Option.bind (aJ M o2_ x6) fun v3_ =>
      Option.bind (tJ M o1_ (((((160 : Int32)) * x2) + x4) + x6) v3_) fun M4_ =>
      (fX9_copy_b205 n) a0 x2 x4 x5 (x6 + (1 : Int32)) M4_
    )
def fX9_copy_b167  : Nat → Nat → Int32 → Int32 → Int32 → Int32 → Int32 → Int32 → Mm → Option (Int32 × Mm)
  | 0, _, _, _, _, _, _, _, _ => none
  | n + 1, a0, x1, x2, x3, x4, x5, x6, M =>
    if x5 ≤ x6 then (
      fX9_copy_b205 FU a0 x2 x4 x5 ((0 : Int32)) M
    ) else (
      Option.bind (fR M 9 a0 28) fun o1_ =>
      Option.bind (fR M 9 a0 27) fun o2_ =>
      Option.bind (aJ M o2_ (((((160 : Int32)) * x1) + x3) + x6)) fun v3_ =>
      Option.bind (tJ M o1_ x6 v3_) fun M4_ =>
      (fX9_copy_b167 n) a0 x1 x2 x3 x4 x5 (x6 + (1 : Int32)) M4_
    )
def fX9_copy_b84  (a0 : Nat) (x1 : Int32) (x2 : Int32) (x3 : Int32) (x4 : Int32) (x5 : Int32) (M : Mm) : Option (Int32 × Mm) :=
  Option.bind (fR M 9 a0 23) fun o1_ =>
  Option.bind (aI M o1_ x1) fun v2_ =>
  if v2_ = 0 then (
    Option.bind (fX9_no a0 ((-3 : Int32)) M) fun q3_ =>
    some (q3_.1, q3_.2)
  ) else (
    Option.bind (fR M 9 a0 23) fun o4_ =>
    Option.bind (aI M o4_ x2) fun v5_ =>
    if v5_ = 0 then (
      Option.bind (fX9_no a0 ((-3 : Int32)) M) fun q15_ =>
      some (q15_.1, q15_.2)
    ) else (
      if 0 ≤ x5 then (
        if x3 < 0 then (
          Option.bind (fX9_no a0 ((-5 : Int32)) M) fun q6_ =>
          some (q6_.1, q6_.2)
        ) else (
          if x4 < 0 then (
            Option.bind (fX9_no a0 ((-5 : Int32)) M) fun q7_ =>
            some (q7_.1, q7_.2)
          ) else (
            Option.bind (fR M 9 a0 25) fun o8_ =>
            Option.bind (aI M o8_ x1) fun v9_ =>
            if (v9_ - x5) < x3 then (
              Option.bind (fX9_no a0 ((-5 : Int32)) M) fun q10_ =>
              some (q10_.1, q10_.2)
            ) else (
              Option.bind (fR M 9 a0 25) fun o11_ =>
              Option.bind (aI M o11_ x2) fun v12_ =>
              if x4 ≤ (v12_ - x5) then (
                fX9_copy_b167 FU a0 x1 x2 x3 x4 x5 ((0 : Int32)) M
              ) else (
                Option.bind (fX9_no a0 ((-5 : Int32)) M) fun q13_ =>
                some (q13_.1, q13_.2)
              )
            )
          )
        )
      ) else (
        Option.bind (fX9_no a0 ((-4 : Int32)) M) fun q14_ =>
        some (q14_.1, q14_.2)
      )
    )
  )
def fX9_copy (a0 : Nat) (x1 : Int32) (x2 : Int32) (x3 : Int32) (x4 : Int32) (x5 : Int32) (M : Mm) : Option (Int32 × Mm) :=
  Option.bind (kc M 9 a0) fun _ =>
  Option.bind (fX9_isShelf a0 x1 M) fun q1_ =>
  if q1_.1 = 0 then (
    Option.bind (fX9_no a0 ((-1 : Int32)) q1_.2) fun q2_ =>
    some (q2_.1, q2_.2)
  ) else (
    Option.bind (fX9_isShelf a0 x2 q1_.2) fun q3_ =>
    if q3_.1 = 0 then (
      Option.bind (fX9_no a0 ((-1 : Int32)) q3_.2) fun q19_ =>
      some (q19_.1, q19_.2)
    ) else (
      Option.bind (fR q3_.2 9 a0 23) fun o4_ =>
      Option.bind (aI q3_.2 o4_ x1) fun v5_ =>
      if v5_ = ((2 : Int32)) then (
        Option.bind (fX9_no a0 ((-2 : Int32)) q3_.2) fun q6_ =>
        some (q6_.1, q6_.2)
      ) else (
        Option.bind (fR q3_.2 9 a0 23) fun o7_ =>
        Option.bind (aI q3_.2 o7_ x2) fun v8_ =>
        if v8_ = ((2 : Int32)) then (
          Option.bind (fX9_no a0 ((-2 : Int32)) q3_.2) fun q9_ =>
          some (q9_.1, q9_.2)
        ) else (
          Option.bind (fR q3_.2 9 a0 23) fun o10_ =>
          Option.bind (aI q3_.2 o10_ x1) fun v11_ =>
          if v11_ = ((1 : Int32)) then (
            Option.bind (fR q3_.2 9 a0 23) fun o12_ =>
            Option.bind (aI q3_.2 o12_ x2) fun v13_ =>
            if v13_ = ((1 : Int32)) then (
              Option.bind (fR q3_.2 9 a0 24) fun o14_ =>
              Option.bind (aI q3_.2 o14_ x1) fun v15_ =>
              Option.bind (fR q3_.2 9 a0 24) fun o16_ =>
              Option.bind (aI q3_.2 o16_ x2) fun v17_ =>
              if v15_ = v17_ then (
                fX9_copy_b84 a0 x1 x2 x3 x4 x5 q3_.2
              ) else (
                Option.bind (fX9_no a0 ((-2 : Int32)) q3_.2) fun q18_ =>
                some (q18_.1, q18_.2)
              )
            ) else (
              fX9_copy_b84 a0 x1 x2 x3 x4 x5 q3_.2
            )
          ) else (
            fX9_copy_b84 a0 x1 x2 x3 x4 x5 q3_.2
          )
        )
      )
    )
  )
def fX3_valueAt (a0 : Nat) (x1 : Int32) (M : Mm) : Option (Int64 × Mm) :=
  Option.bind (kc M 3 a0) fun _ =>
  if x1 < 0 then (
    some ((0 : Int64), M)
  ) else (
    Option.bind (fI M 3 a0 1) fun v1_ =>
    if v1_ ≤ x1 then (
      some ((0 : Int64), M)
    ) else (
      if x1 < ((160 : Int32)) then (
        Option.bind (fR M 3 a0 2) fun o2_ =>
        Option.bind (aJ M o2_ x1) fun v3_ =>
        some (v3_, M)
      ) else (
        some ((0 : Int64), M)
      )
    )
  )
def fX8_element (a0 : Nat) (x1 : Int32) (x2 : Int32) (M : Mm) : Option (Int64 × Mm) :=
  Option.bind (kc M 8 a0) fun _ =>
  Option.bind (fX8_shelfAt a0 x1 M) fun q1_ =>
  Option.bind (some q1_.1) fun n2_ =>
  Option.elim n2_ (
    some ((0 : Int64), q1_.2)
  ) (fun o3_ =>
    Option.bind (fX3_valueAt o3_ x2 q1_.2) fun q4_ =>
    some (q4_.1, q4_.2)
  )
def fX9_element (a0 : Nat) (x1 : Int32) (x2 : Int32) (M : Mm) : Option (Int64 × Mm) :=
  Option.bind (kc M 9 a0) fun _ =>
  Option.bind (fX9_isShelf a0 x1 M) fun q1_ =>
  if q1_.1 = 0 then (
    some ((0 : Int64), q1_.2)
  ) else (
    Option.bind (fR q1_.2 9 a0 23) fun o2_ =>
    Option.bind (aI q1_.2 o2_ x1) fun v3_ =>
    if v3_ = ((1 : Int32)) then (
      if x2 < 0 then (
        some ((0 : Int64), q1_.2)
      ) else (
        Option.bind (fR q1_.2 9 a0 25) fun o4_ =>
        Option.bind (aI q1_.2 o4_ x1) fun v5_ =>
        if v5_ ≤ x2 then (
          some ((0 : Int64), q1_.2)
        ) else (
          Option.bind (fR q1_.2 9 a0 27) fun o6_ =>
          Option.bind (aJ q1_.2 o6_ ((((160 : Int32)) * x1) + x2)) fun v7_ =>
          some (v7_, q1_.2)
        )
      )
    ) else (
      some ((0 : Int64), q1_.2)
    )
  )
def fX5_signAt (a0 : Nat) (x1 : Int32) (M : Mm) : Option (Option Nat × Mm) :=
  Option.bind (kc M 5 a0) fun _ =>
  if x1 < 0 then (
    some (none, M)
  ) else (
    Option.bind (fI M 5 a0 7) fun v1_ =>
    if v1_ ≤ x1 then (
      some (none, M)
    ) else (
      if x1 < ((8 : Int32)) then (
        Option.bind (fR M 5 a0 6) fun o2_ =>
        Option.bind (aR M 23 o2_ x1) fun n3_ =>
        some (n3_, M)
      ) else (
        some (none, M)
      )
    )
  )
def fX3_takeSign (a0 : Nat) (x1 : Int32) (M : Mm) : Option (Mm) :=
  Option.bind (kc M 3 a0) fun _ =>
  Option.bind (pI M 3 a0 0 x1) fun M1_ =>
  Option.bind (pI M1_ 3 a0 1 ((0 : Int32))) fun M2_ =>
  some M2_
def fX8_show_b32  (x2 : Int32) (a3 : Nat) (M : Mm) : Option (Int32 × Mm) :=
  Option.bind (fX3_takeSign a3 x2 M) fun M1_ =>
  if x2 = ((-1 : Int32)) then (
    some ((0 : Int32), M1_)
  ) else (
    some ((1 : Int32), M1_)
  )
def fX8_show (a0 : Nat) (x1 : Int32) (x2 : Int32) (M : Mm) : Option (Int32 × Mm) :=
  Option.bind (kc M 8 a0) fun _ =>
  Option.bind (fX8_shelfAt a0 x1 M) fun q1_ =>
  Option.bind (some q1_.1) fun n2_ =>
  Option.elim n2_ (
    Option.bind (fX8_refused a0 ((-1 : Int32)) q1_.2) fun q4_ =>
    some (q4_.1, q4_.2)
  ) (fun o3_ =>
    if x2 = ((-1 : Int32)) then (
      fX8_show_b32 x2 o3_ q1_.2
    ) else (
      Option.bind (fR q1_.2 8 a0 1) fun o5_ =>
      Option.bind (fX5_signAt o5_ x2 q1_.2) fun q6_ =>
      Option.bind (some q6_.1) fun n7_ =>
      Option.elim n7_ (
        Option.bind (fX8_refused a0 ((-1 : Int32)) q6_.2) fun q9_ =>
        some (q9_.1, q9_.2)
      ) (fun o8_ =>
        fX8_show_b32 x2 o3_ q6_.2
      )
    )
  )
def fX9_isSign (a0 : Nat) (x1 : Int32) (M : Mm) : Option (Int32 × Mm) :=
  Option.bind (kc M 9 a0) fun _ =>
  if x1 < 0 then (
    some ((0 : Int32), M)
  ) else (
    Option.bind (fI M 9 a0 6) fun v1_ =>
    if v1_ ≤ x1 then (
      some ((0 : Int32), M)
    ) else (
      some ((1 : Int32), M)
    )
  )
def fX9_show_b42  (a0 : Nat) (x1 : Int32) (x2 : Int32) (s0 : Nat) (s1 : Int32) (s2 : Int32) (M : Mm) : Option (Int32 × Mm) :=
  Option.bind (tI M s0 s1 s2) fun M1_ =>
  Option.bind (fR M1_ 9 a0 26) fun o2_ =>
  Option.bind (tI M1_ o2_ x1 x2) fun M3_ =>
  if x2 = ((-1 : Int32)) then (
    some ((0 : Int32), M3_)
  ) else (
    some ((1 : Int32), M3_)
  )
def fX9_show_b27  (a0 : Nat) (x1 : Int32) (x2 : Int32) (M : Mm) : Option (Int32 × Mm) :=
  Option.bind (fR M 9 a0 23) fun o1_ =>
  if x2 = ((-1 : Int32)) then (
    fX9_show_b42 a0 x1 x2 o1_ x1 ((0 : Int32)) M
  ) else (
    fX9_show_b42 a0 x1 x2 o1_ x1 ((2 : Int32)) M
  )
def fX9_show (a0 : Nat) (x1 : Int32) (x2 : Int32) (M : Mm) : Option (Int32 × Mm) :=
  Option.bind (kc M 9 a0) fun _ =>
  Option.bind (fX9_isShelf a0 x1 M) fun q1_ =>
  if q1_.1 = 0 then (
    Option.bind (fX9_no a0 ((-1 : Int32)) q1_.2) fun q2_ =>
    some (q2_.1, q2_.2)
  ) else (
    if x2 = ((-1 : Int32)) then (
      fX9_show_b27 a0 x1 x2 q1_.2
    ) else (
      Option.bind (fX9_isSign a0 x2 q1_.2) fun q3_ =>
      if q3_.1 = 0 then (
        Option.bind (fX9_no a0 ((-1 : Int32)) q3_.2) fun q4_ =>
        some (q4_.1, q4_.2)
      ) else (
        fX9_show_b27 a0 x1 x2 q3_.2
      )
    )
  )
def fX8_holds (a0 : Nat) (x1 : Int32) (M : Mm) : Option (Int32 × Mm) :=
  Option.bind (kc M 8 a0) fun _ =>
  Option.bind (fX8_shelfAt a0 x1 M) fun q1_ =>
  Option.bind (some q1_.1) fun n2_ =>
  Option.elim n2_ (
    some ((-1 : Int32), q1_.2)
  ) (fun o3_ =>
    Option.bind (fI q1_.2 3 o3_ 0) fun v4_ =>
    some (v4_, q1_.2)
  )
def fX9_holds (a0 : Nat) (x1 : Int32) (M : Mm) : Option (Int32 × Mm) :=
  Option.bind (kc M 9 a0) fun _ =>
  Option.bind (fX9_isShelf a0 x1 M) fun q1_ =>
  if q1_.1 = 0 then (
    some ((-1 : Int32), q1_.2)
  ) else (
    Option.bind (fR q1_.2 9 a0 23) fun o2_ =>
    Option.bind (aI q1_.2 o2_ x1) fun v3_ =>
    if v3_ = 0 then (
      some ((-1 : Int32), q1_.2)
    ) else (
      Option.bind (fR q1_.2 9 a0 23) fun o4_ =>
      Option.bind (aI q1_.2 o4_ x1) fun v5_ =>
      if v5_ = ((1 : Int32)) then (
        Option.bind (fR q1_.2 9 a0 24) fun o8_ =>
        Option.bind (aI q1_.2 o8_ x1) fun v9_ =>
        some (((100 : Int32)) + v9_, q1_.2)
      ) else (
        Option.bind (fR q1_.2 9 a0 26) fun o6_ =>
        Option.bind (aI q1_.2 o6_ x1) fun v7_ =>
        some (v7_, q1_.2)
      )
    )
  )
def fX4_isOf_b7  : Nat → Int32 → Int32 → Int32 → Mm → Option (Int32 × Mm)
  | 0, _, _, _, _ => none
  | n + 1, x1, x2, x3, M =>
    if ((7 : Int32)) ≤ x3 then (
      some ((0 : Int32), M)
    ) else (
      if x2 < 0 then (
        some ((0 : Int32), M)
      ) else (
        if ((7 : Int32)) ≤ x2 then (
          some ((0 : Int32), M)
        ) else (
          if x2 = x1 then (
            some ((1 : Int32), M)
          ) else (
            Option.bind (aI M 1 x2) fun v1_ =>
            (fX4_isOf_b7 n) x1 v1_ (x3 + (1 : Int32)) M
          )
        )
      )
    )
def fX4_isOf (a0 : Nat) (x1 : Int32) (M : Mm) : Option (Int32 × Mm) :=
  Option.bind (kc M 4 a0) fun _ =>
  Option.bind (fI M 4 a0 1) fun v1_ =>
  fX4_isOf_b7 FU x1 v1_ ((0 : Int32)) M
def fX5_loudness (a0 : Nat) (x1 : Int32) (M : Mm) : Option (Int32 × Mm) :=
  Option.bind (fI M 4 a0 2) fun v1_ =>
  if (abI (x1 - v1_)) = 0 then (
    Option.bind (fI M 4 a0 3) fun v4_ =>
    some (v4_, M)
  ) else (
    if (abI (x1 - v1_)) = ((1 : Int32)) then (
      Option.bind (fI M 4 a0 3) fun v2_ =>
      Option.bind (dI v2_ ((2 : Int32))) fun z3_ =>
      some (z3_, M)
    ) else (
      some ((0 : Int32), M)
    )
  )
def fX5_otherCellOf (a0 : Nat) (a1 : Nat) (M : Mm) : Option (Int32 × Mm) :=
  Option.bind (kc M 5 a0) fun _ =>
  Option.bind (fI M 5 a0 0) fun v1_ =>
  if v1_ ≤ 0 then (
    some ((-1 : Int32), M)
  ) else (
    Option.bind (fI M 4 a1 4) fun v2_ =>
    Option.bind (fI M 5 a0 0) fun v3_ =>
    Option.bind (mdI v2_ v3_) fun z4_ =>
    some (z4_, M)
  )
def fX5_tenthsOf_b16  (a0 : Nat) (a1 : Nat) (x2 : Int32) (s0 : Int32) (M : Mm) : Option (Int32 × Mm) :=
  Option.bind (fI M 4 a1 1) fun v1_ =>
  if v1_ = (1 : Int32) then (
    Option.bind (fI M 5 a0 4) fun v2_ =>
    if v2_ = 0 then (
      some (s0, M)
    ) else (
      some ((0 : Int32), M)
    )
  ) else
  if v1_ = (2 : Int32) then (
    Option.bind (fX5_loudness a1 x2 M) fun q3_ =>
    some (q3_.1, q3_.2)
  ) else
  if v1_ = (3 : Int32) then (
    Option.bind (fI M 4 a1 4) fun v4_ =>
    Option.bind (fI M 5 a0 3) fun v5_ =>
    if ((v4_ >>> (v5_ &&& 31)) &&& ((1 : Int32))) = ((1 : Int32)) then (
      Option.bind (fX5_loudness a1 x2 M) fun q6_ =>
      some (q6_.1, q6_.2)
    ) else (
      some ((0 : Int32), M)
    )
  ) else
  if v1_ = (4 : Int32) then (
    Option.bind (fI M 5 a0 4) fun v7_ =>
    if v7_ = 0 then (
      some (s0, M)
    ) else (
      Option.bind (dI s0 ((2 : Int32))) fun z8_ =>
      some (z8_, M)
    )
  ) else
  if v1_ = (5 : Int32) then (
    Option.bind (fI M 5 a0 11) fun v9_ =>
    Option.bind (fI M 4 a1 4) fun v10_ =>
    if v9_ = v10_ then (
      Option.bind (fI M 4 a1 3) fun v11_ =>
      some (v11_, M)
    ) else (
      some ((0 : Int32), M)
    )
  ) else
  if v1_ = (6 : Int32) then (
    Option.bind (fI M 5 a0 4) fun v12_ =>
    if v12_ = 0 then (
      Option.bind (fX5_otherCellOf a0 a1 M) fun q13_ =>
      if x2 = q13_.1 then (
        Option.bind (fI q13_.2 4 a1 3) fun v14_ =>
        some (v14_, q13_.2)
      ) else (
        some (s0, q13_.2)
      )
    ) else (
      some ((0 : Int32), M)
    )
  ) else
  some (s0, M)
def fX5_tenthsOf (a0 : Nat) (a1 : Nat) (x2 : Int32) (M : Mm) : Option (Int32 × Mm) :=
  Option.bind (kc M 5 a0) fun _ =>
  Option.bind (fI M 4 a1 2) fun v1_ =>
  if x2 = v1_ then (
    Option.bind (fI M 4 a1 3) fun v2_ =>
    fX5_tenthsOf_b16 a0 a1 x2 v2_ M
  ) else (
    fX5_tenthsOf_b16 a0 a1 x2 ((0 : Int32)) M
  )
def fJ6_bitCount_0f7a4 (x0 : Int32) (M : Mm) : Option (Int32 × Mm) :=
  Option.bind (some (x0 - (((x0.toUInt32 >>> (((1 : Int32)).toUInt32 &&& Int32.toUInt32 31)).toInt32) &&& ((1431655765 : Int32))))) fun v1_ =>
  Option.bind (some ((v1_ &&& ((858993459 : Int32))) + (((v1_.toUInt32 >>> (((2 : Int32)).toUInt32 &&& Int32.toUInt32 31)).toInt32) &&& ((858993459 : Int32))))) fun v2_ =>
  Option.bind (some ((v2_ + ((v2_.toUInt32 >>> (((4 : Int32)).toUInt32 &&& Int32.toUInt32 31)).toInt32)) &&& ((252645135 : Int32)))) fun v3_ =>
  Option.bind (some ((v3_ + ((v3_.toUInt32 >>> (((8 : Int32)).toUInt32 &&& Int32.toUInt32 31)).toInt32)) + (((v3_ + ((v3_.toUInt32 >>> (((8 : Int32)).toUInt32 &&& Int32.toUInt32 31)).toInt32)).toUInt32 >>> (((16 : Int32)).toUInt32 &&& Int32.toUInt32 31)).toInt32))) fun v4_ =>
  some (v4_ &&& ((63 : Int32)), M)
def fX5_saidBy (a0 : Nat) (a1 : Nat) (x2 : Int32) (M : Mm) : Option (Int32 × Mm) :=
  Option.bind (kc M 5 a0) fun _ =>
  if x2 = (1 : Int32) then (
    Option.bind (fI M 4 a1 2) fun v1_ =>
    Option.bind (fX5_tenthsOf a0 a1 v1_ M) fun q2_ =>
    some (q2_.1, q2_.2)
  ) else
  if x2 = (2 : Int32) then (
    Option.bind (fI M 4 a1 3) fun v3_ =>
    Option.bind (dI v3_ ((2 : Int32))) fun z4_ =>
    some (z4_, M)
  ) else
  if x2 = (3 : Int32) then (
    Option.bind (fI M 4 a1 4) fun v5_ =>
    Option.bind (fJ6_bitCount_0f7a4 v5_ M) fun q6_ =>
    some (q6_.1, q6_.2)
  ) else
  if x2 = (4 : Int32) then (
    Option.bind (fI M 4 a1 2) fun v7_ =>
    Option.bind (fX5_tenthsOf a0 a1 v7_ M) fun q8_ =>
    some (q8_.1, q8_.2)
  ) else
  if x2 = (5 : Int32) then (
    Option.bind (fI M 4 a1 4) fun v9_ =>
    Option.bind (fI M 5 a0 11) fun v10_ =>
    some (mxI ((0 : Int32)) (v9_ - v10_), M)
  ) else
  if x2 = (6 : Int32) then (
    Option.bind (fX5_otherCellOf a0 a1 M) fun q11_ =>
    some (q11_.1, q11_.2)
  ) else
  Option.bind (fI M 4 a1 3) fun v12_ =>
  some (v12_, M)
def fX8_says (a0 : Nat) (x1 : Int32) (x2 : Int32) (M : Mm) : Option (Int32 × Mm) :=
  Option.bind (kc M 8 a0) fun _ =>
  Option.bind (fX8_shelfAt a0 x1 M) fun q1_ =>
  Option.bind (some q1_.1) fun n2_ =>
  Option.elim n2_ (
    Option.bind (fX8_refused a0 ((-1 : Int32)) q1_.2) fun q4_ =>
    some (q4_.1, q4_.2)
  ) (fun o3_ =>
    if x2 < 0 then (
      Option.bind (fX8_refused a0 ((-1 : Int32)) q1_.2) fun q5_ =>
      some (q5_.1, q5_.2)
    ) else (
      if x2 < ((7 : Int32)) then (
        Option.bind (fI q1_.2 3 o3_ 0) fun v6_ =>
        if v6_ = ((-1 : Int32)) then (
          Option.bind (fX8_refused a0 ((-3 : Int32)) q1_.2) fun q17_ =>
          some (q17_.1, q17_.2)
        ) else (
          Option.bind (fR q1_.2 8 a0 1) fun o7_ =>
          Option.bind (fI q1_.2 3 o3_ 0) fun v8_ =>
          Option.bind (fX5_signAt o7_ v8_ q1_.2) fun q9_ =>
          Option.bind (some q9_.1) fun n10_ =>
          Option.elim n10_ (
            Option.bind (fX8_refused a0 ((-2 : Int32)) q9_.2) fun q12_ =>
            some (q12_.1, q12_.2)
          ) (fun o11_ =>
            Option.bind (fX4_isOf o11_ x2 q9_.2) fun q13_ =>
            if q13_.1 = 0 then (
              Option.bind (fX8_refused a0 ((-2 : Int32)) q13_.2) fun q16_ =>
              some (q16_.1, q16_.2)
            ) else (
              Option.bind (fR q13_.2 8 a0 1) fun o14_ =>
              Option.bind (fX5_saidBy o14_ o11_ x2 q13_.2) fun q15_ =>
              some (q15_.1, q15_.2)
            )
          )
        )
      ) else (
        Option.bind (fX8_refused a0 ((-1 : Int32)) q1_.2) fun q18_ =>
        some (q18_.1, q18_.2)
      )
    )
  )
def fX9_strengthOf_b147  (a0 : Nat) (x3 : Int32) (M : Mm) : Option (Int32 × Mm) :=
  Option.bind (fI M 9 a0 4) fun v1_ =>
  if v1_ = 0 then (
    some (x3, M)
  ) else (
    some ((0 : Int32), M)
  )
def fX9_strengthOf_b36  (a0 : Nat) (x1 : Int32) (x2 : Int32) (x3 : Int32) (s0 : Int32) (M : Mm) : Option (Int32 × Mm) :=
  Option.bind (fR M 9 a0 14) fun o1_ =>
  Option.bind (aI M o1_ x1) fun v2_ =>
  if v2_ = (1 : Int32) then (
    if s0 = 0 then (
      Option.bind (fI M 9 a0 4) fun v3_ =>
      if v3_ = 0 then (
        some (x3, M)
      ) else (
        some ((0 : Int32), M)
      )
    ) else (
      some ((0 : Int32), M)
    )
  ) else
  if v2_ = (2 : Int32) then (
    if s0 = 0 then (
      some (x3, M)
    ) else (
      if s0 = ((1 : Int32)) then (
        Option.bind (dI x3 ((2 : Int32))) fun z4_ =>
        some (z4_, M)
      ) else (
        some ((0 : Int32), M)
      )
    )
  ) else
  if v2_ = (3 : Int32) then (
    Option.bind (fR M 9 a0 17) fun o5_ =>
    Option.bind (aI M o5_ x1) fun v6_ =>
    Option.bind (fI M 9 a0 3) fun v7_ =>
    if ((v6_ >>> (v7_ &&& 31)) &&& ((1 : Int32))) = 0 then (
      some ((0 : Int32), M)
    ) else (
      if s0 = 0 then (
        some (x3, M)
      ) else (
        if s0 = ((1 : Int32)) then (
          Option.bind (dI x3 ((2 : Int32))) fun z8_ =>
          some (z8_, M)
        ) else (
          some ((0 : Int32), M)
        )
      )
    )
  ) else
  if v2_ = (4 : Int32) then (
    if s0 = 0 then (
      Option.bind (fI M 9 a0 4) fun v9_ =>
      if v9_ = ((1 : Int32)) then (
        Option.bind (dI x3 ((2 : Int32))) fun z10_ =>
        some (z10_, M)
      ) else (
        some (x3, M)
      )
    ) else (
      some ((0 : Int32), M)
    )
  ) else
  if v2_ = (5 : Int32) then (
    Option.bind (fI M 9 a0 9) fun v11_ =>
    Option.bind (fR M 9 a0 17) fun o12_ =>
    Option.bind (aI M o12_ x1) fun v13_ =>
    if v11_ = v13_ then (
      some (x3, M)
    ) else (
      some ((0 : Int32), M)
    )
  ) else
  if v2_ = (6 : Int32) then (
    if s0 = 0 then (
      fX9_strengthOf_b147 a0 x3 M
    ) else (
      Option.bind (fR M 9 a0 17) fun o14_ =>
      Option.bind (aI M o14_ x1) fun v15_ =>
      Option.bind (fI M 9 a0 0) fun v16_ =>
      Option.bind (mdI v15_ v16_) fun z17_ =>
      if x2 = z17_ then (
        fX9_strengthOf_b147 a0 x3 M
      ) else (
        some ((0 : Int32), M)
      )
    )
  ) else
  if s0 = 0 then (
    some (x3, M)
  ) else (
    some ((0 : Int32), M)
  )
def fX9_strengthOf (a0 : Nat) (x1 : Int32) (x2 : Int32) (M : Mm) : Option (Int32 × Mm) :=
  Option.bind (kc M 9 a0) fun _ =>
  Option.bind (fR M 9 a0 16) fun o1_ =>
  Option.bind (aI M o1_ x1) fun v2_ =>
  Option.bind (fR M 9 a0 15) fun o3_ =>
  Option.bind (aI M o3_ x1) fun v4_ =>
  if x2 ≤ v4_ then (
    Option.bind (fR M 9 a0 15) fun o5_ =>
    Option.bind (aI M o5_ x1) fun v6_ =>
    fX9_strengthOf_b36 a0 x1 x2 v2_ (v6_ - x2) M
  ) else (
    Option.bind (fR M 9 a0 15) fun o7_ =>
    Option.bind (aI M o7_ x1) fun v8_ =>
    fX9_strengthOf_b36 a0 x1 x2 v2_ (x2 - v8_) M
  )
def fX9_says_b182  : Nat → Nat → Int32 → Int32 → Int32 → Mm → Option (Int32 × Mm)
  | 0, _, _, _, _, _ => none
  | n + 1, a0, x3, x5, x6, M =>
    if ((8 : Int32)) ≤ x6 then (
      some (x5, M)
    ) else (
      Option.bind (fR M 9 a0 17) fun o1_ =>
      Option.bind (aI M o1_ x3) fun v2_ =>
      (fX9_says_b182 n) a0 x3 (x5 + ((v2_ >>> (x6 &&& 31)) &&& ((1 : Int32)))) (x6 + (1 : Int32)) M
    )
def fX9_says_b118  (a0 : Nat) (x2 : Int32) (x3 : Int32) (M : Mm) : Option (Int32 × Mm) :=
  if x2 = (0 : Int32) then (
    Option.bind (fR M 9 a0 16) fun o1_ =>
    Option.bind (aI M o1_ x3) fun v2_ =>
    some (v2_, M)
  ) else
  if x2 = (1 : Int32) then (
    Option.bind (fR M 9 a0 15) fun o3_ =>
    Option.bind (aI M o3_ x3) fun v4_ =>
    Option.bind (fX9_strengthOf a0 x3 v4_ M) fun q5_ =>
    some (q5_.1, q5_.2)
  ) else
  if x2 = (2 : Int32) then (
    Option.bind (fR M 9 a0 16) fun o6_ =>
    Option.bind (aI M o6_ x3) fun v7_ =>
    Option.bind (dI v7_ ((2 : Int32))) fun z8_ =>
    some (z8_, M)
  ) else
  if x2 = (3 : Int32) then (
    fX9_says_b182 FU a0 x3 ((0 : Int32)) ((0 : Int32)) M
  ) else
  if x2 = (4 : Int32) then (
    Option.bind (fR M 9 a0 15) fun o9_ =>
    Option.bind (aI M o9_ x3) fun v10_ =>
    Option.bind (fX9_strengthOf a0 x3 v10_ M) fun q11_ =>
    some (q11_.1, q11_.2)
  ) else
  if x2 = (5 : Int32) then (
    Option.bind (fR M 9 a0 17) fun o12_ =>
    Option.bind (aI M o12_ x3) fun v13_ =>
    Option.bind (fI M 9 a0 9) fun v14_ =>
    if v13_ ≤ v14_ then (
      some ((0 : Int32), M)
    ) else (
      Option.bind (fR M 9 a0 17) fun o15_ =>
      Option.bind (aI M o15_ x3) fun v16_ =>
      Option.bind (fI M 9 a0 9) fun v17_ =>
      some (v16_ - v17_, M)
    )
  ) else
  if x2 = (6 : Int32) then (
    Option.bind (fR M 9 a0 17) fun o18_ =>
    Option.bind (aI M o18_ x3) fun v19_ =>
    Option.bind (fI M 9 a0 0) fun v20_ =>
    Option.bind (mdI v19_ v20_) fun z21_ =>
    some (z21_, M)
  ) else
  Option.bind (fR M 9 a0 15) fun o22_ =>
  Option.bind (aI M o22_ x3) fun v23_ =>
  Option.bind (fX9_strengthOf a0 x3 v23_ M) fun q24_ =>
  some (q24_.1, q24_.2)
def fX9_says_b100  (a0 : Nat) (x2 : Int32) (x3 : Int32) (x4 : Int32) (M : Mm) : Option (Int32 × Mm) :=
  if x2 = ((2 : Int32)) then (
    if x4 = ((3 : Int32)) then (
      fX9_says_b118 a0 x2 x3 M
    ) else (
      Option.bind (fX9_no a0 ((-2 : Int32)) M) fun q2_ =>
      some (q2_.1, q2_.2)
    )
  ) else (
    Option.bind (fX9_no a0 ((-2 : Int32)) M) fun q1_ =>
    some (q1_.1, q1_.2)
  )
def fX9_says (a0 : Nat) (x1 : Int32) (x2 : Int32) (M : Mm) : Option (Int32 × Mm) :=
  Option.bind (kc M 9 a0) fun _ =>
  Option.bind (fX9_isShelf a0 x1 M) fun q1_ =>
  if q1_.1 = 0 then (
    Option.bind (fX9_no a0 ((-1 : Int32)) q1_.2) fun q2_ =>
    some (q2_.1, q2_.2)
  ) else (
    if x2 < 0 then (
      Option.bind (fX9_no a0 ((-1 : Int32)) q1_.2) fun q3_ =>
      some (q3_.1, q3_.2)
    ) else (
      if x2 ≤ ((6 : Int32)) then (
        Option.bind (fR q1_.2 9 a0 23) fun o4_ =>
        Option.bind (aI q1_.2 o4_ x1) fun v5_ =>
        if v5_ = ((1 : Int32)) then (
          Option.bind (fX9_no a0 ((-2 : Int32)) q1_.2) fun q13_ =>
          some (q13_.1, q13_.2)
        ) else (
          Option.bind (fR q1_.2 9 a0 23) fun o6_ =>
          Option.bind (aI q1_.2 o6_ x1) fun v7_ =>
          if v7_ = 0 then (
            Option.bind (fX9_no a0 ((-3 : Int32)) q1_.2) fun q12_ =>
            some (q12_.1, q12_.2)
          ) else (
            Option.bind (fR q1_.2 9 a0 26) fun o8_ =>
            Option.bind (aI q1_.2 o8_ x1) fun v9_ =>
            Option.bind (fR q1_.2 9 a0 14) fun o10_ =>
            Option.bind (aI q1_.2 o10_ v9_) fun v11_ =>
            if x2 = 0 then (
              fX9_says_b118 a0 x2 v9_ q1_.2
            ) else (
              if x2 = v11_ then (
                fX9_says_b118 a0 x2 v9_ q1_.2
              ) else (
                if x2 = ((1 : Int32)) then (
                  if v11_ = ((4 : Int32)) then (
                    fX9_says_b118 a0 x2 v9_ q1_.2
                  ) else (
                    if v11_ = ((6 : Int32)) then (
                      fX9_says_b118 a0 x2 v9_ q1_.2
                    ) else (
                      fX9_says_b100 a0 x2 v9_ v11_ q1_.2
                    )
                  )
                ) else (
                  fX9_says_b100 a0 x2 v9_ v11_ q1_.2
                )
              )
            )
          )
        )
      ) else (
        Option.bind (fX9_no a0 ((-1 : Int32)) q1_.2) fun q14_ =>
        some (q14_.1, q14_.2)
      )
    )
  )
def fX5_knowNothing (a0 : Nat) (M : Mm) : Option (Mm) :=
  Option.bind (kc M 5 a0) fun _ =>
  Option.bind (fR M 5 a0 10) fun o1_ =>
  Option.bind (fI M 5 a0 0) fun v2_ =>
  Option.bind (fX0_becomeEven o1_ v2_ M) fun M3_ =>
  Option.bind (pI M3_ 5 a0 12 ((0 : Int32))) fun M4_ =>
  Option.bind (pI M4_ 5 a0 11 ((0 : Int32))) fun M5_ =>
  some M5_
def fX5_tellLength (a0 : Nat) (x1 : Int32) (M : Mm) : Option (Mm) :=
  Option.bind (kc M 5 a0) fun _ =>
  Option.bind (pI M 5 a0 0 x1) fun M1_ =>
  Option.bind (pI M1_ 5 a0 7 ((0 : Int32))) fun M2_ =>
  Option.bind (pI M2_ 5 a0 9 ((0 : Int32))) fun M3_ =>
  Option.bind (pI M3_ 5 a0 13 ((-1 : Int32))) fun M4_ =>
  Option.bind (fX5_knowNothing a0 M4_) fun M5_ =>
  some M5_
def fX8_dropSignsFrom_b2  : Nat → Nat → Int32 → Int32 → Mm → Option (Mm)
  | 0, _, _, _, _ => none
  | n + 1, a0, x1, x2, M =>
    if ((8 : Int32)) ≤ x2 then (
      some M
    ) else (
      Option.bind (fR M 8 a0 0) fun o1_ =>
      Option.bind (aR M 22 o1_ x2) fun n2_ =>
      Option.elim n2_ (
        (fX8_dropSignsFrom_b2 n) a0 x1 (x2 + (1 : Int32)) M
      ) (fun o3_ =>
        Option.bind (fX3_holdsRow o3_ M) fun q4_ =>
        if q4_.1 = 0 then (
          Option.bind (fI q4_.2 3 o3_ 0) fun v5_ =>
          if v5_ < x1 then (
            (fX8_dropSignsFrom_b2 n) a0 x1 (x2 + (1 : Int32)) q4_.2
          ) else (
            Option.bind (fX3_takeSign o3_ ((-1 : Int32)) q4_.2) fun M6_ =>
            (fX8_dropSignsFrom_b2 n) a0 x1 (x2 + (1 : Int32)) M6_
          )
        ) else (
          (fX8_dropSignsFrom_b2 n) a0 x1 (x2 + (1 : Int32)) q4_.2
        )
      )
    )
def fX8_dropSignsFrom (a0 : Nat) (x1 : Int32) (M : Mm) : Option (Mm) :=
  Option.bind (kc M 8 a0) fun _ =>
  fX8_dropSignsFrom_b2 FU a0 x1 ((0 : Int32)) M
def fX8_street (a0 : Nat) (x1 : Int32) (M : Mm) : Option (Int32 × Mm) :=
  Option.bind (kc M 8 a0) fun _ =>
  if x1 < ((2 : Int32)) then (
    Option.bind (fX8_refused a0 ((-6 : Int32)) M) fun q1_ =>
    some (q1_.1, q1_.2)
  ) else (
    if x1 ≤ ((24 : Int32)) then (
      Option.bind (fR M 8 a0 1) fun o2_ =>
      Option.bind (fI M 5 o2_ 0) fun v3_ =>
      Option.bind (fR M 8 a0 1) fun o4_ =>
      Option.bind (fX5_tellLength o4_ x1 M) fun M5_ =>
      Option.bind (fX8_dropSignsFrom a0 ((0 : Int32)) M5_) fun M6_ =>
      some (v3_, M6_)
    ) else (
      Option.bind (fX8_refused a0 ((-6 : Int32)) M) fun q7_ =>
      some (q7_.1, q7_.2)
    )
  )
def fX9_along (a0 : Nat) (x1 : Int32) (M : Mm) : Option (Mm) :=
  Option.bind (kc M 9 a0) fun _ =>
  Option.bind (pI M 9 a0 0 x1) fun M1_ =>
  Option.bind (pZ M1_ 9 a0 29 ((1 : Int32))) fun M2_ =>
  Option.bind (pI M2_ 9 a0 6 ((0 : Int32))) fun M3_ =>
  Option.bind (pI M3_ 9 a0 7 ((0 : Int32))) fun M4_ =>
  Option.bind (pI M4_ 9 a0 10 ((-1 : Int32))) fun M5_ =>
  Option.bind (fX9_knows a0 ((-1 : Int32)) M5_) fun M6_ =>
  some M6_
def fX9_empties_b2  : Nat → Nat → Int32 → Mm → Option (Mm)
  | 0, _, _, _ => none
  | n + 1, a0, x1, M =>
    if ((8 : Int32)) ≤ x1 then (
      some M
    ) else (
      Option.bind (fR M 9 a0 23) fun o1_ =>
      Option.bind (aI M o1_ x1) fun v2_ =>
      if v2_ = ((2 : Int32)) then (
        Option.bind (fR M 9 a0 23) fun o3_ =>
        Option.bind (tI M o3_ x1 ((0 : Int32))) fun M4_ =>
        (fX9_empties_b2 n) a0 (x1 + (1 : Int32)) M4_
      ) else (
        (fX9_empties_b2 n) a0 (x1 + (1 : Int32)) M
      )
    )
def fX9_empties (a0 : Nat) (M : Mm) : Option (Mm) :=
  Option.bind (kc M 9 a0) fun _ =>
  fX9_empties_b2 FU a0 ((0 : Int32)) M
def fX9_street (a0 : Nat) (x1 : Int32) (M : Mm) : Option (Int32 × Mm) :=
  Option.bind (kc M 9 a0) fun _ =>
  if x1 < ((2 : Int32)) then (
    Option.bind (fX9_no a0 ((-6 : Int32)) M) fun q1_ =>
    some (q1_.1, q1_.2)
  ) else (
    if x1 ≤ ((24 : Int32)) then (
      Option.bind (fI M 9 a0 0) fun v2_ =>
      Option.bind (fX9_along a0 x1 M) fun M3_ =>
      Option.bind (fX9_empties a0 M3_) fun M4_ =>
      some (v2_, M4_)
    ) else (
      Option.bind (fX9_no a0 ((-6 : Int32)) M) fun q5_ =>
      some (q5_.1, q5_.2)
    )
  )
def fX5_hasCell (a0 : Nat) (x1 : Int32) (M : Mm) : Option (Int32 × Mm) :=
  Option.bind (kc M 5 a0) fun _ =>
  if x1 < 0 then (
    some ((0 : Int32), M)
  ) else (
    Option.bind (fI M 5 a0 0) fun v1_ =>
    if v1_ ≤ x1 then (
      some ((0 : Int32), M)
    ) else (
      some ((1 : Int32), M)
    )
  )
def fX5_hasRoomForSign (a0 : Nat) (M : Mm) : Option (Int32 × Mm) :=
  Option.bind (kc M 5 a0) fun _ =>
  Option.bind (fI M 5 a0 7) fun v1_ =>
  if ((8 : Int32)) ≤ v1_ then (
    some ((0 : Int32), M)
  ) else (
    some ((1 : Int32), M)
  )
def fX4_init (a0 : Nat) (x1 : Int32) (x2 : Int32) (x3 : Int32) (x4 : Int32) (x5 : Int32) (M : Mm) : Option (Mm) :=
  Option.bind (kc M 4 a0) fun _ =>
  Option.bind (pI M 4 a0 0 x1) fun M1_ =>
  Option.bind (pI M1_ 4 a0 1 x2) fun M2_ =>
  Option.bind (pI M2_ 4 a0 2 x3) fun M3_ =>
  Option.bind (pI M3_ 4 a0 3 x4) fun M4_ =>
  Option.bind (pI M4_ 4 a0 4 x5) fun M5_ =>
  some M5_
def fX5_addSign (a0 : Nat) (x1 : Int32) (x2 : Int32) (x3 : Int32) (x4 : Int32) (M : Mm) : Option (Int32 × Mm) :=
  Option.bind (kc M 5 a0) fun _ =>
  Option.bind (fI M 5 a0 7) fun v1_ =>
  if v1_ < 0 then (
    some (v1_, M)
  ) else (
    if ((8 : Int32)) ≤ v1_ then (
      some (v1_, M)
    ) else (
      Option.bind (fR M 5 a0 6) fun o2_ =>
      Option.bind (nO M 4 5) fun q3_ =>
      Option.bind (fX4_init q3_.1 v1_ x1 x2 x3 x4 q3_.2) fun M4_ =>
      Option.bind (tR M4_ 23 4 o2_ v1_ (some q3_.1)) fun M5_ =>
      Option.bind (fI M5_ 5 a0 7) fun v6_ =>
      Option.bind (pI M5_ 5 a0 7 (v6_ + ((1 : Int32)))) fun M7_ =>
      some (v1_, M7_)
    )
  )
def fX8_sign (a0 : Nat) (x1 : Int32) (x2 : Int32) (x3 : Int32) (x4 : Int32) (M : Mm) : Option (Int32 × Mm) :=
  Option.bind (kc M 8 a0) fun _ =>
  if x1 < 0 then (
    Option.bind (fX8_refused a0 ((-1 : Int32)) M) fun q1_ =>
    some (q1_.1, q1_.2)
  ) else (
    if ((7 : Int32)) ≤ x1 then (
      Option.bind (fX8_refused a0 ((-1 : Int32)) M) fun q2_ =>
      some (q2_.1, q2_.2)
    ) else (
      Option.bind (fR M 8 a0 1) fun o3_ =>
      Option.bind (fX5_hasCell o3_ x2 M) fun q4_ =>
      if q4_.1 = 0 then (
        Option.bind (fX8_refused a0 ((-1 : Int32)) q4_.2) fun q14_ =>
        some (q14_.1, q14_.2)
      ) else (
        if x3 < ((1 : Int32)) then (
          Option.bind (fX8_refused a0 ((-6 : Int32)) q4_.2) fun q5_ =>
          some (q5_.1, q5_.2)
        ) else (
          if ((10 : Int32)) < x3 then (
            Option.bind (fX8_refused a0 ((-6 : Int32)) q4_.2) fun q6_ =>
            some (q6_.1, q6_.2)
          ) else (
            if x4 < 0 then (
              Option.bind (fX8_refused a0 ((-6 : Int32)) q4_.2) fun q7_ =>
              some (q7_.1, q7_.2)
            ) else (
              if x4 ≤ ((255 : Int32)) then (
                Option.bind (fR q4_.2 8 a0 1) fun o8_ =>
                Option.bind (fX5_hasRoomForSign o8_ q4_.2) fun q9_ =>
                if q9_.1 = 0 then (
                  Option.bind (fX8_refused a0 ((-7 : Int32)) q9_.2) fun q12_ =>
                  some (q12_.1, q12_.2)
                ) else (
                  Option.bind (fR q9_.2 8 a0 1) fun o10_ =>
                  Option.bind (fX5_addSign o10_ x1 x2 x3 x4 q9_.2) fun q11_ =>
                  some (q11_.1, q11_.2)
                )
              ) else (
                Option.bind (fX8_refused a0 ((-6 : Int32)) q4_.2) fun q13_ =>
                some (q13_.1, q13_.2)
              )
            )
          )
        )
      )
    )
  )
def fX9_isCell (a0 : Nat) (x1 : Int32) (M : Mm) : Option (Int32 × Mm) :=
  Option.bind (kc M 9 a0) fun _ =>
  if x1 < 0 then (
    some ((0 : Int32), M)
  ) else (
    Option.bind (fI M 9 a0 0) fun v1_ =>
    if v1_ ≤ x1 then (
      some ((0 : Int32), M)
    ) else (
      some ((1 : Int32), M)
    )
  )
def fX9_signs (a0 : Nat) (x1 : Int32) (x2 : Int32) (x3 : Int32) (x4 : Int32) (M : Mm) : Option (Int32 × Mm) :=
  Option.bind (kc M 9 a0) fun _ =>
  Option.bind (fR M 9 a0 14) fun o1_ =>
  Option.bind (fI M 9 a0 6) fun v2_ =>
  Option.bind (tI M o1_ v2_ x1) fun M3_ =>
  Option.bind (fR M3_ 9 a0 15) fun o4_ =>
  Option.bind (fI M3_ 9 a0 6) fun v5_ =>
  Option.bind (tI M3_ o4_ v5_ x2) fun M6_ =>
  Option.bind (fR M6_ 9 a0 16) fun o7_ =>
  Option.bind (fI M6_ 9 a0 6) fun v8_ =>
  Option.bind (tI M6_ o7_ v8_ x3) fun M9_ =>
  Option.bind (fR M9_ 9 a0 17) fun o10_ =>
  Option.bind (fI M9_ 9 a0 6) fun v11_ =>
  Option.bind (tI M9_ o10_ v11_ x4) fun M12_ =>
  Option.bind (fI M12_ 9 a0 6) fun v13_ =>
  Option.bind (pI M12_ 9 a0 6 (v13_ + ((1 : Int32)))) fun M14_ =>
  some (v13_, M14_)
def fX9_sign (a0 : Nat) (x1 : Int32) (x2 : Int32) (x3 : Int32) (x4 : Int32) (M : Mm) : Option (Int32 × Mm) :=
  Option.bind (kc M 9 a0) fun _ =>
  if x1 < 0 then (
    Option.bind (fX9_no a0 ((-1 : Int32)) M) fun q1_ =>
    some (q1_.1, q1_.2)
  ) else (
    if ((6 : Int32)) < x1 then (
      Option.bind (fX9_no a0 ((-1 : Int32)) M) fun q2_ =>
      some (q2_.1, q2_.2)
    ) else (
      Option.bind (fX9_isCell a0 x2 M) fun q3_ =>
      if q3_.1 = 0 then (
        Option.bind (fX9_no a0 ((-1 : Int32)) q3_.2) fun q11_ =>
        some (q11_.1, q11_.2)
      ) else (
        if x3 < ((1 : Int32)) then (
          Option.bind (fX9_no a0 ((-6 : Int32)) q3_.2) fun q4_ =>
          some (q4_.1, q4_.2)
        ) else (
          if ((10 : Int32)) < x3 then (
            Option.bind (fX9_no a0 ((-6 : Int32)) q3_.2) fun q5_ =>
            some (q5_.1, q5_.2)
          ) else (
            if x4 < 0 then (
              Option.bind (fX9_no a0 ((-6 : Int32)) q3_.2) fun q6_ =>
              some (q6_.1, q6_.2)
            ) else (
              if x4 ≤ ((255 : Int32)) then (
                Option.bind (fI q3_.2 9 a0 6) fun v7_ =>
                if v7_ = ((8 : Int32)) then (
                  Option.bind (fX9_no a0 ((-7 : Int32)) q3_.2) fun q9_ =>
                  some (q9_.1, q9_.2)
                ) else (
                  Option.bind (fX9_signs a0 x1 x2 x3 x4 q3_.2) fun q8_ =>
                  some (q8_.1, q8_.2)
                )
              ) else (
                Option.bind (fX9_no a0 ((-6 : Int32)) q3_.2) fun q10_ =>
                some (q10_.1, q10_.2)
              )
            )
          )
        )
      )
    )
  )
def fX5_hasRoomForThing (a0 : Nat) (M : Mm) : Option (Int32 × Mm) :=
  Option.bind (kc M 5 a0) fun _ =>
  Option.bind (fI M 5 a0 9) fun v1_ =>
  if ((8 : Int32)) ≤ v1_ then (
    some ((0 : Int32), M)
  ) else (
    some ((1 : Int32), M)
  )
def fX6_init (a0 : Nat) (x1 : Int32) (x2 : Int32) (x3 : Int32) (M : Mm) : Option (Mm) :=
  Option.bind (kc M 6 a0) fun _ =>
  Option.bind (pI M 6 a0 0 x1) fun M1_ =>
  Option.bind (pZ M1_ 6 a0 1 x2) fun M2_ =>
  Option.bind (pI M2_ 6 a0 2 x3) fun M3_ =>
  some M3_
def fX5_addThing (a0 : Nat) (x1 : Int32) (x2 : Int32) (x3 : Int32) (M : Mm) : Option (Int32 × Mm) :=
  Option.bind (kc M 5 a0) fun _ =>
  Option.bind (fI M 5 a0 9) fun v1_ =>
  if v1_ < 0 then (
    some (v1_, M)
  ) else (
    if ((8 : Int32)) ≤ v1_ then (
      some (v1_, M)
    ) else (
      Option.bind (fR M 5 a0 8) fun o2_ =>
      Option.bind (nO M 6 3) fun q3_ =>
      Option.bind (fX6_init q3_.1 x1 x2 x3 q3_.2) fun M4_ =>
      Option.bind (tR M4_ 24 6 o2_ v1_ (some q3_.1)) fun M5_ =>
      Option.bind (fI M5_ 5 a0 9) fun v6_ =>
      Option.bind (pI M5_ 5 a0 9 (v6_ + ((1 : Int32)))) fun M7_ =>
      some (v1_, M7_)
    )
  )
def fX8_thing (a0 : Nat) (x1 : Int32) (x2 : Int32) (x3 : Int32) (M : Mm) : Option (Int32 × Mm) :=
  Option.bind (kc M 8 a0) fun _ =>
  Option.bind (fR M 8 a0 1) fun o1_ =>
  Option.bind (fX5_hasCell o1_ x1 M) fun q2_ =>
  if q2_.1 = 0 then (
    Option.bind (fX8_refused a0 ((-1 : Int32)) q2_.2) fun q10_ =>
    some (q10_.1, q10_.2)
  ) else (
    if x3 < ((1 : Int32)) then (
      Option.bind (fX8_refused a0 ((-6 : Int32)) q2_.2) fun q3_ =>
      some (q3_.1, q3_.2)
    ) else (
      if x3 ≤ ((10 : Int32)) then (
        Option.bind (fR q2_.2 8 a0 1) fun o4_ =>
        Option.bind (fX5_hasRoomForThing o4_ q2_.2) fun q5_ =>
        if q5_.1 = 0 then (
          Option.bind (fX8_refused a0 ((-7 : Int32)) q5_.2) fun q8_ =>
          some (q8_.1, q8_.2)
        ) else (
          Option.bind (fR q5_.2 8 a0 1) fun o6_ =>
          Option.bind (fX5_addThing o6_ x1 x2 x3 q5_.2) fun q7_ =>
          some (q7_.1, q7_.2)
        )
      ) else (
        Option.bind (fX8_refused a0 ((-6 : Int32)) q2_.2) fun q9_ =>
        some (q9_.1, q9_.2)
      )
    )
  )
def fX9_stands (a0 : Nat) (x1 : Int32) (x2 : Int32) (x3 : Int32) (M : Mm) : Option (Int32 × Mm) :=
  Option.bind (kc M 9 a0) fun _ =>
  Option.bind (fR M 9 a0 18) fun o1_ =>
  Option.bind (fI M 9 a0 7) fun v2_ =>
  Option.bind (tI M o1_ v2_ x1) fun M3_ =>
  Option.bind (fR M3_ 9 a0 19) fun o4_ =>
  Option.bind (fI M3_ 9 a0 7) fun v5_ =>
  Option.bind (tI M3_ o4_ v5_ x2) fun M6_ =>
  Option.bind (fR M6_ 9 a0 20) fun o7_ =>
  Option.bind (fI M6_ 9 a0 7) fun v8_ =>
  Option.bind (tI M6_ o7_ v8_ x3) fun M9_ =>
  Option.bind (fI M9_ 9 a0 7) fun v10_ =>
  Option.bind (pI M9_ 9 a0 7 (v10_ + ((1 : Int32)))) fun M11_ =>
  some (v10_, M11_)
def fX9_thing (a0 : Nat) (x1 : Int32) (x2 : Int32) (x3 : Int32) (M : Mm) : Option (Int32 × Mm) :=
  Option.bind (kc M 9 a0) fun _ =>
  Option.bind (fX9_isCell a0 x1 M) fun q1_ =>
  if q1_.1 = 0 then (
    Option.bind (fX9_no a0 ((-1 : Int32)) q1_.2) fun q8_ =>
    some (q8_.1, q8_.2)
  ) else (
    if x3 < ((1 : Int32)) then (
      Option.bind (fX9_no a0 ((-6 : Int32)) q1_.2) fun q2_ =>
      some (q2_.1, q2_.2)
    ) else (
      if x3 ≤ ((10 : Int32)) then (
        Option.bind (fI q1_.2 9 a0 7) fun v3_ =>
        if v3_ = ((8 : Int32)) then (
          Option.bind (fX9_no a0 ((-7 : Int32)) q1_.2) fun q6_ =>
          some (q6_.1, q6_.2)
        ) else (
          if x2 = 0 then (
            Option.bind (fX9_stands a0 x1 ((0 : Int32)) x3 q1_.2) fun q4_ =>
            some (q4_.1, q4_.2)
          ) else (
            Option.bind (fX9_stands a0 x1 ((1 : Int32)) x3 q1_.2) fun q5_ =>
            some (q5_.1, q5_.2)
          )
        )
      ) else (
        Option.bind (fX9_no a0 ((-6 : Int32)) q1_.2) fun q7_ =>
        some (q7_.1, q7_.2)
      )
    )
  )
def fX3_intAt (a0 : Nat) (x1 : Int32) (M : Mm) : Option (Int32 × Mm) :=
  Option.bind (kc M 3 a0) fun _ =>
  if x1 < 0 then (
    some ((0 : Int32), M)
  ) else (
    Option.bind (fI M 3 a0 1) fun v1_ =>
    if v1_ ≤ x1 then (
      some ((0 : Int32), M)
    ) else (
      if x1 < ((160 : Int32)) then (
        Option.bind (fR M 3 a0 2) fun o2_ =>
        Option.bind (aJ M o2_ x1) fun v3_ =>
        some (v3_.toInt32, M)
      ) else (
        some ((0 : Int32), M)
      )
    )
  )
def fX8_addThingFrom_b21  (a0 : Nat) (a1 : Nat) (x2 : Int32) (x3 : Int32) (s0 : Int32) (M : Mm) : Option (Int32 × Mm) :=
  Option.bind (fX3_intAt a1 (x2 + ((2 : Int32))) M) fun q1_ =>
  Option.bind (fR q1_.2 8 a0 1) fun o2_ =>
  Option.bind (fX5_hasCell o2_ x3 q1_.2) fun q3_ =>
  if q3_.1 = 0 then (
    some ((0 : Int32), q3_.2)
  ) else (
    if q1_.1 < ((1 : Int32)) then (
      some ((0 : Int32), q3_.2)
    ) else (
      if ((10 : Int32)) < q1_.1 then (
        some ((0 : Int32), q3_.2)
      ) else (
        Option.bind (fR q3_.2 8 a0 1) fun o4_ =>
        Option.bind (fX5_hasRoomForThing o4_ q3_.2) fun q5_ =>
        if q5_.1 = 0 then (
          some ((0 : Int32), q5_.2)
        ) else (
          Option.bind (fR q5_.2 8 a0 1) fun o6_ =>
          Option.bind (fX5_addThing o6_ x3 s0 q1_.1 q5_.2) fun q7_ =>
          some ((1 : Int32), q7_.2)
        )
      )
    )
  )
def fX8_addThingFrom (a0 : Nat) (a1 : Nat) (x2 : Int32) (M : Mm) : Option (Int32 × Mm) :=
  Option.bind (kc M 8 a0) fun _ =>
  Option.bind (fX3_intAt a1 x2 M) fun q1_ =>
  Option.bind (fX3_intAt a1 (x2 + ((1 : Int32))) q1_.2) fun q2_ =>
  if q2_.1 = 0 then (
    fX8_addThingFrom_b21 a0 a1 x2 q1_.1 ((0 : Int32)) q2_.2
  ) else (
    fX8_addThingFrom_b21 a0 a1 x2 q1_.1 ((1 : Int32)) q2_.2
  )
def fX8_things_b75  : Nat → Nat → Int32 → Int32 → Nat → Int32 → Mm → Option (Int32 × Mm)
  | 0, _, _, _, _, _, _ => none
  | n + 1, a0, x2, x3, a4, x6, M =>
    Option.bind (dI x3 ((3 : Int32))) fun z1_ =>
    if z1_ ≤ x6 then (
      some (x6, M)
    ) else (
      Option.bind (fX8_addThingFrom a0 a4 (x2 + (((3 : Int32)) * x6)) M) fun q2_ =>
      if q2_.1 = 0 then (
        some (x6, q2_.2)
      ) else (
        (fX8_things_b75 n) a0 x2 x3 a4 (x6 + (1 : Int32)) q2_.2
      )
    )
def fX8_things (a0 : Nat) (x1 : Int32) (x2 : Int32) (x3 : Int32) (M : Mm) : Option (Int32 × Mm) :=
  Option.bind (kc M 8 a0) fun _ =>
  Option.bind (fX8_shelfAt a0 x1 M) fun q1_ =>
  Option.bind (some q1_.1) fun n2_ =>
  Option.bind (fX8_rowTrouble n2_ q1_.2) fun q3_ =>
  Option.elim n2_ (
    Option.bind (fX8_refused a0 q3_.1 q3_.2) fun q5_ =>
    some (q5_.1, q5_.2)
  ) (fun o4_ =>
    if q3_.1 = 0 then (
      if 0 ≤ x3 then (
        Option.bind (fX3_hasRun o4_ x2 x3 q3_.2) fun q6_ =>
        if q6_.1 = 0 then (
          Option.bind (fX8_refused a0 ((-5 : Int32)) q6_.2) fun q9_ =>
          some (q9_.1, q9_.2)
        ) else (
          Option.bind (mdI x3 ((3 : Int32))) fun z7_ =>
          if z7_ = 0 then (
            fX8_things_b75 FU a0 x2 x3 o4_ ((0 : Int32)) q6_.2
          ) else (
            Option.bind (fX8_refused a0 ((-6 : Int32)) q6_.2) fun q8_ =>
            some (q8_.1, q8_.2)
          )
        )
      ) else (
        Option.bind (fX8_refused a0 ((-4 : Int32)) q3_.2) fun q10_ =>
        some (q10_.1, q10_.2)
      )
    ) else (
      Option.bind (fX8_refused a0 q3_.1 q3_.2) fun q11_ =>
      some (q11_.1, q11_.2)
    )
  )
def fX9_wants (a0 : Nat) (x1 : Int32) (M : Mm) : Option (Int32 × Mm) :=
  Option.bind (kc M 9 a0) fun _ =>
  Option.bind (fX9_isShelf a0 x1 M) fun q1_ =>
  if q1_.1 = 0 then (
    some ((-1 : Int32), q1_.2)
  ) else (
    Option.bind (fR q1_.2 9 a0 23) fun o2_ =>
    Option.bind (aI q1_.2 o2_ x1) fun v3_ =>
    if v3_ = ((2 : Int32)) then (
      some ((-2 : Int32), q1_.2)
    ) else (
      Option.bind (fR q1_.2 9 a0 23) fun o4_ =>
      Option.bind (aI q1_.2 o4_ x1) fun v5_ =>
      if v5_ = 0 then (
        some ((-3 : Int32), q1_.2)
      ) else (
        some ((0 : Int32), q1_.2)
      )
    )
  )
def fX9_intAt (a0 : Nat) (x1 : Int32) (x2 : Int32) (M : Mm) : Option (Int32 × Mm) :=
  Option.bind (kc M 9 a0) fun _ =>
  Option.bind (fR M 9 a0 27) fun o1_ =>
  Option.bind (aJ M o1_ ((((160 : Int32)) * x1) + x2)) fun v2_ =>
  some (v2_.toInt32, M)
def fX9_things_b154 (k72 : Nat → Int32 → Int32 → Int32 → Int32 → Int32 → Mm → Option (Int32 × Mm)) (a0 : Nat) (x1 : Int32) (x2 : Int32) (x3 : Int32) (x5 : Int32) (x6 : Int32) (x8 : Int32) (s0 : Nat) (s1 : Int32) (s2 : Int32) (M : Mm) : Option (Int32 × Mm) :=
  Option.bind (fX9_stands s0 s1 s2 x8 M) fun q1_ =>
  k72 a0 x1 x2 x3 (x5 + (1 : Int32)) (x6 + (3 : Int32)) q1_.2
def fX9_things_b72  : Nat → Nat → Int32 → Int32 → Int32 → Int32 → Int32 → Mm → Option (Int32 × Mm)
  | 0, _, _, _, _, _, _, _ => none
  | n + 1, a0, x1, x2, x3, x5, x6, M =>
    if (x2 + x3) ≤ x6 then (
      some (x5, M)
    ) else (
      Option.bind (fX9_intAt a0 x1 x6 M) fun q1_ =>
      Option.bind (fX9_intAt a0 x1 (x6 + ((2 : Int32))) q1_.2) fun q2_ =>
      Option.bind (fI q2_.2 9 a0 7) fun v3_ =>
      if v3_ = ((8 : Int32)) then (
        some (x5, q2_.2)
      ) else (
        Option.bind (fX9_isCell a0 q1_.1 q2_.2) fun q4_ =>
        if q4_.1 = 0 then (
          some (x5, q4_.2)
        ) else (
          if q2_.1 < ((1 : Int32)) then (
            some (x5, q4_.2)
          ) else (
            if q2_.1 ≤ ((10 : Int32)) then (
              Option.bind (fX9_intAt a0 x1 (x6 + ((1 : Int32))) q4_.2) fun q5_ =>
              if q5_.1 = 0 then (
                fX9_things_b154 (fX9_things_b72 n) a0 x1 x2 x3 x5 x6 q2_.1 a0 q1_.1 ((0 : Int32)) q5_.2
              ) else (
                fX9_things_b154 (fX9_things_b72 n) a0 x1 x2 x3 x5 x6 q2_.1 a0 q1_.1 ((1 : Int32)) q5_.2
              )
            ) else (
              some (x5, q4_.2)
            )
          )
        )
      )
    )
def fX9_things (a0 : Nat) (x1 : Int32) (x2 : Int32) (x3 : Int32) (M : Mm) : Option (Int32 × Mm) :=
  Option.bind (kc M 9 a0) fun _ =>
  Option.bind (fX9_wants a0 x1 M) fun q1_ =>
  if q1_.1 = 0 then (
    if 0 ≤ x3 then (
      if x2 < 0 then (
        Option.bind (fX9_no a0 ((-5 : Int32)) q1_.2) fun q2_ =>
        some (q2_.1, q2_.2)
      ) else (
        Option.bind (fR q1_.2 9 a0 25) fun o3_ =>
        Option.bind (aI q1_.2 o3_ x1) fun v4_ =>
        if x2 ≤ (v4_ - x3) then (
          Option.bind (mdI x3 ((3 : Int32))) fun z5_ =>
          if z5_ = 0 then (
            fX9_things_b72 FU a0 x1 x2 x3 ((0 : Int32)) x2 q1_.2
          ) else (
            Option.bind (fX9_no a0 ((-6 : Int32)) q1_.2) fun q6_ =>
            some (q6_.1, q6_.2)
          )
        ) else (
          Option.bind (fX9_no a0 ((-5 : Int32)) q1_.2) fun q7_ =>
          some (q7_.1, q7_.2)
        )
      )
    ) else (
      Option.bind (fX9_no a0 ((-4 : Int32)) q1_.2) fun q8_ =>
      some (q8_.1, q8_.2)
    )
  ) else (
    Option.bind (fX9_no a0 q1_.1 q1_.2) fun q9_ =>
    some (q9_.1, q9_.2)
  )
def fX8_wander (a0 : Nat) (x1 : Int32) (x2 : Int32) (M : Mm) : Option (Int32 × Mm) :=
  Option.bind (kc M 8 a0) fun _ =>
  if x1 < 0 then (
    Option.bind (fX8_refused a0 ((-6 : Int32)) M) fun q1_ =>
    some (q1_.1, q1_.2)
  ) else (
    if ((10 : Int32)) < x1 then (
      Option.bind (fX8_refused a0 ((-6 : Int32)) M) fun q2_ =>
      some (q2_.1, q2_.2)
    ) else (
      if x2 < 0 then (
        Option.bind (fX8_refused a0 ((-6 : Int32)) M) fun q3_ =>
        some (q3_.1, q3_.2)
      ) else (
        if x2 ≤ (((10 : Int32)) - x1) then (
          Option.bind (fR M 8 a0 1) fun o4_ =>
          Option.bind (fI M 5 o4_ 1) fun v5_ =>
          Option.bind (fR M 8 a0 1) fun o6_ =>
          Option.bind (fI M 5 o6_ 2) fun v7_ =>
          Option.bind (fR M 8 a0 1) fun o8_ =>
          Option.bind (pI M 5 o8_ 1 x1) fun M9_ =>
          Option.bind (fR M9_ 8 a0 1) fun o10_ =>
          Option.bind (pI M9_ 5 o10_ 2 x2) fun M11_ =>
          some ((((100 : Int32)) * v5_) + v7_, M11_)
        ) else (
          Option.bind (fX8_refused a0 ((-6 : Int32)) M) fun q12_ =>
          some (q12_.1, q12_.2)
        )
      )
    )
  )
def fX9_wander (a0 : Nat) (x1 : Int32) (x2 : Int32) (M : Mm) : Option (Int32 × Mm) :=
  Option.bind (kc M 9 a0) fun _ =>
  if x1 < 0 then (
    Option.bind (fX9_no a0 ((-6 : Int32)) M) fun q1_ =>
    some (q1_.1, q1_.2)
  ) else (
    if x2 < 0 then (
      Option.bind (fX9_no a0 ((-6 : Int32)) M) fun q2_ =>
      some (q2_.1, q2_.2)
    ) else (
      if ((10 : Int32)) < x1 then (
        Option.bind (fX9_no a0 ((-6 : Int32)) M) fun q3_ =>
        some (q3_.1, q3_.2)
      ) else (
        if x2 ≤ (((10 : Int32)) - x1) then (
          Option.bind (fI M 9 a0 1) fun v4_ =>
          Option.bind (fI M 9 a0 2) fun v5_ =>
          Option.bind (pI M 9 a0 1 x1) fun M6_ =>
          Option.bind (pI M6_ 9 a0 2 x2) fun M7_ =>
          some ((((100 : Int32)) * v4_) + v5_, M7_)
        ) else (
          Option.bind (fX9_no a0 ((-6 : Int32)) M) fun q8_ =>
          some (q8_.1, q8_.2)
        )
      )
    )
  )
def fX8_askHour (a0 : Nat) (x1 : Int32) (M : Mm) : Option (Int32 × Mm) :=
  Option.bind (kc M 8 a0) fun _ =>
  Option.bind (fR M 8 a0 1) fun o1_ =>
  Option.bind (fI M 5 o1_ 3) fun v2_ =>
  Option.bind (fR M 8 a0 1) fun o3_ =>
  Option.bind (pI M 5 o3_ 3 x1) fun M4_ =>
  some (v2_, M4_)
def fX8_askSnow_b15  (a0 : Nat) (x1 : Int32) (s0 : Int32) (M : Mm) : Option (Int32 × Mm) :=
  Option.bind (fR M 8 a0 1) fun o1_ =>
  if x1 = ((1 : Int32)) then (
    Option.bind (pZ M 5 o1_ 4 ((1 : Int32))) fun M3_ =>
    some (s0, M3_)
  ) else (
    Option.bind (pZ M 5 o1_ 4 ((0 : Int32))) fun M2_ =>
    some (s0, M2_)
  )
def fX8_askSnow (a0 : Nat) (x1 : Int32) (M : Mm) : Option (Int32 × Mm) :=
  Option.bind (kc M 8 a0) fun _ =>
  Option.bind (fR M 8 a0 1) fun o1_ =>
  Option.bind (fI M 5 o1_ 4) fun v2_ =>
  if v2_ = 0 then (
    fX8_askSnow_b15 a0 x1 ((0 : Int32)) M
  ) else (
    fX8_askSnow_b15 a0 x1 ((1 : Int32)) M
  )
def fX8_askArc (a0 : Nat) (x1 : Int32) (M : Mm) : Option (Int32 × Mm) :=
  Option.bind (kc M 8 a0) fun _ =>
  Option.bind (fR M 8 a0 1) fun o1_ =>
  Option.bind (fI M 5 o1_ 5) fun v2_ =>
  Option.bind (fR M 8 a0 1) fun o3_ =>
  Option.bind (pI M 5 o3_ 5 x1) fun M4_ =>
  some (v2_, M4_)
def fX8_ask (a0 : Nat) (x1 : Int32) (x2 : Int32) (M : Mm) : Option (Int32 × Mm) :=
  Option.bind (kc M 8 a0) fun _ =>
  if x1 = (0 : Int32) then (
    if x2 < 0 then (
      Option.bind (fX8_refused a0 ((-6 : Int32)) M) fun q1_ =>
      some (q1_.1, q1_.2)
    ) else (
      if x2 ≤ ((7 : Int32)) then (
        Option.bind (fX8_askHour a0 x2 M) fun q2_ =>
        some (q2_.1, q2_.2)
      ) else (
        Option.bind (fX8_refused a0 ((-6 : Int32)) M) fun q3_ =>
        some (q3_.1, q3_.2)
      )
    )
  ) else
  if x1 = (1 : Int32) then (
    if x2 < 0 then (
      Option.bind (fX8_refused a0 ((-6 : Int32)) M) fun q4_ =>
      some (q4_.1, q4_.2)
    ) else (
      if x2 ≤ ((1 : Int32)) then (
        Option.bind (fX8_askSnow a0 x2 M) fun q5_ =>
        some (q5_.1, q5_.2)
      ) else (
        Option.bind (fX8_refused a0 ((-6 : Int32)) M) fun q6_ =>
        some (q6_.1, q6_.2)
      )
    )
  ) else
  if x1 = (2 : Int32) then (
    if x2 < ((1 : Int32)) then (
      Option.bind (fX8_refused a0 ((-6 : Int32)) M) fun q7_ =>
      some (q7_.1, q7_.2)
    ) else (
      if x2 ≤ ((9 : Int32)) then (
        Option.bind (fX8_askArc a0 x2 M) fun q8_ =>
        some (q8_.1, q8_.2)
      ) else (
        Option.bind (fX8_refused a0 ((-6 : Int32)) M) fun q9_ =>
        some (q9_.1, q9_.2)
      )
    )
  ) else
  Option.bind (fX8_refused a0 ((-6 : Int32)) M) fun q10_ =>
  some (q10_.1, q10_.2)
def fX9_ask_b54  (a0 : Nat) (x1 : Int32) (x2 : Int32) (M : Mm) : Option (Int32 × Mm) :=
  if x1 = ((2 : Int32)) then (
    if x2 < ((1 : Int32)) then (
      Option.bind (fX9_no a0 ((-6 : Int32)) M) fun q2_ =>
      some (q2_.1, q2_.2)
    ) else (
      if ((9 : Int32)) < x2 then (
        Option.bind (fX9_no a0 ((-6 : Int32)) M) fun q3_ =>
        some (q3_.1, q3_.2)
      ) else (
        Option.bind (fI M 9 a0 5) fun v4_ =>
        Option.bind (pI M 9 a0 5 x2) fun M5_ =>
        some (v4_, M5_)
      )
    )
  ) else (
    Option.bind (fX9_no a0 ((-6 : Int32)) M) fun q1_ =>
    some (q1_.1, q1_.2)
  )
def fX9_ask_b27  (a0 : Nat) (x1 : Int32) (x2 : Int32) (M : Mm) : Option (Int32 × Mm) :=
  if x1 = ((1 : Int32)) then (
    if x2 < 0 then (
      fX9_ask_b54 a0 x1 x2 M
    ) else (
      if ((1 : Int32)) < x2 then (
        fX9_ask_b54 a0 x1 x2 M
      ) else (
        Option.bind (fI M 9 a0 4) fun v1_ =>
        Option.bind (pI M 9 a0 4 x2) fun M2_ =>
        some (v1_, M2_)
      )
    )
  ) else (
    fX9_ask_b54 a0 x1 x2 M
  )
def fX9_ask (a0 : Nat) (x1 : Int32) (x2 : Int32) (M : Mm) : Option (Int32 × Mm) :=
  Option.bind (kc M 9 a0) fun _ =>
  if x1 = 0 then (
    if x2 < 0 then (
      fX9_ask_b27 a0 x1 x2 M
    ) else (
      if ((7 : Int32)) < x2 then (
        fX9_ask_b27 a0 x1 x2 M
      ) else (
        Option.bind (fI M 9 a0 3) fun v1_ =>
        Option.bind (pI M 9 a0 3 x2) fun M2_ =>
        some (v1_, M2_)
      )
    )
  ) else (
    fX9_ask_b27 a0 x1 x2 M
  )
def fX8_signOf (a0 : Nat) (x1 : Int32) (x2 : Int32) (M : Mm) : Option (Int32 × Mm) :=
  Option.bind (kc M 8 a0) fun _ =>
  Option.bind (fR M 8 a0 1) fun o1_ =>
  Option.bind (fX5_signAt o1_ x1 M) fun q2_ =>
  Option.bind (some q2_.1) fun n3_ =>
  Option.elim n3_ (
    Option.bind (fX8_refused a0 ((-5 : Int32)) q2_.2) fun q5_ =>
    some (q5_.1, q5_.2)
  ) (fun o4_ =>
    if x2 = (0 : Int32) then (
      Option.bind (fI q2_.2 4 o4_ 1) fun v6_ =>
      some (v6_, q2_.2)
    ) else
    if x2 = (1 : Int32) then (
      Option.bind (fI q2_.2 4 o4_ 2) fun v7_ =>
      some (v7_, q2_.2)
    ) else
    if x2 = (2 : Int32) then (
      Option.bind (fI q2_.2 4 o4_ 3) fun v8_ =>
      some (v8_, q2_.2)
    ) else
    if x2 = (3 : Int32) then (
      Option.bind (fI q2_.2 4 o4_ 4) fun v9_ =>
      some (v9_, q2_.2)
    ) else
    Option.bind (fX8_refused a0 ((-5 : Int32)) q2_.2) fun q10_ =>
    some (q10_.1, q10_.2)
  )
def fX9_signOf (a0 : Nat) (x1 : Int32) (x2 : Int32) (M : Mm) : Option (Int32 × Mm) :=
  Option.bind (kc M 9 a0) fun _ =>
  Option.bind (fX9_isSign a0 x1 M) fun q1_ =>
  if q1_.1 = 0 then (
    Option.bind (fX9_no a0 ((-5 : Int32)) q1_.2) fun q2_ =>
    some (q2_.1, q2_.2)
  ) else (
    if x2 < 0 then (
      Option.bind (fX9_no a0 ((-5 : Int32)) q1_.2) fun q3_ =>
      some (q3_.1, q3_.2)
    ) else (
      if x2 ≤ ((3 : Int32)) then (
        if x2 = 0 then (
          Option.bind (fR q1_.2 9 a0 14) fun o10_ =>
          Option.bind (aI q1_.2 o10_ x1) fun v11_ =>
          some (v11_, q1_.2)
        ) else (
          if x2 = ((1 : Int32)) then (
            Option.bind (fR q1_.2 9 a0 15) fun o8_ =>
            Option.bind (aI q1_.2 o8_ x1) fun v9_ =>
            some (v9_, q1_.2)
          ) else (
            if x2 = ((2 : Int32)) then (
              Option.bind (fR q1_.2 9 a0 16) fun o6_ =>
              Option.bind (aI q1_.2 o6_ x1) fun v7_ =>
              some (v7_, q1_.2)
            ) else (
              Option.bind (fR q1_.2 9 a0 17) fun o4_ =>
              Option.bind (aI q1_.2 o4_ x1) fun v5_ =>
              some (v5_, q1_.2)
            )
          )
        )
      ) else (
        Option.bind (fX9_no a0 ((-5 : Int32)) q1_.2) fun q12_ =>
        some (q12_.1, q12_.2)
      )
    )
  )
def fX5_thingAt (a0 : Nat) (x1 : Int32) (M : Mm) : Option (Option Nat × Mm) :=
  Option.bind (kc M 5 a0) fun _ =>
  if x1 < 0 then (
    some (none, M)
  ) else (
    Option.bind (fI M 5 a0 9) fun v1_ =>
    if v1_ ≤ x1 then (
      some (none, M)
    ) else (
      if x1 < ((8 : Int32)) then (
        Option.bind (fR M 5 a0 8) fun o2_ =>
        Option.bind (aR M 24 o2_ x1) fun n3_ =>
        some (n3_, M)
      ) else (
        some (none, M)
      )
    )
  )
def fX8_thingOf (a0 : Nat) (x1 : Int32) (x2 : Int32) (M : Mm) : Option (Int32 × Mm) :=
  Option.bind (kc M 8 a0) fun _ =>
  Option.bind (fR M 8 a0 1) fun o1_ =>
  Option.bind (fX5_thingAt o1_ x1 M) fun q2_ =>
  Option.bind (some q2_.1) fun n3_ =>
  Option.elim n3_ (
    Option.bind (fX8_refused a0 ((-5 : Int32)) q2_.2) fun q5_ =>
    some (q5_.1, q5_.2)
  ) (fun o4_ =>
    if x2 = (0 : Int32) then (
      Option.bind (fI q2_.2 6 o4_ 0) fun v6_ =>
      some (v6_, q2_.2)
    ) else
    if x2 = (1 : Int32) then (
      Option.bind (fI q2_.2 6 o4_ 1) fun v7_ =>
      if v7_ = 0 then (
        some ((0 : Int32), q2_.2)
      ) else (
        some ((1 : Int32), q2_.2)
      )
    ) else
    if x2 = (2 : Int32) then (
      Option.bind (fI q2_.2 6 o4_ 2) fun v8_ =>
      some (v8_, q2_.2)
    ) else
    Option.bind (fX8_refused a0 ((-5 : Int32)) q2_.2) fun q9_ =>
    some (q9_.1, q9_.2)
  )
def fX9_thingOf (a0 : Nat) (x1 : Int32) (x2 : Int32) (M : Mm) : Option (Int32 × Mm) :=
  Option.bind (kc M 9 a0) fun _ =>
  if x1 < 0 then (
    Option.bind (fX9_no a0 ((-5 : Int32)) M) fun q1_ =>
    some (q1_.1, q1_.2)
  ) else (
    Option.bind (fI M 9 a0 7) fun v2_ =>
    if v2_ ≤ x1 then (
      Option.bind (fX9_no a0 ((-5 : Int32)) M) fun q3_ =>
      some (q3_.1, q3_.2)
    ) else (
      if x2 < 0 then (
        Option.bind (fX9_no a0 ((-5 : Int32)) M) fun q4_ =>
        some (q4_.1, q4_.2)
      ) else (
        if x2 ≤ ((2 : Int32)) then (
          if x2 = 0 then (
            Option.bind (fR M 9 a0 18) fun o9_ =>
            Option.bind (aI M o9_ x1) fun v10_ =>
            some (v10_, M)
          ) else (
            if x2 = ((1 : Int32)) then (
              Option.bind (fR M 9 a0 19) fun o7_ =>
              Option.bind (aI M o7_ x1) fun v8_ =>
              some (v8_, M)
            ) else (
              Option.bind (fR M 9 a0 20) fun o5_ =>
              Option.bind (aI M o5_ x1) fun v6_ =>
              some (v6_, M)
            )
          )
        ) else (
          Option.bind (fX9_no a0 ((-5 : Int32)) M) fun q11_ =>
          some (q11_.1, q11_.2)
        )
      )
    )
  )
def fX5_removeThing_b44  (a0 : Nat) (M : Mm) : Option (Mm) :=
  Option.bind (fI M 5 a0 9) fun v1_ =>
  Option.bind (pI M 5 a0 9 (v1_ - ((1 : Int32)))) fun M2_ =>
  some M2_
def fX5_removeThing_b6  : Nat → Nat → Int32 → Mm → Option (Mm)
  | 0, _, _, _ => none
  | n + 1, a0, x2, M =>
    Option.bind (fI M 5 a0 9) fun v1_ =>
    if v1_ ≤ (x2 + ((1 : Int32))) then (
      fX5_removeThing_b44 a0 M
    ) else (
      if ((8 : Int32)) ≤ (x2 + ((1 : Int32))) then (
        fX5_removeThing_b44 a0 M
      ) else (
        Option.bind (fR M 5 a0 8) fun o2_ =>
        Option.bind (fR M 5 a0 8) fun o3_ =>
        Option.bind (aR M 24 o3_ (x2 + ((1 : Int32)))) fun n4_ =>
        Option.bind (tR M 24 6 o2_ x2 n4_) fun M5_ =>
        (fX5_removeThing_b6 n) a0 (x2 + (1 : Int32)) M5_
      )
    )
def fX5_removeThing (a0 : Nat) (x1 : Int32) (M : Mm) : Option (Mm) :=
  Option.bind (kc M 5 a0) fun _ =>
  fX5_removeThing_b6 FU a0 (mxI x1 ((0 : Int32))) M
def fX8_clear (a0 : Nat) (x1 : Int32) (M : Mm) : Option (Int32 × Mm) :=
  Option.bind (kc M 8 a0) fun _ =>
  Option.bind (fR M 8 a0 1) fun o1_ =>
  Option.bind (fX5_thingAt o1_ x1 M) fun q2_ =>
  Option.bind (some q2_.1) fun n3_ =>
  Option.elim n3_ (
    Option.bind (fX8_refused a0 ((-1 : Int32)) q2_.2) fun q5_ =>
    some (q5_.1, q5_.2)
  ) (fun o4_ =>
    Option.bind (fR q2_.2 8 a0 1) fun o6_ =>
    Option.bind (fX5_removeThing o6_ x1 q2_.2) fun M7_ =>
    Option.bind (fR M7_ 8 a0 1) fun o8_ =>
    Option.bind (fI M7_ 5 o8_ 9) fun v9_ =>
    some (v9_, M7_)
  )
def fX9_clear_b30  : Nat → Nat → Int32 → Mm → Option (Int32 × Mm)
  | 0, _, _, _ => none
  | n + 1, a0, x2, M =>
    Option.bind (fI M 9 a0 7) fun v1_ =>
    if v1_ ≤ x2 then (
      Option.bind (fI M 9 a0 7) fun v2_ =>
      some (v2_, M)
    ) else (
      Option.bind (fR M 9 a0 18) fun o3_ =>
      Option.bind (fR M 9 a0 18) fun o4_ =>
      Option.bind (aI M o4_ (x2 + ((1 : Int32)))) fun v5_ =>
      Option.bind (tI M o3_ x2 v5_) fun M6_ =>
      Option.bind (fR M6_ 9 a0 19) fun o7_ =>
      Option.bind (fR M6_ 9 a0 19) fun o8_ =>
      Option.bind (aI M6_ o8_ (x2 + ((1 : Int32)))) fun v9_ =>
      Option.bind (tI M6_ o7_ x2 v9_) fun M10_ =>
      Option.bind (fR M10_ 9 a0 20) fun o11_ =>
      Option.bind (fR M10_ 9 a0 20) fun o12_ =>
      Option.bind (aI M10_ o12_ (x2 + ((1 : Int32)))) fun v13_ =>
      Option.bind (tI M10_ o11_ x2 v13_) fun M14_ =>
      (fX9_clear_b30 n) a0 (x2 + (1 : Int32)) M14_
    )
def fX9_clear (a0 : Nat) (x1 : Int32) (M : Mm) : Option (Int32 × Mm) :=
  Option.bind (kc M 9 a0) fun _ =>
  if x1 < 0 then (
    Option.bind (fX9_no a0 ((-1 : Int32)) M) fun q1_ =>
    some (q1_.1, q1_.2)
  ) else (
    Option.bind (fI M 9 a0 7) fun v2_ =>
    if x1 < v2_ then (
      Option.bind (fI M 9 a0 7) fun v3_ =>
      Option.bind (pI M 9 a0 7 (v3_ - ((1 : Int32)))) fun M4_ =>
      fX9_clear_b30 FU a0 x1 M4_
    ) else (
      Option.bind (fX9_no a0 ((-1 : Int32)) M) fun q5_ =>
      some (q5_.1, q5_.2)
    )
  )
def fX0_becomeLike (a0 : Nat) (a1 : Nat) (M : Mm) : Option (Mm) :=
  Option.bind (kc M 0 a0) fun _ =>
  Option.bind (fR M 0 a1 0) fun o1_ =>
  Option.bind (fR M 0 a0 0) fun o2_ =>
  Option.bind (cJ M o1_ ((0 : Int32)) o2_ ((0 : Int32)) ((24 : Int32))) fun M3_ =>
  some M3_
def fX5_becomeLike_b84  : Nat → Nat → Nat → Int32 → Mm → Option (Mm)
  | 0, _, _, _, _ => none
  | n + 1, a0, a1, x2, M =>
    if ((8 : Int32)) ≤ x2 then (
      Option.bind (fI M 5 a1 9) fun v1_ =>
      Option.bind (pI M 5 a0 9 v1_) fun M2_ =>
      Option.bind (fR M2_ 5 a0 10) fun o3_ =>
      Option.bind (fR M2_ 5 a1 10) fun o4_ =>
      Option.bind (fX0_becomeLike o3_ o4_ M2_) fun M5_ =>
      Option.bind (fI M5_ 5 a1 11) fun v6_ =>
      Option.bind (pI M5_ 5 a0 11 v6_) fun M7_ =>
      Option.bind (fI M7_ 5 a1 12) fun v8_ =>
      Option.bind (pI M7_ 5 a0 12 v8_) fun M9_ =>
      Option.bind (fI M9_ 5 a1 13) fun v10_ =>
      Option.bind (pI M9_ 5 a0 13 v10_) fun M11_ =>
      Option.bind (fI M11_ 5 a1 14) fun v12_ =>
      Option.bind (pI M11_ 5 a0 14 v12_) fun M13_ =>
      some M13_
    ) else (
      Option.bind (fR M 5 a0 8) fun o14_ =>
      Option.bind (fR M 5 a1 8) fun o15_ =>
      Option.bind (aR M 24 o15_ x2) fun n16_ =>
      Option.bind (tR M 24 6 o14_ x2 n16_) fun M17_ =>
      (fX5_becomeLike_b84 n) a0 a1 (x2 + (1 : Int32)) M17_
    )
def fX5_becomeLike_b50  : Nat → Nat → Nat → Int32 → Mm → Option (Mm)
  | 0, _, _, _, _ => none
  | n + 1, a0, a1, x2, M =>
    if ((8 : Int32)) ≤ x2 then (
      Option.bind (fI M 5 a1 7) fun v1_ =>
      Option.bind (pI M 5 a0 7 v1_) fun M2_ =>
      fX5_becomeLike_b84 FU a0 a1 ((0 : Int32)) M2_
    ) else (
      Option.bind (fR M 5 a0 6) fun o3_ =>
      Option.bind (fR M 5 a1 6) fun o4_ =>
      Option.bind (aR M 23 o4_ x2) fun n5_ =>
      Option.bind (tR M 23 4 o3_ x2 n5_) fun M6_ =>
      (fX5_becomeLike_b50 n) a0 a1 (x2 + (1 : Int32)) M6_
    )
def fX5_becomeLike (a0 : Nat) (a1 : Nat) (M : Mm) : Option (Mm) :=
  Option.bind (kc M 5 a0) fun _ =>
  Option.bind (fI M 5 a1 0) fun v1_ =>
  Option.bind (pI M 5 a0 0 v1_) fun M2_ =>
  Option.bind (fI M2_ 5 a1 1) fun v3_ =>
  Option.bind (pI M2_ 5 a0 1 v3_) fun M4_ =>
  Option.bind (fI M4_ 5 a1 2) fun v5_ =>
  Option.bind (pI M4_ 5 a0 2 v5_) fun M6_ =>
  Option.bind (fI M6_ 5 a1 3) fun v7_ =>
  Option.bind (pI M6_ 5 a0 3 v7_) fun M8_ =>
  Option.bind (fI M8_ 5 a1 4) fun v9_ =>
  Option.bind (pZ M8_ 5 a0 4 v9_) fun M10_ =>
  Option.bind (fI M10_ 5 a1 5) fun v11_ =>
  Option.bind (pI M10_ 5 a0 5 v11_) fun M12_ =>
  fX5_becomeLike_b50 FU a0 a1 ((0 : Int32)) M12_
def fX2_init (a0 : Nat) (a1 : Nat) (a2 : Nat) (M : Mm) : Option (Mm) :=
  Option.bind (kc M 2 a0) fun _ =>
  Option.bind (pI M 2 a0 2 ((0 : Int32))) fun M1_ =>
  Option.bind (pI M1_ 2 a0 3 ((-1 : Int32))) fun M2_ =>
  Option.bind (pZ M2_ 2 a0 4 ((0 : Int32))) fun M3_ =>
  Option.bind (pR M3_ 2 a0 0 a1) fun M4_ =>
  Option.bind (pR M4_ 2 a0 1 a2) fun M5_ =>
  some M5_
def fX2_letter (a0 : Nat) (M : Mm) : Option (Int32 × Mm) :=
  Option.bind (kc M 2 a0) fun _ =>
  Option.bind (fI M 2 a0 2) fun v1_ =>
  Option.bind (fR M 2 a0 0) fun o2_ =>
  Option.bind (fI M 3 o2_ 1) fun v3_ =>
  if v3_ ≤ v1_ then (
    some ((-1 : Int32), M)
  ) else (
    Option.bind (fI M 2 a0 2) fun v4_ =>
    if ((160 : Int32)) ≤ v4_ then (
      some ((-1 : Int32), M)
    ) else (
      Option.bind (fR M 2 a0 0) fun o5_ =>
      Option.bind (fR M 3 o5_ 2) fun o6_ =>
      Option.bind (fI M 2 a0 2) fun v7_ =>
      Option.bind (aJ M o6_ v7_) fun v8_ =>
      some (v8_.toInt32, M)
    )
  )
def fX2_wordWith (x0 : Int32) (M : Mm) : Option (Nat × Mm) :=
  if x0 = (97 : Int32) then (
    some (7, M)
  ) else
  if x0 = (104 : Int32) then (
    some (8, M)
  ) else
  if x0 = (108 : Int32) then (
    some (3, M)
  ) else
  if x0 = (115 : Int32) then (
    some (4, M)
  ) else
  if x0 = (116 : Int32) then (
    some (5, M)
  ) else
  if x0 = (119 : Int32) then (
    some (6, M)
  ) else
  some (9, M)
def fX2_pass (a0 : Nat) (x1 : Int32) (M : Mm) : Option (Mm) :=
  Option.bind (kc M 2 a0) fun _ =>
  Option.bind (fX2_letter a0 M) fun q1_ =>
  if q1_.1 = x1 then (
    Option.bind (fI q1_.2 2 a0 2) fun v4_ =>
    Option.bind (pI q1_.2 2 a0 2 (v4_ + ((1 : Int32)))) fun M5_ =>
    some M5_
  ) else (
    Option.bind (fI q1_.2 2 a0 2) fun v2_ =>
    Option.bind (pI q1_.2 2 a0 3 v2_) fun M3_ =>
    some M3_
  )
def fX2_readNumber_b90  (a0 : Nat) (x1 : Int32) (x2 : Int32) (x3 : Int32) (x4 : Int32) (M : Mm) : Option (Int32 × Mm) :=
  Option.bind (fI M 2 a0 2) fun v1_ =>
  if v1_ = x3 then (
    Option.bind (pI M 2 a0 3 x3) fun M2_ =>
    some (x4, M2_)
  ) else (
    if x4 < x1 then (
      Option.bind (pI M 2 a0 3 x3) fun M3_ =>
      some (x4, M3_)
    ) else (
      if x4 ≤ x2 then (
        some (x4, M)
      ) else (
        Option.bind (pI M 2 a0 3 x3) fun M4_ =>
        some (x4, M4_)
      )
    )
  )
def fX2_readNumber_b35  : Nat → Nat → Int32 → Int32 → Int32 → Int32 → Int32 → Mm → Option (Int32 × Mm)
  | 0, _, _, _, _, _, _, _ => none
  | n + 1, a0, x1, x2, x3, x4, x5, M =>
    if ((3 : Int32)) ≤ x5 then (
      fX2_readNumber_b90 a0 x1 x2 x3 x4 M
    ) else (
      Option.bind (fX2_letter a0 M) fun q1_ =>
      if q1_.1 < ((48 : Int32)) then (
        fX2_readNumber_b90 a0 x1 x2 x3 x4 q1_.2
      ) else (
        Option.bind (fX2_letter a0 q1_.2) fun q2_ =>
        if ((57 : Int32)) < q2_.1 then (
          fX2_readNumber_b90 a0 x1 x2 x3 x4 q2_.2
        ) else (
          Option.bind (fX2_letter a0 q2_.2) fun q3_ =>
          Option.bind (fI q3_.2 2 a0 2) fun v4_ =>
          Option.bind (pI q3_.2 2 a0 2 (v4_ + ((1 : Int32)))) fun M5_ =>
          (fX2_readNumber_b35 n) a0 x1 x2 x3 (((((10 : Int32)) * x4) + q3_.1) - ((48 : Int32))) (x5 + (1 : Int32)) M5_
        )
      )
    )
def fX2_readNumber_b14  (a0 : Nat) (x1 : Int32) (x2 : Int32) (M : Mm) : Option (Int32 × Mm) :=
  Option.bind (fI M 2 a0 3) fun v1_ =>
  if v1_ = ((-1 : Int32)) then (
    Option.bind (fI M 2 a0 2) fun v2_ =>
    fX2_readNumber_b35 FU a0 x1 x2 v2_ ((0 : Int32)) ((0 : Int32)) M
  ) else (
    some (x1, M)
  )
def fX2_readNumber (a0 : Nat) (x1 : Int32) (x2 : Int32) (M : Mm) : Option (Int32 × Mm) :=
  Option.bind (kc M 2 a0) fun _ =>
  Option.bind (fI M 2 a0 3) fun v1_ =>
  if v1_ = ((-1 : Int32)) then (
    Option.bind (fX2_pass a0 ((32 : Int32)) M) fun M2_ =>
    fX2_readNumber_b14 a0 x1 x2 M2_
  ) else (
    fX2_readNumber_b14 a0 x1 x2 M
  )
def fJ0_isEmpty_aae02 (a0 : Nat) (M : Mm) : Option (Int32 × Mm) :=
  Option.bind (kc M 31 a0) fun _ =>
  Option.bind (kc M 31 a0) fun u_ =>
  Option.bind (aL M (a0 + 7)) fun v1_ =>
  if v1_ = 0 then (
    some ((1 : Int32), M)
  ) else (
    some ((0 : Int32), M)
  )
def fJ0_coder_7d493 (a0 : Nat) (M : Mm) : Option (Int32 × Mm) :=
  Option.bind (kc M 31 a0) fun _ =>
  if ((1 : Int32)) = 0 then (
    some ((1 : Int32), M)
  ) else (
    Option.bind (kc M 31 a0) fun u_ =>
    some ((0 : Int32), M)
  )
def fJ0_length_8abf5 (a0 : Nat) (M : Mm) : Option (Int32 × Mm) :=
  Option.bind (kc M 31 a0) fun _ =>
  Option.bind (kc M 31 a0) fun u_ =>
  Option.bind (aL M (a0 + 7)) fun v1_ =>
  Option.bind (fJ0_coder_7d493 a0 M) fun q2_ =>
  some (v1_ >>> (q2_.1 &&& 31), q2_.2)
def fJ0_isLatin1_aae02 (a0 : Nat) (M : Mm) : Option (Int32 × Mm) :=
  Option.bind (kc M 31 a0) fun _ =>
  if ((1 : Int32)) = 0 then (
    some ((0 : Int32), M)
  ) else (
    Option.bind (kc M 31 a0) fun u_ =>
    if ((0 : Int32)) = 0 then (
      some ((1 : Int32), M)
    ) else (
      some ((0 : Int32), M)
    )
  )
def fJ3_checkIndex_8e157 (x0 : Int32) (x1 : Int32) (a2 : Option Nat) (M : Mm) : Option (Int32 × Mm) :=
  if x0 < 0 then (
    none
  ) else (
    if x0 < x1 then (
      some (x0, M)
    ) else (
      none
    )
  )
def fJ0_checkIndex_df160 (x0 : Int32) (x1 : Int32) (M : Mm) : Option (Mm) :=
  Option.bind (fJ3_checkIndex_8e157 x0 x1 (mR M 18 0) M) fun q1_ =>
  some q1_.2
def fJ1_charAt_3b067 (a0 : Nat) (x1 : Int32) (M : Mm) : Option (Int32 × Mm) :=
  Option.bind (aL M a0) fun v1_ =>
  Option.bind (fJ0_checkIndex_df160 x1 v1_ M) fun M2_ =>
  Option.bind (aB M2_ a0 x1) fun v3_ =>
  Option.bind (rC (((v3_ &&& ((255 : Int32))).toUInt32 % 65536).toInt32)) fun v4_ =>
  some (v4_, M2_)
def fJ0_charAt_5068e (a0 : Nat) (x1 : Int32) (M : Mm) : Option (Int32 × Mm) :=
  Option.bind (kc M 31 a0) fun _ =>
  Option.bind (fJ0_isLatin1_aae02 a0 M) fun q1_ =>
  if q1_.1 = 0 then (
    Option.bind (kc q1_.2 31 a0) fun u_ =>
    none
  ) else (
    Option.bind (kc q1_.2 31 a0) fun u_ =>
    Option.bind (fJ1_charAt_3b067 (a0 + 7) x1 q1_.2) fun q2_ =>
    Option.bind (rC q2_.1) fun v3_ =>
    some (v3_, q2_.2)
  )
def fX2_readWord_b17  : Nat → Nat → Nat → Int32 → Mm → Option (Mm)
  | 0, _, _, _, _ => none
  | n + 1, a0, a1, x2, M =>
    Option.bind (fJ0_length_8abf5 a1 M) fun q1_ =>
    if q1_.1 ≤ x2 then (
      some q1_.2
    ) else (
      Option.bind (fI q1_.2 2 a0 3) fun v2_ =>
      if v2_ = ((-1 : Int32)) then (
        Option.bind (fJ0_charAt_5068e a1 x2 q1_.2) fun q3_ =>
        Option.bind (fX2_pass a0 q3_.1 q3_.2) fun M4_ =>
        (fX2_readWord_b17 n) a0 a1 (x2 + (1 : Int32)) M4_
      ) else (
        some q1_.2
      )
    )
def fX2_readWord (a0 : Nat) (a1 : Nat) (M : Mm) : Option (Mm) :=
  Option.bind (kc M 2 a0) fun _ =>
  Option.bind (fJ0_isEmpty_aae02 a1 M) fun q1_ =>
  if q1_.1 = 0 then (
    fX2_readWord_b17 FU a0 a1 ((0 : Int32)) q1_.2
  ) else (
    Option.bind (fI q1_.2 2 a0 2) fun v2_ =>
    Option.bind (pI q1_.2 2 a0 3 v2_) fun M3_ =>
    fX2_readWord_b17 FU a0 a1 ((0 : Int32)) M3_
  )
def fX2_readLength (a0 : Nat) (M : Mm) : Option (Mm) :=
  Option.bind (kc M 2 a0) fun _ =>
  Option.bind (fX2_readNumber a0 ((2 : Int32)) ((24 : Int32)) M) fun q1_ =>
  Option.bind (fI q1_.2 2 a0 3) fun v2_ =>
  if v2_ = ((-1 : Int32)) then (
    Option.bind (fR q1_.2 2 a0 1) fun o3_ =>
    Option.bind (fX5_tellLength o3_ q1_.1 q1_.2) fun M4_ =>
    Option.bind (pZ M4_ 2 a0 4 ((1 : Int32))) fun M5_ =>
    some M5_
  ) else (
    some q1_.2
  )
def fX2_readSign_b15  (a0 : Nat) (M : Mm) : Option (Mm) :=
  Option.bind (fX2_readNumber a0 ((0 : Int32)) ((6 : Int32)) M) fun q1_ =>
  Option.bind (fR q1_.2 2 a0 1) fun o2_ =>
  Option.bind (fI q1_.2 5 o2_ 0) fun v3_ =>
  Option.bind (fX2_readNumber a0 ((0 : Int32)) (v3_ - ((1 : Int32))) q1_.2) fun q4_ =>
  Option.bind (fX2_readNumber a0 ((1 : Int32)) ((10 : Int32)) q4_.2) fun q5_ =>
  Option.bind (fX2_readNumber a0 ((0 : Int32)) ((255 : Int32)) q5_.2) fun q6_ =>
  Option.bind (fI q6_.2 2 a0 3) fun v7_ =>
  if v7_ = ((-1 : Int32)) then (
    Option.bind (fR q6_.2 2 a0 1) fun o8_ =>
    Option.bind (fX5_addSign o8_ q1_.1 q4_.1 q5_.1 q6_.1 q6_.2) fun q9_ =>
    some q9_.2
  ) else (
    some q6_.2
  )
def fX2_readSign (a0 : Nat) (x1 : Int32) (M : Mm) : Option (Mm) :=
  Option.bind (kc M 2 a0) fun _ =>
  Option.bind (fR M 2 a0 1) fun o1_ =>
  Option.bind (fX5_hasRoomForSign o1_ M) fun q2_ =>
  if q2_.1 = 0 then (
    Option.bind (pI q2_.2 2 a0 3 x1) fun M3_ =>
    fX2_readSign_b15 a0 M3_
  ) else (
    fX2_readSign_b15 a0 q2_.2
  )
def fX2_readThing_b15  (a0 : Nat) (M : Mm) : Option (Mm) :=
  Option.bind (fR M 2 a0 1) fun o1_ =>
  Option.bind (fI M 5 o1_ 0) fun v2_ =>
  Option.bind (fX2_readNumber a0 ((0 : Int32)) (v2_ - ((1 : Int32))) M) fun q3_ =>
  Option.bind (fX2_readNumber a0 ((0 : Int32)) ((1 : Int32)) q3_.2) fun q4_ =>
  Option.bind (fX2_readNumber a0 ((1 : Int32)) ((10 : Int32)) q4_.2) fun q5_ =>
  Option.bind (fI q5_.2 2 a0 3) fun v6_ =>
  if v6_ = ((-1 : Int32)) then (
    Option.bind (fR q5_.2 2 a0 1) fun o7_ =>
    if q4_.1 = ((1 : Int32)) then (
      Option.bind (fX5_addThing o7_ q3_.1 ((1 : Int32)) q5_.1 q5_.2) fun q9_ =>
      some q9_.2
    ) else (
      Option.bind (fX5_addThing o7_ q3_.1 ((0 : Int32)) q5_.1 q5_.2) fun q8_ =>
      some q8_.2
    )
  ) else (
    some q5_.2
  )
def fX2_readThing (a0 : Nat) (x1 : Int32) (M : Mm) : Option (Mm) :=
  Option.bind (kc M 2 a0) fun _ =>
  Option.bind (fR M 2 a0 1) fun o1_ =>
  Option.bind (fX5_hasRoomForThing o1_ M) fun q2_ =>
  if q2_.1 = 0 then (
    Option.bind (pI q2_.2 2 a0 3 x1) fun M3_ =>
    fX2_readThing_b15 a0 M3_
  ) else (
    fX2_readThing_b15 a0 q2_.2
  )
def fX2_readWander (a0 : Nat) (M : Mm) : Option (Mm) :=
  Option.bind (kc M 2 a0) fun _ =>
  Option.bind (fX2_readNumber a0 ((0 : Int32)) ((10 : Int32)) M) fun q1_ =>
  Option.bind (fX2_readNumber a0 ((0 : Int32)) (((10 : Int32)) - q1_.1) q1_.2) fun q2_ =>
  Option.bind (fR q2_.2 2 a0 1) fun o3_ =>
  Option.bind (pI q2_.2 5 o3_ 1 q1_.1) fun M4_ =>
  Option.bind (fR M4_ 2 a0 1) fun o5_ =>
  Option.bind (pI M4_ 5 o5_ 2 q2_.1) fun M6_ =>
  some M6_
def fX2_readItem (a0 : Nat) (M : Mm) : Option (Mm) :=
  Option.bind (kc M 2 a0) fun _ =>
  Option.bind (fI M 2 a0 2) fun v1_ =>
  Option.bind (fX2_letter a0 M) fun q2_ =>
  Option.bind (fX2_wordWith q2_.1 q2_.2) fun q3_ =>
  Option.bind (fX2_readWord a0 q3_.1 q3_.2) fun M4_ =>
  Option.bind (fI M4_ 2 a0 3) fun v5_ =>
  if v5_ = ((-1 : Int32)) then (
    if q2_.1 = (97 : Int32) then (
      Option.bind (fR M4_ 2 a0 1) fun o6_ =>
      Option.bind (fX2_readNumber a0 ((1 : Int32)) ((9 : Int32)) M4_) fun q7_ =>
      Option.bind (pI q7_.2 5 o6_ 5 q7_.1) fun M8_ =>
      some M8_
    ) else
    if q2_.1 = (108 : Int32) then (
      Option.bind (fX2_readLength a0 M4_) fun M9_ =>
      some M9_
    ) else
    if q2_.1 = (115 : Int32) then (
      Option.bind (fX2_readSign a0 v1_ M4_) fun M10_ =>
      some M10_
    ) else
    if q2_.1 = (116 : Int32) then (
      Option.bind (fX2_readThing a0 v1_ M4_) fun M11_ =>
      some M11_
    ) else
    if q2_.1 = (119 : Int32) then (
      Option.bind (fX2_readWander a0 M4_) fun M12_ =>
      some M12_
    ) else
    Option.bind (fR M4_ 2 a0 1) fun o13_ =>
    Option.bind (fX2_readNumber a0 ((0 : Int32)) ((7 : Int32)) M4_) fun q14_ =>
    Option.bind (pI q14_.2 5 o13_ 3 q14_.1) fun M15_ =>
    some M15_
  ) else (
    some M4_
  )
def fX2_readItems_b4  : Nat → Nat → Int32 → Int32 → Mm → Option (Int32 × Mm)
  | 0, _, _, _, _ => none
  | n + 1, a0, x1, x2, M =>
    if ((160 : Int32)) < x2 then (
      some (x1, M)
    ) else (
      Option.bind (fI M 2 a0 3) fun v1_ =>
      if v1_ = ((-1 : Int32)) then (
        Option.bind (fX2_readItem a0 M) fun M2_ =>
        Option.bind (fI M2_ 2 a0 3) fun v3_ =>
        if v3_ = ((-1 : Int32)) then (
          Option.bind (fI M2_ 2 a0 2) fun v4_ =>
          Option.bind (fR M2_ 2 a0 0) fun o5_ =>
          Option.bind (fI M2_ 3 o5_ 1) fun v6_ =>
          if v4_ < v6_ then (
            Option.bind (fX2_pass a0 ((59 : Int32)) M2_) fun M7_ =>
            (fX2_readItems_b4 n) a0 (x1 + (1 : Int32)) (x2 + (1 : Int32)) M7_
          ) else (
            some (x1 + (1 : Int32), M2_)
          )
        ) else (
          (fX2_readItems_b4 n) a0 x1 (x2 + (1 : Int32)) M2_
        )
      ) else (
        some (x1, M)
      )
    )
def fX2_readItems (a0 : Nat) (M : Mm) : Option (Int32 × Mm) :=
  Option.bind (kc M 2 a0) fun _ =>
  fX2_readItems_b4 FU a0 ((0 : Int32)) ((0 : Int32)) M
def fX8_town (a0 : Nat) (x1 : Int32) (M : Mm) : Option (Int32 × Mm) :=
  Option.bind (kc M 8 a0) fun _ =>
  Option.bind (fX8_shelfAt a0 x1 M) fun q1_ =>
  Option.bind (some q1_.1) fun n2_ =>
  Option.bind (fX8_rowTrouble n2_ q1_.2) fun q3_ =>
  Option.elim n2_ (
    Option.bind (fX8_refused a0 q3_.1 q3_.2) fun q5_ =>
    some (q5_.1, q5_.2)
  ) (fun o4_ =>
    if q3_.1 = 0 then (
      Option.bind (fR q3_.2 8 a0 2) fun o6_ =>
      Option.bind (fR q3_.2 8 a0 1) fun o7_ =>
      Option.bind (fX5_becomeLike o6_ o7_ q3_.2) fun M8_ =>
      Option.bind (nO M8_ 2 5) fun q9_ =>
      Option.bind (fR q9_.2 8 a0 2) fun o10_ =>
      Option.bind (fX2_init q9_.1 o4_ o10_ q9_.2) fun M11_ =>
      Option.bind (fX2_readItems q9_.1 M11_) fun q12_ =>
      Option.bind (fI q12_.2 2 q9_.1 3) fun v13_ =>
      Option.bind (pI q12_.2 8 a0 6 v13_) fun M14_ =>
      Option.bind (fI M14_ 8 a0 6) fun v15_ =>
      if v15_ = ((-1 : Int32)) then (
        Option.bind (fR M14_ 8 a0 2) fun o16_ =>
        Option.bind (fX5_knowNothing o16_ M14_) fun M17_ =>
        Option.bind (fR M17_ 8 a0 1) fun o18_ =>
        Option.bind (fR M17_ 8 a0 2) fun o19_ =>
        Option.bind (fX5_becomeLike o18_ o19_ M17_) fun M20_ =>
        Option.bind (fI M20_ 2 q9_.1 4) fun v21_ =>
        if v21_ = 0 then (
          some (q12_.1, M20_)
        ) else (
          Option.bind (fX8_dropSignsFrom a0 ((0 : Int32)) M20_) fun M22_ =>
          some (q12_.1, M22_)
        )
      ) else (
        Option.bind (fX8_refused a0 ((-6 : Int32)) M14_) fun q23_ =>
        some (q23_.1, q23_.2)
      )
    ) else (
      Option.bind (fX8_refused a0 q3_.1 q3_.2) fun q24_ =>
      some (q24_.1, q24_.2)
    )
  )
def fX9_keeps_b3  : Nat → Nat → Int32 → Nat → Int32 → Int32 → Int32 → Mm → Option (Int32 × Mm)
  | 0, _, _, _, _, _, _, _ => none
  | n + 1, a1, x2, a3, x4, x5, x6, M =>
    if x2 ≤ x6 then (
      some (x4 + x2, M)
    ) else (
      if x5 = 0 then (
        Option.bind (aI M a1 x6) fun v1_ =>
        Option.bind (tI M a3 (x4 + x6) v1_) fun M2_ =>
        (fX9_keeps_b3 n) a1 x2 a3 x4 x5 (x6 + (1 : Int32)) M2_
      ) else (
        Option.bind (aI M a3 (x4 + x6)) fun v3_ =>
        Option.bind (tI M a1 x6 v3_) fun M4_ =>
        (fX9_keeps_b3 n) a1 x2 a3 x4 x5 (x6 + (1 : Int32)) M4_
      )
    )
def fX9_keeps (a0 : Nat) (a1 : Nat) (x2 : Int32) (a3 : Nat) (x4 : Int32) (x5 : Int32) (M : Mm) : Option (Int32 × Mm) :=
  Option.bind (kc M 9 a0) fun _ =>
  fX9_keeps_b3 FU a1 x2 a3 x4 x5 ((0 : Int32)) M
def fX9_all_b114  : Nat → Nat → Nat → Nat → Int32 → Int32 → Int32 → Mm → Option (Mm)
  | 0, _, _, _, _, _, _, _ => none
  | n + 1, a0, a1, a2, x3, x4, x5, M =>
    if ((24 : Int32)) ≤ x5 then (
      if x3 = 0 then (
        Option.bind (fI M 9 a0 0) fun v1_ =>
        Option.bind (tI M a1 x4 v1_) fun M2_ =>
        Option.bind (fI M2_ 9 a0 1) fun v3_ =>
        Option.bind (tI M2_ a1 (x4 + ((1 : Int32))) v3_) fun M4_ =>
        Option.bind (fI M4_ 9 a0 2) fun v5_ =>
        Option.bind (tI M4_ a1 (x4 + ((2 : Int32))) v5_) fun M6_ =>
        Option.bind (fI M6_ 9 a0 3) fun v7_ =>
        Option.bind (tI M6_ a1 (x4 + ((3 : Int32))) v7_) fun M8_ =>
        Option.bind (fI M8_ 9 a0 4) fun v9_ =>
        Option.bind (tI M8_ a1 (x4 + ((4 : Int32))) v9_) fun M10_ =>
        Option.bind (fI M10_ 9 a0 5) fun v11_ =>
        Option.bind (tI M10_ a1 (x4 + ((5 : Int32))) v11_) fun M12_ =>
        Option.bind (fI M12_ 9 a0 6) fun v13_ =>
        Option.bind (tI M12_ a1 (x4 + ((6 : Int32))) v13_) fun M14_ =>
        Option.bind (fI M14_ 9 a0 7) fun v15_ =>
        Option.bind (tI M14_ a1 (x4 + ((7 : Int32))) v15_) fun M16_ =>
        Option.bind (fI M16_ 9 a0 8) fun v17_ =>
        Option.bind (tI M16_ a1 (x4 + ((8 : Int32))) v17_) fun M18_ =>
        Option.bind (fI M18_ 9 a0 9) fun v19_ =>
        Option.bind (tI M18_ a1 (x4 + ((9 : Int32))) v19_) fun M20_ =>
        Option.bind (fI M20_ 9 a0 10) fun v21_ =>
        Option.bind (tI M20_ a1 (x4 + ((10 : Int32))) v21_) fun M22_ =>
        Option.bind (fI M22_ 9 a0 11) fun v23_ =>
        Option.bind (tI M22_ a1 (x4 + ((11 : Int32))) v23_) fun M24_ =>
        some M24_
      ) else (
        Option.bind (aI M a1 x4) fun v25_ =>
        Option.bind (pI M 9 a0 0 v25_) fun M26_ =>
        Option.bind (aI M26_ a1 (x4 + ((1 : Int32)))) fun v27_ =>
        Option.bind (pI M26_ 9 a0 1 v27_) fun M28_ =>
        Option.bind (aI M28_ a1 (x4 + ((2 : Int32)))) fun v29_ =>
        Option.bind (pI M28_ 9 a0 2 v29_) fun M30_ =>
        Option.bind (aI M30_ a1 (x4 + ((3 : Int32)))) fun v31_ =>
        Option.bind (pI M30_ 9 a0 3 v31_) fun M32_ =>
        Option.bind (aI M32_ a1 (x4 + ((4 : Int32)))) fun v33_ =>
        Option.bind (pI M32_ 9 a0 4 v33_) fun M34_ =>
        Option.bind (aI M34_ a1 (x4 + ((5 : Int32)))) fun v35_ =>
        Option.bind (pI M34_ 9 a0 5 v35_) fun M36_ =>
        Option.bind (aI M36_ a1 (x4 + ((6 : Int32)))) fun v37_ =>
        Option.bind (pI M36_ 9 a0 6 v37_) fun M38_ =>
        Option.bind (aI M38_ a1 (x4 + ((7 : Int32)))) fun v39_ =>
        Option.bind (pI M38_ 9 a0 7 v39_) fun M40_ =>
        Option.bind (aI M40_ a1 (x4 + ((8 : Int32)))) fun v41_ =>
        Option.bind (pI M40_ 9 a0 8 v41_) fun M42_ =>
        Option.bind (aI M42_ a1 (x4 + ((9 : Int32)))) fun v43_ =>
        Option.bind (pI M42_ 9 a0 9 v43_) fun M44_ =>
        Option.bind (aI M44_ a1 (x4 + ((10 : Int32)))) fun v45_ =>
        Option.bind (pI M44_ 9 a0 10 v45_) fun M46_ =>
        Option.bind (aI M46_ a1 (x4 + ((11 : Int32)))) fun v47_ =>
        Option.bind (pI M46_ 9 a0 11 v47_) fun M48_ =>
        some M48_
      )
    ) else (
      if x3 = 0 then (
        Option.bind (fR M 9 a0 21) fun o49_ =>
        Option.bind (aJ M o49_ x5) fun v50_ =>
        Option.bind (tJ M a2 x5 v50_) fun M51_ =>
        (fX9_all_b114 n) a0 a1 a2 x3 x4 (x5 + (1 : Int32)) M51_
      ) else (
        Option.bind (fR M 9 a0 21) fun o52_ =>
        Option.bind (aJ M a2 x5) fun v53_ =>
        Option.bind (tJ M o52_ x5 v53_) fun M54_ =>
        (fX9_all_b114 n) a0 a1 a2 x3 x4 (x5 + (1 : Int32)) M54_
      )
    )
def fX9_all (a0 : Nat) (a1 : Nat) (a2 : Nat) (x3 : Int32) (M : Mm) : Option (Mm) :=
  Option.bind (kc M 9 a0) fun _ =>
  Option.bind (fR M 9 a0 14) fun o1_ =>
  Option.bind (fX9_keeps a0 o1_ ((8 : Int32)) a1 ((0 : Int32)) x3 M) fun q2_ =>
  Option.bind (fR q2_.2 9 a0 15) fun o3_ =>
  Option.bind (fX9_keeps a0 o3_ ((8 : Int32)) a1 q2_.1 x3 q2_.2) fun q4_ =>
  Option.bind (fR q4_.2 9 a0 16) fun o5_ =>
  Option.bind (fX9_keeps a0 o5_ ((8 : Int32)) a1 q4_.1 x3 q4_.2) fun q6_ =>
  Option.bind (fR q6_.2 9 a0 17) fun o7_ =>
  Option.bind (fX9_keeps a0 o7_ ((8 : Int32)) a1 q6_.1 x3 q6_.2) fun q8_ =>
  Option.bind (fR q8_.2 9 a0 18) fun o9_ =>
  Option.bind (fX9_keeps a0 o9_ ((8 : Int32)) a1 q8_.1 x3 q8_.2) fun q10_ =>
  Option.bind (fR q10_.2 9 a0 19) fun o11_ =>
  Option.bind (fX9_keeps a0 o11_ ((8 : Int32)) a1 q10_.1 x3 q10_.2) fun q12_ =>
  Option.bind (fR q12_.2 9 a0 20) fun o13_ =>
  Option.bind (fX9_keeps a0 o13_ ((8 : Int32)) a1 q12_.1 x3 q12_.2) fun q14_ =>
  fX9_all_b114 FU a0 a1 a2 x3 q14_.1 ((0 : Int32)) q14_.2
def fX9_isWordAt_b86  (a0 : Nat) (x2 : Int32) (M : Mm) : Option (Int32 × Mm) :=
  Option.bind (fR M 9 a0 30) fun o1_ =>
  Option.bind (aI M o1_ x2) fun v2_ =>
  if ((32 : Int32)) < v2_ then (
    some ((0 : Int32), M)
  ) else (
    some ((1 : Int32), M)
  )
def fX9_isWordAt_b37  : Nat → Nat → Int32 → Int32 → Mm → Option (Int32 × Mm)
  | 0, _, _, _, _ => none
  | n + 1, a0, x2, x3, M =>
    Option.bind (fR M 9 a0 30) fun o1_ =>
    Option.bind (aI M o1_ x2) fun v2_ =>
    if v2_ ≤ ((32 : Int32)) then (
      fX9_isWordAt_b86 a0 x2 M
    ) else (
      Option.bind (fI M 9 a0 34) fun v3_ =>
      if v3_ ≤ x3 then (
        fX9_isWordAt_b86 a0 x2 M
      ) else (
        Option.bind (fR M 9 a0 27) fun o4_ =>
        Option.bind (fI M 9 a0 32) fun v5_ =>
        Option.bind (aJ M o4_ (v5_ + x3)) fun v6_ =>
        Option.bind (fR M 9 a0 30) fun o7_ =>
        Option.bind (aI M o7_ x2) fun v8_ =>
        if v6_.toInt32 = v8_ then (
          (fX9_isWordAt_b37 n) a0 (x2 + (1 : Int32)) (x3 + (1 : Int32)) M
        ) else (
          fX9_isWordAt_b86 a0 x2 M
        )
      )
    )
def fX9_isWordAt_b24 (k4 : Nat → Int32 → Int32 → Int32 → Mm → Option (Int32 × Mm)) (a0 : Nat) (x1 : Int32) (x2 : Int32) (s0 : Int32) (s1 : Int32) (M : Mm) : Option (Int32 × Mm) :=
  k4 a0 x1 (x2 + (1 : Int32)) (s0 + s1) M
def fX9_isWordAt_b4  : Nat → Nat → Int32 → Int32 → Int32 → Mm → Option (Int32 × Mm)
  | 0, _, _, _, _, _ => none
  | n + 1, a0, x1, x2, x3, M =>
    if x1 ≤ x3 then (
      Option.bind (fI M 9 a0 33) fun v1_ =>
      fX9_isWordAt_b37 FU a0 x2 v1_ M
    ) else (
      Option.bind (fR M 9 a0 30) fun o2_ =>
      Option.bind (aI M o2_ x2) fun v3_ =>
      if v3_ = 0 then (
        fX9_isWordAt_b24 (fX9_isWordAt_b4 n) a0 x1 x2 x3 ((1 : Int32)) M
      ) else (
        fX9_isWordAt_b24 (fX9_isWordAt_b4 n) a0 x1 x2 x3 ((0 : Int32)) M
      )
    )
def fX9_isWordAt (a0 : Nat) (x1 : Int32) (M : Mm) : Option (Int32 × Mm) :=
  Option.bind (kc M 9 a0) fun _ =>
  fX9_isWordAt_b4 FU a0 x1 ((0 : Int32)) ((0 : Int32)) M
def fX9_isFull_b14  (a0 : Nat) (x1 : Int32) (M : Mm) : Option (Int32 × Mm) :=
  if x1 = ((2 : Int32)) then (
    Option.bind (fI M 9 a0 7) fun v1_ =>
    if v1_ = ((8 : Int32)) then (
      some ((1 : Int32), M)
    ) else (
      some ((0 : Int32), M)
    )
  ) else (
    some ((0 : Int32), M)
  )
def fX9_isFull (a0 : Nat) (x1 : Int32) (M : Mm) : Option (Int32 × Mm) :=
  Option.bind (kc M 9 a0) fun _ =>
  if x1 = ((1 : Int32)) then (
    Option.bind (fI M 9 a0 6) fun v1_ =>
    if v1_ = ((8 : Int32)) then (
      some ((1 : Int32), M)
    ) else (
      fX9_isFull_b14 a0 x1 M
    )
  ) else (
    fX9_isFull_b14 a0 x1 M
  )
def fX9_wrong (a0 : Nat) (x1 : Int32) (M : Mm) : Option (Int32 × Mm) :=
  Option.bind (kc M 9 a0) fun _ =>
  Option.bind (pI M 9 a0 36 x1) fun M1_ =>
  some ((0 : Int32), M1_)
def fX9_word_b106 (k9 : Nat → Int32 → Int32 → Int32 → Mm → Option (Int32 × Mm)) : Nat → Nat → Int32 → Int32 → Int32 → Mm → Option (Int32 × Mm)
  | 0, _, _, _, _, _ => none
  | n + 1, a0, x1, x2, x3, M =>
    Option.bind (fR M 9 a0 30) fun o1_ =>
    Option.bind (aI M o1_ x1) fun v2_ =>
    if v2_ = 0 then (
      k9 a0 (x1 + (1 : Int32)) x2 (x3 + (1 : Int32)) M
    ) else (
      (fX9_word_b106 k9 n) a0 (x1 + (1 : Int32)) x2 x3 M
    )
def fX9_word_b75 (k9 : Nat → Int32 → Int32 → Int32 → Mm → Option (Int32 × Mm)) (a0 : Nat) (x1 : Int32) (x2 : Int32) (x3 : Int32) (x4 : Int32) (x5 : Int32) (M : Mm) : Option (Int32 × Mm) :=
  Option.bind (fR M 9 a0 30) fun o1_ =>
  Option.bind (aI M o1_ x5) fun v2_ =>
  if v2_ = 0 then (
    Option.bind (pI M 9 a0 33 x4) fun M3_ =>
    some (x3, M3_)
  ) else (
    if x4 ≤ x2 then (
      fX9_word_b106 k9 FU a0 x1 x2 x3 M
    ) else (
      fX9_word_b106 k9 FU a0 x1 x4 x3 M
    )
  )
def fX9_word_b24 (k9 : Nat → Int32 → Int32 → Int32 → Mm → Option (Int32 × Mm)) : Nat → Nat → Int32 → Int32 → Int32 → Int32 → Int32 → Mm → Option (Int32 × Mm)
  | 0, _, _, _, _, _, _, _ => none
  | n + 1, a0, x1, x2, x3, x4, x5, M =>
    Option.bind (fR M 9 a0 30) fun o1_ =>
    Option.bind (aI M o1_ x5) fun v2_ =>
    if v2_ = 0 then (
      fX9_word_b75 k9 a0 x1 x2 x3 x4 x5 M
    ) else (
      Option.bind (fI M 9 a0 34) fun v3_ =>
      if v3_ ≤ x4 then (
        fX9_word_b75 k9 a0 x1 x2 x3 x4 x5 M
      ) else (
        Option.bind (fR M 9 a0 27) fun o4_ =>
        Option.bind (fI M 9 a0 32) fun v5_ =>
        Option.bind (aJ M o4_ (v5_ + x4)) fun v6_ =>
        Option.bind (fR M 9 a0 30) fun o7_ =>
        Option.bind (aI M o7_ x5) fun v8_ =>
        if v6_.toInt32 = v8_ then (
          (fX9_word_b24 k9 n) a0 x1 x2 x3 (x4 + (1 : Int32)) (x5 + (1 : Int32)) M
        ) else (
          fX9_word_b75 k9 a0 x1 x2 x3 x4 x5 M
        )
      )
    )
def fX9_word_b9  : Nat → Nat → Int32 → Int32 → Int32 → Mm → Option (Int32 × Mm)
  | 0, _, _, _, _, _ => none
  | n + 1, a0, x1, x2, x3, M =>
    if ((6 : Int32)) ≤ x3 then (
      Option.bind (pI M 9 a0 36 x2) fun M1_ =>
      some ((-1 : Int32), M1_)
    ) else (
      Option.bind (fI M 9 a0 33) fun v2_ =>
      fX9_word_b24 (fX9_word_b9 n) FU a0 x1 x2 x3 v2_ x1 M
    )
def fX9_word (a0 : Nat) (M : Mm) : Option (Int32 × Mm) :=
  Option.bind (kc M 9 a0) fun _ =>
  Option.bind (fI M 9 a0 33) fun v1_ =>
  fX9_word_b9 FU a0 ((0 : Int32)) v1_ ((0 : Int32)) M
def fX9_low_b28  (x1 : Int32) (M : Mm) : Option (Int32 × Mm) :=
  if x1 = ((4 : Int32)) then (
    some ((1 : Int32), M)
  ) else (
    some ((0 : Int32), M)
  )
def fX9_low_b18  (x1 : Int32) (x2 : Int32) (M : Mm) : Option (Int32 × Mm) :=
  if x1 = ((2 : Int32)) then (
    if x2 = ((2 : Int32)) then (
      some ((1 : Int32), M)
    ) else (
      fX9_low_b28 x1 M
    )
  ) else (
    fX9_low_b28 x1 M
  )
def fX9_low (a0 : Nat) (x1 : Int32) (x2 : Int32) (M : Mm) : Option (Int32 × Mm) :=
  Option.bind (kc M 9 a0) fun _ =>
  if x1 = 0 then (
    some ((2 : Int32), M)
  ) else (
    if x1 = ((1 : Int32)) then (
      if x2 = ((2 : Int32)) then (
        some ((1 : Int32), M)
      ) else (
        fX9_low_b18 x1 x2 M
      )
    ) else (
      fX9_low_b18 x1 x2 M
    )
  )
def fX9_top (a0 : Nat) (x1 : Int32) (x2 : Int32) (M : Mm) : Option (Int32 × Mm) :=
  Option.bind (kc M 9 a0) fun _ =>
  if x1 = (0 : Int32) then (
    some ((24 : Int32), M)
  ) else
  if x1 = (1 : Int32) then (
    if x2 = 0 then (
      some ((6 : Int32), M)
    ) else (
      if x2 = ((1 : Int32)) then (
        Option.bind (fI M 9 a0 0) fun v1_ =>
        some (v1_ - ((1 : Int32)), M)
      ) else (
        if x2 = ((2 : Int32)) then (
          some ((10 : Int32), M)
        ) else (
          some ((255 : Int32), M)
        )
      )
    )
  ) else
  if x1 = (2 : Int32) then (
    if x2 = 0 then (
      Option.bind (fI M 9 a0 0) fun v2_ =>
      some (v2_ - ((1 : Int32)), M)
    ) else (
      if x2 = ((1 : Int32)) then (
        some ((1 : Int32), M)
      ) else (
        some ((10 : Int32), M)
      )
    )
  ) else
  if x1 = (3 : Int32) then (
    if x2 = 0 then (
      some ((10 : Int32), M)
    ) else (
      Option.bind (fR M 9 a0 31) fun o3_ =>
      Option.bind (aI M o3_ ((0 : Int32))) fun v4_ =>
      some (((10 : Int32)) - v4_, M)
    )
  ) else
  if x1 = (4 : Int32) then (
    some ((9 : Int32), M)
  ) else
  some ((7 : Int32), M)
def fX9_isDigit (a0 : Nat) (M : Mm) : Option (Int32 × Mm) :=
  Option.bind (kc M 9 a0) fun _ =>
  Option.bind (fI M 9 a0 33) fun v1_ =>
  Option.bind (fI M 9 a0 34) fun v2_ =>
  if v2_ ≤ v1_ then (
    some ((0 : Int32), M)
  ) else (
    Option.bind (fR M 9 a0 27) fun o3_ =>
    Option.bind (fI M 9 a0 32) fun v4_ =>
    Option.bind (fI M 9 a0 33) fun v5_ =>
    Option.bind (aJ M o3_ (v4_ + v5_)) fun v6_ =>
    if v6_.toInt32 < ((48 : Int32)) then (
      some ((0 : Int32), M)
    ) else (
      Option.bind (fR M 9 a0 27) fun o7_ =>
      Option.bind (fI M 9 a0 32) fun v8_ =>
      Option.bind (fI M 9 a0 33) fun v9_ =>
      Option.bind (aJ M o7_ (v8_ + v9_)) fun v10_ =>
      if ((57 : Int32)) < v10_.toInt32 then (
        some ((0 : Int32), M)
      ) else (
        some ((1 : Int32), M)
      )
    )
  )
def fX9_number_b104  (a0 : Nat) (x3 : Int32) (M : Mm) : Option (Int32 × Mm) :=
  Option.bind (fX9_wrong a0 x3 M) fun q1_ =>
  if q1_.1 = 0 then (
    some ((0 : Int32), q1_.2)
  ) else (
    some ((1 : Int32), q1_.2)
  )
def fX9_number_b88  (a0 : Nat) (x1 : Int32) (x2 : Int32) (x3 : Int32) (M : Mm) : Option (Int32 × Mm) :=
  Option.bind (fI M 9 a0 35) fun v1_ =>
  if v1_ < x1 then (
    fX9_number_b104 a0 x3 M
  ) else (
    Option.bind (fI M 9 a0 35) fun v2_ =>
    if v2_ ≤ x2 then (
      some ((1 : Int32), M)
    ) else (
      fX9_number_b104 a0 x3 M
    )
  )
def fX9_number_b29  : Nat → Nat → Int32 → Int32 → Int32 → Int32 → Mm → Option (Int32 × Mm)
  | 0, _, _, _, _, _, _ => none
  | n + 1, a0, x1, x2, x3, x4, M =>
    if ((3 : Int32)) ≤ x4 then (
      fX9_number_b88 a0 x1 x2 x3 M
    ) else (
      Option.bind (fX9_isDigit a0 M) fun q1_ =>
      if q1_.1 = 0 then (
        fX9_number_b88 a0 x1 x2 x3 q1_.2
      ) else (
        Option.bind (fI q1_.2 9 a0 35) fun v2_ =>
        Option.bind (fR q1_.2 9 a0 27) fun o3_ =>
        Option.bind (fI q1_.2 9 a0 32) fun v4_ =>
        Option.bind (fI q1_.2 9 a0 33) fun v5_ =>
        Option.bind (aJ q1_.2 o3_ (v4_ + v5_)) fun v6_ =>
        Option.bind (pI q1_.2 9 a0 35 (((((10 : Int32)) * v2_) + v6_.toInt32) - ((48 : Int32)))) fun M7_ =>
        Option.bind (fI M7_ 9 a0 33) fun v8_ =>
        Option.bind (pI M7_ 9 a0 33 (v8_ + ((1 : Int32)))) fun M9_ =>
        (fX9_number_b29 n) a0 x1 x2 x3 (x4 + (1 : Int32)) M9_
      )
    )
def fX9_number (a0 : Nat) (x1 : Int32) (x2 : Int32) (M : Mm) : Option (Int32 × Mm) :=
  Option.bind (kc M 9 a0) fun _ =>
  Option.bind (fI M 9 a0 33) fun v1_ =>
  Option.bind (pI M 9 a0 35 ((0 : Int32))) fun M2_ =>
  Option.bind (fX9_isDigit a0 M2_) fun q3_ =>
  if q3_.1 = 0 then (
    Option.bind (fI q3_.2 9 a0 33) fun v4_ =>
    Option.bind (fX9_wrong a0 v4_ q3_.2) fun q5_ =>
    Option.bind (rZ q5_.1) fun v6_ =>
    some (v6_, q5_.2)
  ) else (
    fX9_number_b29 FU a0 x1 x2 v1_ ((0 : Int32)) q3_.2
  )
def fX9_item_b183 (k122 : Nat → Int32 → Int32 → Int32 → Mm → Option (Int32 × Mm)) (a0 : Nat) (x2 : Int32) (x3 : Int32) (x4 : Int32) (M : Mm) : Option (Int32 × Mm) :=
  Option.bind (fX9_low a0 x2 x4 M) fun q1_ =>
  Option.bind (fX9_top a0 x2 x4 q1_.2) fun q2_ =>
  Option.bind (fX9_number a0 q1_.1 q2_.1 q2_.2) fun q3_ =>
  if q3_.1 = 0 then (
    some ((0 : Int32), q3_.2)
  ) else (
    Option.bind (fR q3_.2 9 a0 31) fun o4_ =>
    Option.bind (fI q3_.2 9 a0 35) fun v5_ =>
    Option.bind (tI q3_.2 o4_ x4 v5_) fun M6_ =>
    k122 a0 x2 x3 (x4 + (1 : Int32)) M6_
  )
def fX9_item_b122  : Nat → Nat → Int32 → Int32 → Int32 → Mm → Option (Int32 × Mm)
  | 0, _, _, _, _, _ => none
  | n + 1, a0, x2, x3, x4, M =>
    if x3 ≤ x4 then (
      if x2 = (0 : Int32) then (
        Option.bind (fR M 9 a0 31) fun o1_ =>
        Option.bind (aI M o1_ ((0 : Int32))) fun v2_ =>
        Option.bind (fX9_along a0 v2_ M) fun M3_ =>
        some ((1 : Int32), M3_)
      ) else
      if x2 = (1 : Int32) then (
        Option.bind (fR M 9 a0 31) fun o4_ =>
        Option.bind (aI M o4_ ((0 : Int32))) fun v5_ =>
        Option.bind (fR M 9 a0 31) fun o6_ =>
        Option.bind (aI M o6_ ((1 : Int32))) fun v7_ =>
        Option.bind (fR M 9 a0 31) fun o8_ =>
        Option.bind (aI M o8_ ((2 : Int32))) fun v9_ =>
        Option.bind (fR M 9 a0 31) fun o10_ =>
        Option.bind (aI M o10_ ((3 : Int32))) fun v11_ =>
        Option.bind (fX9_signs a0 v5_ v7_ v9_ v11_ M) fun q12_ =>
        some ((1 : Int32), q12_.2)
      ) else
      if x2 = (2 : Int32) then (
        Option.bind (fR M 9 a0 31) fun o13_ =>
        Option.bind (aI M o13_ ((0 : Int32))) fun v14_ =>
        Option.bind (fR M 9 a0 31) fun o15_ =>
        Option.bind (aI M o15_ ((1 : Int32))) fun v16_ =>
        Option.bind (fR M 9 a0 31) fun o17_ =>
        Option.bind (aI M o17_ ((2 : Int32))) fun v18_ =>
        Option.bind (fX9_stands a0 v14_ v16_ v18_ M) fun q19_ =>
        some ((1 : Int32), q19_.2)
      ) else
      if x2 = (3 : Int32) then (
        Option.bind (fR M 9 a0 31) fun o20_ =>
        Option.bind (aI M o20_ ((0 : Int32))) fun v21_ =>
        Option.bind (pI M 9 a0 1 v21_) fun M22_ =>
        Option.bind (fR M22_ 9 a0 31) fun o23_ =>
        Option.bind (aI M22_ o23_ ((1 : Int32))) fun v24_ =>
        Option.bind (pI M22_ 9 a0 2 v24_) fun M25_ =>
        some ((1 : Int32), M25_)
      ) else
      if x2 = (4 : Int32) then (
        Option.bind (fR M 9 a0 31) fun o26_ =>
        Option.bind (aI M o26_ ((0 : Int32))) fun v27_ =>
        Option.bind (pI M 9 a0 5 v27_) fun M28_ =>
        some ((1 : Int32), M28_)
      ) else
      Option.bind (fR M 9 a0 31) fun o29_ =>
      Option.bind (aI M o29_ ((0 : Int32))) fun v30_ =>
      Option.bind (pI M 9 a0 3 v30_) fun M31_ =>
      some ((1 : Int32), M31_)
    ) else (
      if x4 ≤ 0 then (
        fX9_item_b183 (fX9_item_b122 n) a0 x2 x3 x4 M
      ) else (
        Option.bind (fI M 9 a0 33) fun v32_ =>
        Option.bind (fI M 9 a0 34) fun v33_ =>
        if v33_ ≤ v32_ then (
          Option.bind (fI M 9 a0 33) fun v34_ =>
          Option.bind (fX9_wrong a0 v34_ M) fun q35_ =>
          Option.bind (rZ q35_.1) fun v36_ =>
          some (v36_, q35_.2)
        ) else (
          Option.bind (fR M 9 a0 27) fun o37_ =>
          Option.bind (fI M 9 a0 32) fun v38_ =>
          Option.bind (fI M 9 a0 33) fun v39_ =>
          Option.bind (aJ M o37_ (v38_ + v39_)) fun v40_ =>
          if v40_.toInt32 = ((32 : Int32)) then (
            Option.bind (fI M 9 a0 33) fun v41_ =>
            Option.bind (pI M 9 a0 33 (v41_ + ((1 : Int32)))) fun M42_ =>
            fX9_item_b183 (fX9_item_b122 n) a0 x2 x3 x4 M42_
          ) else (
            Option.bind (fI M 9 a0 33) fun v43_ =>
            Option.bind (fX9_wrong a0 v43_ M) fun q44_ =>
            Option.bind (rZ q44_.1) fun v45_ =>
            some (v45_, q44_.2)
          )
        )
      )
    )
def fX9_item_b90  (a0 : Nat) (x2 : Int32) (M : Mm) : Option (Int32 × Mm) :=
  if x2 = ((1 : Int32)) then (
    fX9_item_b122 FU a0 x2 ((4 : Int32)) ((0 : Int32)) M
  ) else (
    if x2 = ((2 : Int32)) then (
      fX9_item_b122 FU a0 x2 ((3 : Int32)) ((0 : Int32)) M
    ) else (
      if x2 = ((3 : Int32)) then (
        fX9_item_b122 FU a0 x2 ((2 : Int32)) ((0 : Int32)) M
      ) else (
        fX9_item_b122 FU a0 x2 ((1 : Int32)) ((0 : Int32)) M
      )
    )
  )
def fX9_item_b70  (a0 : Nat) (x1 : Int32) (x2 : Int32) (M : Mm) : Option (Int32 × Mm) :=
  if x2 = ((2 : Int32)) then (
    Option.bind (fI M 9 a0 7) fun v1_ =>
    if v1_ = ((8 : Int32)) then (
      Option.bind (fX9_wrong a0 x1 M) fun q2_ =>
      Option.bind (rZ q2_.1) fun v3_ =>
      some (v3_, q2_.2)
    ) else (
      fX9_item_b90 a0 x2 M
    )
  ) else (
    fX9_item_b90 a0 x2 M
  )
def fX9_item_b2  : Nat → Nat → Int32 → Mm → Option (Int32 × Mm)
  | 0, _, _, _ => none
  | n + 1, a0, x1, M =>
    if ((6 : Int32)) ≤ x1 then (
      Option.bind (fI M 9 a0 33) fun v1_ =>
      Option.bind (fX9_word a0 M) fun q2_ =>
      if q2_.1 = ((-1 : Int32)) then (
        some ((0 : Int32), q2_.2)
      ) else (
        if q2_.1 = ((1 : Int32)) then (
          Option.bind (fI q2_.2 9 a0 6) fun v3_ =>
          if v3_ = ((8 : Int32)) then (
            Option.bind (fX9_wrong a0 v1_ q2_.2) fun q4_ =>
            Option.bind (rZ q4_.1) fun v5_ =>
            some (v5_, q4_.2)
          ) else (
            fX9_item_b70 a0 v1_ q2_.1 q2_.2
          )
        ) else (
          fX9_item_b70 a0 v1_ q2_.1 q2_.2
        )
      )
    ) else (
      Option.bind (fX9_isWordAt a0 x1 M) fun q6_ =>
      if q6_.1 = 0 then (
        (fX9_item_b2 n) a0 (x1 + (1 : Int32)) q6_.2
      ) else (
        Option.bind (fX9_isFull a0 x1 q6_.2) fun q7_ =>
        if q7_.1 = 0 then (
          (fX9_item_b2 n) a0 (x1 + (1 : Int32)) q7_.2
        ) else (
          Option.bind (fI q7_.2 9 a0 33) fun v8_ =>
          Option.bind (fX9_wrong a0 v8_ q7_.2) fun q9_ =>
          Option.bind (rZ q9_.1) fun v10_ =>
          some (v10_, q9_.2)
        )
      )
    )
def fX9_item (a0 : Nat) (M : Mm) : Option (Int32 × Mm) :=
  Option.bind (kc M 9 a0) fun _ =>
  fX9_item_b2 FU a0 ((0 : Int32)) M
def fX9_town_b142  (a0 : Nat) (x3 : Int32) (x4 : Int32) (M : Mm) : Option (Int32 × Mm) :=
  if x4 = 0 then (
    Option.bind (fR M 9 a0 37) fun o1_ =>
    Option.bind (fR M 9 a0 39) fun o2_ =>
    Option.bind (fX9_all a0 o1_ o2_ ((1 : Int32)) M) fun M3_ =>
    Option.bind (fI M3_ 9 a0 36) fun v4_ =>
    Option.bind (pI M3_ 9 a0 12 v4_) fun M5_ =>
    Option.bind (fX9_no a0 ((-6 : Int32)) M5_) fun q6_ =>
    some (q6_.1, q6_.2)
  ) else (
    Option.bind (fI M 9 a0 29) fun v7_ =>
    if v7_ = 0 then (
      Option.bind (fX9_knows a0 ((-1 : Int32)) M) fun M8_ =>
      some (x3, M8_)
    ) else (
      Option.bind (fX9_empties a0 M) fun M9_ =>
      Option.bind (fX9_knows a0 ((-1 : Int32)) M9_) fun M10_ =>
      some (x3, M10_)
    )
  )
def fX9_town_b71  : Nat → Nat → Int32 → Int32 → Mm → Option (Int32 × Mm)
  | 0, _, _, _, _ => none
  | n + 1, a0, x3, x4, M =>
    if x4 = 0 then (
      fX9_town_b142 a0 x3 x4 M
    ) else (
      Option.bind (fI M 9 a0 33) fun v1_ =>
      Option.bind (fI M 9 a0 34) fun v2_ =>
      if v2_ ≤ v1_ then (
        fX9_town_b142 a0 x3 x4 M
      ) else (
        Option.bind (fR M 9 a0 27) fun o3_ =>
        Option.bind (fI M 9 a0 32) fun v4_ =>
        Option.bind (fI M 9 a0 33) fun v5_ =>
        Option.bind (aJ M o3_ (v4_ + v5_)) fun v6_ =>
        if v6_.toInt32 = ((59 : Int32)) then (
          Option.bind (fI M 9 a0 33) fun v7_ =>
          Option.bind (pI M 9 a0 33 (v7_ + ((1 : Int32)))) fun M8_ =>
          Option.bind (fX9_item a0 M8_) fun q9_ =>
          (fX9_town_b71 n) a0 (x3 + (1 : Int32)) q9_.1 q9_.2
        ) else (
          Option.bind (fI M 9 a0 33) fun v10_ =>
          Option.bind (fX9_wrong a0 v10_ M) fun q11_ =>
          (fX9_town_b71 n) a0 x3 q11_.1 q11_.2
        )
      )
    )
def fX9_town (a0 : Nat) (x1 : Int32) (M : Mm) : Option (Int32 × Mm) :=
  Option.bind (kc M 9 a0) fun _ =>
  Option.bind (fX9_wants a0 x1 M) fun q1_ =>
  if q1_.1 = 0 then (
    Option.bind (fR q1_.2 9 a0 37) fun o2_ =>
    Option.bind (fR q1_.2 9 a0 39) fun o3_ =>
    Option.bind (fX9_all a0 o2_ o3_ ((0 : Int32)) q1_.2) fun M4_ =>
    Option.bind (pI M4_ 9 a0 32 (((160 : Int32)) * x1)) fun M5_ =>
    Option.bind (pI M5_ 9 a0 33 ((0 : Int32))) fun M6_ =>
    Option.bind (fR M6_ 9 a0 25) fun o7_ =>
    Option.bind (aI M6_ o7_ x1) fun v8_ =>
    Option.bind (pI M6_ 9 a0 34 v8_) fun M9_ =>
    Option.bind (pI M9_ 9 a0 12 ((-1 : Int32))) fun M10_ =>
    Option.bind (pZ M10_ 9 a0 29 ((0 : Int32))) fun M11_ =>
    Option.bind (fX9_item a0 M11_) fun q12_ =>
    fX9_town_b71 FU a0 ((1 : Int32)) q12_.1 q12_.2
  ) else (
    Option.bind (fX9_no a0 q1_.1 q1_.2) fun q13_ =>
    some (q13_.1, q13_.2)
  )
def fX8_fault (a0 : Nat) (M : Mm) : Option (Int32 × Mm) :=
  Option.bind (kc M 8 a0) fun _ =>
  Option.bind (fI M 8 a0 6) fun v1_ =>
  some (v1_, M)
def fX9_fault (a0 : Nat) (M : Mm) : Option (Int32 × Mm) :=
  Option.bind (kc M 9 a0) fun _ =>
  Option.bind (fI M 9 a0 12) fun v1_ =>
  some (v1_, M)
def fX0_becomeSure_b2  : Nat → Nat → Int32 → Int32 → Mm → Option (Mm)
  | 0, _, _, _, _ => none
  | n + 1, a0, x1, x2, M =>
    if ((24 : Int32)) ≤ x2 then (
      some M
    ) else (
      Option.bind (fR M 0 a0 0) fun o1_ =>
      if x2 = x1 then (
        Option.bind (tJ M o1_ x2 ((1 : Int64))) fun M3_ =>
        (fX0_becomeSure_b2 n) a0 x1 (x2 + (1 : Int32)) M3_
      ) else (
        Option.bind (tJ M o1_ x2 ((0 : Int64))) fun M2_ =>
        (fX0_becomeSure_b2 n) a0 x1 (x2 + (1 : Int32)) M2_
      )
    )
def fX0_becomeSure (a0 : Nat) (x1 : Int32) (M : Mm) : Option (Mm) :=
  Option.bind (kc M 0 a0) fun _ =>
  fX0_becomeSure_b2 FU a0 x1 ((0 : Int32)) M
def fX5_knowCell (a0 : Nat) (x1 : Int32) (M : Mm) : Option (Mm) :=
  Option.bind (kc M 5 a0) fun _ =>
  Option.bind (fR M 5 a0 10) fun o1_ =>
  Option.bind (fX0_becomeSure o1_ x1 M) fun M2_ =>
  Option.bind (pI M2_ 5 a0 12 ((0 : Int32))) fun M3_ =>
  Option.bind (pI M3_ 5 a0 11 ((0 : Int32))) fun M4_ =>
  some M4_
def fX8_lost_b22  (a0 : Nat) (x1 : Int32) (M : Mm) : Option (Int32 × Mm) :=
  Option.bind (fR M 8 a0 1) fun o1_ =>
  Option.bind (fI M 5 o1_ 12) fun v2_ =>
  if x1 = ((-1 : Int32)) then (
    Option.bind (fR M 8 a0 1) fun o5_ =>
    Option.bind (fX5_knowNothing o5_ M) fun M6_ =>
    some (v2_, M6_)
  ) else (
    Option.bind (fR M 8 a0 1) fun o3_ =>
    Option.bind (fX5_knowCell o3_ x1 M) fun M4_ =>
    some (v2_, M4_)
  )
def fX8_lost (a0 : Nat) (x1 : Int32) (M : Mm) : Option (Int32 × Mm) :=
  Option.bind (kc M 8 a0) fun _ =>
  if x1 = ((-1 : Int32)) then (
    fX8_lost_b22 a0 x1 M
  ) else (
    Option.bind (fR M 8 a0 1) fun o1_ =>
    Option.bind (fX5_hasCell o1_ x1 M) fun q2_ =>
    if q2_.1 = 0 then (
      Option.bind (fX8_refused a0 ((-1 : Int32)) q2_.2) fun q3_ =>
      some (q3_.1, q3_.2)
    ) else (
      fX8_lost_b22 a0 x1 q2_.2
    )
  )
def fX9_lost_b19  (a0 : Nat) (x1 : Int32) (M : Mm) : Option (Int32 × Mm) :=
  Option.bind (fI M 9 a0 8) fun v1_ =>
  Option.bind (fX9_knows a0 x1 M) fun M2_ =>
  some (v1_, M2_)
def fX9_lost (a0 : Nat) (x1 : Int32) (M : Mm) : Option (Int32 × Mm) :=
  Option.bind (kc M 9 a0) fun _ =>
  if x1 = ((-1 : Int32)) then (
    fX9_lost_b19 a0 x1 M
  ) else (
    Option.bind (fX9_isCell a0 x1 M) fun q1_ =>
    if q1_.1 = 0 then (
      Option.bind (fX9_no a0 ((-1 : Int32)) q1_.2) fun q2_ =>
      some (q2_.1, q2_.2)
    ) else (
      fX9_lost_b19 a0 x1 q1_.2
    )
  )
def fX0_all_b4  : Nat → Nat → Int64 → Int32 → Mm → Option (Int64 × Mm)
  | 0, _, _, _, _ => none
  | n + 1, a0, x1, x3, M =>
    if ((24 : Int32)) ≤ x3 then (
      some (x1, M)
    ) else (
      Option.bind (fR M 0 a0 0) fun o1_ =>
      Option.bind (aJ M o1_ x3) fun v2_ =>
      (fX0_all_b4 n) a0 (x1 + v2_) (x3 + (1 : Int32)) M
    )
def fX0_all (a0 : Nat) (M : Mm) : Option (Int64 × Mm) :=
  Option.bind (kc M 0 a0) fun _ =>
  fX0_all_b4 FU a0 ((0 : Int64)) ((0 : Int32)) M
def fX0_at (a0 : Nat) (x1 : Int32) (M : Mm) : Option (Int64 × Mm) :=
  Option.bind (kc M 0 a0) fun _ =>
  if x1 < 0 then (
    some ((0 : Int64), M)
  ) else (
    if x1 < ((24 : Int32)) then (
      Option.bind (fR M 0 a0 0) fun o1_ =>
      Option.bind (aJ M o1_ x1) fun v2_ =>
      some (v2_, M)
    ) else (
      some ((0 : Int64), M)
    )
  )
def fX8_odds (a0 : Nat) (x1 : Int32) (M : Mm) : Option (Int64 × Mm) :=
  Option.bind (kc M 8 a0) fun _ =>
  if x1 = ((-1 : Int32)) then (
    Option.bind (fR M 8 a0 1) fun o7_ =>
    Option.bind (fR M 5 o7_ 10) fun o8_ =>
    Option.bind (fX0_all o8_ M) fun q9_ =>
    some (q9_.1, q9_.2)
  ) else (
    Option.bind (fR M 8 a0 1) fun o1_ =>
    Option.bind (fX5_hasCell o1_ x1 M) fun q2_ =>
    if q2_.1 = 0 then (
      Option.bind (fX8_refused a0 ((-1 : Int32)) q2_.2) fun q3_ =>
      some (q3_.1.toInt64, q3_.2)
    ) else (
      Option.bind (fR q2_.2 8 a0 1) fun o4_ =>
      Option.bind (fR q2_.2 5 o4_ 10) fun o5_ =>
      Option.bind (fX0_at o5_ x1 q2_.2) fun q6_ =>
      some (q6_.1, q6_.2)
    )
  )
def fX9_sum_b4  : Nat → Nat → Int64 → Int32 → Mm → Option (Int64 × Mm)
  | 0, _, _, _, _ => none
  | n + 1, a0, x1, x3, M =>
    Option.bind (fI M 9 a0 0) fun v1_ =>
    if v1_ ≤ x3 then (
      some (x1, M)
    ) else (
      Option.bind (fR M 9 a0 21) fun o2_ =>
      Option.bind (aJ M o2_ x3) fun v3_ =>
      (fX9_sum_b4 n) a0 (x1 + v3_) (x3 + (1 : Int32)) M
    )
def fX9_sum (a0 : Nat) (M : Mm) : Option (Int64 × Mm) :=
  Option.bind (kc M 9 a0) fun _ =>
  fX9_sum_b4 FU a0 ((0 : Int64)) ((0 : Int32)) M
def fX9_odds_b20  (a0 : Nat) (x1 : Int32) (M : Mm) : Option (Int64 × Mm) :=
  if x1 = ((-1 : Int32)) then (
    Option.bind (fX9_sum a0 M) fun q3_ =>
    some (q3_.1, q3_.2)
  ) else (
    Option.bind (fR M 9 a0 21) fun o1_ =>
    Option.bind (aJ M o1_ x1) fun v2_ =>
    some (v2_, M)
  )
def fX9_odds (a0 : Nat) (x1 : Int32) (M : Mm) : Option (Int64 × Mm) :=
  Option.bind (kc M 9 a0) fun _ =>
  if x1 = ((-1 : Int32)) then (
    fX9_odds_b20 a0 x1 M
  ) else (
    Option.bind (fX9_isCell a0 x1 M) fun q1_ =>
    if q1_.1 = 0 then (
      Option.bind (fX9_no a0 ((-1 : Int32)) q1_.2) fun q2_ =>
      some (q2_.1.toInt64, q2_.2)
    ) else (
      fX9_odds_b20 a0 x1 q1_.2
    )
  )
def fX8_strength (a0 : Nat) (x1 : Int32) (x2 : Int32) (M : Mm) : Option (Int32 × Mm) :=
  Option.bind (kc M 8 a0) fun _ =>
  Option.bind (fR M 8 a0 1) fun o1_ =>
  Option.bind (fX5_signAt o1_ x1 M) fun q2_ =>
  Option.bind (some q2_.1) fun n3_ =>
  Option.elim n3_ (
    Option.bind (fX8_refused a0 ((-1 : Int32)) q2_.2) fun q5_ =>
    some (q5_.1, q5_.2)
  ) (fun o4_ =>
    Option.bind (fR q2_.2 8 a0 1) fun o6_ =>
    Option.bind (fX5_hasCell o6_ x2 q2_.2) fun q7_ =>
    if q7_.1 = 0 then (
      Option.bind (fX8_refused a0 ((-1 : Int32)) q7_.2) fun q10_ =>
      some (q10_.1, q10_.2)
    ) else (
      Option.bind (fR q7_.2 8 a0 1) fun o8_ =>
      Option.bind (fX5_tenthsOf o8_ o4_ x2 q7_.2) fun q9_ =>
      some (q9_.1, q9_.2)
    )
  )
def fX9_strength (a0 : Nat) (x1 : Int32) (x2 : Int32) (M : Mm) : Option (Int32 × Mm) :=
  Option.bind (kc M 9 a0) fun _ =>
  Option.bind (fX9_isSign a0 x1 M) fun q1_ =>
  if q1_.1 = 0 then (
    Option.bind (fX9_no a0 ((-1 : Int32)) q1_.2) fun q2_ =>
    some (q2_.1, q2_.2)
  ) else (
    Option.bind (fX9_isCell a0 x2 q1_.2) fun q3_ =>
    if q3_.1 = 0 then (
      Option.bind (fX9_no a0 ((-1 : Int32)) q3_.2) fun q4_ =>
      some (q4_.1, q4_.2)
    ) else (
      Option.bind (fX9_strengthOf a0 x1 x2 q3_.2) fun q5_ =>
      some (q5_.1, q5_.2)
    )
  )
def fX0_move (a0 : Nat) (x1 : Int32) (x2 : Int32) (x3 : Int32) (M : Mm) : Option (Mm) :=
  Option.bind (kc M 0 a0) fun _ =>
  if x2 < 0 then (
    some M
  ) else (
    if ((24 : Int32)) ≤ x2 then (
      some M
    ) else (
      Option.bind (fR M 0 a0 1) fun o1_ =>
      Option.bind (aJ M o1_ x2) fun v2_ =>
      Option.bind (fX0_at a0 x1 M) fun q3_ =>
      Option.bind (tJ q3_.2 o1_ x2 (v2_ + (q3_.1 * x3.toInt64))) fun M4_ =>
      some M4_
    )
  )
def fX5_reach (a0 : Nat) (x1 : Int32) (x2 : Int32) (M : Mm) : Option (Int32 × Mm) :=
  Option.bind (kc M 5 a0) fun _ =>
  Option.bind (fI M 5 a0 0) fun v1_ =>
  some (mxI ((0 : Int32)) (mnI (v1_ - ((1 : Int32))) (x1 + x2)), M)
def fX0_endMoves (a0 : Nat) (M : Mm) : Option (Mm) :=
  Option.bind (kc M 0 a0) fun _ =>
  Option.bind (fR M 0 a0 1) fun o1_ =>
  Option.bind (fR M 0 a0 0) fun o2_ =>
  Option.bind (cJ M o1_ ((0 : Int32)) o2_ ((0 : Int32)) ((24 : Int32))) fun M3_ =>
  Option.bind (fR M3_ 0 a0 1) fun o4_ =>
  Option.bind (fJ7_fill_d0a16 o4_ ((0 : Int64)) M3_) fun M5_ =>
  some M5_
def fX0_commonPart_b9  : Nat → Int64 → Int64 → Int32 → Mm → Option (Int64 × Mm)
  | 0, _, _, _, _ => none
  | n + 1, x4, x6, x8, M =>
    if ((200 : Int32)) ≤ x8 then (
      some (x4, M)
    ) else (
      if x6 = ((0 : Int64)) then (
        some (x4, M)
      ) else (
        Option.bind (mdJ x4 x6) fun z1_ =>
        (fX0_commonPart_b9 n) x6 z1_ (x8 + (1 : Int32)) M
      )
    )
def fX0_commonPart (x0 : Int64) (x2 : Int64) (M : Mm) : Option (Int64 × Mm) :=
  fX0_commonPart_b9 FU x0 x2 ((0 : Int32)) M
def fX0_lessen_b35  : Nat → Nat → Int64 → Int32 → Mm → Option (Mm)
  | 0, _, _, _, _ => none
  | n + 1, a0, x1, x3, M =>
    if ((24 : Int32)) ≤ x3 then (
      some M
    ) else (
      if x1 ≤ ((1 : Int64)) then (
        some M
      ) else (
        Option.bind (fR M 0 a0 0) fun o1_ =>
        Option.bind (aJ M o1_ x3) fun v2_ =>
        Option.bind (dJ v2_ x1) fun z3_ =>
        Option.bind (tJ M o1_ x3 z3_) fun M4_ =>
        (fX0_lessen_b35 n) a0 x1 (x3 + (1 : Int32)) M4_
      )
    )
def fX0_lessen_b4  : Nat → Nat → Int64 → Int32 → Mm → Option (Mm)
  | 0, _, _, _, _ => none
  | n + 1, a0, x1, x3, M =>
    if ((24 : Int32)) ≤ x3 then (
      fX0_lessen_b35 FU a0 x1 ((0 : Int32)) M
    ) else (
      if x1 = ((1 : Int64)) then (
        fX0_lessen_b35 FU a0 x1 ((0 : Int32)) M
      ) else (
        Option.bind (fR M 0 a0 0) fun o1_ =>
        Option.bind (aJ M o1_ x3) fun v2_ =>
        Option.bind (fX0_commonPart x1 v2_ M) fun q3_ =>
        (fX0_lessen_b4 n) a0 q3_.1 (x3 + (1 : Int32)) q3_.2
      )
    )
def fX0_lessen (a0 : Nat) (M : Mm) : Option (Mm) :=
  Option.bind (kc M 0 a0) fun _ =>
  fX0_lessen_b4 FU a0 ((0 : Int64)) ((0 : Int32)) M
def fX5_hearStep_b12  : Nat → Nat → Int32 → Int32 → Mm → Option (Mm)
  | 0, _, _, _, _ => none
  | n + 1, a0, x2, x3, M =>
    Option.bind (fI M 5 a0 0) fun v1_ =>
    if v1_ ≤ x3 then (
      Option.bind (fR M 5 a0 10) fun o2_ =>
      Option.bind (fX0_endMoves o2_ M) fun M3_ =>
      Option.bind (fR M3_ 5 a0 10) fun o4_ =>
      Option.bind (fX0_lessen o4_ M3_) fun M5_ =>
      Option.bind (fI M5_ 5 a0 11) fun v6_ =>
      Option.bind (pI M5_ 5 a0 11 (v6_ + ((1 : Int32)))) fun M7_ =>
      Option.bind (fI M7_ 5 a0 12) fun v8_ =>
      Option.bind (pI M7_ 5 a0 12 (v8_ + ((1 : Int32)))) fun M9_ =>
      some M9_
    ) else (
      Option.bind (fR M 5 a0 10) fun o10_ =>
      Option.bind (fI M 5 a0 1) fun v11_ =>
      Option.bind (fX0_move o10_ x3 x3 v11_ M) fun M12_ =>
      Option.bind (fR M12_ 5 a0 10) fun o13_ =>
      Option.bind (fX5_reach a0 x3 x2 M12_) fun q14_ =>
      Option.bind (fI q14_.2 5 a0 1) fun v15_ =>
      Option.bind (fI q14_.2 5 a0 2) fun v16_ =>
      Option.bind (fX0_move o13_ x3 q14_.1 ((((10 : Int32)) - v15_) - v16_) q14_.2) fun M17_ =>
      Option.bind (fR M17_ 5 a0 10) fun o18_ =>
      Option.bind (fX5_reach a0 x3 (((2 : Int32)) * x2) M17_) fun q19_ =>
      Option.bind (fI q19_.2 5 a0 2) fun v20_ =>
      Option.bind (fX0_move o18_ x3 q19_.1 v20_ q19_.2) fun M21_ =>
      (fX5_hearStep_b12 n) a0 x2 (x3 + (1 : Int32)) M21_
    )
def fX5_hearStep (a0 : Nat) (x1 : Int32) (M : Mm) : Option (Mm) :=
  Option.bind (kc M 5 a0) fun _ =>
  if x1 = 0 then (
    fX5_hearStep_b12 FU a0 ((1 : Int32)) ((0 : Int32)) M
  ) else (
    fX5_hearStep_b12 FU a0 ((-1 : Int32)) ((0 : Int32)) M
  )
def fX8_step (a0 : Nat) (x1 : Int32) (M : Mm) : Option (Int32 × Mm) :=
  Option.bind (kc M 8 a0) fun _ =>
  Option.bind (fR M 8 a0 1) fun o1_ =>
  Option.bind (fI M 5 o1_ 12) fun v2_ =>
  if v2_ < ((16 : Int32)) then (
    Option.bind (fR M 8 a0 1) fun o3_ =>
    Option.bind (fX5_hearStep o3_ x1 M) fun M4_ =>
    Option.bind (fR M4_ 8 a0 1) fun o5_ =>
    Option.bind (fI M4_ 5 o5_ 12) fun v6_ =>
    some (v6_, M4_)
  ) else (
    Option.bind (fX8_refused a0 ((-7 : Int32)) M) fun q7_ =>
    some (q7_.1, q7_.2)
  )
def fX9_goneTo_b13  (a0 : Nat) (s0 : Int32) (M : Mm) : Option (Int32 × Mm) :=
  if 0 ≤ s0 then (
    Option.bind (fI M 9 a0 0) fun v1_ =>
    if s0 < v1_ then (
      some (s0, M)
    ) else (
      Option.bind (fI M 9 a0 0) fun v2_ =>
      some (v2_ - ((1 : Int32)), M)
    )
  ) else (
    some ((0 : Int32), M)
  )
def fX9_goneTo (a0 : Nat) (x1 : Int32) (x2 : Int32) (x3 : Int32) (M : Mm) : Option (Int32 × Mm) :=
  Option.bind (kc M 9 a0) fun _ =>
  if x3 = 0 then (
    fX9_goneTo_b13 a0 (x1 + x2) M
  ) else (
    fX9_goneTo_b13 a0 (x1 - x2) M
  )
def fX9_lessens_b68  : Nat → Nat → Int64 → Int32 → Mm → Option (Mm)
  | 0, _, _, _, _ => none
  | n + 1, a0, x1, x3, M =>
    Option.bind (fI M 9 a0 0) fun v1_ =>
    if v1_ ≤ x3 then (
      some M
    ) else (
      Option.bind (fR M 9 a0 21) fun o2_ =>
      Option.bind (aJ M o2_ x3) fun v3_ =>
      Option.bind (dJ v3_ x1) fun z4_ =>
      Option.bind (tJ M o2_ x3 z4_) fun M5_ =>
      (fX9_lessens_b68 n) a0 x1 (x3 + (1 : Int32)) M5_
    )
def fX9_lessens_b23 (k4 : Nat → Int64 → Int32 → Mm → Option (Mm)) : Nat → Nat → Int32 → Int64 → Int64 → Mm → Option (Mm)
  | 0, _, _, _, _, _ => none
  | n + 1, a0, x3, x4, x6, M =>
    if x6 = ((0 : Int64)) then (
      k4 a0 x4 (x3 + (1 : Int32)) M
    ) else (
      Option.bind (mdJ x4 x6) fun z1_ =>
      (fX9_lessens_b23 k4 n) a0 x3 x6 z1_ M
    )
def fX9_lessens_b4  : Nat → Nat → Int64 → Int32 → Mm → Option (Mm)
  | 0, _, _, _, _ => none
  | n + 1, a0, x1, x3, M =>
    Option.bind (fI M 9 a0 0) fun v1_ =>
    if v1_ ≤ x3 then (
      if ((2 : Int64)) ≤ x1 then (
        fX9_lessens_b68 FU a0 x1 ((0 : Int32)) M
      ) else (
        some M
      )
    ) else (
      Option.bind (fR M 9 a0 21) fun o2_ =>
      Option.bind (aJ M o2_ x3) fun v3_ =>
      fX9_lessens_b23 (fX9_lessens_b4 n) FU a0 x3 x1 v3_ M
    )
def fX9_lessens (a0 : Nat) (M : Mm) : Option (Mm) :=
  Option.bind (kc M 9 a0) fun _ =>
  fX9_lessens_b4 FU a0 ((0 : Int64)) ((0 : Int32)) M
def fX9_steps_b124  : Nat → Nat → Int32 → Mm → Option (Mm)
  | 0, _, _, _ => none
  | n + 1, a0, x2, M =>
    Option.bind (fI M 9 a0 0) fun v1_ =>
    if v1_ ≤ x2 then (
      Option.bind (fX9_lessens a0 M) fun M2_ =>
      Option.bind (fI M2_ 9 a0 8) fun v3_ =>
      Option.bind (pI M2_ 9 a0 8 (v3_ + ((1 : Int32)))) fun M4_ =>
      Option.bind (fI M4_ 9 a0 9) fun v5_ =>
      Option.bind (pI M4_ 9 a0 9 (v5_ + ((1 : Int32)))) fun M6_ =>
      some M6_
    ) else (
      Option.bind (fR M 9 a0 21) fun o7_ =>
      Option.bind (fR M 9 a0 22) fun o8_ =>
      Option.bind (aJ M o8_ x2) fun v9_ =>
      Option.bind (tJ M o7_ x2 v9_) fun M10_ =>
      (fX9_steps_b124 n) a0 (x2 + (1 : Int32)) M10_
    )
def fX9_steps_b25  : Nat → Nat → Int32 → Int32 → Mm → Option (Mm)
  | 0, _, _, _, _ => none
  | n + 1, a0, x1, x2, M =>
    Option.bind (fI M 9 a0 0) fun v1_ =>
    if v1_ ≤ x2 then (
      fX9_steps_b124 FU a0 ((0 : Int32)) M
    ) else (
      Option.bind (fR M 9 a0 22) fun o2_ =>
      Option.bind (aJ M o2_ x2) fun v3_ =>
      Option.bind (fI M 9 a0 1) fun v4_ =>
      Option.bind (fR M 9 a0 21) fun o5_ =>
      Option.bind (aJ M o5_ x2) fun v6_ =>
      Option.bind (tJ M o2_ x2 (v3_ + (v4_.toInt64 * v6_))) fun M7_ =>
      Option.bind (fR M7_ 9 a0 22) fun o8_ =>
      Option.bind (fX9_goneTo a0 x2 ((2 : Int32)) x1 M7_) fun q9_ =>
      Option.bind (aJ q9_.2 o8_ q9_.1) fun v10_ =>
      Option.bind (fI q9_.2 9 a0 2) fun v11_ =>
      Option.bind (fR q9_.2 9 a0 21) fun o12_ =>
      Option.bind (aJ q9_.2 o12_ x2) fun v13_ =>
      Option.bind (tJ q9_.2 o8_ q9_.1 (v10_ + (v11_.toInt64 * v13_))) fun M14_ =>
      Option.bind (fR M14_ 9 a0 22) fun o15_ =>
      Option.bind (fX9_goneTo a0 x2 ((1 : Int32)) x1 M14_) fun q16_ =>
      Option.bind (aJ q16_.2 o15_ q16_.1) fun v17_ =>
      Option.bind (fI q16_.2 9 a0 1) fun v18_ =>
      Option.bind (fI q16_.2 9 a0 2) fun v19_ =>
      Option.bind (fR q16_.2 9 a0 21) fun o20_ =>
      Option.bind (aJ q16_.2 o20_ x2) fun v21_ =>
      Option.bind (tJ q16_.2 o15_ q16_.1 (v17_ + ((((((10 : Int32)) - v18_) - v19_).toInt64) * v21_))) fun M22_ =>
      (fX9_steps_b25 n) a0 x1 (x2 + (1 : Int32)) M22_
    )
def fX9_steps_b2  : Nat → Nat → Int32 → Int32 → Mm → Option (Mm)
  | 0, _, _, _, _ => none
  | n + 1, a0, x1, x2, M =>
    Option.bind (fI M 9 a0 0) fun v1_ =>
    if v1_ ≤ x2 then (
      fX9_steps_b25 FU a0 x1 ((0 : Int32)) M
    ) else (
      Option.bind (fR M 9 a0 22) fun o2_ =>
      Option.bind (tJ M o2_ x2 ((0 : Int64))) fun M3_ =>
      (fX9_steps_b2 n) a0 x1 (x2 + (1 : Int32)) M3_
    )
def fX9_steps (a0 : Nat) (x1 : Int32) (M : Mm) : Option (Mm) :=
  Option.bind (kc M 9 a0) fun _ =>
  fX9_steps_b2 FU a0 x1 ((0 : Int32)) M
def fX9_step (a0 : Nat) (x1 : Int32) (M : Mm) : Option (Int32 × Mm) :=
  Option.bind (kc M 9 a0) fun _ =>
  Option.bind (fI M 9 a0 8) fun v1_ =>
  if v1_ = ((16 : Int32)) then (
    Option.bind (fX9_no a0 ((-7 : Int32)) M) fun q4_ =>
    some (q4_.1, q4_.2)
  ) else (
    Option.bind (fX9_steps a0 x1 M) fun M2_ =>
    Option.bind (fI M2_ 9 a0 8) fun v3_ =>
    some (v3_, M2_)
  )
def fX5_timesOf (a0 : Nat) (a1 : Nat) (x2 : Int32) (x3 : Int32) (M : Mm) : Option (Int32 × Mm) :=
  Option.bind (kc M 5 a0) fun _ =>
  Option.bind (fX5_tenthsOf a0 a1 x2 M) fun q1_ =>
  if x3 = 0 then (
    some (((10 : Int32)) - q1_.1, q1_.2)
  ) else (
    some (q1_.1, q1_.2)
  )
def fX5_canBe_b2  : Nat → Nat → Nat → Int32 → Int32 → Mm → Option (Int32 × Mm)
  | 0, _, _, _, _, _ => none
  | n + 1, a0, a1, x2, x3, M =>
    Option.bind (fI M 5 a0 0) fun v1_ =>
    if v1_ ≤ x3 then (
      some ((0 : Int32), M)
    ) else (
      Option.bind (fR M 5 a0 10) fun o2_ =>
      Option.bind (fX0_at o2_ x3 M) fun q3_ =>
      if q3_.1 ≤ ((0 : Int64)) then (
        (fX5_canBe_b2 n) a0 a1 x2 (x3 + (1 : Int32)) q3_.2
      ) else (
        Option.bind (fX5_timesOf a0 a1 x3 x2 q3_.2) fun q4_ =>
        if q4_.1 ≤ 0 then (
          (fX5_canBe_b2 n) a0 a1 x2 (x3 + (1 : Int32)) q4_.2
        ) else (
          some ((1 : Int32), q4_.2)
        )
      )
    )
def fX5_canBe (a0 : Nat) (a1 : Nat) (x2 : Int32) (M : Mm) : Option (Int32 × Mm) :=
  Option.bind (kc M 5 a0) fun _ =>
  fX5_canBe_b2 FU a0 a1 x2 ((0 : Int32)) M
def fX0_multiply (a0 : Nat) (x1 : Int32) (x2 : Int32) (M : Mm) : Option (Mm) :=
  Option.bind (kc M 0 a0) fun _ =>
  if x1 < 0 then (
    some M
  ) else (
    if ((24 : Int32)) ≤ x1 then (
      some M
    ) else (
      Option.bind (fR M 0 a0 0) fun o1_ =>
      Option.bind (aJ M o1_ x1) fun v2_ =>
      Option.bind (tJ M o1_ x1 (v2_ * x2.toInt64)) fun M3_ =>
      some M3_
    )
  )
def fX5_hearSign_b2  : Nat → Nat → Nat → Int32 → Int32 → Mm → Option (Mm)
  | 0, _, _, _, _, _ => none
  | n + 1, a0, a1, x2, x3, M =>
    Option.bind (fI M 5 a0 0) fun v1_ =>
    if v1_ ≤ x3 then (
      Option.bind (fR M 5 a0 10) fun o2_ =>
      Option.bind (fX0_lessen o2_ M) fun M3_ =>
      Option.bind (fI M3_ 5 a0 12) fun v4_ =>
      Option.bind (pI M3_ 5 a0 12 (v4_ + ((1 : Int32)))) fun M5_ =>
      some M5_
    ) else (
      Option.bind (fR M 5 a0 10) fun o6_ =>
      Option.bind (fX5_timesOf a0 a1 x3 x2 M) fun q7_ =>
      Option.bind (fX0_multiply o6_ x3 q7_.1 q7_.2) fun M8_ =>
      (fX5_hearSign_b2 n) a0 a1 x2 (x3 + (1 : Int32)) M8_
    )
def fX5_hearSign (a0 : Nat) (a1 : Nat) (x2 : Int32) (M : Mm) : Option (Mm) :=
  Option.bind (kc M 5 a0) fun _ =>
  fX5_hearSign_b2 FU a0 a1 x2 ((0 : Int32)) M
def fX8_feel (a0 : Nat) (x1 : Int32) (x2 : Int32) (M : Mm) : Option (Int32 × Mm) :=
  Option.bind (kc M 8 a0) fun _ =>
  Option.bind (fR M 8 a0 1) fun o1_ =>
  Option.bind (fX5_signAt o1_ x1 M) fun q2_ =>
  Option.bind (some q2_.1) fun n3_ =>
  Option.elim n3_ (
    Option.bind (fX8_refused a0 ((-1 : Int32)) q2_.2) fun q5_ =>
    some (q5_.1, q5_.2)
  ) (fun o4_ =>
    Option.bind (fR q2_.2 8 a0 1) fun o6_ =>
    Option.bind (fX5_canBe o6_ o4_ x2 q2_.2) fun q7_ =>
    if q7_.1 = 0 then (
      Option.bind (fX8_refused a0 ((-6 : Int32)) q7_.2) fun q15_ =>
      some (q15_.1, q15_.2)
    ) else (
      Option.bind (fR q7_.2 8 a0 1) fun o8_ =>
      Option.bind (fI q7_.2 5 o8_ 12) fun v9_ =>
      if v9_ < ((16 : Int32)) then (
        Option.bind (fR q7_.2 8 a0 1) fun o10_ =>
        Option.bind (fX5_hearSign o10_ o4_ x2 q7_.2) fun M11_ =>
        Option.bind (fR M11_ 8 a0 1) fun o12_ =>
        Option.bind (fI M11_ 5 o12_ 12) fun v13_ =>
        some (v13_, M11_)
      ) else (
        Option.bind (fX8_refused a0 ((-7 : Int32)) q7_.2) fun q14_ =>
        some (q14_.1, q14_.2)
      )
    )
  )
def fX9_canBe_b2  : Nat → Nat → Int32 → Int32 → Int32 → Mm → Option (Int32 × Mm)
  | 0, _, _, _, _, _ => none
  | n + 1, a0, x1, x2, x3, M =>
    Option.bind (fI M 9 a0 0) fun v1_ =>
    if v1_ ≤ x3 then (
      some ((0 : Int32), M)
    ) else (
      Option.bind (fX9_strengthOf a0 x1 x3 M) fun q2_ =>
      Option.bind (fR q2_.2 9 a0 21) fun o3_ =>
      Option.bind (aJ q2_.2 o3_ x3) fun v4_ =>
      if v4_ ≤ ((0 : Int64)) then (
        (fX9_canBe_b2 n) a0 x1 x2 (x3 + (1 : Int32)) q2_.2
      ) else (
        if x2 = 0 then (
          if ((10 : Int32)) ≤ q2_.1 then (
            (fX9_canBe_b2 n) a0 x1 x2 (x3 + (1 : Int32)) q2_.2
          ) else (
            some ((1 : Int32), q2_.2)
          )
        ) else (
          if q2_.1 ≤ 0 then (
            (fX9_canBe_b2 n) a0 x1 x2 (x3 + (1 : Int32)) q2_.2
          ) else (
            some ((1 : Int32), q2_.2)
          )
        )
      )
    )
def fX9_canBe (a0 : Nat) (x1 : Int32) (x2 : Int32) (M : Mm) : Option (Int32 × Mm) :=
  Option.bind (kc M 9 a0) fun _ =>
  fX9_canBe_b2 FU a0 x1 x2 ((0 : Int32)) M
def fX9_feels_b41 (k2 : Nat → Int32 → Int32 → Int32 → Mm → Option (Mm)) (a0 : Nat) (x1 : Int32) (x2 : Int32) (x3 : Int32) (s0 : Nat) (s1 : Int32) (s2 : Int64) (s3 : Int64) (M : Mm) : Option (Mm) :=
  Option.bind (tJ M s0 s1 (s2 * s3)) fun M1_ =>
  k2 a0 x1 x2 (x3 + (1 : Int32)) M1_
def fX9_feels_b2  : Nat → Nat → Int32 → Int32 → Int32 → Mm → Option (Mm)
  | 0, _, _, _, _, _ => none
  | n + 1, a0, x1, x2, x3, M =>
    Option.bind (fI M 9 a0 0) fun v1_ =>
    if v1_ ≤ x3 then (
      Option.bind (fX9_lessens a0 M) fun M2_ =>
      Option.bind (fI M2_ 9 a0 8) fun v3_ =>
      Option.bind (pI M2_ 9 a0 8 (v3_ + ((1 : Int32)))) fun M4_ =>
      some M4_
    ) else (
      Option.bind (fX9_strengthOf a0 x1 x3 M) fun q5_ =>
      Option.bind (fR q5_.2 9 a0 21) fun o6_ =>
      Option.bind (aJ q5_.2 o6_ x3) fun v7_ =>
      if x2 = 0 then (
        fX9_feels_b41 (fX9_feels_b2 n) a0 x1 x2 x3 o6_ x3 v7_ ((((10 : Int32)) - q5_.1).toInt64) q5_.2
      ) else (
        fX9_feels_b41 (fX9_feels_b2 n) a0 x1 x2 x3 o6_ x3 v7_ q5_.1.toInt64 q5_.2
      )
    )
def fX9_feels (a0 : Nat) (x1 : Int32) (x2 : Int32) (M : Mm) : Option (Mm) :=
  Option.bind (kc M 9 a0) fun _ =>
  fX9_feels_b2 FU a0 x1 x2 ((0 : Int32)) M
def fX9_feel (a0 : Nat) (x1 : Int32) (x2 : Int32) (M : Mm) : Option (Int32 × Mm) :=
  Option.bind (kc M 9 a0) fun _ =>
  Option.bind (fX9_isSign a0 x1 M) fun q1_ =>
  if q1_.1 = 0 then (
    Option.bind (fX9_no a0 ((-1 : Int32)) q1_.2) fun q8_ =>
    some (q8_.1, q8_.2)
  ) else (
    Option.bind (fX9_canBe a0 x1 x2 q1_.2) fun q2_ =>
    if q2_.1 = 0 then (
      Option.bind (fX9_no a0 ((-6 : Int32)) q2_.2) fun q7_ =>
      some (q7_.1, q7_.2)
    ) else (
      Option.bind (fI q2_.2 9 a0 8) fun v3_ =>
      if v3_ = ((16 : Int32)) then (
        Option.bind (fX9_no a0 ((-7 : Int32)) q2_.2) fun q6_ =>
        some (q6_.1, q6_.2)
      ) else (
        Option.bind (fX9_feels a0 x1 x2 q2_.2) fun M4_ =>
        Option.bind (fI M4_ 9 a0 8) fun v5_ =>
        some (v5_, M4_)
      )
    )
  )
def fX0_surest_b4  : Nat → Nat → Int32 → Int32 → Mm → Option (Int32 × Mm)
  | 0, _, _, _, _ => none
  | n + 1, a0, x1, x2, M =>
    if ((24 : Int32)) ≤ x2 then (
      some (x1, M)
    ) else (
      Option.bind (fR M 0 a0 0) fun o1_ =>
      Option.bind (aJ M o1_ x2) fun v2_ =>
      Option.bind (fR M 0 a0 0) fun o3_ =>
      Option.bind (aJ M o3_ x1) fun v4_ =>
      if v2_ ≤ v4_ then (
        (fX0_surest_b4 n) a0 x1 (x2 + (1 : Int32)) M
      ) else (
        (fX0_surest_b4 n) a0 x2 (x2 + (1 : Int32)) M
      )
    )
def fX0_surest (a0 : Nat) (M : Mm) : Option (Int32 × Mm) :=
  Option.bind (kc M 0 a0) fun _ =>
  fX0_surest_b4 FU a0 ((0 : Int32)) ((1 : Int32)) M
def fX8_where (a0 : Nat) (M : Mm) : Option (Int32 × Mm) :=
  Option.bind (kc M 8 a0) fun _ =>
  Option.bind (fR M 8 a0 1) fun o1_ =>
  Option.bind (fR M 5 o1_ 10) fun o2_ =>
  Option.bind (fX0_surest o2_ M) fun q3_ =>
  some (q3_.1, q3_.2)
def fX9_sure_b4  : Nat → Nat → Int32 → Int32 → Mm → Option (Int32 × Mm)
  | 0, _, _, _, _ => none
  | n + 1, a0, x1, x2, M =>
    Option.bind (fI M 9 a0 0) fun v1_ =>
    if v1_ ≤ x2 then (
      some (x1, M)
    ) else (
      Option.bind (fR M 9 a0 21) fun o2_ =>
      Option.bind (aJ M o2_ x2) fun v3_ =>
      Option.bind (fR M 9 a0 21) fun o4_ =>
      Option.bind (aJ M o4_ x1) fun v5_ =>
      if v3_ ≤ v5_ then (
        (fX9_sure_b4 n) a0 x1 (x2 + (1 : Int32)) M
      ) else (
        (fX9_sure_b4 n) a0 x2 (x2 + (1 : Int32)) M
      )
    )
def fX9_sure (a0 : Nat) (M : Mm) : Option (Int32 × Mm) :=
  Option.bind (kc M 9 a0) fun _ =>
  fX9_sure_b4 FU a0 ((0 : Int32)) ((1 : Int32)) M
def fX9_where (a0 : Nat) (M : Mm) : Option (Int32 × Mm) :=
  Option.bind (kc M 9 a0) fun _ =>
  Option.bind (fX9_sure a0 M) fun q1_ =>
  some (q1_.1, q1_.2)
def fX8_isLost (a0 : Nat) (M : Mm) : Option (Int32 × Mm) :=
  Option.bind (kc M 8 a0) fun _ =>
  Option.bind (fR M 8 a0 1) fun o1_ =>
  Option.bind (fR M 5 o1_ 10) fun o2_ =>
  Option.bind (fX0_surest o2_ M) fun q3_ =>
  Option.bind (fX0_at o2_ q3_.1 q3_.2) fun q4_ =>
  Option.bind (fX0_all o2_ q4_.2) fun q5_ =>
  if q5_.1 ≤ (((2 : Int64)) * q4_.1) then (
    some ((0 : Int32), q5_.2)
  ) else (
    some ((1 : Int32), q5_.2)
  )
def fX9_isLost (a0 : Nat) (M : Mm) : Option (Int32 × Mm) :=
  Option.bind (kc M 9 a0) fun _ =>
  Option.bind (fR M 9 a0 21) fun o1_ =>
  Option.bind (fX9_sure a0 M) fun q2_ =>
  Option.bind (aJ q2_.2 o1_ q2_.1) fun v3_ =>
  Option.bind (fX9_sum a0 q2_.2) fun q4_ =>
  if q4_.1 ≤ (((2 : Int64)) * v3_) then (
    some ((0 : Int32), q4_.2)
  ) else (
    some ((1 : Int32), q4_.2)
  )
def fX8_newsTrouble (a0 : Option Nat) (x1 : Int32) (M : Mm) : Option (Int32 × Mm) :=
  Option.bind (fX8_rowTrouble a0 M) fun q1_ =>
  Option.elim a0 (
    some (q1_.1, q1_.2)
  ) (fun o2_ =>
    if q1_.1 = 0 then (
      if 0 ≤ x1 then (
        Option.bind (fX3_hasRun o2_ ((0 : Int32)) x1 q1_.2) fun q3_ =>
        if q3_.1 = 0 then (
          some ((-5 : Int32), q3_.2)
        ) else (
          if x1 ≤ ((16 : Int32)) then (
            some ((0 : Int32), q3_.2)
          ) else (
            some ((-6 : Int32), q3_.2)
          )
        )
      ) else (
        some ((-4 : Int32), q1_.2)
      )
    ) else (
      some (q1_.1, q1_.2)
    )
  )
def fX5_hears_b20  (a0 : Nat) (x1 : Int32) (M : Mm) : Option (Int32 × Mm) :=
  if x1 = ((1 : Int32)) then (
    Option.bind (fX5_hearStep a0 ((1 : Int32)) M) fun M2_ =>
    some ((1 : Int32), M2_)
  ) else (
    Option.bind (fX5_hearStep a0 ((0 : Int32)) M) fun M1_ =>
    some ((1 : Int32), M1_)
  )
def fX5_hears_b70  (a0 : Nat) (x2 : Int32) (s0 : Nat) (s1 : Int32) (M : Mm) : Option (Int32 × Mm) :=
  Option.bind (fX5_signAt s0 s1 M) fun q1_ =>
  Option.bind (some q1_.1) fun n2_ =>
  Option.elim n2_ (
    some ((0 : Int32), q1_.2)
  ) (fun o3_ =>
    Option.bind (fX5_canBe a0 o3_ x2 q1_.2) fun q4_ =>
    if q4_.1 = 0 then (
      some ((0 : Int32), q4_.2)
    ) else (
      Option.bind (fX5_hearSign a0 o3_ x2 q4_.2) fun M5_ =>
      some ((1 : Int32), M5_)
    )
  )
def fX5_hears_b53  (a0 : Nat) (x1 : Int32) (s0 : Int32) (M : Mm) : Option (Int32 × Mm) :=
  if s0 = 0 then (
    fX5_hears_b70 a0 s0 a0 (x1 - ((20 : Int32))) M
  ) else (
    fX5_hears_b70 a0 s0 a0 (x1 - ((10 : Int32))) M
  )
def fX5_hears_b52  (a0 : Nat) (x1 : Int32) (M : Mm) : Option (Int32 × Mm) :=
  fX5_hears_b53 a0 x1 ((0 : Int32)) M
def fX5_hears (a0 : Nat) (x1 : Int32) (M : Mm) : Option (Int32 × Mm) :=
  Option.bind (kc M 5 a0) fun _ =>
  Option.bind (fI M 5 a0 12) fun v1_ =>
  if v1_ < ((16 : Int32)) then (
    if x1 = 0 then (
      fX5_hears_b20 a0 x1 M
    ) else (
      if x1 = ((1 : Int32)) then (
        fX5_hears_b20 a0 x1 M
      ) else (
        if x1 < ((10 : Int32)) then (
          fX5_hears_b52 a0 x1 M
        ) else (
          if ((20 : Int32)) ≤ x1 then (
            fX5_hears_b52 a0 x1 M
          ) else (
            fX5_hears_b53 a0 x1 ((1 : Int32)) M
          )
        )
      )
    )
  ) else (
    some ((0 : Int32), M)
  )
def fX8_tryNews_b13  : Nat → Nat → Nat → Int32 → Int32 → Mm → Option (Int32 × Mm)
  | 0, _, _, _, _, _ => none
  | n + 1, a0, a1, x2, x3, M =>
    if x2 ≤ x3 then (
      some ((-1 : Int32), M)
    ) else (
      Option.bind (fR M 8 a0 2) fun o1_ =>
      Option.bind (fX3_intAt a1 x3 M) fun q2_ =>
      Option.bind (fX5_hears o1_ q2_.1 q2_.2) fun q3_ =>
      if q3_.1 = 0 then (
        some (x3, q3_.2)
      ) else (
        (fX8_tryNews_b13 n) a0 a1 x2 (x3 + (1 : Int32)) q3_.2
      )
    )
def fX8_tryNews (a0 : Nat) (a1 : Nat) (x2 : Int32) (M : Mm) : Option (Int32 × Mm) :=
  Option.bind (kc M 8 a0) fun _ =>
  Option.bind (fR M 8 a0 2) fun o1_ =>
  Option.bind (fR M 8 a0 1) fun o2_ =>
  Option.bind (fX5_becomeLike o1_ o2_ M) fun M3_ =>
  fX8_tryNews_b13 FU a0 a1 x2 ((0 : Int32)) M3_
def fX8_judge (a0 : Nat) (x1 : Int32) (x2 : Int32) (M : Mm) : Option (Int32 × Mm) :=
  Option.bind (kc M 8 a0) fun _ =>
  Option.bind (fX8_shelfAt a0 x1 M) fun q1_ =>
  Option.bind (some q1_.1) fun n2_ =>
  Option.bind (fX8_newsTrouble n2_ x2 q1_.2) fun q3_ =>
  Option.elim n2_ (
    Option.bind (fX8_refused a0 q3_.1 q3_.2) fun q5_ =>
    some (q5_.1, q5_.2)
  ) (fun o4_ =>
    if q3_.1 = 0 then (
      Option.bind (fX8_tryNews a0 o4_ x2 q3_.2) fun q6_ =>
      some (q6_.1, q6_.2)
    ) else (
      Option.bind (fX8_refused a0 q3_.1 q3_.2) fun q7_ =>
      some (q7_.1, q7_.2)
    )
  )
def fX9_played_b296  : Nat → Nat → Int32 → Mm → Option (Int32 × Mm)
  | 0, _, _, _ => none
  | n + 1, a0, x6, M =>
    if ((24 : Int32)) ≤ x6 then (
      some ((0 : Int32), M)
    ) else (
      Option.bind (fR M 9 a0 21) fun o1_ =>
      Option.bind (fR M 9 a0 41) fun o2_ =>
      Option.bind (aJ M o2_ x6) fun v3_ =>
      Option.bind (tJ M o1_ x6 v3_) fun M4_ =>
      (fX9_played_b296 n) a0 (x6 + (1 : Int32)) M4_
    )
def fX9_played_b273  (a0 : Nat) (x4 : Int32) (x5 : Int32) (M : Mm) : Option (Int32 × Mm) :=
  Option.bind (fX9_sure a0 M) fun q1_ =>
  Option.bind (pI q1_.2 9 a0 43 q1_.1) fun M2_ =>
  Option.bind (pI M2_ 9 a0 8 x4) fun M3_ =>
  Option.bind (pI M3_ 9 a0 9 x5) fun M4_ =>
  fX9_played_b296 FU a0 ((0 : Int32)) M4_
def fX9_played_b243 (k91 : Nat → Int32 → Int32 → Int32 → Int32 → Int32 → Mm → Option (Int32 × Mm)) (a0 : Nat) (x1 : Int32) (x2 : Int32) (x4 : Int32) (x5 : Int32) (x6 : Int32) (s0 : Nat) (s1 : Int32) (M : Mm) : Option (Int32 × Mm) :=
  Option.bind (fX9_steps s0 s1 M) fun M1_ =>
  k91 a0 x1 x2 x4 x5 (x6 + (1 : Int32)) M1_
def fX9_played_b210 (k91 : Nat → Int32 → Int32 → Int32 → Int32 → Int32 → Mm → Option (Int32 × Mm)) (a0 : Nat) (x1 : Int32) (x2 : Int32) (x4 : Int32) (x5 : Int32) (x6 : Int32) (x7 : Int32) (x8 : Int32) (x9 : Int32) (s0 : Int32) (M : Mm) : Option (Int32 × Mm) :=
  if s0 = 0 then (
    Option.bind (pI M 9 a0 42 x6) fun M3_ =>
    k91 a0 x1 x2 x4 x5 (x6 + (1 : Int32)) M3_
  ) else (
    if x9 = 0 then (
      if ((20 : Int32)) ≤ x7 then (
        Option.bind (fX9_feels a0 x8 ((0 : Int32)) M) fun M1_ =>
        k91 a0 x1 x2 x4 x5 (x6 + (1 : Int32)) M1_
      ) else (
        Option.bind (fX9_feels a0 x8 ((1 : Int32)) M) fun M2_ =>
        k91 a0 x1 x2 x4 x5 (x6 + (1 : Int32)) M2_
      )
    ) else (
      if x7 = ((1 : Int32)) then (
        fX9_played_b243 k91 a0 x1 x2 x4 x5 x6 a0 ((1 : Int32)) M
      ) else (
        fX9_played_b243 k91 a0 x1 x2 x4 x5 x6 a0 ((0 : Int32)) M
      )
    )
  )
def fX9_played_b209 (k91 : Nat → Int32 → Int32 → Int32 → Int32 → Int32 → Mm → Option (Int32 × Mm)) (a0 : Nat) (x1 : Int32) (x2 : Int32) (x4 : Int32) (x5 : Int32) (x6 : Int32) (x7 : Int32) (x8 : Int32) (x9 : Int32) (M : Mm) : Option (Int32 × Mm) :=
  fX9_played_b210 k91 a0 x1 x2 x4 x5 x6 x7 x8 x9 ((0 : Int32)) M
def fX9_played_b205 (k91 : Nat → Int32 → Int32 → Int32 → Int32 → Int32 → Mm → Option (Int32 × Mm)) (a0 : Nat) (x1 : Int32) (x2 : Int32) (x4 : Int32) (x5 : Int32) (x6 : Int32) (x7 : Int32) (x8 : Int32) (x9 : Int32) (M : Mm) : Option (Int32 × Mm) :=
  fX9_played_b210 k91 a0 x1 x2 x4 x5 x6 x7 x8 x9 ((1 : Int32)) M
def fX9_played_b199 (k91 : Nat → Int32 → Int32 → Int32 → Int32 → Int32 → Mm → Option (Int32 × Mm)) (a0 : Nat) (x1 : Int32) (x2 : Int32) (x4 : Int32) (x5 : Int32) (x6 : Int32) (x7 : Int32) (x8 : Int32) (x9 : Int32) (s0 : Nat) (s1 : Int32) (s2 : Int32) (M : Mm) : Option (Int32 × Mm) :=
  Option.bind (fX9_canBe s0 s1 s2 M) fun q1_ =>
  if q1_.1 = 0 then (
    fX9_played_b209 k91 a0 x1 x2 x4 x5 x6 x7 x8 x9 q1_.2
  ) else (
    fX9_played_b205 k91 a0 x1 x2 x4 x5 x6 x7 x8 x9 q1_.2
  )
def fX9_played_b152 (k91 : Nat → Int32 → Int32 → Int32 → Int32 → Int32 → Mm → Option (Int32 × Mm)) (a0 : Nat) (x1 : Int32) (x2 : Int32) (x4 : Int32) (x5 : Int32) (x6 : Int32) (x7 : Int32) (x8 : Int32) (s0 : Int32) (M : Mm) : Option (Int32 × Mm) :=
  Option.bind (fI M 9 a0 8) fun v1_ =>
  if ((16 : Int32)) ≤ v1_ then (
    fX9_played_b209 k91 a0 x1 x2 x4 x5 x6 x7 x8 s0 M
  ) else (
    if s0 = 0 then (
      if x7 < ((10 : Int32)) then (
        fX9_played_b209 k91 a0 x1 x2 x4 x5 x6 x7 x8 s0 M
      ) else (
        Option.bind (fX9_isSign a0 x8 M) fun q2_ =>
        if q2_.1 = 0 then (
          fX9_played_b209 k91 a0 x1 x2 x4 x5 x6 x7 x8 s0 q2_.2
        ) else (
          if ((20 : Int32)) ≤ x7 then (
            fX9_played_b199 k91 a0 x1 x2 x4 x5 x6 x7 x8 s0 a0 x8 ((0 : Int32)) q2_.2
          ) else (
            fX9_played_b199 k91 a0 x1 x2 x4 x5 x6 x7 x8 s0 a0 x8 ((1 : Int32)) q2_.2
          )
        )
      )
    ) else (
      fX9_played_b205 k91 a0 x1 x2 x4 x5 x6 x7 x8 s0 M
    )
  )
def fX9_played_b147 (k91 : Nat → Int32 → Int32 → Int32 → Int32 → Int32 → Mm → Option (Int32 × Mm)) (a0 : Nat) (x1 : Int32) (x2 : Int32) (x4 : Int32) (x5 : Int32) (x6 : Int32) (x7 : Int32) (x8 : Int32) (M : Mm) : Option (Int32 × Mm) :=
  fX9_played_b152 k91 a0 x1 x2 x4 x5 x6 x7 x8 ((1 : Int32)) M
def fX9_played_b134 (k91 : Nat → Int32 → Int32 → Int32 → Int32 → Int32 → Mm → Option (Int32 × Mm)) (a0 : Nat) (x1 : Int32) (x2 : Int32) (x4 : Int32) (x5 : Int32) (x6 : Int32) (x7 : Int32) (s0 : Int32) (M : Mm) : Option (Int32 × Mm) :=
  if x7 = 0 then (
    fX9_played_b147 k91 a0 x1 x2 x4 x5 x6 x7 s0 M
  ) else (
    if x7 = ((1 : Int32)) then (
      fX9_played_b147 k91 a0 x1 x2 x4 x5 x6 x7 s0 M
    ) else (
      fX9_played_b152 k91 a0 x1 x2 x4 x5 x6 x7 s0 ((0 : Int32)) M
    )
  )
def fX9_played_b91  : Nat → Nat → Int32 → Int32 → Int32 → Int32 → Int32 → Mm → Option (Int32 × Mm)
  | 0, _, _, _, _, _, _, _ => none
  | n + 1, a0, x1, x2, x4, x5, x6, M =>
    if x2 ≤ x6 then (
      fX9_played_b273 a0 x4 x5 M
    ) else (
      Option.bind (fI M 9 a0 42) fun v1_ =>
      if v1_ = ((-1 : Int32)) then (
        Option.bind (fX9_intAt a0 x1 x6 M) fun q2_ =>
        if q2_.1 < ((20 : Int32)) then (
          fX9_played_b134 (fX9_played_b91 n) a0 x1 x2 x4 x5 x6 q2_.1 (q2_.1 - ((10 : Int32))) q2_.2
        ) else (
          fX9_played_b134 (fX9_played_b91 n) a0 x1 x2 x4 x5 x6 q2_.1 (q2_.1 - ((20 : Int32))) q2_.2
        )
      ) else (
        fX9_played_b273 a0 x4 x5 M
      )
    )
def fX9_played_b56  : Nat → Nat → Int32 → Int32 → Int32 → Int32 → Int32 → Mm → Option (Int32 × Mm)
  | 0, _, _, _, _, _, _, _ => none
  | n + 1, a0, x1, x2, x4, x5, x6, M =>
    if ((24 : Int32)) ≤ x6 then (
      Option.bind (pI M 9 a0 42 ((-1 : Int32))) fun M1_ =>
      fX9_played_b91 FU a0 x1 x2 x4 x5 ((0 : Int32)) M1_
    ) else (
      Option.bind (fR M 9 a0 41) fun o2_ =>
      Option.bind (fR M 9 a0 21) fun o3_ =>
      Option.bind (aJ M o3_ x6) fun v4_ =>
      Option.bind (tJ M o2_ x6 v4_) fun M5_ =>
      (fX9_played_b56 n) a0 x1 x2 x4 x5 (x6 + (1 : Int32)) M5_
    )
def fX9_played (a0 : Nat) (x1 : Int32) (x2 : Int32) (M : Mm) : Option (Int32 × Mm) :=
  Option.bind (kc M 9 a0) fun _ =>
  Option.bind (fX9_wants a0 x1 M) fun q1_ =>
  if q1_.1 = 0 then (
    if 0 ≤ x2 then (
      Option.bind (fR q1_.2 9 a0 25) fun o2_ =>
      Option.bind (aI q1_.2 o2_ x1) fun v3_ =>
      if x2 ≤ v3_ then (
        if x2 ≤ ((16 : Int32)) then (
          Option.bind (fI q1_.2 9 a0 8) fun v4_ =>
          Option.bind (fI q1_.2 9 a0 9) fun v5_ =>
          fX9_played_b56 FU a0 x1 x2 v4_ v5_ ((0 : Int32)) q1_.2
        ) else (
          some ((-6 : Int32), q1_.2)
        )
      ) else (
        some ((-5 : Int32), q1_.2)
      )
    ) else (
      some ((-4 : Int32), q1_.2)
    )
  ) else (
    some (q1_.1, q1_.2)
  )
def fX9_judge (a0 : Nat) (x1 : Int32) (x2 : Int32) (M : Mm) : Option (Int32 × Mm) :=
  Option.bind (kc M 9 a0) fun _ =>
  Option.bind (fX9_played a0 x1 x2 M) fun q1_ =>
  if q1_.1 = 0 then (
    Option.bind (fI q1_.2 9 a0 42) fun v2_ =>
    some (v2_, q1_.2)
  ) else (
    Option.bind (fX9_no a0 q1_.1 q1_.2) fun q3_ =>
    some (q3_.1, q3_.2)
  )
def fX8_told (a0 : Nat) (x1 : Int32) (x2 : Int32) (M : Mm) : Option (Int32 × Mm) :=
  Option.bind (kc M 8 a0) fun _ =>
  Option.bind (fX8_shelfAt a0 x1 M) fun q1_ =>
  Option.bind (some q1_.1) fun n2_ =>
  Option.bind (fX8_newsTrouble n2_ x2 q1_.2) fun q3_ =>
  Option.elim n2_ (
    Option.bind (fX8_refused a0 q3_.1 q3_.2) fun q5_ =>
    some (q5_.1, q5_.2)
  ) (fun o4_ =>
    if q3_.1 = 0 then (
      Option.bind (fX8_tryNews a0 o4_ x2 q3_.2) fun q6_ =>
      if q6_.1 = ((-1 : Int32)) then (
        Option.bind (fR q6_.2 8 a0 2) fun o7_ =>
        Option.bind (fR q6_.2 5 o7_ 10) fun o8_ =>
        Option.bind (fX0_surest o8_ q6_.2) fun q9_ =>
        some (q9_.1, q9_.2)
      ) else (
        Option.bind (fX8_refused a0 ((-6 : Int32)) q6_.2) fun q10_ =>
        some (q10_.1, q10_.2)
      )
    ) else (
      Option.bind (fX8_refused a0 q3_.1 q3_.2) fun q11_ =>
      some (q11_.1, q11_.2)
    )
  )
def fX9_told_b22  (a0 : Nat) (x3 : Int32) (M : Mm) : Option (Int32 × Mm) :=
  if x3 = 0 then (
    Option.bind (fI M 9 a0 43) fun v1_ =>
    some (v1_, M)
  ) else (
    Option.bind (fX9_no a0 x3 M) fun q2_ =>
    some (q2_.1, q2_.2)
  )
def fX9_told (a0 : Nat) (x1 : Int32) (x2 : Int32) (M : Mm) : Option (Int32 × Mm) :=
  Option.bind (kc M 9 a0) fun _ =>
  Option.bind (fX9_played a0 x1 x2 M) fun q1_ =>
  if q1_.1 = 0 then (
    Option.bind (fI q1_.2 9 a0 42) fun v2_ =>
    if v2_ = ((-1 : Int32)) then (
      fX9_told_b22 a0 q1_.1 q1_.2
    ) else (
      fX9_told_b22 a0 ((-6 : Int32)) q1_.2
    )
  ) else (
    fX9_told_b22 a0 q1_.1 q1_.2
  )
def fX1_lookFrom_b63 (k48 : Nat → Nat → Int32 → Mm → Option (Mm)) : Nat → Nat → Nat → Int32 → Option Nat → Int32 → Mm → Option (Mm)
  | 0, _, _, _, _, _, _ => none
  | n + 1, a0, a1, x2, a3, x4, M =>
    if ((24 : Int32)) ≤ x4 then (
      k48 a0 a1 (x2 + (1 : Int32)) M
    ) else (
      Option.elim a3 (
        k48 a0 a1 (x2 + (1 : Int32)) M
      ) (fun o1_ =>
        Option.bind (fR M 1 a0 0) fun o2_ =>
        Option.bind (aR M 25 o2_ x2) fun n3_ =>
        Option.bind (fX5_tenthsOf a1 o1_ x4 M) fun q4_ =>
        Option.elim n3_ none (fun o5_ =>
          Option.bind (tI q4_.2 o5_ x4 q4_.1) fun M6_ =>
          (fX1_lookFrom_b63 k48 n) a0 a1 x2 (some o1_) (x4 + (1 : Int32)) M6_
        )
      )
    )
def fX1_lookFrom_b48  : Nat → Nat → Nat → Int32 → Mm → Option (Mm)
  | 0, _, _, _, _ => none
  | n + 1, a0, a1, x2, M =>
    if ((8 : Int32)) ≤ x2 then (
      some M
    ) else (
      Option.bind (fX5_signAt a1 x2 M) fun q1_ =>
      Option.bind (some q1_.1) fun n2_ =>
      fX1_lookFrom_b63 (fX1_lookFrom_b48 n) FU a0 a1 x2 n2_ ((0 : Int32)) q1_.2
    )
def fX1_lookFrom_b18  : Nat → Nat → Nat → Int32 → Mm → Option (Mm)
  | 0, _, _, _, _ => none
  | n + 1, a0, a1, x2, M =>
    if ((24 : Int32)) ≤ x2 then (
      fX1_lookFrom_b48 FU a0 a1 ((0 : Int32)) M
    ) else (
      Option.bind (fR M 1 a0 1) fun o1_ =>
      Option.bind (aR M 26 o1_ ((0 : Int32))) fun n2_ =>
      Option.bind (fR M 5 a1 10) fun o3_ =>
      Option.bind (fX0_at o3_ x2 M) fun q4_ =>
      Option.elim n2_ none (fun o5_ =>
        Option.bind (tJ q4_.2 o5_ x2 q4_.1) fun M6_ =>
        (fX1_lookFrom_b18 n) a0 a1 (x2 + (1 : Int32)) M6_
      )
    )
def fX1_lookFrom (a0 : Nat) (a1 : Nat) (M : Mm) : Option (Mm) :=
  Option.bind (kc M 1 a0) fun _ =>
  Option.bind (fI M 5 a1 7) fun v1_ =>
  Option.bind (pI M 1 a0 2 v1_) fun M2_ =>
  Option.bind (fI M2_ 5 a1 0) fun v3_ =>
  Option.bind (pI M2_ 1 a0 3 v3_) fun M4_ =>
  fX1_lookFrom_b18 FU a0 a1 ((0 : Int32)) M4_
def fX1_greatest_b24  : Nat → Nat → Option Nat → Int64 → Int32 → Mm → Option (Int64 × Mm)
  | 0, _, _, _, _, _ => none
  | n + 1, a0, a2, x3, x5, M =>
    Option.bind (fI M 1 a0 3) fun v1_ =>
    if v1_ ≤ x5 then (
      some (x3, M)
    ) else (
      if ((24 : Int32)) ≤ x5 then (
        some (x3, M)
      ) else (
        Option.elim a2 none (fun o2_ =>
          Option.bind (aJ M o2_ x5) fun v3_ =>
          if v3_ ≤ x3 then (
            (fX1_greatest_b24 n) a0 (some o2_) x3 (x5 + (1 : Int32)) M
          ) else (
            Option.bind (aJ M o2_ x5) fun v4_ =>
            (fX1_greatest_b24 n) a0 (some o2_) v4_ (x5 + (1 : Int32)) M
          )
        )
      )
    )
def fX1_greatest (a0 : Nat) (x1 : Int32) (M : Mm) : Option (Int64 × Mm) :=
  Option.bind (kc M 1 a0) fun _ =>
  if x1 < 0 then (
    some ((0 : Int64), M)
  ) else (
    if x1 ≤ ((8 : Int32)) then (
      Option.bind (fR M 1 a0 1) fun o1_ =>
      Option.bind (aR M 26 o1_ x1) fun n2_ =>
      fX1_greatest_b24 FU a0 n2_ ((0 : Int64)) ((0 : Int32)) M
    ) else (
      some ((0 : Int64), M)
    )
  )
def fX1_lowestOf_b2  : Nat → Int32 → Int32 → Mm → Option (Int32 × Mm)
  | 0, _, _, _ => none
  | n + 1, x0, x1, M =>
    if ((7 : Int32)) ≤ x1 then (
      some (x1, M)
    ) else (
      if ((x0 >>> (x1 &&& 31)) &&& ((1 : Int32))) = 0 then (
        (fX1_lowestOf_b2 n) x0 (x1 + (1 : Int32)) M
      ) else (
        some (x1, M)
      )
    )
def fX1_lowestOf (x0 : Int32) (M : Mm) : Option (Int32 × Mm) :=
  fX1_lowestOf_b2 FU x0 ((0 : Int32)) M
def fX1_weigh_b118  (x7 : Int64) (M : Mm) : Option (Int32 × Mm) :=
  if x7 = ((0 : Int64)) then (
    some ((0 : Int32), M)
  ) else (
    some ((1 : Int32), M)
  )
def fX1_weigh_b99 (k54 : Nat → Int32 → Option Nat → Option Nat → Option Nat → Int64 → Int32 → Mm → Option (Int32 × Mm)) (a0 : Nat) (x3 : Int32) (a4 : Option Nat) (a5 : Option Nat) (a6 : Option Nat) (x7 : Int64) (x9 : Int32) (s0 : Option Nat) (s1 : Int32) (s2 : Int64) (s3 : Int32) (M : Mm) : Option (Int32 × Mm) :=
  Option.elim s0 none (fun o1_ =>
    Option.bind (tJ M o1_ s1 (s2 * s3.toInt64)) fun M2_ =>
    Option.elim a5 none (fun o3_ =>
      Option.bind (aJ M2_ o3_ x9) fun v4_ =>
      k54 a0 x3 a4 (some o3_) a6 (x7 ||| v4_) (x9 + (1 : Int32)) M2_
    )
  )
def fX1_weigh_b54  : Nat → Nat → Int32 → Option Nat → Option Nat → Option Nat → Int64 → Int32 → Mm → Option (Int32 × Mm)
  | 0, _, _, _, _, _, _, _, _ => none
  | n + 1, a0, x3, a4, a5, a6, x7, x9, M =>
    Option.bind (fI M 1 a0 3) fun v1_ =>
    if v1_ ≤ x9 then (
      fX1_weigh_b118 x7 M
    ) else (
      if ((24 : Int32)) ≤ x9 then (
        fX1_weigh_b118 x7 M
      ) else (
        Option.elim a4 none (fun o2_ =>
          Option.bind (aJ M o2_ x9) fun v3_ =>
          if x3 = 0 then (
            Option.elim a6 none (fun o4_ =>
              Option.bind (aI M o4_ x9) fun v5_ =>
              fX1_weigh_b99 (fX1_weigh_b54 n) a0 x3 (some o2_) a5 (some o4_) x7 x9 a5 x9 v3_ (((10 : Int32)) - v5_) M
            )
          ) else (
            Option.elim a6 none (fun o6_ =>
              Option.bind (aI M o6_ x9) fun v7_ =>
              fX1_weigh_b99 (fX1_weigh_b54 n) a0 x3 (some o2_) a5 (some o6_) x7 x9 a5 x9 v3_ v7_ M
            )
          )
        )
      )
    )
def fX1_weigh (a0 : Nat) (x1 : Int32) (x2 : Int32) (x3 : Int32) (M : Mm) : Option (Int32 × Mm) :=
  Option.bind (kc M 1 a0) fun _ =>
  if x1 < 0 then (
    some ((0 : Int32), M)
  ) else (
    if ((8 : Int32)) ≤ x1 then (
      some ((0 : Int32), M)
    ) else (
      if x2 < 0 then (
        some ((0 : Int32), M)
      ) else (
        if x2 < ((8 : Int32)) then (
          Option.bind (fR M 1 a0 1) fun o1_ =>
          Option.bind (aR M 26 o1_ x1) fun n2_ =>
          Option.bind (fR M 1 a0 1) fun o3_ =>
          Option.bind (aR M 26 o3_ (x1 + ((1 : Int32)))) fun n4_ =>
          Option.bind (fR M 1 a0 0) fun o5_ =>
          Option.bind (aR M 25 o5_ x2) fun n6_ =>
          fX1_weigh_b54 FU a0 x3 n2_ n4_ n6_ ((0 : Int64)) ((0 : Int32)) M
        ) else (
          some ((0 : Int32), M)
        )
      )
    )
  )
def fX1_worthBehind : Nat → Nat → Int32 → Int32 → Mm → Option (Int64 × Mm)
  | 0, _, _, _, _ => none
  | n + 1, a0, x1, x2, M =>
    if x1 = 0 then (
      Option.bind (fX1_greatest a0 x2 M) fun q1_ =>
      some (q1_.1, q1_.2)
    ) else (
      if x2 < ((8 : Int32)) then (
        Option.bind (fX1_lowestOf x1 M) fun q2_ =>
        Option.bind (fX1_weigh a0 x2 q2_.1 ((1 : Int32)) q2_.2) fun q3_ =>
        if q3_.1 = 0 then (
          Option.bind (fX1_weigh a0 x2 q2_.1 ((0 : Int32)) q3_.2) fun q4_ =>
          if q4_.1 = 0 then (
            some ((0 : Int64), q4_.2)
          ) else (
            Option.bind (fX1_worthBehind n a0 (x1 &&& (x1 - ((1 : Int32)))) (x2 + ((1 : Int32))) q4_.2) fun q5_ =>
            some (((0 : Int64)) + q5_.1, q5_.2)
          )
        ) else (
          Option.bind (fX1_worthBehind n a0 (x1 &&& (x1 - ((1 : Int32)))) (x2 + ((1 : Int32))) q3_.2) fun q6_ =>
          Option.bind (fX1_weigh a0 x2 q2_.1 ((0 : Int32)) q6_.2) fun q7_ =>
          if q7_.1 = 0 then (
            some (q6_.1, q7_.2)
          ) else (
            Option.bind (fX1_worthBehind n a0 (x1 &&& (x1 - ((1 : Int32)))) (x2 + ((1 : Int32))) q7_.2) fun q8_ =>
            some (q6_.1 + q8_.1, q8_.2)
          )
        )
      ) else (
        Option.bind (fX1_greatest a0 x2 M) fun q9_ =>
        some (q9_.1, q9_.2)
      )
    )
def fX1_worthOf (a0 : Nat) (x1 : Int32) (M : Mm) : Option (Int64 × Mm) :=
  Option.bind (kc M 1 a0) fun _ =>
  Option.bind (fX1_worthBehind 40 a0 x1 ((0 : Int32)) M) fun q1_ =>
  some (q1_.1, q1_.2)
def fX8_worth (a0 : Nat) (x1 : Int32) (M : Mm) : Option (Int64 × Mm) :=
  Option.bind (kc M 8 a0) fun _ =>
  if x1 < 0 then (
    Option.bind (fX8_refused a0 ((-1 : Int32)) M) fun q1_ =>
    some (q1_.1.toInt64, q1_.2)
  ) else (
    Option.bind (fR M 8 a0 1) fun o2_ =>
    Option.bind (fI M 5 o2_ 7) fun v3_ =>
    if (x1 >>> (v3_ &&& 31)) = 0 then (
      Option.bind (fR M 8 a0 1) fun o4_ =>
      Option.bind (fI M 5 o4_ 12) fun v5_ =>
      Option.bind (fJ6_bitCount_0f7a4 x1 M) fun q6_ =>
      if (v5_ + q6_.1) ≤ ((17 : Int32)) then (
        Option.bind (fR q6_.2 8 a0 7) fun o7_ =>
        Option.bind (fR q6_.2 8 a0 1) fun o8_ =>
        Option.bind (fX1_lookFrom o7_ o8_ q6_.2) fun M9_ =>
        Option.bind (fR M9_ 8 a0 7) fun o10_ =>
        Option.bind (fX1_worthOf o10_ x1 M9_) fun q11_ =>
        some (q11_.1, q11_.2)
      ) else (
        Option.bind (fX8_refused a0 ((-7 : Int32)) q6_.2) fun q12_ =>
        some (q12_.1.toInt64, q12_.2)
      )
    ) else (
      Option.bind (fX8_refused a0 ((-1 : Int32)) M) fun q13_ =>
      some (q13_.1.toInt64, q13_.2)
    )
  )
def fX9_count_b4  : Nat → Int32 → Int32 → Mm → Option (Int32 × Mm)
  | 0, _, _, _ => none
  | n + 1, x2, x3, M =>
    if x3 = 0 then (
      some (x2, M)
    ) else (
      (fX9_count_b4 n) (x2 + (1 : Int32)) (x3 &&& (x3 - ((1 : Int32)))) M
    )
def fX9_count (a0 : Nat) (x1 : Int32) (M : Mm) : Option (Int32 × Mm) :=
  Option.bind (kc M 9 a0) fun _ =>
  fX9_count_b4 FU ((0 : Int32)) x1 M
def fX9_worthOf_b104 (k5 : Nat → Int32 → Int64 → Int32 → Mm → Option (Int64 × Mm)) (k11 : Nat → Int32 → Int64 → Int32 → Int64 → Int32 → Mm → Option (Int64 × Mm)) (a0 : Nat) (x1 : Int32) (x2 : Int64) (x4 : Int32) (x5 : Int64) (x7 : Int32) (x8 : Int64) (M : Mm) : Option (Int64 × Mm) :=
  if x8 ≤ x5 then (
    k11 a0 x1 x2 x4 x5 (x7 + (1 : Int32)) M
  ) else (
    k11 a0 x1 x2 x4 x8 (x7 + (1 : Int32)) M
  )
def fX9_worthOf_b95 (k5 : Nat → Int32 → Int64 → Int32 → Mm → Option (Int64 × Mm)) (k11 : Nat → Int32 → Int64 → Int32 → Int64 → Int32 → Mm → Option (Int64 × Mm)) (k32 : Nat → Int32 → Int64 → Int32 → Int64 → Int32 → Int64 → Int32 → Mm → Option (Int64 × Mm)) (a0 : Nat) (x1 : Int32) (x2 : Int64) (x4 : Int32) (x5 : Int64) (x7 : Int32) (x10 : Int32) (s0 : Int64) (s1 : Int64) (M : Mm) : Option (Int64 × Mm) :=
  k32 a0 x1 x2 x4 x5 x7 (s0 * s1) (x10 + (1 : Int32)) M
def fX9_worthOf_b32 (k5 : Nat → Int32 → Int64 → Int32 → Mm → Option (Int64 × Mm)) (k11 : Nat → Int32 → Int64 → Int32 → Int64 → Int32 → Mm → Option (Int64 × Mm)) : Nat → Nat → Int32 → Int64 → Int32 → Int64 → Int32 → Int64 → Int32 → Mm → Option (Int64 × Mm)
  | 0, _, _, _, _, _, _, _, _, _ => none
  | n + 1, a0, x1, x2, x4, x5, x7, x8, x10, M =>
    Option.bind (fI M 9 a0 6) fun v1_ =>
    if v1_ ≤ x10 then (
      fX9_worthOf_b104 k5 k11 a0 x1 x2 x4 x5 x7 x8 M
    ) else (
      if x8 ≤ ((0 : Int64)) then (
        fX9_worthOf_b104 k5 k11 a0 x1 x2 x4 x5 x7 x8 M
      ) else (
        if ((x1 >>> (x10 &&& 31)) &&& ((1 : Int32))) = 0 then (
          (fX9_worthOf_b32 k5 k11 n) a0 x1 x2 x4 x5 x7 x8 (x10 + (1 : Int32)) M
        ) else (
          Option.bind (fX9_strengthOf a0 x10 x7 M) fun q2_ =>
          if ((x4 >>> (x10 &&& 31)) &&& ((1 : Int32))) = ((1 : Int32)) then (
            fX9_worthOf_b95 k5 k11 (fX9_worthOf_b32 k5 k11 n) a0 x1 x2 x4 x5 x7 x10 x8 q2_.1.toInt64 q2_.2
          ) else (
            fX9_worthOf_b95 k5 k11 (fX9_worthOf_b32 k5 k11 n) a0 x1 x2 x4 x5 x7 x10 x8 ((((10 : Int32)) - q2_.1).toInt64) q2_.2
          )
        )
      )
    )
def fX9_worthOf_b11 (k5 : Nat → Int32 → Int64 → Int32 → Mm → Option (Int64 × Mm)) : Nat → Nat → Int32 → Int64 → Int32 → Int64 → Int32 → Mm → Option (Int64 × Mm)
  | 0, _, _, _, _, _, _, _ => none
  | n + 1, a0, x1, x2, x4, x5, x7, M =>
    Option.bind (fI M 9 a0 0) fun v1_ =>
    if v1_ ≤ x7 then (
      if x4 = 0 then (
        some (x2 + x5, M)
      ) else (
        k5 a0 x1 (x2 + x5) ((x4 - ((1 : Int32))) &&& x1) M
      )
    ) else (
      Option.bind (fR M 9 a0 21) fun o2_ =>
      Option.bind (aJ M o2_ x7) fun v3_ =>
      fX9_worthOf_b32 k5 (fX9_worthOf_b11 k5 n) FU a0 x1 x2 x4 x5 x7 v3_ ((0 : Int32)) M
    )
def fX9_worthOf_b5  : Nat → Nat → Int32 → Int64 → Int32 → Mm → Option (Int64 × Mm)
  | 0, _, _, _, _, _ => none
  | n + 1, a0, x1, x2, x4, M =>
    fX9_worthOf_b11 (fX9_worthOf_b5 n) FU a0 x1 x2 x4 ((0 : Int64)) ((0 : Int32)) M
def fX9_worthOf (a0 : Nat) (x1 : Int32) (M : Mm) : Option (Int64 × Mm) :=
  Option.bind (kc M 9 a0) fun _ =>
  fX9_worthOf_b5 FU a0 x1 ((0 : Int64)) x1 M
def fX9_worth (a0 : Nat) (x1 : Int32) (M : Mm) : Option (Int64 × Mm) :=
  Option.bind (kc M 9 a0) fun _ =>
  if x1 < 0 then (
    Option.bind (fX9_no a0 ((-1 : Int32)) M) fun q1_ =>
    some (q1_.1.toInt64, q1_.2)
  ) else (
    Option.bind (fI M 9 a0 6) fun v2_ =>
    if x1 < (((1 : Int32)) <<< (v2_ &&& 31)) then (
      Option.bind (fI M 9 a0 8) fun v3_ =>
      Option.bind (fX9_count a0 x1 M) fun q4_ =>
      if (v3_ + q4_.1) ≤ ((17 : Int32)) then (
        Option.bind (fX9_worthOf a0 x1 q4_.2) fun q5_ =>
        some (q5_.1, q5_.2)
      ) else (
        Option.bind (fX9_no a0 ((-7 : Int32)) q4_.2) fun q6_ =>
        some (q6_.1.toInt64, q6_.2)
      )
    ) else (
      Option.bind (fX9_no a0 ((-1 : Int32)) M) fun q7_ =>
      some (q7_.1.toInt64, q7_.2)
    )
  )
def fX1_bestAlone_b9  : Nat → Nat → Int32 → Int64 → Int32 → Mm → Option (Int32 × Mm)
  | 0, _, _, _, _, _ => none
  | n + 1, a0, x1, x2, x4, M =>
    Option.bind (fI M 1 a0 2) fun v1_ =>
    if v1_ ≤ x4 then (
      some (x1, M)
    ) else (
      Option.bind (fX1_worthBehind 40 a0 (((1 : Int32)) <<< (x4 &&& 31)) ((0 : Int32)) M) fun q2_ =>
      if q2_.1 ≤ x2 then (
        (fX1_bestAlone_b9 n) a0 x1 x2 (x4 + (1 : Int32)) q2_.2
      ) else (
        (fX1_bestAlone_b9 n) a0 x4 q2_.1 (x4 + (1 : Int32)) q2_.2
      )
    )
def fX1_bestAlone (a0 : Nat) (M : Mm) : Option (Int32 × Mm) :=
  Option.bind (kc M 1 a0) fun _ =>
  fX1_bestAlone_b9 FU a0 ((-1 : Int32)) ((-1 : Int64)) ((0 : Int32)) M
def fX8_next (a0 : Nat) (M : Mm) : Option (Int32 × Mm) :=
  Option.bind (kc M 8 a0) fun _ =>
  Option.bind (fR M 8 a0 1) fun o1_ =>
  Option.bind (fI M 5 o1_ 7) fun v2_ =>
  if v2_ = 0 then (
    Option.bind (fX8_refused a0 ((-5 : Int32)) M) fun q11_ =>
    some (q11_.1, q11_.2)
  ) else (
    Option.bind (fR M 8 a0 1) fun o3_ =>
    Option.bind (fI M 5 o3_ 12) fun v4_ =>
    if (v4_ + ((1 : Int32))) ≤ ((17 : Int32)) then (
      Option.bind (fR M 8 a0 7) fun o5_ =>
      Option.bind (fR M 8 a0 1) fun o6_ =>
      Option.bind (fX1_lookFrom o5_ o6_ M) fun M7_ =>
      Option.bind (fR M7_ 8 a0 7) fun o8_ =>
      Option.bind (fX1_bestAlone o8_ M7_) fun q9_ =>
      some (q9_.1, q9_.2)
    ) else (
      Option.bind (fX8_refused a0 ((-7 : Int32)) M) fun q10_ =>
      some (q10_.1, q10_.2)
    )
  )
def fX9_next_b55 (k21 : Nat → Int32 → Int64 → Int32 → Mm → Option (Int32 × Mm)) (a0 : Nat) (x4 : Int32) (x5 : Int64) (M : Mm) : Option (Int32 × Mm) :=
  k21 a0 x4 x5 (x4 + (1 : Int32)) M
def fX9_next_b21  : Nat → Nat → Int32 → Int64 → Int32 → Mm → Option (Int32 × Mm)
  | 0, _, _, _, _, _ => none
  | n + 1, a0, x1, x2, x4, M =>
    Option.bind (fI M 9 a0 6) fun v1_ =>
    if v1_ ≤ x4 then (
      some (x1, M)
    ) else (
      Option.bind (fX9_worthOf a0 (((1 : Int32)) <<< (x4 &&& 31)) M) fun q2_ =>
      if x1 = ((-1 : Int32)) then (
        fX9_next_b55 (fX9_next_b21 n) a0 x4 q2_.1 q2_.2
      ) else (
        if x2 < q2_.1 then (
          fX9_next_b55 (fX9_next_b21 n) a0 x4 q2_.1 q2_.2
        ) else (
          (fX9_next_b21 n) a0 x1 x2 (x4 + (1 : Int32)) q2_.2
        )
      )
    )
def fX9_next (a0 : Nat) (M : Mm) : Option (Int32 × Mm) :=
  Option.bind (kc M 9 a0) fun _ =>
  Option.bind (fI M 9 a0 6) fun v1_ =>
  if v1_ = 0 then (
    Option.bind (fX9_no a0 ((-5 : Int32)) M) fun q2_ =>
    some (q2_.1, q2_.2)
  ) else (
    fX9_next_b21 FU a0 ((-1 : Int32)) ((0 : Int64)) ((0 : Int32)) M
  )
def fX1_bestMoreBut_b13  : Nat → Nat → Int32 → Int64 → Int32 → Mm → Option (Int64 × Mm)
  | 0, _, _, _, _, _ => none
  | n + 1, a0, x1, x2, x4, M =>
    Option.bind (fI M 1 a0 2) fun v1_ =>
    if v1_ ≤ x4 then (
      some (x2, M)
    ) else (
      if x4 = x1 then (
        (fX1_bestMoreBut_b13 n) a0 x1 x2 (x4 + (1 : Int32)) M
      ) else (
        Option.bind (fX1_worthBehind 40 a0 (((1 : Int32)) <<< (x4 &&& 31)) ((1 : Int32)) M) fun q2_ =>
        (fX1_bestMoreBut_b13 n) a0 x1 (mxJ x2 q2_.1) (x4 + (1 : Int32)) q2_.2
      )
    )
def fX1_bestMoreBut (a0 : Nat) (x1 : Int32) (M : Mm) : Option (Int64 × Mm) :=
  Option.bind (kc M 1 a0) fun _ =>
  Option.bind (fX1_greatest a0 ((1 : Int32)) M) fun q1_ =>
  fX1_bestMoreBut_b13 FU a0 x1 (((10 : Int64)) * q1_.1) ((0 : Int32)) q1_.2
def fX1_bestOfTwo_b9  : Nat → Nat → Int32 → Int64 → Int32 → Mm → Option (Int32 × Mm)
  | 0, _, _, _, _, _ => none
  | n + 1, a0, x1, x2, x4, M =>
    Option.bind (fI M 1 a0 2) fun v1_ =>
    if v1_ ≤ x4 then (
      some (x1, M)
    ) else (
      Option.bind (fX1_weigh a0 ((0 : Int32)) x4 ((1 : Int32)) M) fun q2_ =>
      Option.bind (fX1_bestMoreBut a0 x4 q2_.2) fun q3_ =>
      Option.bind (fX1_weigh a0 ((0 : Int32)) x4 ((0 : Int32)) q3_.2) fun q4_ =>
      Option.bind (fX1_bestMoreBut a0 x4 q4_.2) fun q5_ =>
      if (q3_.1 + q5_.1) ≤ x2 then (
        (fX1_bestOfTwo_b9 n) a0 x1 x2 (x4 + (1 : Int32)) q5_.2
      ) else (
        (fX1_bestOfTwo_b9 n) a0 x4 (q3_.1 + q5_.1) (x4 + (1 : Int32)) q5_.2
      )
    )
def fX1_bestOfTwo (a0 : Nat) (M : Mm) : Option (Int32 × Mm) :=
  Option.bind (kc M 1 a0) fun _ =>
  fX1_bestOfTwo_b9 FU a0 ((-1 : Int32)) ((-1 : Int64)) ((0 : Int32)) M
def fX8_ahead (a0 : Nat) (M : Mm) : Option (Int32 × Mm) :=
  Option.bind (kc M 8 a0) fun _ =>
  Option.bind (fR M 8 a0 1) fun o1_ =>
  Option.bind (fI M 5 o1_ 7) fun v2_ =>
  if v2_ = 0 then (
    Option.bind (fX8_refused a0 ((-5 : Int32)) M) fun q11_ =>
    some (q11_.1, q11_.2)
  ) else (
    Option.bind (fR M 8 a0 1) fun o3_ =>
    Option.bind (fI M 5 o3_ 12) fun v4_ =>
    if (v4_ + ((2 : Int32))) ≤ ((17 : Int32)) then (
      Option.bind (fR M 8 a0 7) fun o5_ =>
      Option.bind (fR M 8 a0 1) fun o6_ =>
      Option.bind (fX1_lookFrom o5_ o6_ M) fun M7_ =>
      Option.bind (fR M7_ 8 a0 7) fun o8_ =>
      Option.bind (fX1_bestOfTwo o8_ M7_) fun q9_ =>
      some (q9_.1, q9_.2)
    ) else (
      Option.bind (fX8_refused a0 ((-7 : Int32)) M) fun q10_ =>
      some (q10_.1, q10_.2)
    )
  )
def fX9_behind_b94 (k6 : Nat → Int32 → Int32 → Int32 → Int64 → Int32 → Mm → Option (Int64 × Mm)) (k18 : Nat → Int32 → Int32 → Int32 → Int64 → Int32 → Int64 → Int32 → Mm → Option (Int64 × Mm)) (a0 : Nat) (x1 : Int32) (x2 : Int32) (x3 : Int32) (x4 : Int64) (x6 : Int32) (x7 : Int64) (x9 : Int32) (s0 : Int64) (s1 : Int32) (M : Mm) : Option (Int64 × Mm) :=
  if (s0 * s1.toInt64) ≤ x7 then (
    k18 a0 x1 x2 x3 x4 x6 x7 (x9 + (1 : Int32)) M
  ) else (
    k18 a0 x1 x2 x3 x4 x6 (s0 * s1.toInt64) (x9 + (1 : Int32)) M
  )
def fX9_behind_b76 (k6 : Nat → Int32 → Int32 → Int32 → Int64 → Int32 → Mm → Option (Int64 × Mm)) (k18 : Nat → Int32 → Int32 → Int32 → Int64 → Int32 → Int64 → Int32 → Mm → Option (Int64 × Mm)) (a0 : Nat) (x1 : Int32) (x2 : Int32) (x3 : Int32) (x4 : Int64) (x6 : Int32) (x7 : Int64) (x9 : Int32) (x11 : Int32) (s0 : Int64) (s1 : Int32) (M : Mm) : Option (Int64 × Mm) :=
  if x6 = ((1 : Int32)) then (
    fX9_behind_b94 k6 k18 a0 x1 x2 x3 x4 x6 x7 x9 (s0 * s1.toInt64) x11 M
  ) else (
    fX9_behind_b94 k6 k18 a0 x1 x2 x3 x4 x6 x7 x9 (s0 * s1.toInt64) (((10 : Int32)) - x11) M
  )
def fX9_behind_b52 (k6 : Nat → Int32 → Int32 → Int32 → Int64 → Int32 → Mm → Option (Int64 × Mm)) (k18 : Nat → Int32 → Int32 → Int32 → Int64 → Int32 → Int64 → Int32 → Mm → Option (Int64 × Mm)) (a0 : Nat) (x1 : Int32) (x2 : Int32) (x3 : Int32) (x4 : Int64) (x6 : Int32) (x7 : Int64) (x9 : Int32) (x10 : Int32) (s0 : Int32) (M : Mm) : Option (Int64 × Mm) :=
  Option.bind (fR M 9 a0 21) fun o1_ =>
  Option.bind (aJ M o1_ x9) fun v2_ =>
  if x2 = ((1 : Int32)) then (
    fX9_behind_b76 k6 k18 a0 x1 x2 x3 x4 x6 x7 x9 s0 v2_ x10 M
  ) else (
    fX9_behind_b76 k6 k18 a0 x1 x2 x3 x4 x6 x7 x9 s0 v2_ (((10 : Int32)) - x10) M
  )
def fX9_behind_b18 (k6 : Nat → Int32 → Int32 → Int32 → Int64 → Int32 → Mm → Option (Int64 × Mm)) : Nat → Nat → Int32 → Int32 → Int32 → Int64 → Int32 → Int64 → Int32 → Mm → Option (Int64 × Mm)
  | 0, _, _, _, _, _, _, _, _, _ => none
  | n + 1, a0, x1, x2, x3, x4, x6, x7, x9, M =>
    Option.bind (fI M 9 a0 0) fun v1_ =>
    if v1_ ≤ x9 then (
      k6 a0 x1 x2 x3 (x4 + x7) (x6 + (1 : Int32)) M
    ) else (
      Option.bind (fX9_strengthOf a0 x1 x9 M) fun q2_ =>
      if x3 = ((-1 : Int32)) then (
        fX9_behind_b52 k6 (fX9_behind_b18 k6 n) a0 x1 x2 x3 x4 x6 x7 x9 q2_.1 ((5 : Int32)) q2_.2
      ) else (
        Option.bind (fX9_strengthOf a0 x3 x9 q2_.2) fun q3_ =>
        fX9_behind_b52 k6 (fX9_behind_b18 k6 n) a0 x1 x2 x3 x4 x6 x7 x9 q2_.1 q3_.1 q3_.2
      )
    )
def fX9_behind_b6  : Nat → Nat → Int32 → Int32 → Int32 → Int64 → Int32 → Mm → Option (Int64 × Mm)
  | 0, _, _, _, _, _, _, _ => none
  | n + 1, a0, x1, x2, x3, x4, x6, M =>
    if ((2 : Int32)) ≤ x6 then (
      some (x4, M)
    ) else (
      fX9_behind_b18 (fX9_behind_b6 n) FU a0 x1 x2 x3 x4 x6 ((0 : Int64)) ((0 : Int32)) M
    )
def fX9_behind (a0 : Nat) (x1 : Int32) (x2 : Int32) (x3 : Int32) (M : Mm) : Option (Int64 × Mm) :=
  Option.bind (kc M 9 a0) fun _ =>
  fX9_behind_b6 FU a0 x1 x2 x3 ((0 : Int64)) ((0 : Int32)) M
def fX9_ahead_b154 (k37 : Nat → Int32 → Int64 → Int32 → Mm → Option (Int32 × Mm)) (a0 : Nat) (x4 : Int32) (x5 : Int64) (M : Mm) : Option (Int32 × Mm) :=
  k37 a0 x4 x5 (x4 + (1 : Int32)) M
def fX9_ahead_b72 (k37 : Nat → Int32 → Int64 → Int32 → Mm → Option (Int32 × Mm)) (k52 : Nat → Int32 → Int64 → Int32 → Int64 → Int32 → Mm → Option (Int32 × Mm)) : Nat → Nat → Int32 → Int64 → Int32 → Int64 → Int32 → Int64 → Int32 → Mm → Option (Int32 × Mm)
  | 0, _, _, _, _, _, _, _, _, _ => none
  | n + 1, a0, x1, x2, x4, x5, x7, x8, x10, M =>
    Option.bind (fI M 9 a0 6) fun v1_ =>
    if v1_ ≤ x10 then (
      k52 a0 x1 x2 x4 (x5 + x8) (x7 + (1 : Int32)) M
    ) else (
      if x10 = x4 then (
        (fX9_ahead_b72 k37 k52 n) a0 x1 x2 x4 x5 x7 x8 (x10 + (1 : Int32)) M
      ) else (
        Option.bind (fX9_behind a0 x4 x7 x10 M) fun q2_ =>
        if q2_.1 ≤ x8 then (
          (fX9_ahead_b72 k37 k52 n) a0 x1 x2 x4 x5 x7 x8 (x10 + (1 : Int32)) q2_.2
        ) else (
          (fX9_ahead_b72 k37 k52 n) a0 x1 x2 x4 x5 x7 q2_.1 (x10 + (1 : Int32)) q2_.2
        )
      )
    )
def fX9_ahead_b52 (k37 : Nat → Int32 → Int64 → Int32 → Mm → Option (Int32 × Mm)) : Nat → Nat → Int32 → Int64 → Int32 → Int64 → Int32 → Mm → Option (Int32 × Mm)
  | 0, _, _, _, _, _, _, _ => none
  | n + 1, a0, x1, x2, x4, x5, x7, M =>
    if ((2 : Int32)) ≤ x7 then (
      if x1 = ((-1 : Int32)) then (
        fX9_ahead_b154 k37 a0 x4 x5 M
      ) else (
        if x2 < x5 then (
          fX9_ahead_b154 k37 a0 x4 x5 M
        ) else (
          k37 a0 x1 x2 (x4 + (1 : Int32)) M
        )
      )
    ) else (
      Option.bind (fX9_behind a0 x4 x7 ((-1 : Int32)) M) fun q1_ =>
      fX9_ahead_b72 k37 (fX9_ahead_b52 k37 n) FU a0 x1 x2 x4 x5 x7 q1_.1 ((0 : Int32)) q1_.2
    )
def fX9_ahead_b37  : Nat → Nat → Int32 → Int64 → Int32 → Mm → Option (Int32 × Mm)
  | 0, _, _, _, _, _ => none
  | n + 1, a0, x1, x2, x4, M =>
    Option.bind (fI M 9 a0 6) fun v1_ =>
    if v1_ ≤ x4 then (
      some (x1, M)
    ) else (
      fX9_ahead_b52 (fX9_ahead_b37 n) FU a0 x1 x2 x4 ((0 : Int64)) ((0 : Int32)) M
    )
def fX9_ahead (a0 : Nat) (M : Mm) : Option (Int32 × Mm) :=
  Option.bind (kc M 9 a0) fun _ =>
  Option.bind (fI M 9 a0 6) fun v1_ =>
  if v1_ = 0 then (
    Option.bind (fX9_no a0 ((-5 : Int32)) M) fun q4_ =>
    some (q4_.1, q4_.2)
  ) else (
    Option.bind (fI M 9 a0 8) fun v2_ =>
    if v2_ ≤ ((15 : Int32)) then (
      fX9_ahead_b37 FU a0 ((-1 : Int32)) ((0 : Int64)) ((0 : Int32)) M
    ) else (
      Option.bind (fX9_no a0 ((-7 : Int32)) M) fun q3_ =>
      some (q3_.1, q3_.2)
    )
  )
def fX1_reaches_b43  : Nat → Int32 → Int64 → Int64 → Int32 → Mm → Option (Int32 × Mm)
  | 0, _, _, _, _, _ => none
  | n + 1, x2, x6, x8, x10, M =>
    if x2 ≤ x10 then (
      if x6 < x8 then (
        some ((0 : Int32), M)
      ) else (
        some ((1 : Int32), M)
      )
    ) else (
      (fX1_reaches_b43 n) x2 x6 (x8 * ((10 : Int64))) (x10 + (1 : Int32)) M
    )
def fX1_reaches (a0 : Nat) (x1 : Int32) (x2 : Int32) (x3 : Int32) (x4 : Int64) (M : Mm) : Option (Int32 × Mm) :=
  Option.bind (kc M 1 a0) fun _ =>
  Option.bind (fX1_worthBehind 40 a0 x1 ((0 : Int32)) M) fun q1_ =>
  if x2 = 0 then (
    if (q1_.1 * ((10 : Int64))) < (x3.toInt64 * x4) then (
      some ((0 : Int32), q1_.2)
    ) else (
      some ((1 : Int32), q1_.2)
    )
  ) else (
    fX1_reaches_b43 FU x2 q1_.1 (x3.toInt64 * x4) ((1 : Int32)) q1_.2
  )
def fX1_fewestFor_b15 (k3 : Nat → Int32 → Int64 → Int32 → Mm → Option (Int32 × Mm)) : Nat → Nat → Int32 → Int64 → Int32 → Int32 → Mm → Option (Int32 × Mm)
  | 0, _, _, _, _, _, _ => none
  | n + 1, a0, x1, x2, x4, x5, M =>
    Option.bind (fI M 1 a0 2) fun v1_ =>
    if (((1 : Int32)) <<< (v1_ &&& 31)) ≤ x5 then (
      k3 a0 x1 x2 (x4 + (1 : Int32)) M
    ) else (
      Option.bind (fJ6_bitCount_0f7a4 x5 M) fun q2_ =>
      if q2_.1 = x4 then (
        Option.bind (fX1_reaches a0 x5 x4 x1 x2 q2_.2) fun q3_ =>
        if q3_.1 = 0 then (
          (fX1_fewestFor_b15 k3 n) a0 x1 x2 x4 (x5 + (1 : Int32)) q3_.2
        ) else (
          some (x5, q3_.2)
        )
      ) else (
        (fX1_fewestFor_b15 k3 n) a0 x1 x2 x4 (x5 + (1 : Int32)) q2_.2
      )
    )
def fX1_fewestFor_b3  : Nat → Nat → Int32 → Int64 → Int32 → Mm → Option (Int32 × Mm)
  | 0, _, _, _, _, _ => none
  | n + 1, a0, x1, x2, x4, M =>
    Option.bind (fI M 1 a0 2) fun v1_ =>
    if v1_ < x4 then (
      some ((-1 : Int32), M)
    ) else (
      fX1_fewestFor_b15 (fX1_fewestFor_b3 n) FU a0 x1 x2 x4 ((0 : Int32)) M
    )
def fX1_fewestFor (a0 : Nat) (x1 : Int32) (x2 : Int64) (M : Mm) : Option (Int32 × Mm) :=
  Option.bind (kc M 1 a0) fun _ =>
  fX1_fewestFor_b3 FU a0 x1 x2 ((0 : Int32)) M
def fX8_least (a0 : Nat) (x1 : Int32) (M : Mm) : Option (Int32 × Mm) :=
  Option.bind (kc M 8 a0) fun _ =>
  if x1 < 0 then (
    Option.bind (fX8_refused a0 ((-6 : Int32)) M) fun q1_ =>
    some (q1_.1 + ((-10 : Int32)), q1_.2)
  ) else (
    if x1 ≤ ((10 : Int32)) then (
      Option.bind (fR M 8 a0 1) fun o2_ =>
      Option.bind (fI M 5 o2_ 12) fun v3_ =>
      if v3_ ≤ ((9 : Int32)) then (
        Option.bind (fR M 8 a0 7) fun o4_ =>
        Option.bind (fR M 8 a0 1) fun o5_ =>
        Option.bind (fX1_lookFrom o4_ o5_ M) fun M6_ =>
        Option.bind (fR M6_ 8 a0 7) fun o7_ =>
        Option.bind (fR M6_ 8 a0 1) fun o8_ =>
        Option.bind (fR M6_ 5 o8_ 10) fun o9_ =>
        Option.bind (fX0_all o9_ M6_) fun q10_ =>
        Option.bind (fX1_fewestFor o7_ x1 q10_.1 q10_.2) fun q11_ =>
        some (q11_.1, q11_.2)
      ) else (
        Option.bind (fX8_refused a0 ((-7 : Int32)) M) fun q12_ =>
        some (q12_.1 + ((-10 : Int32)), q12_.2)
      )
    ) else (
      Option.bind (fX8_refused a0 ((-6 : Int32)) M) fun q13_ =>
      some (q13_.1 + ((-10 : Int32)), q13_.2)
    )
  )
def fX9_noTen (a0 : Nat) (x1 : Int32) (M : Mm) : Option (Int32 × Mm) :=
  Option.bind (kc M 9 a0) fun _ =>
  Option.bind (fR M 9 a0 13) fun o1_ =>
  Option.bind (aI M o1_ (-x1)) fun v2_ =>
  Option.bind (tI M o1_ (-x1) (v2_ + ((1 : Int32)))) fun M3_ =>
  some (x1 - ((10 : Int32)), M3_)
def fX9_least_b146 (k43 : Nat → Int32 → Int32 → Int64 → Int32 → Mm → Option (Int32 × Mm)) (a0 : Nat) (x1 : Int32) (x3 : Int64) (x5 : Int32) (M : Mm) : Option (Int32 × Mm) :=
  k43 a0 x1 x5 x3 (x5 + (1 : Int32)) M
def fX9_least_b97 (k43 : Nat → Int32 → Int32 → Int64 → Int32 → Mm → Option (Int32 × Mm)) : Nat → Nat → Int32 → Int32 → Int64 → Int32 → Int32 → Int64 → Int64 → Int32 → Mm → Option (Int32 × Mm)
  | 0, _, _, _, _, _, _, _, _, _, _ => none
  | n + 1, a0, x1, x2, x3, x5, x6, x7, x9, x11, M =>
    if x6 ≤ x11 then (
      if x6 = 0 then (
        if (x9 * ((10 : Int64))) < x7 then (
          k43 a0 x1 x2 x3 (x5 + (1 : Int32)) M
        ) else (
          fX9_least_b146 k43 a0 x1 x3 x5 M
        )
      ) else (
        if x9 < x7 then (
          k43 a0 x1 x2 x3 (x5 + (1 : Int32)) M
        ) else (
          fX9_least_b146 k43 a0 x1 x3 x5 M
        )
      )
    ) else (
      (fX9_least_b97 k43 n) a0 x1 x2 x3 x5 x6 (x7 * ((10 : Int64))) x9 (x11 + (1 : Int32)) M
    )
def fX9_least_b80 (k43 : Nat → Int32 → Int32 → Int64 → Int32 → Mm → Option (Int32 × Mm)) (a0 : Nat) (x1 : Int32) (x2 : Int32) (x3 : Int64) (x5 : Int32) (x6 : Int32) (M : Mm) : Option (Int32 × Mm) :=
  Option.bind (fX9_worthOf a0 x5 M) fun q1_ =>
  fX9_least_b97 k43 FU a0 x1 x2 x3 x5 x6 (x1.toInt64 * x3) q1_.1 ((1 : Int32)) q1_.2
def fX9_least_b43  : Nat → Nat → Int32 → Int32 → Int64 → Int32 → Mm → Option (Int32 × Mm)
  | 0, _, _, _, _, _, _ => none
  | n + 1, a0, x1, x2, x3, x5, M =>
    Option.bind (fI M 9 a0 6) fun v1_ =>
    if (((1 : Int32)) <<< (v1_ &&& 31)) ≤ x5 then (
      some (x2, M)
    ) else (
      Option.bind (fX9_count a0 x5 M) fun q2_ =>
      if x2 = ((-1 : Int32)) then (
        fX9_least_b80 (fX9_least_b43 n) a0 x1 x2 x3 x5 q2_.1 q2_.2
      ) else (
        Option.bind (fX9_count a0 x2 q2_.2) fun q3_ =>
        if q2_.1 < q3_.1 then (
          fX9_least_b80 (fX9_least_b43 n) a0 x1 x2 x3 x5 q2_.1 q3_.2
        ) else (
          (fX9_least_b43 n) a0 x1 x2 x3 (x5 + (1 : Int32)) q3_.2
        )
      )
    )
def fX9_least (a0 : Nat) (x1 : Int32) (M : Mm) : Option (Int32 × Mm) :=
  Option.bind (kc M 9 a0) fun _ =>
  if x1 < 0 then (
    Option.bind (fX9_noTen a0 ((-6 : Int32)) M) fun q1_ =>
    some (q1_.1, q1_.2)
  ) else (
    if x1 ≤ ((10 : Int32)) then (
      Option.bind (fI M 9 a0 8) fun v2_ =>
      if v2_ ≤ ((9 : Int32)) then (
        Option.bind (fX9_sum a0 M) fun q3_ =>
        fX9_least_b43 FU a0 x1 ((-1 : Int32)) q3_.1 ((0 : Int32)) q3_.2
      ) else (
        Option.bind (fX9_noTen a0 ((-7 : Int32)) M) fun q4_ =>
        some (q4_.1, q4_.2)
      )
    ) else (
      Option.bind (fX9_noTen a0 ((-6 : Int32)) M) fun q5_ =>
      some (q5_.1, q5_.2)
    )
  )
def fX5_standsOnWalk (a0 : Nat) (x1 : Int32) (x2 : Int32) (x3 : Int32) (x4 : Int32) (M : Mm) : Option (Int32 × Mm) :=
  Option.bind (kc M 5 a0) fun _ =>
  Option.bind (fX5_thingAt a0 x1 M) fun q1_ =>
  Option.bind (some q1_.1) fun n2_ =>
  Option.elim n2_ (
    some ((0 : Int32), q1_.2)
  ) (fun o3_ =>
    if ((x4 >>> (x1 &&& 31)) &&& ((1 : Int32))) = 0 then (
      Option.bind (fI q1_.2 6 o3_ 0) fun v4_ =>
      if v4_ < (mnI x2 x3) then (
        some ((0 : Int32), q1_.2)
      ) else (
        Option.bind (fI q1_.2 6 o3_ 0) fun v5_ =>
        if (mxI x2 x3) < v5_ then (
          some ((0 : Int32), q1_.2)
        ) else (
          some ((1 : Int32), q1_.2)
        )
      )
    ) else (
      some ((0 : Int32), q1_.2)
    )
  )
def fX5_missedOfHundred (a0 : Nat) (x1 : Int32) (M : Mm) : Option (Int32 × Mm) :=
  Option.bind (kc M 5 a0) fun _ =>
  Option.bind (fX5_thingAt a0 x1 M) fun q1_ =>
  Option.bind (some q1_.1) fun n2_ =>
  Option.elim n2_ (
    some ((100 : Int32), q1_.2)
  ) (fun o3_ =>
    Option.bind (fI q1_.2 6 o3_ 2) fun v4_ =>
    Option.bind (fI q1_.2 6 o3_ 1) fun v5_ =>
    if v5_ = 0 then (
      Option.bind (fI q1_.2 5 a0 5) fun v6_ =>
      some (((100 : Int32)) - (v4_ * (((10 : Int32)) - v6_)), q1_.2)
    ) else (
      some (((100 : Int32)) - (v4_ * ((10 : Int32))), q1_.2)
    )
  )
def fX5_safeBut_b6  : Nat → Nat → Int32 → Int32 → Int32 → Int64 → Int32 → Mm → Option (Int64 × Mm)
  | 0, _, _, _, _, _, _, _ => none
  | n + 1, a0, x1, x2, x3, x4, x6, M =>
    Option.bind (fI M 5 a0 9) fun v1_ =>
    if v1_ ≤ x6 then (
      some (x4, M)
    ) else (
      Option.bind (fX5_standsOnWalk a0 x6 x1 x2 x3 M) fun q2_ =>
      if q2_.1 = 0 then (
        (fX5_safeBut_b6 n) a0 x1 x2 x3 x4 (x6 + (1 : Int32)) q2_.2
      ) else (
        Option.bind (fX5_missedOfHundred a0 x6 q2_.2) fun q3_ =>
        (fX5_safeBut_b6 n) a0 x1 x2 x3 (x4 * q3_.1.toInt64) (x6 + (1 : Int32)) q3_.2
      )
    )
def fX5_safeBut (a0 : Nat) (x1 : Int32) (x2 : Int32) (x3 : Int32) (M : Mm) : Option (Int64 × Mm) :=
  Option.bind (kc M 5 a0) fun _ =>
  fX5_safeBut_b6 FU a0 x1 x2 x3 ((1 : Int64)) ((0 : Int32)) M
def fX8_safe (a0 : Nat) (x1 : Int32) (x2 : Int32) (M : Mm) : Option (Int64 × Mm) :=
  Option.bind (kc M 8 a0) fun _ =>
  Option.bind (fR M 8 a0 1) fun o1_ =>
  Option.bind (fX5_hasCell o1_ x1 M) fun q2_ =>
  if q2_.1 = 0 then (
    Option.bind (fX8_refused a0 ((-1 : Int32)) q2_.2) fun q3_ =>
    some (q3_.1.toInt64, q3_.2)
  ) else (
    Option.bind (fR q2_.2 8 a0 1) fun o4_ =>
    Option.bind (fX5_hasCell o4_ x2 q2_.2) fun q5_ =>
    if q5_.1 = 0 then (
      Option.bind (fX8_refused a0 ((-1 : Int32)) q5_.2) fun q8_ =>
      some (q8_.1.toInt64, q8_.2)
    ) else (
      Option.bind (fR q5_.2 8 a0 1) fun o6_ =>
      Option.bind (fX5_safeBut o6_ x1 x2 ((0 : Int32)) q5_.2) fun q7_ =>
      some (q7_.1, q7_.2)
    )
  )
def fX9_onWalk_b29  : Nat → Nat → Int32 → Int32 → Int32 → Int32 → Mm → Option (Int32 × Mm)
  | 0, _, _, _, _, _, _ => none
  | n + 1, a0, x3, x4, x5, x6, M =>
    Option.bind (fI M 9 a0 7) fun v1_ =>
    if v1_ ≤ x6 then (
      some (x5, M)
    ) else (
      Option.bind (fR M 9 a0 18) fun o2_ =>
      Option.bind (aI M o2_ x6) fun v3_ =>
      if v3_ < x3 then (
        (fX9_onWalk_b29 n) a0 x3 x4 x5 (x6 + (1 : Int32)) M
      ) else (
        Option.bind (fR M 9 a0 18) fun o4_ =>
        Option.bind (aI M o4_ x6) fun v5_ =>
        if x4 < v5_ then (
          (fX9_onWalk_b29 n) a0 x3 x4 x5 (x6 + (1 : Int32)) M
        ) else (
          (fX9_onWalk_b29 n) a0 x3 x4 (x5 ||| (((1 : Int32)) <<< (x6 &&& 31))) (x6 + (1 : Int32)) M
        )
      )
    )
def fX9_onWalk_b21  (a0 : Nat) (x3 : Int32) (s0 : Int32) (M : Mm) : Option (Int32 × Mm) :=
  fX9_onWalk_b29 FU a0 x3 s0 ((0 : Int32)) ((0 : Int32)) M
def fX9_onWalk_b10  (a0 : Nat) (x1 : Int32) (x2 : Int32) (s0 : Int32) (M : Mm) : Option (Int32 × Mm) :=
  if x2 ≤ x1 then (
    fX9_onWalk_b21 a0 s0 x1 M
  ) else (
    fX9_onWalk_b21 a0 s0 x2 M
  )
def fX9_onWalk (a0 : Nat) (x1 : Int32) (x2 : Int32) (M : Mm) : Option (Int32 × Mm) :=
  Option.bind (kc M 9 a0) fun _ =>
  if x2 ≤ x1 then (
    fX9_onWalk_b10 a0 x1 x2 x2 M
  ) else (
    fX9_onWalk_b10 a0 x1 x2 x1 M
  )
def fX9_safeOf_b59 (k5 : Nat → Int32 → Int64 → Int32 → Mm → Option (Int64 × Mm)) (a0 : Nat) (x1 : Int32) (x4 : Int32) (s0 : Int64) (s1 : Int32) (s2 : Int32) (s3 : Int32) (M : Mm) : Option (Int64 × Mm) :=
  k5 a0 x1 (s0 * ((s1 - (s2 * s3)).toInt64)) (x4 + (1 : Int32)) M
def fX9_safeOf_b5  : Nat → Nat → Int32 → Int64 → Int32 → Mm → Option (Int64 × Mm)
  | 0, _, _, _, _, _ => none
  | n + 1, a0, x1, x2, x4, M =>
    Option.bind (fI M 9 a0 7) fun v1_ =>
    if v1_ ≤ x4 then (
      some (x2, M)
    ) else (
      if ((x1 >>> (x4 &&& 31)) &&& ((1 : Int32))) = 0 then (
        (fX9_safeOf_b5 n) a0 x1 x2 (x4 + (1 : Int32)) M
      ) else (
        Option.bind (fR M 9 a0 20) fun o2_ =>
        Option.bind (aI M o2_ x4) fun v3_ =>
        Option.bind (fR M 9 a0 19) fun o4_ =>
        Option.bind (aI M o4_ x4) fun v5_ =>
        if v5_ = ((1 : Int32)) then (
          fX9_safeOf_b59 (fX9_safeOf_b5 n) a0 x1 x4 x2 ((100 : Int32)) v3_ ((10 : Int32)) M
        ) else (
          Option.bind (fI M 9 a0 5) fun v6_ =>
          fX9_safeOf_b59 (fX9_safeOf_b5 n) a0 x1 x4 x2 ((100 : Int32)) v3_ (((10 : Int32)) - v6_) M
        )
      )
    )
def fX9_safeOf (a0 : Nat) (x1 : Int32) (M : Mm) : Option (Int64 × Mm) :=
  Option.bind (kc M 9 a0) fun _ =>
  fX9_safeOf_b5 FU a0 x1 ((1 : Int64)) ((0 : Int32)) M
def fX9_safe (a0 : Nat) (x1 : Int32) (x2 : Int32) (M : Mm) : Option (Int64 × Mm) :=
  Option.bind (kc M 9 a0) fun _ =>
  Option.bind (fX9_isCell a0 x1 M) fun q1_ =>
  if q1_.1 = 0 then (
    Option.bind (fX9_no a0 ((-1 : Int32)) q1_.2) fun q2_ =>
    some (q2_.1.toInt64, q2_.2)
  ) else (
    Option.bind (fX9_isCell a0 x2 q1_.2) fun q3_ =>
    if q3_.1 = 0 then (
      Option.bind (fX9_no a0 ((-1 : Int32)) q3_.2) fun q4_ =>
      some (q4_.1.toInt64, q4_.2)
    ) else (
      Option.bind (fX9_onWalk a0 x1 x2 q3_.2) fun q5_ =>
      Option.bind (fX9_safeOf a0 q5_.1 q5_.2) fun q6_ =>
      some (q6_.1, q6_.2)
    )
  )
def fX5_firstBut_b11  : Nat → Nat → Int32 → Int32 → Int32 → Int32 → Int64 → Int32 → Mm → Option (Int32 × Mm)
  | 0, _, _, _, _, _, _, _, _ => none
  | n + 1, a0, x1, x2, x3, x4, x5, x7, M =>
    Option.bind (fI M 5 a0 9) fun v1_ =>
    if v1_ ≤ x7 then (
      some (x4, M)
    ) else (
      Option.bind (fX5_standsOnWalk a0 x7 x1 x2 x3 M) fun q2_ =>
      if q2_.1 = 0 then (
        (fX5_firstBut_b11 n) a0 x1 x2 x3 x4 x5 (x7 + (1 : Int32)) q2_.2
      ) else (
        Option.bind (fX5_safeBut a0 x1 x2 (x3 ||| (((1 : Int32)) <<< (x7 &&& 31))) q2_.2) fun q3_ =>
        if q3_.1 ≤ x5 then (
          (fX5_firstBut_b11 n) a0 x1 x2 x3 x4 x5 (x7 + (1 : Int32)) q3_.2
        ) else (
          (fX5_firstBut_b11 n) a0 x1 x2 x3 x7 q3_.1 (x7 + (1 : Int32)) q3_.2
        )
      )
    )
def fX5_firstBut (a0 : Nat) (x1 : Int32) (x2 : Int32) (x3 : Int32) (M : Mm) : Option (Int32 × Mm) :=
  Option.bind (kc M 5 a0) fun _ =>
  fX5_firstBut_b11 FU a0 x1 x2 x3 ((-1 : Int32)) ((-1 : Int64)) ((0 : Int32)) M
def fX8_first (a0 : Nat) (x1 : Int32) (x2 : Int32) (M : Mm) : Option (Int32 × Mm) :=
  Option.bind (kc M 8 a0) fun _ =>
  Option.bind (fR M 8 a0 1) fun o1_ =>
  Option.bind (fX5_hasCell o1_ x1 M) fun q2_ =>
  if q2_.1 = 0 then (
    Option.bind (fX8_refused a0 ((-1 : Int32)) q2_.2) fun q3_ =>
    some (q3_.1, q3_.2)
  ) else (
    Option.bind (fR q2_.2 8 a0 1) fun o4_ =>
    Option.bind (fX5_hasCell o4_ x2 q2_.2) fun q5_ =>
    if q5_.1 = 0 then (
      Option.bind (fX8_refused a0 ((-1 : Int32)) q5_.2) fun q9_ =>
      some (q9_.1, q9_.2)
    ) else (
      Option.bind (fR q5_.2 8 a0 1) fun o6_ =>
      Option.bind (fX5_firstBut o6_ x1 x2 ((0 : Int32)) q5_.2) fun q7_ =>
      if q7_.1 = ((-1 : Int32)) then (
        Option.bind (fX8_refused a0 ((-5 : Int32)) q7_.2) fun q8_ =>
        some (q8_.1, q8_.2)
      ) else (
        some (q7_.1, q7_.2)
      )
    )
  )
def fX9_firstOf_b57 (k7 : Nat → Int32 → Int32 → Int64 → Int32 → Mm → Option (Int32 × Mm)) (a0 : Nat) (x1 : Int32) (x5 : Int32) (x6 : Int64) (M : Mm) : Option (Int32 × Mm) :=
  k7 a0 x1 x5 x6 (x5 + (1 : Int32)) M
def fX9_firstOf_b7  : Nat → Nat → Int32 → Int32 → Int64 → Int32 → Mm → Option (Int32 × Mm)
  | 0, _, _, _, _, _, _ => none
  | n + 1, a0, x1, x2, x3, x5, M =>
    Option.bind (fI M 9 a0 7) fun v1_ =>
    if v1_ ≤ x5 then (
      some (x2, M)
    ) else (
      if ((x1 >>> (x5 &&& 31)) &&& ((1 : Int32))) = 0 then (
        (fX9_firstOf_b7 n) a0 x1 x2 x3 (x5 + (1 : Int32)) M
      ) else (
        Option.bind (fX9_safeOf a0 (x1 &&& ((((1 : Int32)) <<< (x5 &&& 31)) ^^^ ((-1 : Int32)))) M) fun q2_ =>
        if x2 = ((-1 : Int32)) then (
          fX9_firstOf_b57 (fX9_firstOf_b7 n) a0 x1 x5 q2_.1 q2_.2
        ) else (
          if x3 < q2_.1 then (
            fX9_firstOf_b57 (fX9_firstOf_b7 n) a0 x1 x5 q2_.1 q2_.2
          ) else (
            (fX9_firstOf_b7 n) a0 x1 x2 x3 (x5 + (1 : Int32)) q2_.2
          )
        )
      )
    )
def fX9_firstOf (a0 : Nat) (x1 : Int32) (M : Mm) : Option (Int32 × Mm) :=
  Option.bind (kc M 9 a0) fun _ =>
  fX9_firstOf_b7 FU a0 x1 ((-1 : Int32)) ((0 : Int64)) ((0 : Int32)) M
def fX9_first (a0 : Nat) (x1 : Int32) (x2 : Int32) (M : Mm) : Option (Int32 × Mm) :=
  Option.bind (kc M 9 a0) fun _ =>
  Option.bind (fX9_isCell a0 x1 M) fun q1_ =>
  if q1_.1 = 0 then (
    Option.bind (fX9_no a0 ((-1 : Int32)) q1_.2) fun q2_ =>
    some (q2_.1, q2_.2)
  ) else (
    Option.bind (fX9_isCell a0 x2 q1_.2) fun q3_ =>
    if q3_.1 = 0 then (
      Option.bind (fX9_no a0 ((-1 : Int32)) q3_.2) fun q7_ =>
      some (q7_.1, q7_.2)
    ) else (
      Option.bind (fX9_onWalk a0 x1 x2 q3_.2) fun q4_ =>
      Option.bind (fX9_firstOf a0 q4_.1 q4_.2) fun q5_ =>
      if q5_.1 = ((-1 : Int32)) then (
        Option.bind (fX9_no a0 ((-5 : Int32)) q5_.2) fun q6_ =>
        some (q6_.1, q6_.2)
      ) else (
        some (q5_.1, q5_.2)
      )
    )
  )
def fX5_orderedAt_b6  : Nat → Nat → Int32 → Int32 → Int32 → Int32 → Int32 → Mm → Option (Int32 × Mm)
  | 0, _, _, _, _, _, _, _ => none
  | n + 1, a0, x1, x2, x3, x4, x5, M =>
    Option.bind (fI M 5 a0 9) fun v1_ =>
    if v1_ ≤ x5 then (
      some ((-1 : Int32), M)
    ) else (
      if x3 < 0 then (
        some ((-1 : Int32), M)
      ) else (
        Option.bind (fX5_firstBut a0 x1 x2 x4 M) fun q2_ =>
        if x5 = x3 then (
          some (q2_.1, q2_.2)
        ) else (
          if q2_.1 = ((-1 : Int32)) then (
            some (q2_.1, q2_.2)
          ) else (
            (fX5_orderedAt_b6 n) a0 x1 x2 x3 (x4 ||| (((1 : Int32)) <<< (q2_.1 &&& 31))) (x5 + (1 : Int32)) q2_.2
          )
        )
      )
    )
def fX5_orderedAt (a0 : Nat) (x1 : Int32) (x2 : Int32) (x3 : Int32) (M : Mm) : Option (Int32 × Mm) :=
  Option.bind (kc M 5 a0) fun _ =>
  fX5_orderedAt_b6 FU a0 x1 x2 x3 ((0 : Int32)) ((0 : Int32)) M
def fX8_order (a0 : Nat) (x1 : Int32) (x2 : Int32) (x3 : Int32) (M : Mm) : Option (Int32 × Mm) :=
  Option.bind (kc M 8 a0) fun _ =>
  Option.bind (fR M 8 a0 1) fun o1_ =>
  Option.bind (fX5_hasCell o1_ x1 M) fun q2_ =>
  if q2_.1 = 0 then (
    Option.bind (fX8_refused a0 ((-1 : Int32)) q2_.2) fun q3_ =>
    some (q3_.1, q3_.2)
  ) else (
    Option.bind (fR q2_.2 8 a0 1) fun o4_ =>
    Option.bind (fX5_hasCell o4_ x2 q2_.2) fun q5_ =>
    if q5_.1 = 0 then (
      Option.bind (fX8_refused a0 ((-1 : Int32)) q5_.2) fun q9_ =>
      some (q9_.1, q9_.2)
    ) else (
      Option.bind (fR q5_.2 8 a0 1) fun o6_ =>
      Option.bind (fX5_orderedAt o6_ x1 x2 x3 q5_.2) fun q7_ =>
      if q7_.1 = ((-1 : Int32)) then (
        Option.bind (fX8_refused a0 ((-5 : Int32)) q7_.2) fun q8_ =>
        some (q8_.1, q8_.2)
      ) else (
        some (q7_.1, q7_.2)
      )
    )
  )
def fX9_order_b54  : Nat → Nat → Int32 → Int32 → Int32 → Mm → Option (Int32 × Mm)
  | 0, _, _, _, _, _ => none
  | n + 1, a0, x3, x4, x5, M =>
    if x3 ≤ x5 then (
      Option.bind (fX9_firstOf a0 x4 M) fun q1_ =>
      some (q1_.1, q1_.2)
    ) else (
      Option.bind (fX9_firstOf a0 x4 M) fun q2_ =>
      (fX9_order_b54 n) a0 x3 (x4 &&& ((((1 : Int32)) <<< (q2_.1 &&& 31)) ^^^ ((-1 : Int32)))) (x5 + (1 : Int32)) q2_.2
    )
def fX9_order (a0 : Nat) (x1 : Int32) (x2 : Int32) (x3 : Int32) (M : Mm) : Option (Int32 × Mm) :=
  Option.bind (kc M 9 a0) fun _ =>
  Option.bind (fX9_isCell a0 x1 M) fun q1_ =>
  if q1_.1 = 0 then (
    Option.bind (fX9_no a0 ((-1 : Int32)) q1_.2) fun q2_ =>
    some (q2_.1, q2_.2)
  ) else (
    Option.bind (fX9_isCell a0 x2 q1_.2) fun q3_ =>
    if q3_.1 = 0 then (
      Option.bind (fX9_no a0 ((-1 : Int32)) q3_.2) fun q8_ =>
      some (q8_.1, q8_.2)
    ) else (
      Option.bind (fX9_onWalk a0 x1 x2 q3_.2) fun q4_ =>
      if x3 < 0 then (
        Option.bind (fX9_no a0 ((-5 : Int32)) q4_.2) fun q5_ =>
        some (q5_.1, q5_.2)
      ) else (
        Option.bind (fX9_count a0 q4_.1 q4_.2) fun q6_ =>
        if x3 < q6_.1 then (
          fX9_order_b54 FU a0 x3 q4_.1 ((0 : Int32)) q6_.2
        ) else (
          Option.bind (fX9_no a0 ((-5 : Int32)) q6_.2) fun q7_ =>
          some (q7_.1, q7_.2)
        )
      )
    )
  )
def fX8_driftAt (a0 : Nat) (x1 : Int32) (M : Mm) : Option (Int64 × Mm) :=
  Option.bind (kc M 8 a0) fun _ =>
  if x1 < 0 then (
    some ((0 : Int64), M)
  ) else (
    Option.bind (fR M 8 a0 9) fun o1_ =>
    Option.bind (aL M o1_) fun v2_ =>
    if x1 < v2_ then (
      Option.bind (fR M 8 a0 9) fun o3_ =>
      Option.bind (aJ M o3_ x1) fun v4_ =>
      some (v4_, M)
    ) else (
      some ((0 : Int64), M)
    )
  )
def fX8_driftedBy_b41 (k26 : Nat → Int32 → Int32 → Int32 → Int32 → Int32 → Int32 → Mm → Option (Int64 × Mm)) : Nat → Nat → Int32 → Int32 → Int32 → Int32 → Int32 → Int32 → Int32 → Mm → Option (Int64 × Mm)
  | 0, _, _, _, _, _, _, _, _, _ => none
  | n + 1, a0, x1, x2, x3, x4, x5, x6, x7, M =>
    if x7 < 0 then (
      k26 a0 x1 x2 x3 x4 x5 (x6 + (1 : Int32)) M
    ) else (
      Option.bind (fR M 8 a0 9) fun o1_ =>
      Option.bind (fX8_driftAt a0 x7 M) fun q2_ =>
      Option.bind (fX8_driftAt a0 (x7 - ((1 : Int32))) q2_.2) fun q3_ =>
      Option.bind (fX8_driftAt a0 (x7 - ((2 : Int32))) q3_.2) fun q4_ =>
      Option.bind (tJ q4_.2 o1_ x7 (((x2.toInt64 * q2_.1) + (x5.toInt64 * q3_.1)) + (x3.toInt64 * q4_.1))) fun M5_ =>
      (fX8_driftedBy_b41 k26 n) a0 x1 x2 x3 x4 x5 x6 (x7 + (-1 : Int32)) M5_
    )
def fX8_driftedBy_b26  : Nat → Nat → Int32 → Int32 → Int32 → Int32 → Int32 → Int32 → Mm → Option (Int64 × Mm)
  | 0, _, _, _, _, _, _, _, _ => none
  | n + 1, a0, x1, x2, x3, x4, x5, x6, M =>
    if x1 ≤ x6 then (
      Option.bind (fX8_driftAt a0 (x1 + x4) M) fun q1_ =>
      some (q1_.1, q1_.2)
    ) else (
      Option.bind (fR M 8 a0 9) fun o2_ =>
      Option.bind (aL M o2_) fun v3_ =>
      fX8_driftedBy_b41 (fX8_driftedBy_b26 n) FU a0 x1 x2 x3 x4 x5 x6 (v3_ - ((1 : Int32))) M
    )
def fX8_driftedBy (a0 : Nat) (x1 : Int32) (x2 : Int32) (x3 : Int32) (x4 : Int32) (M : Mm) : Option (Int64 × Mm) :=
  Option.bind (kc M 8 a0) fun _ =>
  Option.bind (fR M 8 a0 9) fun o1_ =>
  Option.bind (fJ7_fill_d0a16 o1_ ((0 : Int64)) M) fun M2_ =>
  Option.bind (fR M2_ 8 a0 9) fun o3_ =>
  Option.bind (tJ M2_ o3_ ((0 : Int32)) ((1 : Int64))) fun M4_ =>
  fX8_driftedBy_b26 FU a0 x1 x2 x3 x4 ((((10 : Int32)) - x2) - x3) ((0 : Int32)) M4_
def fX8_over (a0 : Nat) (x1 : Int32) (x2 : Int32) (x3 : Int32) (x4 : Int32) (M : Mm) : Option (Int32 × Mm) :=
  Option.bind (kc M 8 a0) fun _ =>
  if x1 < ((1 : Int32)) then (
    Option.bind (fX8_refused a0 ((-6 : Int32)) M) fun q1_ =>
    some (q1_.1, q1_.2)
  ) else (
    if ((9 : Int32)) < x1 then (
      Option.bind (fX8_refused a0 ((-6 : Int32)) M) fun q2_ =>
      some (q2_.1, q2_.2)
    ) else (
      if x2 < 0 then (
        Option.bind (fX8_refused a0 ((-6 : Int32)) M) fun q3_ =>
        some (q3_.1, q3_.2)
      ) else (
        if ((10 : Int32)) < x2 then (
          Option.bind (fX8_refused a0 ((-6 : Int32)) M) fun q4_ =>
          some (q4_.1, q4_.2)
        ) else (
          if x3 < 0 then (
            Option.bind (fX8_refused a0 ((-6 : Int32)) M) fun q5_ =>
            some (q5_.1, q5_.2)
          ) else (
            if (((10 : Int32)) - x2) < x3 then (
              Option.bind (fX8_refused a0 ((-6 : Int32)) M) fun q6_ =>
              some (q6_.1, q6_.2)
            ) else (
              if x4 < (-x1) then (
                Option.bind (fX8_refused a0 ((-6 : Int32)) M) fun q7_ =>
                some (q7_.1, q7_.2)
              ) else (
                if x4 ≤ x1 then (
                  Option.bind (fX8_driftedBy a0 x1 x2 x3 x4 M) fun q8_ =>
                  some (q8_.1.toInt32, q8_.2)
                ) else (
                  Option.bind (fX8_refused a0 ((-6 : Int32)) M) fun q9_ =>
                  some (q9_.1, q9_.2)
                )
              )
            )
          )
        )
      )
    )
  )
def fX9_over_b161 (k91 : Nat → Int32 → Int32 → Int32 → Int32 → Int32 → Mm → Option (Int32 × Mm)) : Nat → Nat → Int32 → Int32 → Int32 → Int32 → Int32 → Int32 → Mm → Option (Int32 × Mm)
  | 0, _, _, _, _, _, _, _, _ => none
  | n + 1, a0, x1, x2, x3, x4, x5, x6, M =>
    if ((20 : Int32)) ≤ x6 then (
      k91 a0 x1 x2 x3 x4 (x5 + (1 : Int32)) M
    ) else (
      Option.bind (fR M 9 a0 44) fun o1_ =>
      Option.bind (fR M 9 a0 45) fun o2_ =>
      Option.bind (aI M o2_ x6) fun v3_ =>
      Option.bind (tI M o1_ x6 v3_) fun M4_ =>
      (fX9_over_b161 k91 n) a0 x1 x2 x3 x4 x5 (x6 + (1 : Int32)) M4_
    )
def fX9_over_b100 (k91 : Nat → Int32 → Int32 → Int32 → Int32 → Int32 → Mm → Option (Int32 × Mm)) : Nat → Nat → Int32 → Int32 → Int32 → Int32 → Int32 → Int32 → Mm → Option (Int32 × Mm)
  | 0, _, _, _, _, _, _, _, _ => none
  | n + 1, a0, x1, x2, x3, x4, x5, x6, M =>
    if ((20 : Int32)) ≤ x6 then (
      fX9_over_b161 k91 FU a0 x1 x2 x3 x4 x5 ((1 : Int32)) M
    ) else (
      Option.bind (fR M 9 a0 45) fun o1_ =>
      Option.bind (fR M 9 a0 44) fun o2_ =>
      Option.bind (aI M o2_ x6) fun v3_ =>
      Option.bind (fR M 9 a0 44) fun o4_ =>
      Option.bind (aI M o4_ (x6 + ((1 : Int32)))) fun v5_ =>
      Option.bind (fR M 9 a0 44) fun o6_ =>
      Option.bind (aI M o6_ (x6 - ((1 : Int32)))) fun v7_ =>
      Option.bind (tI M o1_ x6 (((v3_ * ((((10 : Int32)) - x2) - x3)) + (v5_ * x2)) + (v7_ * x3))) fun M8_ =>
      (fX9_over_b100 k91 n) a0 x1 x2 x3 x4 x5 (x6 + (1 : Int32)) M8_
    )
def fX9_over_b91  : Nat → Nat → Int32 → Int32 → Int32 → Int32 → Int32 → Mm → Option (Int32 × Mm)
  | 0, _, _, _, _, _, _, _ => none
  | n + 1, a0, x1, x2, x3, x4, x5, M =>
    if x1 ≤ x5 then (
      Option.bind (fR M 9 a0 44) fun o1_ =>
      Option.bind (aI M o1_ (((10 : Int32)) + x4)) fun v2_ =>
      some (v2_, M)
    ) else (
      fX9_over_b100 (fX9_over_b91 n) FU a0 x1 x2 x3 x4 x5 ((1 : Int32)) M
    )
def fX9_over_b56  : Nat → Nat → Int32 → Int32 → Int32 → Int32 → Int32 → Mm → Option (Int32 × Mm)
  | 0, _, _, _, _, _, _, _ => none
  | n + 1, a0, x1, x2, x3, x4, x5, M =>
    if ((21 : Int32)) ≤ x5 then (
      fX9_over_b91 FU a0 x1 x2 x3 x4 ((0 : Int32)) M
    ) else (
      Option.bind (fR M 9 a0 44) fun o1_ =>
      if x5 = ((10 : Int32)) then (
        Option.bind (tI M o1_ x5 ((1 : Int32))) fun M3_ =>
        (fX9_over_b56 n) a0 x1 x2 x3 x4 (x5 + (1 : Int32)) M3_
      ) else (
        Option.bind (tI M o1_ x5 ((0 : Int32))) fun M2_ =>
        (fX9_over_b56 n) a0 x1 x2 x3 x4 (x5 + (1 : Int32)) M2_
      )
    )
def fX9_over (a0 : Nat) (x1 : Int32) (x2 : Int32) (x3 : Int32) (x4 : Int32) (M : Mm) : Option (Int32 × Mm) :=
  Option.bind (kc M 9 a0) fun _ =>
  if x1 < ((1 : Int32)) then (
    Option.bind (fX9_no a0 ((-6 : Int32)) M) fun q1_ =>
    some (q1_.1, q1_.2)
  ) else (
    if ((9 : Int32)) < x1 then (
      Option.bind (fX9_no a0 ((-6 : Int32)) M) fun q2_ =>
      some (q2_.1, q2_.2)
    ) else (
      if x2 < 0 then (
        Option.bind (fX9_no a0 ((-6 : Int32)) M) fun q3_ =>
        some (q3_.1, q3_.2)
      ) else (
        if x3 < 0 then (
          Option.bind (fX9_no a0 ((-6 : Int32)) M) fun q4_ =>
          some (q4_.1, q4_.2)
        ) else (
          if ((10 : Int32)) < x2 then (
            Option.bind (fX9_no a0 ((-6 : Int32)) M) fun q5_ =>
            some (q5_.1, q5_.2)
          ) else (
            if (((10 : Int32)) - x2) < x3 then (
              Option.bind (fX9_no a0 ((-6 : Int32)) M) fun q6_ =>
              some (q6_.1, q6_.2)
            ) else (
              if x4 < (-x1) then (
                Option.bind (fX9_no a0 ((-6 : Int32)) M) fun q7_ =>
                some (q7_.1, q7_.2)
              ) else (
                if x4 ≤ x1 then (
                  fX9_over_b56 FU a0 x1 x2 x3 x4 ((0 : Int32)) M
                ) else (
                  Option.bind (fX9_no a0 ((-6 : Int32)) M) fun q8_ =>
                  some (q8_.1, q8_.2)
                )
              )
            )
          )
        )
      )
    )
  )
def fX8_knownOfHundred_b34  : Nat → Int32 → Int32 → Int32 → Mm → Option (Int32 × Mm)
  | 0, _, _, _, _ => none
  | n + 1, x1, x3, x4, M =>
    if x1 ≤ x4 then (
      some (x3, M)
    ) else (
      if x3 ≤ 0 then (
        some (x3, M)
      ) else (
        Option.bind (dI ((x3 + ((10 : Int32))) - ((1 : Int32))) ((10 : Int32))) fun z1_ =>
        (fX8_knownOfHundred_b34 n) x1 (x3 - z1_) (x4 + (1 : Int32)) M
      )
    )
def fX8_knownOfHundred_b26  (x1 : Int32) (x2 : Int32) (M : Mm) : Option (Int32 × Mm) :=
  fX8_knownOfHundred_b34 FU x1 (((100 : Int32)) - x2) ((0 : Int32)) M
def fX8_knownOfHundred_b5  : Nat → Int32 → Int32 → Int32 → Int32 → Mm → Option (Int32 × Mm)
  | 0, _, _, _, _, _ => none
  | n + 1, x0, x1, x2, x3, M =>
    if x0 ≤ x3 then (
      fX8_knownOfHundred_b26 x1 x2 M
    ) else (
      if x2 ≤ 0 then (
        fX8_knownOfHundred_b26 x1 x2 M
      ) else (
        Option.bind (dI (x2 * ((3 : Int32))) ((4 : Int32))) fun z1_ =>
        (fX8_knownOfHundred_b5 n) x0 x1 z1_ (x3 + (1 : Int32)) M
      )
    )
def fX8_knownOfHundred (x0 : Int32) (x1 : Int32) (M : Mm) : Option (Int32 × Mm) :=
  fX8_knownOfHundred_b5 FU x0 x1 ((100 : Int32)) ((0 : Int32)) M
def fX8_learnt (a0 : Nat) (x1 : Int32) (x2 : Int32) (M : Mm) : Option (Int32 × Mm) :=
  Option.bind (kc M 8 a0) fun _ =>
  if x1 < 0 then (
    Option.bind (fX8_refused a0 ((-6 : Int32)) M) fun q1_ =>
    some (q1_.1, q1_.2)
  ) else (
    if ((99 : Int32)) < x1 then (
      Option.bind (fX8_refused a0 ((-6 : Int32)) M) fun q2_ =>
      some (q2_.1, q2_.2)
    ) else (
      if x2 < 0 then (
        Option.bind (fX8_refused a0 ((-6 : Int32)) M) fun q3_ =>
        some (q3_.1, q3_.2)
      ) else (
        if x2 ≤ ((99 : Int32)) then (
          Option.bind (fX8_knownOfHundred x1 x2 M) fun q4_ =>
          some (q4_.1, q4_.2)
        ) else (
          Option.bind (fX8_refused a0 ((-6 : Int32)) M) fun q5_ =>
          some (q5_.1, q5_.2)
        )
      )
    )
  )
def fX9_learntBy_b33  : Nat → Int32 → Int32 → Int32 → Mm → Option (Int32 × Mm)
  | 0, _, _, _, _ => none
  | n + 1, x2, x4, x5, M =>
    if x2 ≤ x5 then (
      some (x4, M)
    ) else (
      Option.bind (dI (x4 + ((9 : Int32))) ((10 : Int32))) fun z1_ =>
      (fX9_learntBy_b33 n) x2 (x4 - z1_) (x5 + (1 : Int32)) M
    )
def fX9_learntBy_b6  : Nat → Int32 → Int32 → Int32 → Int32 → Mm → Option (Int32 × Mm)
  | 0, _, _, _, _, _ => none
  | n + 1, x1, x2, x3, x4, M =>
    if x1 ≤ x4 then (
      fX9_learntBy_b33 FU x2 (((100 : Int32)) - x3) ((0 : Int32)) M
    ) else (
      Option.bind (dI (x3 * ((3 : Int32))) ((4 : Int32))) fun z1_ =>
      (fX9_learntBy_b6 n) x1 x2 z1_ (x4 + (1 : Int32)) M
    )
def fX9_learntBy (a0 : Nat) (x1 : Int32) (x2 : Int32) (M : Mm) : Option (Int32 × Mm) :=
  Option.bind (kc M 9 a0) fun _ =>
  fX9_learntBy_b6 FU x1 x2 ((100 : Int32)) ((0 : Int32)) M
def fX9_learnt (a0 : Nat) (x1 : Int32) (x2 : Int32) (M : Mm) : Option (Int32 × Mm) :=
  Option.bind (kc M 9 a0) fun _ =>
  if x1 < 0 then (
    Option.bind (fX9_no a0 ((-6 : Int32)) M) fun q1_ =>
    some (q1_.1, q1_.2)
  ) else (
    if ((99 : Int32)) < x1 then (
      Option.bind (fX9_no a0 ((-6 : Int32)) M) fun q2_ =>
      some (q2_.1, q2_.2)
    ) else (
      if x2 < 0 then (
        Option.bind (fX9_no a0 ((-6 : Int32)) M) fun q3_ =>
        some (q3_.1, q3_.2)
      ) else (
        if x2 ≤ ((99 : Int32)) then (
          Option.bind (fX9_learntBy a0 x1 x2 M) fun q4_ =>
          some (q4_.1, q4_.2)
        ) else (
          Option.bind (fX9_no a0 ((-6 : Int32)) M) fun q5_ =>
          some (q5_.1, q5_.2)
        )
      )
    )
  )
def fX8_goings_b32  : Nat → Int32 → Int32 → Int32 → Mm → Option (Int32 × Mm)
  | 0, _, _, _, _ => none
  | n + 1, x1, x2, x3, M =>
    if ((99 : Int32)) < x3 then (
      some ((-1 : Int32), M)
    ) else (
      Option.bind (fX8_knownOfHundred x3 x2 M) fun q1_ =>
      if q1_.1 < x1 then (
        (fX8_goings_b32 n) x1 x2 (x3 + (1 : Int32)) q1_.2
      ) else (
        some (x3, q1_.2)
      )
    )
def fX8_goings (a0 : Nat) (x1 : Int32) (x2 : Int32) (M : Mm) : Option (Int32 × Mm) :=
  Option.bind (kc M 8 a0) fun _ =>
  if x1 < 0 then (
    Option.bind (fX8_refused a0 ((-6 : Int32)) M) fun q1_ =>
    some (q1_.1 + ((-10 : Int32)), q1_.2)
  ) else (
    if ((100 : Int32)) < x1 then (
      Option.bind (fX8_refused a0 ((-6 : Int32)) M) fun q2_ =>
      some (q2_.1 + ((-10 : Int32)), q2_.2)
    ) else (
      if x2 < 0 then (
        Option.bind (fX8_refused a0 ((-6 : Int32)) M) fun q3_ =>
        some (q3_.1 + ((-10 : Int32)), q3_.2)
      ) else (
        if x2 ≤ ((99 : Int32)) then (
          fX8_goings_b32 FU x1 x2 ((0 : Int32)) M
        ) else (
          Option.bind (fX8_refused a0 ((-6 : Int32)) M) fun q4_ =>
          some (q4_.1 + ((-10 : Int32)), q4_.2)
        )
      )
    )
  )
def fX9_goings_b29  : Nat → Nat → Int32 → Int32 → Int32 → Mm → Option (Int32 × Mm)
  | 0, _, _, _, _, _ => none
  | n + 1, a0, x1, x2, x3, M =>
    if ((100 : Int32)) ≤ x3 then (
      some ((-1 : Int32), M)
    ) else (
      Option.bind (fX9_learntBy a0 x3 x2 M) fun q1_ =>
      if q1_.1 < x1 then (
        (fX9_goings_b29 n) a0 x1 x2 (x3 + (1 : Int32)) q1_.2
      ) else (
        some (x3, q1_.2)
      )
    )
def fX9_goings (a0 : Nat) (x1 : Int32) (x2 : Int32) (M : Mm) : Option (Int32 × Mm) :=
  Option.bind (kc M 9 a0) fun _ =>
  if x1 < 0 then (
    Option.bind (fX9_noTen a0 ((-6 : Int32)) M) fun q1_ =>
    some (q1_.1, q1_.2)
  ) else (
    if ((100 : Int32)) < x1 then (
      Option.bind (fX9_noTen a0 ((-6 : Int32)) M) fun q2_ =>
      some (q2_.1, q2_.2)
    ) else (
      if x2 < 0 then (
        Option.bind (fX9_noTen a0 ((-6 : Int32)) M) fun q3_ =>
        some (q3_.1, q3_.2)
      ) else (
        if x2 ≤ ((99 : Int32)) then (
          fX9_goings_b29 FU a0 x1 x2 ((0 : Int32)) M
        ) else (
          Option.bind (fX9_noTen a0 ((-6 : Int32)) M) fun q4_ =>
          some (q4_.1, q4_.2)
        )
      )
    )
  )
def fX8_begin (a0 : Nat) (x1 : Int32) (M : Mm) : Option (Int32 × Mm) :=
  Option.bind (kc M 8 a0) fun _ =>
  Option.bind (fR M 8 a0 1) fun o1_ =>
  Option.bind (fX5_hasCell o1_ x1 M) fun q2_ =>
  if q2_.1 = 0 then (
    Option.bind (fX8_refused a0 ((-1 : Int32)) q2_.2) fun q7_ =>
    some (q7_.1, q7_.2)
  ) else (
    Option.bind (fR q2_.2 8 a0 1) fun o3_ =>
    Option.bind (fI q2_.2 5 o3_ 13) fun v4_ =>
    Option.bind (fR q2_.2 8 a0 1) fun o5_ =>
    Option.bind (pI q2_.2 5 o5_ 13 x1) fun M6_ =>
    some (v4_, M6_)
  )
def fX9_begin (a0 : Nat) (x1 : Int32) (M : Mm) : Option (Int32 × Mm) :=
  Option.bind (kc M 9 a0) fun _ =>
  Option.bind (fX9_isCell a0 x1 M) fun q1_ =>
  if q1_.1 = 0 then (
    Option.bind (fX9_no a0 ((-1 : Int32)) q1_.2) fun q4_ =>
    some (q4_.1, q4_.2)
  ) else (
    Option.bind (fI q1_.2 9 a0 10) fun v2_ =>
    Option.bind (pI q1_.2 9 a0 10 x1) fun M3_ =>
    some (v2_, M3_)
  )
def fX8_seedBehind (x0 : Int32) (M : Mm) : Option (Int32 × Mm) :=
  some ((x0 * ((1103515245 : Int32))) + ((12345 : Int32)), M)
def fX8_drawOf (x0 : Int32) (M : Mm) : Option (Int32 × Mm) :=
  Option.bind (mdI ((x0.toUInt32 >>> (((16 : Int32)).toUInt32 &&& Int32.toUInt32 31)).toInt32) ((10 : Int32))) fun z1_ =>
  some (z1_, M)
def fX8_goes_b130  (a0 : Nat) (x1 : Int32) (x3 : Int32) (s0 : Nat) (s1 : Nat) (s2 : Int32) (s3 : Int32) (M : Mm) : Option (Int32 × Mm) :=
  Option.bind (fX5_reach s1 s2 s3 M) fun q1_ =>
  Option.bind (pI q1_.2 5 s0 13 q1_.1) fun M2_ =>
  Option.bind (fR M2_ 8 a0 1) fun o3_ =>
  Option.bind (fX5_hearStep o3_ x1 M2_) fun M4_ =>
  some (x3, M4_)
def fX8_goes_b104  (a0 : Nat) (x1 : Int32) (s0 : Int32) (M : Mm) : Option (Int32 × Mm) :=
  Option.bind (fR M 8 a0 1) fun o1_ =>
  Option.bind (fR M 8 a0 1) fun o2_ =>
  Option.bind (fR M 8 a0 1) fun o3_ =>
  Option.bind (fI M 5 o3_ 13) fun v4_ =>
  if x1 = 0 then (
    fX8_goes_b130 a0 x1 s0 o1_ o2_ v4_ s0 M
  ) else (
    fX8_goes_b130 a0 x1 s0 o1_ o2_ v4_ (-s0) M
  )
def fX8_goes (a0 : Nat) (x1 : Int32) (M : Mm) : Option (Int32 × Mm) :=
  Option.bind (kc M 8 a0) fun _ =>
  Option.bind (fR M 8 a0 1) fun o1_ =>
  Option.bind (fI M 5 o1_ 13) fun v2_ =>
  if v2_ = ((-1 : Int32)) then (
    Option.bind (fX8_refused a0 ((-6 : Int32)) M) fun q20_ =>
    some (q20_.1, q20_.2)
  ) else (
    Option.bind (fR M 8 a0 1) fun o3_ =>
    Option.bind (fI M 5 o3_ 12) fun v4_ =>
    if v4_ < ((16 : Int32)) then (
      Option.bind (fR M 8 a0 1) fun o5_ =>
      Option.bind (fR M 8 a0 1) fun o6_ =>
      Option.bind (fI M 5 o6_ 14) fun v7_ =>
      Option.bind (fX8_seedBehind v7_ M) fun q8_ =>
      Option.bind (pI q8_.2 5 o5_ 14 q8_.1) fun M9_ =>
      Option.bind (fR M9_ 8 a0 1) fun o10_ =>
      Option.bind (fI M9_ 5 o10_ 14) fun v11_ =>
      Option.bind (fX8_drawOf v11_ M9_) fun q12_ =>
      Option.bind (fR q12_.2 8 a0 1) fun o13_ =>
      Option.bind (fI q12_.2 5 o13_ 1) fun v14_ =>
      if v14_ ≤ q12_.1 then (
        Option.bind (fR q12_.2 8 a0 1) fun o15_ =>
        Option.bind (fI q12_.2 5 o15_ 1) fun v16_ =>
        Option.bind (fR q12_.2 8 a0 1) fun o17_ =>
        Option.bind (fI q12_.2 5 o17_ 2) fun v18_ =>
        if (v16_ + v18_) ≤ q12_.1 then (
          fX8_goes_b104 a0 x1 ((1 : Int32)) q12_.2
        ) else (
          fX8_goes_b104 a0 x1 ((2 : Int32)) q12_.2
        )
      ) else (
        fX8_goes_b104 a0 x1 ((0 : Int32)) q12_.2
      )
    ) else (
      Option.bind (fX8_refused a0 ((-7 : Int32)) M) fun q19_ =>
      some (q19_.1, q19_.2)
    )
  )
def fX9_draw (a0 : Nat) (x1 : Int32) (M : Mm) : Option (Int32 × Mm) :=
  Option.bind (kc M 9 a0) fun _ =>
  Option.bind (fI M 9 a0 11) fun v1_ =>
  Option.bind (pI M 9 a0 11 ((v1_ * ((1103515245 : Int32))) + ((12345 : Int32)))) fun M2_ =>
  Option.bind (fI M2_ 9 a0 11) fun v3_ =>
  Option.bind (mdI ((v3_.toUInt32 >>> (((16 : Int32)).toUInt32 &&& Int32.toUInt32 31)).toInt32) x1) fun z4_ =>
  some (z4_, M2_)
def fX9_goes_b68  (a0 : Nat) (x1 : Int32) (s0 : Int32) (M : Mm) : Option (Int32 × Mm) :=
  Option.bind (fI M 9 a0 10) fun v1_ =>
  Option.bind (fX9_goneTo a0 v1_ s0 x1 M) fun q2_ =>
  Option.bind (pI q2_.2 9 a0 10 q2_.1) fun M3_ =>
  Option.bind (fX9_steps a0 x1 M3_) fun M4_ =>
  some (s0, M4_)
def fX9_goes (a0 : Nat) (x1 : Int32) (M : Mm) : Option (Int32 × Mm) :=
  Option.bind (kc M 9 a0) fun _ =>
  Option.bind (fI M 9 a0 10) fun v1_ =>
  if v1_ = ((-1 : Int32)) then (
    Option.bind (fX9_no a0 ((-6 : Int32)) M) fun q8_ =>
    some (q8_.1, q8_.2)
  ) else (
    Option.bind (fI M 9 a0 8) fun v2_ =>
    if v2_ = ((16 : Int32)) then (
      Option.bind (fX9_no a0 ((-7 : Int32)) M) fun q7_ =>
      some (q7_.1, q7_.2)
    ) else (
      Option.bind (fX9_draw a0 ((10 : Int32)) M) fun q3_ =>
      Option.bind (fI q3_.2 9 a0 1) fun v4_ =>
      if v4_ ≤ q3_.1 then (
        Option.bind (fI q3_.2 9 a0 1) fun v5_ =>
        Option.bind (fI q3_.2 9 a0 2) fun v6_ =>
        if (v5_ + v6_) ≤ q3_.1 then (
          fX9_goes_b68 a0 x1 ((1 : Int32)) q3_.2
        ) else (
          fX9_goes_b68 a0 x1 ((2 : Int32)) q3_.2
        )
      ) else (
        fX9_goes_b68 a0 x1 ((0 : Int32)) q3_.2
      )
    )
  )
def fX8_looks_b75  (a0 : Nat) (a2 : Nat) (x3 : Int32) (s0 : Int32) (M : Mm) : Option (Int32 × Mm) :=
  Option.bind (fR M 8 a0 1) fun o1_ =>
  Option.bind (fX5_canBe o1_ a2 s0 M) fun q2_ =>
  if q2_.1 = 0 then (
    Option.bind (fX8_refused a0 ((-6 : Int32)) q2_.2) fun q10_ =>
    some (q10_.1, q10_.2)
  ) else (
    Option.bind (fR q2_.2 8 a0 1) fun o3_ =>
    Option.bind (fI q2_.2 5 o3_ 12) fun v4_ =>
    if v4_ < ((16 : Int32)) then (
      Option.bind (fR q2_.2 8 a0 1) fun o5_ =>
      Option.bind (pI q2_.2 5 o5_ 14 x3) fun M6_ =>
      Option.bind (fR M6_ 8 a0 1) fun o7_ =>
      Option.bind (fX5_hearSign o7_ a2 s0 M6_) fun M8_ =>
      if s0 = 0 then (
        some ((0 : Int32), M8_)
      ) else (
        some ((1 : Int32), M8_)
      )
    ) else (
      Option.bind (fX8_refused a0 ((-7 : Int32)) q2_.2) fun q9_ =>
      some (q9_.1, q9_.2)
    )
  )
def fX8_looks (a0 : Nat) (x1 : Int32) (M : Mm) : Option (Int32 × Mm) :=
  Option.bind (kc M 8 a0) fun _ =>
  Option.bind (fR M 8 a0 1) fun o1_ =>
  Option.bind (fX5_signAt o1_ x1 M) fun q2_ =>
  Option.bind (some q2_.1) fun n3_ =>
  Option.elim n3_ (
    Option.bind (fX8_refused a0 ((-1 : Int32)) q2_.2) fun q5_ =>
    some (q5_.1, q5_.2)
  ) (fun o4_ =>
    Option.bind (fR q2_.2 8 a0 1) fun o6_ =>
    Option.bind (fI q2_.2 5 o6_ 13) fun v7_ =>
    if v7_ = ((-1 : Int32)) then (
      Option.bind (fX8_refused a0 ((-6 : Int32)) q2_.2) fun q16_ =>
      some (q16_.1, q16_.2)
    ) else (
      Option.bind (fR q2_.2 8 a0 1) fun o8_ =>
      Option.bind (fI q2_.2 5 o8_ 14) fun v9_ =>
      Option.bind (fX8_seedBehind v9_ q2_.2) fun q10_ =>
      Option.bind (fX8_drawOf q10_.1 q10_.2) fun q11_ =>
      Option.bind (fR q11_.2 8 a0 1) fun o12_ =>
      Option.bind (fR q11_.2 8 a0 1) fun o13_ =>
      Option.bind (fI q11_.2 5 o13_ 13) fun v14_ =>
      Option.bind (fX5_tenthsOf o12_ o4_ v14_ q11_.2) fun q15_ =>
      if q15_.1 ≤ q11_.1 then (
        fX8_looks_b75 a0 o4_ q10_.1 ((0 : Int32)) q15_.2
      ) else (
        fX8_looks_b75 a0 o4_ q10_.1 ((1 : Int32)) q15_.2
      )
    )
  )
def fX9_looks_b87  (a0 : Nat) (x1 : Int32) (x2 : Int32) (x3 : Int32) (s0 : Int32) (M : Mm) : Option (Int32 × Mm) :=
  if s0 = 0 then (
    Option.bind (fX9_feels a0 x1 x3 M) fun M1_ =>
    if x3 = 0 then (
      some ((0 : Int32), M1_)
    ) else (
      some ((1 : Int32), M1_)
    )
  ) else (
    Option.bind (pI M 9 a0 11 x2) fun M2_ =>
    Option.bind (fX9_no a0 s0 M2_) fun q3_ =>
    some (q3_.1, q3_.2)
  )
def fX9_looks_b57  (a0 : Nat) (x1 : Int32) (x2 : Int32) (s0 : Int32) (M : Mm) : Option (Int32 × Mm) :=
  Option.bind (fX9_canBe a0 x1 s0 M) fun q1_ =>
  if q1_.1 = 0 then (
    fX9_looks_b87 a0 x1 x2 s0 ((-6 : Int32)) q1_.2
  ) else (
    Option.bind (fI q1_.2 9 a0 8) fun v2_ =>
    if v2_ = ((16 : Int32)) then (
      fX9_looks_b87 a0 x1 x2 s0 ((-7 : Int32)) q1_.2
    ) else (
      fX9_looks_b87 a0 x1 x2 s0 ((0 : Int32)) q1_.2
    )
  )
def fX9_looks (a0 : Nat) (x1 : Int32) (M : Mm) : Option (Int32 × Mm) :=
  Option.bind (kc M 9 a0) fun _ =>
  Option.bind (fX9_isSign a0 x1 M) fun q1_ =>
  if q1_.1 = 0 then (
    Option.bind (fX9_no a0 ((-1 : Int32)) q1_.2) fun q8_ =>
    some (q8_.1, q8_.2)
  ) else (
    Option.bind (fI q1_.2 9 a0 10) fun v2_ =>
    if v2_ = ((-1 : Int32)) then (
      Option.bind (fX9_no a0 ((-6 : Int32)) q1_.2) fun q7_ =>
      some (q7_.1, q7_.2)
    ) else (
      Option.bind (fI q1_.2 9 a0 11) fun v3_ =>
      Option.bind (fX9_draw a0 ((10 : Int32)) q1_.2) fun q4_ =>
      Option.bind (fI q4_.2 9 a0 10) fun v5_ =>
      Option.bind (fX9_strengthOf a0 x1 v5_ q4_.2) fun q6_ =>
      if q6_.1 ≤ q4_.1 then (
        fX9_looks_b57 a0 x1 v3_ ((0 : Int32)) q6_.2
      ) else (
        fX9_looks_b57 a0 x1 v3_ ((1 : Int32)) q6_.2
      )
    )
  )
def fX8_right (a0 : Nat) (M : Mm) : Option (Int32 × Mm) :=
  Option.bind (kc M 8 a0) fun _ =>
  Option.bind (fR M 8 a0 1) fun o1_ =>
  Option.bind (fI M 5 o1_ 13) fun v2_ =>
  if v2_ = ((-1 : Int32)) then (
    Option.bind (fX8_refused a0 ((-6 : Int32)) M) fun q8_ =>
    some (q8_.1, q8_.2)
  ) else (
    Option.bind (fR M 8 a0 1) fun o3_ =>
    Option.bind (fI M 5 o3_ 13) fun v4_ =>
    Option.bind (fR M 8 a0 1) fun o5_ =>
    Option.bind (fR M 5 o5_ 10) fun o6_ =>
    Option.bind (fX0_surest o6_ M) fun q7_ =>
    if v4_ = q7_.1 then (
      some ((1 : Int32), q7_.2)
    ) else (
      some ((0 : Int32), q7_.2)
    )
  )
def fX9_right (a0 : Nat) (M : Mm) : Option (Int32 × Mm) :=
  Option.bind (kc M 9 a0) fun _ =>
  Option.bind (fI M 9 a0 10) fun v1_ =>
  if v1_ = ((-1 : Int32)) then (
    Option.bind (fX9_no a0 ((-6 : Int32)) M) fun q4_ =>
    some (q4_.1, q4_.2)
  ) else (
    Option.bind (fI M 9 a0 10) fun v2_ =>
    Option.bind (fX9_sure a0 M) fun q3_ =>
    if v2_ = q3_.1 then (
      some ((1 : Int32), q3_.2)
    ) else (
      some ((0 : Int32), q3_.2)
    )
  )
def fX8_seed (a0 : Nat) (x1 : Int32) (M : Mm) : Option (Int32 × Mm) :=
  Option.bind (kc M 8 a0) fun _ =>
  Option.bind (fR M 8 a0 1) fun o1_ =>
  Option.bind (fI M 5 o1_ 14) fun v2_ =>
  Option.bind (fR M 8 a0 1) fun o3_ =>
  Option.bind (pI M 5 o3_ 14 x1) fun M4_ =>
  some (v2_, M4_)
def fX9_seed (a0 : Nat) (x1 : Int32) (M : Mm) : Option (Int32 × Mm) :=
  Option.bind (kc M 9 a0) fun _ =>
  Option.bind (fI M 9 a0 11) fun v1_ =>
  Option.bind (pI M 9 a0 11 x1) fun M2_ =>
  some (v1_, M2_)
def fX7_wipe (a0 : Nat) (M : Mm) : Option (Mm) :=
  Option.bind (kc M 7 a0) fun _ =>
  Option.bind (pI M 7 a0 1 ((0 : Int32))) fun M1_ =>
  some M1_
def fX8_bodyOf (x0 : Int32) (x1 : Int32) (M : Mm) : Option (Int32 × Mm) :=
  if ((x0 * ((3 : Int32))) + x1) < 0 then (
    some ((0 : Int32), M)
  ) else (
    Option.bind (aL M 2) fun v1_ =>
    if ((x0 * ((3 : Int32))) + x1) < v1_ then (
      Option.bind (aI M 2 ((x0 * ((3 : Int32))) + x1)) fun v2_ =>
      some (v2_, M)
    ) else (
      some ((0 : Int32), M)
    )
  )
def fX8_kindWithBody_b4  : Nat → Int32 → Int32 → Int32 → Mm → Option (Int32 × Mm)
  | 0, _, _, _, _ => none
  | n + 1, x1, x2, x3, M =>
    if ((7 : Int32)) ≤ x3 then (
      some ((0 : Int32), M)
    ) else (
      if x2 ≤ 0 then (
        some ((0 : Int32), M)
      ) else (
        if ((7 : Int32)) ≤ x2 then (
          some ((0 : Int32), M)
        ) else (
          Option.bind (fX8_bodyOf x2 x1 M) fun q1_ =>
          if q1_.1 = 0 then (
            Option.bind (aI q1_.2 1 x2) fun v2_ =>
            (fX8_kindWithBody_b4 n) x1 v2_ (x3 + (1 : Int32)) q1_.2
          ) else (
            some (x2, q1_.2)
          )
        )
      )
    )
def fX8_kindWithBody (x0 : Int32) (x1 : Int32) (M : Mm) : Option (Int32 × Mm) :=
  fX8_kindWithBody_b4 FU x1 x0 ((0 : Int32)) M
def fX7_add_b26  (a0 : Nat) (M : Mm) : Option (Mm) :=
  Option.bind (fI M 7 a0 1) fun v1_ =>
  Option.bind (pI M 7 a0 1 (v1_ + ((1 : Int32)))) fun M2_ =>
  some M2_
def fX7_add (a0 : Nat) (x1 : Int32) (M : Mm) : Option (Mm) :=
  Option.bind (kc M 7 a0) fun _ =>
  Option.bind (fI M 7 a0 1) fun v1_ =>
  if v1_ < 0 then (
    fX7_add_b26 a0 M
  ) else (
    Option.bind (fI M 7 a0 1) fun v2_ =>
    if ((20 : Int32)) ≤ v2_ then (
      fX7_add_b26 a0 M
    ) else (
      Option.bind (fR M 7 a0 0) fun o3_ =>
      Option.bind (fI M 7 a0 1) fun v4_ =>
      Option.bind (tI M o3_ v4_ x1) fun M5_ =>
      fX7_add_b26 a0 M5_
    )
  )
def fX8_perform : Nat → Nat → Int32 → Int32 → Int32 → Nat → Int32 → Mm → Option (Int32 × Mm)
  | 0, _, _, _, _, _, _, _ => none
  | n + 1, a0, x1, x2, x3, a4, x5, M =>
    if x5 ≤ ((21 : Int32)) then (
      Option.bind (fX8_kindWithBody x1 x2 M) fun q1_ =>
      if q1_.1 ≤ 0 then (
        Option.bind (fX8_bodyOf q1_.1 x2 q1_.2) fun q2_ =>
        Option.bind (fX7_add a4 q2_.1 q2_.2) fun M3_ =>
        if q2_.1 = (10 : Int32) then (
          Option.bind (fI M3_ 4 a0 0) fun v4_ =>
          some (x3 + v4_, M3_)
        ) else
        if q2_.1 = (11 : Int32) then (
          Option.bind (fI M3_ 4 a0 1) fun v5_ =>
          Option.bind (fX8_perform n a0 v5_ ((0 : Int32)) x3 a4 (x5 + ((1 : Int32))) M3_) fun q6_ =>
          some (q6_.1 * ((2 : Int32)), q6_.2)
        ) else
        if q2_.1 = (12 : Int32) then (
          Option.bind (fI M3_ 4 a0 1) fun v7_ =>
          Option.bind (fX8_perform n a0 v7_ ((1 : Int32)) x3 a4 (x5 + ((1 : Int32))) M3_) fun q8_ =>
          Option.bind (fI q8_.2 4 a0 1) fun v9_ =>
          Option.bind (fI q8_.2 4 a0 4) fun v10_ =>
          Option.bind (fX8_perform n a0 v9_ ((0 : Int32)) (x3 - v10_) a4 (x5 + ((1 : Int32))) q8_.2) fun q11_ =>
          some (q8_.1 ^^^ q11_.1, q11_.2)
        ) else
        if q2_.1 = (20 : Int32) then (
          Option.bind (fX8_perform n a0 ((0 : Int32)) ((0 : Int32)) x3 a4 (x5 + ((1 : Int32))) M3_) fun q12_ =>
          Option.bind (fI q12_.2 4 a0 4) fun v13_ =>
          some (q12_.1 + v13_, q12_.2)
        ) else
        if q2_.1 = (30 : Int32) then (
          Option.bind (fX8_perform n a0 ((0 : Int32)) ((1 : Int32)) x3 a4 (x5 + ((1 : Int32))) M3_) fun q14_ =>
          some (q14_.1 * ((3 : Int32)), q14_.2)
        ) else
        if q2_.1 = (40 : Int32) then (
          Option.bind (fX8_perform n a0 ((0 : Int32)) ((1 : Int32)) (x3 + ((1 : Int32))) a4 (x5 + ((1 : Int32))) M3_) fun q15_ =>
          some (q15_.1, q15_.2)
        ) else
        if q2_.1 = (41 : Int32) then (
          Option.bind (fX8_perform n a0 ((0 : Int32)) ((2 : Int32)) x3 a4 (x5 + ((1 : Int32))) M3_) fun q16_ =>
          Option.bind (fI q16_.2 4 a0 0) fun v17_ =>
          some (q16_.1 - v17_, q16_.2)
        ) else
        if q2_.1 = (50 : Int32) then (
          Option.bind (fX8_perform n a0 ((0 : Int32)) ((2 : Int32)) x3 a4 (x5 + ((1 : Int32))) M3_) fun q18_ =>
          some (-q18_.1, q18_.2)
        ) else
        if q2_.1 = (60 : Int32) then (
          Option.bind (fX8_perform n a0 ((0 : Int32)) ((2 : Int32)) x3 a4 (x5 + ((1 : Int32))) M3_) fun q19_ =>
          some (q19_.1 ^^^ ((5 : Int32)), q19_.2)
        ) else
        if q2_.1 = (70 : Int32) then (
          Option.bind (fX8_perform n a0 ((0 : Int32)) ((0 : Int32)) x3 a4 (x5 + ((1 : Int32))) M3_) fun q20_ =>
          some (q20_.1 * ((2 : Int32)), q20_.2)
        ) else
        if q2_.1 = (71 : Int32) then (
          Option.bind (fI M3_ 4 a0 4) fun v21_ =>
          Option.bind (fX8_perform n a0 ((0 : Int32)) ((1 : Int32)) (x3 - v21_) a4 (x5 + ((1 : Int32))) M3_) fun q22_ =>
          some (q22_.1, q22_.2)
        ) else
        some ((0 : Int32), M3_)
      ) else (
        if ((7 : Int32)) ≤ q1_.1 then (
          Option.bind (fX8_bodyOf q1_.1 x2 q1_.2) fun q23_ =>
          Option.bind (fX7_add a4 q23_.1 q23_.2) fun M24_ =>
          if q23_.1 = (10 : Int32) then (
            Option.bind (fI M24_ 4 a0 0) fun v25_ =>
            some (x3 + v25_, M24_)
          ) else
          if q23_.1 = (11 : Int32) then (
            Option.bind (fI M24_ 4 a0 1) fun v26_ =>
            Option.bind (fX8_perform n a0 v26_ ((0 : Int32)) x3 a4 (x5 + ((1 : Int32))) M24_) fun q27_ =>
            some (q27_.1 * ((2 : Int32)), q27_.2)
          ) else
          if q23_.1 = (12 : Int32) then (
            Option.bind (fI M24_ 4 a0 1) fun v28_ =>
            Option.bind (fX8_perform n a0 v28_ ((1 : Int32)) x3 a4 (x5 + ((1 : Int32))) M24_) fun q29_ =>
            Option.bind (fI q29_.2 4 a0 1) fun v30_ =>
            Option.bind (fI q29_.2 4 a0 4) fun v31_ =>
            Option.bind (fX8_perform n a0 v30_ ((0 : Int32)) (x3 - v31_) a4 (x5 + ((1 : Int32))) q29_.2) fun q32_ =>
            some (q29_.1 ^^^ q32_.1, q32_.2)
          ) else
          if q23_.1 = (20 : Int32) then (
            Option.bind (fX8_perform n a0 ((0 : Int32)) ((0 : Int32)) x3 a4 (x5 + ((1 : Int32))) M24_) fun q33_ =>
            Option.bind (fI q33_.2 4 a0 4) fun v34_ =>
            some (q33_.1 + v34_, q33_.2)
          ) else
          if q23_.1 = (30 : Int32) then (
            Option.bind (fX8_perform n a0 ((0 : Int32)) ((1 : Int32)) x3 a4 (x5 + ((1 : Int32))) M24_) fun q35_ =>
            some (q35_.1 * ((3 : Int32)), q35_.2)
          ) else
          if q23_.1 = (40 : Int32) then (
            Option.bind (fX8_perform n a0 ((0 : Int32)) ((1 : Int32)) (x3 + ((1 : Int32))) a4 (x5 + ((1 : Int32))) M24_) fun q36_ =>
            some (q36_.1, q36_.2)
          ) else
          if q23_.1 = (41 : Int32) then (
            Option.bind (fX8_perform n a0 ((0 : Int32)) ((2 : Int32)) x3 a4 (x5 + ((1 : Int32))) M24_) fun q37_ =>
            Option.bind (fI q37_.2 4 a0 0) fun v38_ =>
            some (q37_.1 - v38_, q37_.2)
          ) else
          if q23_.1 = (50 : Int32) then (
            Option.bind (fX8_perform n a0 ((0 : Int32)) ((2 : Int32)) x3 a4 (x5 + ((1 : Int32))) M24_) fun q39_ =>
            some (-q39_.1, q39_.2)
          ) else
          if q23_.1 = (60 : Int32) then (
            Option.bind (fX8_perform n a0 ((0 : Int32)) ((2 : Int32)) x3 a4 (x5 + ((1 : Int32))) M24_) fun q40_ =>
            some (q40_.1 ^^^ ((5 : Int32)), q40_.2)
          ) else
          if q23_.1 = (70 : Int32) then (
            Option.bind (fX8_perform n a0 ((0 : Int32)) ((0 : Int32)) x3 a4 (x5 + ((1 : Int32))) M24_) fun q41_ =>
            some (q41_.1 * ((2 : Int32)), q41_.2)
          ) else
          if q23_.1 = (71 : Int32) then (
            Option.bind (fI M24_ 4 a0 4) fun v42_ =>
            Option.bind (fX8_perform n a0 ((0 : Int32)) ((1 : Int32)) (x3 - v42_) a4 (x5 + ((1 : Int32))) M24_) fun q43_ =>
            some (q43_.1, q43_.2)
          ) else
          some ((0 : Int32), M24_)
        ) else (
          Option.bind (aI q1_.2 1 q1_.1) fun v44_ =>
          Option.bind (fX8_bodyOf q1_.1 x2 q1_.2) fun q45_ =>
          Option.bind (fX7_add a4 q45_.1 q45_.2) fun M46_ =>
          if q45_.1 = (10 : Int32) then (
            Option.bind (fI M46_ 4 a0 0) fun v47_ =>
            some (x3 + v47_, M46_)
          ) else
          if q45_.1 = (11 : Int32) then (
            Option.bind (fI M46_ 4 a0 1) fun v48_ =>
            Option.bind (fX8_perform n a0 v48_ ((0 : Int32)) x3 a4 (x5 + ((1 : Int32))) M46_) fun q49_ =>
            some (q49_.1 * ((2 : Int32)), q49_.2)
          ) else
          if q45_.1 = (12 : Int32) then (
            Option.bind (fI M46_ 4 a0 1) fun v50_ =>
            Option.bind (fX8_perform n a0 v50_ ((1 : Int32)) x3 a4 (x5 + ((1 : Int32))) M46_) fun q51_ =>
            Option.bind (fI q51_.2 4 a0 1) fun v52_ =>
            Option.bind (fI q51_.2 4 a0 4) fun v53_ =>
            Option.bind (fX8_perform n a0 v52_ ((0 : Int32)) (x3 - v53_) a4 (x5 + ((1 : Int32))) q51_.2) fun q54_ =>
            some (q51_.1 ^^^ q54_.1, q54_.2)
          ) else
          if q45_.1 = (20 : Int32) then (
            Option.bind (fX8_perform n a0 v44_ ((0 : Int32)) x3 a4 (x5 + ((1 : Int32))) M46_) fun q55_ =>
            Option.bind (fI q55_.2 4 a0 4) fun v56_ =>
            some (q55_.1 + v56_, q55_.2)
          ) else
          if q45_.1 = (30 : Int32) then (
            Option.bind (fX8_perform n a0 v44_ ((1 : Int32)) x3 a4 (x5 + ((1 : Int32))) M46_) fun q57_ =>
            some (q57_.1 * ((3 : Int32)), q57_.2)
          ) else
          if q45_.1 = (40 : Int32) then (
            Option.bind (fX8_perform n a0 v44_ ((1 : Int32)) (x3 + ((1 : Int32))) a4 (x5 + ((1 : Int32))) M46_) fun q58_ =>
            some (q58_.1, q58_.2)
          ) else
          if q45_.1 = (41 : Int32) then (
            Option.bind (fX8_perform n a0 v44_ ((2 : Int32)) x3 a4 (x5 + ((1 : Int32))) M46_) fun q59_ =>
            Option.bind (fI q59_.2 4 a0 0) fun v60_ =>
            some (q59_.1 - v60_, q59_.2)
          ) else
          if q45_.1 = (50 : Int32) then (
            Option.bind (fX8_perform n a0 v44_ ((2 : Int32)) x3 a4 (x5 + ((1 : Int32))) M46_) fun q61_ =>
            some (-q61_.1, q61_.2)
          ) else
          if q45_.1 = (60 : Int32) then (
            Option.bind (fX8_perform n a0 v44_ ((2 : Int32)) x3 a4 (x5 + ((1 : Int32))) M46_) fun q62_ =>
            some (q62_.1 ^^^ ((5 : Int32)), q62_.2)
          ) else
          if q45_.1 = (70 : Int32) then (
            Option.bind (fX8_perform n a0 v44_ ((0 : Int32)) x3 a4 (x5 + ((1 : Int32))) M46_) fun q63_ =>
            some (q63_.1 * ((2 : Int32)), q63_.2)
          ) else
          if q45_.1 = (71 : Int32) then (
            Option.bind (fI M46_ 4 a0 4) fun v64_ =>
            Option.bind (fX8_perform n a0 v44_ ((1 : Int32)) (x3 - v64_) a4 (x5 + ((1 : Int32))) M46_) fun q65_ =>
            some (q65_.1, q65_.2)
          ) else
          some ((0 : Int32), M46_)
        )
      )
    ) else (
      some ((0 : Int32), M)
    )
def fX8_act (a0 : Nat) (x1 : Int32) (x2 : Int32) (x3 : Int32) (M : Mm) : Option (Int32 × Mm) :=
  Option.bind (kc M 8 a0) fun _ =>
  Option.bind (fR M 8 a0 8) fun o1_ =>
  Option.bind (fX7_wipe o1_ M) fun M2_ =>
  Option.bind (fR M2_ 8 a0 1) fun o3_ =>
  Option.bind (fX5_signAt o3_ x1 M2_) fun q4_ =>
  Option.bind (some q4_.1) fun n5_ =>
  Option.elim n5_ (
    some ((0 : Int32), q4_.2)
  ) (fun o6_ =>
    if x2 < 0 then (
      some ((0 : Int32), q4_.2)
    ) else (
      if x2 < ((3 : Int32)) then (
        Option.bind (fI q4_.2 4 o6_ 1) fun v7_ =>
        Option.bind (fR q4_.2 8 a0 8) fun o8_ =>
        Option.bind (fX8_perform 40 o6_ v7_ x2 x3 o8_ ((0 : Int32)) q4_.2) fun q9_ =>
        some (q9_.1, q9_.2)
      ) else (
        some ((0 : Int32), q4_.2)
      )
    )
  )
def fX9_body_b19  (a0 : Nat) (M : Mm) : Option (Mm) :=
  Option.bind (fI M 9 a0 47) fun v1_ =>
  Option.bind (pI M 9 a0 47 (v1_ + ((1 : Int32)))) fun M2_ =>
  some M2_
def fX9_body (a0 : Nat) (x1 : Int32) (M : Mm) : Option (Mm) :=
  Option.bind (kc M 9 a0) fun _ =>
  Option.bind (fI M 9 a0 47) fun v1_ =>
  if ((20 : Int32)) ≤ v1_ then (
    fX9_body_b19 a0 M
  ) else (
    Option.bind (fR M 9 a0 46) fun o2_ =>
    Option.bind (fI M 9 a0 47) fun v3_ =>
    Option.bind (tI M o2_ v3_ x1) fun M4_ =>
    fX9_body_b19 a0 M4_
  )
def fX9_feeling_b52  (a0 : Nat) (x1 : Int32) (x2 : Int32) (x3 : Int32) (x4 : Int32) (M : Mm) : Option (Int32 × Mm) :=
  Option.bind (fX9_body a0 ((10 : Int32)) M) fun M1_ =>
  if x4 = 0 then (
    if x3 = ((5 : Int32)) then (
      some ((x2 + x1) * ((2 : Int32)), M1_)
    ) else (
      some (x2 + x1, M1_)
    )
  ) else (
    Option.bind (fR M1_ 9 a0 17) fun o2_ =>
    Option.bind (aI M1_ o2_ x1) fun v3_ =>
    some ((x2 + x1) + v3_, M1_)
  )
def fX9_feeling_b41  (a0 : Nat) (x1 : Int32) (x2 : Int32) (x3 : Int32) (x4 : Int32) (M : Mm) : Option (Int32 × Mm) :=
  if x3 = ((5 : Int32)) then (
    Option.bind (fX9_body a0 ((70 : Int32)) M) fun M1_ =>
    fX9_feeling_b52 a0 x1 x2 x3 x4 M1_
  ) else (
    fX9_feeling_b52 a0 x1 x2 x3 x4 M
  )
def fX9_feeling_b28  (a0 : Nat) (x1 : Int32) (x2 : Int32) (x3 : Int32) (s0 : Int32) (M : Mm) : Option (Int32 × Mm) :=
  if s0 = 0 then (
    fX9_feeling_b41 a0 x1 x2 x3 s0 M
  ) else (
    Option.bind (fX9_body a0 ((20 : Int32)) M) fun M1_ =>
    fX9_feeling_b41 a0 x1 x2 x3 s0 M1_
  )
def fX9_feeling_b23  (a0 : Nat) (x1 : Int32) (x2 : Int32) (x3 : Int32) (M : Mm) : Option (Int32 × Mm) :=
  fX9_feeling_b28 a0 x1 x2 x3 ((1 : Int32)) M
def fX9_feeling (a0 : Nat) (x1 : Int32) (x2 : Int32) (M : Mm) : Option (Int32 × Mm) :=
  Option.bind (kc M 9 a0) fun _ =>
  Option.bind (fR M 9 a0 14) fun o1_ =>
  Option.bind (aI M o1_ x1) fun v2_ =>
  if v2_ = ((1 : Int32)) then (
    fX9_feeling_b23 a0 x1 x2 v2_ M
  ) else (
    if v2_ = ((4 : Int32)) then (
      fX9_feeling_b23 a0 x1 x2 v2_ M
    ) else (
      if v2_ = ((6 : Int32)) then (
        fX9_feeling_b23 a0 x1 x2 v2_ M
      ) else (
        fX9_feeling_b28 a0 x1 x2 v2_ ((0 : Int32)) M
      )
    )
  )
def fX9_teaching_b59  (a0 : Nat) (x1 : Int32) (x3 : Int32) (x4 : Int32) (M : Mm) : Option (Int32 × Mm) :=
  Option.bind (fX9_body a0 ((11 : Int32)) M) fun M1_ =>
  Option.bind (fX9_feeling a0 x1 x4 M1_) fun q2_ =>
  if x3 = ((4 : Int32)) then (
    some ((q2_.1 * ((2 : Int32))) * ((3 : Int32)), q2_.2)
  ) else (
    some (q2_.1 * ((2 : Int32)), q2_.2)
  )
def fX9_teaching_b38  (a0 : Nat) (x1 : Int32) (x2 : Int32) (x3 : Int32) (x4 : Int32) (M : Mm) : Option (Int32 × Mm) :=
  if x3 = ((5 : Int32)) then (
    Option.bind (fX9_body a0 ((71 : Int32)) M) fun M1_ =>
    Option.bind (fR M1_ 9 a0 17) fun o2_ =>
    Option.bind (aI M1_ o2_ x1) fun v3_ =>
    fX9_teaching_b59 a0 x1 x3 (x2 - v3_) M1_
  ) else (
    fX9_teaching_b59 a0 x1 x3 x4 M
  )
def fX9_teaching_b21  (a0 : Nat) (x1 : Int32) (x2 : Int32) (x3 : Int32) (x4 : Int32) (M : Mm) : Option (Int32 × Mm) :=
  if x3 = ((6 : Int32)) then (
    Option.bind (fX9_body a0 ((40 : Int32)) M) fun M1_ =>
    fX9_teaching_b38 a0 x1 x2 x3 (x2 + ((1 : Int32))) M1_
  ) else (
    fX9_teaching_b38 a0 x1 x2 x3 x4 M
  )
def fX9_teaching (a0 : Nat) (x1 : Int32) (x2 : Int32) (M : Mm) : Option (Int32 × Mm) :=
  Option.bind (kc M 9 a0) fun _ =>
  Option.bind (fR M 9 a0 14) fun o1_ =>
  Option.bind (aI M o1_ x1) fun v2_ =>
  if v2_ = ((4 : Int32)) then (
    Option.bind (fX9_body a0 ((30 : Int32)) M) fun M3_ =>
    fX9_teaching_b21 a0 x1 x2 v2_ x2 M3_
  ) else (
    fX9_teaching_b21 a0 x1 x2 v2_ x2 M
  )
def fX9_fading_b46  (a0 : Nat) (x1 : Int32) (x2 : Int32) (x3 : Int32) (M : Mm) : Option (Int32 × Mm) :=
  Option.bind (fX9_body a0 ((12 : Int32)) M) fun M1_ =>
  Option.bind (fX9_teaching a0 x1 x2 M1_) fun q2_ =>
  Option.bind (fR q2_.2 9 a0 17) fun o3_ =>
  Option.bind (aI q2_.2 o3_ x1) fun v4_ =>
  Option.bind (fX9_feeling a0 x1 (x2 - v4_) q2_.2) fun q5_ =>
  if x3 = ((6 : Int32)) then (
    some ((q2_.1 ^^^ q5_.1) - x1, q5_.2)
  ) else (
    if x3 = ((2 : Int32)) then (
      some (-(q2_.1 ^^^ q5_.1), q5_.2)
    ) else (
      if x3 = ((3 : Int32)) then (
        some ((-(q2_.1 ^^^ q5_.1)) ^^^ ((5 : Int32)), q5_.2)
      ) else (
        some (q2_.1 ^^^ q5_.1, q5_.2)
      )
    )
  )
def fX9_fading_b40  (a0 : Nat) (x1 : Int32) (x2 : Int32) (x3 : Int32) (M : Mm) : Option (Int32 × Mm) :=
  Option.bind (fX9_body a0 ((50 : Int32)) M) fun M1_ =>
  fX9_fading_b46 a0 x1 x2 x3 M1_
def fX9_fading_b30  (a0 : Nat) (x1 : Int32) (x2 : Int32) (x3 : Int32) (M : Mm) : Option (Int32 × Mm) :=
  if x3 = ((2 : Int32)) then (
    fX9_fading_b40 a0 x1 x2 x3 M
  ) else (
    if x3 = ((3 : Int32)) then (
      fX9_fading_b40 a0 x1 x2 x3 M
    ) else (
      fX9_fading_b46 a0 x1 x2 x3 M
    )
  )
def fX9_fading_b19  (a0 : Nat) (x1 : Int32) (x2 : Int32) (x3 : Int32) (M : Mm) : Option (Int32 × Mm) :=
  if x3 = ((3 : Int32)) then (
    Option.bind (fX9_body a0 ((60 : Int32)) M) fun M1_ =>
    fX9_fading_b30 a0 x1 x2 x3 M1_
  ) else (
    fX9_fading_b30 a0 x1 x2 x3 M
  )
def fX9_fading (a0 : Nat) (x1 : Int32) (x2 : Int32) (M : Mm) : Option (Int32 × Mm) :=
  Option.bind (kc M 9 a0) fun _ =>
  Option.bind (fR M 9 a0 14) fun o1_ =>
  Option.bind (aI M o1_ x1) fun v2_ =>
  if v2_ = ((6 : Int32)) then (
    Option.bind (fX9_body a0 ((41 : Int32)) M) fun M3_ =>
    fX9_fading_b19 a0 x1 x2 v2_ M3_
  ) else (
    fX9_fading_b19 a0 x1 x2 v2_ M
  )
def fX9_act (a0 : Nat) (x1 : Int32) (x2 : Int32) (x3 : Int32) (M : Mm) : Option (Int32 × Mm) :=
  Option.bind (kc M 9 a0) fun _ =>
  Option.bind (pI M 9 a0 47 ((0 : Int32))) fun M1_ =>
  Option.bind (fX9_isSign a0 x1 M1_) fun q2_ =>
  if q2_.1 = 0 then (
    some ((0 : Int32), q2_.2)
  ) else (
    if x2 < 0 then (
      some ((0 : Int32), q2_.2)
    ) else (
      if x2 ≤ ((2 : Int32)) then (
        if x2 = 0 then (
          Option.bind (fX9_feeling a0 x1 x3 q2_.2) fun q5_ =>
          some (q5_.1, q5_.2)
        ) else (
          if x2 = ((1 : Int32)) then (
            Option.bind (fX9_teaching a0 x1 x3 q2_.2) fun q4_ =>
            some (q4_.1, q4_.2)
          ) else (
            Option.bind (fX9_fading a0 x1 x3 q2_.2) fun q3_ =>
            some (q3_.1, q3_.2)
          )
        )
      ) else (
        some ((0 : Int32), q2_.2)
      )
    )
  )
def fX7_bodyAt (a0 : Nat) (x1 : Int32) (M : Mm) : Option (Int32 × Mm) :=
  Option.bind (kc M 7 a0) fun _ =>
  if x1 < 0 then (
    some ((-1 : Int32), M)
  ) else (
    Option.bind (fI M 7 a0 1) fun v1_ =>
    if v1_ ≤ x1 then (
      some ((-1 : Int32), M)
    ) else (
      if x1 < ((20 : Int32)) then (
        Option.bind (fR M 7 a0 0) fun o2_ =>
        Option.bind (aI M o2_ x1) fun v3_ =>
        some (v3_, M)
      ) else (
        some ((-1 : Int32), M)
      )
    )
  )
def fX8_trace (a0 : Nat) (x1 : Int32) (M : Mm) : Option (Int32 × Mm) :=
  Option.bind (kc M 8 a0) fun _ =>
  Option.bind (fR M 8 a0 8) fun o1_ =>
  Option.bind (fX7_bodyAt o1_ x1 M) fun q2_ =>
  some (q2_.1, q2_.2)
def fX9_trace (a0 : Nat) (x1 : Int32) (M : Mm) : Option (Int32 × Mm) :=
  Option.bind (kc M 9 a0) fun _ =>
  if x1 < 0 then (
    some ((-1 : Int32), M)
  ) else (
    if ((20 : Int32)) ≤ x1 then (
      some ((-1 : Int32), M)
    ) else (
      Option.bind (fI M 9 a0 47) fun v1_ =>
      if v1_ ≤ x1 then (
        some ((-1 : Int32), M)
      ) else (
        Option.bind (fR M 9 a0 46) fun o2_ =>
        Option.bind (aI M o2_ x1) fun v3_ =>
        some (v3_, M)
      )
    )
  )
def fX8_image (a0 : Nat) (M : Mm) : Option (Int32 × Mm) :=
  Option.bind (kc M 8 a0) fun _ =>
  Option.bind (fR M 8 a0 3) fun o1_ =>
  Option.bind (fR M 8 a0 1) fun o2_ =>
  Option.bind (fX5_becomeLike o1_ o2_ M) fun M3_ =>
  Option.bind (pZ M3_ 8 a0 4 ((1 : Int32))) fun M4_ =>
  Option.bind (fR M4_ 8 a0 1) fun o5_ =>
  Option.bind (fI M4_ 5 o5_ 7) fun v6_ =>
  some (v6_, M4_)
def fX9_image (a0 : Nat) (M : Mm) : Option (Int32 × Mm) :=
  Option.bind (kc M 9 a0) fun _ =>
  Option.bind (pZ M 9 a0 48 ((1 : Int32))) fun M1_ =>
  Option.bind (fR M1_ 9 a0 38) fun o2_ =>
  Option.bind (fR M1_ 9 a0 40) fun o3_ =>
  Option.bind (fX9_all a0 o2_ o3_ ((0 : Int32)) M1_) fun M4_ =>
  Option.bind (fI M4_ 9 a0 6) fun v5_ =>
  some (v5_, M4_)
def fX8_restore (a0 : Nat) (M : Mm) : Option (Int32 × Mm) :=
  Option.bind (kc M 8 a0) fun _ =>
  Option.bind (fI M 8 a0 4) fun v1_ =>
  if v1_ = 0 then (
    Option.bind (fX8_refused a0 ((-6 : Int32)) M) fun q10_ =>
    some (q10_.1, q10_.2)
  ) else (
    Option.bind (fR M 8 a0 1) fun o2_ =>
    Option.bind (fR M 8 a0 3) fun o3_ =>
    Option.bind (fX5_becomeLike o2_ o3_ M) fun M4_ =>
    Option.bind (fR M4_ 8 a0 1) fun o5_ =>
    Option.bind (fI M4_ 5 o5_ 7) fun v6_ =>
    Option.bind (fX8_dropSignsFrom a0 v6_ M4_) fun M7_ =>
    Option.bind (fR M7_ 8 a0 1) fun o8_ =>
    Option.bind (fI M7_ 5 o8_ 7) fun v9_ =>
    some (v9_, M7_)
  )
def fX9_restore_b29  : Nat → Nat → Int32 → Mm → Option (Int32 × Mm)
  | 0, _, _, _ => none
  | n + 1, a0, x1, M =>
    if ((8 : Int32)) ≤ x1 then (
      Option.bind (fI M 9 a0 6) fun v1_ =>
      some (v1_, M)
    ) else (
      Option.bind (fR M 9 a0 23) fun o2_ =>
      Option.bind (aI M o2_ x1) fun v3_ =>
      if v3_ = ((2 : Int32)) then (
        Option.bind (fR M 9 a0 26) fun o4_ =>
        Option.bind (aI M o4_ x1) fun v5_ =>
        Option.bind (fI M 9 a0 6) fun v6_ =>
        if v5_ < v6_ then (
          (fX9_restore_b29 n) a0 (x1 + (1 : Int32)) M
        ) else (
          Option.bind (fR M 9 a0 23) fun o7_ =>
          Option.bind (tI M o7_ x1 ((0 : Int32))) fun M8_ =>
          (fX9_restore_b29 n) a0 (x1 + (1 : Int32)) M8_
        )
      ) else (
        (fX9_restore_b29 n) a0 (x1 + (1 : Int32)) M
      )
    )
def fX9_restore (a0 : Nat) (M : Mm) : Option (Int32 × Mm) :=
  Option.bind (kc M 9 a0) fun _ =>
  Option.bind (fI M 9 a0 48) fun v1_ =>
  if v1_ = 0 then (
    Option.bind (fX9_no a0 ((-6 : Int32)) M) fun q5_ =>
    some (q5_.1, q5_.2)
  ) else (
    Option.bind (fR M 9 a0 38) fun o2_ =>
    Option.bind (fR M 9 a0 40) fun o3_ =>
    Option.bind (fX9_all a0 o2_ o3_ ((1 : Int32)) M) fun M4_ =>
    fX9_restore_b29 FU a0 ((0 : Int32)) M4_
  )
def fX8_refusalsOf (a0 : Nat) (x1 : Int32) (M : Mm) : Option (Int32 × Mm) :=
  Option.bind (kc M 8 a0) fun _ =>
  if (-x1) ≤ 0 then (
    some ((-1 : Int32), M)
  ) else (
    Option.bind (fR M 8 a0 5) fun o1_ =>
    Option.bind (aL M o1_) fun v2_ =>
    if v2_ ≤ (-x1) then (
      some ((-1 : Int32), M)
    ) else (
      Option.bind (fR M 8 a0 5) fun o3_ =>
      Option.bind (aI M o3_ (-x1)) fun v4_ =>
      some (v4_, M)
    )
  )
def fX8_status (a0 : Nat) (x1 : Int32) (M : Mm) : Option (Int32 × Mm) :=
  Option.bind (kc M 8 a0) fun _ =>
  if x1 = (0 : Int32) then (
    Option.bind (fR M 8 a0 1) fun o1_ =>
    Option.bind (fI M 5 o1_ 0) fun v2_ =>
    some (v2_, M)
  ) else
  if x1 = (1 : Int32) then (
    Option.bind (fR M 8 a0 1) fun o3_ =>
    Option.bind (fI M 5 o3_ 7) fun v4_ =>
    some (v4_, M)
  ) else
  if x1 = (2 : Int32) then (
    Option.bind (fR M 8 a0 1) fun o5_ =>
    Option.bind (fI M 5 o5_ 9) fun v6_ =>
    some (v6_, M)
  ) else
  if x1 = (3 : Int32) then (
    Option.bind (fR M 8 a0 1) fun o7_ =>
    Option.bind (fI M 5 o7_ 12) fun v8_ =>
    some (v8_, M)
  ) else
  if x1 = (4 : Int32) then (
    Option.bind (fR M 8 a0 1) fun o9_ =>
    Option.bind (fI M 5 o9_ 11) fun v10_ =>
    some (v10_, M)
  ) else
  if x1 = (5 : Int32) then (
    Option.bind (fR M 8 a0 1) fun o11_ =>
    Option.bind (fI M 5 o11_ 3) fun v12_ =>
    some (v12_, M)
  ) else
  if x1 = (6 : Int32) then (
    Option.bind (fR M 8 a0 1) fun o13_ =>
    Option.bind (fI M 5 o13_ 4) fun v14_ =>
    if v14_ = 0 then (
      some ((0 : Int32), M)
    ) else (
      some ((1 : Int32), M)
    )
  ) else
  if x1 = (7 : Int32) then (
    Option.bind (fR M 8 a0 1) fun o15_ =>
    Option.bind (fI M 5 o15_ 5) fun v16_ =>
    some (v16_, M)
  ) else
  if x1 = (8 : Int32) then (
    Option.bind (fR M 8 a0 8) fun o17_ =>
    Option.bind (fI M 7 o17_ 1) fun v18_ =>
    some (v18_, M)
  ) else
  if x1 = (9 : Int32) then (
    Option.bind (fR M 8 a0 1) fun o19_ =>
    Option.bind (fI M 5 o19_ 14) fun v20_ =>
    some (v20_, M)
  ) else
  Option.bind (fX8_refusalsOf a0 (((10 : Int32)) - x1) M) fun q21_ =>
  some (q21_.1, q21_.2)
def fX9_status_b22  (a0 : Nat) (x1 : Int32) (M : Mm) : Option (Int32 × Mm) :=
  if x1 = (0 : Int32) then (
    Option.bind (fI M 9 a0 0) fun v1_ =>
    some (v1_, M)
  ) else
  if x1 = (1 : Int32) then (
    Option.bind (fI M 9 a0 6) fun v2_ =>
    some (v2_, M)
  ) else
  if x1 = (2 : Int32) then (
    Option.bind (fI M 9 a0 7) fun v3_ =>
    some (v3_, M)
  ) else
  if x1 = (3 : Int32) then (
    Option.bind (fI M 9 a0 8) fun v4_ =>
    some (v4_, M)
  ) else
  if x1 = (4 : Int32) then (
    Option.bind (fI M 9 a0 9) fun v5_ =>
    some (v5_, M)
  ) else
  if x1 = (5 : Int32) then (
    Option.bind (fI M 9 a0 3) fun v6_ =>
    some (v6_, M)
  ) else
  if x1 = (6 : Int32) then (
    Option.bind (fI M 9 a0 4) fun v7_ =>
    some (v7_, M)
  ) else
  if x1 = (7 : Int32) then (
    Option.bind (fI M 9 a0 5) fun v8_ =>
    some (v8_, M)
  ) else
  if x1 = (8 : Int32) then (
    Option.bind (fI M 9 a0 47) fun v9_ =>
    some (v9_, M)
  ) else
  if x1 = (9 : Int32) then (
    Option.bind (fI M 9 a0 11) fun v10_ =>
    some (v10_, M)
  ) else
  some ((-1 : Int32), M)
def fX9_status (a0 : Nat) (x1 : Int32) (M : Mm) : Option (Int32 × Mm) :=
  Option.bind (kc M 9 a0) fun _ =>
  if x1 < ((11 : Int32)) then (
    fX9_status_b22 a0 x1 M
  ) else (
    if ((17 : Int32)) < x1 then (
      fX9_status_b22 a0 x1 M
    ) else (
      Option.bind (fR M 9 a0 13) fun o1_ =>
      Option.bind (aI M o1_ (x1 - ((10 : Int32)))) fun v2_ =>
      some (v2_, M)
    )
  )
def fL_law_b236 (k18 : Nat → Nat → Nat → Int32 → Mm → Option (Int32 × Mm)) (a0 : Nat) (a1 : Nat) (a2 : Nat) (x3 : Int32) (M : Mm) : Option (Int32 × Mm) :=
  Option.bind (aI M a0 (x3 + ((1 : Int32)))) fun v1_ =>
  Option.bind (aI M a0 (x3 + ((2 : Int32)))) fun v2_ =>
  Option.bind (aI M a0 (x3 + ((3 : Int32)))) fun v3_ =>
  Option.bind (fX8_row a1 v1_ v2_ v3_ M) fun q4_ =>
  Option.bind (aI q4_.2 a0 (x3 + ((1 : Int32)))) fun v5_ =>
  Option.bind (aI q4_.2 a0 (x3 + ((2 : Int32)))) fun v6_ =>
  Option.bind (aI q4_.2 a0 (x3 + ((3 : Int32)))) fun v7_ =>
  Option.bind (fX9_row a2 v5_ v6_ v7_ q4_.2) fun q8_ =>
  if q4_.1 = q8_.1 then (
    k18 a0 a1 a2 (x3 + (6 : Int32)) q8_.2
  ) else (
    some ((0 : Int32), q8_.2)
  )
def fL_law_b279 (k18 : Nat → Nat → Nat → Int32 → Mm → Option (Int32 × Mm)) (a0 : Nat) (a1 : Nat) (a2 : Nat) (x3 : Int32) (M : Mm) : Option (Int32 × Mm) :=
  Option.bind (aI M a0 (x3 + ((1 : Int32)))) fun v1_ =>
  Option.bind (aI M a0 (x3 + ((2 : Int32)))) fun v2_ =>
  Option.bind (aI M a0 (x3 + ((3 : Int32)))) fun v3_ =>
  Option.bind (aI M a0 (x3 + ((4 : Int32)))) fun v4_ =>
  Option.bind (fX8_set a1 v1_ v2_ ((v3_.toInt64 <<< (((32 : Int32)).toInt64 &&& 63)) ||| (v4_.toInt64 &&& ((4294967295 : Int64)))) M) fun q5_ =>
  Option.bind (aI q5_.2 a0 (x3 + ((1 : Int32)))) fun v6_ =>
  Option.bind (aI q5_.2 a0 (x3 + ((2 : Int32)))) fun v7_ =>
  Option.bind (aI q5_.2 a0 (x3 + ((3 : Int32)))) fun v8_ =>
  Option.bind (aI q5_.2 a0 (x3 + ((4 : Int32)))) fun v9_ =>
  Option.bind (fX9_set a2 v6_ v7_ ((v8_.toInt64 <<< (((32 : Int32)).toInt64 &&& 63)) ||| (v9_.toInt64 &&& ((4294967295 : Int64)))) q5_.2) fun q10_ =>
  if q5_.1 = q10_.1 then (
    k18 a0 a1 a2 (x3 + (6 : Int32)) q10_.2
  ) else (
    some ((0 : Int32), q10_.2)
  )
def fL_law_b352 (k18 : Nat → Nat → Nat → Int32 → Mm → Option (Int32 × Mm)) (a0 : Nat) (a1 : Nat) (a2 : Nat) (x3 : Int32) (M : Mm) : Option (Int32 × Mm) :=
  Option.bind (aI M a0 (x3 + ((1 : Int32)))) fun v1_ =>
  Option.bind (aI M a0 (x3 + ((2 : Int32)))) fun v2_ =>
  Option.bind (aI M a0 (x3 + ((3 : Int32)))) fun v3_ =>
  Option.bind (aI M a0 (x3 + ((4 : Int32)))) fun v4_ =>
  Option.bind (aI M a0 (x3 + ((5 : Int32)))) fun v5_ =>
  Option.bind (fX8_copy a1 v1_ v2_ v3_ v4_ v5_ M) fun q6_ =>
  Option.bind (aI q6_.2 a0 (x3 + ((1 : Int32)))) fun v7_ =>
  Option.bind (aI q6_.2 a0 (x3 + ((2 : Int32)))) fun v8_ =>
  Option.bind (aI q6_.2 a0 (x3 + ((3 : Int32)))) fun v9_ =>
  Option.bind (aI q6_.2 a0 (x3 + ((4 : Int32)))) fun v10_ =>
  Option.bind (aI q6_.2 a0 (x3 + ((5 : Int32)))) fun v11_ =>
  Option.bind (fX9_copy a2 v7_ v8_ v9_ v10_ v11_ q6_.2) fun q12_ =>
  if q6_.1 = q12_.1 then (
    k18 a0 a1 a2 (x3 + (6 : Int32)) q12_.2
  ) else (
    some ((0 : Int32), q12_.2)
  )
def fL_law_b415 (k18 : Nat → Nat → Nat → Int32 → Mm → Option (Int32 × Mm)) (a0 : Nat) (a1 : Nat) (a2 : Nat) (x3 : Int32) (M : Mm) : Option (Int32 × Mm) :=
  Option.bind (aI M a0 (x3 + ((1 : Int32)))) fun v1_ =>
  Option.bind (aI M a0 (x3 + ((2 : Int32)))) fun v2_ =>
  Option.bind (fX8_element a1 v1_ v2_ M) fun q3_ =>
  Option.bind (aI q3_.2 a0 (x3 + ((1 : Int32)))) fun v4_ =>
  Option.bind (aI q3_.2 a0 (x3 + ((2 : Int32)))) fun v5_ =>
  Option.bind (fX9_element a2 v4_ v5_ q3_.2) fun q6_ =>
  if q3_.1 = q6_.1 then (
    k18 a0 a1 a2 (x3 + (6 : Int32)) q6_.2
  ) else (
    some ((0 : Int32), q6_.2)
  )
def fL_law_b449 (k18 : Nat → Nat → Nat → Int32 → Mm → Option (Int32 × Mm)) (a0 : Nat) (a1 : Nat) (a2 : Nat) (x3 : Int32) (M : Mm) : Option (Int32 × Mm) :=
  Option.bind (aI M a0 (x3 + ((1 : Int32)))) fun v1_ =>
  Option.bind (aI M a0 (x3 + ((2 : Int32)))) fun v2_ =>
  Option.bind (fX8_show a1 v1_ v2_ M) fun q3_ =>
  Option.bind (aI q3_.2 a0 (x3 + ((1 : Int32)))) fun v4_ =>
  Option.bind (aI q3_.2 a0 (x3 + ((2 : Int32)))) fun v5_ =>
  Option.bind (fX9_show a2 v4_ v5_ q3_.2) fun q6_ =>
  if q3_.1 = q6_.1 then (
    k18 a0 a1 a2 (x3 + (6 : Int32)) q6_.2
  ) else (
    some ((0 : Int32), q6_.2)
  )
def fL_law_b482 (k18 : Nat → Nat → Nat → Int32 → Mm → Option (Int32 × Mm)) (a0 : Nat) (a1 : Nat) (a2 : Nat) (x3 : Int32) (M : Mm) : Option (Int32 × Mm) :=
  Option.bind (aI M a0 (x3 + ((1 : Int32)))) fun v1_ =>
  Option.bind (fX8_holds a1 v1_ M) fun q2_ =>
  Option.bind (aI q2_.2 a0 (x3 + ((1 : Int32)))) fun v3_ =>
  Option.bind (fX9_holds a2 v3_ q2_.2) fun q4_ =>
  if q2_.1 = q4_.1 then (
    k18 a0 a1 a2 (x3 + (6 : Int32)) q4_.2
  ) else (
    some ((0 : Int32), q4_.2)
  )
def fL_law_b505 (k18 : Nat → Nat → Nat → Int32 → Mm → Option (Int32 × Mm)) (a0 : Nat) (a1 : Nat) (a2 : Nat) (x3 : Int32) (M : Mm) : Option (Int32 × Mm) :=
  Option.bind (aI M a0 (x3 + ((1 : Int32)))) fun v1_ =>
  Option.bind (aI M a0 (x3 + ((2 : Int32)))) fun v2_ =>
  Option.bind (fX8_says a1 v1_ v2_ M) fun q3_ =>
  Option.bind (aI q3_.2 a0 (x3 + ((1 : Int32)))) fun v4_ =>
  Option.bind (aI q3_.2 a0 (x3 + ((2 : Int32)))) fun v5_ =>
  Option.bind (fX9_says a2 v4_ v5_ q3_.2) fun q6_ =>
  if q3_.1 = q6_.1 then (
    k18 a0 a1 a2 (x3 + (6 : Int32)) q6_.2
  ) else (
    some ((0 : Int32), q6_.2)
  )
def fL_law_b538 (k18 : Nat → Nat → Nat → Int32 → Mm → Option (Int32 × Mm)) (a0 : Nat) (a1 : Nat) (a2 : Nat) (x3 : Int32) (M : Mm) : Option (Int32 × Mm) :=
  Option.bind (aI M a0 (x3 + ((1 : Int32)))) fun v1_ =>
  Option.bind (fX8_street a1 v1_ M) fun q2_ =>
  Option.bind (aI q2_.2 a0 (x3 + ((1 : Int32)))) fun v3_ =>
  Option.bind (fX9_street a2 v3_ q2_.2) fun q4_ =>
  if q2_.1 = q4_.1 then (
    k18 a0 a1 a2 (x3 + (6 : Int32)) q4_.2
  ) else (
    some ((0 : Int32), q4_.2)
  )
def fL_law_b561 (k18 : Nat → Nat → Nat → Int32 → Mm → Option (Int32 × Mm)) (a0 : Nat) (a1 : Nat) (a2 : Nat) (x3 : Int32) (M : Mm) : Option (Int32 × Mm) :=
  Option.bind (aI M a0 (x3 + ((1 : Int32)))) fun v1_ =>
  Option.bind (aI M a0 (x3 + ((2 : Int32)))) fun v2_ =>
  Option.bind (aI M a0 (x3 + ((3 : Int32)))) fun v3_ =>
  Option.bind (aI M a0 (x3 + ((4 : Int32)))) fun v4_ =>
  Option.bind (fX8_sign a1 v1_ v2_ v3_ v4_ M) fun q5_ =>
  Option.bind (aI q5_.2 a0 (x3 + ((1 : Int32)))) fun v6_ =>
  Option.bind (aI q5_.2 a0 (x3 + ((2 : Int32)))) fun v7_ =>
  Option.bind (aI q5_.2 a0 (x3 + ((3 : Int32)))) fun v8_ =>
  Option.bind (aI q5_.2 a0 (x3 + ((4 : Int32)))) fun v9_ =>
  Option.bind (fX9_sign a2 v6_ v7_ v8_ v9_ q5_.2) fun q10_ =>
  if q5_.1 = q10_.1 then (
    k18 a0 a1 a2 (x3 + (6 : Int32)) q10_.2
  ) else (
    some ((0 : Int32), q10_.2)
  )
def fL_law_b660 (k18 : Nat → Nat → Nat → Int32 → Mm → Option (Int32 × Mm)) (a0 : Nat) (a1 : Nat) (a2 : Nat) (x3 : Int32) (s0 : Int32) (s1 : Nat) (s2 : Int32) (s3 : Int32) (M : Mm) : Option (Int32 × Mm) :=
  Option.bind (aI M a0 (x3 + ((3 : Int32)))) fun v1_ =>
  Option.bind (fX9_thing s1 s2 s3 v1_ M) fun q2_ =>
  if s0 = q2_.1 then (
    k18 a0 a1 a2 (x3 + (6 : Int32)) q2_.2
  ) else (
    some ((0 : Int32), q2_.2)
  )
def fL_law_b633 (k18 : Nat → Nat → Nat → Int32 → Mm → Option (Int32 × Mm)) (a0 : Nat) (a1 : Nat) (a2 : Nat) (x3 : Int32) (s0 : Nat) (s1 : Int32) (s2 : Int32) (M : Mm) : Option (Int32 × Mm) :=
  Option.bind (aI M a0 (x3 + ((3 : Int32)))) fun v1_ =>
  Option.bind (fX8_thing s0 s1 s2 v1_ M) fun q2_ =>
  Option.bind (aI q2_.2 a0 (x3 + ((1 : Int32)))) fun v3_ =>
  Option.bind (aI q2_.2 a0 (x3 + ((2 : Int32)))) fun v4_ =>
  if v4_ = 0 then (
    fL_law_b660 k18 a0 a1 a2 x3 q2_.1 a2 v3_ ((0 : Int32)) q2_.2
  ) else (
    fL_law_b660 k18 a0 a1 a2 x3 q2_.1 a2 v3_ ((1 : Int32)) q2_.2
  )
def fL_law_b614 (k18 : Nat → Nat → Nat → Int32 → Mm → Option (Int32 × Mm)) (a0 : Nat) (a1 : Nat) (a2 : Nat) (x3 : Int32) (M : Mm) : Option (Int32 × Mm) :=
  Option.bind (aI M a0 (x3 + ((1 : Int32)))) fun v1_ =>
  Option.bind (aI M a0 (x3 + ((2 : Int32)))) fun v2_ =>
  if v2_ = 0 then (
    fL_law_b633 k18 a0 a1 a2 x3 a1 v1_ ((0 : Int32)) M
  ) else (
    fL_law_b633 k18 a0 a1 a2 x3 a1 v1_ ((1 : Int32)) M
  )
def fL_law_b673 (k18 : Nat → Nat → Nat → Int32 → Mm → Option (Int32 × Mm)) (a0 : Nat) (a1 : Nat) (a2 : Nat) (x3 : Int32) (M : Mm) : Option (Int32 × Mm) :=
  Option.bind (aI M a0 (x3 + ((1 : Int32)))) fun v1_ =>
  Option.bind (aI M a0 (x3 + ((2 : Int32)))) fun v2_ =>
  Option.bind (aI M a0 (x3 + ((3 : Int32)))) fun v3_ =>
  Option.bind (fX8_things a1 v1_ v2_ v3_ M) fun q4_ =>
  Option.bind (aI q4_.2 a0 (x3 + ((1 : Int32)))) fun v5_ =>
  Option.bind (aI q4_.2 a0 (x3 + ((2 : Int32)))) fun v6_ =>
  Option.bind (aI q4_.2 a0 (x3 + ((3 : Int32)))) fun v7_ =>
  Option.bind (fX9_things a2 v5_ v6_ v7_ q4_.2) fun q8_ =>
  if q4_.1 = q8_.1 then (
    k18 a0 a1 a2 (x3 + (6 : Int32)) q8_.2
  ) else (
    some ((0 : Int32), q8_.2)
  )
def fL_law_b716 (k18 : Nat → Nat → Nat → Int32 → Mm → Option (Int32 × Mm)) (a0 : Nat) (a1 : Nat) (a2 : Nat) (x3 : Int32) (M : Mm) : Option (Int32 × Mm) :=
  Option.bind (aI M a0 (x3 + ((1 : Int32)))) fun v1_ =>
  Option.bind (aI M a0 (x3 + ((2 : Int32)))) fun v2_ =>
  Option.bind (fX8_wander a1 v1_ v2_ M) fun q3_ =>
  Option.bind (aI q3_.2 a0 (x3 + ((1 : Int32)))) fun v4_ =>
  Option.bind (aI q3_.2 a0 (x3 + ((2 : Int32)))) fun v5_ =>
  Option.bind (fX9_wander a2 v4_ v5_ q3_.2) fun q6_ =>
  if q3_.1 = q6_.1 then (
    k18 a0 a1 a2 (x3 + (6 : Int32)) q6_.2
  ) else (
    some ((0 : Int32), q6_.2)
  )
def fL_law_b749 (k18 : Nat → Nat → Nat → Int32 → Mm → Option (Int32 × Mm)) (a0 : Nat) (a1 : Nat) (a2 : Nat) (x3 : Int32) (M : Mm) : Option (Int32 × Mm) :=
  Option.bind (aI M a0 (x3 + ((1 : Int32)))) fun v1_ =>
  Option.bind (aI M a0 (x3 + ((2 : Int32)))) fun v2_ =>
  Option.bind (fX8_ask a1 v1_ v2_ M) fun q3_ =>
  Option.bind (aI q3_.2 a0 (x3 + ((1 : Int32)))) fun v4_ =>
  Option.bind (aI q3_.2 a0 (x3 + ((2 : Int32)))) fun v5_ =>
  Option.bind (fX9_ask a2 v4_ v5_ q3_.2) fun q6_ =>
  if q3_.1 = q6_.1 then (
    k18 a0 a1 a2 (x3 + (6 : Int32)) q6_.2
  ) else (
    some ((0 : Int32), q6_.2)
  )
def fL_law_b782 (k18 : Nat → Nat → Nat → Int32 → Mm → Option (Int32 × Mm)) (a0 : Nat) (a1 : Nat) (a2 : Nat) (x3 : Int32) (M : Mm) : Option (Int32 × Mm) :=
  Option.bind (aI M a0 (x3 + ((1 : Int32)))) fun v1_ =>
  Option.bind (aI M a0 (x3 + ((2 : Int32)))) fun v2_ =>
  Option.bind (fX8_signOf a1 v1_ v2_ M) fun q3_ =>
  Option.bind (aI q3_.2 a0 (x3 + ((1 : Int32)))) fun v4_ =>
  Option.bind (aI q3_.2 a0 (x3 + ((2 : Int32)))) fun v5_ =>
  Option.bind (fX9_signOf a2 v4_ v5_ q3_.2) fun q6_ =>
  if q3_.1 = q6_.1 then (
    k18 a0 a1 a2 (x3 + (6 : Int32)) q6_.2
  ) else (
    some ((0 : Int32), q6_.2)
  )
def fL_law_b815 (k18 : Nat → Nat → Nat → Int32 → Mm → Option (Int32 × Mm)) (a0 : Nat) (a1 : Nat) (a2 : Nat) (x3 : Int32) (M : Mm) : Option (Int32 × Mm) :=
  Option.bind (aI M a0 (x3 + ((1 : Int32)))) fun v1_ =>
  Option.bind (aI M a0 (x3 + ((2 : Int32)))) fun v2_ =>
  Option.bind (fX8_thingOf a1 v1_ v2_ M) fun q3_ =>
  Option.bind (aI q3_.2 a0 (x3 + ((1 : Int32)))) fun v4_ =>
  Option.bind (aI q3_.2 a0 (x3 + ((2 : Int32)))) fun v5_ =>
  Option.bind (fX9_thingOf a2 v4_ v5_ q3_.2) fun q6_ =>
  if q3_.1 = q6_.1 then (
    k18 a0 a1 a2 (x3 + (6 : Int32)) q6_.2
  ) else (
    some ((0 : Int32), q6_.2)
  )
def fL_law_b848 (k18 : Nat → Nat → Nat → Int32 → Mm → Option (Int32 × Mm)) (a0 : Nat) (a1 : Nat) (a2 : Nat) (x3 : Int32) (M : Mm) : Option (Int32 × Mm) :=
  Option.bind (aI M a0 (x3 + ((1 : Int32)))) fun v1_ =>
  Option.bind (fX8_clear a1 v1_ M) fun q2_ =>
  Option.bind (aI q2_.2 a0 (x3 + ((1 : Int32)))) fun v3_ =>
  Option.bind (fX9_clear a2 v3_ q2_.2) fun q4_ =>
  if q2_.1 = q4_.1 then (
    k18 a0 a1 a2 (x3 + (6 : Int32)) q4_.2
  ) else (
    some ((0 : Int32), q4_.2)
  )
def fL_law_b871 (k18 : Nat → Nat → Nat → Int32 → Mm → Option (Int32 × Mm)) (a0 : Nat) (a1 : Nat) (a2 : Nat) (x3 : Int32) (M : Mm) : Option (Int32 × Mm) :=
  Option.bind (aI M a0 (x3 + ((1 : Int32)))) fun v1_ =>
  Option.bind (fX8_town a1 v1_ M) fun q2_ =>
  Option.bind (aI q2_.2 a0 (x3 + ((1 : Int32)))) fun v3_ =>
  Option.bind (fX9_town a2 v3_ q2_.2) fun q4_ =>
  if q2_.1 = q4_.1 then (
    k18 a0 a1 a2 (x3 + (6 : Int32)) q4_.2
  ) else (
    some ((0 : Int32), q4_.2)
  )
def fL_law_b894 (k18 : Nat → Nat → Nat → Int32 → Mm → Option (Int32 × Mm)) (a0 : Nat) (a1 : Nat) (a2 : Nat) (x3 : Int32) (M : Mm) : Option (Int32 × Mm) :=
  Option.bind (fX8_fault a1 M) fun q1_ =>
  Option.bind (fX9_fault a2 q1_.2) fun q2_ =>
  if q1_.1 = q2_.1 then (
    k18 a0 a1 a2 (x3 + (6 : Int32)) q2_.2
  ) else (
    some ((0 : Int32), q2_.2)
  )
def fL_law_b907 (k18 : Nat → Nat → Nat → Int32 → Mm → Option (Int32 × Mm)) (a0 : Nat) (a1 : Nat) (a2 : Nat) (x3 : Int32) (M : Mm) : Option (Int32 × Mm) :=
  Option.bind (aI M a0 (x3 + ((1 : Int32)))) fun v1_ =>
  Option.bind (fX8_lost a1 v1_ M) fun q2_ =>
  Option.bind (aI q2_.2 a0 (x3 + ((1 : Int32)))) fun v3_ =>
  Option.bind (fX9_lost a2 v3_ q2_.2) fun q4_ =>
  if q2_.1 = q4_.1 then (
    k18 a0 a1 a2 (x3 + (6 : Int32)) q4_.2
  ) else (
    some ((0 : Int32), q4_.2)
  )
def fL_law_b930 (k18 : Nat → Nat → Nat → Int32 → Mm → Option (Int32 × Mm)) (a0 : Nat) (a1 : Nat) (a2 : Nat) (x3 : Int32) (M : Mm) : Option (Int32 × Mm) :=
  Option.bind (aI M a0 (x3 + ((1 : Int32)))) fun v1_ =>
  Option.bind (fX8_odds a1 v1_ M) fun q2_ =>
  Option.bind (aI q2_.2 a0 (x3 + ((1 : Int32)))) fun v3_ =>
  Option.bind (fX9_odds a2 v3_ q2_.2) fun q4_ =>
  if q2_.1 = q4_.1 then (
    k18 a0 a1 a2 (x3 + (6 : Int32)) q4_.2
  ) else (
    some ((0 : Int32), q4_.2)
  )
def fL_law_b954 (k18 : Nat → Nat → Nat → Int32 → Mm → Option (Int32 × Mm)) (a0 : Nat) (a1 : Nat) (a2 : Nat) (x3 : Int32) (M : Mm) : Option (Int32 × Mm) :=
  Option.bind (aI M a0 (x3 + ((1 : Int32)))) fun v1_ =>
  Option.bind (aI M a0 (x3 + ((2 : Int32)))) fun v2_ =>
  Option.bind (fX8_strength a1 v1_ v2_ M) fun q3_ =>
  Option.bind (aI q3_.2 a0 (x3 + ((1 : Int32)))) fun v4_ =>
  Option.bind (aI q3_.2 a0 (x3 + ((2 : Int32)))) fun v5_ =>
  Option.bind (fX9_strength a2 v4_ v5_ q3_.2) fun q6_ =>
  if q3_.1 = q6_.1 then (
    k18 a0 a1 a2 (x3 + (6 : Int32)) q6_.2
  ) else (
    some ((0 : Int32), q6_.2)
  )
def fL_law_b1018 (k18 : Nat → Nat → Nat → Int32 → Mm → Option (Int32 × Mm)) (a0 : Nat) (a1 : Nat) (a2 : Nat) (x3 : Int32) (s0 : Int32) (s1 : Nat) (s2 : Int32) (M : Mm) : Option (Int32 × Mm) :=
  Option.bind (fX9_step s1 s2 M) fun q1_ =>
  if s0 = q1_.1 then (
    k18 a0 a1 a2 (x3 + (6 : Int32)) q1_.2
  ) else (
    some ((0 : Int32), q1_.2)
  )
def fL_law_b1001 (k18 : Nat → Nat → Nat → Int32 → Mm → Option (Int32 × Mm)) (a0 : Nat) (a1 : Nat) (a2 : Nat) (x3 : Int32) (s0 : Nat) (s1 : Int32) (M : Mm) : Option (Int32 × Mm) :=
  Option.bind (fX8_step s0 s1 M) fun q1_ =>
  Option.bind (aI q1_.2 a0 (x3 + ((1 : Int32)))) fun v2_ =>
  if v2_ = 0 then (
    fL_law_b1018 k18 a0 a1 a2 x3 q1_.1 a2 ((0 : Int32)) q1_.2
  ) else (
    fL_law_b1018 k18 a0 a1 a2 x3 q1_.1 a2 ((1 : Int32)) q1_.2
  )
def fL_law_b987 (k18 : Nat → Nat → Nat → Int32 → Mm → Option (Int32 × Mm)) (a0 : Nat) (a1 : Nat) (a2 : Nat) (x3 : Int32) (M : Mm) : Option (Int32 × Mm) :=
  Option.bind (aI M a0 (x3 + ((1 : Int32)))) fun v1_ =>
  if v1_ = 0 then (
    fL_law_b1001 k18 a0 a1 a2 x3 a1 ((0 : Int32)) M
  ) else (
    fL_law_b1001 k18 a0 a1 a2 x3 a1 ((1 : Int32)) M
  )
def fL_law_b1067 (k18 : Nat → Nat → Nat → Int32 → Mm → Option (Int32 × Mm)) (a0 : Nat) (a1 : Nat) (a2 : Nat) (x3 : Int32) (s0 : Int32) (s1 : Nat) (s2 : Int32) (s3 : Int32) (M : Mm) : Option (Int32 × Mm) :=
  Option.bind (fX9_feel s1 s2 s3 M) fun q1_ =>
  if s0 = q1_.1 then (
    k18 a0 a1 a2 (x3 + (6 : Int32)) q1_.2
  ) else (
    some ((0 : Int32), q1_.2)
  )
def fL_law_b1045 (k18 : Nat → Nat → Nat → Int32 → Mm → Option (Int32 × Mm)) (a0 : Nat) (a1 : Nat) (a2 : Nat) (x3 : Int32) (s0 : Nat) (s1 : Int32) (s2 : Int32) (M : Mm) : Option (Int32 × Mm) :=
  Option.bind (fX8_feel s0 s1 s2 M) fun q1_ =>
  Option.bind (aI q1_.2 a0 (x3 + ((1 : Int32)))) fun v2_ =>
  Option.bind (aI q1_.2 a0 (x3 + ((2 : Int32)))) fun v3_ =>
  if v3_ = 0 then (
    fL_law_b1067 k18 a0 a1 a2 x3 q1_.1 a2 v2_ ((0 : Int32)) q1_.2
  ) else (
    fL_law_b1067 k18 a0 a1 a2 x3 q1_.1 a2 v2_ ((1 : Int32)) q1_.2
  )
def fL_law_b1026 (k18 : Nat → Nat → Nat → Int32 → Mm → Option (Int32 × Mm)) (a0 : Nat) (a1 : Nat) (a2 : Nat) (x3 : Int32) (M : Mm) : Option (Int32 × Mm) :=
  Option.bind (aI M a0 (x3 + ((1 : Int32)))) fun v1_ =>
  Option.bind (aI M a0 (x3 + ((2 : Int32)))) fun v2_ =>
  if v2_ = 0 then (
    fL_law_b1045 k18 a0 a1 a2 x3 a1 v1_ ((0 : Int32)) M
  ) else (
    fL_law_b1045 k18 a0 a1 a2 x3 a1 v1_ ((1 : Int32)) M
  )
def fL_law_b1075 (k18 : Nat → Nat → Nat → Int32 → Mm → Option (Int32 × Mm)) (a0 : Nat) (a1 : Nat) (a2 : Nat) (x3 : Int32) (M : Mm) : Option (Int32 × Mm) :=
  Option.bind (fX8_where a1 M) fun q1_ =>
  Option.bind (fX9_where a2 q1_.2) fun q2_ =>
  if q1_.1 = q2_.1 then (
    k18 a0 a1 a2 (x3 + (6 : Int32)) q2_.2
  ) else (
    some ((0 : Int32), q2_.2)
  )
def fL_law_b1088 (k18 : Nat → Nat → Nat → Int32 → Mm → Option (Int32 × Mm)) (a0 : Nat) (a1 : Nat) (a2 : Nat) (x3 : Int32) (M : Mm) : Option (Int32 × Mm) :=
  Option.bind (fX8_isLost a1 M) fun q1_ =>
  Option.bind (fX9_isLost a2 q1_.2) fun q2_ =>
  if q1_.1 = q2_.1 then (
    k18 a0 a1 a2 (x3 + (6 : Int32)) q2_.2
  ) else (
    some ((0 : Int32), q2_.2)
  )
def fL_law_b1101 (k18 : Nat → Nat → Nat → Int32 → Mm → Option (Int32 × Mm)) (a0 : Nat) (a1 : Nat) (a2 : Nat) (x3 : Int32) (M : Mm) : Option (Int32 × Mm) :=
  Option.bind (aI M a0 (x3 + ((1 : Int32)))) fun v1_ =>
  Option.bind (aI M a0 (x3 + ((2 : Int32)))) fun v2_ =>
  Option.bind (fX8_judge a1 v1_ v2_ M) fun q3_ =>
  Option.bind (aI q3_.2 a0 (x3 + ((1 : Int32)))) fun v4_ =>
  Option.bind (aI q3_.2 a0 (x3 + ((2 : Int32)))) fun v5_ =>
  Option.bind (fX9_judge a2 v4_ v5_ q3_.2) fun q6_ =>
  if q3_.1 = q6_.1 then (
    k18 a0 a1 a2 (x3 + (6 : Int32)) q6_.2
  ) else (
    some ((0 : Int32), q6_.2)
  )
def fL_law_b1134 (k18 : Nat → Nat → Nat → Int32 → Mm → Option (Int32 × Mm)) (a0 : Nat) (a1 : Nat) (a2 : Nat) (x3 : Int32) (M : Mm) : Option (Int32 × Mm) :=
  Option.bind (aI M a0 (x3 + ((1 : Int32)))) fun v1_ =>
  Option.bind (aI M a0 (x3 + ((2 : Int32)))) fun v2_ =>
  Option.bind (fX8_told a1 v1_ v2_ M) fun q3_ =>
  Option.bind (aI q3_.2 a0 (x3 + ((1 : Int32)))) fun v4_ =>
  Option.bind (aI q3_.2 a0 (x3 + ((2 : Int32)))) fun v5_ =>
  Option.bind (fX9_told a2 v4_ v5_ q3_.2) fun q6_ =>
  if q3_.1 = q6_.1 then (
    k18 a0 a1 a2 (x3 + (6 : Int32)) q6_.2
  ) else (
    some ((0 : Int32), q6_.2)
  )
def fL_law_b1167 (k18 : Nat → Nat → Nat → Int32 → Mm → Option (Int32 × Mm)) (a0 : Nat) (a1 : Nat) (a2 : Nat) (x3 : Int32) (M : Mm) : Option (Int32 × Mm) :=
  Option.bind (aI M a0 (x3 + ((1 : Int32)))) fun v1_ =>
  Option.bind (fX8_worth a1 v1_ M) fun q2_ =>
  Option.bind (aI q2_.2 a0 (x3 + ((1 : Int32)))) fun v3_ =>
  Option.bind (fX9_worth a2 v3_ q2_.2) fun q4_ =>
  if q2_.1 = q4_.1 then (
    k18 a0 a1 a2 (x3 + (6 : Int32)) q4_.2
  ) else (
    some ((0 : Int32), q4_.2)
  )
def fL_law_b1191 (k18 : Nat → Nat → Nat → Int32 → Mm → Option (Int32 × Mm)) (a0 : Nat) (a1 : Nat) (a2 : Nat) (x3 : Int32) (M : Mm) : Option (Int32 × Mm) :=
  Option.bind (fX8_next a1 M) fun q1_ =>
  Option.bind (fX9_next a2 q1_.2) fun q2_ =>
  if q1_.1 = q2_.1 then (
    k18 a0 a1 a2 (x3 + (6 : Int32)) q2_.2
  ) else (
    some ((0 : Int32), q2_.2)
  )
def fL_law_b1204 (k18 : Nat → Nat → Nat → Int32 → Mm → Option (Int32 × Mm)) (a0 : Nat) (a1 : Nat) (a2 : Nat) (x3 : Int32) (M : Mm) : Option (Int32 × Mm) :=
  Option.bind (fX8_ahead a1 M) fun q1_ =>
  Option.bind (fX9_ahead a2 q1_.2) fun q2_ =>
  if q1_.1 = q2_.1 then (
    k18 a0 a1 a2 (x3 + (6 : Int32)) q2_.2
  ) else (
    some ((0 : Int32), q2_.2)
  )
def fL_law_b1217 (k18 : Nat → Nat → Nat → Int32 → Mm → Option (Int32 × Mm)) (a0 : Nat) (a1 : Nat) (a2 : Nat) (x3 : Int32) (M : Mm) : Option (Int32 × Mm) :=
  Option.bind (aI M a0 (x3 + ((1 : Int32)))) fun v1_ =>
  Option.bind (fX8_least a1 v1_ M) fun q2_ =>
  Option.bind (aI q2_.2 a0 (x3 + ((1 : Int32)))) fun v3_ =>
  Option.bind (fX9_least a2 v3_ q2_.2) fun q4_ =>
  if q2_.1 = q4_.1 then (
    k18 a0 a1 a2 (x3 + (6 : Int32)) q4_.2
  ) else (
    some ((0 : Int32), q4_.2)
  )
def fL_law_b1240 (k18 : Nat → Nat → Nat → Int32 → Mm → Option (Int32 × Mm)) (a0 : Nat) (a1 : Nat) (a2 : Nat) (x3 : Int32) (M : Mm) : Option (Int32 × Mm) :=
  Option.bind (aI M a0 (x3 + ((1 : Int32)))) fun v1_ =>
  Option.bind (aI M a0 (x3 + ((2 : Int32)))) fun v2_ =>
  Option.bind (fX8_safe a1 v1_ v2_ M) fun q3_ =>
  Option.bind (aI q3_.2 a0 (x3 + ((1 : Int32)))) fun v4_ =>
  Option.bind (aI q3_.2 a0 (x3 + ((2 : Int32)))) fun v5_ =>
  Option.bind (fX9_safe a2 v4_ v5_ q3_.2) fun q6_ =>
  if q3_.1 = q6_.1 then (
    k18 a0 a1 a2 (x3 + (6 : Int32)) q6_.2
  ) else (
    some ((0 : Int32), q6_.2)
  )
def fL_law_b1274 (k18 : Nat → Nat → Nat → Int32 → Mm → Option (Int32 × Mm)) (a0 : Nat) (a1 : Nat) (a2 : Nat) (x3 : Int32) (M : Mm) : Option (Int32 × Mm) :=
  Option.bind (aI M a0 (x3 + ((1 : Int32)))) fun v1_ =>
  Option.bind (aI M a0 (x3 + ((2 : Int32)))) fun v2_ =>
  Option.bind (fX8_first a1 v1_ v2_ M) fun q3_ =>
  Option.bind (aI q3_.2 a0 (x3 + ((1 : Int32)))) fun v4_ =>
  Option.bind (aI q3_.2 a0 (x3 + ((2 : Int32)))) fun v5_ =>
  Option.bind (fX9_first a2 v4_ v5_ q3_.2) fun q6_ =>
  if q3_.1 = q6_.1 then (
    k18 a0 a1 a2 (x3 + (6 : Int32)) q6_.2
  ) else (
    some ((0 : Int32), q6_.2)
  )
def fL_law_b1307 (k18 : Nat → Nat → Nat → Int32 → Mm → Option (Int32 × Mm)) (a0 : Nat) (a1 : Nat) (a2 : Nat) (x3 : Int32) (M : Mm) : Option (Int32 × Mm) :=
  Option.bind (aI M a0 (x3 + ((1 : Int32)))) fun v1_ =>
  Option.bind (aI M a0 (x3 + ((2 : Int32)))) fun v2_ =>
  Option.bind (aI M a0 (x3 + ((3 : Int32)))) fun v3_ =>
  Option.bind (fX8_order a1 v1_ v2_ v3_ M) fun q4_ =>
  Option.bind (aI q4_.2 a0 (x3 + ((1 : Int32)))) fun v5_ =>
  Option.bind (aI q4_.2 a0 (x3 + ((2 : Int32)))) fun v6_ =>
  Option.bind (aI q4_.2 a0 (x3 + ((3 : Int32)))) fun v7_ =>
  Option.bind (fX9_order a2 v5_ v6_ v7_ q4_.2) fun q8_ =>
  if q4_.1 = q8_.1 then (
    k18 a0 a1 a2 (x3 + (6 : Int32)) q8_.2
  ) else (
    some ((0 : Int32), q8_.2)
  )
def fL_law_b1350 (k18 : Nat → Nat → Nat → Int32 → Mm → Option (Int32 × Mm)) (a0 : Nat) (a1 : Nat) (a2 : Nat) (x3 : Int32) (M : Mm) : Option (Int32 × Mm) :=
  Option.bind (aI M a0 (x3 + ((1 : Int32)))) fun v1_ =>
  Option.bind (aI M a0 (x3 + ((2 : Int32)))) fun v2_ =>
  Option.bind (aI M a0 (x3 + ((3 : Int32)))) fun v3_ =>
  Option.bind (aI M a0 (x3 + ((4 : Int32)))) fun v4_ =>
  Option.bind (fX8_over a1 v1_ v2_ v3_ v4_ M) fun q5_ =>
  Option.bind (aI q5_.2 a0 (x3 + ((1 : Int32)))) fun v6_ =>
  Option.bind (aI q5_.2 a0 (x3 + ((2 : Int32)))) fun v7_ =>
  Option.bind (aI q5_.2 a0 (x3 + ((3 : Int32)))) fun v8_ =>
  Option.bind (aI q5_.2 a0 (x3 + ((4 : Int32)))) fun v9_ =>
  Option.bind (fX9_over a2 v6_ v7_ v8_ v9_ q5_.2) fun q10_ =>
  if q5_.1 = q10_.1 then (
    k18 a0 a1 a2 (x3 + (6 : Int32)) q10_.2
  ) else (
    some ((0 : Int32), q10_.2)
  )
def fL_law_b1403 (k18 : Nat → Nat → Nat → Int32 → Mm → Option (Int32 × Mm)) (a0 : Nat) (a1 : Nat) (a2 : Nat) (x3 : Int32) (M : Mm) : Option (Int32 × Mm) :=
  Option.bind (aI M a0 (x3 + ((1 : Int32)))) fun v1_ =>
  Option.bind (aI M a0 (x3 + ((2 : Int32)))) fun v2_ =>
  Option.bind (fX8_learnt a1 v1_ v2_ M) fun q3_ =>
  Option.bind (aI q3_.2 a0 (x3 + ((1 : Int32)))) fun v4_ =>
  Option.bind (aI q3_.2 a0 (x3 + ((2 : Int32)))) fun v5_ =>
  Option.bind (fX9_learnt a2 v4_ v5_ q3_.2) fun q6_ =>
  if q3_.1 = q6_.1 then (
    k18 a0 a1 a2 (x3 + (6 : Int32)) q6_.2
  ) else (
    some ((0 : Int32), q6_.2)
  )
def fL_law_b1436 (k18 : Nat → Nat → Nat → Int32 → Mm → Option (Int32 × Mm)) (a0 : Nat) (a1 : Nat) (a2 : Nat) (x3 : Int32) (M : Mm) : Option (Int32 × Mm) :=
  Option.bind (aI M a0 (x3 + ((1 : Int32)))) fun v1_ =>
  Option.bind (aI M a0 (x3 + ((2 : Int32)))) fun v2_ =>
  Option.bind (fX8_goings a1 v1_ v2_ M) fun q3_ =>
  Option.bind (aI q3_.2 a0 (x3 + ((1 : Int32)))) fun v4_ =>
  Option.bind (aI q3_.2 a0 (x3 + ((2 : Int32)))) fun v5_ =>
  Option.bind (fX9_goings a2 v4_ v5_ q3_.2) fun q6_ =>
  if q3_.1 = q6_.1 then (
    k18 a0 a1 a2 (x3 + (6 : Int32)) q6_.2
  ) else (
    some ((0 : Int32), q6_.2)
  )
def fL_law_b1469 (k18 : Nat → Nat → Nat → Int32 → Mm → Option (Int32 × Mm)) (a0 : Nat) (a1 : Nat) (a2 : Nat) (x3 : Int32) (M : Mm) : Option (Int32 × Mm) :=
  Option.bind (aI M a0 (x3 + ((1 : Int32)))) fun v1_ =>
  Option.bind (fX8_begin a1 v1_ M) fun q2_ =>
  Option.bind (aI q2_.2 a0 (x3 + ((1 : Int32)))) fun v3_ =>
  Option.bind (fX9_begin a2 v3_ q2_.2) fun q4_ =>
  if q2_.1 = q4_.1 then (
    k18 a0 a1 a2 (x3 + (6 : Int32)) q4_.2
  ) else (
    some ((0 : Int32), q4_.2)
  )
def fL_law_b1523 (k18 : Nat → Nat → Nat → Int32 → Mm → Option (Int32 × Mm)) (a0 : Nat) (a1 : Nat) (a2 : Nat) (x3 : Int32) (s0 : Int32) (s1 : Nat) (s2 : Int32) (M : Mm) : Option (Int32 × Mm) :=
  Option.bind (fX9_goes s1 s2 M) fun q1_ =>
  if s0 = q1_.1 then (
    k18 a0 a1 a2 (x3 + (6 : Int32)) q1_.2
  ) else (
    some ((0 : Int32), q1_.2)
  )
def fL_law_b1506 (k18 : Nat → Nat → Nat → Int32 → Mm → Option (Int32 × Mm)) (a0 : Nat) (a1 : Nat) (a2 : Nat) (x3 : Int32) (s0 : Nat) (s1 : Int32) (M : Mm) : Option (Int32 × Mm) :=
  Option.bind (fX8_goes s0 s1 M) fun q1_ =>
  Option.bind (aI q1_.2 a0 (x3 + ((1 : Int32)))) fun v2_ =>
  if v2_ = 0 then (
    fL_law_b1523 k18 a0 a1 a2 x3 q1_.1 a2 ((0 : Int32)) q1_.2
  ) else (
    fL_law_b1523 k18 a0 a1 a2 x3 q1_.1 a2 ((1 : Int32)) q1_.2
  )
def fL_law_b1492 (k18 : Nat → Nat → Nat → Int32 → Mm → Option (Int32 × Mm)) (a0 : Nat) (a1 : Nat) (a2 : Nat) (x3 : Int32) (M : Mm) : Option (Int32 × Mm) :=
  Option.bind (aI M a0 (x3 + ((1 : Int32)))) fun v1_ =>
  if v1_ = 0 then (
    fL_law_b1506 k18 a0 a1 a2 x3 a1 ((0 : Int32)) M
  ) else (
    fL_law_b1506 k18 a0 a1 a2 x3 a1 ((1 : Int32)) M
  )
def fL_law_b1531 (k18 : Nat → Nat → Nat → Int32 → Mm → Option (Int32 × Mm)) (a0 : Nat) (a1 : Nat) (a2 : Nat) (x3 : Int32) (M : Mm) : Option (Int32 × Mm) :=
  Option.bind (aI M a0 (x3 + ((1 : Int32)))) fun v1_ =>
  Option.bind (fX8_looks a1 v1_ M) fun q2_ =>
  Option.bind (aI q2_.2 a0 (x3 + ((1 : Int32)))) fun v3_ =>
  Option.bind (fX9_looks a2 v3_ q2_.2) fun q4_ =>
  if q2_.1 = q4_.1 then (
    k18 a0 a1 a2 (x3 + (6 : Int32)) q4_.2
  ) else (
    some ((0 : Int32), q4_.2)
  )
def fL_law_b1554 (k18 : Nat → Nat → Nat → Int32 → Mm → Option (Int32 × Mm)) (a0 : Nat) (a1 : Nat) (a2 : Nat) (x3 : Int32) (M : Mm) : Option (Int32 × Mm) :=
  Option.bind (fX8_right a1 M) fun q1_ =>
  Option.bind (fX9_right a2 q1_.2) fun q2_ =>
  if q1_.1 = q2_.1 then (
    k18 a0 a1 a2 (x3 + (6 : Int32)) q2_.2
  ) else (
    some ((0 : Int32), q2_.2)
  )
def fL_law_b1567 (k18 : Nat → Nat → Nat → Int32 → Mm → Option (Int32 × Mm)) (a0 : Nat) (a1 : Nat) (a2 : Nat) (x3 : Int32) (M : Mm) : Option (Int32 × Mm) :=
  Option.bind (aI M a0 (x3 + ((1 : Int32)))) fun v1_ =>
  Option.bind (fX8_seed a1 v1_ M) fun q2_ =>
  Option.bind (aI q2_.2 a0 (x3 + ((1 : Int32)))) fun v3_ =>
  Option.bind (fX9_seed a2 v3_ q2_.2) fun q4_ =>
  if q2_.1 = q4_.1 then (
    k18 a0 a1 a2 (x3 + (6 : Int32)) q4_.2
  ) else (
    some ((0 : Int32), q4_.2)
  )
def fL_law_b1590 (k18 : Nat → Nat → Nat → Int32 → Mm → Option (Int32 × Mm)) (a0 : Nat) (a1 : Nat) (a2 : Nat) (x3 : Int32) (M : Mm) : Option (Int32 × Mm) :=
  Option.bind (aI M a0 (x3 + ((1 : Int32)))) fun v1_ =>
  Option.bind (aI M a0 (x3 + ((2 : Int32)))) fun v2_ =>
  Option.bind (aI M a0 (x3 + ((3 : Int32)))) fun v3_ =>
  Option.bind (fX8_act a1 v1_ v2_ v3_ M) fun q4_ =>
  Option.bind (aI q4_.2 a0 (x3 + ((1 : Int32)))) fun v5_ =>
  Option.bind (aI q4_.2 a0 (x3 + ((2 : Int32)))) fun v6_ =>
  Option.bind (aI q4_.2 a0 (x3 + ((3 : Int32)))) fun v7_ =>
  Option.bind (fX9_act a2 v5_ v6_ v7_ q4_.2) fun q8_ =>
  if q4_.1 = q8_.1 then (
    k18 a0 a1 a2 (x3 + (6 : Int32)) q8_.2
  ) else (
    some ((0 : Int32), q8_.2)
  )
def fL_law_b1633 (k18 : Nat → Nat → Nat → Int32 → Mm → Option (Int32 × Mm)) (a0 : Nat) (a1 : Nat) (a2 : Nat) (x3 : Int32) (M : Mm) : Option (Int32 × Mm) :=
  Option.bind (aI M a0 (x3 + ((1 : Int32)))) fun v1_ =>
  Option.bind (fX8_trace a1 v1_ M) fun q2_ =>
  Option.bind (aI q2_.2 a0 (x3 + ((1 : Int32)))) fun v3_ =>
  Option.bind (fX9_trace a2 v3_ q2_.2) fun q4_ =>
  if q2_.1 = q4_.1 then (
    k18 a0 a1 a2 (x3 + (6 : Int32)) q4_.2
  ) else (
    some ((0 : Int32), q4_.2)
  )
def fL_law_b1656 (k18 : Nat → Nat → Nat → Int32 → Mm → Option (Int32 × Mm)) (a0 : Nat) (a1 : Nat) (a2 : Nat) (x3 : Int32) (M : Mm) : Option (Int32 × Mm) :=
  Option.bind (fX8_image a1 M) fun q1_ =>
  Option.bind (fX9_image a2 q1_.2) fun q2_ =>
  if q1_.1 = q2_.1 then (
    k18 a0 a1 a2 (x3 + (6 : Int32)) q2_.2
  ) else (
    some ((0 : Int32), q2_.2)
  )
def fL_law_b1669 (k18 : Nat → Nat → Nat → Int32 → Mm → Option (Int32 × Mm)) (a0 : Nat) (a1 : Nat) (a2 : Nat) (x3 : Int32) (M : Mm) : Option (Int32 × Mm) :=
  Option.bind (fX8_restore a1 M) fun q1_ =>
  Option.bind (fX9_restore a2 q1_.2) fun q2_ =>
  if q1_.1 = q2_.1 then (
    k18 a0 a1 a2 (x3 + (6 : Int32)) q2_.2
  ) else (
    some ((0 : Int32), q2_.2)
  )
def fL_law_b1682 (k18 : Nat → Nat → Nat → Int32 → Mm → Option (Int32 × Mm)) (a0 : Nat) (a1 : Nat) (a2 : Nat) (x3 : Int32) (M : Mm) : Option (Int32 × Mm) :=
  Option.bind (aI M a0 (x3 + ((1 : Int32)))) fun v1_ =>
  Option.bind (fX8_status a1 v1_ M) fun q2_ =>
  Option.bind (aI q2_.2 a0 (x3 + ((1 : Int32)))) fun v3_ =>
  Option.bind (fX9_status a2 v3_ q2_.2) fun q4_ =>
  if q2_.1 = q4_.1 then (
    k18 a0 a1 a2 (x3 + (6 : Int32)) q4_.2
  ) else (
    some ((0 : Int32), q4_.2)
  )
def fL_law_b18  : Nat → Nat → Nat → Nat → Int32 → Mm → Option (Int32 × Mm)
  | 0, _, _, _, _, _ => none
  | n + 1, a0, a1, a2, x3, M =>
    Option.bind (aL M a0) fun v1_ =>
    if (v1_ - ((6 : Int32))) < x3 then (
      some ((1 : Int32), M)
    ) else (
      Option.bind (aI M a0 x3) fun v2_ =>
      if (v2_ &&& ((63 : Int32))) = (0 : Int32) then (
        fL_law_b236 (fL_law_b18 n) a0 a1 a2 x3 M
      ) else
      if (v2_ &&& ((63 : Int32))) = (1 : Int32) then (
        fL_law_b279 (fL_law_b18 n) a0 a1 a2 x3 M
      ) else
      if (v2_ &&& ((63 : Int32))) = (2 : Int32) then (
        fL_law_b352 (fL_law_b18 n) a0 a1 a2 x3 M
      ) else
      if (v2_ &&& ((63 : Int32))) = (3 : Int32) then (
        fL_law_b415 (fL_law_b18 n) a0 a1 a2 x3 M
      ) else
      if (v2_ &&& ((63 : Int32))) = (4 : Int32) then (
        fL_law_b449 (fL_law_b18 n) a0 a1 a2 x3 M
      ) else
      if (v2_ &&& ((63 : Int32))) = (5 : Int32) then (
        fL_law_b482 (fL_law_b18 n) a0 a1 a2 x3 M
      ) else
      if (v2_ &&& ((63 : Int32))) = (6 : Int32) then (
        fL_law_b505 (fL_law_b18 n) a0 a1 a2 x3 M
      ) else
      if (v2_ &&& ((63 : Int32))) = (7 : Int32) then (
        fL_law_b538 (fL_law_b18 n) a0 a1 a2 x3 M
      ) else
      if (v2_ &&& ((63 : Int32))) = (8 : Int32) then (
        fL_law_b561 (fL_law_b18 n) a0 a1 a2 x3 M
      ) else
      if (v2_ &&& ((63 : Int32))) = (9 : Int32) then (
        fL_law_b614 (fL_law_b18 n) a0 a1 a2 x3 M
      ) else
      if (v2_ &&& ((63 : Int32))) = (10 : Int32) then (
        fL_law_b673 (fL_law_b18 n) a0 a1 a2 x3 M
      ) else
      if (v2_ &&& ((63 : Int32))) = (11 : Int32) then (
        fL_law_b716 (fL_law_b18 n) a0 a1 a2 x3 M
      ) else
      if (v2_ &&& ((63 : Int32))) = (12 : Int32) then (
        fL_law_b749 (fL_law_b18 n) a0 a1 a2 x3 M
      ) else
      if (v2_ &&& ((63 : Int32))) = (13 : Int32) then (
        fL_law_b782 (fL_law_b18 n) a0 a1 a2 x3 M
      ) else
      if (v2_ &&& ((63 : Int32))) = (14 : Int32) then (
        fL_law_b815 (fL_law_b18 n) a0 a1 a2 x3 M
      ) else
      if (v2_ &&& ((63 : Int32))) = (15 : Int32) then (
        fL_law_b848 (fL_law_b18 n) a0 a1 a2 x3 M
      ) else
      if (v2_ &&& ((63 : Int32))) = (16 : Int32) then (
        fL_law_b871 (fL_law_b18 n) a0 a1 a2 x3 M
      ) else
      if (v2_ &&& ((63 : Int32))) = (17 : Int32) then (
        fL_law_b894 (fL_law_b18 n) a0 a1 a2 x3 M
      ) else
      if (v2_ &&& ((63 : Int32))) = (18 : Int32) then (
        fL_law_b907 (fL_law_b18 n) a0 a1 a2 x3 M
      ) else
      if (v2_ &&& ((63 : Int32))) = (19 : Int32) then (
        fL_law_b930 (fL_law_b18 n) a0 a1 a2 x3 M
      ) else
      if (v2_ &&& ((63 : Int32))) = (20 : Int32) then (
        fL_law_b954 (fL_law_b18 n) a0 a1 a2 x3 M
      ) else
      if (v2_ &&& ((63 : Int32))) = (21 : Int32) then (
        fL_law_b987 (fL_law_b18 n) a0 a1 a2 x3 M
      ) else
      if (v2_ &&& ((63 : Int32))) = (22 : Int32) then (
        fL_law_b1026 (fL_law_b18 n) a0 a1 a2 x3 M
      ) else
      if (v2_ &&& ((63 : Int32))) = (23 : Int32) then (
        fL_law_b1075 (fL_law_b18 n) a0 a1 a2 x3 M
      ) else
      if (v2_ &&& ((63 : Int32))) = (24 : Int32) then (
        fL_law_b1088 (fL_law_b18 n) a0 a1 a2 x3 M
      ) else
      if (v2_ &&& ((63 : Int32))) = (25 : Int32) then (
        fL_law_b1101 (fL_law_b18 n) a0 a1 a2 x3 M
      ) else
      if (v2_ &&& ((63 : Int32))) = (26 : Int32) then (
        fL_law_b1134 (fL_law_b18 n) a0 a1 a2 x3 M
      ) else
      if (v2_ &&& ((63 : Int32))) = (27 : Int32) then (
        fL_law_b1167 (fL_law_b18 n) a0 a1 a2 x3 M
      ) else
      if (v2_ &&& ((63 : Int32))) = (28 : Int32) then (
        fL_law_b1191 (fL_law_b18 n) a0 a1 a2 x3 M
      ) else
      if (v2_ &&& ((63 : Int32))) = (29 : Int32) then (
        fL_law_b1204 (fL_law_b18 n) a0 a1 a2 x3 M
      ) else
      if (v2_ &&& ((63 : Int32))) = (30 : Int32) then (
        fL_law_b1217 (fL_law_b18 n) a0 a1 a2 x3 M
      ) else
      if (v2_ &&& ((63 : Int32))) = (31 : Int32) then (
        fL_law_b1240 (fL_law_b18 n) a0 a1 a2 x3 M
      ) else
      if (v2_ &&& ((63 : Int32))) = (32 : Int32) then (
        fL_law_b1274 (fL_law_b18 n) a0 a1 a2 x3 M
      ) else
      if (v2_ &&& ((63 : Int32))) = (33 : Int32) then (
        fL_law_b1307 (fL_law_b18 n) a0 a1 a2 x3 M
      ) else
      if (v2_ &&& ((63 : Int32))) = (34 : Int32) then (
        fL_law_b1350 (fL_law_b18 n) a0 a1 a2 x3 M
      ) else
      if (v2_ &&& ((63 : Int32))) = (35 : Int32) then (
        fL_law_b1403 (fL_law_b18 n) a0 a1 a2 x3 M
      ) else
      if (v2_ &&& ((63 : Int32))) = (36 : Int32) then (
        fL_law_b1436 (fL_law_b18 n) a0 a1 a2 x3 M
      ) else
      if (v2_ &&& ((63 : Int32))) = (37 : Int32) then (
        fL_law_b1469 (fL_law_b18 n) a0 a1 a2 x3 M
      ) else
      if (v2_ &&& ((63 : Int32))) = (38 : Int32) then (
        fL_law_b1492 (fL_law_b18 n) a0 a1 a2 x3 M
      ) else
      if (v2_ &&& ((63 : Int32))) = (39 : Int32) then (
        fL_law_b1531 (fL_law_b18 n) a0 a1 a2 x3 M
      ) else
      if (v2_ &&& ((63 : Int32))) = (40 : Int32) then (
        fL_law_b1554 (fL_law_b18 n) a0 a1 a2 x3 M
      ) else
      if (v2_ &&& ((63 : Int32))) = (41 : Int32) then (
        fL_law_b1567 (fL_law_b18 n) a0 a1 a2 x3 M
      ) else
      if (v2_ &&& ((63 : Int32))) = (42 : Int32) then (
        fL_law_b1590 (fL_law_b18 n) a0 a1 a2 x3 M
      ) else
      if (v2_ &&& ((63 : Int32))) = (43 : Int32) then (
        fL_law_b1633 (fL_law_b18 n) a0 a1 a2 x3 M
      ) else
      if (v2_ &&& ((63 : Int32))) = (44 : Int32) then (
        fL_law_b1656 (fL_law_b18 n) a0 a1 a2 x3 M
      ) else
      if (v2_ &&& ((63 : Int32))) = (45 : Int32) then (
        fL_law_b1669 (fL_law_b18 n) a0 a1 a2 x3 M
      ) else
      if (v2_ &&& ((63 : Int32))) = (46 : Int32) then (
        fL_law_b1682 (fL_law_b18 n) a0 a1 a2 x3 M
      ) else
      (fL_law_b18 n) a0 a1 a2 (x3 + (6 : Int32)) M
    )
def fL_law (a0 : Nat) (M : Mm) : Option (Int32 × Mm) :=
  Option.bind (nO M 8 10) fun q1_ =>
  Option.bind (fX8_init q1_.1 q1_.2) fun M2_ =>
  Option.bind (nO M2_ 9 49) fun q3_ =>
  Option.bind (fX9_init q3_.1 q3_.2) fun M4_ =>
  fL_law_b18 FU a0 q1_.1 q3_.1 ((0 : Int32)) M4_
