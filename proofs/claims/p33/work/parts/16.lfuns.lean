def fL_cell (L : Nat) (xs : Nat → Int32) (k : Int32) : Option Int32 :=
  if Int32.ofNat L ≤ k then some (1033861975 * (k + 1) + 650699941) else ckI k L <| some (xs k.toNatClampNeg)
def fL_low (p1 : Int32) (p2 : Int32) : Option (Int32) :=
  ckP (¬ p2 = 0) <|
  some ((p1 &&& 2147483647) - (p1 &&& 2147483647) / p2 * p2)
def fL_held_L5 (hh : Nat → Int32) (u0 : Int32) (u1 : Int32) : Nat → Int32 → Int32 → Option (Int32)
  | 0, _, _ => none
  | n + 1, z3, z4 =>
    if 60 ≤ z4 then
      some z3
    else
      ckI z4 60 <|
      if (hh z4.toNatClampNeg) = u0 then
        ckI (z4 + 2) 60 <|
        if (hh (z4 + 2).toNatClampNeg) < u1 then
          lt_ (z3 + 0) fun x3_7 =>
          fL_held_L5 hh u0 u1 n x3_7 (z4 + 3)
        else
          ckI (z4 + 1) 60 <|
          lt_ (z3 + (hh (z4 + 1).toNatClampNeg)) fun x3_9 =>
          fL_held_L5 hh u0 u1 n x3_9 (z4 + 3)
      else
        lt_ (z3 + 0) fun x3_4 =>
        fL_held_L5 hh u0 u1 n x3_4 (z4 + 3)
def fL_held (hh : Nat → Int32) (p1 : Int32) (p2 : Int32) : Option (Int32) :=
  bd1 (fL_held_L5 hh p1 p2 2147483648 0 0) fun x3_10 =>
    some x3_10
def fL_free (mm : Nat → Int64) (qq : Nat → Int32) (hh : Nat → Int32) (p1 : Int32) : Option (Int32) :=
  ckI p1 25 <|
  ckI 0 18 <|
  bd1 (fL_held hh p1 (qq (0 : Int32).toNatClampNeg)) fun r_3 =>
  some ((mm p1.toNatClampNeg).toInt32 - r_3)
def fL_enter (ee : Nat → Int32) (mm : Nat → Int64) (qq : Nat → Int32) (p1 : Int32) (p2 : Int32) (p3 : Int32) (p4 : Int32) : Option ((Nat → Int32) × (Nat → Int64) × (Nat → Int32)) :=
  ckI 24 25 <|
  ckI 0 18 <|
  ckI 24 25 <|
  lt_ (vp_updL mm (24 : Int32).toNatClampNeg ((((((((mm (24 : Int32).toNatClampNeg) * 1009) + ((qq (0 : Int32).toNatClampNeg).toInt64 * 31)) + (p1.toInt64 * 17)) + (p2.toInt64 * 101)) + (p3.toInt64 * 103)) + p4.toInt64) - (((((((mm (24 : Int32).toNatClampNeg) * 1009) + ((qq (0 : Int32).toNatClampNeg).toInt64 * 31)) + (p1.toInt64 * 17)) + (p2.toInt64 * 101)) + (p3.toInt64 * 103)) + p4.toInt64) / 1000003 * 1000003)) fun mm_4 =>
  ckI 5 18 <|
  ckI 5 18 <|
  lt_ (upd qq (5 : Int32).toNatClampNeg ((qq (5 : Int32).toNatClampNeg) + 1)) fun qq_7 =>
  ckI 5 18 <|
  lt_ (6 * ((qq_7 (5 : Int32).toNatClampNeg) - (qq_7 (5 : Int32).toNatClampNeg) / 10 * 10)) fun x7_9 =>
  ckI 0 18 <|
  ckI x7_9 60 <|
  lt_ (upd ee x7_9.toNatClampNeg (qq_7 (0 : Int32).toNatClampNeg)) fun ee_12 =>
  ckI (x7_9 + 1) 60 <|
  lt_ (upd ee_12 (x7_9 + 1).toNatClampNeg p1) fun ee_14 =>
  ckI (x7_9 + 2) 60 <|
  lt_ (upd ee_14 (x7_9 + 2).toNatClampNeg p2) fun ee_16 =>
  ckI (x7_9 + 3) 60 <|
  lt_ (upd ee_16 (x7_9 + 3).toNatClampNeg p3) fun ee_18 =>
  ckI (x7_9 + 4) 60 <|
  lt_ (upd ee_18 (x7_9 + 4).toNatClampNeg p4) fun ee_20 =>
  ckI 24 25 <|
  ckI (x7_9 + 5) 60 <|
  lt_ (upd ee_20 (x7_9 + 5).toNatClampNeg ((mm_4 (24 : Int32).toNatClampNeg).toInt32)) fun ee_23 =>
  ckI 0 18 <|
  ckI (10 + p2) 18 <|
  lt_ (upd qq_7 (10 + p2).toNatClampNeg (qq_7 (0 : Int32).toNatClampNeg)) fun qq_26 =>
  if p3 ≤ 0 then
    some (ee_23, mm_4, qq_26)
  else
    ckI 0 18 <|
    ckI (10 + p3) 18 <|
    lt_ (upd qq_26 (10 + p3).toNatClampNeg (qq_26 (0 : Int32).toNatClampNeg)) fun qq_30 =>
    some (ee_23, mm_4, qq_30)
def fL_interest_J88 (mm : Nat → Int64) (qq : Nat → Int32) (z0 : Int32) (z1 : Int32) (s0 : Int64) : Option (Int64 × (Nat → Int64)) :=
  if 0 < (z1 - z1 / 30 * 30) then
    some (0, mm)
  else
    if s0 < 1 then
      some (0, mm)
    else
      ckI 4 18 <|
      if (qq (4 : Int32).toNatClampNeg).toInt64 ≤ s0 then
        ckI z0 25 <|
        ckI z0 25 <|
        lt_ (vp_updL mm z0.toNatClampNeg ((mm z0.toNatClampNeg) + s0)) fun mm_21 =>
        ckI (10 + z0) 25 <|
        ckI (10 + z0) 25 <|
        lt_ (vp_updL mm_21 (10 + z0).toNatClampNeg ((mm_21 (10 + z0).toNatClampNeg) - (3650000 * s0))) fun mm_24 =>
        some (s0, mm_24)
      else
        some (0, mm)
def fL_interest_J21 (mm : Nat → Int64) (qq : Nat → Int32) (z0 : Int32) (z1 : Int32) (s0 : Int64) : Option (Int64 × (Nat → Int64)) :=
  ckI (10 + z0) 25 <|
  ckI 2 18 <|
  ckI 3 18 <|
  ckI z0 25 <|
  ckI (10 + z0) 25 <|
  lt_ (vp_updL mm (10 + z0).toNatClampNeg ((mm (10 + z0).toNatClampNeg) + (((qq (2 : Int32).toNatClampNeg).toInt64 * s0) + ((qq (3 : Int32).toNatClampNeg).toInt64 * ((mm z0.toNatClampNeg) - s0))))) fun mm_10 =>
  ckI (10 + z0) 25 <|
  lt_ ((mm_10 (10 + z0).toNatClampNeg) / 3650000) fun x6_12 =>
  ckI z0 25 <|
  if x6_12 ≤ (1000000000 - (mm_10 z0.toNatClampNeg)) then
    fL_interest_J88 mm_10 qq z0 z1 x6_12
  else
    ckI z0 25 <|
    fL_interest_J88 mm_10 qq z0 z1 (1000000000 - (mm_10 z0.toNatClampNeg))
def fL_interest (mm : Nat → Int64) (qq : Nat → Int32) (p1 : Int32) (p2 : Int32) : Option (Int64 × (Nat → Int64)) :=
  ckI p1 25 <|
  ckI 1 18 <|
  if (mm p1.toNatClampNeg) ≤ (qq (1 : Int32).toNatClampNeg).toInt64 then
    ckI p1 25 <|
    fL_interest_J21 mm qq p1 p2 (mm p1.toNatClampNeg)
  else
    ckI 1 18 <|
    fL_interest_J21 mm qq p1 p2 ((qq (1 : Int32).toNatClampNeg).toInt64)
def fL_pass_L22 (u0 : Int32) (u7 : Int32) : Nat → (Nat → Int32) → (Nat → Int64) → (Nat → Int32) → Int64 → Int32 → Option ((Nat → Int32) × (Nat → Int64) × (Nat → Int32) × Int64)
  | 0, _, _, _, _, _ => none
  | n + 1, ee, mm, qq, z5, z8 =>
    if 7 ≤ z8 then
      some (ee, mm, qq, z5)
    else
      ckI (10 + z8) 18 <|
      if 0 ≤ (qq (10 + z8).toNatClampNeg) then
        ckI 0 18 <|
        bd2 (fL_interest mm qq z8 (qq (0 : Int32).toNatClampNeg)) fun r_9 mm_10 =>
        if r_9 ≤ 0 then
          lt_ (z5 + r_9) fun x5_13 =>
          fL_pass_L22 u0 u7 n ee mm_10 qq x5_13 (z8 + 1)
        else
          bd3 (fL_enter ee mm_10 qq 5 z8 0 r_9.toInt32) fun ee_14 mm_15 qq_16 =>
          lt_ (z5 + r_9) fun x5_18 =>
          fL_pass_L22 u0 u7 n ee_14 mm_15 qq_16 x5_18 (z8 + 1)
      else
        fL_pass_L22 u0 u7 n ee mm qq z5 (z8 + 1)
def fL_pass_L91 (qq : Nat → Int32) (u0 : Int32) (u5 : Int64) (u7 : Int32) : Nat → (Nat → Int32) → Int32 → Option ((Nat → Int32))
  | 0, _, _ => none
  | n + 1, hh, z8 =>
    if 60 ≤ z8 then
      some hh
    else
      ckI 0 18 <|
      ckI (z8 + 2) 60 <|
      if (qq (0 : Int32).toNatClampNeg) ≤ (hh (z8 + 2).toNatClampNeg) then
        ckI z8 60 <|
        ckI z8 60 <|
        lt_ (upd hh z8.toNatClampNeg (hh z8.toNatClampNeg)) fun hh_29 =>
        fL_pass_L91 qq u0 u5 u7 n hh_29 (z8 + 3)
      else
        ckI z8 60 <|
        lt_ (upd hh z8.toNatClampNeg 0) fun hh_31 =>
        fL_pass_L91 qq u0 u5 u7 n hh_31 (z8 + 3)
def fL_pass_L6 (u0 : Int32) : Nat → (Nat → Int32) → (Nat → Int64) → (Nat → Int32) → (Nat → Int32) → Int64 → Int32 → Option ((Nat → Int32) × (Nat → Int64) × (Nat → Int32) × (Nat → Int32) × Int64)
  | 0, _, _, _, _, _, _ => none
  | n + 1, ee, mm, qq, hh, z5, z7 =>
    if u0 ≤ z7 then
      some (ee, mm, qq, hh, z5)
    else
      ckI 0 18 <|
      ckI 0 18 <|
      lt_ (upd qq (0 : Int32).toNatClampNeg ((qq (0 : Int32).toNatClampNeg) + 1)) fun qq_4 =>
      bd4 (fL_pass_L22 u0 z7 2147483648 ee mm qq_4 z5 1) fun ee_19 mm_20 qq_21 x5_22 =>
        bd1 (fL_pass_L91 qq_21 u0 x5_22 z7 2147483648 hh 0) fun hh_32 =>
          fL_pass_L6 u0 n ee_19 mm_20 qq_21 hh_32 x5_22 (z7 + 1)
def fL_pass (ee : Nat → Int32) (mm : Nat → Int64) (qq : Nat → Int32) (hh : Nat → Int32) (p1 : Int32) : Option (Int64 × (Nat → Int32) × (Nat → Int64) × (Nat → Int32) × (Nat → Int32)) :=
  bd5 (fL_pass_L6 p1 2147483648 ee mm qq hh 0 0) fun ee_33 mm_34 qq_35 hh_36 x5_37 =>
    ckI 21 25 <|
    ckI 21 25 <|
    lt_ (vp_updL mm_34 (21 : Int32).toNatClampNeg ((mm_34 (21 : Int32).toNatClampNeg) + x5_37)) fun mm_40 =>
    some (x5_37, ee_33, mm_40, qq_35, hh_36)
def fL_same_J115 (hh : Nat → Int32) (bb : Nat → Int32) (u7 : Int32) (u8 : Int64) (u10 : Int64) (u12 : Int32) (z13 : Int32) (z15 : Int32) (z16 : Int32) (s0 : Int32) (s1 : Int32) (rec : Int32 → Int32 → Int32 → Int32 → Option (Int32 × Int32 × Int32)) : Option (Int32 × Int32 × Int32) :=
  lt_ (s1 + s0) fun x14_16 =>
  ckI z16 60 <|
  if (bb z16.toNatClampNeg) = u12 then
    ckI (z16 + 1) 60 <|
    lt_ (z15 + (bb (z16 + 1).toNatClampNeg)) fun x15_21 =>
    rec z13 x14_16 x15_21 (z16 + 3)
  else
    lt_ (z15 + 0) fun x15_19 =>
    rec z13 x14_16 x15_19 (z16 + 3)
def fL_same_J95 (hh : Nat → Int32) (bb : Nat → Int32) (u7 : Int32) (u8 : Int64) (u10 : Int64) (u12 : Int32) (z14 : Int32) (z15 : Int32) (z16 : Int32) (s0 : Int32) (s1 : Int32) (rec : Int32 → Int32 → Int32 → Int32 → Option (Int32 × Int32 × Int32)) : Option (Int32 × Int32 × Int32) :=
  lt_ (s1 + s0) fun x13_13 =>
  ckI z16 60 <|
  if (bb z16.toNatClampNeg) = u12 then
    fL_same_J115 hh bb u7 u8 u10 u12 x13_13 z15 z16 1 z14 rec
  else
    fL_same_J115 hh bb u7 u8 u10 u12 x13_13 z15 z16 0 z14 rec
def fL_same_L71 (hh : Nat → Int32) (bb : Nat → Int32) (u7 : Int32) (u8 : Int64) (u10 : Int64) (u12 : Int32) : Nat → Int32 → Int32 → Int32 → Int32 → Option (Int32 × Int32 × Int32)
  | 0, _, _, _, _ => none
  | n + 1, z13, z14, z15, z16 =>
    if 60 ≤ z16 then
      some (z13, z14, z15)
    else
      ckI z16 60 <|
      if (hh z16.toNatClampNeg) = u12 then
        fL_same_J95 hh bb u7 u8 u10 u12 z14 z15 z16 1 z13 (fL_same_L71 hh bb u7 u8 u10 u12 n)
      else
        fL_same_J95 hh bb u7 u8 u10 u12 z14 z15 z16 0 z13 (fL_same_L71 hh bb u7 u8 u10 u12 n)
def fL_same_J243 (mm : Nat → Int64) (qq : Nat → Int32) (hh : Nat → Int32) (bb : Nat → Int32) (Asz : Int32) (Anu : Nat → Int32) (Aba : Nat → Int32) (Amo : Nat → Int32) (Aco : Nat → Int64) (Hsz : Int32) (Hce : Nat → Int32) (Bsz : Int32) (Bce : Nat → Int32) (Ksz : Int32) (Kcl : Nat → Int32) (Kke : Nat → Int32) (z7 : Int32) (z8 : Int64) (z10 : Int64) (z12 : Int32) (z13 : Int32) (z14 : Int32) (z15 : Int32) (s0 : Int64) (s1 : Int64) (rec : Int32 → (Nat → Int32) → (Nat → Int32) → Int32 → Int64 → Int64 → Int32 → Option ((Int32 × Int32 × (Nat → Int32) × (Nat → Int32)) ⊕ (Int32 × (Nat → Int32) × (Nat → Int32) × Int32 × Int64 × Int64))) : Option ((Int32 × Int32 × (Nat → Int32) × (Nat → Int32)) ⊕ (Int32 × (Nat → Int32) × (Nat → Int32) × Int32 × Int64 × Int64)) :=
  if s1 = s0 then
    bd1 (fX7_of Asz Anu Aba Amo Aco Hsz Hce Bsz Bce z12 4) fun r_46 =>
    if r_46 = z15 then
      bd1 (fX7_of Asz Anu Aba Amo Aco Hsz Hce Bsz Bce z12 5) fun r_49 =>
      ckI (10 + z12) 18 <|
      if r_49 = (qq (10 + z12).toNatClampNeg) then
        bd1 (fX7_of Asz Anu Aba Amo Aco Hsz Hce Bsz Bce z12 6) fun r_53 =>
        if r_53 = z13 then
          bd1 (fX7_of Asz Anu Aba Amo Aco Hsz Hce Bsz Bce z12 7) fun r_56 =>
          if r_56 = z14 then
            ckI z12 25 <|
            lt_ (z8 + (mm z12.toNatClampNeg)) fun x8_60 =>
            ckI 0 18 <|
            bd1 (fL_held hh z12 (qq (0 : Int32).toNatClampNeg)) fun r_62 =>
            lt_ (z10 + r_62.toInt64) fun x10_64 =>
            rec Ksz Kcl Kke z7 x8_60 x10_64 (z12 + 1)
          else
            some (.inl (0, Ksz, Kcl, Kke))
        else
          some (.inl (0, Ksz, Kcl, Kke))
      else
        some (.inl (0, Ksz, Kcl, Kke))
    else
      some (.inl (0, Ksz, Kcl, Kke))
  else
    some (.inl (0, Ksz, Kcl, Kke))
def fL_same_L12 (mm : Nat → Int64) (qq : Nat → Int32) (hh : Nat → Int32) (bb : Nat → Int32) (Asz : Int32) (Anu : Nat → Int32) (Aba : Nat → Int32) (Amo : Nat → Int32) (Aco : Nat → Int64) (Hsz : Int32) (Hce : Nat → Int32) (Bsz : Int32) (Bce : Nat → Int32) : Nat → Int32 → (Nat → Int32) → (Nat → Int32) → Int32 → Int64 → Int64 → Int32 → Option ((Int32 × Int32 × (Nat → Int32) × (Nat → Int32)) ⊕ (Int32 × (Nat → Int32) × (Nat → Int32) × Int32 × Int64 × Int64))
  | 0, _, _, _, _, _, _, _ => none
  | n + 1, Ksz, Kcl, Kke, z7, z8, z10, z12 =>
    if 7 ≤ z12 then
      some (.inr (Ksz, Kcl, Kke, z7, z8, z10))
    else
      ckI (10 + z12) 18 <|
      if 0 ≤ (qq (10 + z12).toNatClampNeg) then
        bd4 (fX7_ranked Ksz Kcl Kke Asz Anu Aba Amo Hsz Hce 0 z7) fun r_4 Ksz_5 Kcl_6 Kke_7 =>
        if r_4 = z12 then
          bd3 (fL_same_L71 hh bb (z7 + 1) z8 z10 z12 2147483648 0 0 0 0) fun x13_22 x14_23 x15_24 =>
            ckI (10 + z12) 25 <|
            lt_ ((mm (10 + z12).toNatClampNeg) / 3650000) fun x16_26 =>
            bd1 (fX7_of Asz Anu Aba Amo Aco Hsz Hce Bsz Bce z12 0) fun r_27 =>
            ckI z12 25 <|
            if r_27.toInt64 = (mm z12.toNatClampNeg) then
              bd1 (fX7_of Asz Anu Aba Amo Aco Hsz Hce Bsz Bce z12 1) fun r_31 =>
              ckI 0 18 <|
              bd1 (fL_held hh z12 (qq (0 : Int32).toNatClampNeg)) fun r_34 =>
              if r_31 = r_34 then
                bd1 (fX7_of Asz Anu Aba Amo Aco Hsz Hce Bsz Bce z12 2) fun r_37 =>
                bd1 (fL_free mm qq hh z12) fun r_39 =>
                if r_37 = r_39 then
                  bd1 (fX7_of Asz Anu Aba Amo Aco Hsz Hce Bsz Bce z12 3) fun r_42 =>
                  if x16_26 ≤ 1000000000 then
                    fL_same_J243 mm qq hh bb Asz Anu Aba Amo Aco Hsz Hce Bsz Bce Ksz_5 Kcl_6 Kke_7 (z7 + 1) z8 z10 z12 x13_22 x14_23 x15_24 x16_26 r_42.toInt64 (fL_same_L12 mm qq hh bb Asz Anu Aba Amo Aco Hsz Hce Bsz Bce n)
                  else
                    fL_same_J243 mm qq hh bb Asz Anu Aba Amo Aco Hsz Hce Bsz Bce Ksz_5 Kcl_6 Kke_7 (z7 + 1) z8 z10 z12 x13_22 x14_23 x15_24 1000000000 r_42.toInt64 (fL_same_L12 mm qq hh bb Asz Anu Aba Amo Aco Hsz Hce Bsz Bce n)
                else
                  some (.inl (0, Ksz_5, Kcl_6, Kke_7))
              else
                some (.inl (0, Ksz_5, Kcl_6, Kke_7))
            else
              some (.inl (0, Ksz_5, Kcl_6, Kke_7))
        else
          some (.inl (0, Ksz_5, Kcl_6, Kke_7))
      else
        bd1 (fX7_of Asz Anu Aba Amo Aco Hsz Hce Bsz Bce z12 0) fun r_65 =>
        if r_65 = (-1) then
          fL_same_L12 mm qq hh bb Asz Anu Aba Amo Aco Hsz Hce Bsz Bce n Ksz Kcl Kke z7 z8 z10 (z12 + 1)
        else
          some (.inl (0, Ksz, Kcl, Kke))
def fL_same_J490 (mm : Nat → Int64) (qq : Nat → Int32) (hh : Nat → Int32) (Asz : Int32) (Anu : Nat → Int32) (Aba : Nat → Int32) (Amo : Nat → Int32) (Hsz : Int32) (Hce : Nat → Int32) (u7 : Int32) (u8 : Int64) (u10 : Int64) (u12 : Int32) (Ksz : Int32) (Kcl : Nat → Int32) (Kke : Nat → Int32) (z13 : Int32) (z14 : Int32) (z15 : Int32) (z16 : Int64) (s0 : Int64) (rec : Int32 → (Nat → Int32) → (Nat → Int32) → Int32 → Option (((Int32 × Int32 × (Nat → Int32) × (Nat → Int32)) ⊕ (Int32 × (Nat → Int32) × (Nat → Int32))) ⊕ (Int32 × (Nat → Int32) × (Nat → Int32)))) : Option (((Int32 × Int32 × (Nat → Int32) × (Nat → Int32)) ⊕ (Int32 × (Nat → Int32) × (Nat → Int32))) ⊕ (Int32 × (Nat → Int32) × (Nat → Int32))) :=
  if s0 < z16 then
    some (.inl (.inl (0, Ksz, Kcl, Kke)))
  else
    if z16 = s0 then
      if z14 ≤ z15 then
        rec Ksz Kcl Kke (z13 + 1)
      else
        some (.inl (.inl (0, Ksz, Kcl, Kke)))
    else
      rec Ksz Kcl Kke (z13 + 1)
def fL_same_J447 (mm : Nat → Int64) (qq : Nat → Int32) (hh : Nat → Int32) (Asz : Int32) (Anu : Nat → Int32) (Aba : Nat → Int32) (Amo : Nat → Int32) (Hsz : Int32) (Hce : Nat → Int32) (u7 : Int32) (u8 : Int64) (u10 : Int64) (u12 : Int32) (Ksz : Int32) (Kcl : Nat → Int32) (Kke : Nat → Int32) (z13 : Int32) (z14 : Int32) (z15 : Int32) (s0 : Int64) (rec : Int32 → (Nat → Int32) → (Nat → Int32) → Int32 → Option (((Int32 × Int32 × (Nat → Int32) × (Nat → Int32)) ⊕ (Int32 × (Nat → Int32) × (Nat → Int32))) ⊕ (Int32 × (Nat → Int32) × (Nat → Int32)))) : Option (((Int32 × Int32 × (Nat → Int32) × (Nat → Int32)) ⊕ (Int32 × (Nat → Int32) × (Nat → Int32))) ⊕ (Int32 × (Nat → Int32) × (Nat → Int32))) :=
  if u12 = 1 then
    ckI z15 25 <|
    fL_same_J490 mm qq hh Asz Anu Aba Amo Hsz Hce u7 u8 u10 u12 Ksz Kcl Kke z13 z14 z15 s0 (-(mm z15.toNatClampNeg)) rec
  else
    if u12 = 2 then
      bd1 (fL_free mm qq hh z15) fun r_99 =>
      fL_same_J490 mm qq hh Asz Anu Aba Amo Hsz Hce u7 u8 u10 u12 Ksz Kcl Kke z13 z14 z15 s0 r_99.toInt64 rec
    else
      ckI (10 + z15) 18 <|
      fL_same_J490 mm qq hh Asz Anu Aba Amo Hsz Hce u7 u8 u10 u12 Ksz Kcl Kke z13 z14 z15 s0 ((qq (10 + z15).toNatClampNeg).toInt64) rec
def fL_same_L347 (mm : Nat → Int64) (qq : Nat → Int32) (hh : Nat → Int32) (Asz : Int32) (Anu : Nat → Int32) (Aba : Nat → Int32) (Amo : Nat → Int32) (Hsz : Int32) (Hce : Nat → Int32) (u7 : Int32) (u8 : Int64) (u10 : Int64) (u12 : Int32) : Nat → Int32 → (Nat → Int32) → (Nat → Int32) → Int32 → Option (((Int32 × Int32 × (Nat → Int32) × (Nat → Int32)) ⊕ (Int32 × (Nat → Int32) × (Nat → Int32))) ⊕ (Int32 × (Nat → Int32) × (Nat → Int32)))
  | 0, _, _, _, _ => none
  | n + 1, Ksz, Kcl, Kke, z13 =>
    if u7 ≤ (z13 + 1) then
      some (.inr (Ksz, Kcl, Kke))
    else
      bd4 (fX7_ranked Ksz Kcl Kke Asz Anu Aba Amo Hsz Hce u12 z13) fun r_76 Ksz_77 Kcl_78 Kke_79 =>
      bd4 (fX7_ranked Ksz_77 Kcl_78 Kke_79 Asz Anu Aba Amo Hsz Hce u12 (z13 + 1)) fun r_81 Ksz_82 Kcl_83 Kke_84 =>
      if r_76 < 1 then
        some (.inl (.inl (0, Ksz_82, Kcl_83, Kke_84)))
      else
        if 6 < r_76 then
          some (.inl (.inl (0, Ksz_82, Kcl_83, Kke_84)))
        else
          if r_81 < 1 then
            some (.inl (.inl (0, Ksz_82, Kcl_83, Kke_84)))
          else
            if r_81 ≤ 6 then
              if u12 = 1 then
                ckI r_76 25 <|
                fL_same_J447 mm qq hh Asz Anu Aba Amo Hsz Hce u7 u8 u10 u12 Ksz_82 Kcl_83 Kke_84 z13 r_76 r_81 (-(mm r_76.toNatClampNeg)) (fL_same_L347 mm qq hh Asz Anu Aba Amo Hsz Hce u7 u8 u10 u12 n)
              else
                if u12 = 2 then
                  bd1 (fL_free mm qq hh r_76) fun r_102 =>
                  fL_same_J447 mm qq hh Asz Anu Aba Amo Hsz Hce u7 u8 u10 u12 Ksz_82 Kcl_83 Kke_84 z13 r_76 r_81 r_102.toInt64 (fL_same_L347 mm qq hh Asz Anu Aba Amo Hsz Hce u7 u8 u10 u12 n)
                else
                  ckI (10 + r_76) 18 <|
                  fL_same_J447 mm qq hh Asz Anu Aba Amo Hsz Hce u7 u8 u10 u12 Ksz_82 Kcl_83 Kke_84 z13 r_76 r_81 ((qq (10 + r_76).toNatClampNeg).toInt64) (fL_same_L347 mm qq hh Asz Anu Aba Amo Hsz Hce u7 u8 u10 u12 n)
            else
              some (.inl (.inl (0, Ksz_82, Kcl_83, Kke_84)))
def fL_same_L338 (mm : Nat → Int64) (qq : Nat → Int32) (hh : Nat → Int32) (Asz : Int32) (Anu : Nat → Int32) (Aba : Nat → Int32) (Amo : Nat → Int32) (Hsz : Int32) (Hce : Nat → Int32) (u7 : Int32) (u8 : Int64) (u10 : Int64) : Nat → Int32 → (Nat → Int32) → (Nat → Int32) → Int32 → Option ((Int32 × Int32 × (Nat → Int32) × (Nat → Int32)) ⊕ (Int32 × (Nat → Int32) × (Nat → Int32)))
  | 0, _, _, _, _ => none
  | n + 1, Ksz, Kcl, Kke, z12 =>
    if 4 ≤ z12 then
      some (.inr (Ksz, Kcl, Kke))
    else
      bs3 (fL_same_L347 mm qq hh Asz Anu Aba Amo Hsz Hce u7 u8 u10 z12 2147483648 Ksz Kcl Kke 0) fun Ksz_105 Kcl_106 Kke_107 =>
        fL_same_L338 mm qq hh Asz Anu Aba Amo Hsz Hce u7 u8 u10 n Ksz_105 Kcl_106 Kke_107 (z12 + 1)
def fL_same_J675 (hh : Nat → Int32) (bb : Nat → Int32) (Ksz : Int32) (Kcl : Nat → Int32) (Kke : Nat → Int32) (Hsz : Int32) (Hce : Nat → Int32) (Bsz : Int32) (Bce : Nat → Int32) (u7 : Int32) (u8 : Int64) (u10 : Int64) (z12 : Int32) (z13 : Int32) (s0 : Int32) (s1 : Int32) (rec : Int32 → Option ((Int32 × Int32 × (Nat → Int32) × (Nat → Int32)) ⊕ (Unit))) : Option ((Int32 × Int32 × (Nat → Int32) × (Nat → Int32)) ⊕ (Unit)) :=
  if s1 = s0 then
    if z13 = 0 then
      rec (z12 + 1)
    else
      bd1 (fX7_billOf Bsz Bce (z12 + 1) 1) fun r_126 =>
      ckI ((3 * z12) + 1) 60 <|
      if r_126 = (bb ((3 * z12) + 1).toNatClampNeg) then
        bd1 (fX7_billOf Bsz Bce (z12 + 1) 2) fun r_130 =>
        ckI ((3 * z12) + 2) 60 <|
        if r_130 = (bb ((3 * z12) + 2).toNatClampNeg) then
          rec (z12 + 1)
        else
          some (.inl (0, Ksz, Kcl, Kke))
      else
        some (.inl (0, Ksz, Kcl, Kke))
  else
    some (.inl (0, Ksz, Kcl, Kke))
def fL_same_J648 (hh : Nat → Int32) (bb : Nat → Int32) (Ksz : Int32) (Kcl : Nat → Int32) (Kke : Nat → Int32) (Hsz : Int32) (Hce : Nat → Int32) (Bsz : Int32) (Bce : Nat → Int32) (u7 : Int32) (u8 : Int64) (u10 : Int64) (z12 : Int32) (s0 : Int32) (rec : Int32 → Option ((Int32 × Int32 × (Nat → Int32) × (Nat → Int32)) ⊕ (Unit))) : Option ((Int32 × Int32 × (Nat → Int32) × (Nat → Int32)) ⊕ (Unit)) :=
  bd1 (fX7_billOf Bsz Bce (z12 + 1) 0) fun r_121 =>
  if s0 = 0 then
    fL_same_J675 hh bb Ksz Kcl Kke Hsz Hce Bsz Bce u7 u8 u10 z12 s0 (-1) r_121 rec
  else
    ckI (3 * z12) 60 <|
    fL_same_J675 hh bb Ksz Kcl Kke Hsz Hce Bsz Bce u7 u8 u10 z12 s0 (bb (3 * z12).toNatClampNeg) r_121 rec
def fL_same_J633 (hh : Nat → Int32) (bb : Nat → Int32) (Ksz : Int32) (Kcl : Nat → Int32) (Kke : Nat → Int32) (Hsz : Int32) (Hce : Nat → Int32) (Bsz : Int32) (Bce : Nat → Int32) (u7 : Int32) (u8 : Int64) (u10 : Int64) (z12 : Int32) (rec : Int32 → Option ((Int32 × Int32 × (Nat → Int32) × (Nat → Int32)) ⊕ (Unit))) : Option ((Int32 × Int32 × (Nat → Int32) × (Nat → Int32)) ⊕ (Unit)) :=
  ckI (3 * z12) 60 <|
  if (bb (3 * z12).toNatClampNeg) ≤ 0 then
    fL_same_J648 hh bb Ksz Kcl Kke Hsz Hce Bsz Bce u7 u8 u10 z12 0 rec
  else
    fL_same_J648 hh bb Ksz Kcl Kke Hsz Hce Bsz Bce u7 u8 u10 z12 1 rec
def fL_same_J581 (hh : Nat → Int32) (bb : Nat → Int32) (Ksz : Int32) (Kcl : Nat → Int32) (Kke : Nat → Int32) (Hsz : Int32) (Hce : Nat → Int32) (Bsz : Int32) (Bce : Nat → Int32) (u7 : Int32) (u8 : Int64) (u10 : Int64) (z12 : Int32) (z13 : Int32) (s0 : Int32) (s1 : Int32) (rec : Int32 → Option ((Int32 × Int32 × (Nat → Int32) × (Nat → Int32)) ⊕ (Unit))) : Option ((Int32 × Int32 × (Nat → Int32) × (Nat → Int32)) ⊕ (Unit)) :=
  if s1 = s0 then
    if z13 = 0 then
      fL_same_J633 hh bb Ksz Kcl Kke Hsz Hce Bsz Bce u7 u8 u10 z12 rec
    else
      bd1 (fX7_holdOf Hsz Hce (z12 + 1) 1) fun r_135 =>
      ckI ((3 * z12) + 1) 60 <|
      if r_135 = (hh ((3 * z12) + 1).toNatClampNeg) then
        bd1 (fX7_holdOf Hsz Hce (z12 + 1) 2) fun r_139 =>
        ckI ((3 * z12) + 2) 60 <|
        if r_139 = (hh ((3 * z12) + 2).toNatClampNeg) then
          fL_same_J633 hh bb Ksz Kcl Kke Hsz Hce Bsz Bce u7 u8 u10 z12 rec
        else
          some (.inl (0, Ksz, Kcl, Kke))
      else
        some (.inl (0, Ksz, Kcl, Kke))
  else
    some (.inl (0, Ksz, Kcl, Kke))
def fL_same_J554 (hh : Nat → Int32) (bb : Nat → Int32) (Ksz : Int32) (Kcl : Nat → Int32) (Kke : Nat → Int32) (Hsz : Int32) (Hce : Nat → Int32) (Bsz : Int32) (Bce : Nat → Int32) (u7 : Int32) (u8 : Int64) (u10 : Int64) (z12 : Int32) (s0 : Int32) (rec : Int32 → Option ((Int32 × Int32 × (Nat → Int32) × (Nat → Int32)) ⊕ (Unit))) : Option ((Int32 × Int32 × (Nat → Int32) × (Nat → Int32)) ⊕ (Unit)) :=
  bd1 (fX7_holdOf Hsz Hce (z12 + 1) 0) fun r_114 =>
  if s0 = 0 then
    fL_same_J581 hh bb Ksz Kcl Kke Hsz Hce Bsz Bce u7 u8 u10 z12 s0 (-1) r_114 rec
  else
    ckI (3 * z12) 60 <|
    fL_same_J581 hh bb Ksz Kcl Kke Hsz Hce Bsz Bce u7 u8 u10 z12 s0 (hh (3 * z12).toNatClampNeg) r_114 rec
def fL_same_L532 (hh : Nat → Int32) (bb : Nat → Int32) (Ksz : Int32) (Kcl : Nat → Int32) (Kke : Nat → Int32) (Hsz : Int32) (Hce : Nat → Int32) (Bsz : Int32) (Bce : Nat → Int32) (u7 : Int32) (u8 : Int64) (u10 : Int64) : Nat → Int32 → Option ((Int32 × Int32 × (Nat → Int32) × (Nat → Int32)) ⊕ (Unit))
  | 0, _ => none
  | n + 1, z12 =>
    if 20 ≤ z12 then
      some (.inr ())
    else
      ckI (3 * z12) 60 <|
      if (hh (3 * z12).toNatClampNeg) ≤ 0 then
        fL_same_J554 hh bb Ksz Kcl Kke Hsz Hce Bsz Bce u7 u8 u10 z12 0 (fL_same_L532 hh bb Ksz Kcl Kke Hsz Hce Bsz Bce u7 u8 u10 n)
      else
        fL_same_J554 hh bb Ksz Kcl Kke Hsz Hce Bsz Bce u7 u8 u10 z12 1 (fL_same_L532 hh bb Ksz Kcl Kke Hsz Hce Bsz Bce u7 u8 u10 n)
def fL_same_L757 (ee : Nat → Int32) (Ksz : Int32) (Kcl : Nat → Int32) (Kke : Nat → Int32) (Tma : Int32) (Ttc : Nat → Int32) (u7 : Int32) (u8 : Int64) (u10 : Int64) (u12 : Int32) : Nat → Int32 → Option (((Int32 × Int32 × (Nat → Int32) × (Nat → Int32)) ⊕ (Unit)) ⊕ (Unit))
  | 0, _ => none
  | n + 1, z13 =>
    if 6 ≤ z13 then
      some (.inr ())
    else
      bd1 (fX7_entry Tma Ttc u12 z13) fun r_150 =>
      ckI ((6 * (u12 - u12 / 10 * 10)) + z13) 60 <|
      if r_150 = (ee ((6 * (u12 - u12 / 10 * 10)) + z13).toNatClampNeg) then
        fL_same_L757 ee Ksz Kcl Kke Tma Ttc u7 u8 u10 u12 n (z13 + 1)
      else
        some (.inl (.inl (0, Ksz, Kcl, Kke)))
def fL_same_L738 (ee : Nat → Int32) (qq : Nat → Int32) (Ksz : Int32) (Kcl : Nat → Int32) (Kke : Nat → Int32) (Tma : Int32) (Ttc : Nat → Int32) (u7 : Int32) (u8 : Int64) (u10 : Int64) : Nat → Int32 → Option ((Int32 × Int32 × (Nat → Int32) × (Nat → Int32)) ⊕ (Unit))
  | 0, _ => none
  | n + 1, z12 =>
    if z12 ≤ 0 then
      some (.inr ())
    else
      ckI 5 18 <|
      if z12 ≤ ((qq (5 : Int32).toNatClampNeg) - 9) then
        some (.inr ())
      else
        bs0 (fL_same_L757 ee Ksz Kcl Kke Tma Ttc u7 u8 u10 z12 2147483648 0)
          (fL_same_L738 ee qq Ksz Kcl Kke Tma Ttc u7 u8 u10 n (z12 + (-1)))
def fL_same (ee : Nat → Int32) (mm : Nat → Int64) (qq : Nat → Int32) (hh : Nat → Int32) (bb : Nat → Int32) (Ksz : Int32) (Kcl : Nat → Int32) (Kke : Nat → Int32) (Asz : Int32) (Anu : Nat → Int32) (Aba : Nat → Int32) (Amo : Nat → Int32) (Aco : Nat → Int64) (Hsz : Int32) (Hce : Nat → Int32) (Bsz : Int32) (Bce : Nat → Int32) (Tma : Int32) (Ttc : Nat → Int32) (day : Int32) (off : Int64) (cre : Int64) (rcp : Int64) (pay : Int64) (p2 : Int32) : Option (Int32 × Int32 × (Nat → Int32) × (Nat → Int32)) :=
  bs6 (fL_same_L12 mm qq hh bb Asz Anu Aba Amo Aco Hsz Hce Bsz Bce 2147483648 Ksz Kcl Kke 0 0 0 1) fun Ksz_68 Kcl_69 Kke_70 x7_71 x8_72 x10_73 =>
    bs3 (fL_same_L338 mm qq hh Asz Anu Aba Amo Hsz Hce x7_71 x8_72 x10_73 2147483648 Ksz_68 Kcl_69 Kke_70 1) fun Ksz_108 Kcl_109 Kke_110 =>
      bs0 (fL_same_L532 hh bb Ksz_108 Kcl_109 Kke_110 Hsz Hce Bsz Bce x7_71 x8_72 x10_73 2147483648 0)
        (ckI 5 18 <|
        lt_ (qq (5 : Int32).toNatClampNeg) fun x12_145 =>
        bs0 (fL_same_L738 ee qq Ksz_108 Kcl_109 Kke_110 Tma Ttc x7_71 x8_72 x10_73 2147483648 x12_145)
          (bd1 (fX7_day day) fun r_154 =>
          ckI 0 18 <|
          if r_154 = (qq (0 : Int32).toNatClampNeg) then
            bd1 (fX7_clients Asz) fun r_158 =>
            if r_158 = x7_71 then
              bd1 (fX7_entries Tma) fun r_161 =>
              ckI 5 18 <|
              if r_161 = (qq (5 : Int32).toNatClampNeg) then
                bd1 (fX7_sum Asz Aba Hsz Hce off cre rcp pay 0) fun r_165 =>
                if r_165 = x8_72 then
                  bd1 (fX7_sum Asz Aba Hsz Hce off cre rcp pay 1) fun r_168 =>
                  if r_168 = x10_73 then
                    bd1 (fX7_sum Asz Aba Hsz Hce off cre rcp pay 2) fun r_171 =>
                    ckI 20 25 <|
                    if r_171 = (mm (20 : Int32).toNatClampNeg) then
                      bd1 (fX7_sum Asz Aba Hsz Hce off cre rcp pay 3) fun r_175 =>
                      ckI 21 25 <|
                      if r_175 = (mm (21 : Int32).toNatClampNeg) then
                        bd1 (fX7_sum Asz Aba Hsz Hce off cre rcp pay 4) fun r_179 =>
                        ckI 22 25 <|
                        if r_179 = (mm (22 : Int32).toNatClampNeg) then
                          bd1 (fX7_sum Asz Aba Hsz Hce off cre rcp pay 5) fun r_183 =>
                          ckI 23 25 <|
                          if r_183 = (mm (23 : Int32).toNatClampNeg) then
                            bd4 (fX7_ranked Ksz_108 Kcl_109 Kke_110 Asz Anu Aba Amo Hsz Hce 1 x7_71) fun r_187 Ksz_188 Kcl_189 Kke_190 =>
                            if r_187 = (-1) then
                              ckI 20 25 <|
                              ckI 23 25 <|
                              ckI 21 25 <|
                              ckI 22 25 <|
                              if ((x8_72 + (mm (20 : Int32).toNatClampNeg)) + (mm (23 : Int32).toNatClampNeg)) = ((mm (21 : Int32).toNatClampNeg) + (mm (22 : Int32).toNatClampNeg)) then
                                ckI 5 18 <|
                                bd1 (fX7_entry Tma Ttc ((qq (5 : Int32).toNatClampNeg) + 1) 0) fun r_199 =>
                                if r_199 = (-1) then
                                  some (1, Ksz_188, Kcl_189, Kke_190)
                                else
                                  some (0, Ksz_188, Kcl_189, Kke_190)
                              else
                                some (0, Ksz_188, Kcl_189, Kke_190)
                            else
                              some (0, Ksz_188, Kcl_189, Kke_190)
                          else
                            some (0, Ksz_108, Kcl_109, Kke_110)
                        else
                          some (0, Ksz_108, Kcl_109, Kke_110)
                      else
                        some (0, Ksz_108, Kcl_109, Kke_110)
                    else
                      some (0, Ksz_108, Kcl_109, Kke_110)
                  else
                    some (0, Ksz_108, Kcl_109, Kke_110)
                else
                  some (0, Ksz_108, Kcl_109, Kke_110)
              else
                some (0, Ksz_108, Kcl_109, Kke_110)
            else
              some (0, Ksz_108, Kcl_109, Kke_110)
          else
            some (0, Ksz_108, Kcl_109, Kke_110)))
def fL_clients_L4 (qq : Nat → Int32) : Nat → Int32 → Int32 → Option (Int32)
  | 0, _, _ => none
  | n + 1, z1, z2 =>
    if 7 ≤ z2 then
      some z1
    else
      ckI (10 + z2) 18 <|
      if 0 ≤ (qq (10 + z2).toNatClampNeg) then
        lt_ (z1 + 1) fun x1_4 =>
        fL_clients_L4 qq n x1_4 (z2 + 1)
      else
        lt_ (z1 + 0) fun x1_5 =>
        fL_clients_L4 qq n x1_5 (z2 + 1)
def fL_clients (qq : Nat → Int32) : Option (Int32) :=
  bd1 (fL_clients_L4 qq 2147483648 0 1) fun x1_6 =>
    some x1_6
def fL_law_L67  : Nat → (Nat → Int32) → Int32 → Option ((Nat → Int32))
  | 0, _, _ => none
  | n + 1, qq, z7 =>
    if 7 ≤ z7 then
      some qq
    else
      ckI (10 + z7) 18 <|
      lt_ (upd qq (10 + z7).toNatClampNeg (-1)) fun qq_13 =>
      fL_law_L67  n qq_13 (z7 + 1)
def fL_law_L2173 (bb : Nat → Int32) (u7 : Int32) (u8 : Int32) (u10 : Int32) (u12 : Int32) (u14 : Int32) : Nat → Int32 → Int32 → Option (Int32)
  | 0, _, _ => none
  | n + 1, z16, z17 =>
    if 60 ≤ z17 then
      some z16
    else
      if z16 = 0 then
        ckI z17 60 <|
        if (bb z17.toNatClampNeg) = u12 then
          fL_law_L2173 bb u7 u8 u10 u12 u14 n 1 (z17 + 3)
        else
          fL_law_L2173 bb u7 u8 u10 u12 u14 n 0 (z17 + 3)
      else
        fL_law_L2173 bb u7 u8 u10 u12 u14 n 1 (z17 + 3)
def fL_law_J2283 (scL : Nat) (scx : Nat → Int32) (ee : Nat → Int32) (mm : Nat → Int64) (qq : Nat → Int32) (hh : Nat → Int32) (bb : Nat → Int32) (Ksz : Int32) (Kcl : Nat → Int32) (Kke : Nat → Int32) (Asz : Int32) (Anu : Nat → Int32) (Aba : Nat → Int32) (Amo : Nat → Int32) (Aco : Nat → Int64) (Hsz : Int32) (Hla : Int32) (Hce : Nat → Int32) (Bsz : Int32) (Bla : Int32) (Bce : Nat → Int32) (Tma : Int32) (Tlc : Int32) (Ttc : Nat → Int32) (day : Int32) (lim : Int32) (low : Int32) (hig : Int32) (thr : Int32) (off : Int64) (cre : Int64) (rcp : Int64) (pay : Int64) (sv : Int32) (nx : Int32) (SL : Nat → XS) (z7 : Int32) (z8 : Int32) (z10 : Int32) (rec : (Nat → Int32) → (Nat → Int64) → (Nat → Int32) → (Nat → Int32) → (Nat → Int32) → Int32 → (Nat → Int32) → (Nat → Int32) → Int32 → (Nat → Int32) → (Nat → Int32) → (Nat → Int32) → (Nat → Int64) → Int32 → Int32 → (Nat → Int32) → Int32 → Int32 → (Nat → Int32) → Int32 → Int32 → (Nat → Int32) → Int32 → Int32 → Int32 → Int32 → Int32 → Int64 → Int64 → Int64 → Int64 → Int32 → Int32 → (Nat → XS) → Int32 → Int32 → Option ((Int32) ⊕ (Unit))) : Option ((Int32) ⊕ (Unit)) :=
  bd4 (fL_same ee mm qq hh bb Ksz Kcl Kke Asz Anu Aba Amo Aco Hsz Hce Bsz Bce Tma Ttc day off cre rcp pay (z10 >>> (3 &&& 31))) fun r_69 Ksz_70 Kcl_71 Kke_72 =>
  if r_69 = 0 then
    some (.inl 0)
  else
    rec ee mm qq hh bb Ksz_70 Kcl_71 Kke_72 Asz Anu Aba Amo Aco Hsz Hla Hce Bsz Bla Bce Tma Tlc Ttc day lim low hig thr off cre rcp pay sv nx SL z7 (z8 + 1)
def fL_law_J2265 (scL : Nat) (scx : Nat → Int32) (ee : Nat → Int32) (mm : Nat → Int64) (qq : Nat → Int32) (hh : Nat → Int32) (bb : Nat → Int32) (Ksz : Int32) (Kcl : Nat → Int32) (Kke : Nat → Int32) (Asz : Int32) (Anu : Nat → Int32) (Aba : Nat → Int32) (Amo : Nat → Int32) (Aco : Nat → Int64) (Hsz : Int32) (Hla : Int32) (Hce : Nat → Int32) (Bsz : Int32) (Bla : Int32) (Bce : Nat → Int32) (Tma : Int32) (Tlc : Int32) (Ttc : Nat → Int32) (day : Int32) (lim : Int32) (low : Int32) (hig : Int32) (thr : Int32) (off : Int64) (cre : Int64) (rcp : Int64) (pay : Int64) (sv : Int32) (nx : Int32) (SL : Nat → XS) (z7 : Int32) (z8 : Int32) (z10 : Int32) (z12 : Int32) (z17 : Int32) (s0 : Int32) (s1 : Int32) (rec : (Nat → Int32) → (Nat → Int64) → (Nat → Int32) → (Nat → Int32) → (Nat → Int32) → Int32 → (Nat → Int32) → (Nat → Int32) → Int32 → (Nat → Int32) → (Nat → Int32) → (Nat → Int32) → (Nat → Int64) → Int32 → Int32 → (Nat → Int32) → Int32 → Int32 → (Nat → Int32) → Int32 → Int32 → (Nat → Int32) → Int32 → Int32 → Int32 → Int32 → Int32 → Int64 → Int64 → Int64 → Int64 → Int32 → Int32 → (Nat → XS) → Int32 → Int32 → Option ((Int32) ⊕ (Unit))) : Option ((Int32) ⊕ (Unit)) :=
  if s1 = s0 then
    if z17 = 0 then
      fL_law_J2283 scL scx ee mm qq hh bb Ksz Kcl Kke Asz Anu Aba Amo Aco Hsz Hla Hce Bsz Bla Bce Tma Tlc Ttc day lim low hig thr off cre rcp pay sv nx SL z7 z8 z10 rec
    else
      ckI (10 + z12) 18 <|
      lt_ (upd qq (10 + z12).toNatClampNeg (-1)) fun qq_76 =>
      fL_law_J2283 scL scx ee mm qq_76 hh bb Ksz Kcl Kke Asz Anu Aba Amo Aco Hsz Hla Hce Bsz Bla Bce Tma Tlc Ttc day lim low hig thr off cre rcp pay sv nx SL z7 z8 z10 rec
  else
    some (.inl 0)
def fL_law_J2232 (scL : Nat) (scx : Nat → Int32) (ee : Nat → Int32) (mm : Nat → Int64) (qq : Nat → Int32) (hh : Nat → Int32) (bb : Nat → Int32) (Ksz : Int32) (Kcl : Nat → Int32) (Kke : Nat → Int32) (Asz : Int32) (Anu : Nat → Int32) (Aba : Nat → Int32) (Amo : Nat → Int32) (Aco : Nat → Int64) (Hsz : Int32) (Hla : Int32) (Hce : Nat → Int32) (Bsz : Int32) (Bla : Int32) (Bce : Nat → Int32) (Tma : Int32) (Tlc : Int32) (Ttc : Nat → Int32) (day : Int32) (lim : Int32) (low : Int32) (hig : Int32) (thr : Int32) (off : Int64) (cre : Int64) (rcp : Int64) (pay : Int64) (sv : Int32) (nx : Int32) (SL : Nat → XS) (z7 : Int32) (z8 : Int32) (z10 : Int32) (z12 : Int32) (z14 : Int32) (s0 : Int32) (rec : (Nat → Int32) → (Nat → Int64) → (Nat → Int32) → (Nat → Int32) → (Nat → Int32) → Int32 → (Nat → Int32) → (Nat → Int32) → Int32 → (Nat → Int32) → (Nat → Int32) → (Nat → Int32) → (Nat → Int64) → Int32 → Int32 → (Nat → Int32) → Int32 → Int32 → (Nat → Int32) → Int32 → Int32 → (Nat → Int32) → Int32 → Int32 → Int32 → Int32 → Int32 → Int64 → Int64 → Int64 → Int64 → Int32 → Int32 → (Nat → XS) → Int32 → Int32 → Option ((Int32) ⊕ (Unit))) : Option ((Int32) ⊕ (Unit)) :=
  bd9 (fX7_close Asz Anu Aba Amo Aco Hsz Hla Hce Bsz Bla Bce Tma Tlc Ttc day lim low hig thr off cre rcp pay sv nx SL z12) fun r_55 Asz_56 Anu_57 Aba_58 Amo_59 Aco_60 sv_61 nx_62 SL_63 =>
  if z14 = 0 then
    fL_law_J2265 scL scx ee mm qq hh bb Ksz Kcl Kke Asz_56 Anu_57 Aba_58 Amo_59 Aco_60 Hsz Hla Hce Bsz Bla Bce Tma Tlc Ttc day lim low hig thr off cre rcp pay sv_61 nx_62 SL_63 z7 z8 z10 z12 s0 (-1) r_55 rec
  else
    if s0 = 0 then
      fL_law_J2265 scL scx ee mm qq hh bb Ksz Kcl Kke Asz_56 Anu_57 Aba_58 Amo_59 Aco_60 Hsz Hla Hce Bsz Bla Bce Tma Tlc Ttc day lim low hig thr off cre rcp pay sv_61 nx_62 SL_63 z7 z8 z10 z12 s0 (-3) r_55 rec
    else
      bd1 (fL_clients qq) fun r_77 =>
      fL_law_J2265 scL scx ee mm qq hh bb Ksz Kcl Kke Asz_56 Anu_57 Aba_58 Amo_59 Aco_60 Hsz Hla Hce Bsz Bla Bce Tma Tlc Ttc day lim low hig thr off cre rcp pay sv_61 nx_62 SL_63 z7 z8 z10 z12 s0 (r_77 - 1) r_55 rec
def fL_law_J2105 (scL : Nat) (scx : Nat → Int32) (ee : Nat → Int32) (mm : Nat → Int64) (qq : Nat → Int32) (hh : Nat → Int32) (bb : Nat → Int32) (Ksz : Int32) (Kcl : Nat → Int32) (Kke : Nat → Int32) (Asz : Int32) (Anu : Nat → Int32) (Aba : Nat → Int32) (Amo : Nat → Int32) (Aco : Nat → Int64) (Hsz : Int32) (Hla : Int32) (Hce : Nat → Int32) (Bsz : Int32) (Bla : Int32) (Bce : Nat → Int32) (Tma : Int32) (Tlc : Int32) (Ttc : Nat → Int32) (day : Int32) (lim : Int32) (low : Int32) (hig : Int32) (thr : Int32) (off : Int64) (cre : Int64) (rcp : Int64) (pay : Int64) (sv : Int32) (nx : Int32) (SL : Nat → XS) (z8 : Int32) (z10 : Int32) (z16 : Int32) (z21 : Int32) (s0 : Int64) (s1 : Int64) (s2 : Int32) (rec : (Nat → Int32) → (Nat → Int64) → (Nat → Int32) → (Nat → Int32) → (Nat → Int32) → Int32 → (Nat → Int32) → (Nat → Int32) → Int32 → (Nat → Int32) → (Nat → Int32) → (Nat → Int32) → (Nat → Int64) → Int32 → Int32 → (Nat → Int32) → Int32 → Int32 → (Nat → Int32) → Int32 → Int32 → (Nat → Int32) → Int32 → Int32 → Int32 → Int32 → Int32 → Int64 → Int64 → Int64 → Int64 → Int32 → Int32 → (Nat → XS) → Int32 → Int32 → Option ((Int32) ⊕ (Unit))) : Option ((Int32) ⊕ (Unit)) :=
  ckI s2 25 <|
  lt_ (vp_updL mm s2.toNatClampNeg (s1 - s0)) fun mm_129 =>
  ckI 5 18 <|
  bd1 (fX7_entry Tma Ttc (qq (5 : Int32).toNatClampNeg) 6) fun r_131 =>
  if r_131 = 1 then
    ckI 5 18 <|
    bd11 (fX7_reverse Asz Anu Aba Amo Aco Hsz Hla Hce Bsz Bla Bce Tma Tlc Ttc day lim low hig thr off cre rcp pay sv nx SL (qq (5 : Int32).toNatClampNeg)) fun r_135 Aba_136 Amo_137 Tma_138 Tlc_139 Ttc_140 rcp_141 pay_142 sv_143 nx_144 SL_145 =>
    if r_135 = (-3) then
      ckI (z16 + 2) 60 <|
      ckI (z16 + 3) 60 <|
      bd3 (fL_enter ee mm_129 qq 6 (ee (z16 + 2).toNatClampNeg) (ee (z16 + 3).toNatClampNeg) z21) fun ee_150 mm_151 qq_152 =>
      ckI 5 18 <|
      lt_ (qq_152 (5 : Int32).toNatClampNeg) fun x7_155 =>
      fL_law_J2283 scL scx ee_150 mm_151 qq_152 hh bb Ksz Kcl Kke Asz Anu Aba_136 Amo_137 Aco Hsz Hla Hce Bsz Bla Bce Tma_138 Tlc_139 Ttc_140 day lim low hig thr off cre rcp_141 pay_142 sv_143 nx_144 SL_145 x7_155 z8 z10 rec
    else
      some (.inl 0)
  else
    some (.inl 0)
def fL_law_J2080 (scL : Nat) (scx : Nat → Int32) (ee : Nat → Int32) (mm : Nat → Int64) (qq : Nat → Int32) (hh : Nat → Int32) (bb : Nat → Int32) (Ksz : Int32) (Kcl : Nat → Int32) (Kke : Nat → Int32) (Asz : Int32) (Anu : Nat → Int32) (Aba : Nat → Int32) (Amo : Nat → Int32) (Aco : Nat → Int64) (Hsz : Int32) (Hla : Int32) (Hce : Nat → Int32) (Bsz : Int32) (Bla : Int32) (Bce : Nat → Int32) (Tma : Int32) (Tlc : Int32) (Ttc : Nat → Int32) (day : Int32) (lim : Int32) (low : Int32) (hig : Int32) (thr : Int32) (off : Int64) (cre : Int64) (rcp : Int64) (pay : Int64) (sv : Int32) (nx : Int32) (SL : Nat → XS) (z8 : Int32) (z10 : Int32) (z16 : Int32) (z21 : Int32) (s0 : Int64) (s1 : Int64) (s2 : Int32) (rec : (Nat → Int32) → (Nat → Int64) → (Nat → Int32) → (Nat → Int32) → (Nat → Int32) → Int32 → (Nat → Int32) → (Nat → Int32) → Int32 → (Nat → Int32) → (Nat → Int32) → (Nat → Int32) → (Nat → Int64) → Int32 → Int32 → (Nat → Int32) → Int32 → Int32 → (Nat → Int32) → Int32 → Int32 → (Nat → Int32) → Int32 → Int32 → Int32 → Int32 → Int32 → Int64 → Int64 → Int64 → Int64 → Int32 → Int32 → (Nat → XS) → Int32 → Int32 → Option ((Int32) ⊕ (Unit))) : Option ((Int32) ⊕ (Unit)) :=
  ckI s2 25 <|
  lt_ (vp_updL mm s2.toNatClampNeg (s1 - s0)) fun mm_124 =>
  ckI 23 25 <|
  ckI (z16 + 1) 60 <|
  if (ee (z16 + 1).toNatClampNeg) = 2 then
    fL_law_J2105 scL scx ee mm_124 qq hh bb Ksz Kcl Kke Asz Anu Aba Amo Aco Hsz Hla Hce Bsz Bla Bce Tma Tlc Ttc day lim low hig thr off cre rcp pay sv nx SL z8 z10 z16 z21 z21.toInt64 (mm_124 (23 : Int32).toNatClampNeg) 23 rec
  else
    fL_law_J2105 scL scx ee mm_124 qq hh bb Ksz Kcl Kke Asz Anu Aba Amo Aco Hsz Hla Hce Bsz Bla Bce Tma Tlc Ttc day lim low hig thr off cre rcp pay sv nx SL z8 z10 z16 z21 0 (mm_124 (23 : Int32).toNatClampNeg) 23 rec
def fL_law_J2057 (scL : Nat) (scx : Nat → Int32) (ee : Nat → Int32) (mm : Nat → Int64) (qq : Nat → Int32) (hh : Nat → Int32) (bb : Nat → Int32) (Ksz : Int32) (Kcl : Nat → Int32) (Kke : Nat → Int32) (Asz : Int32) (Anu : Nat → Int32) (Aba : Nat → Int32) (Amo : Nat → Int32) (Aco : Nat → Int64) (Hsz : Int32) (Hla : Int32) (Hce : Nat → Int32) (Bsz : Int32) (Bla : Int32) (Bce : Nat → Int32) (Tma : Int32) (Tlc : Int32) (Ttc : Nat → Int32) (day : Int32) (lim : Int32) (low : Int32) (hig : Int32) (thr : Int32) (off : Int64) (cre : Int64) (rcp : Int64) (pay : Int64) (sv : Int32) (nx : Int32) (SL : Nat → XS) (z8 : Int32) (z10 : Int32) (z16 : Int32) (z21 : Int32) (rec : (Nat → Int32) → (Nat → Int64) → (Nat → Int32) → (Nat → Int32) → (Nat → Int32) → Int32 → (Nat → Int32) → (Nat → Int32) → Int32 → (Nat → Int32) → (Nat → Int32) → (Nat → Int32) → (Nat → Int64) → Int32 → Int32 → (Nat → Int32) → Int32 → Int32 → (Nat → Int32) → Int32 → Int32 → (Nat → Int32) → Int32 → Int32 → Int32 → Int32 → Int32 → Int64 → Int64 → Int64 → Int64 → Int32 → Int32 → (Nat → XS) → Int32 → Int32 → Option ((Int32) ⊕ (Unit))) : Option ((Int32) ⊕ (Unit)) :=
  ckI 22 25 <|
  ckI (z16 + 1) 60 <|
  if (ee (z16 + 1).toNatClampNeg) = 1 then
    fL_law_J2080 scL scx ee mm qq hh bb Ksz Kcl Kke Asz Anu Aba Amo Aco Hsz Hla Hce Bsz Bla Bce Tma Tlc Ttc day lim low hig thr off cre rcp pay sv nx SL z8 z10 z16 z21 z21.toInt64 (mm (22 : Int32).toNatClampNeg) 22 rec
  else
    fL_law_J2080 scL scx ee mm qq hh bb Ksz Kcl Kke Asz Anu Aba Amo Aco Hsz Hla Hce Bsz Bla Bce Tma Tlc Ttc day lim low hig thr off cre rcp pay sv nx SL z8 z10 z16 z21 0 (mm (22 : Int32).toNatClampNeg) 22 rec
def fL_law_J2042 (scL : Nat) (scx : Nat → Int32) (ee : Nat → Int32) (mm : Nat → Int64) (qq : Nat → Int32) (hh : Nat → Int32) (bb : Nat → Int32) (Ksz : Int32) (Kcl : Nat → Int32) (Kke : Nat → Int32) (Asz : Int32) (Anu : Nat → Int32) (Aba : Nat → Int32) (Amo : Nat → Int32) (Aco : Nat → Int64) (Hsz : Int32) (Hla : Int32) (Hce : Nat → Int32) (Bsz : Int32) (Bla : Int32) (Bce : Nat → Int32) (Tma : Int32) (Tlc : Int32) (Ttc : Nat → Int32) (day : Int32) (lim : Int32) (low : Int32) (hig : Int32) (thr : Int32) (off : Int64) (cre : Int64) (rcp : Int64) (pay : Int64) (sv : Int32) (nx : Int32) (SL : Nat → XS) (z8 : Int32) (z10 : Int32) (z16 : Int32) (z18 : Int32) (z21 : Int32) (rec : (Nat → Int32) → (Nat → Int64) → (Nat → Int32) → (Nat → Int32) → (Nat → Int32) → Int32 → (Nat → Int32) → (Nat → Int32) → Int32 → (Nat → Int32) → (Nat → Int32) → (Nat → Int32) → (Nat → Int64) → Int32 → Int32 → (Nat → Int32) → Int32 → Int32 → (Nat → Int32) → Int32 → Int32 → (Nat → Int32) → Int32 → Int32 → Int32 → Int32 → Int32 → Int64 → Int64 → Int64 → Int64 → Int32 → Int32 → (Nat → XS) → Int32 → Int32 → Option ((Int32) ⊕ (Unit))) : Option ((Int32) ⊕ (Unit)) :=
  if z18 ≤ 0 then
    fL_law_J2057 scL scx ee mm qq hh bb Ksz Kcl Kke Asz Anu Aba Amo Aco Hsz Hla Hce Bsz Bla Bce Tma Tlc Ttc day lim low hig thr off cre rcp pay sv nx SL z8 z10 z16 z21 rec
  else
    ckI z18 25 <|
    ckI z18 25 <|
    lt_ (vp_updL mm z18.toNatClampNeg ((mm z18.toNatClampNeg) + z21.toInt64)) fun mm_158 =>
    fL_law_J2057 scL scx ee mm_158 qq hh bb Ksz Kcl Kke Asz Anu Aba Amo Aco Hsz Hla Hce Bsz Bla Bce Tma Tlc Ttc day lim low hig thr off cre rcp pay sv nx SL z8 z10 z16 z21 rec
def fL_law_J2000 (scL : Nat) (scx : Nat → Int32) (ee : Nat → Int32) (mm : Nat → Int64) (qq : Nat → Int32) (hh : Nat → Int32) (bb : Nat → Int32) (Ksz : Int32) (Kcl : Nat → Int32) (Kke : Nat → Int32) (Asz : Int32) (Anu : Nat → Int32) (Aba : Nat → Int32) (Amo : Nat → Int32) (Aco : Nat → Int64) (Hsz : Int32) (Hla : Int32) (Hce : Nat → Int32) (Bsz : Int32) (Bla : Int32) (Bce : Nat → Int32) (Tma : Int32) (Tlc : Int32) (Ttc : Nat → Int32) (day : Int32) (lim : Int32) (low : Int32) (hig : Int32) (thr : Int32) (off : Int64) (cre : Int64) (rcp : Int64) (pay : Int64) (sv : Int32) (nx : Int32) (SL : Nat → XS) (z7 : Int32) (z8 : Int32) (z10 : Int32) (z16 : Int32) (z17 : Int32) (z18 : Int32) (z19 : Int32) (z20 : Int32) (s0 : Int32) (s1 : Int32) (rec : (Nat → Int32) → (Nat → Int64) → (Nat → Int32) → (Nat → Int32) → (Nat → Int32) → Int32 → (Nat → Int32) → (Nat → Int32) → Int32 → (Nat → Int32) → (Nat → Int32) → (Nat → Int32) → (Nat → Int64) → Int32 → Int32 → (Nat → Int32) → Int32 → Int32 → (Nat → Int32) → Int32 → Int32 → (Nat → Int32) → Int32 → Int32 → Int32 → Int32 → Int32 → Int64 → Int64 → Int64 → Int64 → Int32 → Int32 → (Nat → XS) → Int32 → Int32 → Option ((Int32) ⊕ (Unit))) : Option ((Int32) ⊕ (Unit)) :=
  if s1 = s0 then
    if z19 = 0 then
      rec ee mm qq hh bb Ksz Kcl Kke Asz Anu Aba Amo Aco Hsz Hla Hce Bsz Bla Bce Tma Tlc Ttc day lim low hig thr off cre rcp pay sv nx SL z7 (z8 + 1)
    else
      if z20 = 0 then
        rec ee mm qq hh bb Ksz Kcl Kke Asz Anu Aba Amo Aco Hsz Hla Hce Bsz Bla Bce Tma Tlc Ttc day lim low hig thr off cre rcp pay sv nx SL z7 (z8 + 1)
      else
        ckI (z16 + 4) 60 <|
        lt_ (ee (z16 + 4).toNatClampNeg) fun x21_117 =>
        if z17 ≤ 0 then
          fL_law_J2042 scL scx ee mm qq hh bb Ksz Kcl Kke Asz Anu Aba Amo Aco Hsz Hla Hce Bsz Bla Bce Tma Tlc Ttc day lim low hig thr off cre rcp pay sv nx SL z8 z10 z16 z18 x21_117 rec
        else
          ckI z17 25 <|
          ckI z17 25 <|
          lt_ (vp_updL mm z17.toNatClampNeg ((mm z17.toNatClampNeg) - x21_117.toInt64)) fun mm_161 =>
          fL_law_J2042 scL scx ee mm_161 qq hh bb Ksz Kcl Kke Asz Anu Aba Amo Aco Hsz Hla Hce Bsz Bla Bce Tma Tlc Ttc day lim low hig thr off cre rcp pay sv nx SL z8 z10 z16 z18 x21_117 rec
  else
    some (.inl 0)
def fL_law_J1966 (scL : Nat) (scx : Nat → Int32) (ee : Nat → Int32) (mm : Nat → Int64) (qq : Nat → Int32) (hh : Nat → Int32) (bb : Nat → Int32) (Ksz : Int32) (Kcl : Nat → Int32) (Kke : Nat → Int32) (Asz : Int32) (Anu : Nat → Int32) (Aba : Nat → Int32) (Amo : Nat → Int32) (Aco : Nat → Int64) (Hsz : Int32) (Hla : Int32) (Hce : Nat → Int32) (Bsz : Int32) (Bla : Int32) (Bce : Nat → Int32) (Tma : Int32) (Tlc : Int32) (Ttc : Nat → Int32) (day : Int32) (lim : Int32) (low : Int32) (hig : Int32) (thr : Int32) (off : Int64) (cre : Int64) (rcp : Int64) (pay : Int64) (sv : Int32) (nx : Int32) (SL : Nat → XS) (z7 : Int32) (z8 : Int32) (z10 : Int32) (z16 : Int32) (z17 : Int32) (z18 : Int32) (z19 : Int32) (s0 : Int32) (rec : (Nat → Int32) → (Nat → Int64) → (Nat → Int32) → (Nat → Int32) → (Nat → Int32) → Int32 → (Nat → Int32) → (Nat → Int32) → Int32 → (Nat → Int32) → (Nat → Int32) → (Nat → Int32) → (Nat → Int64) → Int32 → Int32 → (Nat → Int32) → Int32 → Int32 → (Nat → Int32) → Int32 → Int32 → (Nat → Int32) → Int32 → Int32 → Int32 → Int32 → Int32 → Int64 → Int64 → Int64 → Int64 → Int32 → Int32 → (Nat → XS) → Int32 → Int32 → Option ((Int32) ⊕ (Unit))) : Option ((Int32) ⊕ (Unit)) :=
  ckI 5 18 <|
  bd11 (fX7_reverse Asz Anu Aba Amo Aco Hsz Hla Hce Bsz Bla Bce Tma Tlc Ttc day lim low hig thr off cre rcp pay sv nx SL (qq (5 : Int32).toNatClampNeg)) fun r_99 Aba_100 Amo_101 Tma_102 Tlc_103 Ttc_104 rcp_105 pay_106 sv_107 nx_108 SL_109 =>
  if z19 = 0 then
    fL_law_J2000 scL scx ee mm qq hh bb Ksz Kcl Kke Asz Anu Aba_100 Amo_101 Aco Hsz Hla Hce Bsz Bla Bce Tma_102 Tlc_103 Ttc_104 day lim low hig thr off cre rcp_105 pay_106 sv_107 nx_108 SL_109 z7 z8 z10 z16 z17 z18 z19 s0 (-3) r_99 rec
  else
    if s0 = 0 then
      fL_law_J2000 scL scx ee mm qq hh bb Ksz Kcl Kke Asz Anu Aba_100 Amo_101 Aco Hsz Hla Hce Bsz Bla Bce Tma_102 Tlc_103 Ttc_104 day lim low hig thr off cre rcp_105 pay_106 sv_107 nx_108 SL_109 z7 z8 z10 z16 z17 z18 z19 s0 (-4) r_99 rec
    else
      ckI 5 18 <|
      fL_law_J2000 scL scx ee mm qq hh bb Ksz Kcl Kke Asz Anu Aba_100 Amo_101 Aco Hsz Hla Hce Bsz Bla Bce Tma_102 Tlc_103 Ttc_104 day lim low hig thr off cre rcp_105 pay_106 sv_107 nx_108 SL_109 z7 z8 z10 z16 z17 z18 z19 s0 ((qq (5 : Int32).toNatClampNeg) + 1) r_99 rec
def fL_law_J1934 (scL : Nat) (scx : Nat → Int32) (ee : Nat → Int32) (mm : Nat → Int64) (qq : Nat → Int32) (hh : Nat → Int32) (bb : Nat → Int32) (Ksz : Int32) (Kcl : Nat → Int32) (Kke : Nat → Int32) (Asz : Int32) (Anu : Nat → Int32) (Aba : Nat → Int32) (Amo : Nat → Int32) (Aco : Nat → Int64) (Hsz : Int32) (Hla : Int32) (Hce : Nat → Int32) (Bsz : Int32) (Bla : Int32) (Bce : Nat → Int32) (Tma : Int32) (Tlc : Int32) (Ttc : Nat → Int32) (day : Int32) (lim : Int32) (low : Int32) (hig : Int32) (thr : Int32) (off : Int64) (cre : Int64) (rcp : Int64) (pay : Int64) (sv : Int32) (nx : Int32) (SL : Nat → XS) (z7 : Int32) (z8 : Int32) (z10 : Int32) (z16 : Int32) (z17 : Int32) (z18 : Int32) (s0 : Int32) (rec : (Nat → Int32) → (Nat → Int64) → (Nat → Int32) → (Nat → Int32) → (Nat → Int32) → Int32 → (Nat → Int32) → (Nat → Int32) → Int32 → (Nat → Int32) → (Nat → Int32) → (Nat → Int32) → (Nat → Int64) → Int32 → Int32 → (Nat → Int32) → Int32 → Int32 → (Nat → Int32) → Int32 → Int32 → (Nat → Int32) → Int32 → Int32 → Int32 → Int32 → Int32 → Int64 → Int64 → Int64 → Int64 → Int32 → Int32 → (Nat → XS) → Int32 → Int32 → Option ((Int32) ⊕ (Unit))) : Option ((Int32) ⊕ (Unit)) :=
  if z18 = 0 then
    fL_law_J1966 scL scx ee mm qq hh bb Ksz Kcl Kke Asz Anu Aba Amo Aco Hsz Hla Hce Bsz Bla Bce Tma Tlc Ttc day lim low hig thr off cre rcp pay sv nx SL z7 z8 z10 z16 z17 z18 s0 1 rec
  else
    ckI z18 25 <|
    ckI (z16 + 4) 60 <|
    if 1000000000 < ((mm z18.toNatClampNeg) + (ee (z16 + 4).toNatClampNeg).toInt64) then
      fL_law_J1966 scL scx ee mm qq hh bb Ksz Kcl Kke Asz Anu Aba Amo Aco Hsz Hla Hce Bsz Bla Bce Tma Tlc Ttc day lim low hig thr off cre rcp pay sv nx SL z7 z8 z10 z16 z17 z18 s0 0 rec
    else
      fL_law_J1966 scL scx ee mm qq hh bb Ksz Kcl Kke Asz Anu Aba Amo Aco Hsz Hla Hce Bsz Bla Bce Tma Tlc Ttc day lim low hig thr off cre rcp pay sv nx SL z7 z8 z10 z16 z17 z18 s0 1 rec
def fL_law_J1914 (scL : Nat) (scx : Nat → Int32) (ee : Nat → Int32) (mm : Nat → Int64) (qq : Nat → Int32) (hh : Nat → Int32) (bb : Nat → Int32) (Ksz : Int32) (Kcl : Nat → Int32) (Kke : Nat → Int32) (Asz : Int32) (Anu : Nat → Int32) (Aba : Nat → Int32) (Amo : Nat → Int32) (Aco : Nat → Int64) (Hsz : Int32) (Hla : Int32) (Hce : Nat → Int32) (Bsz : Int32) (Bla : Int32) (Bce : Nat → Int32) (Tma : Int32) (Tlc : Int32) (Ttc : Nat → Int32) (day : Int32) (lim : Int32) (low : Int32) (hig : Int32) (thr : Int32) (off : Int64) (cre : Int64) (rcp : Int64) (pay : Int64) (sv : Int32) (nx : Int32) (SL : Nat → XS) (z7 : Int32) (z8 : Int32) (z10 : Int32) (z16 : Int32) (z17 : Int32) (z18 : Int32) (rec : (Nat → Int32) → (Nat → Int64) → (Nat → Int32) → (Nat → Int32) → (Nat → Int32) → Int32 → (Nat → Int32) → (Nat → Int32) → Int32 → (Nat → Int32) → (Nat → Int32) → (Nat → Int32) → (Nat → Int64) → Int32 → Int32 → (Nat → Int32) → Int32 → Int32 → (Nat → Int32) → Int32 → Int32 → (Nat → Int32) → Int32 → Int32 → Int32 → Int32 → Int32 → Int64 → Int64 → Int64 → Int64 → Int32 → Int32 → (Nat → XS) → Int32 → Int32 → Option ((Int32) ⊕ (Unit))) : Option ((Int32) ⊕ (Unit)) :=
  if z18 = 0 then
    fL_law_J1934 scL scx ee mm qq hh bb Ksz Kcl Kke Asz Anu Aba Amo Aco Hsz Hla Hce Bsz Bla Bce Tma Tlc Ttc day lim low hig thr off cre rcp pay sv nx SL z7 z8 z10 z16 z17 z18 1 rec
  else
    ckI (10 + z18) 18 <|
    if (qq (10 + z18).toNatClampNeg) < 0 then
      fL_law_J1934 scL scx ee mm qq hh bb Ksz Kcl Kke Asz Anu Aba Amo Aco Hsz Hla Hce Bsz Bla Bce Tma Tlc Ttc day lim low hig thr off cre rcp pay sv nx SL z7 z8 z10 z16 z17 z18 0 rec
    else
      fL_law_J1934 scL scx ee mm qq hh bb Ksz Kcl Kke Asz Anu Aba Amo Aco Hsz Hla Hce Bsz Bla Bce Tma Tlc Ttc day lim low hig thr off cre rcp pay sv nx SL z7 z8 z10 z16 z17 z18 1 rec
def fL_law_J1867 (scL : Nat) (scx : Nat → Int32) (ee : Nat → Int32) (mm : Nat → Int64) (qq : Nat → Int32) (hh : Nat → Int32) (bb : Nat → Int32) (Ksz : Int32) (Kcl : Nat → Int32) (Kke : Nat → Int32) (Asz : Int32) (Anu : Nat → Int32) (Aba : Nat → Int32) (Amo : Nat → Int32) (Aco : Nat → Int64) (Hsz : Int32) (Hla : Int32) (Hce : Nat → Int32) (Bsz : Int32) (Bla : Int32) (Bce : Nat → Int32) (Tma : Int32) (Tlc : Int32) (Ttc : Nat → Int32) (day : Int32) (lim : Int32) (low : Int32) (hig : Int32) (thr : Int32) (off : Int64) (cre : Int64) (rcp : Int64) (pay : Int64) (sv : Int32) (nx : Int32) (SL : Nat → XS) (z7 : Int32) (z8 : Int32) (z10 : Int32) (z16 : Int32) (z17 : Int32) (s0 : Int32) (rec : (Nat → Int32) → (Nat → Int64) → (Nat → Int32) → (Nat → Int32) → (Nat → Int32) → Int32 → (Nat → Int32) → (Nat → Int32) → Int32 → (Nat → Int32) → (Nat → Int32) → (Nat → Int32) → (Nat → Int64) → Int32 → Int32 → (Nat → Int32) → Int32 → Int32 → (Nat → Int32) → Int32 → Int32 → (Nat → Int32) → Int32 → Int32 → Int32 → Int32 → Int32 → Int64 → Int64 → Int64 → Int64 → Int32 → Int32 → (Nat → XS) → Int32 → Int32 → Option ((Int32) ⊕ (Unit))) : Option ((Int32) ⊕ (Unit)) :=
  ckI (z16 + 1) 60 <|
  if 4 ≤ (ee (z16 + 1).toNatClampNeg) then
    fL_law_J1934 scL scx ee mm qq hh bb Ksz Kcl Kke Asz Anu Aba Amo Aco Hsz Hla Hce Bsz Bla Bce Tma Tlc Ttc day lim low hig thr off cre rcp pay sv nx SL z7 z8 z10 z16 z17 s0 0 rec
  else
    if z17 = 0 then
      fL_law_J1914 scL scx ee mm qq hh bb Ksz Kcl Kke Asz Anu Aba Amo Aco Hsz Hla Hce Bsz Bla Bce Tma Tlc Ttc day lim low hig thr off cre rcp pay sv nx SL z7 z8 z10 z16 z17 s0 rec
    else
      ckI (10 + z17) 18 <|
      if (qq (10 + z17).toNatClampNeg) < 0 then
        fL_law_J1934 scL scx ee mm qq hh bb Ksz Kcl Kke Asz Anu Aba Amo Aco Hsz Hla Hce Bsz Bla Bce Tma Tlc Ttc day lim low hig thr off cre rcp pay sv nx SL z7 z8 z10 z16 z17 s0 0 rec
      else
        bd1 (fL_free mm qq hh z17) fun r_172 =>
        ckI (z16 + 4) 60 <|
        if r_172 < (ee (z16 + 4).toNatClampNeg) then
          fL_law_J1934 scL scx ee mm qq hh bb Ksz Kcl Kke Asz Anu Aba Amo Aco Hsz Hla Hce Bsz Bla Bce Tma Tlc Ttc day lim low hig thr off cre rcp pay sv nx SL z7 z8 z10 z16 z17 s0 0 rec
        else
          fL_law_J1914 scL scx ee mm qq hh bb Ksz Kcl Kke Asz Anu Aba Amo Aco Hsz Hla Hce Bsz Bla Bce Tma Tlc Ttc day lim low hig thr off cre rcp pay sv nx SL z7 z8 z10 z16 z17 s0 rec
def fL_law_J1843 (scL : Nat) (scx : Nat → Int32) (ee : Nat → Int32) (mm : Nat → Int64) (qq : Nat → Int32) (hh : Nat → Int32) (bb : Nat → Int32) (Ksz : Int32) (Kcl : Nat → Int32) (Kke : Nat → Int32) (Asz : Int32) (Anu : Nat → Int32) (Aba : Nat → Int32) (Amo : Nat → Int32) (Aco : Nat → Int64) (Hsz : Int32) (Hla : Int32) (Hce : Nat → Int32) (Bsz : Int32) (Bla : Int32) (Bce : Nat → Int32) (Tma : Int32) (Tlc : Int32) (Ttc : Nat → Int32) (day : Int32) (lim : Int32) (low : Int32) (hig : Int32) (thr : Int32) (off : Int64) (cre : Int64) (rcp : Int64) (pay : Int64) (sv : Int32) (nx : Int32) (SL : Nat → XS) (z7 : Int32) (z8 : Int32) (z10 : Int32) (z16 : Int32) (s0 : Int32) (rec : (Nat → Int32) → (Nat → Int64) → (Nat → Int32) → (Nat → Int32) → (Nat → Int32) → Int32 → (Nat → Int32) → (Nat → Int32) → Int32 → (Nat → Int32) → (Nat → Int32) → (Nat → Int32) → (Nat → Int64) → Int32 → Int32 → (Nat → Int32) → Int32 → Int32 → (Nat → Int32) → Int32 → Int32 → (Nat → Int32) → Int32 → Int32 → Int32 → Int32 → Int32 → Int64 → Int64 → Int64 → Int64 → Int32 → Int32 → (Nat → XS) → Int32 → Int32 → Option ((Int32) ⊕ (Unit))) : Option ((Int32) ⊕ (Unit)) :=
  ckI (z16 + 1) 60 <|
  if (ee (z16 + 1).toNatClampNeg) = 1 then
    fL_law_J1867 scL scx ee mm qq hh bb Ksz Kcl Kke Asz Anu Aba Amo Aco Hsz Hla Hce Bsz Bla Bce Tma Tlc Ttc day lim low hig thr off cre rcp pay sv nx SL z7 z8 z10 z16 s0 0 rec
  else
    ckI (z16 + 2) 60 <|
    fL_law_J1867 scL scx ee mm qq hh bb Ksz Kcl Kke Asz Anu Aba Amo Aco Hsz Hla Hce Bsz Bla Bce Tma Tlc Ttc day lim low hig thr off cre rcp pay sv nx SL z7 z8 z10 z16 s0 (ee (z16 + 2).toNatClampNeg) rec
def fL_law_J1658 (scL : Nat) (scx : Nat → Int32) (ee : Nat → Int32) (mm : Nat → Int64) (qq : Nat → Int32) (hh : Nat → Int32) (bb : Nat → Int32) (Ksz : Int32) (Kcl : Nat → Int32) (Kke : Nat → Int32) (Asz : Int32) (Anu : Nat → Int32) (Aba : Nat → Int32) (Amo : Nat → Int32) (Aco : Nat → Int64) (Hsz : Int32) (Hla : Int32) (Hce : Nat → Int32) (Bsz : Int32) (Bla : Int32) (Bce : Nat → Int32) (Tma : Int32) (Tlc : Int32) (Ttc : Nat → Int32) (day : Int32) (lim : Int32) (low : Int32) (hig : Int32) (thr : Int32) (off : Int64) (cre : Int64) (rcp : Int64) (pay : Int64) (sv : Int32) (nx : Int32) (SL : Nat → XS) (z7 : Int32) (z8 : Int32) (z9 : Int32) (z10 : Int32) (s0 : Int32) (rec : (Nat → Int32) → (Nat → Int64) → (Nat → Int32) → (Nat → Int32) → (Nat → Int32) → Int32 → (Nat → Int32) → (Nat → Int32) → Int32 → (Nat → Int32) → (Nat → Int32) → (Nat → Int32) → (Nat → Int64) → Int32 → Int32 → (Nat → Int32) → Int32 → Int32 → (Nat → Int32) → Int32 → Int32 → (Nat → Int32) → Int32 → Int32 → Int32 → Int32 → Int32 → Int64 → Int64 → Int64 → Int64 → Int32 → Int32 → (Nat → XS) → Int32 → Int32 → Option ((Int32) ⊕ (Unit))) : Option ((Int32) ⊕ (Unit)) :=
  bd1 (fL_low (z10 >>> (4 &&& 31)) 2001) fun r_183 =>
  bd1 (fL_low (z9 >>> (8 &&& 31)) 2001) fun r_185 =>
  bd7 (fX7_setRates Asz Anu Aba Amo Aco Hsz Hla Hce Bsz Bla Bce Tma Tlc Ttc day lim low hig thr off cre rcp pay sv nx SL s0 r_183 r_185) fun r_187 lim_188 low_189 hig_190 sv_191 nx_192 SL_193 =>
  ckI 1 18 <|
  if r_187 = (qq (1 : Int32).toNatClampNeg) then
    bd1 (fL_low (z10 >>> (9 &&& 31)) 200) fun r_197 =>
    bd5 (fX7_setThreshold Asz Anu Aba Amo Aco Hsz Hla Hce Bsz Bla Bce Tma Tlc Ttc day lim_188 low_189 hig_190 thr off cre rcp pay sv_191 nx_192 SL_193 r_197) fun r_199 thr_200 sv_201 nx_202 SL_203 =>
    ckI 4 18 <|
    if r_199 = (qq (4 : Int32).toNatClampNeg) then
      ckI 1 18 <|
      lt_ (upd qq (1 : Int32).toNatClampNeg s0) fun qq_208 =>
      bd1 (fL_low (z10 >>> (4 &&& 31)) 2001) fun r_209 =>
      ckI 2 18 <|
      lt_ (upd qq_208 (2 : Int32).toNatClampNeg r_209) fun qq_212 =>
      bd1 (fL_low (z9 >>> (8 &&& 31)) 2001) fun r_213 =>
      ckI 3 18 <|
      lt_ (upd qq_212 (3 : Int32).toNatClampNeg r_213) fun qq_216 =>
      bd1 (fL_low (z10 >>> (9 &&& 31)) 200) fun r_217 =>
      ckI 4 18 <|
      lt_ (upd qq_216 (4 : Int32).toNatClampNeg r_217) fun qq_220 =>
      fL_law_J2283 scL scx ee mm qq_220 hh bb Ksz Kcl Kke Asz Anu Aba Amo Aco Hsz Hla Hce Bsz Bla Bce Tma Tlc Ttc day lim_188 low_189 hig_190 thr_200 off cre rcp pay sv_201 nx_202 SL_203 z7 z8 z10 rec
    else
      some (.inl 0)
  else
    some (.inl 0)
def fL_law_J1596 (scL : Nat) (scx : Nat → Int32) (ee : Nat → Int32) (mm : Nat → Int64) (qq : Nat → Int32) (hh : Nat → Int32) (bb : Nat → Int32) (Ksz : Int32) (Kcl : Nat → Int32) (Kke : Nat → Int32) (Asz : Int32) (Anu : Nat → Int32) (Aba : Nat → Int32) (Amo : Nat → Int32) (Aco : Nat → Int64) (Hsz : Int32) (Hla : Int32) (Hce : Nat → Int32) (Bsz : Int32) (Bla : Int32) (Bce : Nat → Int32) (Tma : Int32) (Tlc : Int32) (Ttc : Nat → Int32) (day : Int32) (lim : Int32) (low : Int32) (hig : Int32) (thr : Int32) (off : Int64) (cre : Int64) (rcp : Int64) (pay : Int64) (sv : Int32) (nx : Int32) (SL : Nat → XS) (z7 : Int32) (z8 : Int32) (z10 : Int32) (z16 : Int32) (rec : (Nat → Int32) → (Nat → Int64) → (Nat → Int32) → (Nat → Int32) → (Nat → Int32) → Int32 → (Nat → Int32) → (Nat → Int32) → Int32 → (Nat → Int32) → (Nat → Int32) → (Nat → Int32) → (Nat → Int64) → Int32 → Int32 → (Nat → Int32) → Int32 → Int32 → (Nat → Int32) → Int32 → Int32 → (Nat → Int32) → Int32 → Int32 → Int32 → Int32 → Int32 → Int64 → Int64 → Int64 → Int64 → Int32 → Int32 → (Nat → XS) → Int32 → Int32 → Option ((Int32) ⊕ (Unit))) : Option ((Int32) ⊕ (Unit)) :=
  bd14 (fX7_pass Asz Anu Aba Amo Aco Hsz Hla Hce Bsz Bla Bce Tma Tlc Ttc day lim low hig thr off cre rcp pay sv nx SL z16) fun r_233 Aba_234 Amo_235 Aco_236 Hsz_237 Hce_238 Tma_239 Tlc_240 Ttc_241 day_242 cre_243 sv_244 nx_245 SL_246 =>
  bd5 (fL_pass ee mm qq hh z16) fun r_248 ee_249 mm_250 qq_251 hh_252 =>
  if r_233 = r_248 then
    fL_law_J2283 scL scx ee_249 mm_250 qq_251 hh_252 bb Ksz Kcl Kke Asz Anu Aba_234 Amo_235 Aco_236 Hsz_237 Hla Hce_238 Bsz Bla Bce Tma_239 Tlc_240 Ttc_241 day_242 lim low hig thr off cre_243 rcp pay sv_244 nx_245 SL_246 z7 z8 z10 rec
  else
    some (.inl 0)
def fL_law_J1470 (qq : Nat → Int32) (hh : Nat → Int32) (u7 : Int32) (u8 : Int32) (u10 : Int32) (u12 : Int32) (u15 : Int32) (u16 : Int32) (u19 : Int64) (u21 : Int64) (mm : Nat → Int64) (z23 : Int32) (z24 : Int32) (s0 : Int64) (s1 : Int64) (rec : (Nat → Int64) → Int64 → Int32 → Int32 → Option ((Nat → Int64) × Int64 × Int32)) : Option ((Nat → Int64) × Int64 × Int32) :=
  lt_ (s1 + s0) fun x17_266 =>
  if 0 ≤ z23 then
    rec mm x17_266 z23 (z24 + 1)
  else
    ckI u12 25 <|
    ckI 0 18 <|
    bd1 (fL_held hh u12 ((qq (0 : Int32).toNatClampNeg) + z24)) fun r_270 =>
    if ((mm u12.toNatClampNeg) - r_270.toInt64) < u15.toInt64 then
      rec mm x17_266 z23 (z24 + 1)
    else
      ckI 0 18 <|
      lt_ ((qq (0 : Int32).toNatClampNeg) + z24) fun x23_274 =>
      rec mm x17_266 x23_274 (z24 + 1)
def fL_law_J1453 (qq : Nat → Int32) (hh : Nat → Int32) (u7 : Int32) (u8 : Int32) (u10 : Int32) (u12 : Int32) (u15 : Int32) (u16 : Int32) (u19 : Int64) (u21 : Int64) (mm : Nat → Int64) (z17 : Int64) (z23 : Int32) (z24 : Int32) (s0 : Int64) (rec : (Nat → Int64) → Int64 → Int32 → Int32 → Option ((Nat → Int64) × Int64 × Int32)) : Option ((Nat → Int64) × Int64 × Int32) :=
  if u16 < z24 then
    fL_law_J1470 qq hh u7 u8 u10 u12 u15 u16 u19 u21 mm z23 z24 0 z17 rec
  else
    fL_law_J1470 qq hh u7 u8 u10 u12 u15 u16 u19 u21 mm z23 z24 s0 z17 rec
def fL_law_L1423 (qq : Nat → Int32) (hh : Nat → Int32) (u7 : Int32) (u8 : Int32) (u10 : Int32) (u12 : Int32) (u15 : Int32) (u16 : Int32) (u19 : Int64) (u21 : Int64) : Nat → (Nat → Int64) → Int64 → Int32 → Int32 → Option ((Nat → Int64) × Int64 × Int32)
  | 0, _, _, _, _ => none
  | n + 1, mm, z17, z23, z24 =>
    if 400 < z24 then
      some (mm, z17, z23)
    else
      if z24 = 0 then
        fL_law_J1453 qq hh u7 u8 u10 u12 u15 u16 u19 u21 mm z17 z23 z24 0 (fL_law_L1423 qq hh u7 u8 u10 u12 u15 u16 u19 u21 n)
      else
        ckI 0 18 <|
        bd2 (fL_interest mm qq u12 ((qq (0 : Int32).toNatClampNeg) + z24)) fun r_262 mm_263 =>
        fL_law_J1453 qq hh u7 u8 u10 u12 u15 u16 u19 u21 mm_263 z17 z23 z24 r_262 (fL_law_L1423 qq hh u7 u8 u10 u12 u15 u16 u19 u21 n)
def fL_law_J1359 (scL : Nat) (scx : Nat → Int32) (ee : Nat → Int32) (mm : Nat → Int64) (qq : Nat → Int32) (hh : Nat → Int32) (bb : Nat → Int32) (Ksz : Int32) (Kcl : Nat → Int32) (Kke : Nat → Int32) (Asz : Int32) (Anu : Nat → Int32) (Aba : Nat → Int32) (Amo : Nat → Int32) (Aco : Nat → Int64) (Hsz : Int32) (Hla : Int32) (Hce : Nat → Int32) (Bsz : Int32) (Bla : Int32) (Bce : Nat → Int32) (Tma : Int32) (Tlc : Int32) (Ttc : Nat → Int32) (day : Int32) (lim : Int32) (low : Int32) (hig : Int32) (thr : Int32) (off : Int64) (cre : Int64) (rcp : Int64) (pay : Int64) (sv : Int32) (nx : Int32) (SL : Nat → XS) (z7 : Int32) (z8 : Int32) (z10 : Int32) (z17 : Int32) (z19 : Int32) (rec : (Nat → Int32) → (Nat → Int64) → (Nat → Int32) → (Nat → Int32) → (Nat → Int32) → Int32 → (Nat → Int32) → (Nat → Int32) → Int32 → (Nat → Int32) → (Nat → Int32) → (Nat → Int32) → (Nat → Int64) → Int32 → Int32 → (Nat → Int32) → Int32 → Int32 → (Nat → Int32) → Int32 → Int32 → (Nat → Int32) → Int32 → Int32 → Int32 → Int32 → Int32 → Int64 → Int64 → Int64 → Int64 → Int32 → Int32 → (Nat → XS) → Int32 → Int32 → Option ((Int32) ⊕ (Unit))) : Option ((Int32) ⊕ (Unit)) :=
  bd3 (fL_enter ee mm qq 4 z17 0 z19) fun ee_331 mm_332 qq_333 =>
  fL_law_J2283 scL scx ee_331 mm_332 qq_333 hh bb Ksz Kcl Kke Asz Anu Aba Amo Aco Hsz Hla Hce Bsz Bla Bce Tma Tlc Ttc day lim low hig thr off cre rcp pay sv nx SL z7 z8 z10 rec
def fL_law_J1276 (scL : Nat) (scx : Nat → Int32) (ee : Nat → Int32) (mm : Nat → Int64) (qq : Nat → Int32) (hh : Nat → Int32) (bb : Nat → Int32) (Ksz : Int32) (Kcl : Nat → Int32) (Kke : Nat → Int32) (Asz : Int32) (Anu : Nat → Int32) (Aba : Nat → Int32) (Amo : Nat → Int32) (Aco : Nat → Int64) (Hsz : Int32) (Hla : Int32) (Hce : Nat → Int32) (Bsz : Int32) (Bla : Int32) (Bce : Nat → Int32) (Tma : Int32) (Tlc : Int32) (Ttc : Nat → Int32) (day : Int32) (lim : Int32) (low : Int32) (hig : Int32) (thr : Int32) (off : Int64) (cre : Int64) (rcp : Int64) (pay : Int64) (sv : Int32) (nx : Int32) (SL : Nat → XS) (z7 : Int32) (z8 : Int32) (z10 : Int32) (z16 : Int32) (z17 : Int32) (z18 : Int32) (z19 : Int32) (s0 : Int32) (s1 : Int32) (rec : (Nat → Int32) → (Nat → Int64) → (Nat → Int32) → (Nat → Int32) → (Nat → Int32) → Int32 → (Nat → Int32) → (Nat → Int32) → Int32 → (Nat → Int32) → (Nat → Int32) → (Nat → Int32) → (Nat → Int64) → Int32 → Int32 → (Nat → Int32) → Int32 → Int32 → (Nat → Int32) → Int32 → Int32 → (Nat → Int32) → Int32 → Int32 → Int32 → Int32 → Int32 → Int64 → Int64 → Int64 → Int64 → Int32 → Int32 → (Nat → XS) → Int32 → Int32 → Option ((Int32) ⊕ (Unit))) : Option ((Int32) ⊕ (Unit)) :=
  if s1 = s0 then
    if z17 ≤ 0 then
      fL_law_J2283 scL scx ee mm qq hh bb Ksz Kcl Kke Asz Anu Aba Amo Aco Hsz Hla Hce Bsz Bla Bce Tma Tlc Ttc day lim low hig thr off cre rcp pay sv nx SL z7 z8 z10 rec
    else
      if z18 ≤ 0 then
        fL_law_J2283 scL scx ee mm qq hh bb Ksz Kcl Kke Asz Anu Aba Amo Aco Hsz Hla Hce Bsz Bla Bce Tma Tlc Ttc day lim low hig thr off cre rcp pay sv nx SL z7 z8 z10 rec
      else
        ckI z17 25 <|
        ckI z17 25 <|
        lt_ (vp_updL mm z17.toNatClampNeg ((mm z17.toNatClampNeg) - z19.toInt64)) fun mm_319 =>
        ckI 20 25 <|
        ckI 20 25 <|
        lt_ (vp_updL mm_319 (20 : Int32).toNatClampNeg ((mm_319 (20 : Int32).toNatClampNeg) + z19.toInt64)) fun mm_322 =>
        ckI ((3 * z16) + 1) 60 <|
        ckI ((3 * z16) + 1) 60 <|
        lt_ (upd bb ((3 * z16) + 1).toNatClampNeg ((bb ((3 * z16) + 1).toNatClampNeg) - z19)) fun bb_325 =>
        ckI ((3 * z16) + 2) 60 <|
        ckI ((3 * z16) + 2) 60 <|
        lt_ (upd bb_325 ((3 * z16) + 2).toNatClampNeg ((bb_325 ((3 * z16) + 2).toNatClampNeg) + z19)) fun bb_328 =>
        ckI ((3 * z16) + 1) 60 <|
        if (bb_328 ((3 * z16) + 1).toNatClampNeg) = 0 then
          ckI (3 * z16) 60 <|
          lt_ (upd bb_328 (3 * z16).toNatClampNeg 0) fun bb_336 =>
          fL_law_J1359 scL scx ee mm_322 qq hh bb_336 Ksz Kcl Kke Asz Anu Aba Amo Aco Hsz Hla Hce Bsz Bla Bce Tma Tlc Ttc day lim low hig thr off cre rcp pay sv nx SL z7 z8 z10 z17 z19 rec
        else
          fL_law_J1359 scL scx ee mm_322 qq hh bb_328 Ksz Kcl Kke Asz Anu Aba Amo Aco Hsz Hla Hce Bsz Bla Bce Tma Tlc Ttc day lim low hig thr off cre rcp pay sv nx SL z7 z8 z10 z17 z19 rec
  else
    some (.inl 0)
def fL_law_J1245 (scL : Nat) (scx : Nat → Int32) (ee : Nat → Int32) (mm : Nat → Int64) (qq : Nat → Int32) (hh : Nat → Int32) (bb : Nat → Int32) (Ksz : Int32) (Kcl : Nat → Int32) (Kke : Nat → Int32) (Asz : Int32) (Anu : Nat → Int32) (Aba : Nat → Int32) (Amo : Nat → Int32) (Aco : Nat → Int64) (Hsz : Int32) (Hla : Int32) (Hce : Nat → Int32) (Bsz : Int32) (Bla : Int32) (Bce : Nat → Int32) (Tma : Int32) (Tlc : Int32) (Ttc : Nat → Int32) (day : Int32) (lim : Int32) (low : Int32) (hig : Int32) (thr : Int32) (off : Int64) (cre : Int64) (rcp : Int64) (pay : Int64) (sv : Int32) (nx : Int32) (SL : Nat → XS) (z7 : Int32) (z8 : Int32) (z10 : Int32) (z16 : Int32) (z17 : Int32) (z18 : Int32) (s0 : Int32) (rec : (Nat → Int32) → (Nat → Int64) → (Nat → Int32) → (Nat → Int32) → (Nat → Int32) → Int32 → (Nat → Int32) → (Nat → Int32) → Int32 → (Nat → Int32) → (Nat → Int32) → (Nat → Int32) → (Nat → Int64) → Int32 → Int32 → (Nat → Int32) → Int32 → Int32 → (Nat → Int32) → Int32 → Int32 → (Nat → Int32) → Int32 → Int32 → Int32 → Int32 → Int32 → Int64 → Int64 → Int64 → Int64 → Int32 → Int32 → (Nat → XS) → Int32 → Int32 → Option ((Int32) ⊕ (Unit))) : Option ((Int32) ⊕ (Unit)) :=
  bd12 (fX7_settle Asz Anu Aba Amo Aco Hsz Hla Hce Bsz Bla Bce Tma Tlc Ttc day lim low hig thr off cre rcp pay sv nx SL (z16 + 1)) fun r_299 Aba_300 Amo_301 Bsz_302 Bce_303 Tma_304 Tlc_305 Ttc_306 off_307 sv_308 nx_309 SL_310 =>
  if z17 = 0 then
    fL_law_J1276 scL scx ee mm qq hh bb Ksz Kcl Kke Asz Anu Aba_300 Amo_301 Aco Hsz Hla Hce Bsz_302 Bla Bce_303 Tma_304 Tlc_305 Ttc_306 day lim low hig thr off_307 cre rcp pay sv_308 nx_309 SL_310 z7 z8 z10 z16 z17 z18 s0 (-1) r_299 rec
  else
    if z18 = 0 then
      fL_law_J1276 scL scx ee mm qq hh bb Ksz Kcl Kke Asz Anu Aba_300 Amo_301 Aco Hsz Hla Hce Bsz_302 Bla Bce_303 Tma_304 Tlc_305 Ttc_306 day lim low hig thr off_307 cre rcp pay sv_308 nx_309 SL_310 z7 z8 z10 z16 z17 z18 s0 (-3) r_299 rec
    else
      fL_law_J1276 scL scx ee mm qq hh bb Ksz Kcl Kke Asz Anu Aba_300 Amo_301 Aco Hsz Hla Hce Bsz_302 Bla Bce_303 Tma_304 Tlc_305 Ttc_306 day lim low hig thr off_307 cre rcp pay sv_308 nx_309 SL_310 z7 z8 z10 z16 z17 z18 s0 s0 r_299 rec
def fL_law_J1215 (scL : Nat) (scx : Nat → Int32) (ee : Nat → Int32) (mm : Nat → Int64) (qq : Nat → Int32) (hh : Nat → Int32) (bb : Nat → Int32) (Ksz : Int32) (Kcl : Nat → Int32) (Kke : Nat → Int32) (Asz : Int32) (Anu : Nat → Int32) (Aba : Nat → Int32) (Amo : Nat → Int32) (Aco : Nat → Int64) (Hsz : Int32) (Hla : Int32) (Hce : Nat → Int32) (Bsz : Int32) (Bla : Int32) (Bce : Nat → Int32) (Tma : Int32) (Tlc : Int32) (Ttc : Nat → Int32) (day : Int32) (lim : Int32) (low : Int32) (hig : Int32) (thr : Int32) (off : Int64) (cre : Int64) (rcp : Int64) (pay : Int64) (sv : Int32) (nx : Int32) (SL : Nat → XS) (z7 : Int32) (z8 : Int32) (z10 : Int32) (z16 : Int32) (z17 : Int32) (s0 : Int32) (rec : (Nat → Int32) → (Nat → Int64) → (Nat → Int32) → (Nat → Int32) → (Nat → Int32) → Int32 → (Nat → Int32) → (Nat → Int32) → Int32 → (Nat → Int32) → (Nat → Int32) → (Nat → Int32) → (Nat → Int64) → Int32 → Int32 → (Nat → Int32) → Int32 → Int32 → (Nat → Int32) → Int32 → Int32 → (Nat → Int32) → Int32 → Int32 → Int32 → Int32 → Int32 → Int64 → Int64 → Int64 → Int64 → Int32 → Int32 → (Nat → XS) → Int32 → Int32 → Option ((Int32) ⊕ (Unit))) : Option ((Int32) ⊕ (Unit)) :=
  ckI ((3 * z16) + 1) 60 <|
  if (bb ((3 * z16) + 1).toNatClampNeg) ≤ s0 then
    ckI ((3 * z16) + 1) 60 <|
    fL_law_J1245 scL scx ee mm qq hh bb Ksz Kcl Kke Asz Anu Aba Amo Aco Hsz Hla Hce Bsz Bla Bce Tma Tlc Ttc day lim low hig thr off cre rcp pay sv nx SL z7 z8 z10 z16 z17 s0 (bb ((3 * z16) + 1).toNatClampNeg) rec
  else
    fL_law_J1245 scL scx ee mm qq hh bb Ksz Kcl Kke Asz Anu Aba Amo Aco Hsz Hla Hce Bsz Bla Bce Tma Tlc Ttc day lim low hig thr off cre rcp pay sv nx SL z7 z8 z10 z16 z17 s0 s0 rec
def fL_law_J1186 (scL : Nat) (scx : Nat → Int32) (ee : Nat → Int32) (mm : Nat → Int64) (qq : Nat → Int32) (hh : Nat → Int32) (bb : Nat → Int32) (Ksz : Int32) (Kcl : Nat → Int32) (Kke : Nat → Int32) (Asz : Int32) (Anu : Nat → Int32) (Aba : Nat → Int32) (Amo : Nat → Int32) (Aco : Nat → Int64) (Hsz : Int32) (Hla : Int32) (Hce : Nat → Int32) (Bsz : Int32) (Bla : Int32) (Bce : Nat → Int32) (Tma : Int32) (Tlc : Int32) (Ttc : Nat → Int32) (day : Int32) (lim : Int32) (low : Int32) (hig : Int32) (thr : Int32) (off : Int64) (cre : Int64) (rcp : Int64) (pay : Int64) (sv : Int32) (nx : Int32) (SL : Nat → XS) (z7 : Int32) (z8 : Int32) (z10 : Int32) (s0 : Int32) (rec : (Nat → Int32) → (Nat → Int64) → (Nat → Int32) → (Nat → Int32) → (Nat → Int32) → Int32 → (Nat → Int32) → (Nat → Int32) → Int32 → (Nat → Int32) → (Nat → Int32) → (Nat → Int32) → (Nat → Int64) → Int32 → Int32 → (Nat → Int32) → Int32 → Int32 → (Nat → Int32) → Int32 → Int32 → (Nat → Int32) → Int32 → Int32 → Int32 → Int32 → Int32 → Int64 → Int64 → Int64 → Int64 → Int32 → Int32 → (Nat → XS) → Int32 → Int32 → Option ((Int32) ⊕ (Unit))) : Option ((Int32) ⊕ (Unit)) :=
  ckI (3 * s0) 60 <|
  lt_ (bb (3 * s0).toNatClampNeg) fun x17_294 =>
  if x17_294 ≤ 0 then
    fL_law_J1215 scL scx ee mm qq hh bb Ksz Kcl Kke Asz Anu Aba Amo Aco Hsz Hla Hce Bsz Bla Bce Tma Tlc Ttc day lim low hig thr off cre rcp pay sv nx SL z7 z8 z10 s0 x17_294 0 rec
  else
    bd1 (fL_free mm qq hh x17_294) fun r_337 =>
    fL_law_J1215 scL scx ee mm qq hh bb Ksz Kcl Kke Asz Anu Aba Amo Aco Hsz Hla Hce Bsz Bla Bce Tma Tlc Ttc day lim low hig thr off cre rcp pay sv nx SL z7 z8 z10 s0 x17_294 r_337 rec
def fL_law_L1029 (bb : Nat → Int32) (u7 : Int32) (u8 : Int32) (u10 : Int32) (u12 : Int32) (u14 : Int32) (u15 : Int32) : Nat → Int32 → Int32 → Option (Int32)
  | 0, _, _ => none
  | n + 1, z16, z17 =>
    if 60 ≤ z17 then
      some z16
    else
      ckI z17 60 <|
      if (bb z17.toNatClampNeg) ≤ 0 then
        lt_ (z16 + 0) fun x16_344 =>
        fL_law_L1029 bb u7 u8 u10 u12 u14 u15 n x16_344 (z17 + 3)
      else
        lt_ (z16 + 1) fun x16_345 =>
        fL_law_L1029 bb u7 u8 u10 u12 u14 u15 n x16_345 (z17 + 3)
def fL_law_J1095 (scL : Nat) (scx : Nat → Int32) (ee : Nat → Int32) (mm : Nat → Int64) (qq : Nat → Int32) (hh : Nat → Int32) (bb : Nat → Int32) (Ksz : Int32) (Kcl : Nat → Int32) (Kke : Nat → Int32) (Asz : Int32) (Anu : Nat → Int32) (Aba : Nat → Int32) (Amo : Nat → Int32) (Aco : Nat → Int64) (Hsz : Int32) (Hla : Int32) (Hce : Nat → Int32) (Bsz : Int32) (Bla : Int32) (Bce : Nat → Int32) (Tma : Int32) (Tlc : Int32) (Ttc : Nat → Int32) (day : Int32) (lim : Int32) (low : Int32) (hig : Int32) (thr : Int32) (off : Int64) (cre : Int64) (rcp : Int64) (pay : Int64) (sv : Int32) (nx : Int32) (SL : Nat → XS) (z7 : Int32) (z8 : Int32) (z10 : Int32) (z12 : Int32) (z14 : Int32) (z15 : Int32) (z16 : Int32) (s0 : Int32) (s1 : Int32) (rec : (Nat → Int32) → (Nat → Int64) → (Nat → Int32) → (Nat → Int32) → (Nat → Int32) → Int32 → (Nat → Int32) → (Nat → Int32) → Int32 → (Nat → Int32) → (Nat → Int32) → (Nat → Int32) → (Nat → Int64) → Int32 → Int32 → (Nat → Int32) → Int32 → Int32 → (Nat → Int32) → Int32 → Int32 → (Nat → Int32) → Int32 → Int32 → Int32 → Int32 → Int32 → Int64 → Int64 → Int64 → Int64 → Int32 → Int32 → (Nat → XS) → Int32 → Int32 → Option ((Int32) ⊕ (Unit))) : Option ((Int32) ⊕ (Unit)) :=
  if s1 = s0 then
    if z14 = 0 then
      fL_law_J2283 scL scx ee mm qq hh bb Ksz Kcl Kke Asz Anu Aba Amo Aco Hsz Hla Hce Bsz Bla Bce Tma Tlc Ttc day lim low hig thr off cre rcp pay sv nx SL z7 z8 z10 rec
    else
      if 15 ≤ z16 then
        fL_law_J2283 scL scx ee mm qq hh bb Ksz Kcl Kke Asz Anu Aba Amo Aco Hsz Hla Hce Bsz Bla Bce Tma Tlc Ttc day lim low hig thr off cre rcp pay sv nx SL z7 z8 z10 rec
      else
        ckI 7 18 <|
        ckI (3 * (qq (7 : Int32).toNatClampNeg)) 60 <|
        lt_ (upd bb (3 * (qq (7 : Int32).toNatClampNeg)).toNatClampNeg z12) fun bb_363 =>
        ckI 7 18 <|
        ckI ((3 * (qq (7 : Int32).toNatClampNeg)) + 1) 60 <|
        lt_ (upd bb_363 ((3 * (qq (7 : Int32).toNatClampNeg)) + 1).toNatClampNeg z15) fun bb_366 =>
        ckI 7 18 <|
        ckI ((3 * (qq (7 : Int32).toNatClampNeg)) + 2) 60 <|
        lt_ (upd bb_366 ((3 * (qq (7 : Int32).toNatClampNeg)) + 2).toNatClampNeg 0) fun bb_369 =>
        ckI 7 18 <|
        ckI 7 18 <|
        lt_ (upd qq (7 : Int32).toNatClampNeg ((qq (7 : Int32).toNatClampNeg) + 1)) fun qq_372 =>
        fL_law_J2283 scL scx ee mm qq_372 hh bb_369 Ksz Kcl Kke Asz Anu Aba Amo Aco Hsz Hla Hce Bsz Bla Bce Tma Tlc Ttc day lim low hig thr off cre rcp pay sv nx SL z7 z8 z10 rec
  else
    some (.inl 0)
def fL_law_L764 (hh : Nat → Int32) (u7 : Int32) (u8 : Int32) (u10 : Int32) (u12 : Int32) (u14 : Int32) (u15 : Int32) (u16 : Int32) : Nat → Int32 → Int32 → Option (Int32)
  | 0, _, _ => none
  | n + 1, z17, z18 =>
    if 60 ≤ z18 then
      some z17
    else
      ckI z18 60 <|
      if (hh z18.toNatClampNeg) ≤ 0 then
        lt_ (z17 + 0) fun x17_399 =>
        fL_law_L764 hh u7 u8 u10 u12 u14 u15 u16 n x17_399 (z18 + 3)
      else
        lt_ (z17 + 1) fun x17_400 =>
        fL_law_L764 hh u7 u8 u10 u12 u14 u15 u16 n x17_400 (z18 + 3)
def fL_law_J868 (scL : Nat) (scx : Nat → Int32) (ee : Nat → Int32) (mm : Nat → Int64) (qq : Nat → Int32) (hh : Nat → Int32) (bb : Nat → Int32) (Ksz : Int32) (Kcl : Nat → Int32) (Kke : Nat → Int32) (Asz : Int32) (Anu : Nat → Int32) (Aba : Nat → Int32) (Amo : Nat → Int32) (Aco : Nat → Int64) (Hsz : Int32) (Hla : Int32) (Hce : Nat → Int32) (Bsz : Int32) (Bla : Int32) (Bce : Nat → Int32) (Tma : Int32) (Tlc : Int32) (Ttc : Nat → Int32) (day : Int32) (lim : Int32) (low : Int32) (hig : Int32) (thr : Int32) (off : Int64) (cre : Int64) (rcp : Int64) (pay : Int64) (sv : Int32) (nx : Int32) (SL : Nat → XS) (z7 : Int32) (z8 : Int32) (z10 : Int32) (z12 : Int32) (z15 : Int32) (z16 : Int32) (z17 : Int32) (z18 : Int32) (s0 : Int32) (s1 : Int32) (rec : (Nat → Int32) → (Nat → Int64) → (Nat → Int32) → (Nat → Int32) → (Nat → Int32) → Int32 → (Nat → Int32) → (Nat → Int32) → Int32 → (Nat → Int32) → (Nat → Int32) → (Nat → Int32) → (Nat → Int64) → Int32 → Int32 → (Nat → Int32) → Int32 → Int32 → (Nat → Int32) → Int32 → Int32 → (Nat → Int32) → Int32 → Int32 → Int32 → Int32 → Int32 → Int64 → Int64 → Int64 → Int64 → Int32 → Int32 → (Nat → XS) → Int32 → Int32 → Option ((Int32) ⊕ (Unit))) : Option ((Int32) ⊕ (Unit)) :=
  if s1 = s0 then
    if z18 = 0 then
      fL_law_J2283 scL scx ee mm qq hh bb Ksz Kcl Kke Asz Anu Aba Amo Aco Hsz Hla Hce Bsz Bla Bce Tma Tlc Ttc day lim low hig thr off cre rcp pay sv nx SL z7 z8 z10 rec
    else
      if 15 ≤ z17 then
        fL_law_J2283 scL scx ee mm qq hh bb Ksz Kcl Kke Asz Anu Aba Amo Aco Hsz Hla Hce Bsz Bla Bce Tma Tlc Ttc day lim low hig thr off cre rcp pay sv nx SL z7 z8 z10 rec
      else
        ckI 6 18 <|
        ckI (3 * (qq (6 : Int32).toNatClampNeg)) 60 <|
        lt_ (upd hh (3 * (qq (6 : Int32).toNatClampNeg)).toNatClampNeg z12) fun hh_420 =>
        ckI 6 18 <|
        ckI ((3 * (qq (6 : Int32).toNatClampNeg)) + 1) 60 <|
        lt_ (upd hh_420 ((3 * (qq (6 : Int32).toNatClampNeg)) + 1).toNatClampNeg z15) fun hh_423 =>
        ckI 6 18 <|
        ckI 0 18 <|
        ckI ((3 * (qq (6 : Int32).toNatClampNeg)) + 2) 60 <|
        lt_ (upd hh_423 ((3 * (qq (6 : Int32).toNatClampNeg)) + 2).toNatClampNeg ((qq (0 : Int32).toNatClampNeg) + z16)) fun hh_427 =>
        ckI 6 18 <|
        ckI 6 18 <|
        lt_ (upd qq (6 : Int32).toNatClampNeg ((qq (6 : Int32).toNatClampNeg) + 1)) fun qq_430 =>
        fL_law_J2283 scL scx ee mm qq_430 hh_427 bb Ksz Kcl Kke Asz Anu Aba Amo Aco Hsz Hla Hce Bsz Bla Bce Tma Tlc Ttc day lim low hig thr off cre rcp pay sv nx SL z7 z8 z10 rec
  else
    some (.inl 0)
def fL_law_J819 (scL : Nat) (scx : Nat → Int32) (ee : Nat → Int32) (mm : Nat → Int64) (qq : Nat → Int32) (hh : Nat → Int32) (bb : Nat → Int32) (Ksz : Int32) (Kcl : Nat → Int32) (Kke : Nat → Int32) (Asz : Int32) (Anu : Nat → Int32) (Aba : Nat → Int32) (Amo : Nat → Int32) (Aco : Nat → Int64) (Hsz : Int32) (Hla : Int32) (Hce : Nat → Int32) (Bsz : Int32) (Bla : Int32) (Bce : Nat → Int32) (Tma : Int32) (Tlc : Int32) (Ttc : Nat → Int32) (day : Int32) (lim : Int32) (low : Int32) (hig : Int32) (thr : Int32) (off : Int64) (cre : Int64) (rcp : Int64) (pay : Int64) (sv : Int32) (nx : Int32) (SL : Nat → XS) (z7 : Int32) (z8 : Int32) (z10 : Int32) (z12 : Int32) (z14 : Int32) (z15 : Int32) (z16 : Int32) (z17 : Int32) (s0 : Int32) (rec : (Nat → Int32) → (Nat → Int64) → (Nat → Int32) → (Nat → Int32) → (Nat → Int32) → Int32 → (Nat → Int32) → (Nat → Int32) → Int32 → (Nat → Int32) → (Nat → Int32) → (Nat → Int32) → (Nat → Int64) → Int32 → Int32 → (Nat → Int32) → Int32 → Int32 → (Nat → Int32) → Int32 → Int32 → (Nat → Int32) → Int32 → Int32 → Int32 → Int32 → Int32 → Int64 → Int64 → Int64 → Int64 → Int32 → Int32 → (Nat → XS) → Int32 → Int32 → Option ((Int32) ⊕ (Unit))) : Option ((Int32) ⊕ (Unit)) :=
  bd7 (fX7_hold Asz Anu Aba Amo Aco Hsz Hla Hce Bsz Bla Bce Tma Tlc Ttc day lim low hig thr off cre rcp pay sv nx SL z12 z15 z16) fun r_403 Hsz_404 Hla_405 Hce_406 sv_407 nx_408 SL_409 =>
  if z14 = 0 then
    fL_law_J868 scL scx ee mm qq hh bb Ksz Kcl Kke Asz Anu Aba Amo Aco Hsz_404 Hla_405 Hce_406 Bsz Bla Bce Tma Tlc Ttc day lim low hig thr off cre rcp pay sv_407 nx_408 SL_409 z7 z8 z10 z12 z15 z16 z17 s0 (-1) r_403 rec
  else
    if s0 = 0 then
      fL_law_J868 scL scx ee mm qq hh bb Ksz Kcl Kke Asz Anu Aba Amo Aco Hsz_404 Hla_405 Hce_406 Bsz Bla Bce Tma Tlc Ttc day lim low hig thr off cre rcp pay sv_407 nx_408 SL_409 z7 z8 z10 z12 z15 z16 z17 s0 (-3) r_403 rec
    else
      if z17 = 15 then
        fL_law_J868 scL scx ee mm qq hh bb Ksz Kcl Kke Asz Anu Aba Amo Aco Hsz_404 Hla_405 Hce_406 Bsz Bla Bce Tma Tlc Ttc day lim low hig thr off cre rcp pay sv_407 nx_408 SL_409 z7 z8 z10 z12 z15 z16 z17 s0 (-4) r_403 rec
      else
        ckI 6 18 <|
        fL_law_J868 scL scx ee mm qq hh bb Ksz Kcl Kke Asz Anu Aba Amo Aco Hsz_404 Hla_405 Hce_406 Bsz Bla Bce Tma Tlc Ttc day lim low hig thr off cre rcp pay sv_407 nx_408 SL_409 z7 z8 z10 z12 z15 z16 z17 s0 ((qq (6 : Int32).toNatClampNeg) + 1) r_403 rec
def fL_law_J672 (scL : Nat) (scx : Nat → Int32) (ee : Nat → Int32) (mm : Nat → Int64) (qq : Nat → Int32) (hh : Nat → Int32) (bb : Nat → Int32) (Ksz : Int32) (Kcl : Nat → Int32) (Kke : Nat → Int32) (Asz : Int32) (Anu : Nat → Int32) (Aba : Nat → Int32) (Amo : Nat → Int32) (Aco : Nat → Int64) (Hsz : Int32) (Hla : Int32) (Hce : Nat → Int32) (Bsz : Int32) (Bla : Int32) (Bce : Nat → Int32) (Tma : Int32) (Tlc : Int32) (Ttc : Nat → Int32) (day : Int32) (lim : Int32) (low : Int32) (hig : Int32) (thr : Int32) (off : Int64) (cre : Int64) (rcp : Int64) (pay : Int64) (sv : Int32) (nx : Int32) (SL : Nat → XS) (z7 : Int32) (z8 : Int32) (z10 : Int32) (z12 : Int32) (z13 : Int32) (z15 : Int32) (z17 : Int32) (z18 : Int32) (s0 : Int64) (s1 : Int64) (rec : (Nat → Int32) → (Nat → Int64) → (Nat → Int32) → (Nat → Int32) → (Nat → Int32) → Int32 → (Nat → Int32) → (Nat → Int32) → Int32 → (Nat → Int32) → (Nat → Int32) → (Nat → Int32) → (Nat → Int64) → Int32 → Int32 → (Nat → Int32) → Int32 → Int32 → (Nat → Int32) → Int32 → Int32 → (Nat → Int32) → Int32 → Int32 → Int32 → Int32 → Int32 → Int64 → Int64 → Int64 → Int64 → Int32 → Int32 → (Nat → XS) → Int32 → Int32 → Option ((Int32) ⊕ (Unit))) : Option ((Int32) ⊕ (Unit)) :=
  if s1 = s0 then
    if z17 = 0 then
      fL_law_J2283 scL scx ee mm qq hh bb Ksz Kcl Kke Asz Anu Aba Amo Aco Hsz Hla Hce Bsz Bla Bce Tma Tlc Ttc day lim low hig thr off cre rcp pay sv nx SL z7 z8 z10 rec
    else
      if z18 = 0 then
        fL_law_J2283 scL scx ee mm qq hh bb Ksz Kcl Kke Asz Anu Aba Amo Aco Hsz Hla Hce Bsz Bla Bce Tma Tlc Ttc day lim low hig thr off cre rcp pay sv nx SL z7 z8 z10 rec
      else
        ckI z12 25 <|
        ckI z12 25 <|
        lt_ (vp_updL mm z12.toNatClampNeg ((mm z12.toNatClampNeg) - z15.toInt64)) fun mm_457 =>
        ckI z13 25 <|
        ckI z13 25 <|
        lt_ (vp_updL mm_457 z13.toNatClampNeg ((mm_457 z13.toNatClampNeg) + z15.toInt64)) fun mm_460 =>
        bd3 (fL_enter ee mm_460 qq 3 z12 z13 z15) fun ee_461 mm_462 qq_463 =>
        fL_law_J2283 scL scx ee_461 mm_462 qq_463 hh bb Ksz Kcl Kke Asz Anu Aba Amo Aco Hsz Hla Hce Bsz Bla Bce Tma Tlc Ttc day lim low hig thr off cre rcp pay sv nx SL z7 z8 z10 rec
  else
    some (.inl 0)
def fL_law_J605 (scL : Nat) (scx : Nat → Int32) (ee : Nat → Int32) (mm : Nat → Int64) (qq : Nat → Int32) (hh : Nat → Int32) (bb : Nat → Int32) (Ksz : Int32) (Kcl : Nat → Int32) (Kke : Nat → Int32) (Asz : Int32) (Anu : Nat → Int32) (Aba : Nat → Int32) (Amo : Nat → Int32) (Aco : Nat → Int64) (Hsz : Int32) (Hla : Int32) (Hce : Nat → Int32) (Bsz : Int32) (Bla : Int32) (Bce : Nat → Int32) (Tma : Int32) (Tlc : Int32) (Ttc : Nat → Int32) (day : Int32) (lim : Int32) (low : Int32) (hig : Int32) (thr : Int32) (off : Int64) (cre : Int64) (rcp : Int64) (pay : Int64) (sv : Int32) (nx : Int32) (SL : Nat → XS) (z7 : Int32) (z8 : Int32) (z10 : Int32) (z12 : Int32) (z13 : Int32) (z15 : Int32) (z16 : Int32) (z17 : Int32) (s0 : Int32) (rec : (Nat → Int32) → (Nat → Int64) → (Nat → Int32) → (Nat → Int32) → (Nat → Int32) → Int32 → (Nat → Int32) → (Nat → Int32) → Int32 → (Nat → Int32) → (Nat → Int32) → (Nat → Int32) → (Nat → Int64) → Int32 → Int32 → (Nat → Int32) → Int32 → Int32 → (Nat → Int32) → Int32 → Int32 → (Nat → Int32) → Int32 → Int32 → Int32 → Int32 → Int32 → Int64 → Int64 → Int64 → Int64 → Int32 → Int32 → (Nat → XS) → Int32 → Int32 → Option ((Int32) ⊕ (Unit))) : Option ((Int32) ⊕ (Unit)) :=
  bd9 (fX7_transfer Asz Anu Aba Amo Aco Hsz Hla Hce Bsz Bla Bce Tma Tlc Ttc day lim low hig thr off cre rcp pay sv nx SL z12 z13 z15) fun r_438 Aba_439 Amo_440 Tma_441 Tlc_442 Ttc_443 sv_444 nx_445 SL_446 =>
  if z16 = 0 then
    fL_law_J672 scL scx ee mm qq hh bb Ksz Kcl Kke Asz Anu Aba_439 Amo_440 Aco Hsz Hla Hce Bsz Bla Bce Tma_441 Tlc_442 Ttc_443 day lim low hig thr off cre rcp pay sv_444 nx_445 SL_446 z7 z8 z10 z12 z13 z15 z17 s0 (-1) r_438.toInt64 rec
  else
    if z12 = z13 then
      fL_law_J672 scL scx ee mm qq hh bb Ksz Kcl Kke Asz Anu Aba_439 Amo_440 Aco Hsz Hla Hce Bsz Bla Bce Tma_441 Tlc_442 Ttc_443 day lim low hig thr off cre rcp pay sv_444 nx_445 SL_446 z7 z8 z10 z12 z13 z15 z17 s0 (-2) r_438.toInt64 rec
    else
      if z17 = 0 then
        fL_law_J672 scL scx ee mm qq hh bb Ksz Kcl Kke Asz Anu Aba_439 Amo_440 Aco Hsz Hla Hce Bsz Bla Bce Tma_441 Tlc_442 Ttc_443 day lim low hig thr off cre rcp pay sv_444 nx_445 SL_446 z7 z8 z10 z12 z13 z15 z17 s0 (-3) r_438.toInt64 rec
      else
        if s0 = 0 then
          fL_law_J672 scL scx ee mm qq hh bb Ksz Kcl Kke Asz Anu Aba_439 Amo_440 Aco Hsz Hla Hce Bsz Bla Bce Tma_441 Tlc_442 Ttc_443 day lim low hig thr off cre rcp pay sv_444 nx_445 SL_446 z7 z8 z10 z12 z13 z15 z17 s0 (-4) r_438.toInt64 rec
        else
          ckI z12 25 <|
          fL_law_J672 scL scx ee mm qq hh bb Ksz Kcl Kke Asz Anu Aba_439 Amo_440 Aco Hsz Hla Hce Bsz Bla Bce Tma_441 Tlc_442 Ttc_443 day lim low hig thr off cre rcp pay sv_444 nx_445 SL_446 z7 z8 z10 z12 z13 z15 z17 s0 ((mm z12.toNatClampNeg) - z15.toInt64) r_438.toInt64 rec
def fL_law_J583 (scL : Nat) (scx : Nat → Int32) (ee : Nat → Int32) (mm : Nat → Int64) (qq : Nat → Int32) (hh : Nat → Int32) (bb : Nat → Int32) (Ksz : Int32) (Kcl : Nat → Int32) (Kke : Nat → Int32) (Asz : Int32) (Anu : Nat → Int32) (Aba : Nat → Int32) (Amo : Nat → Int32) (Aco : Nat → Int64) (Hsz : Int32) (Hla : Int32) (Hce : Nat → Int32) (Bsz : Int32) (Bla : Int32) (Bce : Nat → Int32) (Tma : Int32) (Tlc : Int32) (Ttc : Nat → Int32) (day : Int32) (lim : Int32) (low : Int32) (hig : Int32) (thr : Int32) (off : Int64) (cre : Int64) (rcp : Int64) (pay : Int64) (sv : Int32) (nx : Int32) (SL : Nat → XS) (z7 : Int32) (z8 : Int32) (z10 : Int32) (z12 : Int32) (z13 : Int32) (z15 : Int32) (z16 : Int32) (s0 : Int32) (rec : (Nat → Int32) → (Nat → Int64) → (Nat → Int32) → (Nat → Int32) → (Nat → Int32) → Int32 → (Nat → Int32) → (Nat → Int32) → Int32 → (Nat → Int32) → (Nat → Int32) → (Nat → Int32) → (Nat → Int64) → Int32 → Int32 → (Nat → Int32) → Int32 → Int32 → (Nat → Int32) → Int32 → Int32 → (Nat → Int32) → Int32 → Int32 → Int32 → Int32 → Int32 → Int64 → Int64 → Int64 → Int64 → Int32 → Int32 → (Nat → XS) → Int32 → Int32 → Option ((Int32) ⊕ (Unit))) : Option ((Int32) ⊕ (Unit)) :=
  ckI z13 25 <|
  if 1000000000 < ((mm z13.toNatClampNeg) + z15.toInt64) then
    fL_law_J605 scL scx ee mm qq hh bb Ksz Kcl Kke Asz Anu Aba Amo Aco Hsz Hla Hce Bsz Bla Bce Tma Tlc Ttc day lim low hig thr off cre rcp pay sv nx SL z7 z8 z10 z12 z13 z15 z16 s0 0 rec
  else
    fL_law_J605 scL scx ee mm qq hh bb Ksz Kcl Kke Asz Anu Aba Amo Aco Hsz Hla Hce Bsz Bla Bce Tma Tlc Ttc day lim low hig thr off cre rcp pay sv nx SL z7 z8 z10 z12 z13 z15 z16 s0 1 rec
def fL_law_J550 (scL : Nat) (scx : Nat → Int32) (ee : Nat → Int32) (mm : Nat → Int64) (qq : Nat → Int32) (hh : Nat → Int32) (bb : Nat → Int32) (Ksz : Int32) (Kcl : Nat → Int32) (Kke : Nat → Int32) (Asz : Int32) (Anu : Nat → Int32) (Aba : Nat → Int32) (Amo : Nat → Int32) (Aco : Nat → Int64) (Hsz : Int32) (Hla : Int32) (Hce : Nat → Int32) (Bsz : Int32) (Bla : Int32) (Bce : Nat → Int32) (Tma : Int32) (Tlc : Int32) (Ttc : Nat → Int32) (day : Int32) (lim : Int32) (low : Int32) (hig : Int32) (thr : Int32) (off : Int64) (cre : Int64) (rcp : Int64) (pay : Int64) (sv : Int32) (nx : Int32) (SL : Nat → XS) (z7 : Int32) (z8 : Int32) (z10 : Int32) (z12 : Int32) (z13 : Int32) (z15 : Int32) (s0 : Int32) (rec : (Nat → Int32) → (Nat → Int64) → (Nat → Int32) → (Nat → Int32) → (Nat → Int32) → Int32 → (Nat → Int32) → (Nat → Int32) → Int32 → (Nat → Int32) → (Nat → Int32) → (Nat → Int32) → (Nat → Int64) → Int32 → Int32 → (Nat → Int32) → Int32 → Int32 → (Nat → Int32) → Int32 → Int32 → (Nat → Int32) → Int32 → Int32 → Int32 → Int32 → Int32 → Int64 → Int64 → Int64 → Int64 → Int32 → Int32 → (Nat → XS) → Int32 → Int32 → Option ((Int32) ⊕ (Unit))) : Option ((Int32) ⊕ (Unit)) :=
  if s0 = 0 then
    fL_law_J583 scL scx ee mm qq hh bb Ksz Kcl Kke Asz Anu Aba Amo Aco Hsz Hla Hce Bsz Bla Bce Tma Tlc Ttc day lim low hig thr off cre rcp pay sv nx SL z7 z8 z10 z12 z13 z15 s0 0 rec
  else
    if z12 = z13 then
      fL_law_J583 scL scx ee mm qq hh bb Ksz Kcl Kke Asz Anu Aba Amo Aco Hsz Hla Hce Bsz Bla Bce Tma Tlc Ttc day lim low hig thr off cre rcp pay sv nx SL z7 z8 z10 z12 z13 z15 s0 0 rec
    else
      bd1 (fL_free mm qq hh z12) fun r_467 =>
      if r_467 < z15 then
        fL_law_J583 scL scx ee mm qq hh bb Ksz Kcl Kke Asz Anu Aba Amo Aco Hsz Hla Hce Bsz Bla Bce Tma Tlc Ttc day lim low hig thr off cre rcp pay sv nx SL z7 z8 z10 z12 z13 z15 s0 0 rec
      else
        fL_law_J583 scL scx ee mm qq hh bb Ksz Kcl Kke Asz Anu Aba Amo Aco Hsz Hla Hce Bsz Bla Bce Tma Tlc Ttc day lim low hig thr off cre rcp pay sv nx SL z7 z8 z10 z12 z13 z15 s0 1 rec
def fL_law_J476 (scL : Nat) (scx : Nat → Int32) (ee : Nat → Int32) (mm : Nat → Int64) (qq : Nat → Int32) (hh : Nat → Int32) (bb : Nat → Int32) (Ksz : Int32) (Kcl : Nat → Int32) (Kke : Nat → Int32) (Asz : Int32) (Anu : Nat → Int32) (Aba : Nat → Int32) (Amo : Nat → Int32) (Aco : Nat → Int64) (Hsz : Int32) (Hla : Int32) (Hce : Nat → Int32) (Bsz : Int32) (Bla : Int32) (Bce : Nat → Int32) (Tma : Int32) (Tlc : Int32) (Ttc : Nat → Int32) (day : Int32) (lim : Int32) (low : Int32) (hig : Int32) (thr : Int32) (off : Int64) (cre : Int64) (rcp : Int64) (pay : Int64) (sv : Int32) (nx : Int32) (SL : Nat → XS) (z7 : Int32) (z8 : Int32) (z10 : Int32) (z12 : Int32) (z15 : Int32) (z16 : Int32) (s0 : Int64) (s1 : Int64) (rec : (Nat → Int32) → (Nat → Int64) → (Nat → Int32) → (Nat → Int32) → (Nat → Int32) → Int32 → (Nat → Int32) → (Nat → Int32) → Int32 → (Nat → Int32) → (Nat → Int32) → (Nat → Int32) → (Nat → Int64) → Int32 → Int32 → (Nat → Int32) → Int32 → Int32 → (Nat → Int32) → Int32 → Int32 → (Nat → Int32) → Int32 → Int32 → Int32 → Int32 → Int32 → Int64 → Int64 → Int64 → Int64 → Int32 → Int32 → (Nat → XS) → Int32 → Int32 → Option ((Int32) ⊕ (Unit))) : Option ((Int32) ⊕ (Unit)) :=
  if s1 = s0 then
    if z16 = 0 then
      fL_law_J2283 scL scx ee mm qq hh bb Ksz Kcl Kke Asz Anu Aba Amo Aco Hsz Hla Hce Bsz Bla Bce Tma Tlc Ttc day lim low hig thr off cre rcp pay sv nx SL z7 z8 z10 rec
    else
      ckI z12 25 <|
      ckI z12 25 <|
      lt_ (vp_updL mm z12.toNatClampNeg ((mm z12.toNatClampNeg) - z15.toInt64)) fun mm_490 =>
      ckI 23 25 <|
      ckI 23 25 <|
      lt_ (vp_updL mm_490 (23 : Int32).toNatClampNeg ((mm_490 (23 : Int32).toNatClampNeg) + z15.toInt64)) fun mm_493 =>
      bd3 (fL_enter ee mm_493 qq 2 z12 0 z15) fun ee_494 mm_495 qq_496 =>
      fL_law_J2283 scL scx ee_494 mm_495 qq_496 hh bb Ksz Kcl Kke Asz Anu Aba Amo Aco Hsz Hla Hce Bsz Bla Bce Tma Tlc Ttc day lim low hig thr off cre rcp pay sv nx SL z7 z8 z10 rec
  else
    some (.inl 0)
def fL_law_J435 (scL : Nat) (scx : Nat → Int32) (ee : Nat → Int32) (mm : Nat → Int64) (qq : Nat → Int32) (hh : Nat → Int32) (bb : Nat → Int32) (Ksz : Int32) (Kcl : Nat → Int32) (Kke : Nat → Int32) (Asz : Int32) (Anu : Nat → Int32) (Aba : Nat → Int32) (Amo : Nat → Int32) (Aco : Nat → Int64) (Hsz : Int32) (Hla : Int32) (Hce : Nat → Int32) (Bsz : Int32) (Bla : Int32) (Bce : Nat → Int32) (Tma : Int32) (Tlc : Int32) (Ttc : Nat → Int32) (day : Int32) (lim : Int32) (low : Int32) (hig : Int32) (thr : Int32) (off : Int64) (cre : Int64) (rcp : Int64) (pay : Int64) (sv : Int32) (nx : Int32) (SL : Nat → XS) (z7 : Int32) (z8 : Int32) (z10 : Int32) (z12 : Int32) (z14 : Int32) (z15 : Int32) (s0 : Int32) (rec : (Nat → Int32) → (Nat → Int64) → (Nat → Int32) → (Nat → Int32) → (Nat → Int32) → Int32 → (Nat → Int32) → (Nat → Int32) → Int32 → (Nat → Int32) → (Nat → Int32) → (Nat → Int32) → (Nat → Int64) → Int32 → Int32 → (Nat → Int32) → Int32 → Int32 → (Nat → Int32) → Int32 → Int32 → (Nat → Int32) → Int32 → Int32 → Int32 → Int32 → Int32 → Int64 → Int64 → Int64 → Int64 → Int32 → Int32 → (Nat → XS) → Int32 → Int32 → Option ((Int32) ⊕ (Unit))) : Option ((Int32) ⊕ (Unit)) :=
  bd10 (fX7_pay Asz Anu Aba Amo Aco Hsz Hla Hce Bsz Bla Bce Tma Tlc Ttc day lim low hig thr off cre rcp pay sv nx SL z12 z15) fun r_473 Aba_474 Amo_475 Tma_476 Tlc_477 Ttc_478 pay_479 sv_480 nx_481 SL_482 =>
  if z14 = 0 then
    fL_law_J476 scL scx ee mm qq hh bb Ksz Kcl Kke Asz Anu Aba_474 Amo_475 Aco Hsz Hla Hce Bsz Bla Bce Tma_476 Tlc_477 Ttc_478 day lim low hig thr off cre rcp pay_479 sv_480 nx_481 SL_482 z7 z8 z10 z12 z15 s0 (-1) r_473.toInt64 rec
  else
    if s0 = 0 then
      fL_law_J476 scL scx ee mm qq hh bb Ksz Kcl Kke Asz Anu Aba_474 Amo_475 Aco Hsz Hla Hce Bsz Bla Bce Tma_476 Tlc_477 Ttc_478 day lim low hig thr off cre rcp pay_479 sv_480 nx_481 SL_482 z7 z8 z10 z12 z15 s0 (-3) r_473.toInt64 rec
    else
      ckI z12 25 <|
      fL_law_J476 scL scx ee mm qq hh bb Ksz Kcl Kke Asz Anu Aba_474 Amo_475 Aco Hsz Hla Hce Bsz Bla Bce Tma_476 Tlc_477 Ttc_478 day lim low hig thr off cre rcp pay_479 sv_480 nx_481 SL_482 z7 z8 z10 z12 z15 s0 ((mm z12.toNatClampNeg) - z15.toInt64) r_473.toInt64 rec
def fL_law_J352 (scL : Nat) (scx : Nat → Int32) (ee : Nat → Int32) (mm : Nat → Int64) (qq : Nat → Int32) (hh : Nat → Int32) (bb : Nat → Int32) (Ksz : Int32) (Kcl : Nat → Int32) (Kke : Nat → Int32) (Asz : Int32) (Anu : Nat → Int32) (Aba : Nat → Int32) (Amo : Nat → Int32) (Aco : Nat → Int64) (Hsz : Int32) (Hla : Int32) (Hce : Nat → Int32) (Bsz : Int32) (Bla : Int32) (Bce : Nat → Int32) (Tma : Int32) (Tlc : Int32) (Ttc : Nat → Int32) (day : Int32) (lim : Int32) (low : Int32) (hig : Int32) (thr : Int32) (off : Int64) (cre : Int64) (rcp : Int64) (pay : Int64) (sv : Int32) (nx : Int32) (SL : Nat → XS) (z7 : Int32) (z8 : Int32) (z10 : Int32) (z12 : Int32) (z14 : Int32) (z15 : Int32) (z16 : Int32) (s0 : Int64) (s1 : Int64) (rec : (Nat → Int32) → (Nat → Int64) → (Nat → Int32) → (Nat → Int32) → (Nat → Int32) → Int32 → (Nat → Int32) → (Nat → Int32) → Int32 → (Nat → Int32) → (Nat → Int32) → (Nat → Int32) → (Nat → Int64) → Int32 → Int32 → (Nat → Int32) → Int32 → Int32 → (Nat → Int32) → Int32 → Int32 → (Nat → Int32) → Int32 → Int32 → Int32 → Int32 → Int32 → Int64 → Int64 → Int64 → Int64 → Int32 → Int32 → (Nat → XS) → Int32 → Int32 → Option ((Int32) ⊕ (Unit))) : Option ((Int32) ⊕ (Unit)) :=
  if s1 = s0 then
    if z14 = 0 then
      fL_law_J2283 scL scx ee mm qq hh bb Ksz Kcl Kke Asz Anu Aba Amo Aco Hsz Hla Hce Bsz Bla Bce Tma Tlc Ttc day lim low hig thr off cre rcp pay sv nx SL z7 z8 z10 rec
    else
      if z16 = 0 then
        fL_law_J2283 scL scx ee mm qq hh bb Ksz Kcl Kke Asz Anu Aba Amo Aco Hsz Hla Hce Bsz Bla Bce Tma Tlc Ttc day lim low hig thr off cre rcp pay sv nx SL z7 z8 z10 rec
      else
        ckI z12 25 <|
        ckI z12 25 <|
        lt_ (vp_updL mm z12.toNatClampNeg ((mm z12.toNatClampNeg) + z15.toInt64)) fun mm_522 =>
        ckI 22 25 <|
        ckI 22 25 <|
        lt_ (vp_updL mm_522 (22 : Int32).toNatClampNeg ((mm_522 (22 : Int32).toNatClampNeg) + z15.toInt64)) fun mm_525 =>
        bd3 (fL_enter ee mm_525 qq 1 z12 0 z15) fun ee_526 mm_527 qq_528 =>
        fL_law_J2283 scL scx ee_526 mm_527 qq_528 hh bb Ksz Kcl Kke Asz Anu Aba Amo Aco Hsz Hla Hce Bsz Bla Bce Tma Tlc Ttc day lim low hig thr off cre rcp pay sv nx SL z7 z8 z10 rec
  else
    some (.inl 0)
def fL_law_J311 (scL : Nat) (scx : Nat → Int32) (ee : Nat → Int32) (mm : Nat → Int64) (qq : Nat → Int32) (hh : Nat → Int32) (bb : Nat → Int32) (Ksz : Int32) (Kcl : Nat → Int32) (Kke : Nat → Int32) (Asz : Int32) (Anu : Nat → Int32) (Aba : Nat → Int32) (Amo : Nat → Int32) (Aco : Nat → Int64) (Hsz : Int32) (Hla : Int32) (Hce : Nat → Int32) (Bsz : Int32) (Bla : Int32) (Bce : Nat → Int32) (Tma : Int32) (Tlc : Int32) (Ttc : Nat → Int32) (day : Int32) (lim : Int32) (low : Int32) (hig : Int32) (thr : Int32) (off : Int64) (cre : Int64) (rcp : Int64) (pay : Int64) (sv : Int32) (nx : Int32) (SL : Nat → XS) (z7 : Int32) (z8 : Int32) (z10 : Int32) (z12 : Int32) (z14 : Int32) (z15 : Int32) (s0 : Int32) (rec : (Nat → Int32) → (Nat → Int64) → (Nat → Int32) → (Nat → Int32) → (Nat → Int32) → Int32 → (Nat → Int32) → (Nat → Int32) → Int32 → (Nat → Int32) → (Nat → Int32) → (Nat → Int32) → (Nat → Int64) → Int32 → Int32 → (Nat → Int32) → Int32 → Int32 → (Nat → Int32) → Int32 → Int32 → (Nat → Int32) → Int32 → Int32 → Int32 → Int32 → Int32 → Int64 → Int64 → Int64 → Int64 → Int32 → Int32 → (Nat → XS) → Int32 → Int32 → Option ((Int32) ⊕ (Unit))) : Option ((Int32) ⊕ (Unit)) :=
  bd10 (fX7_receive Asz Anu Aba Amo Aco Hsz Hla Hce Bsz Bla Bce Tma Tlc Ttc day lim low hig thr off cre rcp pay sv nx SL z12 z15) fun r_504 Aba_505 Amo_506 Tma_507 Tlc_508 Ttc_509 rcp_510 sv_511 nx_512 SL_513 =>
  if z14 = 0 then
    fL_law_J352 scL scx ee mm qq hh bb Ksz Kcl Kke Asz Anu Aba_505 Amo_506 Aco Hsz Hla Hce Bsz Bla Bce Tma_507 Tlc_508 Ttc_509 day lim low hig thr off cre rcp_510 pay sv_511 nx_512 SL_513 z7 z8 z10 z12 z14 z15 s0 (-1) r_504.toInt64 rec
  else
    if s0 = 0 then
      fL_law_J352 scL scx ee mm qq hh bb Ksz Kcl Kke Asz Anu Aba_505 Amo_506 Aco Hsz Hla Hce Bsz Bla Bce Tma_507 Tlc_508 Ttc_509 day lim low hig thr off cre rcp_510 pay sv_511 nx_512 SL_513 z7 z8 z10 z12 z14 z15 s0 (-4) r_504.toInt64 rec
    else
      ckI z12 25 <|
      fL_law_J352 scL scx ee mm qq hh bb Ksz Kcl Kke Asz Anu Aba_505 Amo_506 Aco Hsz Hla Hce Bsz Bla Bce Tma_507 Tlc_508 Ttc_509 day lim low hig thr off cre rcp_510 pay sv_511 nx_512 SL_513 z7 z8 z10 z12 z14 z15 s0 ((mm z12.toNatClampNeg) + z15.toInt64) r_504.toInt64 rec
def fL_law_J249 (scL : Nat) (scx : Nat → Int32) (ee : Nat → Int32) (mm : Nat → Int64) (qq : Nat → Int32) (hh : Nat → Int32) (bb : Nat → Int32) (Ksz : Int32) (Kcl : Nat → Int32) (Kke : Nat → Int32) (Asz : Int32) (Anu : Nat → Int32) (Aba : Nat → Int32) (Amo : Nat → Int32) (Aco : Nat → Int64) (Hsz : Int32) (Hla : Int32) (Hce : Nat → Int32) (Bsz : Int32) (Bla : Int32) (Bce : Nat → Int32) (Tma : Int32) (Tlc : Int32) (Ttc : Nat → Int32) (day : Int32) (lim : Int32) (low : Int32) (hig : Int32) (thr : Int32) (off : Int64) (cre : Int64) (rcp : Int64) (pay : Int64) (sv : Int32) (nx : Int32) (SL : Nat → XS) (z7 : Int32) (z8 : Int32) (z10 : Int32) (z12 : Int32) (z14 : Int32) (s0 : Int32) (s1 : Int32) (rec : (Nat → Int32) → (Nat → Int64) → (Nat → Int32) → (Nat → Int32) → (Nat → Int32) → Int32 → (Nat → Int32) → (Nat → Int32) → Int32 → (Nat → Int32) → (Nat → Int32) → (Nat → Int32) → (Nat → Int64) → Int32 → Int32 → (Nat → Int32) → Int32 → Int32 → (Nat → Int32) → Int32 → Int32 → (Nat → Int32) → Int32 → Int32 → Int32 → Int32 → Int32 → Int64 → Int64 → Int64 → Int64 → Int32 → Int32 → (Nat → XS) → Int32 → Int32 → Option ((Int32) ⊕ (Unit))) : Option ((Int32) ⊕ (Unit)) :=
  if s1 = s0 then
    if z14 = 0 then
      ckI 0 18 <|
      ckI (10 + z12) 18 <|
      lt_ (upd qq (10 + z12).toNatClampNeg (qq (0 : Int32).toNatClampNeg)) fun qq_548 =>
      ckI z12 25 <|
      lt_ (vp_updL mm z12.toNatClampNeg 0) fun mm_550 =>
      ckI (10 + z12) 25 <|
      lt_ (vp_updL mm_550 (10 + z12).toNatClampNeg 0) fun mm_552 =>
      fL_law_J2283 scL scx ee mm_552 qq_548 hh bb Ksz Kcl Kke Asz Anu Aba Amo Aco Hsz Hla Hce Bsz Bla Bce Tma Tlc Ttc day lim low hig thr off cre rcp pay sv nx SL z7 z8 z10 rec
    else
      fL_law_J2283 scL scx ee mm qq hh bb Ksz Kcl Kke Asz Anu Aba Amo Aco Hsz Hla Hce Bsz Bla Bce Tma Tlc Ttc day lim low hig thr off cre rcp pay sv nx SL z7 z8 z10 rec
  else
    some (.inl 0)
def fL_law_J216 (scL : Nat) (scx : Nat → Int32) (ee : Nat → Int32) (mm : Nat → Int64) (qq : Nat → Int32) (hh : Nat → Int32) (bb : Nat → Int32) (Ksz : Int32) (Kcl : Nat → Int32) (Kke : Nat → Int32) (Asz : Int32) (Anu : Nat → Int32) (Aba : Nat → Int32) (Amo : Nat → Int32) (Aco : Nat → Int64) (Hsz : Int32) (Hla : Int32) (Hce : Nat → Int32) (Bsz : Int32) (Bla : Int32) (Bce : Nat → Int32) (Tma : Int32) (Tlc : Int32) (Ttc : Nat → Int32) (day : Int32) (lim : Int32) (low : Int32) (hig : Int32) (thr : Int32) (off : Int64) (cre : Int64) (rcp : Int64) (pay : Int64) (sv : Int32) (nx : Int32) (SL : Nat → XS) (z7 : Int32) (z8 : Int32) (z9 : Int32) (z10 : Int32) (z11 : Int32) (z12 : Int32) (z13 : Int32) (z14 : Int32) (s0 : Int32) (s1 : Int32) (s2 : Int32) (rec : (Nat → Int32) → (Nat → Int64) → (Nat → Int32) → (Nat → Int32) → (Nat → Int32) → Int32 → (Nat → Int32) → (Nat → Int32) → Int32 → (Nat → Int32) → (Nat → Int32) → (Nat → Int32) → (Nat → Int64) → Int32 → Int32 → (Nat → Int32) → Int32 → Int32 → (Nat → Int32) → Int32 → Int32 → (Nat → Int32) → Int32 → Int32 → Int32 → Int32 → Int32 → Int64 → Int64 → Int64 → Int64 → Int32 → Int32 → (Nat → XS) → Int32 → Int32 → Option ((Int32) ⊕ (Unit))) : Option ((Int32) ⊕ (Unit)) :=
  bd1 (fL_low s1 s0) fun r_35 =>
  lt_ (s2 + r_35) fun x15_37 =>
  if z11 = 0 then
    bd9 (fX7_open Asz Anu Aba Amo Aco Hsz Hla Hce Bsz Bla Bce Tma Tlc Ttc day lim low hig thr off cre rcp pay sv nx SL z12) fun r_531 Asz_532 Anu_533 Aba_534 Amo_535 Aco_536 sv_537 nx_538 SL_539 =>
    if z14 = 0 then
      bd1 (fL_clients qq) fun r_542 =>
      fL_law_J249 scL scx ee mm qq hh bb Ksz Kcl Kke Asz_532 Anu_533 Aba_534 Amo_535 Aco_536 Hsz Hla Hce Bsz Bla Bce Tma Tlc Ttc day lim low hig thr off cre rcp pay sv_537 nx_538 SL_539 z7 z8 z10 z12 z14 (r_542 + 1) r_531 rec
    else
      fL_law_J249 scL scx ee mm qq hh bb Ksz Kcl Kke Asz_532 Anu_533 Aba_534 Amo_535 Aco_536 Hsz Hla Hce Bsz Bla Bce Tma Tlc Ttc day lim low hig thr off cre rcp pay sv_537 nx_538 SL_539 z7 z8 z10 z12 z14 (-3) r_531 rec
  else
    if 4 ≤ z11 then
      if 6 ≤ z11 then
        if 8 ≤ z11 then
          if 10 ≤ z11 then
            if z11 = 10 then
              bd1 (fL_low z10 20) fun r_373 =>
              ckI (3 * r_373) 60 <|
              lt_ (hh (3 * r_373).toNatClampNeg) fun x17_376 =>
              ckI (3 * r_373) 60 <|
              lt_ (upd hh (3 * r_373).toNatClampNeg 0) fun hh_378 =>
              bd6 (fX7_release Asz Anu Aba Amo Aco Hsz Hla Hce Bsz Bla Bce Tma Tlc Ttc day lim low hig thr off cre rcp pay sv nx SL (r_373 + 1)) fun r_379 Hsz_380 Hce_381 sv_382 nx_383 SL_384 =>
              if x17_376 ≤ 0 then
                if r_379 = (-1) then
                  fL_law_J2283 scL scx ee mm qq hh_378 bb Ksz Kcl Kke Asz Anu Aba Amo Aco Hsz_380 Hla Hce_381 Bsz Bla Bce Tma Tlc Ttc day lim low hig thr off cre rcp pay sv_382 nx_383 SL_384 z7 z8 z10 rec
                else
                  some (.inl 0)
              else
                bd1 (fL_free mm qq hh_378 x17_376) fun r_388 =>
                if r_379 = r_388 then
                  fL_law_J2283 scL scx ee mm qq hh_378 bb Ksz Kcl Kke Asz Anu Aba Amo Aco Hsz_380 Hla Hce_381 Bsz Bla Bce Tma Tlc Ttc day lim low hig thr off cre rcp pay sv_382 nx_383 SL_384 z7 z8 z10 rec
                else
                  some (.inl 0)
            else
              if z11 = 11 then
                ckI 7 18 <|
                if (qq (7 : Int32).toNatClampNeg) = 20 then
                  rec ee mm qq hh bb Ksz Kcl Kke Asz Anu Aba Amo Aco Hsz Hla Hce Bsz Bla Bce Tma Tlc Ttc day lim low hig thr off cre rcp pay sv nx SL z7 (z8 + 1)
                else
                  bd1 (fL_law_L1029 bb z7 z8 z10 z12 z14 x15_37 2147483648 0 0) fun x16_346 =>
                    bd7 (fX7_bill Asz Anu Aba Amo Aco Hsz Hla Hce Bsz Bla Bce Tma Tlc Ttc day lim low hig thr off cre rcp pay sv nx SL z12 x15_37) fun r_347 Bsz_348 Bla_349 Bce_350 sv_351 nx_352 SL_353 =>
                    if z14 = 0 then
                      fL_law_J1095 scL scx ee mm qq hh bb Ksz Kcl Kke Asz Anu Aba Amo Aco Hsz Hla Hce Bsz_348 Bla_349 Bce_350 Tma Tlc Ttc day lim low hig thr off cre rcp pay sv_351 nx_352 SL_353 z7 z8 z10 z12 z14 x15_37 x16_346 (-1) r_347 rec
                    else
                      if x16_346 = 15 then
                        fL_law_J1095 scL scx ee mm qq hh bb Ksz Kcl Kke Asz Anu Aba Amo Aco Hsz Hla Hce Bsz_348 Bla_349 Bce_350 Tma Tlc Ttc day lim low hig thr off cre rcp pay sv_351 nx_352 SL_353 z7 z8 z10 z12 z14 x15_37 x16_346 (-4) r_347 rec
                      else
                        ckI 7 18 <|
                        fL_law_J1095 scL scx ee mm qq hh bb Ksz Kcl Kke Asz Anu Aba Amo Aco Hsz Hla Hce Bsz_348 Bla_349 Bce_350 Tma Tlc Ttc day lim low hig thr off cre rcp pay sv_351 nx_352 SL_353 z7 z8 z10 z12 z14 x15_37 x16_346 ((qq (7 : Int32).toNatClampNeg) + 1) r_347 rec
              else
                if z11 = 12 then
                  ckI 7 18 <|
                  if (qq (7 : Int32).toNatClampNeg) = 0 then
                    fL_law_J1186 scL scx ee mm qq hh bb Ksz Kcl Kke Asz Anu Aba Amo Aco Hsz Hla Hce Bsz Bla Bce Tma Tlc Ttc day lim low hig thr off cre rcp pay sv nx SL z7 z8 z10 0 rec
                  else
                    ckI 7 18 <|
                    bd1 (fL_low z10 (qq (7 : Int32).toNatClampNeg)) fun r_291 =>
                    fL_law_J1186 scL scx ee mm qq hh bb Ksz Kcl Kke Asz Anu Aba Amo Aco Hsz Hla Hce Bsz Bla Bce Tma Tlc Ttc day lim low hig thr off cre rcp pay sv nx SL z7 z8 z10 r_291 rec
                else
                  if 15 ≤ z11 then
                    if z11 = 15 then
                      bd1 (fL_low (z9 >>> (6 &&& 31)) 2) fun r_178 =>
                      if r_178 = 0 then
                        bd1 (fL_low z10 300000) fun r_221 =>
                        fL_law_J1658 scL scx ee mm qq hh bb Ksz Kcl Kke Asz Anu Aba Amo Aco Hsz Hla Hce Bsz Bla Bce Tma Tlc Ttc day lim low hig thr off cre rcp pay sv nx SL z7 z8 z9 z10 r_221 rec
                      else
                        bd1 (fL_low z10 900000000) fun r_181 =>
                        fL_law_J1658 scL scx ee mm qq hh bb Ksz Kcl Kke Asz Anu Aba Amo Aco Hsz Hla Hce Bsz Bla Bce Tma Tlc Ttc day lim low hig thr off cre rcp pay sv nx SL z7 z8 z9 z10 r_181 rec
                    else
                      if z11 = 16 then
                        ckI 5 18 <|
                        if (qq (5 : Int32).toNatClampNeg) = 0 then
                          rec ee mm qq hh bb Ksz Kcl Kke Asz Anu Aba Amo Aco Hsz Hla Hce Bsz Bla Bce Tma Tlc Ttc day lim low hig thr off cre rcp pay sv nx SL z7 (z8 + 1)
                        else
                          ckI 5 18 <|
                          if z7 = (qq (5 : Int32).toNatClampNeg) then
                            rec ee mm qq hh bb Ksz Kcl Kke Asz Anu Aba Amo Aco Hsz Hla Hce Bsz Bla Bce Tma Tlc Ttc day lim low hig thr off cre rcp pay sv nx SL z7 (z8 + 1)
                          else
                            ckI 5 18 <|
                            lt_ (6 * ((qq (5 : Int32).toNatClampNeg) - (qq (5 : Int32).toNatClampNeg) / 10 * 10)) fun x16_87 =>
                            ckI (x16_87 + 1) 60 <|
                            if (ee (x16_87 + 1).toNatClampNeg) = 1 then
                              ckI (x16_87 + 2) 60 <|
                              fL_law_J1843 scL scx ee mm qq hh bb Ksz Kcl Kke Asz Anu Aba Amo Aco Hsz Hla Hce Bsz Bla Bce Tma Tlc Ttc day lim low hig thr off cre rcp pay sv nx SL z7 z8 z10 x16_87 (ee (x16_87 + 2).toNatClampNeg) rec
                            else
                              ckI (x16_87 + 1) 60 <|
                              if (ee (x16_87 + 1).toNatClampNeg) = 3 then
                                ckI (x16_87 + 3) 60 <|
                                fL_law_J1843 scL scx ee mm qq hh bb Ksz Kcl Kke Asz Anu Aba Amo Aco Hsz Hla Hce Bsz Bla Bce Tma Tlc Ttc day lim low hig thr off cre rcp pay sv nx SL z7 z8 z10 x16_87 (ee (x16_87 + 3).toNatClampNeg) rec
                              else
                                fL_law_J1843 scL scx ee mm qq hh bb Ksz Kcl Kke Asz Anu Aba Amo Aco Hsz Hla Hce Bsz Bla Bce Tma Tlc Ttc day lim low hig thr off cre rcp pay sv nx SL z7 z8 z10 x16_87 0 rec
                      else
                        bd1 (fL_law_L2173 bb z7 z8 z10 z12 z14 2147483648 0 0) fun x16_53 =>
                          if z14 = 0 then
                            fL_law_J2232 scL scx ee mm qq hh bb Ksz Kcl Kke Asz Anu Aba Amo Aco Hsz Hla Hce Bsz Bla Bce Tma Tlc Ttc day lim low hig thr off cre rcp pay sv nx SL z7 z8 z10 z12 z14 0 rec
                          else
                            ckI z12 25 <|
                            if (mm z12.toNatClampNeg) = 0 then
                              if x16_53 = 0 then
                                fL_law_J2232 scL scx ee mm qq hh bb Ksz Kcl Kke Asz Anu Aba Amo Aco Hsz Hla Hce Bsz Bla Bce Tma Tlc Ttc day lim low hig thr off cre rcp pay sv nx SL z7 z8 z10 z12 z14 1 rec
                              else
                                fL_law_J2232 scL scx ee mm qq hh bb Ksz Kcl Kke Asz Anu Aba Amo Aco Hsz Hla Hce Bsz Bla Bce Tma Tlc Ttc day lim low hig thr off cre rcp pay sv nx SL z7 z8 z10 z12 z14 0 rec
                            else
                              fL_law_J2232 scL scx ee mm qq hh bb Ksz Kcl Kke Asz Anu Aba Amo Aco Hsz Hla Hce Bsz Bla Bce Tma Tlc Ttc day lim low hig thr off cre rcp pay sv nx SL z7 z8 z10 z12 z14 0 rec
                  else
                    bd1 (fL_low z10 70) fun r_223 =>
                    lt_ (1 + r_223) fun x16_225 =>
                    if z14 = 0 then
                      bd1 (fX7_interestIn Asz Anu Aba Aco day lim low hig thr z12 x16_225) fun r_227 =>
                      if r_227 = (-1) then
                        bd1 (fX7_payableOn Asz Anu Aba Aco Hsz Hce day lim low hig thr z12 1) fun r_230 =>
                        if r_230 = (-1) then
                          fL_law_J1596 scL scx ee mm qq hh bb Ksz Kcl Kke Asz Anu Aba Amo Aco Hsz Hla Hce Bsz Bla Bce Tma Tlc Ttc day lim low hig thr off cre rcp pay sv nx SL z7 z8 z10 x16_225 rec
                        else
                          some (.inl 0)
                      else
                        some (.inl 0)
                    else
                      ckI z12 25 <|
                      lt_ (mm z12.toNatClampNeg) fun x19_256 =>
                      ckI (10 + z12) 25 <|
                      lt_ (mm (10 + z12).toNatClampNeg) fun x21_258 =>
                      bd3 (fL_law_L1423 qq hh z7 z8 z10 z12 x15_37 x16_225 x19_256 x21_258 2147483648 mm 0 (-6) 0) fun mm_275 x17_276 x23_277 =>
                        ckI z12 25 <|
                        lt_ (vp_updL mm_275 z12.toNatClampNeg x19_256) fun mm_279 =>
                        ckI (10 + z12) 25 <|
                        lt_ (vp_updL mm_279 (10 + z12).toNatClampNeg x21_258) fun mm_281 =>
                        bd1 (fX7_interestIn Asz Anu Aba Aco day lim low hig thr z12 x16_225) fun r_282 =>
                        if r_282.toInt64 = x17_276 then
                          bd1 (fX7_payableOn Asz Anu Aba Aco Hsz Hce day lim low hig thr z12 x15_37) fun r_285 =>
                          if r_285 = x23_277 then
                            fL_law_J1596 scL scx ee mm_281 qq hh bb Ksz Kcl Kke Asz Anu Aba Amo Aco Hsz Hla Hce Bsz Bla Bce Tma Tlc Ttc day lim low hig thr off cre rcp pay sv nx SL z7 z8 z10 x16_225 rec
                          else
                            some (.inl 0)
                        else
                          some (.inl 0)
          else
            ckI 6 18 <|
            if (qq (6 : Int32).toNatClampNeg) = 20 then
              rec ee mm qq hh bb Ksz Kcl Kke Asz Anu Aba Amo Aco Hsz Hla Hce Bsz Bla Bce Tma Tlc Ttc day lim low hig thr off cre rcp pay sv nx SL z7 (z8 + 1)
            else
              bd1 (fL_low (z9 >>> (7 &&& 31)) 60) fun r_393 =>
              lt_ (1 + r_393) fun x16_395 =>
              bd1 (fL_law_L764 hh z7 z8 z10 z12 z14 x15_37 x16_395 2147483648 0 0) fun x17_401 =>
                if z14 = 0 then
                  fL_law_J819 scL scx ee mm qq hh bb Ksz Kcl Kke Asz Anu Aba Amo Aco Hsz Hla Hce Bsz Bla Bce Tma Tlc Ttc day lim low hig thr off cre rcp pay sv nx SL z7 z8 z10 z12 z14 x15_37 x16_395 x17_401 0 rec
                else
                  bd1 (fL_free mm qq hh z12) fun r_431 =>
                  if r_431 < x15_37 then
                    fL_law_J819 scL scx ee mm qq hh bb Ksz Kcl Kke Asz Anu Aba Amo Aco Hsz Hla Hce Bsz Bla Bce Tma Tlc Ttc day lim low hig thr off cre rcp pay sv nx SL z7 z8 z10 z12 z14 x15_37 x16_395 x17_401 0 rec
                  else
                    fL_law_J819 scL scx ee mm qq hh bb Ksz Kcl Kke Asz Anu Aba Amo Aco Hsz Hla Hce Bsz Bla Bce Tma Tlc Ttc day lim low hig thr off cre rcp pay sv nx SL z7 z8 z10 z12 z14 x15_37 x16_395 x17_401 1 rec
        else
          if z14 = 0 then
            fL_law_J550 scL scx ee mm qq hh bb Ksz Kcl Kke Asz Anu Aba Amo Aco Hsz Hla Hce Bsz Bla Bce Tma Tlc Ttc day lim low hig thr off cre rcp pay sv nx SL z7 z8 z10 z12 z13 x15_37 0 rec
          else
            ckI (10 + z13) 18 <|
            if (qq (10 + z13).toNatClampNeg) < 0 then
              fL_law_J550 scL scx ee mm qq hh bb Ksz Kcl Kke Asz Anu Aba Amo Aco Hsz Hla Hce Bsz Bla Bce Tma Tlc Ttc day lim low hig thr off cre rcp pay sv nx SL z7 z8 z10 z12 z13 x15_37 0 rec
            else
              fL_law_J550 scL scx ee mm qq hh bb Ksz Kcl Kke Asz Anu Aba Amo Aco Hsz Hla Hce Bsz Bla Bce Tma Tlc Ttc day lim low hig thr off cre rcp pay sv nx SL z7 z8 z10 z12 z13 x15_37 1 rec
      else
        if z14 = 0 then
          fL_law_J435 scL scx ee mm qq hh bb Ksz Kcl Kke Asz Anu Aba Amo Aco Hsz Hla Hce Bsz Bla Bce Tma Tlc Ttc day lim low hig thr off cre rcp pay sv nx SL z7 z8 z10 z12 z14 x15_37 0 rec
        else
          bd1 (fL_free mm qq hh z12) fun r_499 =>
          if r_499 < x15_37 then
            fL_law_J435 scL scx ee mm qq hh bb Ksz Kcl Kke Asz Anu Aba Amo Aco Hsz Hla Hce Bsz Bla Bce Tma Tlc Ttc day lim low hig thr off cre rcp pay sv nx SL z7 z8 z10 z12 z14 x15_37 0 rec
          else
            fL_law_J435 scL scx ee mm qq hh bb Ksz Kcl Kke Asz Anu Aba Amo Aco Hsz Hla Hce Bsz Bla Bce Tma Tlc Ttc day lim low hig thr off cre rcp pay sv nx SL z7 z8 z10 z12 z14 x15_37 1 rec
    else
      ckI z12 25 <|
      if 1000000000 < ((mm z12.toNatClampNeg) + x15_37.toInt64) then
        fL_law_J311 scL scx ee mm qq hh bb Ksz Kcl Kke Asz Anu Aba Amo Aco Hsz Hla Hce Bsz Bla Bce Tma Tlc Ttc day lim low hig thr off cre rcp pay sv nx SL z7 z8 z10 z12 z14 x15_37 0 rec
      else
        fL_law_J311 scL scx ee mm qq hh bb Ksz Kcl Kke Asz Anu Aba Amo Aco Hsz Hla Hce Bsz Bla Bce Tma Tlc Ttc day lim low hig thr off cre rcp pay sv nx SL z7 z8 z10 z12 z14 x15_37 1 rec
def fL_law_J190 (scL : Nat) (scx : Nat → Int32) (ee : Nat → Int32) (mm : Nat → Int64) (qq : Nat → Int32) (hh : Nat → Int32) (bb : Nat → Int32) (Ksz : Int32) (Kcl : Nat → Int32) (Kke : Nat → Int32) (Asz : Int32) (Anu : Nat → Int32) (Aba : Nat → Int32) (Amo : Nat → Int32) (Aco : Nat → Int64) (Hsz : Int32) (Hla : Int32) (Hce : Nat → Int32) (Bsz : Int32) (Bla : Int32) (Bce : Nat → Int32) (Tma : Int32) (Tlc : Int32) (Ttc : Nat → Int32) (day : Int32) (lim : Int32) (low : Int32) (hig : Int32) (thr : Int32) (off : Int64) (cre : Int64) (rcp : Int64) (pay : Int64) (sv : Int32) (nx : Int32) (SL : Nat → XS) (z7 : Int32) (z8 : Int32) (z9 : Int32) (z10 : Int32) (z11 : Int32) (z12 : Int32) (z13 : Int32) (s0 : Int32) (rec : (Nat → Int32) → (Nat → Int64) → (Nat → Int32) → (Nat → Int32) → (Nat → Int32) → Int32 → (Nat → Int32) → (Nat → Int32) → Int32 → (Nat → Int32) → (Nat → Int32) → (Nat → Int32) → (Nat → Int64) → Int32 → Int32 → (Nat → Int32) → Int32 → Int32 → (Nat → Int32) → Int32 → Int32 → (Nat → Int32) → Int32 → Int32 → Int32 → Int32 → Int32 → Int64 → Int64 → Int64 → Int64 → Int32 → Int32 → (Nat → XS) → Int32 → Int32 → Option ((Int32) ⊕ (Unit))) : Option ((Int32) ⊕ (Unit)) :=
  bd1 (fL_low (z9 >>> (5 &&& 31)) 3) fun r_32 =>
  if r_32 = 0 then
    fL_law_J216 scL scx ee mm qq hh bb Ksz Kcl Kke Asz Anu Aba Amo Aco Hsz Hla Hce Bsz Bla Bce Tma Tlc Ttc day lim low hig thr off cre rcp pay sv nx SL z7 z8 z9 z10 z11 z12 z13 s0 90000000 (z10 >>> (6 &&& 31)) 1 rec
  else
    fL_law_J216 scL scx ee mm qq hh bb Ksz Kcl Kke Asz Anu Aba Amo Aco Hsz Hla Hce Bsz Bla Bce Tma Tlc Ttc day lim low hig thr off cre rcp pay sv nx SL z7 z8 z9 z10 z11 z12 z13 s0 200000 (z10 >>> (6 &&& 31)) 1 rec
def fL_law_J151 (scL : Nat) (scx : Nat → Int32) (ee : Nat → Int32) (mm : Nat → Int64) (qq : Nat → Int32) (hh : Nat → Int32) (bb : Nat → Int32) (Ksz : Int32) (Kcl : Nat → Int32) (Kke : Nat → Int32) (Asz : Int32) (Anu : Nat → Int32) (Aba : Nat → Int32) (Amo : Nat → Int32) (Aco : Nat → Int64) (Hsz : Int32) (Hla : Int32) (Hce : Nat → Int32) (Bsz : Int32) (Bla : Int32) (Bce : Nat → Int32) (Tma : Int32) (Tlc : Int32) (Ttc : Nat → Int32) (day : Int32) (lim : Int32) (low : Int32) (hig : Int32) (thr : Int32) (off : Int64) (cre : Int64) (rcp : Int64) (pay : Int64) (sv : Int32) (nx : Int32) (SL : Nat → XS) (z7 : Int32) (z8 : Int32) (z9 : Int32) (z10 : Int32) (s0 : Int32) (rec : (Nat → Int32) → (Nat → Int64) → (Nat → Int32) → (Nat → Int32) → (Nat → Int32) → Int32 → (Nat → Int32) → (Nat → Int32) → Int32 → (Nat → Int32) → (Nat → Int32) → (Nat → Int32) → (Nat → Int64) → Int32 → Int32 → (Nat → Int32) → Int32 → Int32 → (Nat → Int32) → Int32 → Int32 → (Nat → Int32) → Int32 → Int32 → Int32 → Int32 → Int32 → Int64 → Int64 → Int64 → Int64 → Int32 → Int32 → (Nat → XS) → Int32 → Int32 → Option ((Int32) ⊕ (Unit))) : Option ((Int32) ⊕ (Unit)) :=
  bd1 (fL_low z10 5) fun r_24 =>
  lt_ (1 + r_24) fun x12_26 =>
  bd1 (fL_low (z10 >>> (3 &&& 31)) 5) fun r_27 =>
  lt_ (1 + r_27) fun x13_29 =>
  ckI (10 + x12_26) 18 <|
  if (qq (10 + x12_26).toNatClampNeg) < 0 then
    fL_law_J190 scL scx ee mm qq hh bb Ksz Kcl Kke Asz Anu Aba Amo Aco Hsz Hla Hce Bsz Bla Bce Tma Tlc Ttc day lim low hig thr off cre rcp pay sv nx SL z7 z8 z9 z10 s0 x12_26 x13_29 0 rec
  else
    fL_law_J190 scL scx ee mm qq hh bb Ksz Kcl Kke Asz Anu Aba Amo Aco Hsz Hla Hce Bsz Bla Bce Tma Tlc Ttc day lim low hig thr off cre rcp pay sv nx SL z7 z8 z9 z10 s0 x12_26 x13_29 1 rec
def fL_law_L94 (scL : Nat) (scx : Nat → Int32) : Nat → (Nat → Int32) → (Nat → Int64) → (Nat → Int32) → (Nat → Int32) → (Nat → Int32) → Int32 → (Nat → Int32) → (Nat → Int32) → Int32 → (Nat → Int32) → (Nat → Int32) → (Nat → Int32) → (Nat → Int64) → Int32 → Int32 → (Nat → Int32) → Int32 → Int32 → (Nat → Int32) → Int32 → Int32 → (Nat → Int32) → Int32 → Int32 → Int32 → Int32 → Int32 → Int64 → Int64 → Int64 → Int64 → Int32 → Int32 → (Nat → XS) → Int32 → Int32 → Option ((Int32) ⊕ (Unit))
  | 0, _, _, _, _, _, _, _, _, _, _, _, _, _, _, _, _, _, _, _, _, _, _, _, _, _, _, _, _, _, _, _, _, _, _, _, _ => none
  | n + 1, ee, mm, qq, hh, bb, Ksz, Kcl, Kke, Asz, Anu, Aba, Amo, Aco, Hsz, Hla, Hce, Bsz, Bla, Bce, Tma, Tlc, Ttc, day, lim, low, hig, thr, off, cre, rcp, pay, sv, nx, SL, z7, z8 =>
    if 40 ≤ z8 then
      some (.inr ())
    else
      bd1 (fL_cell scL scx (2 * z8)) fun r_16 =>
      bd1 (fL_cell scL scx ((2 * z8) + 1)) fun r_18 =>
      if 4 ≤ z8 then
        if 8 ≤ z8 then
          bd1 (fL_low r_16 18) fun r_22 =>
          fL_law_J151 scL scx ee mm qq hh bb Ksz Kcl Kke Asz Anu Aba Amo Aco Hsz Hla Hce Bsz Bla Bce Tma Tlc Ttc day lim low hig thr off cre rcp pay sv nx SL z7 z8 r_16 r_18 r_22 (fL_law_L94 scL scx n)
        else
          fL_law_J151 scL scx ee mm qq hh bb Ksz Kcl Kke Asz Anu Aba Amo Aco Hsz Hla Hce Bsz Bla Bce Tma Tlc Ttc day lim low hig thr off cre rcp pay sv nx SL z7 z8 r_16 r_18 1 (fL_law_L94 scL scx n)
      else
        fL_law_J151 scL scx ee mm qq hh bb Ksz Kcl Kke Asz Anu Aba Amo Aco Hsz Hla Hce Bsz Bla Bce Tma Tlc Ttc day lim low hig thr off cre rcp pay sv nx SL z7 z8 r_16 r_18 0 (fL_law_L94 scL scx n)
def fL_law (scL : Nat) (scx : Nat → Int32) (ee : Nat → Int32) (mm : Nat → Int64) (qq : Nat → Int32) (hh : Nat → Int32) (bb : Nat → Int32) (Ksz : Int32) (Kcl : Nat → Int32) (Kke : Nat → Int32) (Asz : Int32) (Anu : Nat → Int32) (Aba : Nat → Int32) (Amo : Nat → Int32) (Aco : Nat → Int64) (Hsz : Int32) (Hla : Int32) (Hce : Nat → Int32) (Bsz : Int32) (Bla : Int32) (Bce : Nat → Int32) (Tma : Int32) (Tlc : Int32) (Ttc : Nat → Int32) (day : Int32) (lim : Int32) (low : Int32) (hig : Int32) (thr : Int32) (off : Int64) (cre : Int64) (rcp : Int64) (pay : Int64) (sv : Int32) (nx : Int32) (SL : Nat → XS) : Option (Int32) :=
  ckI 1 18 <|
  lt_ (upd qq (1 : Int32).toNatClampNeg 100000) fun qq_2 =>
  ckI 2 18 <|
  lt_ (upd qq_2 (2 : Int32).toNatClampNeg 100) fun qq_4 =>
  ckI 3 18 <|
  lt_ (upd qq_4 (3 : Int32).toNatClampNeg 250) fun qq_6 =>
  ckI 4 18 <|
  lt_ (upd qq_6 (4 : Int32).toNatClampNeg 20) fun qq_8 =>
  ckI 24 25 <|
  lt_ (vp_updL mm (24 : Int32).toNatClampNeg 7) fun mm_10 =>
  bd1 (fL_law_L67  2147483648 qq_8 0) fun qq_14 =>

    bs0 (fL_law_L94 scL scx 2147483648 ee mm_10 qq_14 hh bb Ksz Kcl Kke Asz Anu Aba Amo Aco Hsz Hla Hce Bsz Bla Bce Tma Tlc Ttc day lim low hig thr off cre rcp pay sv nx SL 0 0)
      (some 1)
