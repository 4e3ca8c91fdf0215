/-! the worlds, and the methods as functions: by program out of the bytecode -/
def wAE (cy : Nat → ClassId) (a0 : Nat) (ee : Nat → Int32) : va_W := [(a0, .inl (cy 1, 60, .inl ee))]
def wAM (cy : Nat → ClassId) (a0 : Nat) (mm : Nat → Int64) : va_W := [(a0, .inl (cy 2, 25, .inr (.inl mm)))]
def wAQ (cy : Nat → ClassId) (a0 : Nat) (qq : Nat → Int32) : va_W := [(a0, .inl (cy 1, 18, .inl qq))]
def wAH (cy : Nat → ClassId) (a0 : Nat) (hh : Nat → Int32) : va_W := [(a0, .inl (cy 1, 60, .inl hh))]
def wAB (cy : Nat → ClassId) (a0 : Nat) (bb : Nat → Int32) : va_W := [(a0, .inl (cy 1, 60, .inl bb))]
def wX0 (cy : Nat → ClassId) (a0 a1 a2 a3 a4 : Nat) (sz : Int32) (nu : Nat → Int32) (ba : Nat → Int32) (mo : Nat → Int32) (co : Nat → Int64) : va_W := [(a0, .inr (0, [.int sz, .ref a1, .ref a2, .ref a3, .ref a4])), (a1, .inl (cy 1, 12, .inl nu)), (a2, .inl (cy 1, 12, .inl ba)), (a3, .inl (cy 1, 12, .inl mo)), (a4, .inl (cy 2, 12, .inr (.inl co)))]
def wX4 (cy : Nat → ClassId) (a0 a1 : Nat) (sz : Int32) (la : Int32) (ce : Nat → Int32) : va_W := [(a0, .inr (4, [.int sz, .int la, .ref a1])), (a1, .inl (cy 1, 60, .inl ce))]
def wX6 (cy : Nat → ClassId) (a0 a1 : Nat) (ma : Int32) (lc : Int32) (tc : Nat → Int32) : va_W := [(a0, .inr (6, [.int ma, .int lc, .ref a1])), (a1, .inl (cy 1, 168, .inl tc))]
def wX2 (cy : Nat → ClassId) (a0 a1 : Nat) (le : Int32) (ch : Nat → Int32) (po : Int32) (ltr : Int32) (fi : Int32) (se : Int32) (th : Int32) : va_W := [(a0, .inr (2, [.int le, .ref a1, .int po, .int ltr, .int fi, .int se, .int th])), (a1, .inl (cy 0, 80, .inl ch))]
def wX3 (cy : Nat → ClassId) (a0 a1 a2 : Nat) (sz : Int32) (cl : Nat → Int32) (ke : Nat → Int32) : va_W := [(a0, .inr (3, [.int sz, .ref a1, .ref a2])), (a1, .inl (cy 1, 12, .inl cl)), (a2, .inl (cy 1, 12, .inl ke))]
def wX5 (cy : Nat → ClassId) (a0 a1 a2 a3 a4 a5 a6 a7 a8 a9 a10 a11 : Nat) (Asz : Int32) (Anu : Nat → Int32) (Aba : Nat → Int32) (Amo : Nat → Int32) (Aco : Nat → Int64) (Hsz : Int32) (Hla : Int32) (Hce : Nat → Int32) (Bsz : Int32) (Bla : Int32) (Bce : Nat → Int32) (Tma : Int32) (Tlc : Int32) (Ttc : Nat → Int32) (day : Int32) (lim : Int32) (low : Int32) (hig : Int32) (thr : Int32) (off : Int64) (cre : Int64) (rcp : Int64) (pay : Int64) : va_W := (a0, .inr (5, [.ref a1, .ref a6, .ref a8, .ref a10, .int day, .int lim, .int low, .int hig, .int thr, .long off, .long cre, .long rcp, .long pay])) :: (wX0 cy a1 a2 a3 a4 a5 Asz Anu Aba Amo Aco ++ (wX4 cy a6 a7 Hsz Hla Hce ++ (wX4 cy a8 a9 Bsz Bla Bce ++ (wX6 cy a10 a11 Tma Tlc Ttc))))
abbrev XS : Type := Int32 × (Nat → Int32) × (Nat → Int32) × (Nat → Int32) × (Nat → Int64) × Int32 × Int32 × (Nat → Int32) × Int32 × Int32 × (Nat → Int32) × Int32 × Int32 × (Nat → Int32) × Int32 × Int32 × Int32 × Int32 × Int32 × Int64 × Int64 × Int64 × Int64
def wXS (cy : Nat → ClassId) (q : Nat → Nat) (σ : XS) : va_W := wX5 cy (q 0) (q 1) (q 2) (q 3) (q 4) (q 5) (q 6) (q 7) (q 8) (q 9) (q 10) (q 11) (σ.1) (σ.2.1) (σ.2.2.1) (σ.2.2.2.1) (σ.2.2.2.2.1) (σ.2.2.2.2.2.1) (σ.2.2.2.2.2.2.1) (σ.2.2.2.2.2.2.2.1) (σ.2.2.2.2.2.2.2.2.1) (σ.2.2.2.2.2.2.2.2.2.1) (σ.2.2.2.2.2.2.2.2.2.2.1) (σ.2.2.2.2.2.2.2.2.2.2.2.1) (σ.2.2.2.2.2.2.2.2.2.2.2.2.1) (σ.2.2.2.2.2.2.2.2.2.2.2.2.2.1) (σ.2.2.2.2.2.2.2.2.2.2.2.2.2.2.1) (σ.2.2.2.2.2.2.2.2.2.2.2.2.2.2.2.1) (σ.2.2.2.2.2.2.2.2.2.2.2.2.2.2.2.2.1) (σ.2.2.2.2.2.2.2.2.2.2.2.2.2.2.2.2.2.1) (σ.2.2.2.2.2.2.2.2.2.2.2.2.2.2.2.2.2.2.1) (σ.2.2.2.2.2.2.2.2.2.2.2.2.2.2.2.2.2.2.2.1) (σ.2.2.2.2.2.2.2.2.2.2.2.2.2.2.2.2.2.2.2.2.1) (σ.2.2.2.2.2.2.2.2.2.2.2.2.2.2.2.2.2.2.2.2.2.1) (σ.2.2.2.2.2.2.2.2.2.2.2.2.2.2.2.2.2.2.2.2.2.2)
def sl (hd : Nat → Nat) (k : Nat) : Nat → Nat := fun i => hd (2 + 12 * k + i)
def blk (f : Nat → va_W) : Nat → va_W
  | 0 => []
  | n + 1 => blk f n ++ f n
def wX1 (cy : Nat → ClassId) (hd : Nat → Nat) (sv nx : Int32) (SL : Nat → XS) : va_W := (hd 0, .inr (1, [.int sv, .int nx, .ref (hd 1)])) :: (hd 1, .inl (cy 3, 7, .inr (.inr (.inr (.inr (fun k => some (hd (2 + 12 * k)))))))) :: blk (fun k => wXS cy (sl hd k) (SL k)) 7
def wX7 (cy : Nat → ClassId) (a0 t0 t1 k0 k1 k2 s0 s1 s2 s3 s4 s5 s6 s7 s8 s9 s10 s11 : Nat) (hd : Nat → Nat) (Xle : Int32) (Xch : Nat → Int32) (Xpo : Int32) (Xltr : Int32) (Xfi : Int32) (Xse : Int32) (Xth : Int32) (Ksz : Int32) (Kcl : Nat → Int32) (Kke : Nat → Int32) (Asz : Int32) (Anu : Nat → Int32) (Aba : Nat → Int32) (Amo : Nat → Int32) (Aco : Nat → Int64) (Hsz : Int32) (Hla : Int32) (Hce : Nat → Int32) (Bsz : Int32) (Bla : Int32) (Bce : Nat → Int32) (Tma : Int32) (Tlc : Int32) (Ttc : Nat → Int32) (day : Int32) (lim : Int32) (low : Int32) (hig : Int32) (thr : Int32) (off : Int64) (cre : Int64) (rcp : Int64) (pay : Int64) (sv : Int32) (nx : Int32) (SL : Nat → XS) : va_W := (a0, .inr (7, [.ref s0, .ref (hd 0), .ref t0, .ref k0])) :: (wX2 cy t0 t1 Xle Xch Xpo Xltr Xfi Xse Xth ++ (wX3 cy k0 k1 k2 Ksz Kcl Kke ++ (wX5 cy s0 s1 s2 s3 s4 s5 s6 s7 s8 s9 s10 s11 Asz Anu Aba Amo Aco Hsz Hla Hce Bsz Bla Bce Tma Tlc Ttc day lim low hig thr off cre rcp pay ++ (wX1 cy hd sv nx SL))))
def fX0_copyFrom (sz : Int32) (nu : Nat → Int32) (ba : Nat → Int32) (mo : Nat → Int32) (co : Nat → Int64) (osz : Int32) (onu : Nat → Int32) (oba : Nat → Int32) (omo : Nat → Int32) (oco : Nat → Int64) : Option (Int32 × (Nat → Int32) × (Nat → Int32) × (Nat → Int32) × (Nat → Int64)) :=
  some (osz, onu, oba, omo, oco)
def fX0_find_L2 (sz : Int32) (nu : Nat → Int32) (u1 : Int32) : Nat → Int32 → Option ((Int32) ⊕ (Unit))
  | 0, _ => none
  | n + 1, z2 =>
    if sz ≤ z2 then
      some (.inr ())
    else
      if 12 ≤ z2 then
        some (.inr ())
      else
        ckI z2 12 <|
        if (nu z2.toNatClampNeg) = u1 then
          some (.inl z2)
        else
          fX0_find_L2 sz nu u1 n (z2 + 1)
def fX0_find (sz : Int32) (nu : Nat → Int32) (p1 : Int32) : Option (Int32) :=
  bs0 (fX0_find_L2 sz nu p1 2147483648 0)
    (some (-1))
def fX0_isPlace (sz : Int32) (p1 : Int32) : Option (Int32) :=
  if p1 < 0 then
    some 0
  else
    if sz ≤ p1 then
      some 0
    else
      if 12 ≤ p1 then
        some 0
      else
        some 1
def fX0_numberAt (sz : Int32) (nu : Nat → Int32) (p1 : Int32) : Option (Int32) :=
  bd1 (fX0_isPlace sz p1) fun r_1 =>
  if r_1 = 0 then
    some 0
  else
    ckI p1 12 <|
    some (nu p1.toNatClampNeg)
def fX0_copyRow (sz : Int32) (nu : Nat → Int32) (ba : Nat → Int32) (mo : Nat → Int32) (co : Nat → Int64) (p1 : Int32) (p2 : Int32) : Option ((Nat → Int32) × (Nat → Int32) × (Nat → Int32) × (Nat → Int64)) :=
  bd1 (fX0_isPlace sz p1) fun r_1 =>
  if r_1 = 0 then
    some (nu, ba, mo, co)
  else
    bd1 (fX0_isPlace sz p2) fun r_4 =>
    if r_4 = 0 then
      some (nu, ba, mo, co)
    else
      ckI p1 12 <|
      ckI p2 12 <|
      lt_ (upd nu p2.toNatClampNeg (nu p1.toNatClampNeg)) fun nu_9 =>
      ckI p1 12 <|
      ckI p2 12 <|
      lt_ (upd ba p2.toNatClampNeg (ba p1.toNatClampNeg)) fun ba_12 =>
      ckI p1 12 <|
      ckI p2 12 <|
      lt_ (upd mo p2.toNatClampNeg (mo p1.toNatClampNeg)) fun mo_15 =>
      ckI p1 12 <|
      ckI p2 12 <|
      lt_ (vp_updL co p2.toNatClampNeg (co p1.toNatClampNeg)) fun co_18 =>
      some (nu_9, ba_12, mo_15, co_18)
def fX0_insert_L25 (sz : Int32) (u1 : Int32) (u2 : Int32) : Nat → (Nat → Int32) → (Nat → Int32) → (Nat → Int32) → (Nat → Int64) → Int32 → Option ((Nat → Int32) × (Nat → Int32) × (Nat → Int32) × (Nat → Int64) × Int32)
  | 0, _, _, _, _, _ => none
  | n + 1, nu, ba, mo, co, z3 =>
    if z3 ≤ 0 then
      some (nu, ba, mo, co, z3)
    else
      bd1 (fX0_numberAt sz nu (z3 - 1)) fun r_4 =>
      if r_4 ≤ u1 then
        some (nu, ba, mo, co, z3)
      else
        bd4 (fX0_copyRow sz nu ba mo co (z3 - 1) z3) fun nu_7 ba_8 mo_9 co_10 =>
        fX0_insert_L25 sz u1 u2 n nu_7 ba_8 mo_9 co_10 (z3 + (-1))
def fX0_insert (sz : Int32) (nu : Nat → Int32) (ba : Nat → Int32) (mo : Nat → Int32) (co : Nat → Int64) (p1 : Int32) (p2 : Int32) : Option (Int32 × (Nat → Int32) × (Nat → Int32) × (Nat → Int32) × (Nat → Int64)) :=
  if sz < 12 then
    lt_ (sz + 1) fun sz_2 =>
    bd5 (fX0_insert_L25 sz_2 p1 p2 2147483648 nu ba mo co sz) fun nu_12 ba_13 mo_14 co_15 x3_16 =>
      bd1 (fX0_isPlace sz_2 x3_16) fun r_17 =>
      if r_17 = 0 then
        some (sz_2, nu_12, ba_13, mo_14, co_15)
      else
        ckI x3_16 12 <|
        lt_ (upd nu_12 x3_16.toNatClampNeg p1) fun nu_21 =>
        ckI x3_16 12 <|
        lt_ (upd ba_13 x3_16.toNatClampNeg 0) fun ba_23 =>
        ckI x3_16 12 <|
        lt_ (upd mo_14 x3_16.toNatClampNeg p2) fun mo_25 =>
        ckI x3_16 12 <|
        lt_ (vp_updL co_15 x3_16.toNatClampNeg 0) fun co_27 =>
        some (sz_2, nu_21, ba_23, mo_25, co_27)
  else
    some (sz, nu, ba, mo, co)
def fX0_remove_L11 (sz : Int32) : Nat → (Nat → Int32) → (Nat → Int32) → (Nat → Int32) → (Nat → Int64) → Int32 → Option ((Nat → Int32) × (Nat → Int32) × (Nat → Int32) × (Nat → Int64))
  | 0, _, _, _, _, _ => none
  | n + 1, nu, ba, mo, co, z2 =>
    if sz ≤ (z2 + 1) then
      some (nu, ba, mo, co)
    else
      bd4 (fX0_copyRow sz nu ba mo co (z2 + 1) z2) fun nu_5 ba_6 mo_7 co_8 =>
      fX0_remove_L11 sz n nu_5 ba_6 mo_7 co_8 (z2 + 1)
def fX0_remove (sz : Int32) (nu : Nat → Int32) (ba : Nat → Int32) (mo : Nat → Int32) (co : Nat → Int64) (p1 : Int32) : Option (Int32 × (Nat → Int32) × (Nat → Int32) × (Nat → Int32) × (Nat → Int64)) :=
  bd1 (fX0_isPlace sz p1) fun r_1 =>
  if r_1 = 0 then
    some (sz, nu, ba, mo, co)
  else
    bd4 (fX0_remove_L11 sz 2147483648 nu ba mo co p1) fun nu_10 ba_11 mo_12 co_13 =>
      lt_ (sz - 1) fun sz_14 =>
      some (sz_14, nu_10, ba_11, mo_12, co_13)
def fX0_balanceAt (sz : Int32) (ba : Nat → Int32) (p1 : Int32) : Option (Int32) :=
  bd1 (fX0_isPlace sz p1) fun r_1 =>
  if r_1 = 0 then
    some 0
  else
    ckI p1 12 <|
    some (ba p1.toNatClampNeg)
def fX0_movedAt (sz : Int32) (mo : Nat → Int32) (p1 : Int32) : Option (Int32) :=
  bd1 (fX0_isPlace sz p1) fun r_1 =>
  if r_1 = 0 then
    some 0
  else
    ckI p1 12 <|
    some (mo p1.toNatClampNeg)
def fX0_countAt (sz : Int32) (co : Nat → Int64) (p1 : Int32) : Option (Int64) :=
  bd1 (fX0_isPlace sz p1) fun r_1 =>
  if r_1 = 0 then
    some 0
  else
    ckI p1 12 <|
    some (co p1.toNatClampNeg)
def fX0_add (sz : Int32) (ba : Nat → Int32) (p1 : Int32) (p2 : Int32) : Option ((Nat → Int32)) :=
  bd1 (fX0_isPlace sz p1) fun r_1 =>
  if r_1 = 0 then
    some ba
  else
    ckI p1 12 <|
    ckI p1 12 <|
    lt_ (upd ba p1.toNatClampNeg ((ba p1.toNatClampNeg) + p2)) fun ba_6 =>
    some ba_6
def fX0_addCount (sz : Int32) (co : Nat → Int64) (p1 : Int32) (p2 : Int64) : Option ((Nat → Int64)) :=
  bd1 (fX0_isPlace sz p1) fun r_1 =>
  if r_1 = 0 then
    some co
  else
    ckI p1 12 <|
    ckI p1 12 <|
    lt_ (vp_updL co p1.toNatClampNeg ((co p1.toNatClampNeg) + p2)) fun co_6 =>
    some co_6
def fX0_move (sz : Int32) (mo : Nat → Int32) (p1 : Int32) (p2 : Int32) : Option ((Nat → Int32)) :=
  bd1 (fX0_isPlace sz p1) fun r_1 =>
  if r_1 = 0 then
    some mo
  else
    ckI p1 12 <|
    lt_ (upd mo p1.toNatClampNeg p2) fun mo_5 =>
    some mo_5
def fX0_sumOfBalances_L4 (sz : Int32) (ba : Nat → Int32) : Nat → Int64 → Int32 → Option (Int64)
  | 0, _, _ => none
  | n + 1, z1, z3 =>
    if sz ≤ z3 then
      some z1
    else
      bd1 (fX0_balanceAt sz ba z3) fun r_2 =>
      lt_ (z1 + r_2.toInt64) fun x1_4 =>
      fX0_sumOfBalances_L4 sz ba n x1_4 (z3 + 1)
def fX0_sumOfBalances (sz : Int32) (ba : Nat → Int32) : Option (Int64) :=
  bd1 (fX0_sumOfBalances_L4 sz ba 2147483648 0 0) fun x1_5 =>
    some x1_5
def fX1_prepare (Asz : Int32) (Anu : Nat → Int32) (Aba : Nat → Int32) (Amo : Nat → Int32) (Aco : Nat → Int64) (Hsz : Int32) (Hla : Int32) (Hce : Nat → Int32) (Bsz : Int32) (Bla : Int32) (Bce : Nat → Int32) (Tma : Int32) (Tlc : Int32) (Ttc : Nat → Int32) (day : Int32) (lim : Int32) (low : Int32) (hig : Int32) (thr : Int32) (off : Int64) (cre : Int64) (rcp : Int64) (pay : Int64) (nx : Int32) (SL : Nat → XS) : Option (Nat → XS) :=
  ckI nx 7 <|
  some (va_up SL nx.toNatClampNeg (Asz, Anu, Aba, Amo, Aco, Hsz, Hla, Hce, Bsz, Bla, Bce, Tma, Tlc, Ttc, day, lim, low, hig, thr, off, cre, rcp, pay))
def fX1_slotAt (hd : Nat → Nat) (p1 : Int32) : Option (Option Nat) :=
  if p1 < 0 then
    some none
  else
    if 7 ≤ p1 then
      some none
    else
      ckI p1 7 <|
      some (some (hd (2 + 12 * p1.toNatClampNeg)))
def fX4_copyFrom (sz : Int32) (la : Int32) (ce : Nat → Int32) (osz : Int32) (ola : Int32) (oce : Nat → Int32) : Option (Int32 × Int32 × (Nat → Int32)) :=
  some (osz, ola, oce)
def fX6_copyFrom (ma : Int32) (lc : Int32) (tc : Nat → Int32) (oma : Int32) (olc : Int32) (otc : Nat → Int32) : Option (Int32 × Int32 × (Nat → Int32)) :=
  some (oma, olc, otc)
def fX5_copyFrom (Asz : Int32) (Anu : Nat → Int32) (Aba : Nat → Int32) (Amo : Nat → Int32) (Aco : Nat → Int64) (Hsz : Int32) (Hla : Int32) (Hce : Nat → Int32) (Bsz : Int32) (Bla : Int32) (Bce : Nat → Int32) (Tma : Int32) (Tlc : Int32) (Ttc : Nat → Int32) (day : Int32) (lim : Int32) (low : Int32) (hig : Int32) (thr : Int32) (off : Int64) (cre : Int64) (rcp : Int64) (pay : Int64) (oAsz : Int32) (oAnu : Nat → Int32) (oAba : Nat → Int32) (oAmo : Nat → Int32) (oAco : Nat → Int64) (oHsz : Int32) (oHla : Int32) (oHce : Nat → Int32) (oBsz : Int32) (oBla : Int32) (oBce : Nat → Int32) (oTma : Int32) (oTlc : Int32) (oTtc : Nat → Int32) (oday : Int32) (olim : Int32) (olow : Int32) (ohig : Int32) (othr : Int32) (ooff : Int64) (ocre : Int64) (orcp : Int64) (opay : Int64) : Option (Int32 × (Nat → Int32) × (Nat → Int32) × (Nat → Int32) × (Nat → Int64) × Int32 × Int32 × (Nat → Int32) × Int32 × Int32 × (Nat → Int32) × Int32 × Int32 × (Nat → Int32) × Int32 × Int32 × Int32 × Int32 × Int32 × Int64 × Int64 × Int64 × Int64) :=
  bd5 (fX0_copyFrom Asz Anu Aba Amo Aco oAsz oAnu oAba oAmo oAco) fun Asz_1 Anu_2 Aba_3 Amo_4 Aco_5 =>
  bd3 (fX4_copyFrom Hsz Hla Hce oHsz oHla oHce) fun Hsz_7 Hla_8 Hce_9 =>
  bd3 (fX4_copyFrom Bsz Bla Bce oBsz oBla oBce) fun Bsz_11 Bla_12 Bce_13 =>
  bd3 (fX6_copyFrom Tma Tlc Ttc oTma oTlc oTtc) fun Tma_15 Tlc_16 Ttc_17 =>
  some (Asz_1, Anu_2, Aba_3, Amo_4, Aco_5, Hsz_7, Hla_8, Hce_9, Bsz_11, Bla_12, Bce_13, Tma_15, Tlc_16, Ttc_17, oday, olim, olow, ohig, othr, ooff, ocre, orcp, opay)
def fX1_keep (sv : Int32) (nx : Int32) : Option (Int32 × Int32) :=
  if 6 ≤ nx then
    lt_ (if 6 < (sv + 1) then 6 else (sv + 1)) fun mn_2 =>
    some (mn_2, 0)
  else
    lt_ (nx + 1) fun nx_3 =>
    lt_ (if 6 < (sv + 1) then 6 else (sv + 1)) fun mn_4 =>
    some (mn_4, nx_3)
def fX4_get (sz : Int32) (ce : Nat → Int32) (p1 : Int32) (p2 : Int32) : Option (Int32) :=
  if p1 < 0 then
    some 0
  else
    if sz ≤ p1 then
      some 0
    else
      if 15 ≤ p1 then
        some 0
      else
        if p2 < 0 then
          some 0
        else
          if p2 < 4 then
            ckI ((p1 * 4) + p2) 60 <|
            some (ce ((p1 * 4) + p2).toNatClampNeg)
          else
            some 0
def fX4_sumOf_L5 (sz : Int32) (ce : Nat → Int32) (u1 : Int32) (u2 : Int32) : Nat → Int32 → Int32 → Option (Int32)
  | 0, _, _ => none
  | n + 1, z3, z4 =>
    if sz ≤ z4 then
      some z3
    else
      bd1 (fX4_get sz ce z4 1) fun r_2 =>
      if r_2 = u1 then
        bd1 (fX4_get sz ce z4 u2) fun r_5 =>
        lt_ (z3 + r_5) fun x3_7 =>
        fX4_sumOf_L5 sz ce u1 u2 n x3_7 (z4 + 1)
      else
        fX4_sumOf_L5 sz ce u1 u2 n z3 (z4 + 1)
def fX4_sumOf (sz : Int32) (ce : Nat → Int32) (p1 : Int32) (p2 : Int32) : Option (Int32) :=
  bd1 (fX4_sumOf_L5 sz ce p1 p2 2147483648 0 0) fun x3_8 =>
    some x3_8
def fX5_freeAt (Asz : Int32) (Anu : Nat → Int32) (Aba : Nat → Int32) (Hsz : Int32) (Hce : Nat → Int32) (p1 : Int32) : Option (Int32) :=
  bd1 (fX0_balanceAt Asz Aba p1) fun r_1 =>
  bd1 (fX0_numberAt Asz Anu p1) fun r_3 =>
  bd1 (fX4_sumOf Hsz Hce r_3 2) fun r_5 =>
  some (r_1 - r_5)
def fX3_keyOf (Asz : Int32) (Anu : Nat → Int32) (Aba : Nat → Int32) (Amo : Nat → Int32) (Hsz : Int32) (Hce : Nat → Int32) (p2 : Int32) (p3 : Int32) : Option (Int32) :=
  if p2 = 1 then
    bd1 (fX0_balanceAt Asz Aba p3) fun r_2 =>
    some (-r_2)
  else
    if p2 = 2 then
      bd1 (fX5_freeAt Asz Anu Aba Hsz Hce p3) fun r_5 =>
      some r_5
    else
      if p2 = 3 then
        bd1 (fX0_movedAt Asz Amo p3) fun r_8 =>
        some r_8
      else
        some 0
def fX3_sort_L37 (u2 : Int32) (u3 : Int32) (u4 : Int32) : Nat → (Nat → Int32) → (Nat → Int32) → Int32 → Option ((Nat → Int32) × (Nat → Int32) × Int32)
  | 0, _, _, _ => none
  | n + 1, cl, ke, z5 =>
    if z5 ≤ 0 then
      some (cl, ke, z5)
    else
      ckI (z5 - 1) 12 <|
      if (ke (z5 - 1).toNatClampNeg) ≤ u4 then
        some (cl, ke, z5)
      else
        ckI (z5 - 1) 12 <|
        ckI z5 12 <|
        lt_ (upd ke z5.toNatClampNeg (ke (z5 - 1).toNatClampNeg)) fun ke_10 =>
        ckI (z5 - 1) 12 <|
        ckI z5 12 <|
        lt_ (upd cl z5.toNatClampNeg (cl (z5 - 1).toNatClampNeg)) fun cl_13 =>
        fX3_sort_L37 u2 u3 u4 n cl_13 ke_10 (z5 + (-1))
def fX3_sort_L18 (sz : Int32) (oAsz : Int32) (oAnu : Nat → Int32) (oAba : Nat → Int32) (oAmo : Nat → Int32) (oHsz : Int32) (oHce : Nat → Int32) (u2 : Int32) : Nat → (Nat → Int32) → (Nat → Int32) → Int32 → Option ((Nat → Int32) × (Nat → Int32))
  | 0, _, _, _ => none
  | n + 1, cl, ke, z3 =>
    if sz ≤ z3 then
      some (cl, ke)
    else
      bd1 (fX3_keyOf oAsz oAnu oAba oAmo oHsz oHce u2 z3) fun r_3 =>
      bd3 (fX3_sort_L37 u2 z3 r_3 2147483648 cl ke z3) fun cl_14 ke_15 x5_16 =>
        ckI x5_16 12 <|
        lt_ (upd ke_15 x5_16.toNatClampNeg r_3) fun ke_18 =>
        bd1 (fX0_numberAt oAsz oAnu z3) fun r_19 =>
        ckI x5_16 12 <|
        lt_ (upd cl_14 x5_16.toNatClampNeg r_19) fun cl_22 =>
        fX3_sort_L18 sz oAsz oAnu oAba oAmo oHsz oHce u2 n cl_22 ke_18 (z3 + 1)
def fX3_sort (sz : Int32) (cl : Nat → Int32) (ke : Nat → Int32) (oAsz : Int32) (oAnu : Nat → Int32) (oAba : Nat → Int32) (oAmo : Nat → Int32) (oHsz : Int32) (oHce : Nat → Int32) (p2 : Int32) : Option (Int32 × (Nat → Int32) × (Nat → Int32)) :=
  lt_ (if 12 < oAsz then 12 else oAsz) fun mn_1 =>
  bd2 (fX3_sort_L18 mn_1 oAsz oAnu oAba oAmo oHsz oHce p2 2147483648 cl ke 0) fun cl_23 ke_24 =>
    some (mn_1, cl_23, ke_24)
def fX3_clientAt (sz : Int32) (cl : Nat → Int32) (p1 : Int32) : Option (Int32) :=
  if p1 < 0 then
    some (-1)
  else
    if sz ≤ p1 then
      some (-1)
    else
      if 12 ≤ p1 then
        some (-1)
      else
        ckI p1 12 <|
        some (cl p1.toNatClampNeg)
def fX4_find_L2 (sz : Int32) (ce : Nat → Int32) (u1 : Int32) : Nat → Int32 → Option ((Int32) ⊕ (Unit))
  | 0, _ => none
  | n + 1, z2 =>
    if sz ≤ z2 then
      some (.inr ())
    else
      bd1 (fX4_get sz ce z2 0) fun r_2 =>
      if r_2 = u1 then
        some (.inl z2)
      else
        fX4_find_L2 sz ce u1 n (z2 + 1)
def fX4_find (sz : Int32) (ce : Nat → Int32) (p1 : Int32) : Option (Int32) :=
  bs0 (fX4_find_L2 sz ce p1 2147483648 0)
    (some (-1))
def fX4_set (sz : Int32) (ce : Nat → Int32) (p1 : Int32) (p2 : Int32) (p3 : Int32) : Option ((Nat → Int32)) :=
  if p1 < 0 then
    some ce
  else
    if sz ≤ p1 then
      some ce
    else
      if 15 ≤ p1 then
        some ce
      else
        if p2 < 0 then
          some ce
        else
          if p2 < 4 then
            ckI ((p1 * 4) + p2) 60 <|
            lt_ (upd ce ((p1 * 4) + p2).toNatClampNeg p3) fun ce_7 =>
            some ce_7
          else
            some ce
def fX4_append (sz : Int32) (la : Int32) (ce : Nat → Int32) (p1 : Int32) (p2 : Int32) (p3 : Int32) : Option (Int32 × Int32 × Int32 × (Nat → Int32)) :=
  if sz < 15 then
    lt_ (sz + 1) fun sz_2 =>
    lt_ (la + 1) fun la_3 =>
    bd1 (fX4_set sz_2 ce sz 0 la_3) fun ce_4 =>
    bd1 (fX4_set sz_2 ce_4 sz 1 p1) fun ce_6 =>
    bd1 (fX4_set sz_2 ce_6 sz 2 p2) fun ce_8 =>
    bd1 (fX4_set sz_2 ce_8 sz 3 p3) fun ce_10 =>
    some (la_3, sz_2, la_3, ce_10)
  else
    some ((-4), sz, la, ce)
def fX4_remove_L27 (sz : Int32) (u2 : Int32) : Nat → (Nat → Int32) → Int32 → Option ((Nat → Int32))
  | 0, _, _ => none
  | n + 1, ce, z3 =>
    if 4 ≤ z3 then
      some ce
    else
      bd1 (fX4_get sz ce (u2 + 1) z3) fun r_5 =>
      bd1 (fX4_set sz ce u2 z3 r_5) fun ce_7 =>
      fX4_remove_L27 sz u2 n ce_7 (z3 + 1)
def fX4_remove_L15 (sz : Int32) : Nat → (Nat → Int32) → Int32 → Option ((Nat → Int32))
  | 0, _, _ => none
  | n + 1, ce, z2 =>
    if sz ≤ (z2 + 1) then
      some ce
    else
      bd1 (fX4_remove_L27 sz z2 2147483648 ce 0) fun ce_9 =>
        fX4_remove_L15 sz n ce_9 (z2 + 1)
def fX4_remove (sz : Int32) (ce : Nat → Int32) (p1 : Int32) : Option (Int32 × (Nat → Int32)) :=
  if p1 < 0 then
    some (sz, ce)
  else
    if p1 < sz then
      bd1 (fX4_remove_L15 sz 2147483648 ce p1) fun ce_10 =>
        lt_ (sz - 1) fun sz_11 =>
        some (sz_11, ce_10)
    else
      some (sz, ce)
def fX4_countOf_L4 (sz : Int32) (ce : Nat → Int32) (u1 : Int32) : Nat → Int32 → Int32 → Option (Int32)
  | 0, _, _ => none
  | n + 1, z2, z3 =>
    if sz ≤ z3 then
      some z2
    else
      bd1 (fX4_get sz ce z3 1) fun r_2 =>
      if r_2 = u1 then
        fX4_countOf_L4 sz ce u1 n (z2 + 1) (z3 + 1)
      else
        fX4_countOf_L4 sz ce u1 n z2 (z3 + 1)
def fX4_countOf (sz : Int32) (ce : Nat → Int32) (p1 : Int32) : Option (Int32) :=
  bd1 (fX4_countOf_L4 sz ce p1 2147483648 0 0) fun x2_5 =>
    some x2_5
def fX4_sumOfAll_L5 (sz : Int32) (ce : Nat → Int32) (u1 : Int32) : Nat → Int64 → Int32 → Option (Int64)
  | 0, _, _ => none
  | n + 1, z2, z4 =>
    if sz ≤ z4 then
      some z2
    else
      bd1 (fX4_get sz ce z4 u1) fun r_2 =>
      lt_ (z2 + r_2.toInt64) fun x2_4 =>
      fX4_sumOfAll_L5 sz ce u1 n x2_4 (z4 + 1)
def fX4_sumOfAll (sz : Int32) (ce : Nat → Int32) (p1 : Int32) : Option (Int64) :=
  bd1 (fX4_sumOfAll_L5 sz ce p1 2147483648 0 0) fun x2_5 =>
    some x2_5
def fX5_changeRates (lim : Int32) (low : Int32) (hig : Int32) (p1 : Int32) (p2 : Int32) (p3 : Int32) : Option (Int32 × Int32 × Int32 × Int32) :=
  if p1 < 0 then
    some ((-2), lim, low, hig)
  else
    if 1000000000 < p1 then
      some ((-2), lim, low, hig)
    else
      if p2 < 0 then
        some ((-2), lim, low, hig)
      else
        if 2000 < p2 then
          some ((-2), lim, low, hig)
        else
          if p3 < 0 then
            some ((-2), lim, low, hig)
          else
            if p3 ≤ 2000 then
              some (lim, p1, p2, p3)
            else
              some ((-2), lim, low, hig)
def fX5_changeThreshold (thr : Int32) (p1 : Int32) : Option (Int32 × Int32) :=
  if p1 < 0 then
    some ((-2), thr)
  else
    if p1 ≤ 10000 then
      some (thr, p1)
    else
      some ((-2), thr)
def fX5_openAccount (Asz : Int32) (Anu : Nat → Int32) (Aba : Nat → Int32) (Amo : Nat → Int32) (Aco : Nat → Int64) (day : Int32) (p1 : Int32) : Option (Int32 × Int32 × (Nat → Int32) × (Nat → Int32) × (Nat → Int32) × (Nat → Int64)) :=
  if p1 < 1 then
    some ((-2), Asz, Anu, Aba, Amo, Aco)
  else
    if p1 ≤ 99 then
      bd1 (fX0_find Asz Anu p1) fun r_3 =>
      if r_3 < 0 then
        if Asz < 12 then
          bd5 (fX0_insert Asz Anu Aba Amo Aco p1 day) fun Asz_7 Anu_8 Aba_9 Amo_10 Aco_11 =>
          some (Asz_7, Asz_7, Anu_8, Aba_9, Amo_10, Aco_11)
        else
          some ((-4), Asz, Anu, Aba, Amo, Aco)
      else
        some ((-3), Asz, Anu, Aba, Amo, Aco)
    else
      some ((-2), Asz, Anu, Aba, Amo, Aco)
def fX5_closeAccount (Asz : Int32) (Anu : Nat → Int32) (Aba : Nat → Int32) (Amo : Nat → Int32) (Aco : Nat → Int64) (Bsz : Int32) (Bce : Nat → Int32) (p1 : Int32) : Option (Int32 × Int32 × (Nat → Int32) × (Nat → Int32) × (Nat → Int32) × (Nat → Int64)) :=
  bd1 (fX0_find Asz Anu p1) fun r_1 =>
  if 0 ≤ r_1 then
    bd1 (fX0_balanceAt Asz Aba r_1) fun r_4 =>
    if r_4 = 0 then
      bd1 (fX4_countOf Bsz Bce p1) fun r_7 =>
      if r_7 ≤ 0 then
        bd5 (fX0_remove Asz Anu Aba Amo Aco r_1) fun Asz_10 Anu_11 Aba_12 Amo_13 Aco_14 =>
        some (Asz_10, Asz_10, Anu_11, Aba_12, Amo_13, Aco_14)
      else
        some ((-3), Asz, Anu, Aba, Amo, Aco)
    else
      some ((-3), Asz, Anu, Aba, Amo, Aco)
  else
    some ((-1), Asz, Anu, Aba, Amo, Aco)
def fX7_isAmount (p1 : Int32) : Option (Int32) :=
  if p1 < 1 then
    some 0
  else
    if 100000000 < p1 then
      some 0
    else
      some 1
def fX6_cellOf (p1 : Int32) (p2 : Int32) : Option (Int32) :=
  some (((p1 - p1 / 24 * 24) * 7) + p2)
def fX6_set (tc : Nat → Int32) (p1 : Int32) (p2 : Int32) (p3 : Int32) : Option ((Nat → Int32)) :=
  bd1 (fX6_cellOf p1 p2) fun r_1 =>
  if r_1 < 0 then
    some tc
  else
    if 168 ≤ r_1 then
      some tc
    else
      ckI r_1 168 <|
      lt_ (upd tc r_1.toNatClampNeg p3) fun tc_6 =>
      some tc_6
def fX6_append (ma : Int32) (lc : Int32) (tc : Nat → Int32) (p1 : Int32) (p2 : Int32) (p3 : Int32) (p4 : Int32) (p5 : Int32) : Option (Int32 × Int32 × (Nat → Int32)) :=
  lt_ (((((((lc.toInt64 * 1009) + (p1.toInt64 * 31)) + (p2.toInt64 * 17)) + (p3.toInt64 * 101)) + (p4.toInt64 * 103)) + p5.toInt64) - ((((((lc.toInt64 * 1009) + (p1.toInt64 * 31)) + (p2.toInt64 * 17)) + (p3.toInt64 * 101)) + (p4.toInt64 * 103)) + p5.toInt64) / 1000003 * 1000003) fun x6_1 =>
  lt_ (ma + 1) fun ma_2 =>
  bd1 (fX6_set tc ma_2 0 p1) fun tc_3 =>
  bd1 (fX6_set tc_3 ma_2 1 p2) fun tc_5 =>
  bd1 (fX6_set tc_5 ma_2 2 p3) fun tc_7 =>
  bd1 (fX6_set tc_7 ma_2 3 p4) fun tc_9 =>
  bd1 (fX6_set tc_9 ma_2 4 p5) fun tc_11 =>
  bd1 (fX6_set tc_11 ma_2 5 x6_1.toInt32) fun tc_13 =>
  bd1 (fX6_set tc_13 ma_2 6 0) fun tc_15 =>
  some (ma_2, x6_1.toInt32, tc_15)
def fX5_enter (Asz : Int32) (Anu : Nat → Int32) (Amo : Nat → Int32) (Tma : Int32) (Tlc : Int32) (Ttc : Nat → Int32) (day : Int32) (p1 : Int32) (p2 : Int32) (p3 : Int32) (p4 : Int32) : Option ((Nat → Int32) × Int32 × Int32 × (Nat → Int32)) :=
  bd3 (fX6_append Tma Tlc Ttc day p1 p2 p3 p4) fun Tma_1 Tlc_2 Ttc_3 =>
  bd1 (fX0_find Asz Anu p2) fun r_5 =>
  bd1 (fX0_move Asz Amo r_5 day) fun Amo_7 =>
  bd1 (fX0_find Asz Anu p3) fun r_9 =>
  bd1 (fX0_move Asz Amo_7 r_9 day) fun Amo_11 =>
  some (Amo_11, Tma_1, Tlc_2, Ttc_3)
def fX5_takeReceipt (Asz : Int32) (Anu : Nat → Int32) (Aba : Nat → Int32) (Amo : Nat → Int32) (Tma : Int32) (Tlc : Int32) (Ttc : Nat → Int32) (day : Int32) (rcp : Int64) (p1 : Int32) (p2 : Int32) : Option (Int32 × (Nat → Int32) × (Nat → Int32) × Int32 × Int32 × (Nat → Int32) × Int64) :=
  bd1 (fX0_find Asz Anu p1) fun r_1 =>
  if 0 ≤ r_1 then
    bd1 (fX7_isAmount p2) fun r_4 =>
    if r_4 = 0 then
      some ((-2), Aba, Amo, Tma, Tlc, Ttc, rcp)
    else
      bd1 (fX0_balanceAt Asz Aba r_1) fun r_7 =>
      if r_7 ≤ (1000000000 - p2) then
        bd1 (fX0_add Asz Aba r_1 p2) fun Aba_10 =>
        lt_ (rcp + p2.toInt64) fun rcp_12 =>
        bd4 (fX5_enter Asz Anu Amo Tma Tlc Ttc day 1 p1 0 p2) fun Amo_13 Tma_14 Tlc_15 Ttc_16 =>
        bd1 (fX0_balanceAt Asz Aba_10 r_1) fun r_18 =>
        some (r_18, Aba_10, Amo_13, Tma_14, Tlc_15, Ttc_16, rcp_12)
      else
        some ((-4), Aba, Amo, Tma, Tlc, Ttc, rcp)
  else
    some ((-1), Aba, Amo, Tma, Tlc, Ttc, rcp)
def fX5_makePayment (Asz : Int32) (Anu : Nat → Int32) (Aba : Nat → Int32) (Amo : Nat → Int32) (Hsz : Int32) (Hce : Nat → Int32) (Tma : Int32) (Tlc : Int32) (Ttc : Nat → Int32) (day : Int32) (pay : Int64) (p1 : Int32) (p2 : Int32) : Option (Int32 × (Nat → Int32) × (Nat → Int32) × Int32 × Int32 × (Nat → Int32) × Int64) :=
  bd1 (fX0_find Asz Anu p1) fun r_1 =>
  if 0 ≤ r_1 then
    bd1 (fX7_isAmount p2) fun r_4 =>
    if r_4 = 0 then
      some ((-2), Aba, Amo, Tma, Tlc, Ttc, pay)
    else
      bd1 (fX5_freeAt Asz Anu Aba Hsz Hce r_1) fun r_7 =>
      if p2 ≤ r_7 then
        bd1 (fX0_add Asz Aba r_1 (-p2)) fun Aba_10 =>
        lt_ (pay + p2.toInt64) fun pay_12 =>
        bd4 (fX5_enter Asz Anu Amo Tma Tlc Ttc day 2 p1 0 p2) fun Amo_13 Tma_14 Tlc_15 Ttc_16 =>
        bd1 (fX0_balanceAt Asz Aba_10 r_1) fun r_18 =>
        some (r_18, Aba_10, Amo_13, Tma_14, Tlc_15, Ttc_16, pay_12)
      else
        some ((-3), Aba, Amo, Tma, Tlc, Ttc, pay)
  else
    some ((-1), Aba, Amo, Tma, Tlc, Ttc, pay)
def fX5_makeTransfer (Asz : Int32) (Anu : Nat → Int32) (Aba : Nat → Int32) (Amo : Nat → Int32) (Hsz : Int32) (Hce : Nat → Int32) (Tma : Int32) (Tlc : Int32) (Ttc : Nat → Int32) (day : Int32) (p1 : Int32) (p2 : Int32) (p3 : Int32) : Option (Int32 × (Nat → Int32) × (Nat → Int32) × Int32 × Int32 × (Nat → Int32)) :=
  bd1 (fX0_find Asz Anu p1) fun r_1 =>
  bd1 (fX0_find Asz Anu p2) fun r_3 =>
  if r_1 < 0 then
    some ((-1), Aba, Amo, Tma, Tlc, Ttc)
  else
    if 0 ≤ r_3 then
      if r_1 = r_3 then
        some ((-2), Aba, Amo, Tma, Tlc, Ttc)
      else
        bd1 (fX7_isAmount p3) fun r_8 =>
        if r_8 = 0 then
          some ((-2), Aba, Amo, Tma, Tlc, Ttc)
        else
          bd1 (fX5_freeAt Asz Anu Aba Hsz Hce r_1) fun r_11 =>
          if p3 ≤ r_11 then
            bd1 (fX0_balanceAt Asz Aba r_3) fun r_14 =>
            if r_14 ≤ (1000000000 - p3) then
              bd1 (fX0_add Asz Aba r_1 (-p3)) fun Aba_17 =>
              bd1 (fX0_add Asz Aba_17 r_3 p3) fun Aba_19 =>
              bd4 (fX5_enter Asz Anu Amo Tma Tlc Ttc day 3 p1 p2 p3) fun Amo_21 Tma_22 Tlc_23 Ttc_24 =>
              bd1 (fX0_balanceAt Asz Aba_19 r_1) fun r_26 =>
              some (r_26, Aba_19, Amo_21, Tma_22, Tlc_23, Ttc_24)
            else
              some ((-4), Aba, Amo, Tma, Tlc, Ttc)
          else
            some ((-3), Aba, Amo, Tma, Tlc, Ttc)
    else
      some ((-1), Aba, Amo, Tma, Tlc, Ttc)
def fX5_makeHold (Asz : Int32) (Anu : Nat → Int32) (Aba : Nat → Int32) (Hsz : Int32) (Hla : Int32) (Hce : Nat → Int32) (day : Int32) (p1 : Int32) (p2 : Int32) (p3 : Int32) : Option (Int32 × Int32 × Int32 × (Nat → Int32)) :=
  bd1 (fX0_find Asz Anu p1) fun r_1 =>
  if 0 ≤ r_1 then
    bd1 (fX7_isAmount p2) fun r_4 =>
    if r_4 = 0 then
      some ((-2), Hsz, Hla, Hce)
    else
      if p3 < 1 then
        some ((-2), Hsz, Hla, Hce)
      else
        if p3 ≤ 999 then
          bd1 (fX5_freeAt Asz Anu Aba Hsz Hce r_1) fun r_9 =>
          if p2 ≤ r_9 then
            if Hsz < 15 then
              bd4 (fX4_append Hsz Hla Hce p1 p2 (day + p3)) fun r_13 Hsz_14 Hla_15 Hce_16 =>
              some (r_13, Hsz_14, Hla_15, Hce_16)
            else
              some ((-4), Hsz, Hla, Hce)
          else
            some ((-3), Hsz, Hla, Hce)
        else
          some ((-2), Hsz, Hla, Hce)
  else
    some ((-1), Hsz, Hla, Hce)
def fX5_endHold (Asz : Int32) (Anu : Nat → Int32) (Aba : Nat → Int32) (Hsz : Int32) (Hce : Nat → Int32) (p1 : Int32) : Option (Int32 × Int32 × (Nat → Int32)) :=
  bd1 (fX4_find Hsz Hce p1) fun r_1 =>
  if 0 ≤ r_1 then
    bd1 (fX4_get Hsz Hce r_1 1) fun r_4 =>
    bd1 (fX0_find Asz Anu r_4) fun r_6 =>
    bd2 (fX4_remove Hsz Hce r_1) fun Hsz_8 Hce_9 =>
    bd1 (fX5_freeAt Asz Anu Aba Hsz_8 Hce_9 r_6) fun r_11 =>
    some (r_11, Hsz_8, Hce_9)
  else
    some ((-1), Hsz, Hce)
def fX5_writeBill (Asz : Int32) (Anu : Nat → Int32) (Bsz : Int32) (Bla : Int32) (Bce : Nat → Int32) (p1 : Int32) (p2 : Int32) : Option (Int32 × Int32 × Int32 × (Nat → Int32)) :=
  bd1 (fX0_find Asz Anu p1) fun r_1 =>
  if 0 ≤ r_1 then
    bd1 (fX7_isAmount p2) fun r_4 =>
    if r_4 = 0 then
      some ((-2), Bsz, Bla, Bce)
    else
      if Bsz < 15 then
        bd4 (fX4_append Bsz Bla Bce p1 p2 0) fun r_8 Bsz_9 Bla_10 Bce_11 =>
        some (r_8, Bsz_9, Bla_10, Bce_11)
      else
        some ((-4), Bsz, Bla, Bce)
  else
    some ((-1), Bsz, Bla, Bce)
def fX5_settleBill (Asz : Int32) (Anu : Nat → Int32) (Aba : Nat → Int32) (Amo : Nat → Int32) (Hsz : Int32) (Hce : Nat → Int32) (Bsz : Int32) (Bce : Nat → Int32) (Tma : Int32) (Tlc : Int32) (Ttc : Nat → Int32) (day : Int32) (off : Int64) (p1 : Int32) : Option (Int32 × (Nat → Int32) × (Nat → Int32) × Int32 × (Nat → Int32) × Int32 × Int32 × (Nat → Int32) × Int64) :=
  bd1 (fX4_find Bsz Bce p1) fun r_1 =>
  if 0 ≤ r_1 then
    bd1 (fX4_get Bsz Bce r_1 1) fun r_4 =>
    bd1 (fX0_find Asz Anu r_4) fun r_6 =>
    bd1 (fX4_get Bsz Bce r_1 2) fun r_8 =>
    bd1 (fX5_freeAt Asz Anu Aba Hsz Hce r_6) fun r_10 =>
    lt_ (if r_10 < r_8 then r_10 else r_8) fun mn_12 =>
    if mn_12 = 0 then
      some ((-3), Aba, Amo, Bsz, Bce, Tma, Tlc, Ttc, off)
    else
      bd1 (fX0_add Asz Aba r_6 (-mn_12)) fun Aba_14 =>
      lt_ (off + mn_12.toInt64) fun off_16 =>
      if mn_12 = r_8 then
        bd2 (fX4_remove Bsz Bce r_1) fun Bsz_29 Bce_30 =>
        bd4 (fX5_enter Asz Anu Amo Tma Tlc Ttc day 4 r_4 0 mn_12) fun Amo_32 Tma_33 Tlc_34 Ttc_35 =>
        some (mn_12, Aba_14, Amo_32, Bsz_29, Bce_30, Tma_33, Tlc_34, Ttc_35, off_16)
      else
        bd1 (fX4_set Bsz Bce r_1 2 (r_8 - mn_12)) fun Bce_18 =>
        bd1 (fX4_get Bsz Bce_18 r_1 3) fun r_20 =>
        bd1 (fX4_set Bsz Bce_18 r_1 3 (r_20 + mn_12)) fun Bce_22 =>
        bd4 (fX5_enter Asz Anu Amo Tma Tlc Ttc day 4 r_4 0 mn_12) fun Amo_24 Tma_25 Tlc_26 Ttc_27 =>
        some (mn_12, Aba_14, Amo_24, Bsz, Bce_22, Tma_25, Tlc_26, Ttc_27, off_16)
  else
    some ((-1), Aba, Amo, Bsz, Bce, Tma, Tlc, Ttc, off)
def fX7_nextCreditDay (p1 : Int32) : Option (Int32) :=
  some ((p1 - (p1 - p1 / 30 * 30)) + 30)
def fX5_growthPerDay (lim : Int32) (low : Int32) (hig : Int32) (p1 : Int32) : Option (Int64) :=
  lt_ (if lim < p1 then lim else p1) fun mn_1 =>
  some ((low.toInt64 * mn_1.toInt64) + (hig.toInt64 * (p1.toInt64 - mn_1.toInt64)))
def fX5_growUntil_L2 (Asz : Int32) (Aba : Nat → Int32) (day : Int32) (lim : Int32) (low : Int32) (hig : Int32) (u1 : Int32) : Nat → (Nat → Int64) → Int32 → Option ((Nat → Int64))
  | 0, _, _ => none
  | n + 1, Aco, z2 =>
    if Asz ≤ z2 then
      some Aco
    else
      bd1 (fX0_balanceAt Asz Aba z2) fun r_2 =>
      bd1 (fX5_growthPerDay lim low hig r_2) fun r_4 =>
      bd1 (fX0_addCount Asz Aco z2 (r_4 * (u1 - day).toInt64)) fun Aco_6 =>
      fX5_growUntil_L2 Asz Aba day lim low hig u1 n Aco_6 (z2 + 1)
def fX5_growUntil (Asz : Int32) (Aba : Nat → Int32) (Aco : Nat → Int64) (day : Int32) (lim : Int32) (low : Int32) (hig : Int32) (p1 : Int32) : Option ((Nat → Int64) × Int32) :=
  bd1 (fX5_growUntil_L2 Asz Aba day lim low hig p1 2147483648 Aco 0) fun Aco_8 =>
    some (Aco_8, p1)
def fX5_interestToCredit (thr : Int32) (p1 : Int32) (p2 : Int64) : Option (Int32) :=
  lt_ (if (1000000000 - p1).toInt64 < (p2 / 3650000) then (1000000000 - p1).toInt64 else (p2 / 3650000)) fun mn_1 =>
  if mn_1 < thr.toInt64 then
    some 0
  else
    some mn_1.toInt32
def fX5_creditAll_L2 (Asz : Int32) (Anu : Nat → Int32) (day : Int32) (thr : Int32) : Nat → (Nat → Int32) → (Nat → Int32) → (Nat → Int64) → Int32 → Int32 → (Nat → Int32) → Int64 → Int32 → Option ((Nat → Int32) × (Nat → Int32) × (Nat → Int64) × Int32 × Int32 × (Nat → Int32) × Int64)
  | 0, _, _, _, _, _, _, _, _ => none
  | n + 1, Aba, Amo, Aco, Tma, Tlc, Ttc, cre, z1 =>
    if Asz ≤ z1 then
      some (Aba, Amo, Aco, Tma, Tlc, Ttc, cre)
    else
      bd1 (fX0_balanceAt Asz Aba z1) fun r_2 =>
      bd1 (fX0_countAt Asz Aco z1) fun r_4 =>
      bd1 (fX5_interestToCredit thr r_2 r_4) fun r_6 =>
      if r_6 ≤ 0 then
        fX5_creditAll_L2 Asz Anu day thr n Aba Amo Aco Tma Tlc Ttc cre (z1 + 1)
      else
        bd1 (fX0_add Asz Aba z1 r_6) fun Aba_9 =>
        bd1 (fX0_addCount Asz Aco z1 ((-3650000) * r_6.toInt64)) fun Aco_11 =>
        lt_ (cre + r_6.toInt64) fun cre_13 =>
        bd1 (fX0_numberAt Asz Anu z1) fun r_14 =>
        bd4 (fX5_enter Asz Anu Amo Tma Tlc Ttc day 5 r_14 0 r_6) fun Amo_16 Tma_17 Tlc_18 Ttc_19 =>
        fX5_creditAll_L2 Asz Anu day thr n Aba_9 Amo_16 Aco_11 Tma_17 Tlc_18 Ttc_19 cre_13 (z1 + 1)
def fX5_creditAll (Asz : Int32) (Anu : Nat → Int32) (Aba : Nat → Int32) (Amo : Nat → Int32) (Aco : Nat → Int64) (Tma : Int32) (Tlc : Int32) (Ttc : Nat → Int32) (day : Int32) (thr : Int32) (cre : Int64) : Option ((Nat → Int32) × (Nat → Int32) × (Nat → Int64) × Int32 × Int32 × (Nat → Int32) × Int64) :=
  bd7 (fX5_creditAll_L2 Asz Anu day thr 2147483648 Aba Amo Aco Tma Tlc Ttc cre 0) fun Aba_21 Amo_22 Aco_23 Tma_24 Tlc_25 Ttc_26 cre_27 =>
    some (Aba_21, Amo_22, Aco_23, Tma_24, Tlc_25, Ttc_26, cre_27)
def fX5_endHoldsThatAreOver_L10 (day : Int32) : Nat → Int32 → (Nat → Int32) → Int32 → Option (Int32 × (Nat → Int32))
  | 0, _, _, _ => none
  | n + 1, Hsz, Hce, z1 =>
    if z1 < 0 then
      some (Hsz, Hce)
    else
      bd1 (fX4_get Hsz Hce z1 3) fun r_3 =>
      if day ≤ r_3 then
        fX5_endHoldsThatAreOver_L10 day n Hsz Hce (z1 + (-1))
      else
        bd2 (fX4_remove Hsz Hce z1) fun Hsz_6 Hce_7 =>
        fX5_endHoldsThatAreOver_L10 day n Hsz_6 Hce_7 (z1 + (-1))
def fX5_endHoldsThatAreOver (Hsz : Int32) (Hce : Nat → Int32) (day : Int32) : Option (Int32 × (Nat → Int32)) :=
  lt_ (Hsz - 1) fun x1_1 =>
  bd2 (fX5_endHoldsThatAreOver_L10 day 2147483648 Hsz Hce x1_1) fun Hsz_9 Hce_10 =>
    some (Hsz_9, Hce_10)
def fX5_letPass_L48 (Asz : Int32) (Anu : Nat → Int32) (lim : Int32) (low : Int32) (hig : Int32) (thr : Int32) (u2 : Int32) (u3 : Int64) : Nat → (Nat → Int32) → (Nat → Int32) → (Nat → Int64) → Int32 → Int32 → (Nat → Int32) → Int32 → Int64 → Int32 → Option ((Nat → Int32) × (Nat → Int32) × (Nat → Int64) × Int32 × Int32 × (Nat → Int32) × Int32 × Int64)
  | 0, _, _, _, _, _, _, _, _, _ => none
  | n + 1, Aba, Amo, Aco, Tma, Tlc, Ttc, day, cre, z5 =>
    if u2 < z5 then
      some (Aba, Amo, Aco, Tma, Tlc, Ttc, day, cre)
    else
      bd2 (fX5_growUntil Asz Aba Aco day lim low hig z5) fun Aco_8 day_9 =>
      bd7 (fX5_creditAll Asz Anu Aba Amo Aco_8 Tma Tlc Ttc day_9 thr cre) fun Aba_11 Amo_12 Aco_13 Tma_14 Tlc_15 Ttc_16 cre_17 =>
      fX5_letPass_L48 Asz Anu lim low hig thr u2 u3 n Aba_11 Amo_12 Aco_13 Tma_14 Tlc_15 Ttc_16 day_9 cre_17 (z5 + 30)
def fX5_letPass (Asz : Int32) (Anu : Nat → Int32) (Aba : Nat → Int32) (Amo : Nat → Int32) (Aco : Nat → Int64) (Hsz : Int32) (Hce : Nat → Int32) (Tma : Int32) (Tlc : Int32) (Ttc : Nat → Int32) (day : Int32) (lim : Int32) (low : Int32) (hig : Int32) (thr : Int32) (cre : Int64) (p1 : Int32) : Option (Int64 × (Nat → Int32) × (Nat → Int32) × (Nat → Int64) × Int32 × (Nat → Int32) × Int32 × Int32 × (Nat → Int32) × Int32 × Int64) :=
  if p1 < 1 then
    some ((-2), Aba, Amo, Aco, Hsz, Hce, Tma, Tlc, Ttc, day, cre)
  else
    if p1 ≤ 400 then
      lt_ (day + p1) fun x2_3 =>
      if x2_3 ≤ 9999 then
        bd1 (fX7_nextCreditDay day) fun r_5 =>
        bd8 (fX5_letPass_L48 Asz Anu lim low hig thr x2_3 cre 2147483648 Aba Amo Aco Tma Tlc Ttc day cre r_5) fun Aba_19 Amo_20 Aco_21 Tma_22 Tlc_23 Ttc_24 day_25 cre_26 =>
          bd2 (fX5_growUntil Asz Aba_19 Aco_21 day_25 lim low hig x2_3) fun Aco_27 day_28 =>
          bd2 (fX5_endHoldsThatAreOver Hsz Hce day_28) fun Hsz_30 Hce_31 =>
          some ((cre_26 - cre), Aba_19, Amo_20, Aco_27, Hsz_30, Hce_31, Tma_22, Tlc_23, Ttc_24, day_28, cre_26)
      else
        some ((-4), Aba, Amo, Aco, Hsz, Hce, Tma, Tlc, Ttc, day, cre)
    else
      some ((-2), Aba, Amo, Aco, Hsz, Hce, Tma, Tlc, Ttc, day, cre)
def fX6_keeps (ma : Int32) (p1 : Int32) : Option (Int32) :=
  if p1 < 1 then
    some 0
  else
    if ma < p1 then
      some 0
    else
      if p1 ≤ (ma - 24) then
        some 0
      else
        some 1
def fX6_get (ma : Int32) (tc : Nat → Int32) (p1 : Int32) (p2 : Int32) : Option (Int32) :=
  bd1 (fX6_cellOf p1 p2) fun r_1 =>
  bd1 (fX6_keeps ma p1) fun r_3 =>
  if r_3 = 0 then
    some 0
  else
    if r_1 < 0 then
      some 0
    else
      if 168 ≤ r_1 then
        some 0
      else
        ckI r_1 168 <|
        some (tc r_1.toNatClampNeg)
def fX6_markReversed (ma : Int32) (tc : Nat → Int32) (p1 : Int32) : Option ((Nat → Int32)) :=
  bd1 (fX6_keeps ma p1) fun r_1 =>
  if r_1 = 0 then
    some tc
  else
    bd1 (fX6_set tc p1 6 1) fun tc_4 =>
    some tc_4
def fX5_reverseEntry_J41 (Asz : Int32) (Anu : Nat → Int32) (Aba : Nat → Int32) (Amo : Nat → Int32) (Hsz : Int32) (Hce : Nat → Int32) (Tma : Int32) (Tlc : Int32) (Ttc : Nat → Int32) (day : Int32) (rcp : Int64) (pay : Int64) : Option (Int32 × (Nat → Int32) × (Nat → Int32) × Int32 × Int32 × (Nat → Int32) × Int64 × Int64) :=
  some ((-3), Aba, Amo, Tma, Tlc, Ttc, rcp, pay)
def fX5_reverseEntry_J101 (Asz : Int32) (Anu : Nat → Int32) (Aba : Nat → Int32) (Amo : Nat → Int32) (Hsz : Int32) (Hce : Nat → Int32) (Tma : Int32) (Tlc : Int32) (Ttc : Nat → Int32) (day : Int32) (rcp : Int64) (pay : Int64) : Option (Int32 × (Nat → Int32) × (Nat → Int32) × Int32 × Int32 × (Nat → Int32) × Int64 × Int64) :=
  some ((-3), Aba, Amo, Tma, Tlc, Ttc, rcp, pay)
def fX5_reverseEntry_J246 (Asz : Int32) (Anu : Nat → Int32) (Aba : Nat → Int32) (Amo : Nat → Int32) (Hsz : Int32) (Hce : Nat → Int32) (Tma : Int32) (Tlc : Int32) (Ttc : Nat → Int32) (day : Int32) (rcp : Int64) (pay : Int64) (z1 : Int32) (z3 : Int32) (z4 : Int32) (z9 : Int32) : Option (Int32 × (Nat → Int32) × (Nat → Int32) × Int32 × Int32 × (Nat → Int32) × Int64 × Int64) :=
  bd1 (fX6_markReversed Tma Ttc z1) fun Ttc_32 =>
  bd4 (fX5_enter Asz Anu Amo Tma Tlc Ttc_32 day 6 z3 z4 z9) fun Amo_34 Tma_35 Tlc_36 Ttc_37 =>
  some (Tma_35, Aba, Amo_34, Tma_35, Tlc_36, Ttc_37, rcp, pay)
def fX5_reverseEntry_J186 (Asz : Int32) (Anu : Nat → Int32) (Aba : Nat → Int32) (Amo : Nat → Int32) (Hsz : Int32) (Hce : Nat → Int32) (Tma : Int32) (Tlc : Int32) (Ttc : Nat → Int32) (day : Int32) (rcp : Int64) (pay : Int64) (z1 : Int32) (z2 : Int32) (z3 : Int32) (z4 : Int32) (z7 : Int32) (z8 : Int32) (z9 : Int32) : Option (Int32 × (Nat → Int32) × (Nat → Int32) × Int32 × Int32 × (Nat → Int32) × Int64 × Int64) :=
  bd1 (fX0_add Asz Aba z7 (-z9)) fun Aba_26 =>
  bd1 (fX0_add Asz Aba_26 z8 z9) fun Aba_28 =>
  if z2 = 1 then
    lt_ (rcp - z9.toInt64) fun rcp_40 =>
    fX5_reverseEntry_J246 Asz Anu Aba_28 Amo Hsz Hce Tma Tlc Ttc day rcp_40 pay z1 z3 z4 z9
  else
    if z2 = 2 then
      lt_ (pay - z9.toInt64) fun pay_39 =>
      fX5_reverseEntry_J246 Asz Anu Aba_28 Amo Hsz Hce Tma Tlc Ttc day rcp pay_39 z1 z3 z4 z9
    else
      fX5_reverseEntry_J246 Asz Anu Aba_28 Amo Hsz Hce Tma Tlc Ttc day rcp pay z1 z3 z4 z9
def fX5_reverseEntry_J161 (Asz : Int32) (Anu : Nat → Int32) (Aba : Nat → Int32) (Amo : Nat → Int32) (Hsz : Int32) (Hce : Nat → Int32) (Tma : Int32) (Tlc : Int32) (Ttc : Nat → Int32) (day : Int32) (rcp : Int64) (pay : Int64) (z1 : Int32) (z2 : Int32) (z3 : Int32) (z4 : Int32) (z7 : Int32) (z8 : Int32) (z9 : Int32) : Option (Int32 × (Nat → Int32) × (Nat → Int32) × Int32 × Int32 × (Nat → Int32) × Int64 × Int64) :=
  if z8 < 0 then
    fX5_reverseEntry_J186 Asz Anu Aba Amo Hsz Hce Tma Tlc Ttc day rcp pay z1 z2 z3 z4 z7 z8 z9
  else
    bd1 (fX0_balanceAt Asz Aba z8) fun r_41 =>
    if r_41 ≤ (1000000000 - z9) then
      fX5_reverseEntry_J186 Asz Anu Aba Amo Hsz Hce Tma Tlc Ttc day rcp pay z1 z2 z3 z4 z7 z8 z9
    else
      some ((-4), Aba, Amo, Tma, Tlc, Ttc, rcp, pay)
def fX5_reverseEntry_J129 (Asz : Int32) (Anu : Nat → Int32) (Aba : Nat → Int32) (Amo : Nat → Int32) (Hsz : Int32) (Hce : Nat → Int32) (Tma : Int32) (Tlc : Int32) (Ttc : Nat → Int32) (day : Int32) (rcp : Int64) (pay : Int64) (z1 : Int32) (z2 : Int32) (z3 : Int32) (z4 : Int32) (z7 : Int32) (s0 : Int32) : Option (Int32 × (Nat → Int32) × (Nat → Int32) × Int32 × Int32 × (Nat → Int32) × Int64 × Int64) :=
  bd1 (fX6_get Tma Ttc z1 4) fun r_22 =>
  if z7 < 0 then
    fX5_reverseEntry_J161 Asz Anu Aba Amo Hsz Hce Tma Tlc Ttc day rcp pay z1 z2 z3 z4 z7 s0 r_22
  else
    bd1 (fX5_freeAt Asz Anu Aba Hsz Hce z7) fun r_44 =>
    if r_22 ≤ r_44 then
      fX5_reverseEntry_J161 Asz Anu Aba Amo Hsz Hce Tma Tlc Ttc day rcp pay z1 z2 z3 z4 z7 s0 r_22
    else
      some ((-3), Aba, Amo, Tma, Tlc, Ttc, rcp, pay)
def fX5_reverseEntry_J116 (Asz : Int32) (Anu : Nat → Int32) (Aba : Nat → Int32) (Amo : Nat → Int32) (Hsz : Int32) (Hce : Nat → Int32) (Tma : Int32) (Tlc : Int32) (Ttc : Nat → Int32) (day : Int32) (rcp : Int64) (pay : Int64) (z1 : Int32) (z2 : Int32) (z3 : Int32) (z4 : Int32) (z5 : Int32) (s0 : Int32) : Option (Int32 × (Nat → Int32) × (Nat → Int32) × Int32 × Int32 × (Nat → Int32) × Int64 × Int64) :=
  if z2 = 1 then
    fX5_reverseEntry_J129 Asz Anu Aba Amo Hsz Hce Tma Tlc Ttc day rcp pay z1 z2 z3 z4 s0 (-1)
  else
    fX5_reverseEntry_J129 Asz Anu Aba Amo Hsz Hce Tma Tlc Ttc day rcp pay z1 z2 z3 z4 s0 z5
def fX5_reverseEntry_J104 (Asz : Int32) (Anu : Nat → Int32) (Aba : Nat → Int32) (Amo : Nat → Int32) (Hsz : Int32) (Hce : Nat → Int32) (Tma : Int32) (Tlc : Int32) (Ttc : Nat → Int32) (day : Int32) (rcp : Int64) (pay : Int64) (z1 : Int32) (z2 : Int32) (z3 : Int32) (z4 : Int32) (z5 : Int32) (z6 : Int32) : Option (Int32 × (Nat → Int32) × (Nat → Int32) × Int32 × Int32 × (Nat → Int32) × Int64 × Int64) :=
  if z2 = 1 then
    fX5_reverseEntry_J116 Asz Anu Aba Amo Hsz Hce Tma Tlc Ttc day rcp pay z1 z2 z3 z4 z5 z5
  else
    fX5_reverseEntry_J116 Asz Anu Aba Amo Hsz Hce Tma Tlc Ttc day rcp pay z1 z2 z3 z4 z5 z6
def fX5_reverseEntry (Asz : Int32) (Anu : Nat → Int32) (Aba : Nat → Int32) (Amo : Nat → Int32) (Hsz : Int32) (Hce : Nat → Int32) (Tma : Int32) (Tlc : Int32) (Ttc : Nat → Int32) (day : Int32) (rcp : Int64) (pay : Int64) (p1 : Int32) : Option (Int32 × (Nat → Int32) × (Nat → Int32) × Int32 × Int32 × (Nat → Int32) × Int64 × Int64) :=
  bd1 (fX6_keeps Tma p1) fun r_1 =>
  if r_1 = 0 then
    some ((-1), Aba, Amo, Tma, Tlc, Ttc, rcp, pay)
  else
    bd1 (fX6_get Tma Ttc p1 1) fun r_4 =>
    if 3 < r_4 then
      fX5_reverseEntry_J41 Asz Anu Aba Amo Hsz Hce Tma Tlc Ttc day rcp pay
    else
      bd1 (fX6_get Tma Ttc p1 6) fun r_7 =>
      if r_7 = 0 then
        bd1 (fX6_get Tma Ttc p1 2) fun r_10 =>
        bd1 (fX6_get Tma Ttc p1 3) fun r_12 =>
        bd1 (fX0_find Asz Anu r_10) fun r_14 =>
        bd1 (fX0_find Asz Anu r_12) fun r_16 =>
        if r_14 < 0 then
          fX5_reverseEntry_J101 Asz Anu Aba Amo Hsz Hce Tma Tlc Ttc day rcp pay
        else
          if r_4 = 3 then
            if 0 ≤ r_16 then
              fX5_reverseEntry_J104 Asz Anu Aba Amo Hsz Hce Tma Tlc Ttc day rcp pay p1 r_4 r_10 r_12 r_14 r_16
            else
              fX5_reverseEntry_J101 Asz Anu Aba Amo Hsz Hce Tma Tlc Ttc day rcp pay
          else
            fX5_reverseEntry_J104 Asz Anu Aba Amo Hsz Hce Tma Tlc Ttc day rcp pay p1 r_4 r_10 r_12 r_14 r_16
      else
        fX5_reverseEntry_J41 Asz Anu Aba Amo Hsz Hce Tma Tlc Ttc day rcp pay
def fX5_aboutClient (Asz : Int32) (Anu : Nat → Int32) (Aba : Nat → Int32) (Amo : Nat → Int32) (Aco : Nat → Int64) (Hsz : Int32) (Hce : Nat → Int32) (Bsz : Int32) (Bce : Nat → Int32) (p1 : Int32) (p2 : Int32) : Option (Int32) :=
  bd1 (fX0_numberAt Asz Anu p1) fun r_1 =>
  if p2 = 0 then
    bd1 (fX0_balanceAt Asz Aba p1) fun r_4 =>
    some r_4
  else
    if p2 = 1 then
      bd1 (fX4_sumOf Hsz Hce r_1 2) fun r_7 =>
      some r_7
    else
      if p2 = 2 then
        bd1 (fX5_freeAt Asz Anu Aba Hsz Hce p1) fun r_10 =>
        some r_10
      else
        if p2 = 3 then
          bd1 (fX0_countAt Asz Aco p1) fun r_13 =>
          lt_ (if 1000000000 < (r_13 / 3650000) then 1000000000 else (r_13 / 3650000)) fun mn_15 =>
          some mn_15.toInt32
        else
          if p2 = 4 then
            bd1 (fX4_sumOf Bsz Bce r_1 2) fun r_17 =>
            some r_17
          else
            if p2 = 5 then
              bd1 (fX0_movedAt Asz Amo p1) fun r_20 =>
              some r_20
            else
              if p2 = 6 then
                bd1 (fX4_countOf Hsz Hce r_1) fun r_23 =>
                some r_23
              else
                if p2 = 7 then
                  bd1 (fX4_countOf Bsz Bce r_1) fun r_26 =>
                  some r_26
                else
                  some (-2)
def fX5_heldOn_L5 (Hsz : Int32) (Hce : Nat → Int32) (u1 : Int32) (u2 : Int32) : Nat → Int32 → Int32 → Option (Int32)
  | 0, _, _ => none
  | n + 1, z3, z4 =>
    if Hsz ≤ z4 then
      some z3
    else
      bd1 (fX4_get Hsz Hce z4 1) fun r_2 =>
      if r_2 = u1 then
        bd1 (fX4_get Hsz Hce z4 3) fun r_5 =>
        if r_5 < u2 then
          fX5_heldOn_L5 Hsz Hce u1 u2 n z3 (z4 + 1)
        else
          bd1 (fX4_get Hsz Hce z4 2) fun r_8 =>
          lt_ (z3 + r_8) fun x3_10 =>
          fX5_heldOn_L5 Hsz Hce u1 u2 n x3_10 (z4 + 1)
      else
        fX5_heldOn_L5 Hsz Hce u1 u2 n z3 (z4 + 1)
def fX5_heldOn (Hsz : Int32) (Hce : Nat → Int32) (p1 : Int32) (p2 : Int32) : Option (Int32) :=
  bd1 (fX5_heldOn_L5 Hsz Hce p1 p2 2147483648 0 0) fun x3_11 =>
    some x3_11
def fX5_firstDayWithFree_L32 (Hsz : Int32) (Hce : Nat → Int32) (day : Int32) (lim : Int32) (low : Int32) (hig : Int32) (thr : Int32) (u2 : Int32) (u3 : Int32) : Nat → Int32 → Int64 → Int32 → Option ((Int32) ⊕ (Unit))
  | 0, _, _, _ => none
  | n + 1, z4, z5, z7 =>
    if 400 < z7 then
      some (.inr ())
    else
      lt_ (day + z7) fun x8_8 =>
      if z7 ≤ 0 then
        bd1 (fX5_heldOn Hsz Hce u3 x8_8) fun r_10 =>
        if (z4 - r_10) < u2 then
          fX5_firstDayWithFree_L32 Hsz Hce day lim low hig thr u2 u3 n z4 z5 (z7 + 1)
        else
          some (.inl x8_8)
      else
        bd1 (fX5_growthPerDay lim low hig z4) fun r_13 =>
        lt_ (z5 + r_13) fun x5_15 =>
        if (x8_8 - x8_8 / 30 * 30) = 0 then
          bd1 (fX5_interestToCredit thr z4 x5_15) fun r_20 =>
          lt_ (z4 + r_20) fun x4_22 =>
          lt_ (x5_15 - (3650000 * r_20.toInt64)) fun x5_23 =>
          bd1 (fX5_heldOn Hsz Hce u3 x8_8) fun r_24 =>
          if (x4_22 - r_24) < u2 then
            fX5_firstDayWithFree_L32 Hsz Hce day lim low hig thr u2 u3 n x4_22 x5_23 (z7 + 1)
          else
            some (.inl x8_8)
        else
          bd1 (fX5_heldOn Hsz Hce u3 x8_8) fun r_17 =>
          if (z4 - r_17) < u2 then
            fX5_firstDayWithFree_L32 Hsz Hce day lim low hig thr u2 u3 n z4 x5_15 (z7 + 1)
          else
            some (.inl x8_8)
def fX5_firstDayWithFree (Asz : Int32) (Anu : Nat → Int32) (Aba : Nat → Int32) (Aco : Nat → Int64) (Hsz : Int32) (Hce : Nat → Int32) (day : Int32) (lim : Int32) (low : Int32) (hig : Int32) (thr : Int32) (p1 : Int32) (p2 : Int32) : Option (Int32) :=
  bd1 (fX0_numberAt Asz Anu p1) fun r_1 =>
  bd1 (fX0_balanceAt Asz Aba p1) fun r_3 =>
  bd1 (fX0_countAt Asz Aco p1) fun r_5 =>
  bs0 (fX5_firstDayWithFree_L32 Hsz Hce day lim low hig thr p2 r_1 2147483648 r_3 r_5 0)
    (some (-6))
def fX5_interestAhead_L37 (day : Int32) (lim : Int32) (low : Int32) (hig : Int32) (thr : Int32) (u2 : Int32) : Nat → Int32 → Int64 → Int32 → Int32 → Int32 → Option (Int32)
  | 0, _, _, _, _, _ => none
  | n + 1, z3, z4, z6, z7, z8 =>
    if (day + u2) < z8 then
      some z6
    else
      bd1 (fX5_growthPerDay lim low hig z3) fun r_8 =>
      lt_ (z4 + (r_8 * (z8 - z7).toInt64)) fun x4_10 =>
      bd1 (fX5_interestToCredit thr z3 x4_10) fun r_11 =>
      lt_ (z3 + r_11) fun x3_13 =>
      lt_ (x4_10 - (3650000 * r_11.toInt64)) fun x4_14 =>
      lt_ (z6 + r_11) fun x6_15 =>
      fX5_interestAhead_L37 day lim low hig thr u2 n x3_13 x4_14 x6_15 z8 (z8 + 30)
def fX5_interestAhead (Asz : Int32) (Aba : Nat → Int32) (Aco : Nat → Int64) (day : Int32) (lim : Int32) (low : Int32) (hig : Int32) (thr : Int32) (p1 : Int32) (p2 : Int32) : Option (Int32) :=
  bd1 (fX0_balanceAt Asz Aba p1) fun r_1 =>
  bd1 (fX0_countAt Asz Aco p1) fun r_3 =>
  bd1 (fX7_nextCreditDay day) fun r_5 =>
  bd1 (fX5_interestAhead_L37 day lim low hig thr p2 2147483648 r_1 r_3 0 day r_5) fun x6_16 =>
    some x6_16
def fX7_keptUnlessError (sv : Int32) (nx : Int32) (p1 : Int32) : Option (Int32 × Int32 × Int32) :=
  if p1 < 0 then
    some (p1, sv, nx)
  else
    bd2 (fX1_keep sv nx) fun sv_2 nx_3 =>
    some (p1, sv_2, nx_3)
def fX7_setRates (Asz : Int32) (Anu : Nat → Int32) (Aba : Nat → Int32) (Amo : Nat → Int32) (Aco : Nat → Int64) (Hsz : Int32) (Hla : Int32) (Hce : Nat → Int32) (Bsz : Int32) (Bla : Int32) (Bce : Nat → Int32) (Tma : Int32) (Tlc : Int32) (Ttc : Nat → Int32) (day : Int32) (lim : Int32) (low : Int32) (hig : Int32) (thr : Int32) (off : Int64) (cre : Int64) (rcp : Int64) (pay : Int64) (sv : Int32) (nx : Int32) (SL : Nat → XS) (p1 : Int32) (p2 : Int32) (p3 : Int32) : Option (Int32 × Int32 × Int32 × Int32 × Int32 × Int32 × (Nat → XS)) :=
  bd1 (fX1_prepare Asz Anu Aba Amo Aco Hsz Hla Hce Bsz Bla Bce Tma Tlc Ttc day lim low hig thr off cre rcp pay nx SL) fun SL_1 =>
  bd4 (fX5_changeRates lim low hig p1 p2 p3) fun r_3 lim_4 low_5 hig_6 =>
  bd3 (fX7_keptUnlessError sv nx r_3) fun r_8 sv_9 nx_10 =>
  some (r_8, lim_4, low_5, hig_6, sv_9, nx_10, SL_1)
def fX7_setThreshold (Asz : Int32) (Anu : Nat → Int32) (Aba : Nat → Int32) (Amo : Nat → Int32) (Aco : Nat → Int64) (Hsz : Int32) (Hla : Int32) (Hce : Nat → Int32) (Bsz : Int32) (Bla : Int32) (Bce : Nat → Int32) (Tma : Int32) (Tlc : Int32) (Ttc : Nat → Int32) (day : Int32) (lim : Int32) (low : Int32) (hig : Int32) (thr : Int32) (off : Int64) (cre : Int64) (rcp : Int64) (pay : Int64) (sv : Int32) (nx : Int32) (SL : Nat → XS) (p1 : Int32) : Option (Int32 × Int32 × Int32 × Int32 × (Nat → XS)) :=
  bd1 (fX1_prepare Asz Anu Aba Amo Aco Hsz Hla Hce Bsz Bla Bce Tma Tlc Ttc day lim low hig thr off cre rcp pay nx SL) fun SL_1 =>
  bd2 (fX5_changeThreshold thr p1) fun r_3 thr_4 =>
  bd3 (fX7_keptUnlessError sv nx r_3) fun r_6 sv_7 nx_8 =>
  some (r_6, thr_4, sv_7, nx_8, SL_1)
def fX7_open (Asz : Int32) (Anu : Nat → Int32) (Aba : Nat → Int32) (Amo : Nat → Int32) (Aco : Nat → Int64) (Hsz : Int32) (Hla : Int32) (Hce : Nat → Int32) (Bsz : Int32) (Bla : Int32) (Bce : Nat → Int32) (Tma : Int32) (Tlc : Int32) (Ttc : Nat → Int32) (day : Int32) (lim : Int32) (low : Int32) (hig : Int32) (thr : Int32) (off : Int64) (cre : Int64) (rcp : Int64) (pay : Int64) (sv : Int32) (nx : Int32) (SL : Nat → XS) (p1 : Int32) : Option (Int32 × Int32 × (Nat → Int32) × (Nat → Int32) × (Nat → Int32) × (Nat → Int64) × Int32 × Int32 × (Nat → XS)) :=
  bd1 (fX1_prepare Asz Anu Aba Amo Aco Hsz Hla Hce Bsz Bla Bce Tma Tlc Ttc day lim low hig thr off cre rcp pay nx SL) fun SL_1 =>
  bd6 (fX5_openAccount Asz Anu Aba Amo Aco day p1) fun r_3 Asz_4 Anu_5 Aba_6 Amo_7 Aco_8 =>
  bd3 (fX7_keptUnlessError sv nx r_3) fun r_10 sv_11 nx_12 =>
  some (r_10, Asz_4, Anu_5, Aba_6, Amo_7, Aco_8, sv_11, nx_12, SL_1)
def fX7_close (Asz : Int32) (Anu : Nat → Int32) (Aba : Nat → Int32) (Amo : Nat → Int32) (Aco : Nat → Int64) (Hsz : Int32) (Hla : Int32) (Hce : Nat → Int32) (Bsz : Int32) (Bla : Int32) (Bce : Nat → Int32) (Tma : Int32) (Tlc : Int32) (Ttc : Nat → Int32) (day : Int32) (lim : Int32) (low : Int32) (hig : Int32) (thr : Int32) (off : Int64) (cre : Int64) (rcp : Int64) (pay : Int64) (sv : Int32) (nx : Int32) (SL : Nat → XS) (p1 : Int32) : Option (Int32 × Int32 × (Nat → Int32) × (Nat → Int32) × (Nat → Int32) × (Nat → Int64) × Int32 × Int32 × (Nat → XS)) :=
  bd1 (fX1_prepare Asz Anu Aba Amo Aco Hsz Hla Hce Bsz Bla Bce Tma Tlc Ttc day lim low hig thr off cre rcp pay nx SL) fun SL_1 =>
  bd6 (fX5_closeAccount Asz Anu Aba Amo Aco Bsz Bce p1) fun r_3 Asz_4 Anu_5 Aba_6 Amo_7 Aco_8 =>
  bd3 (fX7_keptUnlessError sv nx r_3) fun r_10 sv_11 nx_12 =>
  some (r_10, Asz_4, Anu_5, Aba_6, Amo_7, Aco_8, sv_11, nx_12, SL_1)
def fX7_receive (Asz : Int32) (Anu : Nat → Int32) (Aba : Nat → Int32) (Amo : Nat → Int32) (Aco : Nat → Int64) (Hsz : Int32) (Hla : Int32) (Hce : Nat → Int32) (Bsz : Int32) (Bla : Int32) (Bce : Nat → Int32) (Tma : Int32) (Tlc : Int32) (Ttc : Nat → Int32) (day : Int32) (lim : Int32) (low : Int32) (hig : Int32) (thr : Int32) (off : Int64) (cre : Int64) (rcp : Int64) (pay : Int64) (sv : Int32) (nx : Int32) (SL : Nat → XS) (p1 : Int32) (p2 : Int32) : Option (Int32 × (Nat → Int32) × (Nat → Int32) × Int32 × Int32 × (Nat → Int32) × Int64 × Int32 × Int32 × (Nat → XS)) :=
  bd1 (fX1_prepare Asz Anu Aba Amo Aco Hsz Hla Hce Bsz Bla Bce Tma Tlc Ttc day lim low hig thr off cre rcp pay nx SL) fun SL_1 =>
  bd7 (fX5_takeReceipt Asz Anu Aba Amo Tma Tlc Ttc day rcp p1 p2) fun r_3 Aba_4 Amo_5 Tma_6 Tlc_7 Ttc_8 rcp_9 =>
  bd3 (fX7_keptUnlessError sv nx r_3) fun r_11 sv_12 nx_13 =>
  some (r_11, Aba_4, Amo_5, Tma_6, Tlc_7, Ttc_8, rcp_9, sv_12, nx_13, SL_1)
def fX7_pay (Asz : Int32) (Anu : Nat → Int32) (Aba : Nat → Int32) (Amo : Nat → Int32) (Aco : Nat → Int64) (Hsz : Int32) (Hla : Int32) (Hce : Nat → Int32) (Bsz : Int32) (Bla : Int32) (Bce : Nat → Int32) (Tma : Int32) (Tlc : Int32) (Ttc : Nat → Int32) (day : Int32) (lim : Int32) (low : Int32) (hig : Int32) (thr : Int32) (off : Int64) (cre : Int64) (rcp : Int64) (pay : Int64) (sv : Int32) (nx : Int32) (SL : Nat → XS) (p1 : Int32) (p2 : Int32) : Option (Int32 × (Nat → Int32) × (Nat → Int32) × Int32 × Int32 × (Nat → Int32) × Int64 × Int32 × Int32 × (Nat → XS)) :=
  bd1 (fX1_prepare Asz Anu Aba Amo Aco Hsz Hla Hce Bsz Bla Bce Tma Tlc Ttc day lim low hig thr off cre rcp pay nx SL) fun SL_1 =>
  bd7 (fX5_makePayment Asz Anu Aba Amo Hsz Hce Tma Tlc Ttc day pay p1 p2) fun r_3 Aba_4 Amo_5 Tma_6 Tlc_7 Ttc_8 pay_9 =>
  bd3 (fX7_keptUnlessError sv nx r_3) fun r_11 sv_12 nx_13 =>
  some (r_11, Aba_4, Amo_5, Tma_6, Tlc_7, Ttc_8, pay_9, sv_12, nx_13, SL_1)
def fX7_transfer (Asz : Int32) (Anu : Nat → Int32) (Aba : Nat → Int32) (Amo : Nat → Int32) (Aco : Nat → Int64) (Hsz : Int32) (Hla : Int32) (Hce : Nat → Int32) (Bsz : Int32) (Bla : Int32) (Bce : Nat → Int32) (Tma : Int32) (Tlc : Int32) (Ttc : Nat → Int32) (day : Int32) (lim : Int32) (low : Int32) (hig : Int32) (thr : Int32) (off : Int64) (cre : Int64) (rcp : Int64) (pay : Int64) (sv : Int32) (nx : Int32) (SL : Nat → XS) (p1 : Int32) (p2 : Int32) (p3 : Int32) : Option (Int32 × (Nat → Int32) × (Nat → Int32) × Int32 × Int32 × (Nat → Int32) × Int32 × Int32 × (Nat → XS)) :=
  bd1 (fX1_prepare Asz Anu Aba Amo Aco Hsz Hla Hce Bsz Bla Bce Tma Tlc Ttc day lim low hig thr off cre rcp pay nx SL) fun SL_1 =>
  bd6 (fX5_makeTransfer Asz Anu Aba Amo Hsz Hce Tma Tlc Ttc day p1 p2 p3) fun r_3 Aba_4 Amo_5 Tma_6 Tlc_7 Ttc_8 =>
  bd3 (fX7_keptUnlessError sv nx r_3) fun r_10 sv_11 nx_12 =>
  some (r_10, Aba_4, Amo_5, Tma_6, Tlc_7, Ttc_8, sv_11, nx_12, SL_1)
def fX7_hold (Asz : Int32) (Anu : Nat → Int32) (Aba : Nat → Int32) (Amo : Nat → Int32) (Aco : Nat → Int64) (Hsz : Int32) (Hla : Int32) (Hce : Nat → Int32) (Bsz : Int32) (Bla : Int32) (Bce : Nat → Int32) (Tma : Int32) (Tlc : Int32) (Ttc : Nat → Int32) (day : Int32) (lim : Int32) (low : Int32) (hig : Int32) (thr : Int32) (off : Int64) (cre : Int64) (rcp : Int64) (pay : Int64) (sv : Int32) (nx : Int32) (SL : Nat → XS) (p1 : Int32) (p2 : Int32) (p3 : Int32) : Option (Int32 × Int32 × Int32 × (Nat → Int32) × Int32 × Int32 × (Nat → XS)) :=
  bd1 (fX1_prepare Asz Anu Aba Amo Aco Hsz Hla Hce Bsz Bla Bce Tma Tlc Ttc day lim low hig thr off cre rcp pay nx SL) fun SL_1 =>
  bd4 (fX5_makeHold Asz Anu Aba Hsz Hla Hce day p1 p2 p3) fun r_3 Hsz_4 Hla_5 Hce_6 =>
  bd3 (fX7_keptUnlessError sv nx r_3) fun r_8 sv_9 nx_10 =>
  some (r_8, Hsz_4, Hla_5, Hce_6, sv_9, nx_10, SL_1)
def fX7_release (Asz : Int32) (Anu : Nat → Int32) (Aba : Nat → Int32) (Amo : Nat → Int32) (Aco : Nat → Int64) (Hsz : Int32) (Hla : Int32) (Hce : Nat → Int32) (Bsz : Int32) (Bla : Int32) (Bce : Nat → Int32) (Tma : Int32) (Tlc : Int32) (Ttc : Nat → Int32) (day : Int32) (lim : Int32) (low : Int32) (hig : Int32) (thr : Int32) (off : Int64) (cre : Int64) (rcp : Int64) (pay : Int64) (sv : Int32) (nx : Int32) (SL : Nat → XS) (p1 : Int32) : Option (Int32 × Int32 × (Nat → Int32) × Int32 × Int32 × (Nat → XS)) :=
  bd1 (fX1_prepare Asz Anu Aba Amo Aco Hsz Hla Hce Bsz Bla Bce Tma Tlc Ttc day lim low hig thr off cre rcp pay nx SL) fun SL_1 =>
  bd3 (fX5_endHold Asz Anu Aba Hsz Hce p1) fun r_3 Hsz_4 Hce_5 =>
  bd3 (fX7_keptUnlessError sv nx r_3) fun r_7 sv_8 nx_9 =>
  some (r_7, Hsz_4, Hce_5, sv_8, nx_9, SL_1)
def fX7_bill (Asz : Int32) (Anu : Nat → Int32) (Aba : Nat → Int32) (Amo : Nat → Int32) (Aco : Nat → Int64) (Hsz : Int32) (Hla : Int32) (Hce : Nat → Int32) (Bsz : Int32) (Bla : Int32) (Bce : Nat → Int32) (Tma : Int32) (Tlc : Int32) (Ttc : Nat → Int32) (day : Int32) (lim : Int32) (low : Int32) (hig : Int32) (thr : Int32) (off : Int64) (cre : Int64) (rcp : Int64) (pay : Int64) (sv : Int32) (nx : Int32) (SL : Nat → XS) (p1 : Int32) (p2 : Int32) : Option (Int32 × Int32 × Int32 × (Nat → Int32) × Int32 × Int32 × (Nat → XS)) :=
  bd1 (fX1_prepare Asz Anu Aba Amo Aco Hsz Hla Hce Bsz Bla Bce Tma Tlc Ttc day lim low hig thr off cre rcp pay nx SL) fun SL_1 =>
  bd4 (fX5_writeBill Asz Anu Bsz Bla Bce p1 p2) fun r_3 Bsz_4 Bla_5 Bce_6 =>
  bd3 (fX7_keptUnlessError sv nx r_3) fun r_8 sv_9 nx_10 =>
  some (r_8, Bsz_4, Bla_5, Bce_6, sv_9, nx_10, SL_1)
def fX7_settle (Asz : Int32) (Anu : Nat → Int32) (Aba : Nat → Int32) (Amo : Nat → Int32) (Aco : Nat → Int64) (Hsz : Int32) (Hla : Int32) (Hce : Nat → Int32) (Bsz : Int32) (Bla : Int32) (Bce : Nat → Int32) (Tma : Int32) (Tlc : Int32) (Ttc : Nat → Int32) (day : Int32) (lim : Int32) (low : Int32) (hig : Int32) (thr : Int32) (off : Int64) (cre : Int64) (rcp : Int64) (pay : Int64) (sv : Int32) (nx : Int32) (SL : Nat → XS) (p1 : Int32) : Option (Int32 × (Nat → Int32) × (Nat → Int32) × Int32 × (Nat → Int32) × Int32 × Int32 × (Nat → Int32) × Int64 × Int32 × Int32 × (Nat → XS)) :=
  bd1 (fX1_prepare Asz Anu Aba Amo Aco Hsz Hla Hce Bsz Bla Bce Tma Tlc Ttc day lim low hig thr off cre rcp pay nx SL) fun SL_1 =>
  bd9 (fX5_settleBill Asz Anu Aba Amo Hsz Hce Bsz Bce Tma Tlc Ttc day off p1) fun r_3 Aba_4 Amo_5 Bsz_6 Bce_7 Tma_8 Tlc_9 Ttc_10 off_11 =>
  bd3 (fX7_keptUnlessError sv nx r_3) fun r_13 sv_14 nx_15 =>
  some (r_13, Aba_4, Amo_5, Bsz_6, Bce_7, Tma_8, Tlc_9, Ttc_10, off_11, sv_14, nx_15, SL_1)
def fX7_pass (Asz : Int32) (Anu : Nat → Int32) (Aba : Nat → Int32) (Amo : Nat → Int32) (Aco : Nat → Int64) (Hsz : Int32) (Hla : Int32) (Hce : Nat → Int32) (Bsz : Int32) (Bla : Int32) (Bce : Nat → Int32) (Tma : Int32) (Tlc : Int32) (Ttc : Nat → Int32) (day : Int32) (lim : Int32) (low : Int32) (hig : Int32) (thr : Int32) (off : Int64) (cre : Int64) (rcp : Int64) (pay : Int64) (sv : Int32) (nx : Int32) (SL : Nat → XS) (p1 : Int32) : Option (Int64 × (Nat → Int32) × (Nat → Int32) × (Nat → Int64) × Int32 × (Nat → Int32) × Int32 × Int32 × (Nat → Int32) × Int32 × Int64 × Int32 × Int32 × (Nat → XS)) :=
  bd1 (fX1_prepare Asz Anu Aba Amo Aco Hsz Hla Hce Bsz Bla Bce Tma Tlc Ttc day lim low hig thr off cre rcp pay nx SL) fun SL_1 =>
  bd11 (fX5_letPass Asz Anu Aba Amo Aco Hsz Hce Tma Tlc Ttc day lim low hig thr cre p1) fun r_3 Aba_4 Amo_5 Aco_6 Hsz_7 Hce_8 Tma_9 Tlc_10 Ttc_11 day_12 cre_13 =>
  if r_3 < 0 then
    some (r_3, Aba_4, Amo_5, Aco_6, Hsz_7, Hce_8, Tma_9, Tlc_10, Ttc_11, day_12, cre_13, sv, nx, SL_1)
  else
    bd2 (fX1_keep sv nx) fun sv_16 nx_17 =>
    some (r_3, Aba_4, Amo_5, Aco_6, Hsz_7, Hce_8, Tma_9, Tlc_10, Ttc_11, day_12, cre_13, sv_16, nx_17, SL_1)
def fX7_reverse (Asz : Int32) (Anu : Nat → Int32) (Aba : Nat → Int32) (Amo : Nat → Int32) (Aco : Nat → Int64) (Hsz : Int32) (Hla : Int32) (Hce : Nat → Int32) (Bsz : Int32) (Bla : Int32) (Bce : Nat → Int32) (Tma : Int32) (Tlc : Int32) (Ttc : Nat → Int32) (day : Int32) (lim : Int32) (low : Int32) (hig : Int32) (thr : Int32) (off : Int64) (cre : Int64) (rcp : Int64) (pay : Int64) (sv : Int32) (nx : Int32) (SL : Nat → XS) (p1 : Int32) : Option (Int32 × (Nat → Int32) × (Nat → Int32) × Int32 × Int32 × (Nat → Int32) × Int64 × Int64 × Int32 × Int32 × (Nat → XS)) :=
  bd1 (fX1_prepare Asz Anu Aba Amo Aco Hsz Hla Hce Bsz Bla Bce Tma Tlc Ttc day lim low hig thr off cre rcp pay nx SL) fun SL_1 =>
  bd8 (fX5_reverseEntry Asz Anu Aba Amo Hsz Hce Tma Tlc Ttc day rcp pay p1) fun r_3 Aba_4 Amo_5 Tma_6 Tlc_7 Ttc_8 rcp_9 pay_10 =>
  bd3 (fX7_keptUnlessError sv nx r_3) fun r_12 sv_13 nx_14 =>
  some (r_12, Aba_4, Amo_5, Tma_6, Tlc_7, Ttc_8, rcp_9, pay_10, sv_13, nx_14, SL_1)
def fX7_day (day : Int32) : Option (Int32) :=
  some day
def fX7_clients (Asz : Int32) : Option (Int32) :=
  some Asz
def fX7_ranked (Ksz : Int32) (Kcl : Nat → Int32) (Kke : Nat → Int32) (Asz : Int32) (Anu : Nat → Int32) (Aba : Nat → Int32) (Amo : Nat → Int32) (Hsz : Int32) (Hce : Nat → Int32) (p1 : Int32) (p2 : Int32) : Option (Int32 × Int32 × (Nat → Int32) × (Nat → Int32)) :=
  if p1 < 0 then
    some ((-2), Ksz, Kcl, Kke)
  else
    if p1 ≤ 3 then
      if p2 < 0 then
        some ((-1), Ksz, Kcl, Kke)
      else
        if p2 < Asz then
          bd3 (fX3_sort Ksz Kcl Kke Asz Anu Aba Amo Hsz Hce p1) fun Ksz_5 Kcl_6 Kke_7 =>
          bd1 (fX3_clientAt Ksz_5 Kcl_6 p2) fun r_9 =>
          some (r_9, Ksz_5, Kcl_6, Kke_7)
        else
          some ((-1), Ksz, Kcl, Kke)
    else
      some ((-2), Ksz, Kcl, Kke)
def fX7_of (Asz : Int32) (Anu : Nat → Int32) (Aba : Nat → Int32) (Amo : Nat → Int32) (Aco : Nat → Int64) (Hsz : Int32) (Hce : Nat → Int32) (Bsz : Int32) (Bce : Nat → Int32) (p1 : Int32) (p2 : Int32) : Option (Int32) :=
  bd1 (fX0_find Asz Anu p1) fun r_1 =>
  if 0 ≤ r_1 then
    bd1 (fX5_aboutClient Asz Anu Aba Amo Aco Hsz Hce Bsz Bce r_1 p2) fun r_4 =>
    some r_4
  else
    some (-1)
def fX7_aboutRow (sz : Int32) (ce : Nat → Int32) (p2 : Int32) (p3 : Int32) : Option (Int32) :=
  bd1 (fX4_find sz ce p2) fun r_1 =>
  if 0 ≤ r_1 then
    if p3 < 0 then
      some (-2)
    else
      if p3 ≤ 2 then
        bd1 (fX4_get sz ce r_1 (1 + p3)) fun r_6 =>
        some r_6
      else
        some (-2)
  else
    some (-1)
def fX7_holdOf (Hsz : Int32) (Hce : Nat → Int32) (p1 : Int32) (p2 : Int32) : Option (Int32) :=
  bd1 (fX7_aboutRow Hsz Hce p1 p2) fun r_1 =>
  some r_1
def fX7_billOf (Bsz : Int32) (Bce : Nat → Int32) (p1 : Int32) (p2 : Int32) : Option (Int32) :=
  bd1 (fX7_aboutRow Bsz Bce p1 p2) fun r_1 =>
  some r_1
def fX7_entries (Tma : Int32) : Option (Int32) :=
  some Tma
def fX7_entry (Tma : Int32) (Ttc : Nat → Int32) (p1 : Int32) (p2 : Int32) : Option (Int32) :=
  bd1 (fX6_keeps Tma p1) fun r_1 =>
  if r_1 = 0 then
    some (-1)
  else
    if p2 < 0 then
      some (-2)
    else
      if p2 ≤ 6 then
        bd1 (fX6_get Tma Ttc p1 p2) fun r_6 =>
        some r_6
      else
        some (-2)
def fX7_sum (Asz : Int32) (Aba : Nat → Int32) (Hsz : Int32) (Hce : Nat → Int32) (off : Int64) (cre : Int64) (rcp : Int64) (pay : Int64) (p1 : Int32) : Option (Int64) :=
  if p1 = 0 then
    bd1 (fX0_sumOfBalances Asz Aba) fun r_2 =>
    some r_2
  else
    if p1 = 1 then
      bd1 (fX4_sumOfAll Hsz Hce 2) fun r_5 =>
      some r_5
    else
      if p1 = 2 then
        some off
      else
        if p1 = 3 then
          some cre
        else
          if p1 = 4 then
            some rcp
          else
            if p1 = 5 then
              some pay
            else
              some (-2)
def fX7_payableOn (Asz : Int32) (Anu : Nat → Int32) (Aba : Nat → Int32) (Aco : Nat → Int64) (Hsz : Int32) (Hce : Nat → Int32) (day : Int32) (lim : Int32) (low : Int32) (hig : Int32) (thr : Int32) (p1 : Int32) (p2 : Int32) : Option (Int32) :=
  bd1 (fX0_find Asz Anu p1) fun r_1 =>
  if 0 ≤ r_1 then
    bd1 (fX7_isAmount p2) fun r_4 =>
    if r_4 = 0 then
      some (-2)
    else
      bd1 (fX5_firstDayWithFree Asz Anu Aba Aco Hsz Hce day lim low hig thr r_1 p2) fun r_7 =>
      some r_7
  else
    some (-1)
def fX7_interestIn (Asz : Int32) (Anu : Nat → Int32) (Aba : Nat → Int32) (Aco : Nat → Int64) (day : Int32) (lim : Int32) (low : Int32) (hig : Int32) (thr : Int32) (p1 : Int32) (p2 : Int32) : Option (Int32) :=
  bd1 (fX0_find Asz Anu p1) fun r_1 =>
  if 0 ≤ r_1 then
    if p2 < 1 then
      some (-2)
    else
      if p2 ≤ 400 then
        bd1 (fX5_interestAhead Asz Aba Aco day lim low hig thr r_1 p2) fun r_6 =>
        some r_6
      else
        some (-2)
  else
    some (-1)
