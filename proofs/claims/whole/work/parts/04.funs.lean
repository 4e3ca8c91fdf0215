/-! the worlds, and the methods as functions: by program out of the bytecode -/
def wX0 (cy : Nat → ClassId) (a0 a1 a2 a3 a4 : Nat) (sz : Int32) (nu : Nat → Int32) (ba : Nat → Int32) (mo : Nat → Int32) (co : Nat → Int64) : va_W := [(a0, .inr (0, [.int sz, .ref a1, .ref a2, .ref a3, .ref a4])), (a1, .inl (cy 1, 12, .inl nu)), (a2, .inl (cy 1, 12, .inl ba)), (a3, .inl (cy 1, 12, .inl mo)), (a4, .inl (cy 2, 12, .inr (.inl co)))]
def wX4 (cy : Nat → ClassId) (a0 a1 : Nat) (sz : Int32) (la : Int32) (ce : Nat → Int32) : va_W := [(a0, .inr (4, [.int sz, .int la, .ref a1])), (a1, .inl (cy 1, 60, .inl ce))]
def wX6 (cy : Nat → ClassId) (a0 a1 : Nat) (ma : Int32) (lc : Int32) (tc : Nat → Int32) : va_W := [(a0, .inr (6, [.int ma, .int lc, .ref a1])), (a1, .inl (cy 1, 168, .inl tc))]
def wX2 (cy : Nat → ClassId) (a0 a1 : Nat) (le : Int32) (ch : Nat → Int32) (po : Int32) (ltr : Int32) (fi : Int32) (se : Int32) (th : Int32) : va_W := [(a0, .inr (2, [.int le, .ref a1, .int po, .int ltr, .int fi, .int se, .int th])), (a1, .inl (cy 0, 80, .inl ch))]
def wX3 (cy : Nat → ClassId) (a0 a1 a2 : Nat) (sz : Int32) (cl : Nat → Int32) (ke : Nat → Int32) : va_W := [(a0, .inr (3, [.int sz, .ref a1, .ref a2])), (a1, .inl (cy 1, 12, .inl cl)), (a2, .inl (cy 1, 12, .inl ke))]
def wX8 (cy : Nat → ClassId) (a0 a1 a2 a3 a4 a5 a6 : Nat) (st : Nat → Int32) (gr : Nat → Int64) (hi : Nat → Int32) (gh : Nat → Int64) (rc : Int32) (tx : Nat → Int32) (tl : Int32) (rk : Nat → Int32) (tb : Int32) (tk : Int64) (at_ : Int32) (ltr : Int32) (on_ : Int32) (tw : Int32) (th : Int32) (nu : Int32) : va_W := [(a0, .inr (8, [.ref a1, .ref a2, .ref a3, .ref a4, .int rc, .ref a5, .int tl, .ref a6, .int tb, .long tk, .int at_, .int ltr, .int on_, .int tw, .int th, .int nu])), (a1, .inl (cy 1, 336, .inl st)), (a2, .inl (cy 2, 16, .inr (.inl gr))), (a3, .inl (cy 1, 2016, .inl hi)), (a4, .inl (cy 2, 96, .inr (.inl gh))), (a5, .inl (cy 1, 80, .inl tx)), (a6, .inl (cy 1, 12, .inl rk))]
def wX5 (cy : Nat → ClassId) (a0 a1 a2 a3 a4 a5 a6 a7 a8 a9 a10 a11 : Nat) (Asz : Int32) (Anu : Nat → Int32) (Aba : Nat → Int32) (Amo : Nat → Int32) (Aco : Nat → Int64) (Hsz : Int32) (Hla : Int32) (Hce : Nat → Int32) (Bsz : Int32) (Bla : Int32) (Bce : Nat → Int32) (Tma : Int32) (Tlc : Int32) (Ttc : Nat → Int32) (day : Int32) (lim : Int32) (low : Int32) (hig : Int32) (thr : Int32) (off : Int64) (cre : Int64) (rcp : Int64) (pay : Int64) : va_W := (a0, .inr (5, [.ref a1, .ref a6, .ref a8, .ref a10, .int day, .int lim, .int low, .int hig, .int thr, .long off, .long cre, .long rcp, .long pay])) :: (wX0 cy a1 a2 a3 a4 a5 Asz Anu Aba Amo Aco ++ (wX4 cy a6 a7 Hsz Hla Hce ++ (wX4 cy a8 a9 Bsz Bla Bce ++ (wX6 cy a10 a11 Tma Tlc Ttc))))
abbrev XS : Type := Int32 × (Nat → Int32) × (Nat → Int32) × (Nat → Int32) × (Nat → Int64) × Int32 × Int32 × (Nat → Int32) × Int32 × Int32 × (Nat → Int32) × Int32 × Int32 × (Nat → Int32) × Int32 × Int32 × Int32 × Int32 × Int32 × Int64 × Int64 × Int64 × Int64
def wXS (cy : Nat → ClassId) (q : Nat → Nat) (σ : XS) : va_W := wX5 cy (q 0) (q 1) (q 2) (q 3) (q 4) (q 5) (q 6) (q 7) (q 8) (q 9) (q 10) (q 11) (σ.1) (σ.2.1) (σ.2.2.1) (σ.2.2.2.1) (σ.2.2.2.2.1) (σ.2.2.2.2.2.1) (σ.2.2.2.2.2.2.1) (σ.2.2.2.2.2.2.2.1) (σ.2.2.2.2.2.2.2.2.1) (σ.2.2.2.2.2.2.2.2.2.1) (σ.2.2.2.2.2.2.2.2.2.2.1) (σ.2.2.2.2.2.2.2.2.2.2.2.1) (σ.2.2.2.2.2.2.2.2.2.2.2.2.1) (σ.2.2.2.2.2.2.2.2.2.2.2.2.2.1) (σ.2.2.2.2.2.2.2.2.2.2.2.2.2.2.1) (σ.2.2.2.2.2.2.2.2.2.2.2.2.2.2.2.1) (σ.2.2.2.2.2.2.2.2.2.2.2.2.2.2.2.2.1) (σ.2.2.2.2.2.2.2.2.2.2.2.2.2.2.2.2.2.1) (σ.2.2.2.2.2.2.2.2.2.2.2.2.2.2.2.2.2.2.1) (σ.2.2.2.2.2.2.2.2.2.2.2.2.2.2.2.2.2.2.2.1) (σ.2.2.2.2.2.2.2.2.2.2.2.2.2.2.2.2.2.2.2.2.1) (σ.2.2.2.2.2.2.2.2.2.2.2.2.2.2.2.2.2.2.2.2.2.1) (σ.2.2.2.2.2.2.2.2.2.2.2.2.2.2.2.2.2.2.2.2.2.2)
def sl (hd : Nat → Nat) (k : Nat) : Nat → Nat := fun i => hd (2 + 12 * k + i)
def blk (f : Nat → va_W) : Nat → va_W
  | 0 => []
  | n + 1 => blk f n ++ f n
def wX1 (cy : Nat → ClassId) (hd : Nat → Nat) (sv nx : Int32) (SL : Nat → XS) : va_W := (hd 0, .inr (1, [.int sv, .int nx, .ref (hd 1)])) :: (hd 1, .inl (cy 3, 7, .inr (.inr (.inr (.inr (fun k => some (hd (2 + 12 * k)))))))) :: blk (fun k => wXS cy (sl hd k) (SL k)) 7
def wX7 (cy : Nat → ClassId) (a0 t0 t1 k0 k1 k2 s0 s1 s2 s3 s4 s5 s6 s7 s8 s9 s10 s11 : Nat) (hd : Nat → Nat) (Xle : Int32) (Xch : Nat → Int32) (Xpo : Int32) (Xltr : Int32) (Xfi : Int32) (Xse : Int32) (Xth : Int32) (Ksz : Int32) (Kcl : Nat → Int32) (Kke : Nat → Int32) (Asz : Int32) (Anu : Nat → Int32) (Aba : Nat → Int32) (Amo : Nat → Int32) (Aco : Nat → Int64) (Hsz : Int32) (Hla : Int32) (Hce : Nat → Int32) (Bsz : Int32) (Bla : Int32) (Bce : Nat → Int32) (Tma : Int32) (Tlc : Int32) (Ttc : Nat → Int32) (day : Int32) (lim : Int32) (low : Int32) (hig : Int32) (thr : Int32) (off : Int64) (cre : Int64) (rcp : Int64) (pay : Int64) (sv : Int32) (nx : Int32) (SL : Nat → XS) : va_W := (a0, .inr (7, [.ref s0, .ref (hd 0), .ref t0, .ref k0])) :: (wX2 cy t0 t1 Xle Xch Xpo Xltr Xfi Xse Xth ++ (wX3 cy k0 k1 k2 Ksz Kcl Kke ++ (wX5 cy s0 s1 s2 s3 s4 s5 s6 s7 s8 s9 s10 s11 Asz Anu Aba Amo Aco Hsz Hla Hce Bsz Bla Bce Tma Tlc Ttc day lim low hig thr off cre rcp pay ++ (wX1 cy hd sv nx SL))))
def fX0_copyFrom (sz : Int32) (nu : Nat → Int32) (ba : Nat → Int32) (mo : Nat → Int32) (co : Nat → Int64) (osz : Int32) (onu : Nat → Int32) (oba : Nat → Int32) (omo : Nat → Int32) (oco : Nat → Int64) : Option (Int32 × (Nat → Int32) × (Nat → Int32) × (Nat → Int32) × (Nat → Int64)) :=
  some (osz, onu, oba, omo, oco)
def fX0_find_L2 (sz : Int32) (nu : Nat → Int32) (u1 : Int32) : Nat → Int32 → Option ((Int32) ⊕ (Unit))
  | 0, _ => none
  | n + 1, z2 =>
    if sz ≤ z2 then
      some (.inr ())
    else
      if 12 ≤ z2 then
        some (.inr ())
      else
        ckI z2 12 <|
        if (nu z2.toNatClampNeg) = u1 then
          some (.inl z2)
        else
          fX0_find_L2 sz nu u1 n (z2 + 1)
def fX0_find (sz : Int32) (nu : Nat → Int32) (p1 : Int32) : Option (Int32) :=
  bs0 (fX0_find_L2 sz nu p1 2147483648 0)
    (some (-1))
def fX0_isPlace (sz : Int32) (p1 : Int32) : Option (Int32) :=
  if p1 < 0 then
    some 0
  else
    if sz ≤ p1 then
      some 0
    else
      if 12 ≤ p1 then
        some 0
      else
        some 1
def fX0_numberAt (sz : Int32) (nu : Nat → Int32) (p1 : Int32) : Option (Int32) :=
  bd1 (fX0_isPlace sz p1) fun r_1 =>
  if r_1 = 0 then
    some 0
  else
    ckI p1 12 <|
    some (nu p1.toNatClampNeg)
def fX0_copyRow (sz : Int32) (nu : Nat → Int32) (ba : Nat → Int32) (mo : Nat → Int32) (co : Nat → Int64) (p1 : Int32) (p2 : Int32) : Option ((Nat → Int32) × (Nat → Int32) × (Nat → Int32) × (Nat → Int64)) :=
  bd1 (fX0_isPlace sz p1) fun r_1 =>
  if r_1 = 0 then
    some (nu, ba, mo, co)
  else
    bd1 (fX0_isPlace sz p2) fun r_4 =>
    if r_4 = 0 then
      some (nu, ba, mo, co)
    else
      ckI p1 12 <|
      ckI p2 12 <|
      lt_ (upd nu p2.toNatClampNeg (nu p1.toNatClampNeg)) fun nu_9 =>
      ckI p1 12 <|
      ckI p2 12 <|
      lt_ (upd ba p2.toNatClampNeg (ba p1.toNatClampNeg)) fun ba_12 =>
      ckI p1 12 <|
      ckI p2 12 <|
      lt_ (upd mo p2.toNatClampNeg (mo p1.toNatClampNeg)) fun mo_15 =>
      ckI p1 12 <|
      ckI p2 12 <|
      lt_ (vp_updL co p2.toNatClampNeg (co p1.toNatClampNeg)) fun co_18 =>
      some (nu_9, ba_12, mo_15, co_18)
def fX0_insert_L25 (sz : Int32) (u1 : Int32) (u2 : Int32) : Nat → (Nat → Int32) → (Nat → Int32) → (Nat → Int32) → (Nat → Int64) → Int32 → Option ((Nat → Int32) × (Nat → Int32) × (Nat → Int32) × (Nat → Int64) × Int32)
  | 0, _, _, _, _, _ => none
  | n + 1, nu, ba, mo, co, z3 =>
    if z3 ≤ 0 then
      some (nu, ba, mo, co, z3)
    else
      bd1 (fX0_numberAt sz nu (z3 - 1)) fun r_4 =>
      if r_4 ≤ u1 then
        some (nu, ba, mo, co, z3)
      else
        bd4 (fX0_copyRow sz nu ba mo co (z3 - 1) z3) fun nu_7 ba_8 mo_9 co_10 =>
        fX0_insert_L25 sz u1 u2 n nu_7 ba_8 mo_9 co_10 (z3 + (-1))
def fX0_insert (sz : Int32) (nu : Nat → Int32) (ba : Nat → Int32) (mo : Nat → Int32) (co : Nat → Int64) (p1 : Int32) (p2 : Int32) : Option (Int32 × (Nat → Int32) × (Nat → Int32) × (Nat → Int32) × (Nat → Int64)) :=
  if sz < 12 then
    lt_ (sz + 1) fun sz_2 =>
    bd5 (fX0_insert_L25 sz_2 p1 p2 2147483648 nu ba mo co sz) fun nu_12 ba_13 mo_14 co_15 x3_16 =>
      bd1 (fX0_isPlace sz_2 x3_16) fun r_17 =>
      if r_17 = 0 then
        some (sz_2, nu_12, ba_13, mo_14, co_15)
      else
        ckI x3_16 12 <|
        lt_ (upd nu_12 x3_16.toNatClampNeg p1) fun nu_21 =>
        ckI x3_16 12 <|
        lt_ (upd ba_13 x3_16.toNatClampNeg 0) fun ba_23 =>
        ckI x3_16 12 <|
        lt_ (upd mo_14 x3_16.toNatClampNeg p2) fun mo_25 =>
        ckI x3_16 12 <|
        lt_ (vp_updL co_15 x3_16.toNatClampNeg 0) fun co_27 =>
        some (sz_2, nu_21, ba_23, mo_25, co_27)
  else
    some (sz, nu, ba, mo, co)
def fX0_remove_L11 (sz : Int32) : Nat → (Nat → Int32) → (Nat → Int32) → (Nat → Int32) → (Nat → Int64) → Int32 → Option ((Nat → Int32) × (Nat → Int32) × (Nat → Int32) × (Nat → Int64))
  | 0, _, _, _, _, _ => none
  | n + 1, nu, ba, mo, co, z2 =>
    if sz ≤ (z2 + 1) then
      some (nu, ba, mo, co)
    else
      bd4 (fX0_copyRow sz nu ba mo co (z2 + 1) z2) fun nu_5 ba_6 mo_7 co_8 =>
      fX0_remove_L11 sz n nu_5 ba_6 mo_7 co_8 (z2 + 1)
def fX0_remove (sz : Int32) (nu : Nat → Int32) (ba : Nat → Int32) (mo : Nat → Int32) (co : Nat → Int64) (p1 : Int32) : Option (Int32 × (Nat → Int32) × (Nat → Int32) × (Nat → Int32) × (Nat → Int64)) :=
  bd1 (fX0_isPlace sz p1) fun r_1 =>
  if r_1 = 0 then
    some (sz, nu, ba, mo, co)
  else
    bd4 (fX0_remove_L11 sz 2147483648 nu ba mo co p1) fun nu_10 ba_11 mo_12 co_13 =>
      lt_ (sz - 1) fun sz_14 =>
      some (sz_14, nu_10, ba_11, mo_12, co_13)
def fX0_balanceAt (sz : Int32) (ba : Nat → Int32) (p1 : Int32) : Option (Int32) :=
  bd1 (fX0_isPlace sz p1) fun r_1 =>
  if r_1 = 0 then
    some 0
  else
    ckI p1 12 <|
    some (ba p1.toNatClampNeg)
def fX0_movedAt (sz : Int32) (mo : Nat → Int32) (p1 : Int32) : Option (Int32) :=
  bd1 (fX0_isPlace sz p1) fun r_1 =>
  if r_1 = 0 then
    some 0
  else
    ckI p1 12 <|
    some (mo p1.toNatClampNeg)
def fX0_countAt (sz : Int32) (co : Nat → Int64) (p1 : Int32) : Option (Int64) :=
  bd1 (fX0_isPlace sz p1) fun r_1 =>
  if r_1 = 0 then
    some 0
  else
    ckI p1 12 <|
    some (co p1.toNatClampNeg)
def fX0_add (sz : Int32) (ba : Nat → Int32) (p1 : Int32) (p2 : Int32) : Option ((Nat → Int32)) :=
  bd1 (fX0_isPlace sz p1) fun r_1 =>
  if r_1 = 0 then
    some ba
  else
    ckI p1 12 <|
    ckI p1 12 <|
    lt_ (upd ba p1.toNatClampNeg ((ba p1.toNatClampNeg) + p2)) fun ba_6 =>
    some ba_6
def fX0_addCount (sz : Int32) (co : Nat → Int64) (p1 : Int32) (p2 : Int64) : Option ((Nat → Int64)) :=
  bd1 (fX0_isPlace sz p1) fun r_1 =>
  if r_1 = 0 then
    some co
  else
    ckI p1 12 <|
    ckI p1 12 <|
    lt_ (vp_updL co p1.toNatClampNeg ((co p1.toNatClampNeg) + p2)) fun co_6 =>
    some co_6
def fX0_move (sz : Int32) (mo : Nat → Int32) (p1 : Int32) (p2 : Int32) : Option ((Nat → Int32)) :=
  bd1 (fX0_isPlace sz p1) fun r_1 =>
  if r_1 = 0 then
    some mo
  else
    ckI p1 12 <|
    lt_ (upd mo p1.toNatClampNeg p2) fun mo_5 =>
    some mo_5
def fX0_sumOfBalances_L4 (sz : Int32) (ba : Nat → Int32) : Nat → Int64 → Int32 → Option (Int64)
  | 0, _, _ => none
  | n + 1, z1, z3 =>
    if sz ≤ z3 then
      some z1
    else
      bd1 (fX0_balanceAt sz ba z3) fun r_2 =>
      lt_ (z1 + r_2.toInt64) fun x1_4 =>
      fX0_sumOfBalances_L4 sz ba n x1_4 (z3 + 1)
def fX0_sumOfBalances (sz : Int32) (ba : Nat → Int32) : Option (Int64) :=
  bd1 (fX0_sumOfBalances_L4 sz ba 2147483648 0 0) fun x1_5 =>
    some x1_5
def fX1_prepare (Asz : Int32) (Anu : Nat → Int32) (Aba : Nat → Int32) (Amo : Nat → Int32) (Aco : Nat → Int64) (Hsz : Int32) (Hla : Int32) (Hce : Nat → Int32) (Bsz : Int32) (Bla : Int32) (Bce : Nat → Int32) (Tma : Int32) (Tlc : Int32) (Ttc : Nat → Int32) (day : Int32) (lim : Int32) (low : Int32) (hig : Int32) (thr : Int32) (off : Int64) (cre : Int64) (rcp : Int64) (pay : Int64) (nx : Int32) (SL : Nat → XS) : Option (Nat → XS) :=
  ckI nx 7 <|
  some (va_up SL nx.toNatClampNeg (Asz, Anu, Aba, Amo, Aco, Hsz, Hla, Hce, Bsz, Bla, Bce, Tma, Tlc, Ttc, day, lim, low, hig, thr, off, cre, rcp, pay))
def fX1_restoreLatest (sv nx : Int32) (SL : Nat → XS) : Option (Int32 × Int32 × (Nat → Int32) × (Nat → Int32) × (Nat → Int32) × (Nat → Int64) × Int32 × Int32 × (Nat → Int32) × Int32 × Int32 × (Nat → Int32) × Int32 × Int32 × (Nat → Int32) × Int32 × Int32 × Int32 × Int32 × Int32 × Int64 × Int64 × Int64 × Int64 × Int32 × Int32) :=
  lt_ (if 0 < nx then nx - 1 else 6) fun nx1 =>
  lt_ (sv - 1) fun sv1 =>
  ckI nx1 7 <|
  some (sv1, (SL nx1.toNatClampNeg).1, (SL nx1.toNatClampNeg).2.1, (SL nx1.toNatClampNeg).2.2.1, (SL nx1.toNatClampNeg).2.2.2.1, (SL nx1.toNatClampNeg).2.2.2.2.1, (SL nx1.toNatClampNeg).2.2.2.2.2.1, (SL nx1.toNatClampNeg).2.2.2.2.2.2.1, (SL nx1.toNatClampNeg).2.2.2.2.2.2.2.1, (SL nx1.toNatClampNeg).2.2.2.2.2.2.2.2.1, (SL nx1.toNatClampNeg).2.2.2.2.2.2.2.2.2.1, (SL nx1.toNatClampNeg).2.2.2.2.2.2.2.2.2.2.1, (SL nx1.toNatClampNeg).2.2.2.2.2.2.2.2.2.2.2.1, (SL nx1.toNatClampNeg).2.2.2.2.2.2.2.2.2.2.2.2.1, (SL nx1.toNatClampNeg).2.2.2.2.2.2.2.2.2.2.2.2.2.1, (SL nx1.toNatClampNeg).2.2.2.2.2.2.2.2.2.2.2.2.2.2.1, (SL nx1.toNatClampNeg).2.2.2.2.2.2.2.2.2.2.2.2.2.2.2.1, (SL nx1.toNatClampNeg).2.2.2.2.2.2.2.2.2.2.2.2.2.2.2.2.1, (SL nx1.toNatClampNeg).2.2.2.2.2.2.2.2.2.2.2.2.2.2.2.2.2.1, (SL nx1.toNatClampNeg).2.2.2.2.2.2.2.2.2.2.2.2.2.2.2.2.2.2.1, (SL nx1.toNatClampNeg).2.2.2.2.2.2.2.2.2.2.2.2.2.2.2.2.2.2.2.1, (SL nx1.toNatClampNeg).2.2.2.2.2.2.2.2.2.2.2.2.2.2.2.2.2.2.2.2.1, (SL nx1.toNatClampNeg).2.2.2.2.2.2.2.2.2.2.2.2.2.2.2.2.2.2.2.2.2.1, (SL nx1.toNatClampNeg).2.2.2.2.2.2.2.2.2.2.2.2.2.2.2.2.2.2.2.2.2.2, sv1, nx1)
def ixOf (c : Int32) : Int32 := if c = 114 then 0 else if c = 112 then 1 else if c = 116 then 2 else if c = 98 then 3 else if c = 115 then 4 else if c = 100 then 5 else -1
def fX1_slotAt (hd : Nat → Nat) (p1 : Int32) : Option (Option Nat) :=
  if p1 < 0 then
    some none
  else
    if 7 ≤ p1 then
      some none
    else
      ckI p1 7 <|
      some (some (hd (2 + 12 * p1.toNatClampNeg)))
def fX4_copyFrom (sz : Int32) (la : Int32) (ce : Nat → Int32) (osz : Int32) (ola : Int32) (oce : Nat → Int32) : Option (Int32 × Int32 × (Nat → Int32)) :=
  some (osz, ola, oce)
def fX6_copyFrom (ma : Int32) (lc : Int32) (tc : Nat → Int32) (oma : Int32) (olc : Int32) (otc : Nat → Int32) : Option (Int32 × Int32 × (Nat → Int32)) :=
  some (oma, olc, otc)
def fX5_copyFrom (Asz : Int32) (Anu : Nat → Int32) (Aba : Nat → Int32) (Amo : Nat → Int32) (Aco : Nat → Int64) (Hsz : Int32) (Hla : Int32) (Hce : Nat → Int32) (Bsz : Int32) (Bla : Int32) (Bce : Nat → Int32) (Tma : Int32) (Tlc : Int32) (Ttc : Nat → Int32) (day : Int32) (lim : Int32) (low : Int32) (hig : Int32) (thr : Int32) (off : Int64) (cre : Int64) (rcp : Int64) (pay : Int64) (oAsz : Int32) (oAnu : Nat → Int32) (oAba : Nat → Int32) (oAmo : Nat → Int32) (oAco : Nat → Int64) (oHsz : Int32) (oHla : Int32) (oHce : Nat → Int32) (oBsz : Int32) (oBla : Int32) (oBce : Nat → Int32) (oTma : Int32) (oTlc : Int32) (oTtc : Nat → Int32) (oday : Int32) (olim : Int32) (olow : Int32) (ohig : Int32) (othr : Int32) (ooff : Int64) (ocre : Int64) (orcp : Int64) (opay : Int64) : Option (Int32 × (Nat → Int32) × (Nat → Int32) × (Nat → Int32) × (Nat → Int64) × Int32 × Int32 × (Nat → Int32) × Int32 × Int32 × (Nat → Int32) × Int32 × Int32 × (Nat → Int32) × Int32 × Int32 × Int32 × Int32 × Int32 × Int64 × Int64 × Int64 × Int64) :=
  bd5 (fX0_copyFrom Asz Anu Aba Amo Aco oAsz oAnu oAba oAmo oAco) fun Asz_1 Anu_2 Aba_3 Amo_4 Aco_5 =>
  bd3 (fX4_copyFrom Hsz Hla Hce oHsz oHla oHce) fun Hsz_7 Hla_8 Hce_9 =>
  bd3 (fX4_copyFrom Bsz Bla Bce oBsz oBla oBce) fun Bsz_11 Bla_12 Bce_13 =>
  bd3 (fX6_copyFrom Tma Tlc Ttc oTma oTlc oTtc) fun Tma_15 Tlc_16 Ttc_17 =>
  some (Asz_1, Anu_2, Aba_3, Amo_4, Aco_5, Hsz_7, Hla_8, Hce_9, Bsz_11, Bla_12, Bce_13, Tma_15, Tlc_16, Ttc_17, oday, olim, olow, ohig, othr, ooff, ocre, orcp, opay)
def fX1_keep (sv : Int32) (nx : Int32) : Option (Int32 × Int32) :=
  if 6 ≤ nx then
    lt_ (if 6 < (sv + 1) then 6 else (sv + 1)) fun mn_2 =>
    some (mn_2, 0)
  else
    lt_ (nx + 1) fun nx_3 =>
    lt_ (if 6 < (sv + 1) then 6 else (sv + 1)) fun mn_4 =>
    some (mn_4, nx_3)
def fX2_append (le : Int32) (ch : Nat → Int32) (p1 : Int32) : Option (Int32 × Int32 × (Nat → Int32)) :=
  if le < 0 then
    some (le, le, ch)
  else
    if 80 ≤ le then
      some (le, le, ch)
    else
      ckI le 80 <|
      lt_ (upd ch le.toNatClampNeg (vp_nar .char p1)) fun ch_4 =>
      lt_ (le + 1) fun le_5 =>
      some (le_5, le_5, ch_4)
def fX2_empty (le : Int32) : Option (Int32 × Int32) :=
  some (le, 0)
def fX2_at (le : Int32) (ch : Nat → Int32) (p1 : Int32) : Option (Int32) :=
  if p1 < 0 then
    some 0
  else
    if le ≤ p1 then
      some 0
    else
      if 80 ≤ p1 then
        some 0
      else
        ckI p1 80 <|
        ckP (narrow .char (.int (ch p1.toNatClampNeg)) = .int (ch p1.toNatClampNeg)) <|
        some (ch p1.toNatClampNeg)
def fX2_isDigit (p1 : Int32) : Option (Int32) :=
  if p1 < 48 then
    some 0
  else
    if 57 < p1 then
      some 0
    else
      some 1
def fX2_signAfter (p1 : Int32) (p2 : Int32) : Option (Int32) :=
  if p1 = 116 then
    if p2 = 0 then
      some 62
    else
      if p2 = 1 then
        some 58
      else
        some 59
  else
    if p1 = 115 then
      some 59
    else
      if p1 = 100 then
        some 59
      else
        if p2 = 0 then
          some 58
        else
          some 59
def fX2_firstError_L9 (le : Int32) (ch : Nat → Int32) : Nat → Int32 → Int32 → Int32 → Int32 → Option ((Int32) ⊕ (Int32 × Int32 × Int32))
  | 0, _, _, _, _ => none
  | n + 1, z1, z2, z3, z4 =>
    if le ≤ z4 then
      some (.inr (z1, z2, z3))
    else
      bd1 (fX2_at le ch z4) fun r_2 =>
      if z1 = 0 then
        lt_ (ixOf r_2) fun ix_14 =>
        if 0 ≤ ix_14 then
          fX2_firstError_L9 le ch n r_2 0 0 (z4 + 1)
        else
          some (.inl z4)
      else
        bd1 (fX2_isDigit r_2) fun r_5 =>
        if r_5 = 0 then
          if z3 = 0 then
            some (.inl z4)
          else
            bd1 (fX2_signAfter z1 z2) fun r_9 =>
            if r_2 = r_9 then
              if r_2 = 59 then
                fX2_firstError_L9 le ch n 0 z2 z3 (z4 + 1)
              else
                fX2_firstError_L9 le ch n z1 (z2 + 1) 0 (z4 + 1)
            else
              some (.inl z4)
        else
          if z3 = 6 then
            some (.inl z4)
          else
            fX2_firstError_L9 le ch n z1 z2 (z3 + 1) (z4 + 1)
def fX2_firstError (le : Int32) (ch : Nat → Int32) : Option (Int32) :=
  bs3 (fX2_firstError_L9 le ch 2147483648 0 0 0 0) fun x1_16 x2_17 x3_18 =>
    if x1_16 = 0 then
      some le
    else
      if x3_18 ≤ 0 then
        some le
      else
        bd1 (fX2_signAfter x1_16 x2_17) fun r_23 =>
        if r_23 = 59 then
          some (-6)
        else
          some le
def fX2_startReading (po : Int32) : Option (Int32) :=
  some 0
def fX2_readNumber_L14 (le : Int32) (ch : Nat → Int32) : Nat → Int32 → Int32 → Int32 → Option (Int32 × Int32)
  | 0, _, _, _ => none
  | n + 1, po, z1, z2 =>
    if 6 ≤ z2 then
      some (po, z1)
    else
      bd1 (fX2_at le ch po) fun r_3 =>
      bd1 (fX2_isDigit r_3) fun r_5 =>
      if r_5 = 0 then
        some (po, z1)
      else
        bd1 (fX2_at le ch po) fun r_8 =>
        lt_ ((z1 * 10) + (r_8 - 48)) fun x1_10 =>
        lt_ (po + 1) fun po_11 =>
        fX2_readNumber_L14 le ch n po_11 x1_10 (z2 + 1)
def fX2_readNumber (le : Int32) (ch : Nat → Int32) (po : Int32) : Option (Int32 × Int32) :=
  lt_ (po + 1) fun po_1 =>
  bd2 (fX2_readNumber_L14 le ch 2147483648 po_1 0 0) fun po_12 x1_13 =>
    some (x1_13, po_12)
def fX2_readOrder (le : Int32) (ch : Nat → Int32) (po : Int32) (ltr : Int32) (fi : Int32) (se : Int32) (th : Int32) : Option (Int32 × Int32 × Int32 × Int32 × Int32 × Int32) :=
  if po < le then
    bd1 (fX2_at le ch po) fun r_2 =>
    ckP (narrow .char (.int r_2) = .int r_2) <|
    bd2 (fX2_readNumber le ch po) fun r_4 po_5 =>
    bd1 (fX2_signAfter r_2 0) fun r_7 =>
    if r_7 = 59 then
      bd1 (fX2_signAfter r_2 1) fun r_21 =>
      if r_21 = 59 then
        lt_ (po_5 + 1) fun po_28 =>
        some (1, po_28, r_2, r_4, 0, 0)
      else
        bd2 (fX2_readNumber le ch po_5) fun r_24 po_25 =>
        lt_ (po_25 + 1) fun po_27 =>
        some (1, po_27, r_2, r_4, 0, r_24)
    else
      bd2 (fX2_readNumber le ch po_5) fun r_10 po_11 =>
      bd1 (fX2_signAfter r_2 1) fun r_13 =>
      if r_13 = 59 then
        lt_ (po_11 + 1) fun po_20 =>
        some (1, po_20, r_2, r_4, r_10, 0)
      else
        bd2 (fX2_readNumber le ch po_11) fun r_16 po_17 =>
        lt_ (po_17 + 1) fun po_19 =>
        some (1, po_19, r_2, r_4, r_10, r_16)
  else
    some (0, po, ltr, fi, se, th)
def fX4_get (sz : Int32) (ce : Nat → Int32) (p1 : Int32) (p2 : Int32) : Option (Int32) :=
  if p1 < 0 then
    some 0
  else
    if sz ≤ p1 then
      some 0
    else
      if 15 ≤ p1 then
        some 0
      else
        if p2 < 0 then
          some 0
        else
          if p2 < 4 then
            ckI ((p1 * 4) + p2) 60 <|
            some (ce ((p1 * 4) + p2).toNatClampNeg)
          else
            some 0
def fX4_sumOf_L5 (sz : Int32) (ce : Nat → Int32) (u1 : Int32) (u2 : Int32) : Nat → Int32 → Int32 → Option (Int32)
  | 0, _, _ => none
  | n + 1, z3, z4 =>
    if sz ≤ z4 then
      some z3
    else
      bd1 (fX4_get sz ce z4 1) fun r_2 =>
      if r_2 = u1 then
        bd1 (fX4_get sz ce z4 u2) fun r_5 =>
        lt_ (z3 + r_5) fun x3_7 =>
        fX4_sumOf_L5 sz ce u1 u2 n x3_7 (z4 + 1)
      else
        fX4_sumOf_L5 sz ce u1 u2 n z3 (z4 + 1)
def fX4_sumOf (sz : Int32) (ce : Nat → Int32) (p1 : Int32) (p2 : Int32) : Option (Int32) :=
  bd1 (fX4_sumOf_L5 sz ce p1 p2 2147483648 0 0) fun x3_8 =>
    some x3_8
def fX5_freeAt (Asz : Int32) (Anu : Nat → Int32) (Aba : Nat → Int32) (Hsz : Int32) (Hce : Nat → Int32) (p1 : Int32) : Option (Int32) :=
  bd1 (fX0_balanceAt Asz Aba p1) fun r_1 =>
  bd1 (fX0_numberAt Asz Anu p1) fun r_3 =>
  bd1 (fX4_sumOf Hsz Hce r_3 2) fun r_5 =>
  some (r_1 - r_5)
def fX3_keyOf (Asz : Int32) (Anu : Nat → Int32) (Aba : Nat → Int32) (Amo : Nat → Int32) (Hsz : Int32) (Hce : Nat → Int32) (p2 : Int32) (p3 : Int32) : Option (Int32) :=
  if p2 = 1 then
    bd1 (fX0_balanceAt Asz Aba p3) fun r_2 =>
    some (-r_2)
  else
    if p2 = 2 then
      bd1 (fX5_freeAt Asz Anu Aba Hsz Hce p3) fun r_5 =>
      some r_5
    else
      if p2 = 3 then
        bd1 (fX0_movedAt Asz Amo p3) fun r_8 =>
        some r_8
      else
        some 0
def fX3_sort_L37 (u2 : Int32) (u3 : Int32) (u4 : Int32) : Nat → (Nat → Int32) → (Nat → Int32) → Int32 → Option ((Nat → Int32) × (Nat → Int32) × Int32)
  | 0, _, _, _ => none
  | n + 1, cl, ke, z5 =>
    if z5 ≤ 0 then
      some (cl, ke, z5)
    else
      ckI (z5 - 1) 12 <|
      if (ke (z5 - 1).toNatClampNeg) ≤ u4 then
        some (cl, ke, z5)
      else
        ckI (z5 - 1) 12 <|
        ckI z5 12 <|
        lt_ (upd ke z5.toNatClampNeg (ke (z5 - 1).toNatClampNeg)) fun ke_10 =>
        ckI (z5 - 1) 12 <|
        ckI z5 12 <|
        lt_ (upd cl z5.toNatClampNeg (cl (z5 - 1).toNatClampNeg)) fun cl_13 =>
        fX3_sort_L37 u2 u3 u4 n cl_13 ke_10 (z5 + (-1))
def fX3_sort_L18 (sz : Int32) (oAsz : Int32) (oAnu : Nat → Int32) (oAba : Nat → Int32) (oAmo : Nat → Int32) (oHsz : Int32) (oHce : Nat → Int32) (u2 : Int32) : Nat → (Nat → Int32) → (Nat → Int32) → Int32 → Option ((Nat → Int32) × (Nat → Int32))
  | 0, _, _, _ => none
  | n + 1, cl, ke, z3 =>
    if sz ≤ z3 then
      some (cl, ke)
    else
      bd1 (fX3_keyOf oAsz oAnu oAba oAmo oHsz oHce u2 z3) fun r_3 =>
      bd3 (fX3_sort_L37 u2 z3 r_3 2147483648 cl ke z3) fun cl_14 ke_15 x5_16 =>
        ckI x5_16 12 <|
        lt_ (upd ke_15 x5_16.toNatClampNeg r_3) fun ke_18 =>
        bd1 (fX0_numberAt oAsz oAnu z3) fun r_19 =>
        ckI x5_16 12 <|
        lt_ (upd cl_14 x5_16.toNatClampNeg r_19) fun cl_22 =>
        fX3_sort_L18 sz oAsz oAnu oAba oAmo oHsz oHce u2 n cl_22 ke_18 (z3 + 1)
def fX3_sort (sz : Int32) (cl : Nat → Int32) (ke : Nat → Int32) (oAsz : Int32) (oAnu : Nat → Int32) (oAba : Nat → Int32) (oAmo : Nat → Int32) (oHsz : Int32) (oHce : Nat → Int32) (p2 : Int32) : Option (Int32 × (Nat → Int32) × (Nat → Int32)) :=
  lt_ (if 12 < oAsz then 12 else oAsz) fun mn_1 =>
  bd2 (fX3_sort_L18 mn_1 oAsz oAnu oAba oAmo oHsz oHce p2 2147483648 cl ke 0) fun cl_23 ke_24 =>
    some (mn_1, cl_23, ke_24)
def fX3_clientAt (sz : Int32) (cl : Nat → Int32) (p1 : Int32) : Option (Int32) :=
  if p1 < 0 then
    some (-1)
  else
    if sz ≤ p1 then
      some (-1)
    else
      if 12 ≤ p1 then
        some (-1)
      else
        ckI p1 12 <|
        some (cl p1.toNatClampNeg)
def fX4_find_L2 (sz : Int32) (ce : Nat → Int32) (u1 : Int32) : Nat → Int32 → Option ((Int32) ⊕ (Unit))
  | 0, _ => none
  | n + 1, z2 =>
    if sz ≤ z2 then
      some (.inr ())
    else
      bd1 (fX4_get sz ce z2 0) fun r_2 =>
      if r_2 = u1 then
        some (.inl z2)
      else
        fX4_find_L2 sz ce u1 n (z2 + 1)
def fX4_find (sz : Int32) (ce : Nat → Int32) (p1 : Int32) : Option (Int32) :=
  bs0 (fX4_find_L2 sz ce p1 2147483648 0)
    (some (-1))
def fX4_set (sz : Int32) (ce : Nat → Int32) (p1 : Int32) (p2 : Int32) (p3 : Int32) : Option ((Nat → Int32)) :=
  if p1 < 0 then
    some ce
  else
    if sz ≤ p1 then
      some ce
    else
      if 15 ≤ p1 then
        some ce
      else
        if p2 < 0 then
          some ce
        else
          if p2 < 4 then
            ckI ((p1 * 4) + p2) 60 <|
            lt_ (upd ce ((p1 * 4) + p2).toNatClampNeg p3) fun ce_7 =>
            some ce_7
          else
            some ce
def fX4_append (sz : Int32) (la : Int32) (ce : Nat → Int32) (p1 : Int32) (p2 : Int32) (p3 : Int32) : Option (Int32 × Int32 × Int32 × (Nat → Int32)) :=
  if sz < 15 then
    lt_ (sz + 1) fun sz_2 =>
    lt_ (la + 1) fun la_3 =>
    bd1 (fX4_set sz_2 ce sz 0 la_3) fun ce_4 =>
    bd1 (fX4_set sz_2 ce_4 sz 1 p1) fun ce_6 =>
    bd1 (fX4_set sz_2 ce_6 sz 2 p2) fun ce_8 =>
    bd1 (fX4_set sz_2 ce_8 sz 3 p3) fun ce_10 =>
    some (la_3, sz_2, la_3, ce_10)
  else
    some ((-4), sz, la, ce)
def fX4_remove_L27 (sz : Int32) (u2 : Int32) : Nat → (Nat → Int32) → Int32 → Option ((Nat → Int32))
  | 0, _, _ => none
  | n + 1, ce, z3 =>
    if 4 ≤ z3 then
      some ce
    else
      bd1 (fX4_get sz ce (u2 + 1) z3) fun r_5 =>
      bd1 (fX4_set sz ce u2 z3 r_5) fun ce_7 =>
      fX4_remove_L27 sz u2 n ce_7 (z3 + 1)
def fX4_remove_L15 (sz : Int32) : Nat → (Nat → Int32) → Int32 → Option ((Nat → Int32))
  | 0, _, _ => none
  | n + 1, ce, z2 =>
    if sz ≤ (z2 + 1) then
      some ce
    else
      bd1 (fX4_remove_L27 sz z2 2147483648 ce 0) fun ce_9 =>
        fX4_remove_L15 sz n ce_9 (z2 + 1)
def fX4_remove (sz : Int32) (ce : Nat → Int32) (p1 : Int32) : Option (Int32 × (Nat → Int32)) :=
  if p1 < 0 then
    some (sz, ce)
  else
    if p1 < sz then
      bd1 (fX4_remove_L15 sz 2147483648 ce p1) fun ce_10 =>
        lt_ (sz - 1) fun sz_11 =>
        some (sz_11, ce_10)
    else
      some (sz, ce)
def fX4_countOf_L4 (sz : Int32) (ce : Nat → Int32) (u1 : Int32) : Nat → Int32 → Int32 → Option (Int32)
  | 0, _, _ => none
  | n + 1, z2, z3 =>
    if sz ≤ z3 then
      some z2
    else
      bd1 (fX4_get sz ce z3 1) fun r_2 =>
      if r_2 = u1 then
        fX4_countOf_L4 sz ce u1 n (z2 + 1) (z3 + 1)
      else
        fX4_countOf_L4 sz ce u1 n z2 (z3 + 1)
def fX4_countOf (sz : Int32) (ce : Nat → Int32) (p1 : Int32) : Option (Int32) :=
  bd1 (fX4_countOf_L4 sz ce p1 2147483648 0 0) fun x2_5 =>
    some x2_5
def fX4_sumOfAll_L5 (sz : Int32) (ce : Nat → Int32) (u1 : Int32) : Nat → Int64 → Int32 → Option (Int64)
  | 0, _, _ => none
  | n + 1, z2, z4 =>
    if sz ≤ z4 then
      some z2
    else
      bd1 (fX4_get sz ce z4 u1) fun r_2 =>
      lt_ (z2 + r_2.toInt64) fun x2_4 =>
      fX4_sumOfAll_L5 sz ce u1 n x2_4 (z4 + 1)
def fX4_sumOfAll (sz : Int32) (ce : Nat → Int32) (p1 : Int32) : Option (Int64) :=
  bd1 (fX4_sumOfAll_L5 sz ce p1 2147483648 0 0) fun x2_5 =>
    some x2_5
def fX5_changeRates (lim : Int32) (low : Int32) (hig : Int32) (p1 : Int32) (p2 : Int32) (p3 : Int32) : Option (Int32 × Int32 × Int32 × Int32) :=
  if p1 < 0 then
    some ((-2), lim, low, hig)
  else
    if 1000000000 < p1 then
      some ((-2), lim, low, hig)
    else
      if p2 < 0 then
        some ((-2), lim, low, hig)
      else
        if 2000 < p2 then
          some ((-2), lim, low, hig)
        else
          if p3 < 0 then
            some ((-2), lim, low, hig)
          else
            if p3 ≤ 2000 then
              some (lim, p1, p2, p3)
            else
              some ((-2), lim, low, hig)
def fX5_changeThreshold (thr : Int32) (p1 : Int32) : Option (Int32 × Int32) :=
  if p1 < 0 then
    some ((-2), thr)
  else
    if p1 ≤ 10000 then
      some (thr, p1)
    else
      some ((-2), thr)
def fX5_openAccount (Asz : Int32) (Anu : Nat → Int32) (Aba : Nat → Int32) (Amo : Nat → Int32) (Aco : Nat → Int64) (day : Int32) (p1 : Int32) : Option (Int32 × Int32 × (Nat → Int32) × (Nat → Int32) × (Nat → Int32) × (Nat → Int64)) :=
  if p1 < 1 then
    some ((-2), Asz, Anu, Aba, Amo, Aco)
  else
    if p1 ≤ 99 then
      bd1 (fX0_find Asz Anu p1) fun r_3 =>
      if r_3 < 0 then
        if Asz < 12 then
          bd5 (fX0_insert Asz Anu Aba Amo Aco p1 day) fun Asz_7 Anu_8 Aba_9 Amo_10 Aco_11 =>
          some (Asz_7, Asz_7, Anu_8, Aba_9, Amo_10, Aco_11)
        else
          some ((-4), Asz, Anu, Aba, Amo, Aco)
      else
        some ((-3), Asz, Anu, Aba, Amo, Aco)
    else
      some ((-2), Asz, Anu, Aba, Amo, Aco)
def fX5_closeAccount (Asz : Int32) (Anu : Nat → Int32) (Aba : Nat → Int32) (Amo : Nat → Int32) (Aco : Nat → Int64) (Bsz : Int32) (Bce : Nat → Int32) (p1 : Int32) : Option (Int32 × Int32 × (Nat → Int32) × (Nat → Int32) × (Nat → Int32) × (Nat → Int64)) :=
  bd1 (fX0_find Asz Anu p1) fun r_1 =>
  if 0 ≤ r_1 then
    bd1 (fX0_balanceAt Asz Aba r_1) fun r_4 =>
    if r_4 = 0 then
      bd1 (fX4_countOf Bsz Bce p1) fun r_7 =>
      if r_7 ≤ 0 then
        bd5 (fX0_remove Asz Anu Aba Amo Aco r_1) fun Asz_10 Anu_11 Aba_12 Amo_13 Aco_14 =>
        some (Asz_10, Asz_10, Anu_11, Aba_12, Amo_13, Aco_14)
      else
        some ((-3), Asz, Anu, Aba, Amo, Aco)
    else
      some ((-3), Asz, Anu, Aba, Amo, Aco)
  else
    some ((-1), Asz, Anu, Aba, Amo, Aco)
def fX7_isAmount (p1 : Int32) : Option (Int32) :=
  if p1 < 1 then
    some 0
  else
    if 100000000 < p1 then
      some 0
    else
      some 1
def fX6_cellOf (p1 : Int32) (p2 : Int32) : Option (Int32) :=
  some (((p1 - p1 / 24 * 24) * 7) + p2)
def fX6_set (tc : Nat → Int32) (p1 : Int32) (p2 : Int32) (p3 : Int32) : Option ((Nat → Int32)) :=
  bd1 (fX6_cellOf p1 p2) fun r_1 =>
  if r_1 < 0 then
    some tc
  else
    if 168 ≤ r_1 then
      some tc
    else
      ckI r_1 168 <|
      lt_ (upd tc r_1.toNatClampNeg p3) fun tc_6 =>
      some tc_6
def fX6_append (ma : Int32) (lc : Int32) (tc : Nat → Int32) (p1 : Int32) (p2 : Int32) (p3 : Int32) (p4 : Int32) (p5 : Int32) : Option (Int32 × Int32 × (Nat → Int32)) :=
  lt_ (((((((lc.toInt64 * 1009) + (p1.toInt64 * 31)) + (p2.toInt64 * 17)) + (p3.toInt64 * 101)) + (p4.toInt64 * 103)) + p5.toInt64) - ((((((lc.toInt64 * 1009) + (p1.toInt64 * 31)) + (p2.toInt64 * 17)) + (p3.toInt64 * 101)) + (p4.toInt64 * 103)) + p5.toInt64) / 1000003 * 1000003) fun x6_1 =>
  lt_ (ma + 1) fun ma_2 =>
  bd1 (fX6_set tc ma_2 0 p1) fun tc_3 =>
  bd1 (fX6_set tc_3 ma_2 1 p2) fun tc_5 =>
  bd1 (fX6_set tc_5 ma_2 2 p3) fun tc_7 =>
  bd1 (fX6_set tc_7 ma_2 3 p4) fun tc_9 =>
  bd1 (fX6_set tc_9 ma_2 4 p5) fun tc_11 =>
  bd1 (fX6_set tc_11 ma_2 5 x6_1.toInt32) fun tc_13 =>
  bd1 (fX6_set tc_13 ma_2 6 0) fun tc_15 =>
  some (ma_2, x6_1.toInt32, tc_15)
def fX5_enter (Asz : Int32) (Anu : Nat → Int32) (Amo : Nat → Int32) (Tma : Int32) (Tlc : Int32) (Ttc : Nat → Int32) (day : Int32) (p1 : Int32) (p2 : Int32) (p3 : Int32) (p4 : Int32) : Option ((Nat → Int32) × Int32 × Int32 × (Nat → Int32)) :=
  bd3 (fX6_append Tma Tlc Ttc day p1 p2 p3 p4) fun Tma_1 Tlc_2 Ttc_3 =>
  bd1 (fX0_find Asz Anu p2) fun r_5 =>
  bd1 (fX0_move Asz Amo r_5 day) fun Amo_7 =>
  bd1 (fX0_find Asz Anu p3) fun r_9 =>
  bd1 (fX0_move Asz Amo_7 r_9 day) fun Amo_11 =>
  some (Amo_11, Tma_1, Tlc_2, Ttc_3)
def fX5_takeReceipt (Asz : Int32) (Anu : Nat → Int32) (Aba : Nat → Int32) (Amo : Nat → Int32) (Tma : Int32) (Tlc : Int32) (Ttc : Nat → Int32) (day : Int32) (rcp : Int64) (p1 : Int32) (p2 : Int32) : Option (Int32 × (Nat → Int32) × (Nat → Int32) × Int32 × Int32 × (Nat → Int32) × Int64) :=
  bd1 (fX0_find Asz Anu p1) fun r_1 =>
  if 0 ≤ r_1 then
    bd1 (fX7_isAmount p2) fun r_4 =>
    if r_4 = 0 then
      some ((-2), Aba, Amo, Tma, Tlc, Ttc, rcp)
    else
      bd1 (fX0_balanceAt Asz Aba r_1) fun r_7 =>
      if r_7 ≤ (1000000000 - p2) then
        bd1 (fX0_add Asz Aba r_1 p2) fun Aba_10 =>
        lt_ (rcp + p2.toInt64) fun rcp_12 =>
        bd4 (fX5_enter Asz Anu Amo Tma Tlc Ttc day 1 p1 0 p2) fun Amo_13 Tma_14 Tlc_15 Ttc_16 =>
        bd1 (fX0_balanceAt Asz Aba_10 r_1) fun r_18 =>
        some (r_18, Aba_10, Amo_13, Tma_14, Tlc_15, Ttc_16, rcp_12)
      else
        some ((-4), Aba, Amo, Tma, Tlc, Ttc, rcp)
  else
    some ((-1), Aba, Amo, Tma, Tlc, Ttc, rcp)
def fX5_makePayment (Asz : Int32) (Anu : Nat → Int32) (Aba : Nat → Int32) (Amo : Nat → Int32) (Hsz : Int32) (Hce : Nat → Int32) (Tma : Int32) (Tlc : Int32) (Ttc : Nat → Int32) (day : Int32) (pay : Int64) (p1 : Int32) (p2 : Int32) : Option (Int32 × (Nat → Int32) × (Nat → Int32) × Int32 × Int32 × (Nat → Int32) × Int64) :=
  bd1 (fX0_find Asz Anu p1) fun r_1 =>
  if 0 ≤ r_1 then
    bd1 (fX7_isAmount p2) fun r_4 =>
    if r_4 = 0 then
      some ((-2), Aba, Amo, Tma, Tlc, Ttc, pay)
    else
      bd1 (fX5_freeAt Asz Anu Aba Hsz Hce r_1) fun r_7 =>
      if p2 ≤ r_7 then
        bd1 (fX0_add Asz Aba r_1 (-p2)) fun Aba_10 =>
        lt_ (pay + p2.toInt64) fun pay_12 =>
        bd4 (fX5_enter Asz Anu Amo Tma Tlc Ttc day 2 p1 0 p2) fun Amo_13 Tma_14 Tlc_15 Ttc_16 =>
        bd1 (fX0_balanceAt Asz Aba_10 r_1) fun r_18 =>
        some (r_18, Aba_10, Amo_13, Tma_14, Tlc_15, Ttc_16, pay_12)
      else
        some ((-3), Aba, Amo, Tma, Tlc, Ttc, pay)
  else
    some ((-1), Aba, Amo, Tma, Tlc, Ttc, pay)
def fX5_makeTransfer (Asz : Int32) (Anu : Nat → Int32) (Aba : Nat → Int32) (Amo : Nat → Int32) (Hsz : Int32) (Hce : Nat → Int32) (Tma : Int32) (Tlc : Int32) (Ttc : Nat → Int32) (day : Int32) (p1 : Int32) (p2 : Int32) (p3 : Int32) : Option (Int32 × (Nat → Int32) × (Nat → Int32) × Int32 × Int32 × (Nat → Int32)) :=
  bd1 (fX0_find Asz Anu p1) fun r_1 =>
  bd1 (fX0_find Asz Anu p2) fun r_3 =>
  if r_1 < 0 then
    some ((-1), Aba, Amo, Tma, Tlc, Ttc)
  else
    if 0 ≤ r_3 then
      if r_1 = r_3 then
        some ((-2), Aba, Amo, Tma, Tlc, Ttc)
      else
        bd1 (fX7_isAmount p3) fun r_8 =>
        if r_8 = 0 then
          some ((-2), Aba, Amo, Tma, Tlc, Ttc)
        else
          bd1 (fX5_freeAt Asz Anu Aba Hsz Hce r_1) fun r_11 =>
          if p3 ≤ r_11 then
            bd1 (fX0_balanceAt Asz Aba r_3) fun r_14 =>
            if r_14 ≤ (1000000000 - p3) then
              bd1 (fX0_add Asz Aba r_1 (-p3)) fun Aba_17 =>
              bd1 (fX0_add Asz Aba_17 r_3 p3) fun Aba_19 =>
              bd4 (fX5_enter Asz Anu Amo Tma Tlc Ttc day 3 p1 p2 p3) fun Amo_21 Tma_22 Tlc_23 Ttc_24 =>
              bd1 (fX0_balanceAt Asz Aba_19 r_1) fun r_26 =>
              some (r_26, Aba_19, Amo_21, Tma_22, Tlc_23, Ttc_24)
            else
              some ((-4), Aba, Amo, Tma, Tlc, Ttc)
          else
            some ((-3), Aba, Amo, Tma, Tlc, Ttc)
    else
      some ((-1), Aba, Amo, Tma, Tlc, Ttc)
def fX5_makeHold (Asz : Int32) (Anu : Nat → Int32) (Aba : Nat → Int32) (Hsz : Int32) (Hla : Int32) (Hce : Nat → Int32) (day : Int32) (p1 : Int32) (p2 : Int32) (p3 : Int32) : Option (Int32 × Int32 × Int32 × (Nat → Int32)) :=
  bd1 (fX0_find Asz Anu p1) fun r_1 =>
  if 0 ≤ r_1 then
    bd1 (fX7_isAmount p2) fun r_4 =>
    if r_4 = 0 then
      some ((-2), Hsz, Hla, Hce)
    else
      if p3 < 1 then
        some ((-2), Hsz, Hla, Hce)
      else
        if p3 ≤ 999 then
          bd1 (fX5_freeAt Asz Anu Aba Hsz Hce r_1) fun r_9 =>
          if p2 ≤ r_9 then
            if Hsz < 15 then
              bd4 (fX4_append Hsz Hla Hce p1 p2 (day + p3)) fun r_13 Hsz_14 Hla_15 Hce_16 =>
              some (r_13, Hsz_14, Hla_15, Hce_16)
            else
              some ((-4), Hsz, Hla, Hce)
          else
            some ((-3), Hsz, Hla, Hce)
        else
          some ((-2), Hsz, Hla, Hce)
  else
    some ((-1), Hsz, Hla, Hce)
def fX5_endHold (Asz : Int32) (Anu : Nat → Int32) (Aba : Nat → Int32) (Hsz : Int32) (Hce : Nat → Int32) (p1 : Int32) : Option (Int32 × Int32 × (Nat → Int32)) :=
  bd1 (fX4_find Hsz Hce p1) fun r_1 =>
  if 0 ≤ r_1 then
    bd1 (fX4_get Hsz Hce r_1 1) fun r_4 =>
    bd1 (fX0_find Asz Anu r_4) fun r_6 =>
    bd2 (fX4_remove Hsz Hce r_1) fun Hsz_8 Hce_9 =>
    bd1 (fX5_freeAt Asz Anu Aba Hsz_8 Hce_9 r_6) fun r_11 =>
    some (r_11, Hsz_8, Hce_9)
  else
    some ((-1), Hsz, Hce)
def fX5_writeBill (Asz : Int32) (Anu : Nat → Int32) (Bsz : Int32) (Bla : Int32) (Bce : Nat → Int32) (p1 : Int32) (p2 : Int32) : Option (Int32 × Int32 × Int32 × (Nat → Int32)) :=
  bd1 (fX0_find Asz Anu p1) fun r_1 =>
  if 0 ≤ r_1 then
    bd1 (fX7_isAmount p2) fun r_4 =>
    if r_4 = 0 then
      some ((-2), Bsz, Bla, Bce)
    else
      if Bsz < 15 then
        bd4 (fX4_append Bsz Bla Bce p1 p2 0) fun r_8 Bsz_9 Bla_10 Bce_11 =>
        some (r_8, Bsz_9, Bla_10, Bce_11)
      else
        some ((-4), Bsz, Bla, Bce)
  else
    some ((-1), Bsz, Bla, Bce)
def fX5_settleBill (Asz : Int32) (Anu : Nat → Int32) (Aba : Nat → Int32) (Amo : Nat → Int32) (Hsz : Int32) (Hce : Nat → Int32) (Bsz : Int32) (Bce : Nat → Int32) (Tma : Int32) (Tlc : Int32) (Ttc : Nat → Int32) (day : Int32) (off : Int64) (p1 : Int32) : Option (Int32 × (Nat → Int32) × (Nat → Int32) × Int32 × (Nat → Int32) × Int32 × Int32 × (Nat → Int32) × Int64) :=
  bd1 (fX4_find Bsz Bce p1) fun r_1 =>
  if 0 ≤ r_1 then
    bd1 (fX4_get Bsz Bce r_1 1) fun r_4 =>
    bd1 (fX0_find Asz Anu r_4) fun r_6 =>
    bd1 (fX4_get Bsz Bce r_1 2) fun r_8 =>
    bd1 (fX5_freeAt Asz Anu Aba Hsz Hce r_6) fun r_10 =>
    lt_ (if r_10 < r_8 then r_10 else r_8) fun mn_12 =>
    if mn_12 = 0 then
      some ((-3), Aba, Amo, Bsz, Bce, Tma, Tlc, Ttc, off)
    else
      bd1 (fX0_add Asz Aba r_6 (-mn_12)) fun Aba_14 =>
      lt_ (off + mn_12.toInt64) fun off_16 =>
      if mn_12 = r_8 then
        bd2 (fX4_remove Bsz Bce r_1) fun Bsz_29 Bce_30 =>
        bd4 (fX5_enter Asz Anu Amo Tma Tlc Ttc day 4 r_4 0 mn_12) fun Amo_32 Tma_33 Tlc_34 Ttc_35 =>
        some (mn_12, Aba_14, Amo_32, Bsz_29, Bce_30, Tma_33, Tlc_34, Ttc_35, off_16)
      else
        bd1 (fX4_set Bsz Bce r_1 2 (r_8 - mn_12)) fun Bce_18 =>
        bd1 (fX4_get Bsz Bce_18 r_1 3) fun r_20 =>
        bd1 (fX4_set Bsz Bce_18 r_1 3 (r_20 + mn_12)) fun Bce_22 =>
        bd4 (fX5_enter Asz Anu Amo Tma Tlc Ttc day 4 r_4 0 mn_12) fun Amo_24 Tma_25 Tlc_26 Ttc_27 =>
        some (mn_12, Aba_14, Amo_24, Bsz, Bce_22, Tma_25, Tlc_26, Ttc_27, off_16)
  else
    some ((-1), Aba, Amo, Bsz, Bce, Tma, Tlc, Ttc, off)
def fX7_nextCreditDay (p1 : Int32) : Option (Int32) :=
  some ((p1 - (p1 - p1 / 30 * 30)) + 30)
def fX5_growthPerDay (lim : Int32) (low : Int32) (hig : Int32) (p1 : Int32) : Option (Int64) :=
  lt_ (if lim < p1 then lim else p1) fun mn_1 =>
  some ((low.toInt64 * mn_1.toInt64) + (hig.toInt64 * (p1.toInt64 - mn_1.toInt64)))
def fX5_growUntil_L2 (Asz : Int32) (Aba : Nat → Int32) (day : Int32) (lim : Int32) (low : Int32) (hig : Int32) (u1 : Int32) : Nat → (Nat → Int64) → Int32 → Option ((Nat → Int64))
  | 0, _, _ => none
  | n + 1, Aco, z2 =>
    if Asz ≤ z2 then
      some Aco
    else
      bd1 (fX0_balanceAt Asz Aba z2) fun r_2 =>
      bd1 (fX5_growthPerDay lim low hig r_2) fun r_4 =>
      bd1 (fX0_addCount Asz Aco z2 (r_4 * (u1 - day).toInt64)) fun Aco_6 =>
      fX5_growUntil_L2 Asz Aba day lim low hig u1 n Aco_6 (z2 + 1)
def fX5_growUntil (Asz : Int32) (Aba : Nat → Int32) (Aco : Nat → Int64) (day : Int32) (lim : Int32) (low : Int32) (hig : Int32) (p1 : Int32) : Option ((Nat → Int64) × Int32) :=
  bd1 (fX5_growUntil_L2 Asz Aba day lim low hig p1 2147483648 Aco 0) fun Aco_8 =>
    some (Aco_8, p1)
def fX5_interestToCredit (thr : Int32) (p1 : Int32) (p2 : Int64) : Option (Int32) :=
  lt_ (if (1000000000 - p1).toInt64 < (p2 / 3650000) then (1000000000 - p1).toInt64 else (p2 / 3650000)) fun mn_1 =>
  if mn_1 < thr.toInt64 then
    some 0
  else
    some mn_1.toInt32
def fX5_creditAll_L2 (Asz : Int32) (Anu : Nat → Int32) (day : Int32) (thr : Int32) : Nat → (Nat → Int32) → (Nat → Int32) → (Nat → Int64) → Int32 → Int32 → (Nat → Int32) → Int64 → Int32 → Option ((Nat → Int32) × (Nat → Int32) × (Nat → Int64) × Int32 × Int32 × (Nat → Int32) × Int64)
  | 0, _, _, _, _, _, _, _, _ => none
  | n + 1, Aba, Amo, Aco, Tma, Tlc, Ttc, cre, z1 =>
    if Asz ≤ z1 then
      some (Aba, Amo, Aco, Tma, Tlc, Ttc, cre)
    else
      bd1 (fX0_balanceAt Asz Aba z1) fun r_2 =>
      bd1 (fX0_countAt Asz Aco z1) fun r_4 =>
      bd1 (fX5_interestToCredit thr r_2 r_4) fun r_6 =>
      if r_6 ≤ 0 then
        fX5_creditAll_L2 Asz Anu day thr n Aba Amo Aco Tma Tlc Ttc cre (z1 + 1)
      else
        bd1 (fX0_add Asz Aba z1 r_6) fun Aba_9 =>
        bd1 (fX0_addCount Asz Aco z1 ((-3650000) * r_6.toInt64)) fun Aco_11 =>
        lt_ (cre + r_6.toInt64) fun cre_13 =>
        bd1 (fX0_numberAt Asz Anu z1) fun r_14 =>
        bd4 (fX5_enter Asz Anu Amo Tma Tlc Ttc day 5 r_14 0 r_6) fun Amo_16 Tma_17 Tlc_18 Ttc_19 =>
        fX5_creditAll_L2 Asz Anu day thr n Aba_9 Amo_16 Aco_11 Tma_17 Tlc_18 Ttc_19 cre_13 (z1 + 1)
def fX5_creditAll (Asz : Int32) (Anu : Nat → Int32) (Aba : Nat → Int32) (Amo : Nat → Int32) (Aco : Nat → Int64) (Tma : Int32) (Tlc : Int32) (Ttc : Nat → Int32) (day : Int32) (thr : Int32) (cre : Int64) : Option ((Nat → Int32) × (Nat → Int32) × (Nat → Int64) × Int32 × Int32 × (Nat → Int32) × Int64) :=
  bd7 (fX5_creditAll_L2 Asz Anu day thr 2147483648 Aba Amo Aco Tma Tlc Ttc cre 0) fun Aba_21 Amo_22 Aco_23 Tma_24 Tlc_25 Ttc_26 cre_27 =>
    some (Aba_21, Amo_22, Aco_23, Tma_24, Tlc_25, Ttc_26, cre_27)
def fX5_endHoldsThatAreOver_L10 (day : Int32) : Nat → Int32 → (Nat → Int32) → Int32 → Option (Int32 × (Nat → Int32))
  | 0, _, _, _ => none
  | n + 1, Hsz, Hce, z1 =>
    if z1 < 0 then
      some (Hsz, Hce)
    else
      bd1 (fX4_get Hsz Hce z1 3) fun r_3 =>
      if day ≤ r_3 then
        fX5_endHoldsThatAreOver_L10 day n Hsz Hce (z1 + (-1))
      else
        bd2 (fX4_remove Hsz Hce z1) fun Hsz_6 Hce_7 =>
        fX5_endHoldsThatAreOver_L10 day n Hsz_6 Hce_7 (z1 + (-1))
def fX5_endHoldsThatAreOver (Hsz : Int32) (Hce : Nat → Int32) (day : Int32) : Option (Int32 × (Nat → Int32)) :=
  lt_ (Hsz - 1) fun x1_1 =>
  bd2 (fX5_endHoldsThatAreOver_L10 day 2147483648 Hsz Hce x1_1) fun Hsz_9 Hce_10 =>
    some (Hsz_9, Hce_10)
def fX5_letPass_L48 (Asz : Int32) (Anu : Nat → Int32) (lim : Int32) (low : Int32) (hig : Int32) (thr : Int32) (u2 : Int32) (u3 : Int64) : Nat → (Nat → Int32) → (Nat → Int32) → (Nat → Int64) → Int32 → Int32 → (Nat → Int32) → Int32 → Int64 → Int32 → Option ((Nat → Int32) × (Nat → Int32) × (Nat → Int64) × Int32 × Int32 × (Nat → Int32) × Int32 × Int64)
  | 0, _, _, _, _, _, _, _, _, _ => none
  | n + 1, Aba, Amo, Aco, Tma, Tlc, Ttc, day, cre, z5 =>
    if u2 < z5 then
      some (Aba, Amo, Aco, Tma, Tlc, Ttc, day, cre)
    else
      bd2 (fX5_growUntil Asz Aba Aco day lim low hig z5) fun Aco_8 day_9 =>
      bd7 (fX5_creditAll Asz Anu Aba Amo Aco_8 Tma Tlc Ttc day_9 thr cre) fun Aba_11 Amo_12 Aco_13 Tma_14 Tlc_15 Ttc_16 cre_17 =>
      fX5_letPass_L48 Asz Anu lim low hig thr u2 u3 n Aba_11 Amo_12 Aco_13 Tma_14 Tlc_15 Ttc_16 day_9 cre_17 (z5 + 30)
def fX5_letPass (Asz : Int32) (Anu : Nat → Int32) (Aba : Nat → Int32) (Amo : Nat → Int32) (Aco : Nat → Int64) (Hsz : Int32) (Hce : Nat → Int32) (Tma : Int32) (Tlc : Int32) (Ttc : Nat → Int32) (day : Int32) (lim : Int32) (low : Int32) (hig : Int32) (thr : Int32) (cre : Int64) (p1 : Int32) : Option (Int64 × (Nat → Int32) × (Nat → Int32) × (Nat → Int64) × Int32 × (Nat → Int32) × Int32 × Int32 × (Nat → Int32) × Int32 × Int64) :=
  if p1 < 1 then
    some ((-2), Aba, Amo, Aco, Hsz, Hce, Tma, Tlc, Ttc, day, cre)
  else
    if p1 ≤ 400 then
      lt_ (day + p1) fun x2_3 =>
      if x2_3 ≤ 9999 then
        bd1 (fX7_nextCreditDay day) fun r_5 =>
        bd8 (fX5_letPass_L48 Asz Anu lim low hig thr x2_3 cre 2147483648 Aba Amo Aco Tma Tlc Ttc day cre r_5) fun Aba_19 Amo_20 Aco_21 Tma_22 Tlc_23 Ttc_24 day_25 cre_26 =>
          bd2 (fX5_growUntil Asz Aba_19 Aco_21 day_25 lim low hig x2_3) fun Aco_27 day_28 =>
          bd2 (fX5_endHoldsThatAreOver Hsz Hce day_28) fun Hsz_30 Hce_31 =>
          some ((cre_26 - cre), Aba_19, Amo_20, Aco_27, Hsz_30, Hce_31, Tma_22, Tlc_23, Ttc_24, day_28, cre_26)
      else
        some ((-4), Aba, Amo, Aco, Hsz, Hce, Tma, Tlc, Ttc, day, cre)
    else
      some ((-2), Aba, Amo, Aco, Hsz, Hce, Tma, Tlc, Ttc, day, cre)
def fX6_keeps (ma : Int32) (p1 : Int32) : Option (Int32) :=
  if p1 < 1 then
    some 0
  else
    if ma < p1 then
      some 0
    else
      if p1 ≤ (ma - 24) then
        some 0
      else
        some 1
def fX6_get (ma : Int32) (tc : Nat → Int32) (p1 : Int32) (p2 : Int32) : Option (Int32) :=
  bd1 (fX6_cellOf p1 p2) fun r_1 =>
  bd1 (fX6_keeps ma p1) fun r_3 =>
  if r_3 = 0 then
    some 0
  else
    if r_1 < 0 then
      some 0
    else
      if 168 ≤ r_1 then
        some 0
      else
        ckI r_1 168 <|
        some (tc r_1.toNatClampNeg)
def fX6_markReversed (ma : Int32) (tc : Nat → Int32) (p1 : Int32) : Option ((Nat → Int32)) :=
  bd1 (fX6_keeps ma p1) fun r_1 =>
  if r_1 = 0 then
    some tc
  else
    bd1 (fX6_set tc p1 6 1) fun tc_4 =>
    some tc_4
def fX5_reverseEntry_J41 (Asz : Int32) (Anu : Nat → Int32) (Aba : Nat → Int32) (Amo : Nat → Int32) (Hsz : Int32) (Hce : Nat → Int32) (Tma : Int32) (Tlc : Int32) (Ttc : Nat → Int32) (day : Int32) (rcp : Int64) (pay : Int64) : Option (Int32 × (Nat → Int32) × (Nat → Int32) × Int32 × Int32 × (Nat → Int32) × Int64 × Int64) :=
  some ((-3), Aba, Amo, Tma, Tlc, Ttc, rcp, pay)
def fX5_reverseEntry_J101 (Asz : Int32) (Anu : Nat → Int32) (Aba : Nat → Int32) (Amo : Nat → Int32) (Hsz : Int32) (Hce : Nat → Int32) (Tma : Int32) (Tlc : Int32) (Ttc : Nat → Int32) (day : Int32) (rcp : Int64) (pay : Int64) : Option (Int32 × (Nat → Int32) × (Nat → Int32) × Int32 × Int32 × (Nat → Int32) × Int64 × Int64) :=
  some ((-3), Aba, Amo, Tma, Tlc, Ttc, rcp, pay)
def fX5_reverseEntry_J246 (Asz : Int32) (Anu : Nat → Int32) (Aba : Nat → Int32) (Amo : Nat → Int32) (Hsz : Int32) (Hce : Nat → Int32) (Tma : Int32) (Tlc : Int32) (Ttc : Nat → Int32) (day : Int32) (rcp : Int64) (pay : Int64) (u1 : Int32) (u3 : Int32) (u4 : Int32) (u9 : Int32) : Option (Int32 × (Nat → Int32) × (Nat → Int32) × Int32 × Int32 × (Nat → Int32) × Int64 × Int64) :=
  bd1 (fX6_markReversed Tma Ttc u1) fun Ttc_32 =>
  bd4 (fX5_enter Asz Anu Amo Tma Tlc Ttc_32 day 6 u3 u4 u9) fun Amo_34 Tma_35 Tlc_36 Ttc_37 =>
  some (Tma_35, Aba, Amo_34, Tma_35, Tlc_36, Ttc_37, rcp, pay)
def fX5_reverseEntry_J186 (Asz : Int32) (Anu : Nat → Int32) (Aba : Nat → Int32) (Amo : Nat → Int32) (Hsz : Int32) (Hce : Nat → Int32) (Tma : Int32) (Tlc : Int32) (Ttc : Nat → Int32) (day : Int32) (rcp : Int64) (pay : Int64) (u1 : Int32) (u2 : Int32) (u3 : Int32) (u4 : Int32) (u7 : Int32) (u8 : Int32) (u9 : Int32) : Option (Int32 × (Nat → Int32) × (Nat → Int32) × Int32 × Int32 × (Nat → Int32) × Int64 × Int64) :=
  bd1 (fX0_add Asz Aba u7 (-u9)) fun Aba_26 =>
  bd1 (fX0_add Asz Aba_26 u8 u9) fun Aba_28 =>
  if u2 = 1 then
    lt_ (rcp - u9.toInt64) fun rcp_40 =>
    fX5_reverseEntry_J246 Asz Anu Aba_28 Amo Hsz Hce Tma Tlc Ttc day rcp_40 pay u1 u3 u4 u9
  else
    if u2 = 2 then
      lt_ (pay - u9.toInt64) fun pay_39 =>
      fX5_reverseEntry_J246 Asz Anu Aba_28 Amo Hsz Hce Tma Tlc Ttc day rcp pay_39 u1 u3 u4 u9
    else
      fX5_reverseEntry_J246 Asz Anu Aba_28 Amo Hsz Hce Tma Tlc Ttc day rcp pay u1 u3 u4 u9
def fX5_reverseEntry_J161 (Asz : Int32) (Anu : Nat → Int32) (Aba : Nat → Int32) (Amo : Nat → Int32) (Hsz : Int32) (Hce : Nat → Int32) (Tma : Int32) (Tlc : Int32) (Ttc : Nat → Int32) (day : Int32) (rcp : Int64) (pay : Int64) (u1 : Int32) (u2 : Int32) (u3 : Int32) (u4 : Int32) (u7 : Int32) (u8 : Int32) (u9 : Int32) : Option (Int32 × (Nat → Int32) × (Nat → Int32) × Int32 × Int32 × (Nat → Int32) × Int64 × Int64) :=
  if u8 < 0 then
    fX5_reverseEntry_J186 Asz Anu Aba Amo Hsz Hce Tma Tlc Ttc day rcp pay u1 u2 u3 u4 u7 u8 u9
  else
    bd1 (fX0_balanceAt Asz Aba u8) fun r_41 =>
    if r_41 ≤ (1000000000 - u9) then
      fX5_reverseEntry_J186 Asz Anu Aba Amo Hsz Hce Tma Tlc Ttc day rcp pay u1 u2 u3 u4 u7 u8 u9
    else
      some ((-4), Aba, Amo, Tma, Tlc, Ttc, rcp, pay)
def fX5_reverseEntry_J129 (Asz : Int32) (Anu : Nat → Int32) (Aba : Nat → Int32) (Amo : Nat → Int32) (Hsz : Int32) (Hce : Nat → Int32) (Tma : Int32) (Tlc : Int32) (Ttc : Nat → Int32) (day : Int32) (rcp : Int64) (pay : Int64) (u1 : Int32) (u2 : Int32) (u3 : Int32) (u4 : Int32) (u7 : Int32) (s0 : Int32) : Option (Int32 × (Nat → Int32) × (Nat → Int32) × Int32 × Int32 × (Nat → Int32) × Int64 × Int64) :=
  bd1 (fX6_get Tma Ttc u1 4) fun r_22 =>
  if u7 < 0 then
    fX5_reverseEntry_J161 Asz Anu Aba Amo Hsz Hce Tma Tlc Ttc day rcp pay u1 u2 u3 u4 u7 s0 r_22
  else
    bd1 (fX5_freeAt Asz Anu Aba Hsz Hce u7) fun r_44 =>
    if r_22 ≤ r_44 then
      fX5_reverseEntry_J161 Asz Anu Aba Amo Hsz Hce Tma Tlc Ttc day rcp pay u1 u2 u3 u4 u7 s0 r_22
    else
      some ((-3), Aba, Amo, Tma, Tlc, Ttc, rcp, pay)
def fX5_reverseEntry_J116 (Asz : Int32) (Anu : Nat → Int32) (Aba : Nat → Int32) (Amo : Nat → Int32) (Hsz : Int32) (Hce : Nat → Int32) (Tma : Int32) (Tlc : Int32) (Ttc : Nat → Int32) (day : Int32) (rcp : Int64) (pay : Int64) (u1 : Int32) (u2 : Int32) (u3 : Int32) (u4 : Int32) (u5 : Int32) (s0 : Int32) : Option (Int32 × (Nat → Int32) × (Nat → Int32) × Int32 × Int32 × (Nat → Int32) × Int64 × Int64) :=
  if u2 = 1 then
    fX5_reverseEntry_J129 Asz Anu Aba Amo Hsz Hce Tma Tlc Ttc day rcp pay u1 u2 u3 u4 s0 (-1)
  else
    fX5_reverseEntry_J129 Asz Anu Aba Amo Hsz Hce Tma Tlc Ttc day rcp pay u1 u2 u3 u4 s0 u5
def fX5_reverseEntry_J104 (Asz : Int32) (Anu : Nat → Int32) (Aba : Nat → Int32) (Amo : Nat → Int32) (Hsz : Int32) (Hce : Nat → Int32) (Tma : Int32) (Tlc : Int32) (Ttc : Nat → Int32) (day : Int32) (rcp : Int64) (pay : Int64) (u1 : Int32) (u2 : Int32) (u3 : Int32) (u4 : Int32) (u5 : Int32) (u6 : Int32) : Option (Int32 × (Nat → Int32) × (Nat → Int32) × Int32 × Int32 × (Nat → Int32) × Int64 × Int64) :=
  if u2 = 1 then
    fX5_reverseEntry_J116 Asz Anu Aba Amo Hsz Hce Tma Tlc Ttc day rcp pay u1 u2 u3 u4 u5 u5
  else
    fX5_reverseEntry_J116 Asz Anu Aba Amo Hsz Hce Tma Tlc Ttc day rcp pay u1 u2 u3 u4 u5 u6
def fX5_reverseEntry (Asz : Int32) (Anu : Nat → Int32) (Aba : Nat → Int32) (Amo : Nat → Int32) (Hsz : Int32) (Hce : Nat → Int32) (Tma : Int32) (Tlc : Int32) (Ttc : Nat → Int32) (day : Int32) (rcp : Int64) (pay : Int64) (p1 : Int32) : Option (Int32 × (Nat → Int32) × (Nat → Int32) × Int32 × Int32 × (Nat → Int32) × Int64 × Int64) :=
  bd1 (fX6_keeps Tma p1) fun r_1 =>
  if r_1 = 0 then
    some ((-1), Aba, Amo, Tma, Tlc, Ttc, rcp, pay)
  else
    bd1 (fX6_get Tma Ttc p1 1) fun r_4 =>
    if 3 < r_4 then
      fX5_reverseEntry_J41 Asz Anu Aba Amo Hsz Hce Tma Tlc Ttc day rcp pay
    else
      bd1 (fX6_get Tma Ttc p1 6) fun r_7 =>
      if r_7 = 0 then
        bd1 (fX6_get Tma Ttc p1 2) fun r_10 =>
        bd1 (fX6_get Tma Ttc p1 3) fun r_12 =>
        bd1 (fX0_find Asz Anu r_10) fun r_14 =>
        bd1 (fX0_find Asz Anu r_12) fun r_16 =>
        if r_14 < 0 then
          fX5_reverseEntry_J101 Asz Anu Aba Amo Hsz Hce Tma Tlc Ttc day rcp pay
        else
          if r_4 = 3 then
            if 0 ≤ r_16 then
              fX5_reverseEntry_J104 Asz Anu Aba Amo Hsz Hce Tma Tlc Ttc day rcp pay p1 r_4 r_10 r_12 r_14 r_16
            else
              fX5_reverseEntry_J101 Asz Anu Aba Amo Hsz Hce Tma Tlc Ttc day rcp pay
          else
            fX5_reverseEntry_J104 Asz Anu Aba Amo Hsz Hce Tma Tlc Ttc day rcp pay p1 r_4 r_10 r_12 r_14 r_16
      else
        fX5_reverseEntry_J41 Asz Anu Aba Amo Hsz Hce Tma Tlc Ttc day rcp pay
def fX5_aboutClient (Asz : Int32) (Anu : Nat → Int32) (Aba : Nat → Int32) (Amo : Nat → Int32) (Aco : Nat → Int64) (Hsz : Int32) (Hce : Nat → Int32) (Bsz : Int32) (Bce : Nat → Int32) (p1 : Int32) (p2 : Int32) : Option (Int32) :=
  bd1 (fX0_numberAt Asz Anu p1) fun r_1 =>
  if p2 = 0 then
    bd1 (fX0_balanceAt Asz Aba p1) fun r_4 =>
    some r_4
  else
    if p2 = 1 then
      bd1 (fX4_sumOf Hsz Hce r_1 2) fun r_7 =>
      some r_7
    else
      if p2 = 2 then
        bd1 (fX5_freeAt Asz Anu Aba Hsz Hce p1) fun r_10 =>
        some r_10
      else
        if p2 = 3 then
          bd1 (fX0_countAt Asz Aco p1) fun r_13 =>
          lt_ (if 1000000000 < (r_13 / 3650000) then 1000000000 else (r_13 / 3650000)) fun mn_15 =>
          some mn_15.toInt32
        else
          if p2 = 4 then
            bd1 (fX4_sumOf Bsz Bce r_1 2) fun r_17 =>
            some r_17
          else
            if p2 = 5 then
              bd1 (fX0_movedAt Asz Amo p1) fun r_20 =>
              some r_20
            else
              if p2 = 6 then
                bd1 (fX4_countOf Hsz Hce r_1) fun r_23 =>
                some r_23
              else
                if p2 = 7 then
                  bd1 (fX4_countOf Bsz Bce r_1) fun r_26 =>
                  some r_26
                else
                  some (-2)
def fX5_heldOn_L5 (Hsz : Int32) (Hce : Nat → Int32) (u1 : Int32) (u2 : Int32) : Nat → Int32 → Int32 → Option (Int32)
  | 0, _, _ => none
  | n + 1, z3, z4 =>
    if Hsz ≤ z4 then
      some z3
    else
      bd1 (fX4_get Hsz Hce z4 1) fun r_2 =>
      if r_2 = u1 then
        bd1 (fX4_get Hsz Hce z4 3) fun r_5 =>
        if r_5 < u2 then
          fX5_heldOn_L5 Hsz Hce u1 u2 n z3 (z4 + 1)
        else
          bd1 (fX4_get Hsz Hce z4 2) fun r_8 =>
          lt_ (z3 + r_8) fun x3_10 =>
          fX5_heldOn_L5 Hsz Hce u1 u2 n x3_10 (z4 + 1)
      else
        fX5_heldOn_L5 Hsz Hce u1 u2 n z3 (z4 + 1)
def fX5_heldOn (Hsz : Int32) (Hce : Nat → Int32) (p1 : Int32) (p2 : Int32) : Option (Int32) :=
  bd1 (fX5_heldOn_L5 Hsz Hce p1 p2 2147483648 0 0) fun x3_11 =>
    some x3_11
def fX5_firstDayWithFree_L32 (Hsz : Int32) (Hce : Nat → Int32) (day : Int32) (lim : Int32) (low : Int32) (hig : Int32) (thr : Int32) (u2 : Int32) (u3 : Int32) : Nat → Int32 → Int64 → Int32 → Option ((Int32) ⊕ (Unit))
  | 0, _, _, _ => none
  | n + 1, z4, z5, z7 =>
    if 400 < z7 then
      some (.inr ())
    else
      lt_ (day + z7) fun x8_8 =>
      if z7 ≤ 0 then
        bd1 (fX5_heldOn Hsz Hce u3 x8_8) fun r_10 =>
        if (z4 - r_10) < u2 then
          fX5_firstDayWithFree_L32 Hsz Hce day lim low hig thr u2 u3 n z4 z5 (z7 + 1)
        else
          some (.inl x8_8)
      else
        bd1 (fX5_growthPerDay lim low hig z4) fun r_13 =>
        lt_ (z5 + r_13) fun x5_15 =>
        if (x8_8 - x8_8 / 30 * 30) = 0 then
          bd1 (fX5_interestToCredit thr z4 x5_15) fun r_20 =>
          lt_ (z4 + r_20) fun x4_22 =>
          lt_ (x5_15 - (3650000 * r_20.toInt64)) fun x5_23 =>
          bd1 (fX5_heldOn Hsz Hce u3 x8_8) fun r_24 =>
          if (x4_22 - r_24) < u2 then
            fX5_firstDayWithFree_L32 Hsz Hce day lim low hig thr u2 u3 n x4_22 x5_23 (z7 + 1)
          else
            some (.inl x8_8)
        else
          bd1 (fX5_heldOn Hsz Hce u3 x8_8) fun r_17 =>
          if (z4 - r_17) < u2 then
            fX5_firstDayWithFree_L32 Hsz Hce day lim low hig thr u2 u3 n z4 x5_15 (z7 + 1)
          else
            some (.inl x8_8)
def fX5_firstDayWithFree (Asz : Int32) (Anu : Nat → Int32) (Aba : Nat → Int32) (Aco : Nat → Int64) (Hsz : Int32) (Hce : Nat → Int32) (day : Int32) (lim : Int32) (low : Int32) (hig : Int32) (thr : Int32) (p1 : Int32) (p2 : Int32) : Option (Int32) :=
  bd1 (fX0_numberAt Asz Anu p1) fun r_1 =>
  bd1 (fX0_balanceAt Asz Aba p1) fun r_3 =>
  bd1 (fX0_countAt Asz Aco p1) fun r_5 =>
  bs0 (fX5_firstDayWithFree_L32 Hsz Hce day lim low hig thr p2 r_1 2147483648 r_3 r_5 0)
    (some (-6))
def fX5_interestAhead_L37 (day : Int32) (lim : Int32) (low : Int32) (hig : Int32) (thr : Int32) (u2 : Int32) : Nat → Int32 → Int64 → Int32 → Int32 → Int32 → Option (Int32)
  | 0, _, _, _, _, _ => none
  | n + 1, z3, z4, z6, z7, z8 =>
    if (day + u2) < z8 then
      some z6
    else
      bd1 (fX5_growthPerDay lim low hig z3) fun r_8 =>
      lt_ (z4 + (r_8 * (z8 - z7).toInt64)) fun x4_10 =>
      bd1 (fX5_interestToCredit thr z3 x4_10) fun r_11 =>
      lt_ (z3 + r_11) fun x3_13 =>
      lt_ (x4_10 - (3650000 * r_11.toInt64)) fun x4_14 =>
      lt_ (z6 + r_11) fun x6_15 =>
      fX5_interestAhead_L37 day lim low hig thr u2 n x3_13 x4_14 x6_15 z8 (z8 + 30)
def fX5_interestAhead (Asz : Int32) (Aba : Nat → Int32) (Aco : Nat → Int64) (day : Int32) (lim : Int32) (low : Int32) (hig : Int32) (thr : Int32) (p1 : Int32) (p2 : Int32) : Option (Int32) :=
  bd1 (fX0_balanceAt Asz Aba p1) fun r_1 =>
  bd1 (fX0_countAt Asz Aco p1) fun r_3 =>
  bd1 (fX7_nextCreditDay day) fun r_5 =>
  bd1 (fX5_interestAhead_L37 day lim low hig thr p2 2147483648 r_1 r_3 0 day r_5) fun x6_16 =>
    some x6_16
def fX7_keptUnlessError (sv : Int32) (nx : Int32) (p1 : Int32) : Option (Int32 × Int32 × Int32) :=
  if p1 < 0 then
    some (p1, sv, nx)
  else
    bd2 (fX1_keep sv nx) fun sv_2 nx_3 =>
    some (p1, sv_2, nx_3)
def fX7_setRates (Asz : Int32) (Anu : Nat → Int32) (Aba : Nat → Int32) (Amo : Nat → Int32) (Aco : Nat → Int64) (Hsz : Int32) (Hla : Int32) (Hce : Nat → Int32) (Bsz : Int32) (Bla : Int32) (Bce : Nat → Int32) (Tma : Int32) (Tlc : Int32) (Ttc : Nat → Int32) (day : Int32) (lim : Int32) (low : Int32) (hig : Int32) (thr : Int32) (off : Int64) (cre : Int64) (rcp : Int64) (pay : Int64) (sv : Int32) (nx : Int32) (SL : Nat → XS) (p1 : Int32) (p2 : Int32) (p3 : Int32) : Option (Int32 × Int32 × Int32 × Int32 × Int32 × Int32 × (Nat → XS)) :=
  bd1 (fX1_prepare Asz Anu Aba Amo Aco Hsz Hla Hce Bsz Bla Bce Tma Tlc Ttc day lim low hig thr off cre rcp pay nx SL) fun SL_1 =>
  bd4 (fX5_changeRates lim low hig p1 p2 p3) fun r_3 lim_4 low_5 hig_6 =>
  bd3 (fX7_keptUnlessError sv nx r_3) fun r_8 sv_9 nx_10 =>
  some (r_8, lim_4, low_5, hig_6, sv_9, nx_10, SL_1)
def fX7_setThreshold (Asz : Int32) (Anu : Nat → Int32) (Aba : Nat → Int32) (Amo : Nat → Int32) (Aco : Nat → Int64) (Hsz : Int32) (Hla : Int32) (Hce : Nat → Int32) (Bsz : Int32) (Bla : Int32) (Bce : Nat → Int32) (Tma : Int32) (Tlc : Int32) (Ttc : Nat → Int32) (day : Int32) (lim : Int32) (low : Int32) (hig : Int32) (thr : Int32) (off : Int64) (cre : Int64) (rcp : Int64) (pay : Int64) (sv : Int32) (nx : Int32) (SL : Nat → XS) (p1 : Int32) : Option (Int32 × Int32 × Int32 × Int32 × (Nat → XS)) :=
  bd1 (fX1_prepare Asz Anu Aba Amo Aco Hsz Hla Hce Bsz Bla Bce Tma Tlc Ttc day lim low hig thr off cre rcp pay nx SL) fun SL_1 =>
  bd2 (fX5_changeThreshold thr p1) fun r_3 thr_4 =>
  bd3 (fX7_keptUnlessError sv nx r_3) fun r_6 sv_7 nx_8 =>
  some (r_6, thr_4, sv_7, nx_8, SL_1)
def fX7_open (Asz : Int32) (Anu : Nat → Int32) (Aba : Nat → Int32) (Amo : Nat → Int32) (Aco : Nat → Int64) (Hsz : Int32) (Hla : Int32) (Hce : Nat → Int32) (Bsz : Int32) (Bla : Int32) (Bce : Nat → Int32) (Tma : Int32) (Tlc : Int32) (Ttc : Nat → Int32) (day : Int32) (lim : Int32) (low : Int32) (hig : Int32) (thr : Int32) (off : Int64) (cre : Int64) (rcp : Int64) (pay : Int64) (sv : Int32) (nx : Int32) (SL : Nat → XS) (p1 : Int32) : Option (Int32 × Int32 × (Nat → Int32) × (Nat → Int32) × (Nat → Int32) × (Nat → Int64) × Int32 × Int32 × (Nat → XS)) :=
  bd1 (fX1_prepare Asz Anu Aba Amo Aco Hsz Hla Hce Bsz Bla Bce Tma Tlc Ttc day lim low hig thr off cre rcp pay nx SL) fun SL_1 =>
  bd6 (fX5_openAccount Asz Anu Aba Amo Aco day p1) fun r_3 Asz_4 Anu_5 Aba_6 Amo_7 Aco_8 =>
  bd3 (fX7_keptUnlessError sv nx r_3) fun r_10 sv_11 nx_12 =>
  some (r_10, Asz_4, Anu_5, Aba_6, Amo_7, Aco_8, sv_11, nx_12, SL_1)
def fX7_close (Asz : Int32) (Anu : Nat → Int32) (Aba : Nat → Int32) (Amo : Nat → Int32) (Aco : Nat → Int64) (Hsz : Int32) (Hla : Int32) (Hce : Nat → Int32) (Bsz : Int32) (Bla : Int32) (Bce : Nat → Int32) (Tma : Int32) (Tlc : Int32) (Ttc : Nat → Int32) (day : Int32) (lim : Int32) (low : Int32) (hig : Int32) (thr : Int32) (off : Int64) (cre : Int64) (rcp : Int64) (pay : Int64) (sv : Int32) (nx : Int32) (SL : Nat → XS) (p1 : Int32) : Option (Int32 × Int32 × (Nat → Int32) × (Nat → Int32) × (Nat → Int32) × (Nat → Int64) × Int32 × Int32 × (Nat → XS)) :=
  bd1 (fX1_prepare Asz Anu Aba Amo Aco Hsz Hla Hce Bsz Bla Bce Tma Tlc Ttc day lim low hig thr off cre rcp pay nx SL) fun SL_1 =>
  bd6 (fX5_closeAccount Asz Anu Aba Amo Aco Bsz Bce p1) fun r_3 Asz_4 Anu_5 Aba_6 Amo_7 Aco_8 =>
  bd3 (fX7_keptUnlessError sv nx r_3) fun r_10 sv_11 nx_12 =>
  some (r_10, Asz_4, Anu_5, Aba_6, Amo_7, Aco_8, sv_11, nx_12, SL_1)
def fX7_receive (Asz : Int32) (Anu : Nat → Int32) (Aba : Nat → Int32) (Amo : Nat → Int32) (Aco : Nat → Int64) (Hsz : Int32) (Hla : Int32) (Hce : Nat → Int32) (Bsz : Int32) (Bla : Int32) (Bce : Nat → Int32) (Tma : Int32) (Tlc : Int32) (Ttc : Nat → Int32) (day : Int32) (lim : Int32) (low : Int32) (hig : Int32) (thr : Int32) (off : Int64) (cre : Int64) (rcp : Int64) (pay : Int64) (sv : Int32) (nx : Int32) (SL : Nat → XS) (p1 : Int32) (p2 : Int32) : Option (Int32 × (Nat → Int32) × (Nat → Int32) × Int32 × Int32 × (Nat → Int32) × Int64 × Int32 × Int32 × (Nat → XS)) :=
  bd1 (fX1_prepare Asz Anu Aba Amo Aco Hsz Hla Hce Bsz Bla Bce Tma Tlc Ttc day lim low hig thr off cre rcp pay nx SL) fun SL_1 =>
  bd7 (fX5_takeReceipt Asz Anu Aba Amo Tma Tlc Ttc day rcp p1 p2) fun r_3 Aba_4 Amo_5 Tma_6 Tlc_7 Ttc_8 rcp_9 =>
  bd3 (fX7_keptUnlessError sv nx r_3) fun r_11 sv_12 nx_13 =>
  some (r_11, Aba_4, Amo_5, Tma_6, Tlc_7, Ttc_8, rcp_9, sv_12, nx_13, SL_1)
def fX7_pay (Asz : Int32) (Anu : Nat → Int32) (Aba : Nat → Int32) (Amo : Nat → Int32) (Aco : Nat → Int64) (Hsz : Int32) (Hla : Int32) (Hce : Nat → Int32) (Bsz : Int32) (Bla : Int32) (Bce : Nat → Int32) (Tma : Int32) (Tlc : Int32) (Ttc : Nat → Int32) (day : Int32) (lim : Int32) (low : Int32) (hig : Int32) (thr : Int32) (off : Int64) (cre : Int64) (rcp : Int64) (pay : Int64) (sv : Int32) (nx : Int32) (SL : Nat → XS) (p1 : Int32) (p2 : Int32) : Option (Int32 × (Nat → Int32) × (Nat → Int32) × Int32 × Int32 × (Nat → Int32) × Int64 × Int32 × Int32 × (Nat → XS)) :=
  bd1 (fX1_prepare Asz Anu Aba Amo Aco Hsz Hla Hce Bsz Bla Bce Tma Tlc Ttc day lim low hig thr off cre rcp pay nx SL) fun SL_1 =>
  bd7 (fX5_makePayment Asz Anu Aba Amo Hsz Hce Tma Tlc Ttc day pay p1 p2) fun r_3 Aba_4 Amo_5 Tma_6 Tlc_7 Ttc_8 pay_9 =>
  bd3 (fX7_keptUnlessError sv nx r_3) fun r_11 sv_12 nx_13 =>
  some (r_11, Aba_4, Amo_5, Tma_6, Tlc_7, Ttc_8, pay_9, sv_12, nx_13, SL_1)
def fX7_transfer (Asz : Int32) (Anu : Nat → Int32) (Aba : Nat → Int32) (Amo : Nat → Int32) (Aco : Nat → Int64) (Hsz : Int32) (Hla : Int32) (Hce : Nat → Int32) (Bsz : Int32) (Bla : Int32) (Bce : Nat → Int32) (Tma : Int32) (Tlc : Int32) (Ttc : Nat → Int32) (day : Int32) (lim : Int32) (low : Int32) (hig : Int32) (thr : Int32) (off : Int64) (cre : Int64) (rcp : Int64) (pay : Int64) (sv : Int32) (nx : Int32) (SL : Nat → XS) (p1 : Int32) (p2 : Int32) (p3 : Int32) : Option (Int32 × (Nat → Int32) × (Nat → Int32) × Int32 × Int32 × (Nat → Int32) × Int32 × Int32 × (Nat → XS)) :=
  bd1 (fX1_prepare Asz Anu Aba Amo Aco Hsz Hla Hce Bsz Bla Bce Tma Tlc Ttc day lim low hig thr off cre rcp pay nx SL) fun SL_1 =>
  bd6 (fX5_makeTransfer Asz Anu Aba Amo Hsz Hce Tma Tlc Ttc day p1 p2 p3) fun r_3 Aba_4 Amo_5 Tma_6 Tlc_7 Ttc_8 =>
  bd3 (fX7_keptUnlessError sv nx r_3) fun r_10 sv_11 nx_12 =>
  some (r_10, Aba_4, Amo_5, Tma_6, Tlc_7, Ttc_8, sv_11, nx_12, SL_1)
def fX7_hold (Asz : Int32) (Anu : Nat → Int32) (Aba : Nat → Int32) (Amo : Nat → Int32) (Aco : Nat → Int64) (Hsz : Int32) (Hla : Int32) (Hce : Nat → Int32) (Bsz : Int32) (Bla : Int32) (Bce : Nat → Int32) (Tma : Int32) (Tlc : Int32) (Ttc : Nat → Int32) (day : Int32) (lim : Int32) (low : Int32) (hig : Int32) (thr : Int32) (off : Int64) (cre : Int64) (rcp : Int64) (pay : Int64) (sv : Int32) (nx : Int32) (SL : Nat → XS) (p1 : Int32) (p2 : Int32) (p3 : Int32) : Option (Int32 × Int32 × Int32 × (Nat → Int32) × Int32 × Int32 × (Nat → XS)) :=
  bd1 (fX1_prepare Asz Anu Aba Amo Aco Hsz Hla Hce Bsz Bla Bce Tma Tlc Ttc day lim low hig thr off cre rcp pay nx SL) fun SL_1 =>
  bd4 (fX5_makeHold Asz Anu Aba Hsz Hla Hce day p1 p2 p3) fun r_3 Hsz_4 Hla_5 Hce_6 =>
  bd3 (fX7_keptUnlessError sv nx r_3) fun r_8 sv_9 nx_10 =>
  some (r_8, Hsz_4, Hla_5, Hce_6, sv_9, nx_10, SL_1)
def fX7_release (Asz : Int32) (Anu : Nat → Int32) (Aba : Nat → Int32) (Amo : Nat → Int32) (Aco : Nat → Int64) (Hsz : Int32) (Hla : Int32) (Hce : Nat → Int32) (Bsz : Int32) (Bla : Int32) (Bce : Nat → Int32) (Tma : Int32) (Tlc : Int32) (Ttc : Nat → Int32) (day : Int32) (lim : Int32) (low : Int32) (hig : Int32) (thr : Int32) (off : Int64) (cre : Int64) (rcp : Int64) (pay : Int64) (sv : Int32) (nx : Int32) (SL : Nat → XS) (p1 : Int32) : Option (Int32 × Int32 × (Nat → Int32) × Int32 × Int32 × (Nat → XS)) :=
  bd1 (fX1_prepare Asz Anu Aba Amo Aco Hsz Hla Hce Bsz Bla Bce Tma Tlc Ttc day lim low hig thr off cre rcp pay nx SL) fun SL_1 =>
  bd3 (fX5_endHold Asz Anu Aba Hsz Hce p1) fun r_3 Hsz_4 Hce_5 =>
  bd3 (fX7_keptUnlessError sv nx r_3) fun r_7 sv_8 nx_9 =>
  some (r_7, Hsz_4, Hce_5, sv_8, nx_9, SL_1)
def fX7_bill (Asz : Int32) (Anu : Nat → Int32) (Aba : Nat → Int32) (Amo : Nat → Int32) (Aco : Nat → Int64) (Hsz : Int32) (Hla : Int32) (Hce : Nat → Int32) (Bsz : Int32) (Bla : Int32) (Bce : Nat → Int32) (Tma : Int32) (Tlc : Int32) (Ttc : Nat → Int32) (day : Int32) (lim : Int32) (low : Int32) (hig : Int32) (thr : Int32) (off : Int64) (cre : Int64) (rcp : Int64) (pay : Int64) (sv : Int32) (nx : Int32) (SL : Nat → XS) (p1 : Int32) (p2 : Int32) : Option (Int32 × Int32 × Int32 × (Nat → Int32) × Int32 × Int32 × (Nat → XS)) :=
  bd1 (fX1_prepare Asz Anu Aba Amo Aco Hsz Hla Hce Bsz Bla Bce Tma Tlc Ttc day lim low hig thr off cre rcp pay nx SL) fun SL_1 =>
  bd4 (fX5_writeBill Asz Anu Bsz Bla Bce p1 p2) fun r_3 Bsz_4 Bla_5 Bce_6 =>
  bd3 (fX7_keptUnlessError sv nx r_3) fun r_8 sv_9 nx_10 =>
  some (r_8, Bsz_4, Bla_5, Bce_6, sv_9, nx_10, SL_1)
def fX7_settle (Asz : Int32) (Anu : Nat → Int32) (Aba : Nat → Int32) (Amo : Nat → Int32) (Aco : Nat → Int64) (Hsz : Int32) (Hla : Int32) (Hce : Nat → Int32) (Bsz : Int32) (Bla : Int32) (Bce : Nat → Int32) (Tma : Int32) (Tlc : Int32) (Ttc : Nat → Int32) (day : Int32) (lim : Int32) (low : Int32) (hig : Int32) (thr : Int32) (off : Int64) (cre : Int64) (rcp : Int64) (pay : Int64) (sv : Int32) (nx : Int32) (SL : Nat → XS) (p1 : Int32) : Option (Int32 × (Nat → Int32) × (Nat → Int32) × Int32 × (Nat → Int32) × Int32 × Int32 × (Nat → Int32) × Int64 × Int32 × Int32 × (Nat → XS)) :=
  bd1 (fX1_prepare Asz Anu Aba Amo Aco Hsz Hla Hce Bsz Bla Bce Tma Tlc Ttc day lim low hig thr off cre rcp pay nx SL) fun SL_1 =>
  bd9 (fX5_settleBill Asz Anu Aba Amo Hsz Hce Bsz Bce Tma Tlc Ttc day off p1) fun r_3 Aba_4 Amo_5 Bsz_6 Bce_7 Tma_8 Tlc_9 Ttc_10 off_11 =>
  bd3 (fX7_keptUnlessError sv nx r_3) fun r_13 sv_14 nx_15 =>
  some (r_13, Aba_4, Amo_5, Bsz_6, Bce_7, Tma_8, Tlc_9, Ttc_10, off_11, sv_14, nx_15, SL_1)
def fX7_pass (Asz : Int32) (Anu : Nat → Int32) (Aba : Nat → Int32) (Amo : Nat → Int32) (Aco : Nat → Int64) (Hsz : Int32) (Hla : Int32) (Hce : Nat → Int32) (Bsz : Int32) (Bla : Int32) (Bce : Nat → Int32) (Tma : Int32) (Tlc : Int32) (Ttc : Nat → Int32) (day : Int32) (lim : Int32) (low : Int32) (hig : Int32) (thr : Int32) (off : Int64) (cre : Int64) (rcp : Int64) (pay : Int64) (sv : Int32) (nx : Int32) (SL : Nat → XS) (p1 : Int32) : Option (Int64 × (Nat → Int32) × (Nat → Int32) × (Nat → Int64) × Int32 × (Nat → Int32) × Int32 × Int32 × (Nat → Int32) × Int32 × Int64 × Int32 × Int32 × (Nat → XS)) :=
  bd1 (fX1_prepare Asz Anu Aba Amo Aco Hsz Hla Hce Bsz Bla Bce Tma Tlc Ttc day lim low hig thr off cre rcp pay nx SL) fun SL_1 =>
  bd11 (fX5_letPass Asz Anu Aba Amo Aco Hsz Hce Tma Tlc Ttc day lim low hig thr cre p1) fun r_3 Aba_4 Amo_5 Aco_6 Hsz_7 Hce_8 Tma_9 Tlc_10 Ttc_11 day_12 cre_13 =>
  if r_3 < 0 then
    some (r_3, Aba_4, Amo_5, Aco_6, Hsz_7, Hce_8, Tma_9, Tlc_10, Ttc_11, day_12, cre_13, sv, nx, SL_1)
  else
    bd2 (fX1_keep sv nx) fun sv_16 nx_17 =>
    some (r_3, Aba_4, Amo_5, Aco_6, Hsz_7, Hce_8, Tma_9, Tlc_10, Ttc_11, day_12, cre_13, sv_16, nx_17, SL_1)
def fX7_reverse (Asz : Int32) (Anu : Nat → Int32) (Aba : Nat → Int32) (Amo : Nat → Int32) (Aco : Nat → Int64) (Hsz : Int32) (Hla : Int32) (Hce : Nat → Int32) (Bsz : Int32) (Bla : Int32) (Bce : Nat → Int32) (Tma : Int32) (Tlc : Int32) (Ttc : Nat → Int32) (day : Int32) (lim : Int32) (low : Int32) (hig : Int32) (thr : Int32) (off : Int64) (cre : Int64) (rcp : Int64) (pay : Int64) (sv : Int32) (nx : Int32) (SL : Nat → XS) (p1 : Int32) : Option (Int32 × (Nat → Int32) × (Nat → Int32) × Int32 × Int32 × (Nat → Int32) × Int64 × Int64 × Int32 × Int32 × (Nat → XS)) :=
  bd1 (fX1_prepare Asz Anu Aba Amo Aco Hsz Hla Hce Bsz Bla Bce Tma Tlc Ttc day lim low hig thr off cre rcp pay nx SL) fun SL_1 =>
  bd8 (fX5_reverseEntry Asz Anu Aba Amo Hsz Hce Tma Tlc Ttc day rcp pay p1) fun r_3 Aba_4 Amo_5 Tma_6 Tlc_7 Ttc_8 rcp_9 pay_10 =>
  bd3 (fX7_keptUnlessError sv nx r_3) fun r_12 sv_13 nx_14 =>
  some (r_12, Aba_4, Amo_5, Tma_6, Tlc_7, Ttc_8, rcp_9, pay_10, sv_13, nx_14, SL_1)
def fX7_day (day : Int32) : Option (Int32) :=
  some day
def fX7_clients (Asz : Int32) : Option (Int32) :=
  some Asz
def fX7_ranked (Ksz : Int32) (Kcl : Nat → Int32) (Kke : Nat → Int32) (Asz : Int32) (Anu : Nat → Int32) (Aba : Nat → Int32) (Amo : Nat → Int32) (Hsz : Int32) (Hce : Nat → Int32) (p1 : Int32) (p2 : Int32) : Option (Int32 × Int32 × (Nat → Int32) × (Nat → Int32)) :=
  if p1 < 0 then
    some ((-2), Ksz, Kcl, Kke)
  else
    if p1 ≤ 3 then
      if p2 < 0 then
        some ((-1), Ksz, Kcl, Kke)
      else
        if p2 < Asz then
          bd3 (fX3_sort Ksz Kcl Kke Asz Anu Aba Amo Hsz Hce p1) fun Ksz_5 Kcl_6 Kke_7 =>
          bd1 (fX3_clientAt Ksz_5 Kcl_6 p2) fun r_9 =>
          some (r_9, Ksz_5, Kcl_6, Kke_7)
        else
          some ((-1), Ksz, Kcl, Kke)
    else
      some ((-2), Ksz, Kcl, Kke)
def fX7_of (Asz : Int32) (Anu : Nat → Int32) (Aba : Nat → Int32) (Amo : Nat → Int32) (Aco : Nat → Int64) (Hsz : Int32) (Hce : Nat → Int32) (Bsz : Int32) (Bce : Nat → Int32) (p1 : Int32) (p2 : Int32) : Option (Int32) :=
  bd1 (fX0_find Asz Anu p1) fun r_1 =>
  if 0 ≤ r_1 then
    bd1 (fX5_aboutClient Asz Anu Aba Amo Aco Hsz Hce Bsz Bce r_1 p2) fun r_4 =>
    some r_4
  else
    some (-1)
def fX7_aboutRow (sz : Int32) (ce : Nat → Int32) (p2 : Int32) (p3 : Int32) : Option (Int32) :=
  bd1 (fX4_find sz ce p2) fun r_1 =>
  if 0 ≤ r_1 then
    if p3 < 0 then
      some (-2)
    else
      if p3 ≤ 2 then
        bd1 (fX4_get sz ce r_1 (1 + p3)) fun r_6 =>
        some r_6
      else
        some (-2)
  else
    some (-1)
def fX7_holdOf (Hsz : Int32) (Hce : Nat → Int32) (p1 : Int32) (p2 : Int32) : Option (Int32) :=
  bd1 (fX7_aboutRow Hsz Hce p1 p2) fun r_1 =>
  some r_1
def fX7_billOf (Bsz : Int32) (Bce : Nat → Int32) (p1 : Int32) (p2 : Int32) : Option (Int32) :=
  bd1 (fX7_aboutRow Bsz Bce p1 p2) fun r_1 =>
  some r_1
def fX7_entries (Tma : Int32) : Option (Int32) :=
  some Tma
def fX7_entry (Tma : Int32) (Ttc : Nat → Int32) (p1 : Int32) (p2 : Int32) : Option (Int32) :=
  bd1 (fX6_keeps Tma p1) fun r_1 =>
  if r_1 = 0 then
    some (-1)
  else
    if p2 < 0 then
      some (-2)
    else
      if p2 ≤ 6 then
        bd1 (fX6_get Tma Ttc p1 p2) fun r_6 =>
        some r_6
      else
        some (-2)
def fX7_sum (Asz : Int32) (Aba : Nat → Int32) (Hsz : Int32) (Hce : Nat → Int32) (off : Int64) (cre : Int64) (rcp : Int64) (pay : Int64) (p1 : Int32) : Option (Int64) :=
  if p1 = 0 then
    bd1 (fX0_sumOfBalances Asz Aba) fun r_2 =>
    some r_2
  else
    if p1 = 1 then
      bd1 (fX4_sumOfAll Hsz Hce 2) fun r_5 =>
      some r_5
    else
      if p1 = 2 then
        some off
      else
        if p1 = 3 then
          some cre
        else
          if p1 = 4 then
            some rcp
          else
            if p1 = 5 then
              some pay
            else
              some (-2)
def fX7_payableOn (Asz : Int32) (Anu : Nat → Int32) (Aba : Nat → Int32) (Aco : Nat → Int64) (Hsz : Int32) (Hce : Nat → Int32) (day : Int32) (lim : Int32) (low : Int32) (hig : Int32) (thr : Int32) (p1 : Int32) (p2 : Int32) : Option (Int32) :=
  bd1 (fX0_find Asz Anu p1) fun r_1 =>
  if 0 ≤ r_1 then
    bd1 (fX7_isAmount p2) fun r_4 =>
    if r_4 = 0 then
      some (-2)
    else
      bd1 (fX5_firstDayWithFree Asz Anu Aba Aco Hsz Hce day lim low hig thr r_1 p2) fun r_7 =>
      some r_7
  else
    some (-1)
def fX7_interestIn (Asz : Int32) (Anu : Nat → Int32) (Aba : Nat → Int32) (Aco : Nat → Int64) (day : Int32) (lim : Int32) (low : Int32) (hig : Int32) (thr : Int32) (p1 : Int32) (p2 : Int32) : Option (Int32) :=
  bd1 (fX0_find Asz Anu p1) fun r_1 =>
  if 0 ≤ r_1 then
    if p2 < 1 then
      some (-2)
    else
      if p2 ≤ 400 then
        bd1 (fX5_interestAhead Asz Aba Aco day lim low hig thr r_1 p2) fun r_6 =>
        some r_6
      else
        some (-2)
  else
    some (-1)
def fX7_type (Xle : Int32) (Xch : Nat → Int32) (p1 : Int32) : Option (Int32 × Int32 × (Nat → Int32)) :=
  if p1 < 33 then
    some ((-2), Xle, Xch)
  else
    if p1 ≤ 126 then
      if Xle < 80 then
        bd3 (fX2_append Xle Xch ((p1.toUInt32 % 65536).toInt32)) fun r_4 Xle_5 Xch_6 =>
        some (r_4, Xle_5, Xch_6)
      else
        some ((-4), Xle, Xch)
    else
      some ((-2), Xle, Xch)
def fX7_clearText (Xle : Int32) : Option (Int32 × Int32) :=
  bd2 (fX2_empty Xle) fun r_1 Xle_2 =>
  some (r_1, Xle_2)
def fX7_syntaxError (Xle : Int32) (Xch : Nat → Int32) : Option (Int32) :=
  bd1 (fX2_firstError Xle Xch) fun r_1 =>
  some r_1
def fX7_carryOutOrder (Xltr : Int32) (Xfi : Int32) (Xse : Int32) (Xth : Int32) (Asz : Int32) (Anu : Nat → Int32) (Aba : Nat → Int32) (Amo : Nat → Int32) (Aco : Nat → Int64) (Hsz : Int32) (Hce : Nat → Int32) (Bsz : Int32) (Bla : Int32) (Bce : Nat → Int32) (Tma : Int32) (Tlc : Int32) (Ttc : Nat → Int32) (day : Int32) (lim : Int32) (low : Int32) (hig : Int32) (thr : Int32) (off : Int64) (cre : Int64) (rcp : Int64) (pay : Int64) : Option (Int64 × (Nat → Int32) × (Nat → Int32) × (Nat → Int64) × Int32 × (Nat → Int32) × Int32 × Int32 × (Nat → Int32) × Int32 × Int32 × (Nat → Int32) × Int32 × Int64 × Int64 × Int64 × Int64) :=
  if Xltr = 98 then
    bd4 (fX5_writeBill Asz Anu Bsz Bla Bce Xfi Xse) fun r_2 Bsz_3 Bla_4 Bce_5 =>
    some (r_2.toInt64, Aba, Amo, Aco, Hsz, Hce, Bsz_3, Bla_4, Bce_5, Tma, Tlc, Ttc, day, off, cre, rcp, pay)
  else
    if Xltr = 99 then
      some ((-5), Aba, Amo, Aco, Hsz, Hce, Bsz, Bla, Bce, Tma, Tlc, Ttc, day, off, cre, rcp, pay)
    else
      if Xltr = 100 then
        bd11 (fX5_letPass Asz Anu Aba Amo Aco Hsz Hce Tma Tlc Ttc day lim low hig thr cre Xfi) fun r_9 Aba_10 Amo_11 Aco_12 Hsz_13 Hce_14 Tma_15 Tlc_16 Ttc_17 day_18 cre_19 =>
        some (r_9, Aba_10, Amo_11, Aco_12, Hsz_13, Hce_14, Bsz, Bla, Bce, Tma_15, Tlc_16, Ttc_17, day_18, off, cre_19, rcp, pay)
      else
        if Xltr = 101 then
          some ((-5), Aba, Amo, Aco, Hsz, Hce, Bsz, Bla, Bce, Tma, Tlc, Ttc, day, off, cre, rcp, pay)
        else
          if Xltr = 102 then
            some ((-5), Aba, Amo, Aco, Hsz, Hce, Bsz, Bla, Bce, Tma, Tlc, Ttc, day, off, cre, rcp, pay)
          else
            if Xltr = 103 then
              some ((-5), Aba, Amo, Aco, Hsz, Hce, Bsz, Bla, Bce, Tma, Tlc, Ttc, day, off, cre, rcp, pay)
            else
              if Xltr = 104 then
                some ((-5), Aba, Amo, Aco, Hsz, Hce, Bsz, Bla, Bce, Tma, Tlc, Ttc, day, off, cre, rcp, pay)
              else
                if Xltr = 105 then
                  some ((-5), Aba, Amo, Aco, Hsz, Hce, Bsz, Bla, Bce, Tma, Tlc, Ttc, day, off, cre, rcp, pay)
                else
                  if Xltr = 106 then
                    some ((-5), Aba, Amo, Aco, Hsz, Hce, Bsz, Bla, Bce, Tma, Tlc, Ttc, day, off, cre, rcp, pay)
                  else
                    if Xltr = 107 then
                      some ((-5), Aba, Amo, Aco, Hsz, Hce, Bsz, Bla, Bce, Tma, Tlc, Ttc, day, off, cre, rcp, pay)
                    else
                      if Xltr = 108 then
                        some ((-5), Aba, Amo, Aco, Hsz, Hce, Bsz, Bla, Bce, Tma, Tlc, Ttc, day, off, cre, rcp, pay)
                      else
                        if Xltr = 109 then
                          some ((-5), Aba, Amo, Aco, Hsz, Hce, Bsz, Bla, Bce, Tma, Tlc, Ttc, day, off, cre, rcp, pay)
                        else
                          if Xltr = 110 then
                            some ((-5), Aba, Amo, Aco, Hsz, Hce, Bsz, Bla, Bce, Tma, Tlc, Ttc, day, off, cre, rcp, pay)
                          else
                            if Xltr = 111 then
                              some ((-5), Aba, Amo, Aco, Hsz, Hce, Bsz, Bla, Bce, Tma, Tlc, Ttc, day, off, cre, rcp, pay)
                            else
                              if Xltr = 112 then
                                bd7 (fX5_makePayment Asz Anu Aba Amo Hsz Hce Tma Tlc Ttc day pay Xfi Xse) fun r_33 Aba_34 Amo_35 Tma_36 Tlc_37 Ttc_38 pay_39 =>
                                some (r_33.toInt64, Aba_34, Amo_35, Aco, Hsz, Hce, Bsz, Bla, Bce, Tma_36, Tlc_37, Ttc_38, day, off, cre, rcp, pay_39)
                              else
                                if Xltr = 113 then
                                  some ((-5), Aba, Amo, Aco, Hsz, Hce, Bsz, Bla, Bce, Tma, Tlc, Ttc, day, off, cre, rcp, pay)
                                else
                                  if Xltr = 114 then
                                    bd7 (fX5_takeReceipt Asz Anu Aba Amo Tma Tlc Ttc day rcp Xfi Xse) fun r_43 Aba_44 Amo_45 Tma_46 Tlc_47 Ttc_48 rcp_49 =>
                                    some (r_43.toInt64, Aba_44, Amo_45, Aco, Hsz, Hce, Bsz, Bla, Bce, Tma_46, Tlc_47, Ttc_48, day, off, cre, rcp_49, pay)
                                  else
                                    if Xltr = 115 then
                                      bd9 (fX5_settleBill Asz Anu Aba Amo Hsz Hce Bsz Bce Tma Tlc Ttc day off Xfi) fun r_52 Aba_53 Amo_54 Bsz_55 Bce_56 Tma_57 Tlc_58 Ttc_59 off_60 =>
                                      some (r_52.toInt64, Aba_53, Amo_54, Aco, Hsz, Hce, Bsz_55, Bla, Bce_56, Tma_57, Tlc_58, Ttc_59, day, off_60, cre, rcp, pay)
                                    else
                                      if Xltr = 116 then
                                        bd6 (fX5_makeTransfer Asz Anu Aba Amo Hsz Hce Tma Tlc Ttc day Xfi Xse Xth) fun r_63 Aba_64 Amo_65 Tma_66 Tlc_67 Ttc_68 =>
                                        some (r_63.toInt64, Aba_64, Amo_65, Aco, Hsz, Hce, Bsz, Bla, Bce, Tma_66, Tlc_67, Ttc_68, day, off, cre, rcp, pay)
                                      else
                                        some ((-5), Aba, Amo, Aco, Hsz, Hce, Bsz, Bla, Bce, Tma, Tlc, Ttc, day, off, cre, rcp, pay)
def fX7_carryOut_L37 (Xle : Int32) (Xch : Nat → Int32) (Asz : Int32) (Anu : Nat → Int32) (lim : Int32) (low : Int32) (hig : Int32) (thr : Int32) : Nat → Int32 → Int32 → Int32 → Int32 → Int32 → (Nat → Int32) → (Nat → Int32) → (Nat → Int64) → Int32 → (Nat → Int32) → Int32 → Int32 → (Nat → Int32) → Int32 → Int32 → (Nat → Int32) → Int32 → Int64 → Int64 → Int64 → Int64 → Int32 → Int32 → Option (Int32 × Int32 × Int32 × Int32 × Int32 × (Nat → Int32) × (Nat → Int32) × (Nat → Int64) × Int32 × (Nat → Int32) × Int32 × Int32 × (Nat → Int32) × Int32 × Int32 × (Nat → Int32) × Int32 × Int64 × Int64 × Int64 × Int64 × Int32)
  | 0, _, _, _, _, _, _, _, _, _, _, _, _, _, _, _, _, _, _, _, _, _, _, _ => none
  | n + 1, Xpo, Xltr, Xfi, Xse, Xth, Aba, Amo, Aco, Hsz, Hce, Bsz, Bla, Bce, Tma, Tlc, Ttc, day, off, cre, rcp, pay, z1, z2 =>
    if 80 ≤ z2 then
      some (Xpo, Xltr, Xfi, Xse, Xth, Aba, Amo, Aco, Hsz, Hce, Bsz, Bla, Bce, Tma, Tlc, Ttc, day, off, cre, rcp, pay, z1)
    else
      bd6 (fX2_readOrder Xle Xch Xpo Xltr Xfi Xse Xth) fun r_9 Xpo_10 Xltr_11 Xfi_12 Xse_13 Xth_14 =>
      if r_9 = 0 then
        some (Xpo_10, Xltr_11, Xfi_12, Xse_13, Xth_14, Aba, Amo, Aco, Hsz, Hce, Bsz, Bla, Bce, Tma, Tlc, Ttc, day, off, cre, rcp, pay, z1)
      else
        bd17 (fX7_carryOutOrder Xltr_11 Xfi_12 Xse_13 Xth_14 Asz Anu Aba Amo Aco Hsz Hce Bsz Bla Bce Tma Tlc Ttc day lim low hig thr off cre rcp pay) fun r_17 Aba_18 Amo_19 Aco_20 Hsz_21 Hce_22 Bsz_23 Bla_24 Bce_25 Tma_26 Tlc_27 Ttc_28 day_29 off_30 cre_31 rcp_32 pay_33 =>
        if 0 ≤ r_17 then
          fX7_carryOut_L37 Xle Xch Asz Anu lim low hig thr n Xpo_10 Xltr_11 Xfi_12 Xse_13 Xth_14 Aba_18 Amo_19 Aco_20 Hsz_21 Hce_22 Bsz_23 Bla_24 Bce_25 Tma_26 Tlc_27 Ttc_28 day_29 off_30 cre_31 rcp_32 pay_33 (z1 + 1) (z2 + 1)
        else
          some (Xpo_10, Xltr_11, Xfi_12, Xse_13, Xth_14, Aba_18, Amo_19, Aco_20, Hsz_21, Hce_22, Bsz_23, Bla_24, Bce_25, Tma_26, Tlc_27, Ttc_28, day_29, off_30, cre_31, rcp_32, pay_33, z1)
def fX7_carryOut (Xle : Int32) (Xch : Nat → Int32) (Xpo : Int32) (Xltr : Int32) (Xfi : Int32) (Xse : Int32) (Xth : Int32) (Asz : Int32) (Anu : Nat → Int32) (Aba : Nat → Int32) (Amo : Nat → Int32) (Aco : Nat → Int64) (Hsz : Int32) (Hla : Int32) (Hce : Nat → Int32) (Bsz : Int32) (Bla : Int32) (Bce : Nat → Int32) (Tma : Int32) (Tlc : Int32) (Ttc : Nat → Int32) (day : Int32) (lim : Int32) (low : Int32) (hig : Int32) (thr : Int32) (off : Int64) (cre : Int64) (rcp : Int64) (pay : Int64) (sv : Int32) (nx : Int32) (SL : Nat → XS) : Option (Int32 × Int32 × Int32 × Int32 × Int32 × Int32 × Int32 × (Nat → Int32) × (Nat → Int32) × (Nat → Int64) × Int32 × (Nat → Int32) × Int32 × Int32 × (Nat → Int32) × Int32 × Int32 × (Nat → Int32) × Int32 × Int64 × Int64 × Int64 × Int64 × Int32 × Int32 × (Nat → XS)) :=
  bd1 (fX2_firstError Xle Xch) fun r_1 =>
  if r_1 = (-6) then
    bd1 (fX1_prepare Asz Anu Aba Amo Aco Hsz Hla Hce Bsz Bla Bce Tma Tlc Ttc day lim low hig thr off cre rcp pay nx SL) fun SL_4 =>
    bd1 (fX2_startReading Xpo) fun Xpo_6 =>
    bd22 (fX7_carryOut_L37 Xle Xch Asz Anu lim low hig thr 2147483648 Xpo_6 Xltr Xfi Xse Xth Aba Amo Aco Hsz Hce Bsz Bla Bce Tma Tlc Ttc day off cre rcp pay 0 0) fun Xpo_36 Xltr_37 Xfi_38 Xse_39 Xth_40 Aba_41 Amo_42 Aco_43 Hsz_44 Hce_45 Bsz_46 Bla_47 Bce_48 Tma_49 Tlc_50 Ttc_51 day_52 off_53 cre_54 rcp_55 pay_56 x1_57 =>
      bd2 (fX2_empty Xle) fun r_58 Xle_59 =>
      bd2 (fX1_keep sv nx) fun sv_61 nx_62 =>
      some (x1_57, Xle_59, Xpo_36, Xltr_37, Xfi_38, Xse_39, Xth_40, Aba_41, Amo_42, Aco_43, Hsz_44, Hce_45, Bsz_46, Bla_47, Bce_48, Tma_49, Tlc_50, Ttc_51, day_52, off_53, cre_54, rcp_55, pay_56, sv_61, nx_62, SL_4)
  else
    some ((-5), Xle, Xpo, Xltr, Xfi, Xse, Xth, Aba, Amo, Aco, Hsz, Hce, Bsz, Bla, Bce, Tma, Tlc, Ttc, day, off, cre, rcp, pay, sv, nx, SL)
def fX7_undo (Asz : Int32) (Anu : Nat → Int32) (Aba : Nat → Int32) (Amo : Nat → Int32) (Aco : Nat → Int64) (Hsz : Int32) (Hla : Int32) (Hce : Nat → Int32) (Bsz : Int32) (Bla : Int32) (Bce : Nat → Int32) (Tma : Int32) (Tlc : Int32) (Ttc : Nat → Int32) (day : Int32) (lim : Int32) (low : Int32) (hig : Int32) (thr : Int32) (off : Int64) (cre : Int64) (rcp : Int64) (pay : Int64) (sv : Int32) (nx : Int32) (SL : Nat → XS) : Option (Int32 × Int32 × (Nat → Int32) × (Nat → Int32) × (Nat → Int32) × (Nat → Int64) × Int32 × Int32 × (Nat → Int32) × Int32 × Int32 × (Nat → Int32) × Int32 × Int32 × (Nat → Int32) × Int32 × Int32 × Int32 × Int32 × Int32 × Int64 × Int64 × Int64 × Int64 × Int32 × Int32) :=
  if sv = 0 then
    some ((-3), Asz, Anu, Aba, Amo, Aco, Hsz, Hla, Hce, Bsz, Bla, Bce, Tma, Tlc, Ttc, day, lim, low, hig, thr, off, cre, rcp, pay, sv, nx)
  else
    bd26 (fX1_restoreLatest sv nx SL) fun r_2 Asz_3 Anu_4 Aba_5 Amo_6 Aco_7 Hsz_8 Hla_9 Hce_10 Bsz_11 Bla_12 Bce_13 Tma_14 Tlc_15 Ttc_16 day_17 lim_18 low_19 hig_20 thr_21 off_22 cre_23 rcp_24 pay_25 sv_26 nx_27 =>
    some (r_2, Asz_3, Anu_4, Aba_5, Amo_6, Aco_7, Hsz_8, Hla_9, Hce_10, Bsz_11, Bla_12, Bce_13, Tma_14, Tlc_15, Ttc_16, day_17, lim_18, low_19, hig_20, thr_21, off_22, cre_23, rcp_24, pay_25, sv_26, nx_27)
def fX7_hashOfClients_L43 (Asz : Int32) (Anu : Nat → Int32) (Aba : Nat → Int32) (Amo : Nat → Int32) (Aco : Nat → Int64) (Hsz : Int32) (Hce : Nat → Int32) (Bsz : Int32) (Bce : Nat → Int32) (u5 : Int32) : Nat → Int64 → Int32 → Option (Int64)
  | 0, _, _ => none
  | n + 1, z3, z6 =>
    if 7 < z6 then
      some z3
    else
      bd1 (fX5_aboutClient Asz Anu Aba Amo Aco Hsz Hce Bsz Bce u5 z6) fun r_6 =>
      lt_ ((31 * z3) + r_6.toInt64) fun x3_8 =>
      fX7_hashOfClients_L43 Asz Anu Aba Amo Aco Hsz Hce Bsz Bce u5 n x3_8 (z6 + 1)
def fX7_hashOfClients_L5 (Asz : Int32) (Anu : Nat → Int32) (Aba : Nat → Int32) (Amo : Nat → Int32) (Aco : Nat → Int64) (Hsz : Int32) (Hce : Nat → Int32) (Bsz : Int32) (Bce : Nat → Int32) : Nat → Int64 → Int32 → Option (Int64)
  | 0, _, _ => none
  | n + 1, z3, z5 =>
    if Asz ≤ z5 then
      some z3
    else
      bd1 (fX0_numberAt Asz Anu z5) fun r_2 =>
      lt_ ((31 * z3) + r_2.toInt64) fun x3_4 =>
      bd1 (fX7_hashOfClients_L43 Asz Anu Aba Amo Aco Hsz Hce Bsz Bce z5 2147483648 x3_4 0) fun x3_9 =>
        fX7_hashOfClients_L5 Asz Anu Aba Amo Aco Hsz Hce Bsz Bce n x3_9 (z5 + 1)
def fX7_hashOfClients (Asz : Int32) (Anu : Nat → Int32) (Aba : Nat → Int32) (Amo : Nat → Int32) (Aco : Nat → Int64) (Hsz : Int32) (Hce : Nat → Int32) (Bsz : Int32) (Bce : Nat → Int32) (p1 : Int64) : Option (Int64) :=
  bd1 (fX7_hashOfClients_L5 Asz Anu Aba Amo Aco Hsz Hce Bsz Bce 2147483648 p1 0) fun x3_10 =>
    some x3_10
def fX7_hashOfRows_L17 (sz : Int32) (ce : Nat → Int32) (u5 : Int32) : Nat → Int64 → Int32 → Option (Int64)
  | 0, _, _ => none
  | n + 1, z3, z6 =>
    if 4 ≤ z6 then
      some z3
    else
      bd1 (fX4_get sz ce u5 z6) fun r_3 =>
      lt_ ((31 * z3) + r_3.toInt64) fun x3_5 =>
      fX7_hashOfRows_L17 sz ce u5 n x3_5 (z6 + 1)
def fX7_hashOfRows_L5 (sz : Int32) (ce : Nat → Int32) : Nat → Int64 → Int32 → Option (Int64)
  | 0, _, _ => none
  | n + 1, z3, z5 =>
    if sz ≤ z5 then
      some z3
    else
      bd1 (fX7_hashOfRows_L17 sz ce z5 2147483648 z3 0) fun x3_6 =>
        fX7_hashOfRows_L5 sz ce n x3_6 (z5 + 1)
def fX7_hashOfRows (sz : Int32) (ce : Nat → Int32) (p1 : Int64) : Option (Int64) :=
  bd1 (fX7_hashOfRows_L5 sz ce 2147483648 p1 0) fun x3_7 =>
    some x3_7
def fX7_hashOfTrail_L51 (Tma : Int32) (Ttc : Nat → Int32) (u6 : Int32) (u7 : Int32) : Nat → Int64 → Int32 → Option (Int64)
  | 0, _, _ => none
  | n + 1, z4, z8 =>
    if 6 < z8 then
      some z4
    else
      bd1 (fX6_get Tma Ttc u7 z8) fun r_8 =>
      lt_ ((31 * z4) + r_8.toInt64) fun x4_10 =>
      fX7_hashOfTrail_L51 Tma Ttc u6 u7 n x4_10 (z8 + 1)
def fX7_hashOfTrail_L25 (Tma : Int32) (Ttc : Nat → Int32) : Nat → Int64 → Int32 → Option (Int64)
  | 0, _, _ => none
  | n + 1, z4, z6 =>
    if z6 < 0 then
      some z4
    else
      lt_ (Tma - z6) fun x7_3 =>
      bd1 (fX6_keeps Tma x7_3) fun r_4 =>
      if r_4 = 0 then
        fX7_hashOfTrail_L25 Tma Ttc n z4 (z6 + (-1))
      else
        bd1 (fX7_hashOfTrail_L51 Tma Ttc z6 x7_3 2147483648 z4 0) fun x4_11 =>
          fX7_hashOfTrail_L25 Tma Ttc n x4_11 (z6 + (-1))
def fX7_hashOfTrail (Tma : Int32) (Ttc : Nat → Int32) (p1 : Int64) : Option (Int64) :=
  lt_ ((31 * p1) + Tma.toInt64) fun x4_1 =>
  bd1 (fX7_hashOfTrail_L25 Tma Ttc 2147483648 x4_1 23) fun x4_12 =>
    some x4_12
def fX7_hashOfRanks_L27 (Ksz : Int32) (Kcl : Nat → Int32) (Asz : Int32) (u5 : Int32) : Nat → Int64 → Int32 → Option (Int64)
  | 0, _, _ => none
  | n + 1, z3, z6 =>
    if Asz ≤ z6 then
      some z3
    else
      bd1 (fX3_clientAt Ksz Kcl z6) fun r_7 =>
      lt_ ((31 * z3) + r_7.toInt64) fun x3_9 =>
      fX7_hashOfRanks_L27 Ksz Kcl Asz u5 n x3_9 (z6 + 1)
def fX7_hashOfRanks_L5 (Asz : Int32) (Anu : Nat → Int32) (Aba : Nat → Int32) (Amo : Nat → Int32) (Hsz : Int32) (Hce : Nat → Int32) : Nat → Int32 → (Nat → Int32) → (Nat → Int32) → Int64 → Int32 → Option (Int32 × (Nat → Int32) × (Nat → Int32) × Int64)
  | 0, _, _, _, _, _ => none
  | n + 1, Ksz, Kcl, Kke, z3, z5 =>
    if 3 < z5 then
      some (Ksz, Kcl, Kke, z3)
    else
      bd3 (fX3_sort Ksz Kcl Kke Asz Anu Aba Amo Hsz Hce z5) fun Ksz_2 Kcl_3 Kke_4 =>
      bd1 (fX7_hashOfRanks_L27 Ksz_2 Kcl_3 Asz z5 2147483648 z3 0) fun x3_10 =>
        fX7_hashOfRanks_L5 Asz Anu Aba Amo Hsz Hce n Ksz_2 Kcl_3 Kke_4 x3_10 (z5 + 1)
def fX7_hashOfRanks (Ksz : Int32) (Kcl : Nat → Int32) (Kke : Nat → Int32) (Asz : Int32) (Anu : Nat → Int32) (Aba : Nat → Int32) (Amo : Nat → Int32) (Hsz : Int32) (Hce : Nat → Int32) (p1 : Int64) : Option (Int64 × Int32 × (Nat → Int32) × (Nat → Int32)) :=
  bd4 (fX7_hashOfRanks_L5 Asz Anu Aba Amo Hsz Hce 2147483648 Ksz Kcl Kke p1 1) fun Ksz_11 Kcl_12 Kke_13 x3_14 =>
    some (x3_14, Ksz_11, Kcl_12, Kke_13)
def fX7_digest_L75 (Asz : Int32) (Aba : Nat → Int32) (Hsz : Int32) (Hce : Nat → Int32) (off : Int64) (cre : Int64) (rcp : Int64) (pay : Int64) : Nat → Int64 → Int32 → Option (Int64)
  | 0, _, _ => none
  | n + 1, z1, z3 =>
    if 5 < z3 then
      some z1
    else
      bd1 (fX7_sum Asz Aba Hsz Hce off cre rcp pay z3) fun r_17 =>
      lt_ ((31 * z1) + r_17) fun x1_19 =>
      fX7_digest_L75 Asz Aba Hsz Hce off cre rcp pay n x1_19 (z3 + 1)
def fX7_digest (Ksz : Int32) (Kcl : Nat → Int32) (Kke : Nat → Int32) (Asz : Int32) (Anu : Nat → Int32) (Aba : Nat → Int32) (Amo : Nat → Int32) (Aco : Nat → Int64) (Hsz : Int32) (Hce : Nat → Int32) (Bsz : Int32) (Bce : Nat → Int32) (Tma : Int32) (Ttc : Nat → Int32) (day : Int32) (off : Int64) (cre : Int64) (rcp : Int64) (pay : Int64) : Option (Int64 × Int32 × (Nat → Int32) × (Nat → Int32)) :=
  lt_ (6262 + day.toInt64) fun x1_1 =>
  lt_ ((31 * x1_1) + Asz.toInt64) fun x1_2 =>
  bd1 (fX7_hashOfClients Asz Anu Aba Amo Aco Hsz Hce Bsz Bce x1_2) fun r_3 =>
  bd1 (fX7_hashOfRows Hsz Hce r_3) fun r_5 =>
  bd1 (fX7_hashOfRows Bsz Bce r_5) fun r_7 =>
  bd1 (fX7_hashOfTrail Tma Ttc r_7) fun r_9 =>
  bd4 (fX7_hashOfRanks Ksz Kcl Kke Asz Anu Aba Amo Hsz Hce r_9) fun r_11 Ksz_12 Kcl_13 Kke_14 =>
  bd1 (fX7_digest_L75 Asz Aba Hsz Hce off cre rcp pay 2147483648 r_11 0) fun x1_20 =>
    some (x1_20, Ksz_12, Kcl_13, Kke_14)
def fX8_within (p1 : Int32) (p2 : Int32) (p3 : Int32) : Option (Int32) :=
  if p1 < p2 then
    some 0
  else
    if p3 < p1 then
      some 0
    else
      some 1
def fX8_record_L81 (st : Nat → Int32) (rc : Int32) : Nat → (Nat → Int32) → Int32 → Option ((Nat → Int32))
  | 0, _, _ => none
  | n + 1, hi, z1 =>
    if 336 ≤ z1 then
      some hi
    else
      ckI z1 336 <|
      ckI ((rc * 336) + z1) 2016 <|
      lt_ (upd hi ((rc * 336) + z1).toNatClampNeg (st z1.toNatClampNeg)) fun hi_5 =>
      fX8_record_L81 st rc n hi_5 (z1 + 1)
def fX8_record_L117 (gr : Nat → Int64) (rc : Int32) : Nat → (Nat → Int64) → Int32 → Option ((Nat → Int64))
  | 0, _, _ => none
  | n + 1, gh, z1 =>
    if 16 ≤ z1 then
      some gh
    else
      ckI z1 16 <|
      ckI ((rc * 16) + z1) 96 <|
      lt_ (vp_updL gh ((rc * 16) + z1).toNatClampNeg (gr z1.toNatClampNeg)) fun gh_10 =>
      fX8_record_L117 gr rc n gh_10 (z1 + 1)
def fX8_record_L11  : Nat → (Nat → Int32) → Int32 → Option ((Nat → Int32))
  | 0, _, _ => none
  | n + 1, hi, z1 =>
    if 1680 ≤ z1 then
      some hi
    else
      ckI (z1 + 336) 2016 <|
      ckI z1 2016 <|
      lt_ (upd hi z1.toNatClampNeg (hi (z1 + 336).toNatClampNeg)) fun hi_30 =>
      fX8_record_L11  n hi_30 (z1 + 1)
def fX8_record_L42  : Nat → (Nat → Int64) → Int32 → Option ((Nat → Int64))
  | 0, _, _ => none
  | n + 1, gh, z1 =>
    if 80 ≤ z1 then
      some gh
    else
      ckI (z1 + 16) 96 <|
      ckI z1 96 <|
      lt_ (vp_updL gh z1.toNatClampNeg (gh (z1 + 16).toNatClampNeg)) fun gh_35 =>
      fX8_record_L42  n gh_35 (z1 + 1)
def fX8_record (st : Nat → Int32) (gr : Nat → Int64) (hi : Nat → Int32) (gh : Nat → Int64) (rc : Int32) : Option ((Nat → Int32) × (Nat → Int64) × Int32) :=
  if rc = 6 then
    bd1 (fX8_record_L11  2147483648 hi 0) fun hi_31 =>
      bd1 (fX8_record_L42  2147483648 gh 0) fun gh_36 =>
        lt_ (rc - 1) fun rc_37 =>
        bd1 (fX8_record_L81 st rc_37 2147483648 hi_31 0) fun hi_38 =>
          bd1 (fX8_record_L117 gr rc_37 2147483648 gh_36 0) fun gh_39 =>
            lt_ (rc_37 + 1) fun rc_40 =>
            some (hi_38, gh_39, rc_40)
  else
    bd1 (fX8_record_L81 st rc 2147483648 hi 0) fun hi_6 =>
      bd1 (fX8_record_L117 gr rc 2147483648 gh 0) fun gh_11 =>
        lt_ (rc + 1) fun rc_12 =>
        some (hi_6, gh_11, rc_12)
def fX8_part (st : Nat → Int32) (p1 : Int32) (p2 : Int32) : Option (Int32) :=
  ckI ((12 + (3 * p1)) + p2) 336 <|
  some (st ((12 + (3 * p1)) + p2).toNatClampNeg)
def fX8_setPart (st : Nat → Int32) (p1 : Int32) (p2 : Int32) (p3 : Int32) : Option ((Nat → Int32)) :=
  ckI ((12 + (3 * p1)) + p2) 336 <|
  lt_ (upd st ((12 + (3 * p1)) + p2).toNatClampNeg p3) fun st_2 =>
  some st_2
def fX8_find_L5 (st : Nat → Int32) (u1 : Int32) : Nat → Int32 → Int32 → Option (Int32)
  | 0, _, _ => none
  | n + 1, z2, z3 =>
    ckI 5 336 <|
    if (st (5 : Int32).toNatClampNeg) ≤ z3 then
      some z2
    else
      bd1 (fX8_part st z3 0) fun r_3 =>
      if r_3 = u1 then
        fX8_find_L5 st u1 n z3 (z3 + 1)
      else
        fX8_find_L5 st u1 n z2 (z3 + 1)
def fX8_find (st : Nat → Int32) (p1 : Int32) : Option (Int32) :=
  bd1 (fX8_find_L5 st p1 2147483648 (-6) 0) fun x2_6 =>
    some x2_6
def fX8_holdPart (st : Nat → Int32) (p1 : Int32) (p2 : Int32) : Option (Int32) :=
  ckI ((48 + (4 * p1)) + p2) 336 <|
  some (st ((48 + (4 * p1)) + p2).toNatClampNeg)
def fX8_billPart (st : Nat → Int32) (p1 : Int32) (p2 : Int32) : Option (Int32) :=
  ckI ((108 + (4 * p1)) + p2) 336 <|
  some (st ((108 + (4 * p1)) + p2).toNatClampNeg)
def fX8_heldOn_L5 (st : Nat → Int32) (u1 : Int32) (u2 : Int32) : Nat → Int32 → Int32 → Option (Int32)
  | 0, _, _ => none
  | n + 1, z3, z4 =>
    ckI 6 336 <|
    if (st (6 : Int32).toNatClampNeg) ≤ z4 then
      some z3
    else
      bd1 (fX8_holdPart st z4 1) fun r_3 =>
      if r_3 = u1 then
        bd1 (fX8_holdPart st z4 3) fun r_7 =>
        if r_7 < u2 then
          lt_ (z3 + 0) fun x3_10 =>
          fX8_heldOn_L5 st u1 u2 n x3_10 (z4 + 1)
        else
          bd1 (fX8_holdPart st z4 2) fun r_11 =>
          lt_ (z3 + r_11) fun x3_13 =>
          fX8_heldOn_L5 st u1 u2 n x3_13 (z4 + 1)
      else
        lt_ (z3 + 0) fun x3_6 =>
        fX8_heldOn_L5 st u1 u2 n x3_6 (z4 + 1)
def fX8_heldOn (st : Nat → Int32) (p1 : Int32) (p2 : Int32) : Option (Int32) :=
  bd1 (fX8_heldOn_L5 st p1 p2 2147483648 0 0) fun x3_14 =>
    some x3_14
def fX8_held (st : Nat → Int32) (p1 : Int32) : Option (Int32) :=
  bd1 (fX8_part st p1 0) fun r_1 =>
  ckI 0 336 <|
  bd1 (fX8_heldOn st r_1 (st (0 : Int32).toNatClampNeg)) fun r_4 =>
  some r_4
def fX8_free (st : Nat → Int32) (p1 : Int32) : Option (Int32) :=
  bd1 (fX8_part st p1 1) fun r_1 =>
  bd1 (fX8_held st p1) fun r_3 =>
  some (r_1 - r_3)
def fX8_findHold_L5 (st : Nat → Int32) (u1 : Int32) : Nat → Int32 → Int32 → Option (Int32)
  | 0, _, _ => none
  | n + 1, z2, z3 =>
    ckI 6 336 <|
    if (st (6 : Int32).toNatClampNeg) ≤ z3 then
      some z2
    else
      bd1 (fX8_holdPart st z3 0) fun r_3 =>
      if r_3 = u1 then
        fX8_findHold_L5 st u1 n z3 (z3 + 1)
      else
        fX8_findHold_L5 st u1 n z2 (z3 + 1)
def fX8_findHold (st : Nat → Int32) (p1 : Int32) : Option (Int32) :=
  bd1 (fX8_findHold_L5 st p1 2147483648 (-6) 0) fun x2_6 =>
    some x2_6
def fX8_findBill_L5 (st : Nat → Int32) (u1 : Int32) : Nat → Int32 → Int32 → Option (Int32)
  | 0, _, _ => none
  | n + 1, z2, z3 =>
    ckI 7 336 <|
    if (st (7 : Int32).toNatClampNeg) ≤ z3 then
      some z2
    else
      bd1 (fX8_billPart st z3 0) fun r_3 =>
      if r_3 = u1 then
        fX8_findBill_L5 st u1 n z3 (z3 + 1)
      else
        fX8_findBill_L5 st u1 n z2 (z3 + 1)
def fX8_findBill (st : Nat → Int32) (p1 : Int32) : Option (Int32) :=
  bd1 (fX8_findBill_L5 st p1 2147483648 (-6) 0) fun x2_6 =>
    some x2_6
def fX8_takesOut_L7 (u1 : Int32) (u3 : Int32) : Nat → (Nat → Int32) → Int32 → Option ((Nat → Int32))
  | 0, _, _ => none
  | n + 1, st, z4 =>
    if (u1 + (4 * (u3 - 1))) ≤ z4 then
      some st
    else
      ckI (z4 + 4) 336 <|
      ckI z4 336 <|
      lt_ (upd st z4.toNatClampNeg (st (z4 + 4).toNatClampNeg)) fun st_5 =>
      fX8_takesOut_L7 u1 u3 n st_5 (z4 + 1)
def fX8_takesOut_L50 (u1 : Int32) (u3 : Int32) : Nat → (Nat → Int32) → Int32 → Option ((Nat → Int32))
  | 0, _, _ => none
  | n + 1, st, z4 =>
    if (u1 + (4 * u3)) ≤ z4 then
      some st
    else
      ckI z4 336 <|
      lt_ (upd st z4.toNatClampNeg 0) fun st_10 =>
      fX8_takesOut_L50 u1 u3 n st_10 (z4 + 1)
def fX8_takesOut (st : Nat → Int32) (p1 : Int32) (p2 : Int32) (p3 : Int32) : Option ((Nat → Int32)) :=
  lt_ (p1 + (4 * p2)) fun x4_1 =>
  bd1 (fX8_takesOut_L7 p1 p3 2147483648 st x4_1) fun st_6 =>
    lt_ (p1 + (4 * (p3 - 1))) fun x4_7 =>
    bd1 (fX8_takesOut_L50 p1 p3 2147483648 st_6 x4_7) fun st_11 =>
      some st_11
def fX8_enters_L181 (u2 : Int32) (u3 : Int32) : Nat → (Nat → Int32) → Int32 → Option ((Nat → Int32))
  | 0, _, _ => none
  | n + 1, st, z8 =>
    ckI 5 336 <|
    if (st (5 : Int32).toNatClampNeg) ≤ z8 then
      some st
    else
      bd1 (fX8_part st z8 0) fun r_29 =>
      if r_29 = u2 then
        ckI 0 336 <|
        bd1 (fX8_setPart st z8 2 (st (0 : Int32).toNatClampNeg)) fun st_33 =>
        fX8_enters_L181 u2 u3 n st_33 (z8 + 1)
      else
        bd1 (fX8_part st z8 0) fun r_35 =>
        if r_35 = u3 then
          ckI 0 336 <|
          bd1 (fX8_setPart st z8 2 (st (0 : Int32).toNatClampNeg)) fun st_39 =>
          fX8_enters_L181 u2 u3 n st_39 (z8 + 1)
        else
          fX8_enters_L181 u2 u3 n st (z8 + 1)
def fX8_enters (st : Nat → Int32) (p1 : Int32) (p2 : Int32) (p3 : Int32) (p4 : Int32) : Option (Int32 × (Nat → Int32)) :=
  ckI 11 336 <|
  ckI 0 336 <|
  lt_ (((((((st (11 : Int32).toNatClampNeg).toInt64 * 1009) + ((st (0 : Int32).toNatClampNeg).toInt64 * 31)) + (p1.toInt64 * 17)) + (p2.toInt64 * 101)) + (p3.toInt64 * 103)) + p4.toInt64) fun x5_3 =>
  ckI 11 336 <|
  lt_ (upd st (11 : Int32).toNatClampNeg ((x5_3 - x5_3 / 1000003 * 1000003).toInt32)) fun st_5 =>
  ckI 10 336 <|
  lt_ (168 + (7 * ((st_5 (10 : Int32).toNatClampNeg) - (st_5 (10 : Int32).toNatClampNeg) / 24 * 24))) fun x7_7 =>
  ckI 0 336 <|
  ckI (x7_7 + 0) 336 <|
  lt_ (upd st_5 (x7_7 + 0).toNatClampNeg (st_5 (0 : Int32).toNatClampNeg)) fun st_10 =>
  ckI (x7_7 + 1) 336 <|
  lt_ (upd st_10 (x7_7 + 1).toNatClampNeg p1) fun st_12 =>
  ckI (x7_7 + 2) 336 <|
  lt_ (upd st_12 (x7_7 + 2).toNatClampNeg p2) fun st_14 =>
  ckI (x7_7 + 3) 336 <|
  lt_ (upd st_14 (x7_7 + 3).toNatClampNeg p3) fun st_16 =>
  ckI (x7_7 + 4) 336 <|
  lt_ (upd st_16 (x7_7 + 4).toNatClampNeg p4) fun st_18 =>
  ckI 11 336 <|
  ckI (x7_7 + 5) 336 <|
  lt_ (upd st_18 (x7_7 + 5).toNatClampNeg (st_18 (11 : Int32).toNatClampNeg)) fun st_21 =>
  ckI (x7_7 + 6) 336 <|
  lt_ (upd st_21 (x7_7 + 6).toNatClampNeg 0) fun st_23 =>
  ckI 10 336 <|
  ckI 10 336 <|
  lt_ (upd st_23 (10 : Int32).toNatClampNeg ((st_23 (10 : Int32).toNatClampNeg) + 1)) fun st_26 =>
  bd1 (fX8_enters_L181 p2 p3 2147483648 st_26 0) fun st_41 =>
    ckI 10 336 <|
    some ((st_41 (10 : Int32).toNatClampNeg), st_41)
def fX8_isEntry (st : Nat → Int32) (p1 : Int32) : Option (Int32) :=
  ckI 10 336 <|
  bd1 (fX8_within p1 1 (st (10 : Int32).toNatClampNeg)) fun r_2 =>
  if r_2 = 0 then
    some 0
  else
    ckI 10 336 <|
    if p1 ≤ ((st (10 : Int32).toNatClampNeg) - 24) then
      some 0
    else
      some 1
def fX8_entryPart (st : Nat → Int32) (p1 : Int32) (p2 : Int32) : Option (Int32) :=
  ckI ((168 + (7 * ((p1 - 1) - (p1 - 1) / 24 * 24))) + p2) 336 <|
  some (st ((168 + (7 * ((p1 - 1) - (p1 - 1) / 24 * 24))) + p2).toNatClampNeg)
def fX8_setRates (st : Nat → Int32) (gr : Nat → Int64) (hi : Nat → Int32) (gh : Nat → Int64) (rc : Int32) (p1 : Int32) (p2 : Int32) (p3 : Int32) : Option (Int32 × (Nat → Int32) × (Nat → Int32) × (Nat → Int64) × Int32) :=
  bd1 (fX8_within p1 0 1000000000) fun r_1 =>
  if r_1 = 0 then
    some ((-2), st, hi, gh, rc)
  else
    bd1 (fX8_within p2 0 2000) fun r_4 =>
    if r_4 = 0 then
      some ((-2), st, hi, gh, rc)
    else
      bd1 (fX8_within p3 0 2000) fun r_7 =>
      if r_7 = 0 then
        some ((-2), st, hi, gh, rc)
      else
        bd3 (fX8_record st gr hi gh rc) fun hi_10 gh_11 rc_12 =>
        ckI 1 336 <|
        lt_ (st (1 : Int32).toNatClampNeg) fun x4_15 =>
        ckI 1 336 <|
        lt_ (upd st (1 : Int32).toNatClampNeg p1) fun st_17 =>
        ckI 2 336 <|
        lt_ (upd st_17 (2 : Int32).toNatClampNeg p2) fun st_19 =>
        ckI 3 336 <|
        lt_ (upd st_19 (3 : Int32).toNatClampNeg p3) fun st_21 =>
        some (x4_15, st_21, hi_10, gh_11, rc_12)
def fX8_setThreshold (st : Nat → Int32) (gr : Nat → Int64) (hi : Nat → Int32) (gh : Nat → Int64) (rc : Int32) (p1 : Int32) : Option (Int32 × (Nat → Int32) × (Nat → Int32) × (Nat → Int64) × Int32) :=
  bd1 (fX8_within p1 0 10000) fun r_1 =>
  if r_1 = 0 then
    some ((-2), st, hi, gh, rc)
  else
    bd3 (fX8_record st gr hi gh rc) fun hi_4 gh_5 rc_6 =>
    ckI 4 336 <|
    lt_ (st (4 : Int32).toNatClampNeg) fun x2_9 =>
    ckI 4 336 <|
    lt_ (upd st (4 : Int32).toNatClampNeg p1) fun st_11 =>
    some (x2_9, st_11, hi_4, gh_5, rc_6)
def fX8_open_L69 (u1 : Int32) (u2 : Int32) : Nat → (Nat → Int32) → Int32 → Option ((Nat → Int32))
  | 0, _, _ => none
  | n + 1, st, z3 =>
    if 3 ≤ z3 then
      some st
    else
      bd1 (fX8_part st (u2 - 1) z3) fun r_20 =>
      bd1 (fX8_setPart st u2 z3 r_20) fun st_22 =>
      fX8_open_L69 u1 u2 n st_22 (z3 + 1)
def fX8_open_L51 (u1 : Int32) : Nat → (Nat → Int32) → (Nat → Int64) → Int32 → Option ((Nat → Int32) × (Nat → Int64) × Int32)
  | 0, _, _, _ => none
  | n + 1, st, gr, z2 =>
    if z2 ≤ 0 then
      some (st, gr, z2)
    else
      bd1 (fX8_part st (z2 - 1) 0) fun r_16 =>
      if r_16 ≤ u1 then
        some (st, gr, z2)
      else
        bd1 (fX8_open_L69 u1 z2 2147483648 st 0) fun st_24 =>
          ckI (z2 - 1) 16 <|
          ckI z2 16 <|
          lt_ (vp_updL gr z2.toNatClampNeg (gr (z2 - 1).toNatClampNeg)) fun gr_27 =>
          fX8_open_L51 u1 n st_24 gr_27 (z2 + (-1))
def fX8_open (st : Nat → Int32) (gr : Nat → Int64) (hi : Nat → Int32) (gh : Nat → Int64) (rc : Int32) (p1 : Int32) : Option (Int32 × (Nat → Int32) × (Nat → Int64) × (Nat → Int32) × (Nat → Int64) × Int32) :=
  bd1 (fX8_within p1 1 99) fun r_1 =>
  if r_1 = 0 then
    some ((-2), st, gr, hi, gh, rc)
  else
    bd1 (fX8_find st p1) fun r_4 =>
    if r_4 = (-6) then
      ckI 5 336 <|
      if (st (5 : Int32).toNatClampNeg) = 12 then
        some ((-4), st, gr, hi, gh, rc)
      else
        bd3 (fX8_record st gr hi gh rc) fun hi_9 gh_10 rc_11 =>
        ckI 5 336 <|
        lt_ (st (5 : Int32).toNatClampNeg) fun x2_14 =>
        bd3 (fX8_open_L51 p1 2147483648 st gr x2_14) fun st_28 gr_29 x2_30 =>
          bd1 (fX8_setPart st_28 x2_30 0 p1) fun st_31 =>
          bd1 (fX8_setPart st_31 x2_30 1 0) fun st_33 =>
          ckI 0 336 <|
          bd1 (fX8_setPart st_33 x2_30 2 (st_33 (0 : Int32).toNatClampNeg)) fun st_36 =>
          ckI x2_30 16 <|
          lt_ (vp_updL gr_29 x2_30.toNatClampNeg 0) fun gr_39 =>
          ckI 5 336 <|
          ckI 5 336 <|
          lt_ (upd st_36 (5 : Int32).toNatClampNeg ((st_36 (5 : Int32).toNatClampNeg) + 1)) fun st_42 =>
          ckI 5 336 <|
          some ((st_42 (5 : Int32).toNatClampNeg), st_42, gr_39, hi_9, gh_10, rc_11)
    else
      some ((-3), st, gr, hi, gh, rc)
def fX8_billsOf_L4 (st : Nat → Int32) (u1 : Int32) : Nat → Int32 → Int32 → Option (Int32)
  | 0, _, _ => none
  | n + 1, z2, z3 =>
    ckI 7 336 <|
    if (st (7 : Int32).toNatClampNeg) ≤ z3 then
      some z2
    else
      bd1 (fX8_billPart st z3 1) fun r_3 =>
      if r_3 = u1 then
        lt_ (z2 + 1) fun x2_7 =>
        fX8_billsOf_L4 st u1 n x2_7 (z3 + 1)
      else
        lt_ (z2 + 0) fun x2_6 =>
        fX8_billsOf_L4 st u1 n x2_6 (z3 + 1)
def fX8_billsOf (st : Nat → Int32) (p1 : Int32) : Option (Int32) :=
  bd1 (fX8_billsOf_L4 st p1 2147483648 0 0) fun x2_8 =>
    some x2_8
def fX8_close_L63 (u3 : Int32) : Nat → (Nat → Int32) → Int32 → Option ((Nat → Int32))
  | 0, _, _ => none
  | n + 1, st, z4 =>
    if 3 ≤ z4 then
      some st
    else
      bd1 (fX8_part st (u3 + 1) z4) fun r_20 =>
      bd1 (fX8_setPart st u3 z4 r_20) fun st_22 =>
      fX8_close_L63 u3 n st_22 (z4 + 1)
def fX8_close_L50  : Nat → (Nat → Int32) → (Nat → Int64) → Int32 → Option ((Nat → Int32) × (Nat → Int64))
  | 0, _, _, _ => none
  | n + 1, st, gr, z3 =>
    ckI 5 336 <|
    if (st (5 : Int32).toNatClampNeg) ≤ z3 then
      some (st, gr)
    else
      bd1 (fX8_close_L63 z3 2147483648 st 0) fun st_24 =>
        ckI (z3 + 1) 16 <|
        ckI z3 16 <|
        lt_ (vp_updL gr z3.toNatClampNeg (gr (z3 + 1).toNatClampNeg)) fun gr_27 =>
        fX8_close_L50  n st_24 gr_27 (z3 + 1)
def fX8_close_L113  : Nat → (Nat → Int32) → Int32 → Option ((Nat → Int32))
  | 0, _, _ => none
  | n + 1, st, z3 =>
    if 3 ≤ z3 then
      some st
    else
      ckI 5 336 <|
      bd1 (fX8_setPart st (st (5 : Int32).toNatClampNeg) z3 0) fun st_32 =>
      fX8_close_L113  n st_32 (z3 + 1)
def fX8_close (st : Nat → Int32) (gr : Nat → Int64) (hi : Nat → Int32) (gh : Nat → Int64) (rc : Int32) (p1 : Int32) : Option (Int32 × (Nat → Int32) × (Nat → Int64) × (Nat → Int32) × (Nat → Int64) × Int32) :=
  bd1 (fX8_find st p1) fun r_1 =>
  if r_1 = (-6) then
    some ((-1), st, gr, hi, gh, rc)
  else
    bd1 (fX8_part st r_1 1) fun r_4 =>
    if r_4 = 0 then
      bd1 (fX8_billsOf st p1) fun r_7 =>
      if r_7 ≤ 0 then
        bd3 (fX8_record st gr hi gh rc) fun hi_10 gh_11 rc_12 =>
        ckI 5 336 <|
        ckI 5 336 <|
        lt_ (upd st (5 : Int32).toNatClampNeg ((st (5 : Int32).toNatClampNeg) - 1)) fun st_16 =>
        bd2 (fX8_close_L50  2147483648 st_16 gr r_1) fun st_28 gr_29 =>
          bd1 (fX8_close_L113  2147483648 st_28 0) fun st_34 =>
            ckI 5 336 <|
            ckI (st_34 (5 : Int32).toNatClampNeg) 16 <|
            lt_ (vp_updL gr_29 (st_34 (5 : Int32).toNatClampNeg).toNatClampNeg 0) fun gr_37 =>
            ckI 5 336 <|
            some ((st_34 (5 : Int32).toNatClampNeg), st_34, gr_37, hi_10, gh_11, rc_12)
      else
        some ((-3), st, gr, hi, gh, rc)
    else
      some ((-3), st, gr, hi, gh, rc)
def fX8_isAmount (p1 : Int32) : Option (Int32) :=
  bd1 (fX8_within p1 1 100000000) fun r_1 =>
  ckP (narrow .boolean (.int r_1) = .int r_1) <|
  some r_1
def fX8_hasRoom (st : Nat → Int32) (p1 : Int32) (p2 : Int32) : Option (Int32) :=
  bd1 (fX8_part st p1 1) fun r_1 =>
  if (1000000000 - p2) < r_1 then
    some 0
  else
    some 1
def fX8_adds (st : Nat → Int32) (p1 : Int32) (p2 : Int32) : Option (Int32 × (Nat → Int32)) :=
  bd1 (fX8_part st p1 1) fun r_1 =>
  bd1 (fX8_setPart st p1 1 (r_1 + p2)) fun st_3 =>
  bd1 (fX8_part st_3 p1 1) fun r_5 =>
  some (r_5, st_3)
def fX8_whyNotReceived (st : Nat → Int32) (p1 : Int32) (p2 : Int32) : Option (Int32) :=
  bd1 (fX8_find st p1) fun r_1 =>
  if r_1 = (-6) then
    some (-1)
  else
    bd1 (fX8_isAmount p2) fun r_4 =>
    if r_4 = 0 then
      some (-2)
    else
      bd1 (fX8_hasRoom st r_1 p2) fun r_7 =>
      if r_7 = 0 then
        some (-4)
      else
        some 0
def fX8_receives (st : Nat → Int32) (gr : Nat → Int64) (p1 : Int32) (p2 : Int32) : Option (Int32 × (Nat → Int32) × (Nat → Int64)) :=
  ckI 14 16 <|
  ckI 14 16 <|
  lt_ (vp_updL gr (14 : Int32).toNatClampNeg ((gr (14 : Int32).toNatClampNeg) + p2.toInt64)) fun gr_3 =>
  bd1 (fX8_find st p1) fun r_4 =>
  bd2 (fX8_adds st r_4 p2) fun r_6 st_7 =>
  bd2 (fX8_enters st_7 1 p1 0 p2) fun r_9 st_10 =>
  some (r_6, st_10, gr_3)
def fX8_receive (st : Nat → Int32) (gr : Nat → Int64) (hi : Nat → Int32) (gh : Nat → Int64) (rc : Int32) (p1 : Int32) (p2 : Int32) : Option (Int32 × (Nat → Int32) × (Nat → Int64) × (Nat → Int32) × (Nat → Int64) × Int32) :=
  bd1 (fX8_whyNotReceived st p1 p2) fun r_1 =>
  if 0 ≤ r_1 then
    bd3 (fX8_record st gr hi gh rc) fun hi_4 gh_5 rc_6 =>
    bd3 (fX8_receives st gr p1 p2) fun r_8 st_9 gr_10 =>
    some (r_8, st_9, gr_10, hi_4, gh_5, rc_6)
  else
    some (r_1, st, gr, hi, gh, rc)
def fX8_whyNotPaid (st : Nat → Int32) (p1 : Int32) (p2 : Int32) : Option (Int32) :=
  bd1 (fX8_find st p1) fun r_1 =>
  if r_1 = (-6) then
    some (-1)
  else
    bd1 (fX8_isAmount p2) fun r_4 =>
    if r_4 = 0 then
      some (-2)
    else
      bd1 (fX8_free st r_1) fun r_7 =>
      if p2 ≤ r_7 then
        some 0
      else
        some (-3)
def fX8_pays (st : Nat → Int32) (gr : Nat → Int64) (p1 : Int32) (p2 : Int32) : Option (Int32 × (Nat → Int32) × (Nat → Int64)) :=
  ckI 15 16 <|
  ckI 15 16 <|
  lt_ (vp_updL gr (15 : Int32).toNatClampNeg ((gr (15 : Int32).toNatClampNeg) + p2.toInt64)) fun gr_3 =>
  bd1 (fX8_find st p1) fun r_4 =>
  bd2 (fX8_adds st r_4 (-p2)) fun r_6 st_7 =>
  bd2 (fX8_enters st_7 2 p1 0 p2) fun r_9 st_10 =>
  some (r_6, st_10, gr_3)
def fX8_pay (st : Nat → Int32) (gr : Nat → Int64) (hi : Nat → Int32) (gh : Nat → Int64) (rc : Int32) (p1 : Int32) (p2 : Int32) : Option (Int32 × (Nat → Int32) × (Nat → Int64) × (Nat → Int32) × (Nat → Int64) × Int32) :=
  bd1 (fX8_whyNotPaid st p1 p2) fun r_1 =>
  if 0 ≤ r_1 then
    bd3 (fX8_record st gr hi gh rc) fun hi_4 gh_5 rc_6 =>
    bd3 (fX8_pays st gr p1 p2) fun r_8 st_9 gr_10 =>
    some (r_8, st_9, gr_10, hi_4, gh_5, rc_6)
  else
    some (r_1, st, gr, hi, gh, rc)
def fX8_whyNotMoved (st : Nat → Int32) (p1 : Int32) (p2 : Int32) (p3 : Int32) : Option (Int32) :=
  bd1 (fX8_find st p1) fun r_1 =>
  bd1 (fX8_find st p2) fun r_3 =>
  if r_1 = (-6) then
    some (-1)
  else
    if r_3 = (-6) then
      some (-1)
    else
      if p1 = p2 then
        some (-2)
      else
        bd1 (fX8_isAmount p3) fun r_8 =>
        if r_8 = 0 then
          some (-2)
        else
          bd1 (fX8_free st r_1) fun r_11 =>
          if p3 ≤ r_11 then
            bd1 (fX8_hasRoom st r_3 p3) fun r_14 =>
            if r_14 = 0 then
              some (-4)
            else
              some 0
          else
            some (-3)
def fX8_transfers (st : Nat → Int32) (p1 : Int32) (p2 : Int32) (p3 : Int32) : Option (Int32 × (Nat → Int32)) :=
  bd1 (fX8_find st p1) fun r_1 =>
  bd2 (fX8_adds st r_1 (-p3)) fun r_3 st_4 =>
  bd1 (fX8_find st_4 p2) fun r_6 =>
  bd2 (fX8_adds st_4 r_6 p3) fun r_8 st_9 =>
  bd2 (fX8_enters st_9 3 p1 p2 p3) fun r_11 st_12 =>
  some (r_3, st_12)
def fX8_transfer (st : Nat → Int32) (gr : Nat → Int64) (hi : Nat → Int32) (gh : Nat → Int64) (rc : Int32) (p1 : Int32) (p2 : Int32) (p3 : Int32) : Option (Int32 × (Nat → Int32) × (Nat → Int32) × (Nat → Int64) × Int32) :=
  bd1 (fX8_whyNotMoved st p1 p2 p3) fun r_1 =>
  if 0 ≤ r_1 then
    bd3 (fX8_record st gr hi gh rc) fun hi_4 gh_5 rc_6 =>
    bd2 (fX8_transfers st p1 p2 p3) fun r_8 st_9 =>
    some (r_8, st_9, hi_4, gh_5, rc_6)
  else
    some (r_1, st, hi, gh, rc)
def fX8_hold (st : Nat → Int32) (gr : Nat → Int64) (hi : Nat → Int32) (gh : Nat → Int64) (rc : Int32) (p1 : Int32) (p2 : Int32) (p3 : Int32) : Option (Int32 × (Nat → Int32) × (Nat → Int32) × (Nat → Int64) × Int32) :=
  bd1 (fX8_find st p1) fun r_1 =>
  if r_1 = (-6) then
    some ((-1), st, hi, gh, rc)
  else
    bd1 (fX8_isAmount p2) fun r_4 =>
    if r_4 = 0 then
      some ((-2), st, hi, gh, rc)
    else
      bd1 (fX8_within p3 1 999) fun r_7 =>
      if r_7 = 0 then
        some ((-2), st, hi, gh, rc)
      else
        bd1 (fX8_free st r_1) fun r_10 =>
        if p2 ≤ r_10 then
          ckI 6 336 <|
          if (st (6 : Int32).toNatClampNeg) = 15 then
            some ((-4), st, hi, gh, rc)
          else
            bd3 (fX8_record st gr hi gh rc) fun hi_15 gh_16 rc_17 =>
            ckI 6 336 <|
            lt_ (48 + (4 * (st (6 : Int32).toNatClampNeg))) fun x5_20 =>
            ckI 6 336 <|
            ckI 6 336 <|
            lt_ (upd st (6 : Int32).toNatClampNeg ((st (6 : Int32).toNatClampNeg) + 1)) fun st_23 =>
            ckI 8 336 <|
            ckI 8 336 <|
            lt_ (upd st_23 (8 : Int32).toNatClampNeg ((st_23 (8 : Int32).toNatClampNeg) + 1)) fun st_26 =>
            ckI 8 336 <|
            ckI (x5_20 + 0) 336 <|
            lt_ (upd st_26 (x5_20 + 0).toNatClampNeg (st_26 (8 : Int32).toNatClampNeg)) fun st_29 =>
            ckI (x5_20 + 1) 336 <|
            lt_ (upd st_29 (x5_20 + 1).toNatClampNeg p1) fun st_31 =>
            ckI (x5_20 + 2) 336 <|
            lt_ (upd st_31 (x5_20 + 2).toNatClampNeg p2) fun st_33 =>
            ckI 0 336 <|
            ckI (x5_20 + 3) 336 <|
            lt_ (upd st_33 (x5_20 + 3).toNatClampNeg ((st_33 (0 : Int32).toNatClampNeg) + p3)) fun st_36 =>
            ckI 8 336 <|
            some ((st_36 (8 : Int32).toNatClampNeg), st_36, hi_15, gh_16, rc_17)
        else
          some ((-3), st, hi, gh, rc)
def fX8_endsHold (st : Nat → Int32) (p1 : Int32) : Option ((Nat → Int32)) :=
  ckI 6 336 <|
  bd1 (fX8_takesOut st 48 p1 (st (6 : Int32).toNatClampNeg)) fun st_2 =>
  ckI 6 336 <|
  ckI 6 336 <|
  lt_ (upd st_2 (6 : Int32).toNatClampNeg ((st_2 (6 : Int32).toNatClampNeg) - 1)) fun st_6 =>
  some st_6
def fX8_release (st : Nat → Int32) (gr : Nat → Int64) (hi : Nat → Int32) (gh : Nat → Int64) (rc : Int32) (p1 : Int32) : Option (Int32 × (Nat → Int32) × (Nat → Int32) × (Nat → Int64) × Int32) :=
  bd1 (fX8_findHold st p1) fun r_1 =>
  if r_1 = (-6) then
    some ((-1), st, hi, gh, rc)
  else
    bd3 (fX8_record st gr hi gh rc) fun hi_4 gh_5 rc_6 =>
    bd1 (fX8_holdPart st r_1 1) fun r_8 =>
    bd1 (fX8_endsHold st r_1) fun st_10 =>
    bd1 (fX8_find st_10 r_8) fun r_12 =>
    bd1 (fX8_free st_10 r_12) fun r_14 =>
    some (r_14, st_10, hi_4, gh_5, rc_6)
def fX8_whyNotBilled (st : Nat → Int32) (p1 : Int32) (p2 : Int32) : Option (Int32) :=
  bd1 (fX8_find st p1) fun r_1 =>
  if r_1 = (-6) then
    some (-1)
  else
    bd1 (fX8_isAmount p2) fun r_4 =>
    if r_4 = 0 then
      some (-2)
    else
      ckI 7 336 <|
      if (st (7 : Int32).toNatClampNeg) = 15 then
        some (-4)
      else
        some 0
def fX8_bills (st : Nat → Int32) (p1 : Int32) (p2 : Int32) : Option (Int32 × (Nat → Int32)) :=
  ckI 7 336 <|
  lt_ (108 + (4 * (st (7 : Int32).toNatClampNeg))) fun x3_2 =>
  ckI 7 336 <|
  ckI 7 336 <|
  lt_ (upd st (7 : Int32).toNatClampNeg ((st (7 : Int32).toNatClampNeg) + 1)) fun st_5 =>
  ckI 9 336 <|
  ckI 9 336 <|
  lt_ (upd st_5 (9 : Int32).toNatClampNeg ((st_5 (9 : Int32).toNatClampNeg) + 1)) fun st_8 =>
  ckI 9 336 <|
  ckI (x3_2 + 0) 336 <|
  lt_ (upd st_8 (x3_2 + 0).toNatClampNeg (st_8 (9 : Int32).toNatClampNeg)) fun st_11 =>
  ckI (x3_2 + 1) 336 <|
  lt_ (upd st_11 (x3_2 + 1).toNatClampNeg p1) fun st_13 =>
  ckI (x3_2 + 2) 336 <|
  lt_ (upd st_13 (x3_2 + 2).toNatClampNeg p2) fun st_15 =>
  ckI (x3_2 + 3) 336 <|
  lt_ (upd st_15 (x3_2 + 3).toNatClampNeg 0) fun st_17 =>
  ckI 9 336 <|
  some ((st_17 (9 : Int32).toNatClampNeg), st_17)
def fX8_bill (st : Nat → Int32) (gr : Nat → Int64) (hi : Nat → Int32) (gh : Nat → Int64) (rc : Int32) (p1 : Int32) (p2 : Int32) : Option (Int32 × (Nat → Int32) × (Nat → Int32) × (Nat → Int64) × Int32) :=
  bd1 (fX8_whyNotBilled st p1 p2) fun r_1 =>
  if 0 ≤ r_1 then
    bd3 (fX8_record st gr hi gh rc) fun hi_4 gh_5 rc_6 =>
    bd2 (fX8_bills st p1 p2) fun r_8 st_9 =>
    some (r_8, st_9, hi_4, gh_5, rc_6)
  else
    some (r_1, st, hi, gh, rc)
def fX8_whyNotSettled (st : Nat → Int32) (p1 : Int32) : Option (Int32) :=
  bd1 (fX8_findBill st p1) fun r_1 =>
  if r_1 = (-6) then
    some (-1)
  else
    bd1 (fX8_billPart st r_1 1) fun r_4 =>
    bd1 (fX8_find st r_4) fun r_6 =>
    bd1 (fX8_free st r_6) fun r_8 =>
    if r_8 = 0 then
      some (-3)
    else
      some 0
def fX8_settles (st : Nat → Int32) (gr : Nat → Int64) (p1 : Int32) : Option (Int32 × (Nat → Int32) × (Nat → Int64)) :=
  bd1 (fX8_findBill st p1) fun r_1 =>
  bd1 (fX8_billPart st r_1 1) fun r_3 =>
  bd1 (fX8_find st r_3) fun r_5 =>
  bd1 (fX8_billPart st r_1 2) fun r_7 =>
  bd1 (fX8_free st r_5) fun r_9 =>
  if r_9 ≤ r_7 then
    bd1 (fX8_free st r_5) fun r_12 =>
    bd2 (fX8_adds st r_5 (-r_12)) fun r_14 st_15 =>
    ckI 12 16 <|
    ckI 12 16 <|
    lt_ (vp_updL gr (12 : Int32).toNatClampNeg ((gr (12 : Int32).toNatClampNeg) + r_12.toInt64)) fun gr_19 =>
    ckI ((108 + (4 * r_1)) + 2) 336 <|
    ckI ((108 + (4 * r_1)) + 2) 336 <|
    lt_ (upd st_15 ((108 + (4 * r_1)) + 2).toNatClampNeg ((st_15 ((108 + (4 * r_1)) + 2).toNatClampNeg) - r_12)) fun st_22 =>
    ckI ((108 + (4 * r_1)) + 3) 336 <|
    ckI ((108 + (4 * r_1)) + 3) 336 <|
    lt_ (upd st_22 ((108 + (4 * r_1)) + 3).toNatClampNeg ((st_22 ((108 + (4 * r_1)) + 3).toNatClampNeg) + r_12)) fun st_25 =>
    bd1 (fX8_part st_25 r_5 0) fun r_26 =>
    bd2 (fX8_enters st_25 4 r_26 0 r_12) fun r_28 st_29 =>
    bd1 (fX8_billPart st_29 r_1 2) fun r_31 =>
    if r_31 = 0 then
      ckI 7 336 <|
      bd1 (fX8_takesOut st_29 108 r_1 (st_29 (7 : Int32).toNatClampNeg)) fun st_35 =>
      ckI 7 336 <|
      ckI 7 336 <|
      lt_ (upd st_35 (7 : Int32).toNatClampNeg ((st_35 (7 : Int32).toNatClampNeg) - 1)) fun st_39 =>
      some (r_12, st_39, gr_19)
    else
      some (r_12, st_29, gr_19)
  else
    bd1 (fX8_billPart st r_1 2) fun r_40 =>
    bd2 (fX8_adds st r_5 (-r_40)) fun r_42 st_43 =>
    ckI 12 16 <|
    ckI 12 16 <|
    lt_ (vp_updL gr (12 : Int32).toNatClampNeg ((gr (12 : Int32).toNatClampNeg) + r_40.toInt64)) fun gr_47 =>
    ckI ((108 + (4 * r_1)) + 2) 336 <|
    ckI ((108 + (4 * r_1)) + 2) 336 <|
    lt_ (upd st_43 ((108 + (4 * r_1)) + 2).toNatClampNeg ((st_43 ((108 + (4 * r_1)) + 2).toNatClampNeg) - r_40)) fun st_50 =>
    ckI ((108 + (4 * r_1)) + 3) 336 <|
    ckI ((108 + (4 * r_1)) + 3) 336 <|
    lt_ (upd st_50 ((108 + (4 * r_1)) + 3).toNatClampNeg ((st_50 ((108 + (4 * r_1)) + 3).toNatClampNeg) + r_40)) fun st_53 =>
    bd1 (fX8_part st_53 r_5 0) fun r_54 =>
    bd2 (fX8_enters st_53 4 r_54 0 r_40) fun r_56 st_57 =>
    bd1 (fX8_billPart st_57 r_1 2) fun r_59 =>
    if r_59 = 0 then
      ckI 7 336 <|
      bd1 (fX8_takesOut st_57 108 r_1 (st_57 (7 : Int32).toNatClampNeg)) fun st_63 =>
      ckI 7 336 <|
      ckI 7 336 <|
      lt_ (upd st_63 (7 : Int32).toNatClampNeg ((st_63 (7 : Int32).toNatClampNeg) - 1)) fun st_67 =>
      some (r_40, st_67, gr_47)
    else
      some (r_40, st_57, gr_47)
def fX8_settle (st : Nat → Int32) (gr : Nat → Int64) (hi : Nat → Int32) (gh : Nat → Int64) (rc : Int32) (p1 : Int32) : Option (Int32 × (Nat → Int32) × (Nat → Int64) × (Nat → Int32) × (Nat → Int64) × Int32) :=
  bd1 (fX8_whyNotSettled st p1) fun r_1 =>
  if 0 ≤ r_1 then
    bd3 (fX8_record st gr hi gh rc) fun hi_4 gh_5 rc_6 =>
    bd3 (fX8_settles st gr p1) fun r_8 st_9 gr_10 =>
    some (r_8, st_9, gr_10, hi_4, gh_5, rc_6)
  else
    some (r_1, st, gr, hi, gh, rc)
def fX8_dayEnds (st : Nat → Int32) (tb : Int32) (tk : Int64) (p1 : Int32) : Option (Int32 × Int32 × Int64) :=
  ckI 1 336 <|
  if (st (1 : Int32).toNatClampNeg) ≤ tb then
    ckI 1 336 <|
    lt_ ((st (1 : Int32).toNatClampNeg).toInt64) fun x2_4 =>
    ckI 2 336 <|
    ckI 3 336 <|
    lt_ (tk + (((st (2 : Int32).toNatClampNeg).toInt64 * x2_4) + ((st (3 : Int32).toNatClampNeg).toInt64 * (tb.toInt64 - x2_4)))) fun tk_7 =>
    if (p1 - p1 / 30 * 30) = 0 then
      lt_ ((1000000000 - tb).toInt64) fun x4_9 =>
      if x4_9 ≤ (tk_7 / 3650000) then
        if x4_9 = 0 then
          some (0, tb, tk_7)
        else
          ckI 4 336 <|
          if (st (4 : Int32).toNatClampNeg).toInt64 ≤ x4_9 then
            lt_ (tb + x4_9.toInt32) fun tb_14 =>
            lt_ (tk_7 - (3650000 * x4_9)) fun tk_15 =>
            some (x4_9.toInt32, tb_14, tk_15)
          else
            some (0, tb, tk_7)
      else
        lt_ (tk_7 / 3650000) fun x6_16 =>
        if x6_16 = 0 then
          some (0, tb, tk_7)
        else
          ckI 4 336 <|
          if (st (4 : Int32).toNatClampNeg).toInt64 ≤ x6_16 then
            lt_ (tb + x6_16.toInt32) fun tb_20 =>
            lt_ (tk_7 - (3650000 * x6_16)) fun tk_21 =>
            some (x6_16.toInt32, tb_20, tk_21)
          else
            some (0, tb, tk_7)
    else
      some (0, tb, tk_7)
  else
    ckI 2 336 <|
    ckI 3 336 <|
    lt_ (tk + (((st (2 : Int32).toNatClampNeg).toInt64 * tb.toInt64) + ((st (3 : Int32).toNatClampNeg).toInt64 * (tb.toInt64 - tb.toInt64)))) fun tk_24 =>
    if (p1 - p1 / 30 * 30) = 0 then
      lt_ ((1000000000 - tb).toInt64) fun x4_26 =>
      if x4_26 ≤ (tk_24 / 3650000) then
        if x4_26 = 0 then
          some (0, tb, tk_24)
        else
          ckI 4 336 <|
          if (st (4 : Int32).toNatClampNeg).toInt64 ≤ x4_26 then
            lt_ (tb + x4_26.toInt32) fun tb_31 =>
            lt_ (tk_24 - (3650000 * x4_26)) fun tk_32 =>
            some (x4_26.toInt32, tb_31, tk_32)
          else
            some (0, tb, tk_24)
      else
        lt_ (tk_24 / 3650000) fun x6_33 =>
        if x6_33 = 0 then
          some (0, tb, tk_24)
        else
          ckI 4 336 <|
          if (st (4 : Int32).toNatClampNeg).toInt64 ≤ x6_33 then
            lt_ (tb + x6_33.toInt32) fun tb_37 =>
            lt_ (tk_24 - (3650000 * x6_33)) fun tk_38 =>
            some (x6_33.toInt32, tb_37, tk_38)
          else
            some (0, tb, tk_24)
    else
      some (0, tb, tk_24)
def fX8_thinks (st : Nat → Int32) (gr : Nat → Int64) (tb : Int32) (tk : Int64) (p1 : Int32) : Option (Int32 × Int64) :=
  bd1 (fX8_part st p1 1) fun r_1 =>
  ckI p1 16 <|
  lt_ (gr p1.toNatClampNeg) fun tk_4 =>
  some (r_1, tk_4)
def fX8_passesDay_L14  : Nat → (Nat → Int32) → (Nat → Int64) → Int32 → Int64 → Int64 → Int32 → Option ((Nat → Int32) × (Nat → Int64) × Int32 × Int64 × Int64)
  | 0, _, _, _, _, _, _ => none
  | n + 1, st, gr, tb, tk, z1, z3 =>
    ckI 5 336 <|
    if (st (5 : Int32).toNatClampNeg) ≤ z3 then
      some (st, gr, tb, tk, z1)
    else
      bd2 (fX8_thinks st gr tb tk z3) fun tb_6 tk_7 =>
      ckI 0 336 <|
      bd3 (fX8_dayEnds st tb_6 tk_7 (st (0 : Int32).toNatClampNeg)) fun r_10 tb_11 tk_12 =>
      bd1 (fX8_setPart st z3 1 tb_11) fun st_14 =>
      ckI z3 16 <|
      lt_ (vp_updL gr z3.toNatClampNeg tk_12) fun gr_17 =>
      if r_10 ≤ 0 then
        fX8_passesDay_L14  n st_14 gr_17 tb_11 tk_12 z1 (z3 + 1)
      else
        bd1 (fX8_part st_14 z3 0) fun r_19 =>
        bd2 (fX8_enters st_14 5 r_19 0 r_10) fun r_21 st_22 =>
        lt_ (z1 + r_10.toInt64) fun x1_24 =>
        fX8_passesDay_L14  n st_22 gr_17 tb_11 tk_12 x1_24 (z3 + 1)
def fX8_passesDay_L114 (u1 : Int64) : Nat → (Nat → Int32) → Int32 → Option ((Nat → Int32))
  | 0, _, _ => none
  | n + 1, st, z3 =>
    if z3 < 0 then
      some st
    else
      ckI 0 336 <|
      bd1 (fX8_holdPart st z3 3) fun r_37 =>
      if (st (0 : Int32).toNatClampNeg) ≤ r_37 then
        fX8_passesDay_L114 u1 n st (z3 + (-1))
      else
        bd1 (fX8_endsHold st z3) fun st_40 =>
        fX8_passesDay_L114 u1 n st_40 (z3 + (-1))
def fX8_passesDay (st : Nat → Int32) (gr : Nat → Int64) (tb : Int32) (tk : Int64) : Option (Int64 × (Nat → Int32) × (Nat → Int64) × Int32 × Int64) :=
  ckI 0 336 <|
  ckI 0 336 <|
  lt_ (upd st (0 : Int32).toNatClampNeg ((st (0 : Int32).toNatClampNeg) + 1)) fun st_3 =>
  bd5 (fX8_passesDay_L14  2147483648 st_3 gr tb tk 0 0) fun st_25 gr_26 tb_27 tk_28 x1_29 =>
    ckI 13 16 <|
    ckI 13 16 <|
    lt_ (vp_updL gr_26 (13 : Int32).toNatClampNeg ((gr_26 (13 : Int32).toNatClampNeg) + x1_29)) fun gr_32 =>
    ckI 6 336 <|
    lt_ ((st_25 (6 : Int32).toNatClampNeg) - 1) fun x3_34 =>
    bd1 (fX8_passesDay_L114 x1_29 2147483648 st_25 x3_34) fun st_42 =>
      some (x1_29, st_42, gr_32, tb_27, tk_28)
def fX8_whyNotPassed (st : Nat → Int32) (p1 : Int32) : Option (Int32) :=
  bd1 (fX8_within p1 1 400) fun r_1 =>
  if r_1 = 0 then
    some (-2)
  else
    ckI 0 336 <|
    if ((st (0 : Int32).toNatClampNeg) + p1) ≤ 9999 then
      some 0
    else
      some (-4)
def fX8_passes_L5 (u1 : Int32) : Nat → (Nat → Int32) → (Nat → Int64) → Int32 → Int64 → Int64 → Int32 → Option ((Nat → Int32) × (Nat → Int64) × Int32 × Int64 × Int64)
  | 0, _, _, _, _, _, _ => none
  | n + 1, st, gr, tb, tk, z2, z4 =>
    if u1 ≤ z4 then
      some (st, gr, tb, tk, z2)
    else
      bd5 (fX8_passesDay st gr tb tk) fun r_2 st_3 gr_4 tb_5 tk_6 =>
      lt_ (z2 + r_2) fun x2_8 =>
      fX8_passes_L5 u1 n st_3 gr_4 tb_5 tk_6 x2_8 (z4 + 1)
def fX8_passes (st : Nat → Int32) (gr : Nat → Int64) (tb : Int32) (tk : Int64) (p1 : Int32) : Option (Int64 × (Nat → Int32) × (Nat → Int64) × Int32 × Int64) :=
  bd5 (fX8_passes_L5 p1 2147483648 st gr tb tk 0 0) fun st_9 gr_10 tb_11 tk_12 x2_13 =>
    some (x2_13, st_9, gr_10, tb_11, tk_12)
def fX8_pass (st : Nat → Int32) (gr : Nat → Int64) (hi : Nat → Int32) (gh : Nat → Int64) (rc : Int32) (tb : Int32) (tk : Int64) (p1 : Int32) : Option (Int64 × (Nat → Int32) × (Nat → Int64) × (Nat → Int32) × (Nat → Int64) × Int32 × Int32 × Int64) :=
  bd1 (fX8_whyNotPassed st p1) fun r_1 =>
  if 0 ≤ r_1 then
    bd3 (fX8_record st gr hi gh rc) fun hi_4 gh_5 rc_6 =>
    bd5 (fX8_passes st gr tb tk p1) fun r_8 st_9 gr_10 tb_11 tk_12 =>
    some (r_8, st_9, gr_10, hi_4, gh_5, rc_6, tb_11, tk_12)
  else
    some (r_1.toInt64, st, gr, hi, gh, rc, tb, tk)
def fX8_giver (st : Nat → Int32) (p1 : Int32) : Option (Int32) :=
  bd1 (fX8_entryPart st p1 1) fun r_1 =>
  if r_1 = 1 then
    bd1 (fX8_entryPart st p1 2) fun r_7 =>
    some r_7
  else
    if r_1 = 3 then
      bd1 (fX8_entryPart st p1 3) fun r_5 =>
      some r_5
    else
      some 0
def fX8_taker (st : Nat → Int32) (p1 : Int32) : Option (Int32) :=
  bd1 (fX8_entryPart st p1 1) fun r_1 =>
  if r_1 = 1 then
    some 0
  else
    bd1 (fX8_entryPart st p1 2) fun r_4 =>
    some r_4
def fX8_whyNotReversed (st : Nat → Int32) (p1 : Int32) : Option (Int32) :=
  bd1 (fX8_isEntry st p1) fun r_1 =>
  if r_1 = 0 then
    some (-1)
  else
    bd1 (fX8_giver st p1) fun r_4 =>
    bd1 (fX8_taker st p1) fun r_6 =>
    bd1 (fX8_entryPart st p1 1) fun r_8 =>
    if 3 < r_8 then
      some (-3)
    else
      bd1 (fX8_entryPart st p1 6) fun r_11 =>
      if r_11 = 1 then
        some (-3)
      else
        if r_4 ≤ 0 then
          if r_6 ≤ 0 then
            bd1 (fX8_entryPart st p1 4) fun r_16 =>
            if r_4 ≤ 0 then
              if r_6 = 0 then
                some 0
              else
                bd1 (fX8_find st r_6) fun r_20 =>
                bd1 (fX8_hasRoom st r_20 r_16) fun r_22 =>
                if r_22 = 0 then
                  some (-4)
                else
                  some 0
            else
              bd1 (fX8_find st r_4) fun r_25 =>
              bd1 (fX8_free st r_25) fun r_27 =>
              if r_16 ≤ r_27 then
                if r_6 = 0 then
                  some 0
                else
                  bd1 (fX8_find st r_6) fun r_31 =>
                  bd1 (fX8_hasRoom st r_31 r_16) fun r_33 =>
                  if r_33 = 0 then
                    some (-4)
                  else
                    some 0
              else
                some (-3)
          else
            bd1 (fX8_find st r_6) fun r_36 =>
            if r_36 = (-6) then
              some (-3)
            else
              bd1 (fX8_entryPart st p1 4) fun r_39 =>
              if r_4 ≤ 0 then
                if r_6 = 0 then
                  some 0
                else
                  bd1 (fX8_find st r_6) fun r_43 =>
                  bd1 (fX8_hasRoom st r_43 r_39) fun r_45 =>
                  if r_45 = 0 then
                    some (-4)
                  else
                    some 0
              else
                bd1 (fX8_find st r_4) fun r_48 =>
                bd1 (fX8_free st r_48) fun r_50 =>
                if r_39 ≤ r_50 then
                  if r_6 = 0 then
                    some 0
                  else
                    bd1 (fX8_find st r_6) fun r_54 =>
                    bd1 (fX8_hasRoom st r_54 r_39) fun r_56 =>
                    if r_56 = 0 then
                      some (-4)
                    else
                      some 0
                else
                  some (-3)
        else
          bd1 (fX8_find st r_4) fun r_59 =>
          if r_59 = (-6) then
            some (-3)
          else
            if r_6 ≤ 0 then
              bd1 (fX8_entryPart st p1 4) fun r_63 =>
              if r_4 ≤ 0 then
                if r_6 = 0 then
                  some 0
                else
                  bd1 (fX8_find st r_6) fun r_67 =>
                  bd1 (fX8_hasRoom st r_67 r_63) fun r_69 =>
                  if r_69 = 0 then
                    some (-4)
                  else
                    some 0
              else
                bd1 (fX8_find st r_4) fun r_72 =>
                bd1 (fX8_free st r_72) fun r_74 =>
                if r_63 ≤ r_74 then
                  if r_6 = 0 then
                    some 0
                  else
                    bd1 (fX8_find st r_6) fun r_78 =>
                    bd1 (fX8_hasRoom st r_78 r_63) fun r_80 =>
                    if r_80 = 0 then
                      some (-4)
                    else
                      some 0
                else
                  some (-3)
            else
              bd1 (fX8_find st r_6) fun r_83 =>
              if r_83 = (-6) then
                some (-3)
              else
                bd1 (fX8_entryPart st p1 4) fun r_86 =>
                if r_4 ≤ 0 then
                  if r_6 = 0 then
                    some 0
                  else
                    bd1 (fX8_find st r_6) fun r_90 =>
                    bd1 (fX8_hasRoom st r_90 r_86) fun r_92 =>
                    if r_92 = 0 then
                      some (-4)
                    else
                      some 0
                else
                  bd1 (fX8_find st r_4) fun r_95 =>
                  bd1 (fX8_free st r_95) fun r_97 =>
                  if r_86 ≤ r_97 then
                    if r_6 = 0 then
                      some 0
                    else
                      bd1 (fX8_find st r_6) fun r_101 =>
                      bd1 (fX8_hasRoom st r_101 r_86) fun r_103 =>
                      if r_103 = 0 then
                        some (-4)
                      else
                        some 0
                  else
                    some (-3)
def fX8_reverse_J124 (st : Nat → Int32) (gr : Nat → Int64) (hi : Nat → Int32) (gh : Nat → Int64) (rc : Int32) (u1 : Int32) (u5 : Int32) (s0 : Int64) (s1 : Int64) (s2 : Int32) : Option (Int32 × (Nat → Int32) × (Nat → Int64) × (Nat → Int32) × (Nat → Int64) × Int32) :=
  ckI s2 16 <|
  lt_ (vp_updL gr s2.toNatClampNeg (s1 - s0)) fun gr_27 =>
  ckI ((168 + (7 * ((u1 - 1) - (u1 - 1) / 24 * 24))) + 6) 336 <|
  lt_ (upd st ((168 + (7 * ((u1 - 1) - (u1 - 1) / 24 * 24))) + 6).toNatClampNeg 1) fun st_29 =>
  bd1 (fX8_entryPart st_29 u1 2) fun r_30 =>
  bd1 (fX8_entryPart st_29 u1 3) fun r_32 =>
  bd2 (fX8_enters st_29 6 r_30 r_32 u5) fun r_34 st_35 =>
  some (r_34, st_35, gr_27, hi, gh, rc)
def fX8_reverse_J97 (st : Nat → Int32) (gr : Nat → Int64) (hi : Nat → Int32) (gh : Nat → Int64) (rc : Int32) (u1 : Int32) (u5 : Int32) (s0 : Int64) (s1 : Int64) (s2 : Int32) : Option (Int32 × (Nat → Int32) × (Nat → Int64) × (Nat → Int32) × (Nat → Int64) × Int32) :=
  ckI s2 16 <|
  lt_ (vp_updL gr s2.toNatClampNeg (s1 - s0)) fun gr_21 =>
  ckI 15 16 <|
  bd1 (fX8_entryPart st u1 1) fun r_23 =>
  if r_23 = 2 then
    fX8_reverse_J124 st gr_21 hi gh rc u1 u5 u5.toInt64 (gr_21 (15 : Int32).toNatClampNeg) 15
  else
    fX8_reverse_J124 st gr_21 hi gh rc u1 u5 0 (gr_21 (15 : Int32).toNatClampNeg) 15
def fX8_reverse_J72 (st : Nat → Int32) (gr : Nat → Int64) (hi : Nat → Int32) (gh : Nat → Int64) (rc : Int32) (u1 : Int32) (u5 : Int32) : Option (Int32 × (Nat → Int32) × (Nat → Int64) × (Nat → Int32) × (Nat → Int64) × Int32) :=
  ckI 14 16 <|
  bd1 (fX8_entryPart st u1 1) fun r_17 =>
  if r_17 = 1 then
    fX8_reverse_J97 st gr hi gh rc u1 u5 u5.toInt64 (gr (14 : Int32).toNatClampNeg) 14
  else
    fX8_reverse_J97 st gr hi gh rc u1 u5 0 (gr (14 : Int32).toNatClampNeg) 14
def fX8_reverse_J54 (st : Nat → Int32) (gr : Nat → Int64) (hi : Nat → Int32) (gh : Nat → Int64) (rc : Int32) (u1 : Int32) (u4 : Int32) (u5 : Int32) : Option (Int32 × (Nat → Int32) × (Nat → Int64) × (Nat → Int32) × (Nat → Int64) × Int32) :=
  if u4 ≤ 0 then
    fX8_reverse_J72 st gr hi gh rc u1 u5
  else
    bd1 (fX8_find st u4) fun r_37 =>
    bd2 (fX8_adds st r_37 u5) fun r_39 st_40 =>
    fX8_reverse_J72 st_40 gr hi gh rc u1 u5
def fX8_reverse (st : Nat → Int32) (gr : Nat → Int64) (hi : Nat → Int32) (gh : Nat → Int64) (rc : Int32) (p1 : Int32) : Option (Int32 × (Nat → Int32) × (Nat → Int64) × (Nat → Int32) × (Nat → Int64) × Int32) :=
  bd1 (fX8_whyNotReversed st p1) fun r_1 =>
  if 0 ≤ r_1 then
    bd3 (fX8_record st gr hi gh rc) fun hi_4 gh_5 rc_6 =>
    bd1 (fX8_giver st p1) fun r_8 =>
    bd1 (fX8_taker st p1) fun r_10 =>
    bd1 (fX8_entryPart st p1 4) fun r_12 =>
    if r_8 ≤ 0 then
      fX8_reverse_J54 st gr hi_4 gh_5 rc_6 p1 r_10 r_12
    else
      bd1 (fX8_find st r_8) fun r_42 =>
      bd2 (fX8_adds st r_42 (-r_12)) fun r_44 st_45 =>
      fX8_reverse_J54 st_45 gr hi_4 gh_5 rc_6 p1 r_10 r_12
  else
    some (r_1, st, gr, hi, gh, rc)
def fX8_day (st : Nat → Int32) : Option (Int32) :=
  ckI 0 336 <|
  some (st (0 : Int32).toNatClampNeg)
def fX8_clients (st : Nat → Int32) : Option (Int32) :=
  ckI 5 336 <|
  some (st (5 : Int32).toNatClampNeg)
def fX8_staysAhead (st : Nat → Int32) (p1 : Int32) (p2 : Int32) (p3 : Int32) : Option (Int32) :=
  if p3 = 1 then
    bd1 (fX8_part st p1 1) fun r_13 =>
    bd1 (fX8_part st p2 1) fun r_15 =>
    if r_13 < r_15 then
      some 0
    else
      some 1
  else
    if p3 = 2 then
      bd1 (fX8_free st p1) fun r_8 =>
      bd1 (fX8_free st p2) fun r_10 =>
      if r_10 < r_8 then
        some 0
      else
        some 1
    else
      bd1 (fX8_part st p1 2) fun r_3 =>
      bd1 (fX8_part st p2 2) fun r_5 =>
      if r_5 < r_3 then
        some 0
      else
        some 1
def fX8_findRanks_L14 (st : Nat → Int32) (u1 : Int32) (u2 : Int32) : Nat → (Nat → Int32) → Int32 → Option ((Nat → Int32) × Int32)
  | 0, _, _ => none
  | n + 1, rk, z3 =>
    if u1 ≤ 0 then
      some (rk, z3)
    else
      if z3 ≤ 0 then
        some (rk, z3)
      else
        ckI (z3 - 1) 12 <|
        bd1 (fX8_staysAhead st (rk (z3 - 1).toNatClampNeg) u2 u1) fun r_6 =>
        if r_6 = 0 then
          ckI (z3 - 1) 12 <|
          ckI z3 12 <|
          lt_ (upd rk z3.toNatClampNeg (rk (z3 - 1).toNatClampNeg)) fun rk_11 =>
          fX8_findRanks_L14 st u1 u2 n rk_11 (z3 + (-1))
        else
          some (rk, z3)
def fX8_findRanks_L2 (st : Nat → Int32) (u1 : Int32) : Nat → (Nat → Int32) → Int32 → Option ((Nat → Int32))
  | 0, _, _ => none
  | n + 1, rk, z2 =>
    ckI 5 336 <|
    if (st (5 : Int32).toNatClampNeg) ≤ z2 then
      some rk
    else
      bd2 (fX8_findRanks_L14 st u1 z2 2147483648 rk z2) fun rk_12 x3_13 =>
        ckI x3_13 12 <|
        lt_ (upd rk_12 x3_13.toNatClampNeg z2) fun rk_15 =>
        fX8_findRanks_L2 st u1 n rk_15 (z2 + 1)
def fX8_findRanks (st : Nat → Int32) (rk : Nat → Int32) (p1 : Int32) : Option ((Nat → Int32)) :=
  bd1 (fX8_findRanks_L2 st p1 2147483648 rk 0) fun rk_16 =>
    some rk_16
def fX8_ranked (st : Nat → Int32) (rk : Nat → Int32) (p1 : Int32) (p2 : Int32) : Option (Int32 × (Nat → Int32)) :=
  bd1 (fX8_within p1 0 3) fun r_1 =>
  if r_1 = 0 then
    some ((-2), rk)
  else
    ckI 5 336 <|
    bd1 (fX8_within p2 0 ((st (5 : Int32).toNatClampNeg) - 1)) fun r_5 =>
    if r_5 = 0 then
      some ((-1), rk)
    else
      bd1 (fX8_findRanks st rk p1) fun rk_8 =>
      ckI p2 12 <|
      bd1 (fX8_part st (rk_8 p2.toNatClampNeg) 0) fun r_11 =>
      some (r_11, rk_8)
def fX8_restOf_L4 (st : Nat → Int32) (u1 : Int32) : Nat → Int32 → Int32 → Option (Int32)
  | 0, _, _ => none
  | n + 1, z2, z3 =>
    ckI 7 336 <|
    if (st (7 : Int32).toNatClampNeg) ≤ z3 then
      some z2
    else
      bd1 (fX8_billPart st z3 1) fun r_3 =>
      if r_3 = u1 then
        bd1 (fX8_billPart st z3 2) fun r_7 =>
        lt_ (z2 + r_7) fun x2_9 =>
        fX8_restOf_L4 st u1 n x2_9 (z3 + 1)
      else
        lt_ (z2 + 0) fun x2_6 =>
        fX8_restOf_L4 st u1 n x2_6 (z3 + 1)
def fX8_restOf (st : Nat → Int32) (p1 : Int32) : Option (Int32) :=
  bd1 (fX8_restOf_L4 st p1 2147483648 0 0) fun x2_10 =>
    some x2_10
def fX8_holdsOf_L4 (st : Nat → Int32) (u1 : Int32) : Nat → Int32 → Int32 → Option (Int32)
  | 0, _, _ => none
  | n + 1, z2, z3 =>
    ckI 6 336 <|
    if (st (6 : Int32).toNatClampNeg) ≤ z3 then
      some z2
    else
      bd1 (fX8_holdPart st z3 1) fun r_3 =>
      if r_3 = u1 then
        lt_ (z2 + 1) fun x2_7 =>
        fX8_holdsOf_L4 st u1 n x2_7 (z3 + 1)
      else
        lt_ (z2 + 0) fun x2_6 =>
        fX8_holdsOf_L4 st u1 n x2_6 (z3 + 1)
def fX8_holdsOf (st : Nat → Int32) (p1 : Int32) : Option (Int32) :=
  bd1 (fX8_holdsOf_L4 st p1 2147483648 0 0) fun x2_8 =>
    some x2_8
def fX8_ofClient (st : Nat → Int32) (gr : Nat → Int64) (p1 : Int32) (p2 : Int32) : Option (Int32) :=
  if p2 = 0 then
    bd1 (fX8_part st p1 1) fun r_2 =>
    some r_2
  else
    if p2 = 1 then
      bd1 (fX8_held st p1) fun r_5 =>
      some r_5
    else
      if p2 = 2 then
        bd1 (fX8_free st p1) fun r_8 =>
        some r_8
      else
        if p2 = 3 then
          ckI p1 16 <|
          if ((gr p1.toNatClampNeg) / 3650000) ≤ 1000000000 then
            ckI p1 16 <|
            some (((gr p1.toNatClampNeg) / 3650000).toInt32)
          else
            some 1000000000
        else
          if p2 = 4 then
            bd1 (fX8_part st p1 0) fun r_15 =>
            bd1 (fX8_restOf st r_15) fun r_17 =>
            some r_17
          else
            if p2 = 5 then
              bd1 (fX8_part st p1 2) fun r_20 =>
              some r_20
            else
              if p2 = 6 then
                bd1 (fX8_part st p1 0) fun r_23 =>
                bd1 (fX8_holdsOf st r_23) fun r_25 =>
                some r_25
              else
                bd1 (fX8_part st p1 0) fun r_27 =>
                bd1 (fX8_billsOf st r_27) fun r_29 =>
                some r_29
def fX8_of (st : Nat → Int32) (gr : Nat → Int64) (p1 : Int32) (p2 : Int32) : Option (Int32) :=
  bd1 (fX8_find st p1) fun r_1 =>
  if r_1 = (-6) then
    some (-1)
  else
    bd1 (fX8_within p2 0 7) fun r_4 =>
    if r_4 = 0 then
      some (-2)
    else
      bd1 (fX8_ofClient st gr r_1 p2) fun r_7 =>
      some r_7
def fX8_holdOf (st : Nat → Int32) (p1 : Int32) (p2 : Int32) : Option (Int32) :=
  bd1 (fX8_findHold st p1) fun r_1 =>
  if r_1 = (-6) then
    some (-1)
  else
    bd1 (fX8_within p2 0 2) fun r_4 =>
    if r_4 = 0 then
      some (-2)
    else
      bd1 (fX8_holdPart st r_1 (1 + p2)) fun r_7 =>
      some r_7
def fX8_billOf (st : Nat → Int32) (p1 : Int32) (p2 : Int32) : Option (Int32) :=
  bd1 (fX8_findBill st p1) fun r_1 =>
  if r_1 = (-6) then
    some (-1)
  else
    bd1 (fX8_within p2 0 2) fun r_4 =>
    if r_4 = 0 then
      some (-2)
    else
      bd1 (fX8_billPart st r_1 (1 + p2)) fun r_7 =>
      some r_7
def fX8_entries (st : Nat → Int32) : Option (Int32) :=
  ckI 10 336 <|
  some (st (10 : Int32).toNatClampNeg)
def fX8_entry (st : Nat → Int32) (p1 : Int32) (p2 : Int32) : Option (Int32) :=
  bd1 (fX8_isEntry st p1) fun r_1 =>
  if r_1 = 0 then
    some (-1)
  else
    bd1 (fX8_within p2 0 6) fun r_4 =>
    if r_4 = 0 then
      some (-2)
    else
      bd1 (fX8_entryPart st p1 p2) fun r_7 =>
      some r_7
def fX8_sumOf_L22 (st : Nat → Int32) (u1 : Int32) : Nat → Int64 → Int32 → Option (Int64)
  | 0, _, _ => none
  | n + 1, z2, z4 =>
    ckI 5 336 <|
    if (st (5 : Int32).toNatClampNeg) ≤ z4 then
      some z2
    else
      if u1 = 0 then
        bd1 (fX8_part st z4 1) fun r_8 =>
        lt_ (z2 + r_8.toInt64) fun x2_10 =>
        fX8_sumOf_L22 st u1 n x2_10 (z4 + 1)
      else
        bd1 (fX8_held st z4) fun r_5 =>
        lt_ (z2 + r_5.toInt64) fun x2_7 =>
        fX8_sumOf_L22 st u1 n x2_7 (z4 + 1)
def fX8_sumOf (st : Nat → Int32) (gr : Nat → Int64) (p1 : Int32) : Option (Int64) :=
  if p1 < 2 then
    bd1 (fX8_sumOf_L22 st p1 2147483648 0 0) fun x2_11 =>
      some x2_11
  else
    ckI ((12 + p1) - 2) 16 <|
    some (gr ((12 + p1) - 2).toNatClampNeg)
def fX8_sum (st : Nat → Int32) (gr : Nat → Int64) (p1 : Int32) : Option (Int64) :=
  bd1 (fX8_within p1 0 5) fun r_1 =>
  if r_1 = 0 then
    some (-2)
  else
    bd1 (fX8_sumOf st gr p1) fun r_4 =>
    some r_4
def fX8_payableOn_L32 (st : Nat → Int32) (u1 : Int32) (u2 : Int32) : Nat → Int32 → Int64 → Int32 → Option ((Int32 × Int32 × Int64) ⊕ (Int32 × Int64))
  | 0, _, _, _ => none
  | n + 1, tb, tk, z4 =>
    if 400 < z4 then
      some (.inr (tb, tk))
    else
      ckI 0 336 <|
      lt_ ((st (0 : Int32).toNatClampNeg) + z4) fun x5_12 =>
      if z4 ≤ 0 then
        bd1 (fX8_heldOn st u1 x5_12) fun r_14 =>
        if (tb - r_14) < u2 then
          fX8_payableOn_L32 st u1 u2 n tb tk (z4 + 1)
        else
          some (.inl (x5_12, tb, tk))
      else
        bd3 (fX8_dayEnds st tb tk x5_12) fun r_17 tb_18 tk_19 =>
        bd1 (fX8_heldOn st u1 x5_12) fun r_21 =>
        if (tb_18 - r_21) < u2 then
          fX8_payableOn_L32 st u1 u2 n tb_18 tk_19 (z4 + 1)
        else
          some (.inl (x5_12, tb_18, tk_19))
def fX8_payableOn (st : Nat → Int32) (gr : Nat → Int64) (tb : Int32) (tk : Int64) (p1 : Int32) (p2 : Int32) : Option (Int32 × Int32 × Int64) :=
  bd1 (fX8_find st p1) fun r_1 =>
  if r_1 = (-6) then
    some ((-1), tb, tk)
  else
    bd1 (fX8_isAmount p2) fun r_4 =>
    if r_4 = 0 then
      some ((-2), tb, tk)
    else
      bd2 (fX8_thinks st gr tb tk r_1) fun tb_7 tk_8 =>
      bs2 (fX8_payableOn_L32 st p1 p2 2147483648 tb_7 tk_8 0) fun tb_24 tk_25 =>
        some ((-6), tb_24, tk_25)
def fX8_interestIn_L39 (st : Nat → Int32) (u2 : Int32) : Nat → Int32 → Int64 → Int32 → Int32 → Option (Int32 × Int64 × Int32)
  | 0, _, _, _, _ => none
  | n + 1, tb, tk, z4, z5 =>
    if u2 < z5 then
      some (tb, tk, z4)
    else
      ckI 0 336 <|
      bd3 (fX8_dayEnds st tb tk ((st (0 : Int32).toNatClampNeg) + z5)) fun r_12 tb_13 tk_14 =>
      lt_ (z4 + r_12) fun x4_16 =>
      fX8_interestIn_L39 st u2 n tb_13 tk_14 x4_16 (z5 + 1)
def fX8_interestIn (st : Nat → Int32) (gr : Nat → Int64) (tb : Int32) (tk : Int64) (p1 : Int32) (p2 : Int32) : Option (Int32 × Int32 × Int64) :=
  bd1 (fX8_find st p1) fun r_1 =>
  if r_1 = (-6) then
    some ((-1), tb, tk)
  else
    bd1 (fX8_within p2 1 400) fun r_4 =>
    if r_4 = 0 then
      some ((-2), tb, tk)
    else
      bd2 (fX8_thinks st gr tb tk r_1) fun tb_7 tk_8 =>
      bd3 (fX8_interestIn_L39 st p2 2147483648 tb_7 tk_8 0 1) fun tb_17 tk_18 x4_19 =>
        some (x4_19, tb_17, tk_18)
def fX8_type (tx : Nat → Int32) (tl : Int32) (p1 : Int32) : Option (Int32 × (Nat → Int32) × Int32) :=
  bd1 (fX8_within p1 33 126) fun r_1 =>
  if r_1 = 0 then
    some ((-2), tx, tl)
  else
    if tl = 80 then
      some ((-4), tx, tl)
    else
      ckI tl 80 <|
      lt_ (upd tx tl.toNatClampNeg p1) fun tx_6 =>
      lt_ (tl + 1) fun tl_7 =>
      some (tl_7, tx_6, tl_7)
def fX8_clearText (tl : Int32) : Option (Int32 × Int32) :=
  some (tl, 0)
def fX8_character (tx : Nat → Int32) (tl : Int32) (p1 : Int32) : Option (Int32) :=
  if tl ≤ p1 then
    some (-1)
  else
    ckI p1 80 <|
    some (tx p1.toNatClampNeg)
def fX8_isNext (tx : Nat → Int32) (tl : Int32) (at_ : Int32) (p1 : Int32) : Option (Int32 × Int32) :=
  bd1 (fX8_character tx tl at_) fun r_1 =>
  if r_1 = p1 then
    lt_ (at_ + 1) fun at__7 =>
    some (1, at__7)
  else
    lt_ (at_ + 0) fun at__5 =>
    some (0, at__5)
def fX8_readsNumber_L7 (tx : Nat → Int32) (tl : Int32) : Nat → Int32 → Int32 → Int32 → Option (Int32 × Int32 × Int32)
  | 0, _, _, _ => none
  | n + 1, at_, nu, z1 =>
    if 6 ≤ z1 then
      some (at_, nu, z1)
    else
      bd1 (fX8_character tx tl at_) fun r_2 =>
      bd1 (fX8_within r_2 48 57) fun r_4 =>
      if r_4 = 0 then
        some (at_, nu, z1)
      else
        bd1 (fX8_character tx tl at_) fun r_7 =>
        lt_ (((10 * nu) + r_7) - 48) fun nu_9 =>
        lt_ (at_ + 1) fun at__10 =>
        fX8_readsNumber_L7 tx tl n at__10 nu_9 (z1 + 1)
def fX8_readsNumber (tx : Nat → Int32) (tl : Int32) (at_ : Int32) (nu : Int32) : Option (Int32 × Int32 × Int32) :=
  bd3 (fX8_readsNumber_L7 tx tl 2147483648 at_ 0 0) fun at__11 nu_12 x1_13 =>
    if x1_13 ≤ 0 then
      some (0, at__11, nu_12)
    else
      some (1, at__11, nu_12)
def fX8_readsOrder_J109 (tx : Nat → Int32) (tl : Int32) (at_ : Int32) (ltr : Int32) (on_ : Int32) (tw : Int32) (th : Int32) (nu : Int32) (u1 : Int32) : Option (Int32 × Int32 × Int32 × Int32 × Int32 × Int32 × Int32) :=
  ckP (narrow .boolean (.int u1) = .int u1) <|
  some (u1, at_, ltr, on_, tw, th, nu)
def fX8_readsOrder_J178 (tx : Nat → Int32) (tl : Int32) (at_ : Int32) (ltr : Int32) (on_ : Int32) (tw : Int32) (th : Int32) (nu : Int32) : Option (Int32 × Int32 × Int32 × Int32 × Int32 × Int32 × Int32) :=
  some (0, at_, ltr, on_, tw, nu, nu)
def fX8_readsOrder_J154 (tx : Nat → Int32) (tl : Int32) (at_ : Int32) (ltr : Int32) (on_ : Int32) (tw : Int32) (th : Int32) (nu : Int32) (u1 : Int32) : Option (Int32 × Int32 × Int32 × Int32 × Int32 × Int32 × Int32) :=
  if u1 = 0 then
    fX8_readsOrder_J178 tx tl at_ ltr on_ tw th nu
  else
    bd2 (fX8_isNext tx tl at_ 58) fun r_13 at__14 =>
    if r_13 = 0 then
      fX8_readsOrder_J178 tx tl at__14 ltr on_ tw th nu
    else
      bd3 (fX8_readsNumber tx tl at__14 nu) fun r_17 at__18 nu_19 =>
      if r_17 = 0 then
        fX8_readsOrder_J178 tx tl at__18 ltr on_ tw th nu_19
      else
        some (1, at__18, ltr, on_, tw, nu_19, nu_19)
def fX8_readsOrder_J145 (tx : Nat → Int32) (tl : Int32) (at_ : Int32) (ltr : Int32) (on_ : Int32) (tw : Int32) (th : Int32) (nu : Int32) (s0 : Int32) : Option (Int32 × Int32 × Int32 × Int32 × Int32 × Int32 × Int32) :=
  fX8_readsOrder_J154 tx tl at_ ltr on_ nu th nu s0
def fX8_readsOrder_J144 (tx : Nat → Int32) (tl : Int32) (at_ : Int32) (ltr : Int32) (on_ : Int32) (tw : Int32) (th : Int32) (nu : Int32) : Option (Int32 × Int32 × Int32 × Int32 × Int32 × Int32 × Int32) :=
  fX8_readsOrder_J145 tx tl at_ ltr on_ tw th nu 0
def fX8_readsOrder_J68 (tx : Nat → Int32) (tl : Int32) (at_ : Int32) (ltr : Int32) (on_ : Int32) (tw : Int32) (th : Int32) (nu : Int32) : Option (Int32 × Int32 × Int32 × Int32 × Int32 × Int32 × Int32) :=
  lt_ (at_ + 1) fun at__4 =>
  bd3 (fX8_readsNumber tx tl at__4 nu) fun r_5 at__6 nu_7 =>
  if ltr = 115 then
    fX8_readsOrder_J109 tx tl at__6 ltr nu_7 tw th nu_7 r_5
  else
    if ltr = 100 then
      fX8_readsOrder_J109 tx tl at__6 ltr nu_7 tw th nu_7 r_5
    else
      if ltr = 116 then
        if r_5 = 0 then
          fX8_readsOrder_J144 tx tl at__6 ltr nu_7 tw th nu_7
        else
          bd2 (fX8_isNext tx tl at__6 62) fun r_23 at__24 =>
          if r_23 = 0 then
            fX8_readsOrder_J144 tx tl at__24 ltr nu_7 tw th nu_7
          else
            bd3 (fX8_readsNumber tx tl at__24 nu_7) fun r_27 at__28 nu_29 =>
            if r_27 = 0 then
              fX8_readsOrder_J144 tx tl at__28 ltr nu_7 tw th nu_29
            else
              fX8_readsOrder_J145 tx tl at__28 ltr nu_7 tw th nu_29 1
      else
        fX8_readsOrder_J154 tx tl at__6 ltr nu_7 tw th nu_7 r_5
def fX8_readsOrder (tx : Nat → Int32) (tl : Int32) (at_ : Int32) (ltr : Int32) (on_ : Int32) (tw : Int32) (th : Int32) (nu : Int32) : Option (Int32 × Int32 × Int32 × Int32 × Int32 × Int32 × Int32) :=
  bd1 (fX8_character tx tl at_) fun r_1 =>
  if r_1 = 114 then
    fX8_readsOrder_J68 tx tl at_ r_1 on_ tw th nu
  else
    if r_1 = 112 then
      fX8_readsOrder_J68 tx tl at_ r_1 on_ tw th nu
    else
      if r_1 = 116 then
        fX8_readsOrder_J68 tx tl at_ r_1 on_ tw th nu
      else
        if r_1 = 98 then
          fX8_readsOrder_J68 tx tl at_ r_1 on_ tw th nu
        else
          if r_1 = 115 then
            fX8_readsOrder_J68 tx tl at_ r_1 on_ tw th nu
          else
            if r_1 = 100 then
              fX8_readsOrder_J68 tx tl at_ r_1 on_ tw th nu
            else
              some (0, at_, r_1, on_, tw, th, nu)
def fX8_findError_L5 (tx : Nat → Int32) (tl : Int32) : Nat → Int32 → Int32 → Int32 → Int32 → Int32 → Int32 → Option ((Int32 × Int32 × Int32 × Int32 × Int32 × Int32 × Int32) ⊕ (Int32 × Int32 × Int32 × Int32 × Int32 × Int32))
  | 0, _, _, _, _, _, _ => none
  | n + 1, at_, ltr, on_, tw, th, nu =>
    bd7 (fX8_readsOrder tx tl at_ ltr on_ tw th nu) fun r_1 at__2 ltr_3 on__4 tw_5 th_6 nu_7 =>
    if r_1 = 0 then
      some (.inl (at__2, at__2, ltr_3, on__4, tw_5, th_6, nu_7))
    else
      if at__2 = tl then
        some (.inl ((-6), at__2, ltr_3, on__4, tw_5, th_6, nu_7))
      else
        bd2 (fX8_isNext tx tl at__2 59) fun r_11 at__12 =>
        if r_11 = 0 then
          some (.inr (at__12, ltr_3, on__4, tw_5, th_6, nu_7))
        else
          fX8_findError_L5 tx tl n at__12 ltr_3 on__4 tw_5 th_6 nu_7
def fX8_findError (tx : Nat → Int32) (tl : Int32) (at_ : Int32) (ltr : Int32) (on_ : Int32) (tw : Int32) (th : Int32) (nu : Int32) : Option (Int32 × Int32 × Int32 × Int32 × Int32 × Int32 × Int32) :=
  bs6 (fX8_findError_L5 tx tl 2147483648 0 ltr on_ tw th nu) fun at__15 ltr_16 on__17 tw_18 th_19 nu_20 =>
    some (at__15, at__15, ltr_16, on__17, tw_18, th_19, nu_20)
def fX8_syntaxError (tx : Nat → Int32) (tl : Int32) (at_ : Int32) (ltr : Int32) (on_ : Int32) (tw : Int32) (th : Int32) (nu : Int32) : Option (Int32 × Int32 × Int32 × Int32 × Int32 × Int32 × Int32) :=
  bd7 (fX8_findError tx tl at_ ltr on_ tw th nu) fun r_1 at__2 ltr_3 on__4 tw_5 th_6 nu_7 =>
  some (r_1, at__2, ltr_3, on__4, tw_5, th_6, nu_7)
def fX8_whyNotDone (st : Nat → Int32) (ltr : Int32) (on_ : Int32) (tw : Int32) (th : Int32) : Option (Int32) :=
  if ltr = 98 then
    bd1 (fX8_whyNotBilled st on_ th) fun r_2 =>
    some r_2
  else
    if ltr = 112 then
      bd1 (fX8_whyNotPaid st on_ th) fun r_5 =>
      some r_5
    else
      if ltr = 114 then
        bd1 (fX8_whyNotReceived st on_ th) fun r_8 =>
        some r_8
      else
        if ltr = 115 then
          bd1 (fX8_whyNotSettled st on_) fun r_11 =>
          some r_11
        else
          if ltr = 116 then
            bd1 (fX8_whyNotMoved st on_ tw th) fun r_14 =>
            some r_14
          else
            bd1 (fX8_whyNotPassed st on_) fun r_16 =>
            some r_16
def fX8_does (st : Nat → Int32) (gr : Nat → Int64) (tb : Int32) (tk : Int64) (ltr : Int32) (on_ : Int32) (tw : Int32) (th : Int32) : Option ((Nat → Int32) × (Nat → Int64) × Int32 × Int64) :=
  if ltr = 98 then
    bd2 (fX8_bills st on_ th) fun r_2 st_3 =>
    some (st_3, gr, tb, tk)
  else
    if ltr = 112 then
      bd3 (fX8_pays st gr on_ th) fun r_6 st_7 gr_8 =>
      some (st_7, gr_8, tb, tk)
    else
      if ltr = 114 then
        bd3 (fX8_receives st gr on_ th) fun r_11 st_12 gr_13 =>
        some (st_12, gr_13, tb, tk)
      else
        if ltr = 115 then
          bd3 (fX8_settles st gr on_) fun r_16 st_17 gr_18 =>
          some (st_17, gr_18, tb, tk)
        else
          if ltr = 116 then
            bd2 (fX8_transfers st on_ tw th) fun r_21 st_22 =>
            some (st_22, gr, tb, tk)
          else
            bd5 (fX8_passes st gr tb tk on_) fun r_24 st_25 gr_26 tb_27 tk_28 =>
            some (st_25, gr_26, tb_27, tk_28)
def fX8_carryOut_L25 (tx : Nat → Int32) (tl : Int32) : Nat → (Nat → Int32) → (Nat → Int64) → Int32 → Int64 → Int32 → Int32 → Int32 → Int32 → Int32 → Int32 → Int32 → Int32 → Option ((Nat → Int32) × (Nat → Int64) × Int32 × Int64 × Int32 × Int32 × Int32 × Int32 × Int32 × Int32 × Int32)
  | 0, _, _, _, _, _, _, _, _, _, _, _, _ => none
  | n + 1, st, gr, tb, tk, at_, ltr, on_, tw, th, nu, z1, z2 =>
    if z2 = 0 then
      some (st, gr, tb, tk, at_, ltr, on_, tw, th, nu, z1)
    else
      if tl ≤ at_ then
        some (st, gr, tb, tk, at_, ltr, on_, tw, th, nu, z1)
      else
        bd7 (fX8_readsOrder tx tl at_ ltr on_ tw th nu) fun r_16 at__17 ltr_18 on__19 tw_20 th_21 nu_22 =>
        bd2 (fX8_isNext tx tl at__17 59) fun r_24 at__25 =>
        bd1 (fX8_whyNotDone st ltr_18 on__19 tw_20 th_21) fun r_27 =>
        if r_27 = 0 then
          bd4 (fX8_does st gr tb tk ltr_18 on__19 tw_20 th_21) fun st_32 gr_33 tb_34 tk_35 =>
          fX8_carryOut_L25 tx tl n st_32 gr_33 tb_34 tk_35 at__25 ltr_18 on__19 tw_20 th_21 nu_22 (z1 + 1) 1
        else
          fX8_carryOut_L25 tx tl n st gr tb tk at__25 ltr_18 on__19 tw_20 th_21 nu_22 z1 0
def fX8_carryOut (st : Nat → Int32) (gr : Nat → Int64) (hi : Nat → Int32) (gh : Nat → Int64) (rc : Int32) (tx : Nat → Int32) (tl : Int32) (tb : Int32) (tk : Int64) (at_ : Int32) (ltr : Int32) (on_ : Int32) (tw : Int32) (th : Int32) (nu : Int32) : Option (Int32 × (Nat → Int32) × (Nat → Int64) × (Nat → Int32) × (Nat → Int64) × Int32 × Int32 × Int32 × Int64 × Int32 × Int32 × Int32 × Int32 × Int32 × Int32) :=
  bd7 (fX8_findError tx tl at_ ltr on_ tw th nu) fun r_1 at__2 ltr_3 on__4 tw_5 th_6 nu_7 =>
  if r_1 = (-6) then
    bd3 (fX8_record st gr hi gh rc) fun hi_10 gh_11 rc_12 =>
    bd11 (fX8_carryOut_L25 tx tl 2147483648 st gr tb tk 0 ltr_3 on__4 tw_5 th_6 nu_7 0 1) fun st_37 gr_38 tb_39 tk_40 at__41 ltr_42 on__43 tw_44 th_45 nu_46 x1_47 =>
      some (x1_47, st_37, gr_38, hi_10, gh_11, rc_12, 0, tb_39, tk_40, at__41, ltr_42, on__43, tw_44, th_45, nu_46)
  else
    some ((-5), st, gr, hi, gh, rc, tl, tb, tk, at__2, ltr_3, on__4, tw_5, th_6, nu_7)
def fX8_undo_L22 (hi : Nat → Int32) (rc : Int32) : Nat → (Nat → Int32) → Int32 → Option ((Nat → Int32))
  | 0, _, _ => none
  | n + 1, st, z1 =>
    if 336 ≤ z1 then
      some st
    else
      ckI ((rc * 336) + z1) 2016 <|
      ckI z1 336 <|
      lt_ (upd st z1.toNatClampNeg (hi ((rc * 336) + z1).toNatClampNeg)) fun st_6 =>
      fX8_undo_L22 hi rc n st_6 (z1 + 1)
def fX8_undo_L58 (gh : Nat → Int64) (rc : Int32) : Nat → (Nat → Int64) → Int32 → Option ((Nat → Int64))
  | 0, _, _ => none
  | n + 1, gr, z1 =>
    if 16 ≤ z1 then
      some gr
    else
      ckI ((rc * 16) + z1) 96 <|
      ckI z1 16 <|
      lt_ (vp_updL gr z1.toNatClampNeg (gh ((rc * 16) + z1).toNatClampNeg)) fun gr_11 =>
      fX8_undo_L58 gh rc n gr_11 (z1 + 1)
def fX8_undo (st : Nat → Int32) (gr : Nat → Int64) (hi : Nat → Int32) (gh : Nat → Int64) (rc : Int32) : Option (Int32 × (Nat → Int32) × (Nat → Int64) × Int32) :=
  if rc = 0 then
    some ((-3), st, gr, rc)
  else
    lt_ (rc - 1) fun rc_2 =>
    bd1 (fX8_undo_L22 hi rc_2 2147483648 st 0) fun st_7 =>
      bd1 (fX8_undo_L58 gh rc_2 2147483648 gr 0) fun gr_12 =>
        some (rc_2, st_7, gr_12, rc_2)
def fX8_digest_L61 (st : Nat → Int32) (gr : Nat → Int64) (u3 : Int32) : Nat → Int64 → Int32 → Option (Int64)
  | 0, _, _ => none
  | n + 1, z1, z4 =>
    if 7 < z4 then
      some z1
    else
      bd1 (fX8_ofClient st gr u3 z4) fun r_11 =>
      lt_ ((31 * z1) + r_11.toInt64) fun x1_13 =>
      fX8_digest_L61 st gr u3 n x1_13 (z4 + 1)
def fX8_digest_L34 (st : Nat → Int32) (gr : Nat → Int64) : Nat → Int64 → Int32 → Option (Int64)
  | 0, _, _ => none
  | n + 1, z1, z3 =>
    ckI 5 336 <|
    if (st (5 : Int32).toNatClampNeg) ≤ z3 then
      some z1
    else
      bd1 (fX8_part st z3 0) fun r_7 =>
      lt_ ((31 * z1) + r_7.toInt64) fun x1_9 =>
      bd1 (fX8_digest_L61 st gr z3 2147483648 x1_9 0) fun x1_14 =>
        fX8_digest_L34 st gr n x1_14 (z3 + 1)
def fX8_digest_L97 (st : Nat → Int32) : Nat → Int64 → Int32 → Option (Int64)
  | 0, _, _ => none
  | n + 1, z1, z3 =>
    ckI 6 336 <|
    if (4 * (st (6 : Int32).toNatClampNeg)) ≤ z3 then
      some z1
    else
      ckI (48 + z3) 336 <|
      lt_ ((31 * z1) + (st (48 + z3).toNatClampNeg).toInt64) fun x1_19 =>
      fX8_digest_L97 st n x1_19 (z3 + 1)
def fX8_digest_L135 (st : Nat → Int32) : Nat → Int64 → Int32 → Option (Int64)
  | 0, _, _ => none
  | n + 1, z1, z3 =>
    ckI 7 336 <|
    if (4 * (st (7 : Int32).toNatClampNeg)) ≤ z3 then
      some z1
    else
      ckI (108 + z3) 336 <|
      lt_ ((31 * z1) + (st (108 + z3).toNatClampNeg).toInt64) fun x1_24 =>
      fX8_digest_L135 st n x1_24 (z3 + 1)
def fX8_digest_L202 (st : Nat → Int32) (u3 : Int32) : Nat → Int64 → Int32 → Option (Int64)
  | 0, _, _ => none
  | n + 1, z1, z4 =>
    if 6 < z4 then
      some z1
    else
      bd1 (fX8_isEntry st u3) fun r_31 =>
      if r_31 = 0 then
        some z1
      else
        bd1 (fX8_entryPart st u3 z4) fun r_34 =>
        lt_ ((31 * z1) + r_34.toInt64) fun x1_36 =>
        fX8_digest_L202 st u3 n x1_36 (z4 + 1)
def fX8_digest_L188 (st : Nat → Int32) : Nat → Int64 → Int32 → Option (Int64)
  | 0, _, _ => none
  | n + 1, z1, z3 =>
    ckI 10 336 <|
    if (st (10 : Int32).toNatClampNeg) < z3 then
      some z1
    else
      bd1 (fX8_digest_L202 st z3 2147483648 z1 0) fun x1_37 =>
        fX8_digest_L188 st n x1_37 (z3 + 1)
def fX8_digest_L259 (st : Nat → Int32) (rk : Nat → Int32) (u3 : Int32) : Nat → Int64 → Int32 → Option (Int64)
  | 0, _, _ => none
  | n + 1, z1, z4 =>
    ckI 5 336 <|
    if (st (5 : Int32).toNatClampNeg) ≤ z4 then
      some z1
    else
      ckI z4 12 <|
      bd1 (fX8_part st (rk z4.toNatClampNeg) 0) fun r_45 =>
      lt_ ((31 * z1) + r_45.toInt64) fun x1_47 =>
      fX8_digest_L259 st rk u3 n x1_47 (z4 + 1)
def fX8_digest_L246 (st : Nat → Int32) : Nat → (Nat → Int32) → Int64 → Int32 → Option ((Nat → Int32) × Int64)
  | 0, _, _, _ => none
  | n + 1, rk, z1, z3 =>
    if 3 < z3 then
      some (rk, z1)
    else
      bd1 (fX8_findRanks st rk z3) fun rk_40 =>
      bd1 (fX8_digest_L259 st rk_40 z3 2147483648 z1 0) fun x1_48 =>
        fX8_digest_L246 st n rk_40 x1_48 (z3 + 1)
def fX8_digest_L304 (st : Nat → Int32) (gr : Nat → Int64) : Nat → Int64 → Int32 → Option (Int64)
  | 0, _, _ => none
  | n + 1, z1, z3 =>
    if 5 < z3 then
      some z1
    else
      bd1 (fX8_sumOf st gr z3) fun r_52 =>
      lt_ ((31 * z1) + r_52) fun x1_54 =>
      fX8_digest_L304 st gr n x1_54 (z3 + 1)
def fX8_digest (st : Nat → Int32) (gr : Nat → Int64) (rk : Nat → Int32) : Option (Int64 × (Nat → Int32)) :=
  ckI 0 336 <|
  lt_ ((31 * 202) + (st (0 : Int32).toNatClampNeg).toInt64) fun x1_2 =>
  ckI 5 336 <|
  lt_ ((31 * x1_2) + (st (5 : Int32).toNatClampNeg).toInt64) fun x1_4 =>
  bd1 (fX8_digest_L34 st gr 2147483648 x1_4 0) fun x1_15 =>
    bd1 (fX8_digest_L97 st 2147483648 x1_15 0) fun x1_20 =>
      bd1 (fX8_digest_L135 st 2147483648 x1_20 0) fun x1_25 =>
        ckI 10 336 <|
        lt_ ((31 * x1_25) + (st (10 : Int32).toNatClampNeg).toInt64) fun x1_27 =>
        bd1 (fX8_digest_L188 st 2147483648 x1_27 1) fun x1_38 =>
          bd2 (fX8_digest_L246 st 2147483648 rk x1_38 1) fun rk_49 x1_50 =>
            bd1 (fX8_digest_L304 st gr 2147483648 x1_50 0) fun x1_55 =>
              some (x1_55, rk_49)
