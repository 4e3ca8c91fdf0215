set_option maxHeartbeats 4000000 in
set_option maxRecDepth 100000 in
theorem hfL_law_J216 {p : Program} {l : Launch} {e : Env} {s : State} {m : MethodId} {below : List Frame} {meth : Method} {c : Code} {b : Nat} {D : va_G} {cy : Nat → ClassId} {A : Nat → Prop} {Q : State → Prop} {scL : Nat} {scx : Nat → Int32} (C0 : LC p s m c b scL scx D cy A) (ye0 ym0 yq0 yh0 yb0 a0 t0 t1 k0 k1 k2 s0 s1 s2 s3 s4 s5 s6 s7 s8 s9 s10 s11 : Nat) (hd : Nat → Nat) (Xle : Int32) (Xch : Nat → Int32) (Xpo : Int32) (Xltr : Int32) (Xfi : Int32) (Xse : Int32) (Xth : Int32) (rec : ((Nat → Int32) → (Nat → Int64) → (Nat → Int32) → (Nat → Int32) → (Nat → Int32) → Int32 → (Nat → Int32) → (Nat → Int32) → Int32 → (Nat → Int32) → (Nat → Int32) → (Nat → Int32) → (Nat → Int64) → Int32 → Int32 → (Nat → Int32) → Int32 → Int32 → (Nat → Int32) → Int32 → Int32 → (Nat → Int32) → Int32 → Int32 → Int32 → Int32 → Int32 → Int64 → Int64 → Int64 → Int64 → Int32 → Int32 → (Nat → XS) → Int32 → Int32 → Option ((Int32) ⊕ (Unit)))) (o_94 : (Int32) ⊕ (Unit)) (ih : (∀ (ee_553 : Nat → Int32) (mm_554 : Nat → Int64) (qq_555 : Nat → Int32) (hh_556 : Nat → Int32) (bb_557 : Nat → Int32) (Ksz_558 : Int32) (Kcl_559 : Nat → Int32) (Kke_560 : Nat → Int32) (Asz_561 : Int32) (Anu_562 : Nat → Int32) (Aba_563 : Nat → Int32) (Amo_564 : Nat → Int32) (Aco_565 : Nat → Int64) (Hsz_566 : Int32) (Hla_567 : Int32) (Hce_568 : Nat → Int32) (Bsz_569 : Int32) (Bla_570 : Int32) (Bce_571 : Nat → Int32) (Tma_572 : Int32) (Tlc_573 : Int32) (Ttc_574 : Nat → Int32) (day_575 : Int32) (lim_576 : Int32) (low_577 : Int32) (hig_578 : Int32) (thr_579 : Int32) (off_580 : Int64) (cre_581 : Int64) (rcp_582 : Int64) (pay_583 : Int64) (sv_584 : Int32) (nx_585 : Int32) (SL_586 : Nat → XS) (z7_587 : Int32) (z8_588 : Int32) (o : (Int32) ⊕ (Unit)) (H : Heap) (locs : List Loc) (ls : Array Slot), rec ee_553 mm_554 qq_555 hh_556 bb_557 Ksz_558 Kcl_559 Kke_560 Asz_561 Anu_562 Aba_563 Amo_564 Aco_565 Hsz_566 Hla_567 Hce_568 Bsz_569 Bla_570 Bce_571 Tma_572 Tlc_573 Ttc_574 day_575 lim_576 low_577 hig_578 thr_579 off_580 cre_581 rcp_582 pay_583 sv_584 nx_585 SL_586 z7_587 z8_588 = some o → va_P D vwCl (wAE cy ye0 ee_553 ++ (wAM cy ym0 mm_554 ++ (wAQ cy yq0 qq_555 ++ (wAH cy yh0 hh_556 ++ (wAB cy yb0 bb_557 ++ wX7 cy a0 t0 t1 k0 k1 k2 s0 s1 s2 s3 s4 s5 s6 s7 s8 s9 s10 s11 hd Xle Xch Xpo Xltr Xfi Xse Xth Ksz_558 Kcl_559 Kke_560 Asz_561 Anu_562 Aba_563 Amo_564 Aco_565 Hsz_566 Hla_567 Hce_568 Bsz_569 Bla_570 Bce_571 Tma_572 Tlc_573 Ttc_574 day_575 lim_576 low_577 hig_578 thr_579 off_580 cre_581 rcp_582 pay_583 sv_584 nx_585 SL_586))))) H → va_D A (wAE cy ye0 ee_553 ++ (wAM cy ym0 mm_554 ++ (wAQ cy yq0 qq_555 ++ (wAH cy yh0 hh_556 ++ (wAB cy yb0 bb_557 ++ wX7 cy a0 t0 t1 k0 k1 k2 s0 s1 s2 s3 s4 s5 s6 s7 s8 s9 s10 s11 hd Xle Xch Xpo Xltr Xfi Xse Xth Ksz_558 Kcl_559 Kke_560 Asz_561 Anu_562 Aba_563 Amo_564 Aco_565 Hsz_566 Hla_567 Hce_568 Bsz_569 Bla_570 Bce_571 Tma_572 Tlc_573 Ttc_574 day_575 lim_576 low_577 hig_578 thr_579 off_580 cre_581 rcp_582 pay_583 sv_584 nx_585 SL_586))))) → va_S A s.heap H locs → lv_has ls 27 [(0, .ref b), (1, .ref a0), (2, .ref yq0), (3, .ref ym0), (4, .ref yh0), (5, .ref yb0), (6, .ref ye0), (7, .int z7_587), (8, .int z8_588)] → (∀ r', o = .inl r' → r' = (1 : Int32)) → (o = .inr () → ∀ (H : Heap) (locs : List Loc) (ls : Array Slot), va_S A s.heap H locs → W p l e room_1 s m #[Value.ref b] below meth c H locs 600000 7302250 Q (F0 m 2310 ls [])) → W p l e room_1 s m #[Value.ref b] below meth c H locs 600000 7302250 Q (F0 m 94 ls []))) (hr_94 : (∀ r', o_94 = .inl r' → r' = (1 : Int32))) (kx_94 : (o_94 = .inr () → ∀ (H : Heap) (locs : List Loc) (ls : Array Slot), va_S A s.heap H locs → W p l e room_1 s m #[Value.ref b] below meth c H locs 600000 7302250 Q (F0 m 2310 ls []))) : ∀ (eej : Nat → Int32) (mmj : Nat → Int64) (qqj : Nat → Int32) (hhj : Nat → Int32) (bbj : Nat → Int32) (Kszj : Int32) (Kclj : Nat → Int32) (Kkej : Nat → Int32) (Aszj : Int32) (Anuj : Nat → Int32) (Abaj : Nat → Int32) (Amoj : Nat → Int32) (Acoj : Nat → Int64) (Hszj : Int32) (Hlaj : Int32) (Hcej : Nat → Int32) (Bszj : Int32) (Blaj : Int32) (Bcej : Nat → Int32) (Tmaj : Int32) (Tlcj : Int32) (Ttcj : Nat → Int32) (dayj : Int32) (limj : Int32) (lowj : Int32) (higj : Int32) (thrj : Int32) (offj : Int64) (crej : Int64) (rcpj : Int64) (payj : Int64) (svj : Int32) (nxj : Int32) (SLj : Nat → XS) (z7j : Int32) (z8j : Int32) (z9j : Int32) (z10j : Int32) (z11j : Int32) (z12j : Int32) (z13j : Int32) (z14j : Int32) (s0j : Int32) (s1j : Int32) (s2j : Int32) (H : Heap) (locs : List Loc) (ls : Array Slot), fL_law_J216 scL scx eej mmj qqj hhj bbj Kszj Kclj Kkej Aszj Anuj Abaj Amoj Acoj Hszj Hlaj Hcej Bszj Blaj Bcej Tmaj Tlcj Ttcj dayj limj lowj higj thrj offj crej rcpj payj svj nxj SLj z7j z8j z9j z10j z11j z12j z13j z14j s0j s1j s2j rec = some o_94 → va_P D vwCl (wAE cy ye0 eej ++ (wAM cy ym0 mmj ++ (wAQ cy yq0 qqj ++ (wAH cy yh0 hhj ++ (wAB cy yb0 bbj ++ wX7 cy a0 t0 t1 k0 k1 k2 s0 s1 s2 s3 s4 s5 s6 s7 s8 s9 s10 s11 hd Xle Xch Xpo Xltr Xfi Xse Xth Kszj Kclj Kkej Aszj Anuj Abaj Amoj Acoj Hszj Hlaj Hcej Bszj Blaj Bcej Tmaj Tlcj Ttcj dayj limj lowj higj thrj offj crej rcpj payj svj nxj SLj))))) H → va_D A (wAE cy ye0 eej ++ (wAM cy ym0 mmj ++ (wAQ cy yq0 qqj ++ (wAH cy yh0 hhj ++ (wAB cy yb0 bbj ++ wX7 cy a0 t0 t1 k0 k1 k2 s0 s1 s2 s3 s4 s5 s6 s7 s8 s9 s10 s11 hd Xle Xch Xpo Xltr Xfi Xse Xth Kszj Kclj Kkej Aszj Anuj Abaj Amoj Acoj Hszj Hlaj Hcej Bszj Blaj Bcej Tmaj Tlcj Ttcj dayj limj lowj higj thrj offj crej rcpj payj svj nxj SLj))))) → va_S A s.heap H locs → lv_has ls 27 [(0, .ref b), (1, .ref a0), (2, .ref yq0), (3, .ref ym0), (4, .ref yh0), (5, .ref yb0), (6, .ref ye0), (7, .int z7j), (8, .int z8j), (9, .int z9j), (10, .int z10j), (11, .int z11j), (12, .int z12j), (13, .int z13j), (14, .int z14j)] → W p l e room_1 s m #[Value.ref b] below meth c H locs 600000 7302250 Q (F0 m 216 ls [.int s0j, .int s1j, .int s2j]) := by
  obtain ⟨hx, hb, hml, hown, hts, hXs, hbl, hK, hN, hA, hbA⟩ := id C0
  have hbg : ∀ w ∈ wsL_law, w ∈ wsL_law := fun _ h => h
  have wd3 : (Cond.constantLong RL 30 (1000000000)).before #[Value.ref b] s = true := hts _ wm_0_9
  have wd4 : (Cond.constant RL 139 (900000000)).before #[Value.ref b] s = true := hts _ wm_0_15
  have wd5 : (Cond.constant RL 138 (300000)).before #[Value.ref b] s = true := hts _ wm_0_14
  intro eej mmj qqj hhj bbj Kszj Kclj Kkej Aszj Anuj Abaj Amoj Acoj Hszj Hlaj Hcej Bszj Blaj Bcej Tmaj Tlcj Ttcj dayj limj lowj higj thrj offj crej rcpj payj svj nxj SLj z7j z8j z9j z10j z11j z12j z13j z14j s0j s1j s2j H locs ls hf hP hD hS hl
  unfold fL_law_J216 at hf
  obtain ⟨r_643, h_644, hf⟩ := bd1_el hf
  refine x_callSi (As := [.int s1j, .int s0j]) (rest := [.int s2j]) ⟨hx, hb, hml, hown, hts⟩ (mL_low l D cy   s1j s0j r_643 h_644) (va_cwS 2 hts (gcS_L_low hbg wm_4_19) rfl rfl rfl kdL_low ⟨Nat.le_of_ble_eq_true rfl, Nat.le_of_ble_eq_true rfl⟩) (w1 := []) (w2 := wAE cy ye0 eej ++ (wAM cy ym0 mmj ++ (wAQ cy yq0 qqj ++ (wAH cy yh0 hhj ++ (wAB cy yb0 bbj ++ wX7 cy a0 t0 t1 k0 k1 k2 s0 s1 s2 s3 s4 s5 s6 s7 s8 s9 s10 s11 hd Xle Xch Xpo Xltr Xfi Xse Xth Kszj Kclj Kkej Aszj Anuj Abaj Amoj Acoj Hszj Hlaj Hcej Bszj Blaj Bcej Tmaj Tlcj Ttcj dayj limj lowj higj thrj offj crej rcpj payj svj nxj SLj))))) (w' := wAE cy ye0 eej ++ (wAM cy ym0 mmj ++ (wAQ cy yq0 qqj ++ (wAH cy yh0 hhj ++ (wAB cy yb0 bbj ++ wX7 cy a0 t0 t1 k0 k1 k2 s0 s1 s2 s3 s4 s5 s6 s7 s8 s9 s10 s11 hd Xle Xch Xpo Xltr Xfi Xse Xth Kszj Kclj Kkej Aszj Anuj Abaj Amoj Acoj Hszj Hlaj Hcej Bszj Blaj Bcej Tmaj Tlcj Ttcj dayj limj lowj higj thrj offj crej rcpj payj svj nxj SLj))))) rfl rfl hP hK hD hN hS hA rfl hl rfl (Nat.le_of_ble_eq_true rfl) dL_law_216 ⟨Nat.le_refl _, Nat.le_refl _⟩ (fun H locs hP hD hS => ?_)
  refine lv_iadd hx hb dL_law_219 ?_
  obtain ⟨x15_645, ex15_645, hf⟩ := lt_el hf
  refine x_topi ex15_645 ?_
  refine lv_istore (lv' := [(15, .int x15_645), (0, .ref b), (1, .ref a0), (2, .ref yq0), (3, .ref ym0), (4, .ref yh0), (5, .ref yb0), (6, .ref ye0), (7, .int z7j), (8, .int z8j), (9, .int z9j), (10, .int z10j), (11, .int z11j), (12, .int z12j), (13, .int z13j), (14, .int z14j)]) hx hb dL_law_220 hl (by decide) rfl (fun ls hl => ?_)
  refine lv_iload hx hb dL_law_222 (lv_at hl 12 rfl) ?_
  refine lv_if_ne (tgt := 285) hx hb dL_law_224 (by decide) (fun c_646 => ?_) (fun c_646 => ?_)
  · have hf := x_f c_646 hf
    refine lv_iload hx hb dL_law_285 (lv_at hl 12 rfl) ?_
    refine lv_iconst (v := 4) hx hb dL_law_287 (by decide) ?_
    refine lv_icmp_ge (tgt := 404) hx hb dL_law_288 (by decide) (fun c_647 => ?_) (fun c_647 => ?_)
    · have hf := x_t c_647 hf
      refine lv_iload hx hb dL_law_404 (lv_at hl 12 rfl) ?_
      refine lv_bipush (v := 6) hx hb dL_law_406 (by decide) ?_
      refine lv_icmp_ge (tgt := 523) hx hb dL_law_408 (by decide) (fun c_648 => ?_) (fun c_648 => ?_)
      · have hf := x_t c_648 hf
        refine lv_iload hx hb dL_law_523 (lv_at hl 12 rfl) ?_
        refine lv_bipush (v := 8) hx hb dL_law_525 (by decide) ?_
        refine lv_icmp_ge (tgt := 725) hx hb dL_law_527 (by decide) (fun c_649 => ?_) (fun c_649 => ?_)
        · have hf := x_t c_649 hf
          refine lv_iload hx hb dL_law_725 (lv_at hl 12 rfl) ?_
          refine lv_bipush (v := 10) hx hb dL_law_727 (by decide) ?_
          refine lv_icmp_ge (tgt := 937) hx hb dL_law_729 (by decide) (fun c_650 => ?_) (fun c_650 => ?_)
          · have hf := x_t c_650 hf
            refine lv_iload hx hb dL_law_937 (lv_at hl 12 rfl) ?_
            refine lv_bipush (v := 10) hx hb dL_law_939 (by decide) ?_
            refine lv_icmp_ne (tgt := 1004) hx hb dL_law_941 (by decide) (fun c_651 => ?_) (fun c_651 => ?_)
            · have hf := x_f c_651 hf
              refine lv_iload hx hb dL_law_1004 (lv_at hl 12 rfl) ?_
              refine lv_bipush (v := 11) hx hb dL_law_1006 (by decide) ?_
              refine lv_icmp_ne (tgt := 1159) hx hb dL_law_1008 (by decide) (fun c_652 => ?_) (fun c_652 => ?_)
              · have hf := x_f c_652 hf
                refine lv_iload hx hb dL_law_1159 (lv_at hl 12 rfl) ?_
                refine lv_bipush (v := 12) hx hb dL_law_1161 (by decide) ?_
                refine lv_icmp_ne (tgt := 1375) hx hb dL_law_1163 (by decide) (fun c_653 => ?_) (fun c_653 => ?_)
                · have hf := x_f c_653 hf
                  refine lv_iload hx hb dL_law_1375 (lv_at hl 12 rfl) ?_
                  refine lv_bipush (v := 15) hx hb dL_law_1377 (by decide) ?_
                  refine lv_icmp_ge (tgt := 1622) hx hb dL_law_1379 (by decide) (fun c_654 => ?_) (fun c_654 => ?_)
                  · have hf := x_t c_654 hf
                    refine lv_iload hx hb dL_law_1622 (lv_at hl 12 rfl) ?_
                    refine lv_bipush (v := 15) hx hb dL_law_1624 (by decide) ?_
                    refine lv_icmp_ne (tgt := 1765) hx hb dL_law_1626 (by decide) (fun c_655 => ?_) (fun c_655 => ?_)
                    · have hf := x_f c_655 hf
                      refine lv_iload hx hb dL_law_1765 (lv_at hl 12 rfl) ?_
                      refine lv_bipush (v := 16) hx hb dL_law_1767 (by decide) ?_
                      refine lv_icmp_ne (tgt := 2167) hx hb dL_law_1769 (by decide) (fun c_656 => ?_) (fun c_656 => ?_)
                      · have hf := x_f c_656 hf
                        refine lv_iconst (v := 0) hx hb dL_law_2167 (by decide) ?_
                        refine lv_istore (lv' := [(16, .int 0), (15, .int x15_645), (0, .ref b), (1, .ref a0), (2, .ref yq0), (3, .ref ym0), (4, .ref yh0), (5, .ref yb0), (6, .ref ye0), (7, .int z7j), (8, .int z8j), (9, .int z9j), (10, .int z10j), (11, .int z11j), (12, .int z12j), (13, .int z13j), (14, .int z14j)]) hx hb dL_law_2168 hl (by decide) rfl (fun ls hl => ?_)
                        refine lv_iconst (v := 0) hx hb dL_law_2170 (by decide) ?_
                        refine lv_istore (lv' := [(17, .int 0), (16, .int 0), (15, .int x15_645), (0, .ref b), (1, .ref a0), (2, .ref yq0), (3, .ref ym0), (4, .ref yh0), (5, .ref yb0), (6, .ref ye0), (7, .int z7j), (8, .int z8j), (9, .int z9j), (10, .int z10j), (11, .int z11j), (12, .int z12j), (13, .int z13j), (14, .int z14j)]) hx hb dL_law_2171 hl (by decide) rfl (fun ls hl => ?_)
                        have hL_2173 : ∀ (n : Nat) (z16_686 : Int32) (z17_687 : Int32) (o : Int32) (H : Heap) (locs : List Loc) (ls : Array Slot), fL_law_L2173 bbj z7j z8j z10j z12j z14j n z16_686 z17_687 = some o → va_P D vwCl (wAE cy ye0 eej ++ (wAM cy ym0 mmj ++ (wAQ cy yq0 qqj ++ (wAH cy yh0 hhj ++ (wAB cy yb0 bbj ++ wX7 cy a0 t0 t1 k0 k1 k2 s0 s1 s2 s3 s4 s5 s6 s7 s8 s9 s10 s11 hd Xle Xch Xpo Xltr Xfi Xse Xth Kszj Kclj Kkej Aszj Anuj Abaj Amoj Acoj Hszj Hlaj Hcej Bszj Blaj Bcej Tmaj Tlcj Ttcj dayj limj lowj higj thrj offj crej rcpj payj svj nxj SLj))))) H → va_D A (wAE cy ye0 eej ++ (wAM cy ym0 mmj ++ (wAQ cy yq0 qqj ++ (wAH cy yh0 hhj ++ (wAB cy yb0 bbj ++ wX7 cy a0 t0 t1 k0 k1 k2 s0 s1 s2 s3 s4 s5 s6 s7 s8 s9 s10 s11 hd Xle Xch Xpo Xltr Xfi Xse Xth Kszj Kclj Kkej Aszj Anuj Abaj Amoj Acoj Hszj Hlaj Hcej Bszj Blaj Bcej Tmaj Tlcj Ttcj dayj limj lowj higj thrj offj crej rcpj payj svj nxj SLj))))) → va_S A s.heap H locs → lv_has ls 27 [(0, .ref b), (1, .ref a0), (2, .ref yq0), (3, .ref ym0), (4, .ref yh0), (5, .ref yb0), (6, .ref ye0), (7, .int z7j), (8, .int z8j), (10, .int z10j), (12, .int z12j), (14, .int z14j), (16, .int z16_686), (17, .int z17_687)] → True → ((∀ (x16_688 : Int32) , o = x16_688 → ∀ (H : Heap) (locs : List Loc) (ls : Array Slot), va_P D vwCl (wAE cy ye0 eej ++ (wAM cy ym0 mmj ++ (wAQ cy yq0 qqj ++ (wAH cy yh0 hhj ++ (wAB cy yb0 bbj ++ wX7 cy a0 t0 t1 k0 k1 k2 s0 s1 s2 s3 s4 s5 s6 s7 s8 s9 s10 s11 hd Xle Xch Xpo Xltr Xfi Xse Xth Kszj Kclj Kkej Aszj Anuj Abaj Amoj Acoj Hszj Hlaj Hcej Bszj Blaj Bcej Tmaj Tlcj Ttcj dayj limj lowj higj thrj offj crej rcpj payj svj nxj SLj))))) H → va_D A (wAE cy ye0 eej ++ (wAM cy ym0 mmj ++ (wAQ cy yq0 qqj ++ (wAH cy yh0 hhj ++ (wAB cy yb0 bbj ++ wX7 cy a0 t0 t1 k0 k1 k2 s0 s1 s2 s3 s4 s5 s6 s7 s8 s9 s10 s11 hd Xle Xch Xpo Xltr Xfi Xse Xth Kszj Kclj Kkej Aszj Anuj Abaj Amoj Acoj Hszj Hlaj Hcej Bszj Blaj Bcej Tmaj Tlcj Ttcj dayj limj lowj higj thrj offj crej rcpj payj svj nxj SLj))))) → va_S A s.heap H locs → lv_has ls 27 [(0, .ref b), (1, .ref a0), (2, .ref yq0), (3, .ref ym0), (4, .ref yh0), (5, .ref yb0), (6, .ref ye0), (7, .int z7j), (8, .int z8j), (10, .int z10j), (12, .int z12j), (14, .int z14j), (16, .int x16_688)] →  W p l e room_1 s m #[Value.ref b] below meth c H locs 600000 7302250 Q (F0 m 2208 ls []))) → W p l e room_1 s m #[Value.ref b] below meth c H locs 600000 7302250 Q (F0 m 2173 ls []) := by
                          intro n
                          induction n with
                          | zero =>
                            intro z16_686 z17_687 o_2173 H locs ls hf
                            rw [fL_law_L2173] at hf
                            cases hf
                          | succ n ih =>
                            intro z16_686 z17_687 o_2173 H locs ls hf hP hD hS hl hr_2173 kx_2173
                            rw [fL_law_L2173] at hf
                            refine lv_iload hx hb dL_law_2173 (lv_at hl 13 rfl) ?_
                            refine lv_bipush (v := 60) hx hb dL_law_2175 (by decide) ?_
                            refine lv_icmp_ge (tgt := 2208) hx hb dL_law_2177 (by decide) (fun c_689 => ?_) (fun c_689 => ?_)
                            · have hf := x_t c_689 hf
                              exact kx_2173 z16_686 (Option.some.inj hf).symm _ _ _ hP hD hS (lv_sub hl [0, 1, 2, 3, 4, 5, 6, 7, 8, 9, 10, 11, 12] rfl)
                            · have hf := x_f c_689 hf
                              refine lv_iload hx hb dL_law_2180 (lv_at hl 12 rfl) ?_
                              refine lv_if_ne (tgt := 2195) hx hb dL_law_2182 (by decide) (fun c_690 => ?_) (fun c_690 => ?_)
                              · have hf := x_f c_690 hf
                                refine lv_iconst (v := 1) hx hb dL_law_2195 (by decide) ?_
                                refine lv_goto (tgt := 2200) hx hb dL_law_2196 (by decide) ?_
                                refine lv_istore (lv' := [(16, .int 1), (0, .ref b), (1, .ref a0), (2, .ref yq0), (3, .ref ym0), (4, .ref yh0), (5, .ref yb0), (6, .ref ye0), (7, .int z7j), (8, .int z8j), (10, .int z10j), (12, .int z12j), (14, .int z14j), (17, .int z17_687)]) hx hb dL_law_2200 hl (by decide) rfl (fun ls hl => ?_)
                                refine lv_iinc (v := (z17_687 + 3)) (lv' := [(17, .int (z17_687 + 3)), (16, .int 1), (0, .ref b), (1, .ref a0), (2, .ref yq0), (3, .ref ym0), (4, .ref yh0), (5, .ref yb0), (6, .ref ye0), (7, .int z7j), (8, .int z8j), (10, .int z10j), (12, .int z12j), (14, .int z14j)]) hx hb dL_law_2202 hl (k := 13) rfl rfl (by decide) rfl (fun ls hl => ?_)
                                refine lv_goto (tgt := 2173) hx hb dL_law_2205 (by decide) ?_
                                exact ih 1 (z17_687 + 3) _ _ _ _ hf hP hD hS (lv_sub hl [2, 3, 4, 5, 6, 7, 8, 9, 10, 11, 12, 13, 1, 0] rfl) hr_2173 kx_2173
                              · have hf := x_t c_690 hf
                                refine lv_aload hx hb dL_law_2185 (lv_at hl 5 rfl) ?_
                                refine lv_iload hx hb dL_law_2187 (lv_at hl 13 rfl) ?_
                                obtain ⟨hi_691, hf⟩ := ckI_el hf
                                refine va_iald hx hb hK hP 4 1 rfl rfl hi_691 dL_law_2189 ?_
                                refine lv_iload hx hb dL_law_2190 (lv_at hl 10 rfl) ?_
                                refine lv_icmp_ne (tgt := 2199) hx hb dL_law_2192 (by decide) (fun c_692 => ?_) (fun c_692 => ?_)
                                · have hf := x_f c_692 hf
                                  refine lv_iconst (v := 0) hx hb dL_law_2199 (by decide) ?_
                                  refine lv_istore (lv' := [(16, .int 0), (0, .ref b), (1, .ref a0), (2, .ref yq0), (3, .ref ym0), (4, .ref yh0), (5, .ref yb0), (6, .ref ye0), (7, .int z7j), (8, .int z8j), (10, .int z10j), (12, .int z12j), (14, .int z14j), (17, .int z17_687)]) hx hb dL_law_2200 hl (by decide) rfl (fun ls hl => ?_)
                                  refine lv_iinc (v := (z17_687 + 3)) (lv' := [(17, .int (z17_687 + 3)), (16, .int 0), (0, .ref b), (1, .ref a0), (2, .ref yq0), (3, .ref ym0), (4, .ref yh0), (5, .ref yb0), (6, .ref ye0), (7, .int z7j), (8, .int z8j), (10, .int z10j), (12, .int z12j), (14, .int z14j)]) hx hb dL_law_2202 hl (k := 13) rfl rfl (by decide) rfl (fun ls hl => ?_)
                                  refine lv_goto (tgt := 2173) hx hb dL_law_2205 (by decide) ?_
                                  exact ih 0 (z17_687 + 3) _ _ _ _ hf hP hD hS (lv_sub hl [2, 3, 4, 5, 6, 7, 8, 9, 10, 11, 12, 13, 1, 0] rfl) hr_2173 kx_2173
                                · have hf := x_t c_692 hf
                                  refine lv_iconst (v := 1) hx hb dL_law_2195 (by decide) ?_
                                  refine lv_goto (tgt := 2200) hx hb dL_law_2196 (by decide) ?_
                                  refine lv_istore (lv' := [(16, .int 1), (0, .ref b), (1, .ref a0), (2, .ref yq0), (3, .ref ym0), (4, .ref yh0), (5, .ref yb0), (6, .ref ye0), (7, .int z7j), (8, .int z8j), (10, .int z10j), (12, .int z12j), (14, .int z14j), (17, .int z17_687)]) hx hb dL_law_2200 hl (by decide) rfl (fun ls hl => ?_)
                                  refine lv_iinc (v := (z17_687 + 3)) (lv' := [(17, .int (z17_687 + 3)), (16, .int 1), (0, .ref b), (1, .ref a0), (2, .ref yq0), (3, .ref ym0), (4, .ref yh0), (5, .ref yb0), (6, .ref ye0), (7, .int z7j), (8, .int z8j), (10, .int z10j), (12, .int z12j), (14, .int z14j)]) hx hb dL_law_2202 hl (k := 13) rfl rfl (by decide) rfl (fun ls hl => ?_)
                                  refine lv_goto (tgt := 2173) hx hb dL_law_2205 (by decide) ?_
                                  exact ih 1 (z17_687 + 3) _ _ _ _ hf hP hD hS (lv_sub hl [2, 3, 4, 5, 6, 7, 8, 9, 10, 11, 12, 13, 1, 0] rfl) hr_2173 kx_2173
                        obtain ⟨x16_657, h1_2173, hf⟩ := bd1_el hf
                        refine hL_2173 2147483648 0 0 _ _ _ _ h1_2173 hP hD hS (lv_sub hl [3, 4, 5, 6, 7, 8, 9, 10, 11, 13, 15, 17, 1, 0] rfl) trivial (fun x16_6579 ho H locs ls hP hD hS hl => ?_)
                        cases ho
                        refine lv_iload hx hb dL_law_2208 (lv_at hl 11 rfl) ?_
                        refine lv_if_eq (tgt := 2231) hx hb dL_law_2210 (by decide) (fun c_658 => ?_) (fun c_658 => ?_)
                        · have hf := x_t c_658 hf
                          refine lv_iconst (v := 0) hx hb dL_law_2231 (by decide) ?_
                          exact (hfL_law_J2232 C0 ye0 ym0 yq0 yh0 yb0 a0 t0 t1 k0 k1 k2 s0 s1 s2 s3 s4 s5 s6 s7 s8 s9 s10 s11 hd Xle Xch Xpo Xltr Xfi Xse Xth rec o_94 ih hr_94 kx_94) eej mmj qqj hhj bbj Kszj Kclj Kkej Aszj Anuj Abaj Amoj Acoj Hszj Hlaj Hcej Bszj Blaj Bcej Tmaj Tlcj Ttcj dayj limj lowj higj thrj offj crej rcpj payj svj nxj SLj z7j z8j z10j z12j z14j 0 _ _ _ hf hP hD hS (lv_sub hl [0, 1, 2, 3, 4, 5, 6, 7, 8, 9, 10, 11] rfl)
                        · have hf := x_f c_658 hf
                          refine lv_aload_n hx hb dL_law_2213 rfl (lv_at hl 3 rfl) ?_
                          refine lv_iload hx hb dL_law_2214 (lv_at hl 10 rfl) ?_
                          obtain ⟨hi_683, hf⟩ := ckI_el hf
                          refine va_lald hx hb hK hP 1 2 rfl rfl hi_683 dL_law_2216 ?_
                          refine lv_lconst (v := 0) hx hb dL_law_2217 (by decide) ?_
                          refine W.lcmp hx hb dL_law_2218 ?_
                          refine lv_if_ne (tgt := 2231) hx hb dL_law_2219 (by decide) (fun c_684 => ?_) (fun c_684 => ?_)
                          · have c_684 := fun q => c_684 ((lg_cmp_eq _ _).mpr q)
                            have hf := x_f c_684 hf
                            refine lv_iconst (v := 0) hx hb dL_law_2231 (by decide) ?_
                            exact (hfL_law_J2232 C0 ye0 ym0 yq0 yh0 yb0 a0 t0 t1 k0 k1 k2 s0 s1 s2 s3 s4 s5 s6 s7 s8 s9 s10 s11 hd Xle Xch Xpo Xltr Xfi Xse Xth rec o_94 ih hr_94 kx_94) eej mmj qqj hhj bbj Kszj Kclj Kkej Aszj Anuj Abaj Amoj Acoj Hszj Hlaj Hcej Bszj Blaj Bcej Tmaj Tlcj Ttcj dayj limj lowj higj thrj offj crej rcpj payj svj nxj SLj z7j z8j z10j z12j z14j 0 _ _ _ hf hP hD hS (lv_sub hl [0, 1, 2, 3, 4, 5, 6, 7, 8, 9, 10, 11] rfl)
                          · have c_684 := (lg_cmp_eq _ _).mp c_684
                            have hf := x_t c_684 hf
                            refine lv_iload hx hb dL_law_2222 (lv_at hl 12 rfl) ?_
                            refine lv_if_ne (tgt := 2231) hx hb dL_law_2224 (by decide) (fun c_685 => ?_) (fun c_685 => ?_)
                            · have hf := x_f c_685 hf
                              refine lv_iconst (v := 0) hx hb dL_law_2231 (by decide) ?_
                              exact (hfL_law_J2232 C0 ye0 ym0 yq0 yh0 yb0 a0 t0 t1 k0 k1 k2 s0 s1 s2 s3 s4 s5 s6 s7 s8 s9 s10 s11 hd Xle Xch Xpo Xltr Xfi Xse Xth rec o_94 ih hr_94 kx_94) eej mmj qqj hhj bbj Kszj Kclj Kkej Aszj Anuj Abaj Amoj Acoj Hszj Hlaj Hcej Bszj Blaj Bcej Tmaj Tlcj Ttcj dayj limj lowj higj thrj offj crej rcpj payj svj nxj SLj z7j z8j z10j z12j z14j 0 _ _ _ hf hP hD hS (lv_sub hl [0, 1, 2, 3, 4, 5, 6, 7, 8, 9, 10, 11] rfl)
                            · have hf := x_t c_685 hf
                              refine lv_iconst (v := 1) hx hb dL_law_2227 (by decide) ?_
                              refine lv_goto (tgt := 2232) hx hb dL_law_2228 (by decide) ?_
                              exact (hfL_law_J2232 C0 ye0 ym0 yq0 yh0 yb0 a0 t0 t1 k0 k1 k2 s0 s1 s2 s3 s4 s5 s6 s7 s8 s9 s10 s11 hd Xle Xch Xpo Xltr Xfi Xse Xth rec o_94 ih hr_94 kx_94) eej mmj qqj hhj bbj Kszj Kclj Kkej Aszj Anuj Abaj Amoj Acoj Hszj Hlaj Hcej Bszj Blaj Bcej Tmaj Tlcj Ttcj dayj limj lowj higj thrj offj crej rcpj payj svj nxj SLj z7j z8j z10j z12j z14j 1 _ _ _ hf hP hD hS (lv_sub hl [0, 1, 2, 3, 4, 5, 6, 7, 8, 9, 10, 11] rfl)
                      · have hf := x_t c_656 hf
                        refine lv_aload_n hx hb dL_law_1772 rfl (lv_at hl 3 rfl) ?_
                        refine lv_iconst (v := 5) hx hb dL_law_1773 (by decide) ?_
                        obtain ⟨hi_693, hf⟩ := ckI_el hf
                        refine va_iald hx hb hK hP 2 1 rfl rfl hi_693 dL_law_1774 ?_
                        refine lv_if_eq (tgt := 2304) hx hb dL_law_1775 (by decide) (fun c_694 => ?_) (fun c_694 => ?_)
                        · have hf := x_t c_694 hf
                          refine lv_iinc (v := (z8j + 1)) (lv' := [(8, .int (z8j + 1)), (15, .int x15_645), (0, .ref b), (1, .ref a0), (2, .ref yq0), (3, .ref ym0), (4, .ref yh0), (5, .ref yb0), (6, .ref ye0), (7, .int z7j), (9, .int z9j), (10, .int z10j), (11, .int z11j), (12, .int z12j), (13, .int z13j), (14, .int z14j)]) hx hb dL_law_2304 hl (k := 9) rfl rfl (by decide) rfl (fun ls hl => ?_)
                          refine lv_goto (tgt := 94) hx hb dL_law_2307 (by decide) ?_
                          exact ih eej mmj qqj hhj bbj Kszj Kclj Kkej Aszj Anuj Abaj Amoj Acoj Hszj Hlaj Hcej Bszj Blaj Bcej Tmaj Tlcj Ttcj dayj limj lowj higj thrj offj crej rcpj payj svj nxj SLj z7j (z8j + 1) _ _ _ _ hf hP hD hS (lv_sub hl [2, 3, 4, 5, 6, 7, 8, 9, 0] rfl) hr_94 kx_94
                        · have hf := x_f c_694 hf
                          refine lv_iload hx hb dL_law_1778 (lv_at hl 8 rfl) ?_
                          refine lv_aload_n hx hb dL_law_1780 rfl (lv_at hl 3 rfl) ?_
                          refine lv_iconst (v := 5) hx hb dL_law_1781 (by decide) ?_
                          obtain ⟨hi_695, hf⟩ := ckI_el hf
                          refine va_iald hx hb hK hP 2 1 rfl rfl hi_695 dL_law_1782 ?_
                          refine lv_icmp_ne (tgt := 1789) hx hb dL_law_1783 (by decide) (fun c_696 => ?_) (fun c_696 => ?_)
                          · have hf := x_f c_696 hf
                            refine lv_bipush (v := 6) hx hb dL_law_1789 (by decide) ?_
                            refine lv_aload_n hx hb dL_law_1791 rfl (lv_at hl 3 rfl) ?_
                            refine lv_iconst (v := 5) hx hb dL_law_1792 (by decide) ?_
                            obtain ⟨hi_697, hf⟩ := ckI_el hf
                            refine va_iald hx hb hK hP 2 1 rfl rfl hi_697 dL_law_1793 ?_
                            refine lv_bipush (v := 10) hx hb dL_law_1794 (by decide) ?_
                            refine lv_irem hx hb dL_law_1796 (by decide) ?_
                            refine lv_imul hx hb dL_law_1797 ?_
                            obtain ⟨x16_698, ex16_698, hf⟩ := lt_el hf
                            refine x_topi ex16_698 ?_
                            refine lv_istore (lv' := [(16, .int x16_698), (15, .int x15_645), (0, .ref b), (1, .ref a0), (2, .ref yq0), (3, .ref ym0), (4, .ref yh0), (5, .ref yb0), (6, .ref ye0), (7, .int z7j), (8, .int z8j), (9, .int z9j), (10, .int z10j), (11, .int z11j), (12, .int z12j), (13, .int z13j), (14, .int z14j)]) hx hb dL_law_1798 hl (by decide) rfl (fun ls hl => ?_)
                            refine lv_aload hx hb dL_law_1800 (lv_at hl 8 rfl) ?_
                            refine lv_iload hx hb dL_law_1802 (lv_at hl 0 rfl) ?_
                            refine lv_iconst (v := 1) hx hb dL_law_1804 (by decide) ?_
                            refine lv_iadd hx hb dL_law_1805 ?_
                            obtain ⟨hi_699, hf⟩ := ckI_el hf
                            refine va_iald hx hb hK hP 0 1 rfl rfl hi_699 dL_law_1806 ?_
                            refine lv_iconst (v := 1) hx hb dL_law_1807 (by decide) ?_
                            refine lv_icmp_ne (tgt := 1821) hx hb dL_law_1808 (by decide) (fun c_700 => ?_) (fun c_700 => ?_)
                            · have hf := x_f c_700 hf
                              refine lv_aload hx hb dL_law_1821 (lv_at hl 8 rfl) ?_
                              refine lv_iload hx hb dL_law_1823 (lv_at hl 0 rfl) ?_
                              refine lv_iconst (v := 1) hx hb dL_law_1825 (by decide) ?_
                              refine lv_iadd hx hb dL_law_1826 ?_
                              obtain ⟨hi_701, hf⟩ := ckI_el hf
                              refine va_iald hx hb hK hP 0 1 rfl rfl hi_701 dL_law_1827 ?_
                              refine lv_iconst (v := 3) hx hb dL_law_1828 (by decide) ?_
                              refine lv_icmp_ne (tgt := 1842) hx hb dL_law_1829 (by decide) (fun c_702 => ?_) (fun c_702 => ?_)
                              · have hf := x_f c_702 hf
                                refine lv_iconst (v := 0) hx hb dL_law_1842 (by decide) ?_
                                exact (hfL_law_J1843 C0 ye0 ym0 yq0 yh0 yb0 a0 t0 t1 k0 k1 k2 s0 s1 s2 s3 s4 s5 s6 s7 s8 s9 s10 s11 hd Xle Xch Xpo Xltr Xfi Xse Xth rec o_94 ih hr_94 kx_94) eej mmj qqj hhj bbj Kszj Kclj Kkej Aszj Anuj Abaj Amoj Acoj Hszj Hlaj Hcej Bszj Blaj Bcej Tmaj Tlcj Ttcj dayj limj lowj higj thrj offj crej rcpj payj svj nxj SLj z7j z8j z10j x16_698 0 _ _ _ hf hP hD hS (lv_sub hl [2, 3, 4, 5, 6, 7, 8, 9, 10, 12, 0] rfl)
                              · have hf := x_t c_702 hf
                                refine lv_aload hx hb dL_law_1832 (lv_at hl 8 rfl) ?_
                                refine lv_iload hx hb dL_law_1834 (lv_at hl 0 rfl) ?_
                                refine lv_iconst (v := 3) hx hb dL_law_1836 (by decide) ?_
                                refine lv_iadd hx hb dL_law_1837 ?_
                                obtain ⟨hi_787, hf⟩ := ckI_el hf
                                refine va_iald hx hb hK hP 0 1 rfl rfl hi_787 dL_law_1838 ?_
                                refine lv_goto (tgt := 1843) hx hb dL_law_1839 (by decide) ?_
                                exact (hfL_law_J1843 C0 ye0 ym0 yq0 yh0 yb0 a0 t0 t1 k0 k1 k2 s0 s1 s2 s3 s4 s5 s6 s7 s8 s9 s10 s11 hd Xle Xch Xpo Xltr Xfi Xse Xth rec o_94 ih hr_94 kx_94) eej mmj qqj hhj bbj Kszj Kclj Kkej Aszj Anuj Abaj Amoj Acoj Hszj Hlaj Hcej Bszj Blaj Bcej Tmaj Tlcj Ttcj dayj limj lowj higj thrj offj crej rcpj payj svj nxj SLj z7j z8j z10j x16_698 (eej (x16_698 + 3).toNatClampNeg) _ _ _ hf hP hD hS (lv_sub hl [2, 3, 4, 5, 6, 7, 8, 9, 10, 12, 0] rfl)
                            · have hf := x_t c_700 hf
                              refine lv_aload hx hb dL_law_1811 (lv_at hl 8 rfl) ?_
                              refine lv_iload hx hb dL_law_1813 (lv_at hl 0 rfl) ?_
                              refine lv_iconst (v := 2) hx hb dL_law_1815 (by decide) ?_
                              refine lv_iadd hx hb dL_law_1816 ?_
                              obtain ⟨hi_788, hf⟩ := ckI_el hf
                              refine va_iald hx hb hK hP 0 1 rfl rfl hi_788 dL_law_1817 ?_
                              refine lv_goto (tgt := 1843) hx hb dL_law_1818 (by decide) ?_
                              exact (hfL_law_J1843 C0 ye0 ym0 yq0 yh0 yb0 a0 t0 t1 k0 k1 k2 s0 s1 s2 s3 s4 s5 s6 s7 s8 s9 s10 s11 hd Xle Xch Xpo Xltr Xfi Xse Xth rec o_94 ih hr_94 kx_94) eej mmj qqj hhj bbj Kszj Kclj Kkej Aszj Anuj Abaj Amoj Acoj Hszj Hlaj Hcej Bszj Blaj Bcej Tmaj Tlcj Ttcj dayj limj lowj higj thrj offj crej rcpj payj svj nxj SLj z7j z8j z10j x16_698 (eej (x16_698 + 2).toNatClampNeg) _ _ _ hf hP hD hS (lv_sub hl [2, 3, 4, 5, 6, 7, 8, 9, 10, 12, 0] rfl)
                          · have hf := x_t c_696 hf
                            refine lv_goto (tgt := 2304) hx hb dL_law_1786 (by decide) ?_
                            refine lv_iinc (v := (z8j + 1)) (lv' := [(8, .int (z8j + 1)), (15, .int x15_645), (0, .ref b), (1, .ref a0), (2, .ref yq0), (3, .ref ym0), (4, .ref yh0), (5, .ref yb0), (6, .ref ye0), (7, .int z7j), (9, .int z9j), (10, .int z10j), (11, .int z11j), (12, .int z12j), (13, .int z13j), (14, .int z14j)]) hx hb dL_law_2304 hl (k := 9) rfl rfl (by decide) rfl (fun ls hl => ?_)
                            refine lv_goto (tgt := 94) hx hb dL_law_2307 (by decide) ?_
                            exact ih eej mmj qqj hhj bbj Kszj Kclj Kkej Aszj Anuj Abaj Amoj Acoj Hszj Hlaj Hcej Bszj Blaj Bcej Tmaj Tlcj Ttcj dayj limj lowj higj thrj offj crej rcpj payj svj nxj SLj z7j (z8j + 1) _ _ _ _ hf hP hD hS (lv_sub hl [2, 3, 4, 5, 6, 7, 8, 9, 0] rfl) hr_94 kx_94
                    · have hf := x_t c_655 hf
                      refine lv_iload hx hb dL_law_1629 (lv_at hl 10 rfl) ?_
                      refine lv_bipush (v := 6) hx hb dL_law_1631 (by decide) ?_
                      refine lv_ishr hx hb dL_law_1633 ?_
                      refine lv_iconst (v := 2) hx hb dL_law_1634 (by decide) ?_
                      obtain ⟨r_789, h_790, hf⟩ := bd1_el hf
                      refine x_callSi (As := [.int (z9j >>> (6 &&& 31)), .int 2]) (rest := []) ⟨hx, hb, hml, hown, hts⟩ (mL_low l D cy   (z9j >>> (6 &&& 31)) 2 r_789 h_790) (va_cwS 2 hts (gcS_L_low hbg wm_4_19) rfl rfl rfl kdL_low ⟨Nat.le_of_ble_eq_true rfl, Nat.le_of_ble_eq_true rfl⟩) (w1 := []) (w2 := wAE cy ye0 eej ++ (wAM cy ym0 mmj ++ (wAQ cy yq0 qqj ++ (wAH cy yh0 hhj ++ (wAB cy yb0 bbj ++ wX7 cy a0 t0 t1 k0 k1 k2 s0 s1 s2 s3 s4 s5 s6 s7 s8 s9 s10 s11 hd Xle Xch Xpo Xltr Xfi Xse Xth Kszj Kclj Kkej Aszj Anuj Abaj Amoj Acoj Hszj Hlaj Hcej Bszj Blaj Bcej Tmaj Tlcj Ttcj dayj limj lowj higj thrj offj crej rcpj payj svj nxj SLj))))) (w' := wAE cy ye0 eej ++ (wAM cy ym0 mmj ++ (wAQ cy yq0 qqj ++ (wAH cy yh0 hhj ++ (wAB cy yb0 bbj ++ wX7 cy a0 t0 t1 k0 k1 k2 s0 s1 s2 s3 s4 s5 s6 s7 s8 s9 s10 s11 hd Xle Xch Xpo Xltr Xfi Xse Xth Kszj Kclj Kkej Aszj Anuj Abaj Amoj Acoj Hszj Hlaj Hcej Bszj Blaj Bcej Tmaj Tlcj Ttcj dayj limj lowj higj thrj offj crej rcpj payj svj nxj SLj))))) rfl rfl hP hK hD hN hS hA rfl hl rfl (Nat.le_of_ble_eq_true rfl) dL_law_1635 ⟨Nat.le_refl _, Nat.le_refl _⟩ (fun H locs hP hD hS => ?_)
                      refine lv_if_ne (tgt := 1651) hx hb dL_law_1638 (by decide) (fun c_791 => ?_) (fun c_791 => ?_)
                      · have hf := x_f c_791 hf
                        refine lv_iload hx hb dL_law_1651 (lv_at hl 11 rfl) ?_
                        refine lv_ldc hx hb hown wd4 dL_law_1653 ?_
                        obtain ⟨r_792, h_793, hf⟩ := bd1_el hf
                        refine x_callSi (As := [.int z10j, .int 900000000]) (rest := []) ⟨hx, hb, hml, hown, hts⟩ (mL_low l D cy   z10j 900000000 r_792 h_793) (va_cwS 2 hts (gcS_L_low hbg wm_4_19) rfl rfl rfl kdL_low ⟨Nat.le_of_ble_eq_true rfl, Nat.le_of_ble_eq_true rfl⟩) (w1 := []) (w2 := wAE cy ye0 eej ++ (wAM cy ym0 mmj ++ (wAQ cy yq0 qqj ++ (wAH cy yh0 hhj ++ (wAB cy yb0 bbj ++ wX7 cy a0 t0 t1 k0 k1 k2 s0 s1 s2 s3 s4 s5 s6 s7 s8 s9 s10 s11 hd Xle Xch Xpo Xltr Xfi Xse Xth Kszj Kclj Kkej Aszj Anuj Abaj Amoj Acoj Hszj Hlaj Hcej Bszj Blaj Bcej Tmaj Tlcj Ttcj dayj limj lowj higj thrj offj crej rcpj payj svj nxj SLj))))) (w' := wAE cy ye0 eej ++ (wAM cy ym0 mmj ++ (wAQ cy yq0 qqj ++ (wAH cy yh0 hhj ++ (wAB cy yb0 bbj ++ wX7 cy a0 t0 t1 k0 k1 k2 s0 s1 s2 s3 s4 s5 s6 s7 s8 s9 s10 s11 hd Xle Xch Xpo Xltr Xfi Xse Xth Kszj Kclj Kkej Aszj Anuj Abaj Amoj Acoj Hszj Hlaj Hcej Bszj Blaj Bcej Tmaj Tlcj Ttcj dayj limj lowj higj thrj offj crej rcpj payj svj nxj SLj))))) rfl rfl hP hK hD hN hS hA rfl hl rfl (Nat.le_of_ble_eq_true rfl) dL_law_1655 ⟨Nat.le_refl _, Nat.le_refl _⟩ (fun H locs hP hD hS => ?_)
                        exact (hfL_law_J1658 C0 ye0 ym0 yq0 yh0 yb0 a0 t0 t1 k0 k1 k2 s0 s1 s2 s3 s4 s5 s6 s7 s8 s9 s10 s11 hd Xle Xch Xpo Xltr Xfi Xse Xth rec o_94 ih hr_94 kx_94) eej mmj qqj hhj bbj Kszj Kclj Kkej Aszj Anuj Abaj Amoj Acoj Hszj Hlaj Hcej Bszj Blaj Bcej Tmaj Tlcj Ttcj dayj limj lowj higj thrj offj crej rcpj payj svj nxj SLj z7j z8j z9j z10j r_792 _ _ _ hf hP hD hS (lv_sub hl [1, 2, 3, 4, 5, 6, 7, 8, 9, 10, 11] rfl)
                      · have hf := x_t c_791 hf
                        refine lv_iload hx hb dL_law_1641 (lv_at hl 11 rfl) ?_
                        refine lv_ldc hx hb hown wd5 dL_law_1643 ?_
                        obtain ⟨r_832, h_833, hf⟩ := bd1_el hf
                        refine x_callSi (As := [.int z10j, .int 300000]) (rest := []) ⟨hx, hb, hml, hown, hts⟩ (mL_low l D cy   z10j 300000 r_832 h_833) (va_cwS 2 hts (gcS_L_low hbg wm_4_19) rfl rfl rfl kdL_low ⟨Nat.le_of_ble_eq_true rfl, Nat.le_of_ble_eq_true rfl⟩) (w1 := []) (w2 := wAE cy ye0 eej ++ (wAM cy ym0 mmj ++ (wAQ cy yq0 qqj ++ (wAH cy yh0 hhj ++ (wAB cy yb0 bbj ++ wX7 cy a0 t0 t1 k0 k1 k2 s0 s1 s2 s3 s4 s5 s6 s7 s8 s9 s10 s11 hd Xle Xch Xpo Xltr Xfi Xse Xth Kszj Kclj Kkej Aszj Anuj Abaj Amoj Acoj Hszj Hlaj Hcej Bszj Blaj Bcej Tmaj Tlcj Ttcj dayj limj lowj higj thrj offj crej rcpj payj svj nxj SLj))))) (w' := wAE cy ye0 eej ++ (wAM cy ym0 mmj ++ (wAQ cy yq0 qqj ++ (wAH cy yh0 hhj ++ (wAB cy yb0 bbj ++ wX7 cy a0 t0 t1 k0 k1 k2 s0 s1 s2 s3 s4 s5 s6 s7 s8 s9 s10 s11 hd Xle Xch Xpo Xltr Xfi Xse Xth Kszj Kclj Kkej Aszj Anuj Abaj Amoj Acoj Hszj Hlaj Hcej Bszj Blaj Bcej Tmaj Tlcj Ttcj dayj limj lowj higj thrj offj crej rcpj payj svj nxj SLj))))) rfl rfl hP hK hD hN hS hA rfl hl rfl (Nat.le_of_ble_eq_true rfl) dL_law_1645 ⟨Nat.le_refl _, Nat.le_refl _⟩ (fun H locs hP hD hS => ?_)
                        refine lv_goto (tgt := 1658) hx hb dL_law_1648 (by decide) ?_
                        exact (hfL_law_J1658 C0 ye0 ym0 yq0 yh0 yb0 a0 t0 t1 k0 k1 k2 s0 s1 s2 s3 s4 s5 s6 s7 s8 s9 s10 s11 hd Xle Xch Xpo Xltr Xfi Xse Xth rec o_94 ih hr_94 kx_94) eej mmj qqj hhj bbj Kszj Kclj Kkej Aszj Anuj Abaj Amoj Acoj Hszj Hlaj Hcej Bszj Blaj Bcej Tmaj Tlcj Ttcj dayj limj lowj higj thrj offj crej rcpj payj svj nxj SLj z7j z8j z9j z10j r_832 _ _ _ hf hP hD hS (lv_sub hl [1, 2, 3, 4, 5, 6, 7, 8, 9, 10, 11] rfl)
                  · have hf := x_f c_654 hf
                    refine lv_iconst (v := 1) hx hb dL_law_1382 (by decide) ?_
                    refine lv_iload hx hb dL_law_1383 (lv_at hl 11 rfl) ?_
                    refine lv_bipush (v := 70) hx hb dL_law_1385 (by decide) ?_
                    obtain ⟨r_834, h_835, hf⟩ := bd1_el hf
                    refine x_callSi (As := [.int z10j, .int 70]) (rest := [.int 1]) ⟨hx, hb, hml, hown, hts⟩ (mL_low l D cy   z10j 70 r_834 h_835) (va_cwS 2 hts (gcS_L_low hbg wm_4_19) rfl rfl rfl kdL_low ⟨Nat.le_of_ble_eq_true rfl, Nat.le_of_ble_eq_true rfl⟩) (w1 := []) (w2 := wAE cy ye0 eej ++ (wAM cy ym0 mmj ++ (wAQ cy yq0 qqj ++ (wAH cy yh0 hhj ++ (wAB cy yb0 bbj ++ wX7 cy a0 t0 t1 k0 k1 k2 s0 s1 s2 s3 s4 s5 s6 s7 s8 s9 s10 s11 hd Xle Xch Xpo Xltr Xfi Xse Xth Kszj Kclj Kkej Aszj Anuj Abaj Amoj Acoj Hszj Hlaj Hcej Bszj Blaj Bcej Tmaj Tlcj Ttcj dayj limj lowj higj thrj offj crej rcpj payj svj nxj SLj))))) (w' := wAE cy ye0 eej ++ (wAM cy ym0 mmj ++ (wAQ cy yq0 qqj ++ (wAH cy yh0 hhj ++ (wAB cy yb0 bbj ++ wX7 cy a0 t0 t1 k0 k1 k2 s0 s1 s2 s3 s4 s5 s6 s7 s8 s9 s10 s11 hd Xle Xch Xpo Xltr Xfi Xse Xth Kszj Kclj Kkej Aszj Anuj Abaj Amoj Acoj Hszj Hlaj Hcej Bszj Blaj Bcej Tmaj Tlcj Ttcj dayj limj lowj higj thrj offj crej rcpj payj svj nxj SLj))))) rfl rfl hP hK hD hN hS hA rfl hl rfl (Nat.le_of_ble_eq_true rfl) dL_law_1387 ⟨Nat.le_refl _, Nat.le_refl _⟩ (fun H locs hP hD hS => ?_)
                    refine lv_iadd hx hb dL_law_1390 ?_
                    obtain ⟨x16_836, ex16_836, hf⟩ := lt_el hf
                    refine x_topi ex16_836 ?_
                    refine lv_istore (lv' := [(16, .int x16_836), (15, .int x15_645), (0, .ref b), (1, .ref a0), (2, .ref yq0), (3, .ref ym0), (4, .ref yh0), (5, .ref yb0), (6, .ref ye0), (7, .int z7j), (8, .int z8j), (9, .int z9j), (10, .int z10j), (11, .int z11j), (12, .int z12j), (13, .int z13j), (14, .int z14j)]) hx hb dL_law_1391 hl (by decide) rfl (fun ls hl => ?_)
                    refine lv_lconst (v := 0) hx hb dL_law_1393 (by decide) ?_
                    refine lv_lstore (lv' := [(17, .long 0), (16, .int x16_836), (15, .int x15_645), (0, .ref b), (1, .ref a0), (2, .ref yq0), (3, .ref ym0), (4, .ref yh0), (5, .ref yb0), (6, .ref ye0), (7, .int z7j), (8, .int z8j), (9, .int z9j), (10, .int z10j), (11, .int z11j), (12, .int z12j), (13, .int z13j), (14, .int z14j)]) hx hb dL_law_1394 hl (by decide) rfl (fun ls hl => ?_)
                    refine lv_iload hx hb dL_law_1396 (lv_at hl 17 rfl) ?_
                    refine lv_if_eq (tgt := 1571) hx hb dL_law_1398 (by decide) (fun c_837 => ?_) (fun c_837 => ?_)
                    · have hf := x_t c_837 hf
                      refine lv_aload_n hx hb dL_law_1571 rfl (lv_at hl 4 rfl) ?_
                      refine lv_iload hx hb dL_law_1572 (lv_at hl 15 rfl) ?_
                      refine lv_iload hx hb dL_law_1574 (lv_at hl 1 rfl) ?_
                      obtain ⟨r_838, h_839, hf⟩ := bd1_el hf
                      refine x_callVi (As := [.int z12j, .int x16_836]) (rest := []) ⟨hx, hb, hml, hown, hts⟩ (mX7_interestIn l D cy a0 t0 t1 k0 k1 k2 s0 s1 s2 s3 s4 s5 s6 s7 s8 s9 s10 s11 hd Xle Xch Xpo Xltr Xfi Xse Xth Kszj Kclj Kkej Aszj Anuj Abaj Amoj Acoj Hszj Hlaj Hcej Bszj Blaj Bcej Tmaj Tlcj Ttcj dayj limj lowj higj thrj offj crej rcpj payj svj nxj SLj z12j x16_836 r_838 h_839) (cwV 2 hts (gcV_X7_interestIn hbg wm_14_2) rfl rfl rfl kdX7_interestIn ⟨Nat.le_of_ble_eq_true rfl, Nat.le_of_ble_eq_true rfl⟩) (w1 := wAE cy ye0 eej ++ (wAM cy ym0 mmj ++ (wAQ cy yq0 qqj ++ (wAH cy yh0 hhj ++ (wAB cy yb0 bbj))))) (w2 := []) (w' := wAE cy ye0 eej ++ (wAM cy ym0 mmj ++ (wAQ cy yq0 qqj ++ (wAH cy yh0 hhj ++ (wAB cy yb0 bbj ++ wX7 cy a0 t0 t1 k0 k1 k2 s0 s1 s2 s3 s4 s5 s6 s7 s8 s9 s10 s11 hd Xle Xch Xpo Xltr Xfi Xse Xth Kszj Kclj Kkej Aszj Anuj Abaj Amoj Acoj Hszj Hlaj Hcej Bszj Blaj Bcej Tmaj Tlcj Ttcj dayj limj lowj higj thrj offj crej rcpj payj svj nxj SLj))))) (by simp only [List.append_assoc, List.append_nil, List.nil_append]) (by simp only [List.append_assoc, List.append_nil, List.nil_append]) hP hK hD hN hS hA (q0 := 0) rfl rfl rfl rfl hl rfl (Nat.le_of_ble_eq_true rfl) dL_law_1576 ⟨Nat.le_refl _, Nat.le_refl _⟩ (fun H locs hP hD hS => ?_)
                      refine lv_iconst (v := (-1)) hx hb dL_law_1579 (by decide) ?_
                      refine lv_icmp_ne (tgt := 1594) hx hb dL_law_1580 (by decide) (fun c_840 => ?_) (fun c_840 => ?_)
                      · have hf := x_f c_840 hf
                        refine lv_iconst (v := 0) hx hb dL_law_1594 (by decide) ?_
                        have hf := Option.some.inj hf
                        have hf := (hr_94 _ hf.symm)
                        exact absurd hf (by decide)
                      · have hf := x_t c_840 hf
                        refine lv_aload_n hx hb dL_law_1583 rfl (lv_at hl 4 rfl) ?_
                        refine lv_iload hx hb dL_law_1584 (lv_at hl 15 rfl) ?_
                        refine lv_iconst (v := 1) hx hb dL_law_1586 (by decide) ?_
                        obtain ⟨r_841, h_842, hf⟩ := bd1_el hf
                        refine x_callVi (As := [.int z12j, .int 1]) (rest := []) ⟨hx, hb, hml, hown, hts⟩ (mX7_payableOn l D cy a0 t0 t1 k0 k1 k2 s0 s1 s2 s3 s4 s5 s6 s7 s8 s9 s10 s11 hd Xle Xch Xpo Xltr Xfi Xse Xth Kszj Kclj Kkej Aszj Anuj Abaj Amoj Acoj Hszj Hlaj Hcej Bszj Blaj Bcej Tmaj Tlcj Ttcj dayj limj lowj higj thrj offj crej rcpj payj svj nxj SLj z12j 1 r_841 h_842) (cwV 2 hts (gcV_X7_payableOn hbg wm_15_6) rfl rfl rfl kdX7_payableOn ⟨Nat.le_of_ble_eq_true rfl, Nat.le_of_ble_eq_true rfl⟩) (w1 := wAE cy ye0 eej ++ (wAM cy ym0 mmj ++ (wAQ cy yq0 qqj ++ (wAH cy yh0 hhj ++ (wAB cy yb0 bbj))))) (w2 := []) (w' := wAE cy ye0 eej ++ (wAM cy ym0 mmj ++ (wAQ cy yq0 qqj ++ (wAH cy yh0 hhj ++ (wAB cy yb0 bbj ++ wX7 cy a0 t0 t1 k0 k1 k2 s0 s1 s2 s3 s4 s5 s6 s7 s8 s9 s10 s11 hd Xle Xch Xpo Xltr Xfi Xse Xth Kszj Kclj Kkej Aszj Anuj Abaj Amoj Acoj Hszj Hlaj Hcej Bszj Blaj Bcej Tmaj Tlcj Ttcj dayj limj lowj higj thrj offj crej rcpj payj svj nxj SLj))))) (by simp only [List.append_assoc, List.append_nil, List.nil_append]) (by simp only [List.append_assoc, List.append_nil, List.nil_append]) hP hK hD hN hS hA (q0 := 0) rfl rfl rfl rfl hl rfl (Nat.le_of_ble_eq_true rfl) dL_law_1587 ⟨Nat.le_refl _, Nat.le_refl _⟩ (fun H locs hP hD hS => ?_)
                        refine lv_iconst (v := (-1)) hx hb dL_law_1590 (by decide) ?_
                        refine lv_icmp_eq (tgt := 1596) hx hb dL_law_1591 (by decide) (fun c_843 => ?_) (fun c_843 => ?_)
                        · have hf := x_t c_843 hf
                          exact (hfL_law_J1596 C0 ye0 ym0 yq0 yh0 yb0 a0 t0 t1 k0 k1 k2 s0 s1 s2 s3 s4 s5 s6 s7 s8 s9 s10 s11 hd Xle Xch Xpo Xltr Xfi Xse Xth rec o_94 ih hr_94 kx_94) eej mmj qqj hhj bbj Kszj Kclj Kkej Aszj Anuj Abaj Amoj Acoj Hszj Hlaj Hcej Bszj Blaj Bcej Tmaj Tlcj Ttcj dayj limj lowj higj thrj offj crej rcpj payj svj nxj SLj z7j z8j z10j x16_836 _ _ _ hf hP hD hS (lv_sub hl [3, 4, 5, 6, 7, 8, 9, 10, 11, 13, 1] rfl)
                        · have hf := x_f c_843 hf
                          refine lv_iconst (v := 0) hx hb dL_law_1594 (by decide) ?_
                          have hf := Option.some.inj hf
                          have hf := (hr_94 _ hf.symm)
                          exact absurd hf (by decide)
                    · have hf := x_f c_837 hf
                      refine lv_aload_n hx hb dL_law_1401 rfl (lv_at hl 6 rfl) ?_
                      refine lv_iload hx hb dL_law_1402 (lv_at hl 15 rfl) ?_
                      obtain ⟨hi_866, hf⟩ := ckI_el hf
                      refine va_lald hx hb hK hP 1 2 rfl rfl hi_866 dL_law_1404 ?_
                      obtain ⟨x19_867, ex19_867, hf⟩ := lt_el hf
                      refine x_topl ex19_867 ?_
                      refine lv_lstore (lv' := [(19, .long x19_867), (17, .long 0), (16, .int x16_836), (15, .int x15_645), (0, .ref b), (1, .ref a0), (2, .ref yq0), (3, .ref ym0), (4, .ref yh0), (5, .ref yb0), (6, .ref ye0), (7, .int z7j), (8, .int z8j), (9, .int z9j), (10, .int z10j), (11, .int z11j), (12, .int z12j), (13, .int z13j), (14, .int z14j)]) hx hb dL_law_1405 hl (by decide) rfl (fun ls hl => ?_)
                      refine lv_aload_n hx hb dL_law_1407 rfl (lv_at hl 7 rfl) ?_
                      refine lv_bipush (v := 10) hx hb dL_law_1408 (by decide) ?_
                      refine lv_iload hx hb dL_law_1410 (lv_at hl 16 rfl) ?_
                      refine lv_iadd hx hb dL_law_1412 ?_
                      obtain ⟨hi_868, hf⟩ := ckI_el hf
                      refine va_lald hx hb hK hP 1 2 rfl rfl hi_868 dL_law_1413 ?_
                      obtain ⟨x21_869, ex21_869, hf⟩ := lt_el hf
                      refine x_topl ex21_869 ?_
                      refine lv_lstore (lv' := [(21, .long x21_869), (19, .long x19_867), (17, .long 0), (16, .int x16_836), (15, .int x15_645), (0, .ref b), (1, .ref a0), (2, .ref yq0), (3, .ref ym0), (4, .ref yh0), (5, .ref yb0), (6, .ref ye0), (7, .int z7j), (8, .int z8j), (9, .int z9j), (10, .int z10j), (11, .int z11j), (12, .int z12j), (13, .int z13j), (14, .int z14j)]) hx hb dL_law_1414 hl (by decide) rfl (fun ls hl => ?_)
                      refine lv_bipush (v := (-6)) hx hb dL_law_1416 (by decide) ?_
                      refine lv_istore (lv' := [(23, .int (-6)), (21, .long x21_869), (19, .long x19_867), (17, .long 0), (16, .int x16_836), (15, .int x15_645), (0, .ref b), (1, .ref a0), (2, .ref yq0), (3, .ref ym0), (4, .ref yh0), (5, .ref yb0), (6, .ref ye0), (7, .int z7j), (8, .int z8j), (9, .int z9j), (10, .int z10j), (11, .int z11j), (12, .int z12j), (13, .int z13j), (14, .int z14j)]) hx hb dL_law_1418 hl (by decide) rfl (fun ls hl => ?_)
                      refine lv_iconst (v := 0) hx hb dL_law_1420 (by decide) ?_
                      refine lv_istore (lv' := [(24, .int 0), (23, .int (-6)), (21, .long x21_869), (19, .long x19_867), (17, .long 0), (16, .int x16_836), (15, .int x15_645), (0, .ref b), (1, .ref a0), (2, .ref yq0), (3, .ref ym0), (4, .ref yh0), (5, .ref yb0), (6, .ref ye0), (7, .int z7j), (8, .int z8j), (9, .int z9j), (10, .int z10j), (11, .int z11j), (12, .int z12j), (13, .int z13j), (14, .int z14j)]) hx hb dL_law_1421 hl (by decide) rfl (fun ls hl => ?_)
                      have hL_1423 : ∀ (n : Nat) (mm_883 : Nat → Int64) (z17_884 : Int64) (z23_885 : Int32) (z24_886 : Int32) (o : (Nat → Int64) × Int64 × Int32) (H : Heap) (locs : List Loc) (ls : Array Slot), fL_law_L1423 qqj hhj z7j z8j z10j z12j x15_645 x16_836 x19_867 x21_869 n mm_883 z17_884 z23_885 z24_886 = some o → va_P D vwCl (wAE cy ye0 eej ++ (wAM cy ym0 mm_883 ++ (wAQ cy yq0 qqj ++ (wAH cy yh0 hhj ++ (wAB cy yb0 bbj ++ wX7 cy a0 t0 t1 k0 k1 k2 s0 s1 s2 s3 s4 s5 s6 s7 s8 s9 s10 s11 hd Xle Xch Xpo Xltr Xfi Xse Xth Kszj Kclj Kkej Aszj Anuj Abaj Amoj Acoj Hszj Hlaj Hcej Bszj Blaj Bcej Tmaj Tlcj Ttcj dayj limj lowj higj thrj offj crej rcpj payj svj nxj SLj))))) H → va_D A (wAE cy ye0 eej ++ (wAM cy ym0 mm_883 ++ (wAQ cy yq0 qqj ++ (wAH cy yh0 hhj ++ (wAB cy yb0 bbj ++ wX7 cy a0 t0 t1 k0 k1 k2 s0 s1 s2 s3 s4 s5 s6 s7 s8 s9 s10 s11 hd Xle Xch Xpo Xltr Xfi Xse Xth Kszj Kclj Kkej Aszj Anuj Abaj Amoj Acoj Hszj Hlaj Hcej Bszj Blaj Bcej Tmaj Tlcj Ttcj dayj limj lowj higj thrj offj crej rcpj payj svj nxj SLj))))) → va_S A s.heap H locs → lv_has ls 27 [(0, .ref b), (1, .ref a0), (2, .ref yq0), (3, .ref ym0), (4, .ref yh0), (5, .ref yb0), (6, .ref ye0), (7, .int z7j), (8, .int z8j), (10, .int z10j), (12, .int z12j), (15, .int x15_645), (16, .int x16_836), (17, .long z17_884), (19, .long x19_867), (21, .long x21_869), (23, .int z23_885), (24, .int z24_886)] → True → ((∀ (mm_887 : Nat → Int64) (x17_888 : Int64) (x23_889 : Int32) , o = (mm_887, x17_888, x23_889) → ∀ (H : Heap) (locs : List Loc) (ls : Array Slot), va_P D vwCl (wAE cy ye0 eej ++ (wAM cy ym0 mm_887 ++ (wAQ cy yq0 qqj ++ (wAH cy yh0 hhj ++ (wAB cy yb0 bbj ++ wX7 cy a0 t0 t1 k0 k1 k2 s0 s1 s2 s3 s4 s5 s6 s7 s8 s9 s10 s11 hd Xle Xch Xpo Xltr Xfi Xse Xth Kszj Kclj Kkej Aszj Anuj Abaj Amoj Acoj Hszj Hlaj Hcej Bszj Blaj Bcej Tmaj Tlcj Ttcj dayj limj lowj higj thrj offj crej rcpj payj svj nxj SLj))))) H → va_D A (wAE cy ye0 eej ++ (wAM cy ym0 mm_887 ++ (wAQ cy yq0 qqj ++ (wAH cy yh0 hhj ++ (wAB cy yb0 bbj ++ wX7 cy a0 t0 t1 k0 k1 k2 s0 s1 s2 s3 s4 s5 s6 s7 s8 s9 s10 s11 hd Xle Xch Xpo Xltr Xfi Xse Xth Kszj Kclj Kkej Aszj Anuj Abaj Amoj Acoj Hszj Hlaj Hcej Bszj Blaj Bcej Tmaj Tlcj Ttcj dayj limj lowj higj thrj offj crej rcpj payj svj nxj SLj))))) → va_S A s.heap H locs → lv_has ls 27 [(0, .ref b), (1, .ref a0), (2, .ref yq0), (3, .ref ym0), (4, .ref yh0), (5, .ref yb0), (6, .ref ye0), (7, .int z7j), (8, .int z8j), (10, .int z10j), (12, .int z12j), (15, .int x15_645), (16, .int x16_836), (17, .long x17_888), (19, .long x19_867), (21, .long x21_869), (23, .int x23_889)] →  W p l e room_1 s m #[Value.ref b] below meth c H locs 600000 7302250 Q (F0 m 1523 ls []))) → W p l e room_1 s m #[Value.ref b] below meth c H locs 600000 7302250 Q (F0 m 1423 ls []) := by
                        intro n
                        induction n with
                        | zero =>
                          intro mm_883 z17_884 z23_885 z24_886 o_1423 H locs ls hf
                          rw [fL_law_L1423] at hf
                          cases hf
                        | succ n ih =>
                          intro mm_883 z17_884 z23_885 z24_886 o_1423 H locs ls hf hP hD hS hl hr_1423 kx_1423
                          rw [fL_law_L1423] at hf
                          have hfL_law_J1470 : ∀ (mmj : Nat → Int64) (z23j : Int32) (z24j : Int32) (s0j : Int64) (s1j : Int64) (H : Heap) (locs : List Loc) (ls : Array Slot), fL_law_J1470 qqj hhj z7j z8j z10j z12j x15_645 x16_836 x19_867 x21_869 mmj z23j z24j s0j s1j (fL_law_L1423 qqj hhj z7j z8j z10j z12j x15_645 x16_836 x19_867 x21_869 n) = some o_1423 → va_P D vwCl (wAE cy ye0 eej ++ (wAM cy ym0 mmj ++ (wAQ cy yq0 qqj ++ (wAH cy yh0 hhj ++ (wAB cy yb0 bbj ++ wX7 cy a0 t0 t1 k0 k1 k2 s0 s1 s2 s3 s4 s5 s6 s7 s8 s9 s10 s11 hd Xle Xch Xpo Xltr Xfi Xse Xth Kszj Kclj Kkej Aszj Anuj Abaj Amoj Acoj Hszj Hlaj Hcej Bszj Blaj Bcej Tmaj Tlcj Ttcj dayj limj lowj higj thrj offj crej rcpj payj svj nxj SLj))))) H → va_D A (wAE cy ye0 eej ++ (wAM cy ym0 mmj ++ (wAQ cy yq0 qqj ++ (wAH cy yh0 hhj ++ (wAB cy yb0 bbj ++ wX7 cy a0 t0 t1 k0 k1 k2 s0 s1 s2 s3 s4 s5 s6 s7 s8 s9 s10 s11 hd Xle Xch Xpo Xltr Xfi Xse Xth Kszj Kclj Kkej Aszj Anuj Abaj Amoj Acoj Hszj Hlaj Hcej Bszj Blaj Bcej Tmaj Tlcj Ttcj dayj limj lowj higj thrj offj crej rcpj payj svj nxj SLj))))) → va_S A s.heap H locs → lv_has ls 27 [(0, .ref b), (1, .ref a0), (2, .ref yq0), (3, .ref ym0), (4, .ref yh0), (5, .ref yb0), (6, .ref ye0), (7, .int z7j), (8, .int z8j), (10, .int z10j), (12, .int z12j), (15, .int x15_645), (16, .int x16_836), (19, .long x19_867), (21, .long x21_869), (23, .int z23j), (24, .int z24j)] → W p l e room_1 s m #[Value.ref b] below meth c H locs 600000 7302250 Q (F0 m 1470 ls [.long s0j, .long s1j]) := by
                            intro mmj z23j z24j s0j s1j H locs ls hf hP hD hS hl
                            unfold fL_law_J1470 at hf
                            refine lv_ladd hx hb dL_law_1470 ?_
                            obtain ⟨x17_897, ex17_897, hf⟩ := lt_el hf
                            refine x_topl ex17_897 ?_
                            refine lv_lstore (lv' := [(17, .long x17_897), (0, .ref b), (1, .ref a0), (2, .ref yq0), (3, .ref ym0), (4, .ref yh0), (5, .ref yb0), (6, .ref ye0), (7, .int z7j), (8, .int z8j), (10, .int z10j), (12, .int z12j), (15, .int x15_645), (16, .int x16_836), (19, .long x19_867), (21, .long x21_869), (23, .int z23j), (24, .int z24j)]) hx hb dL_law_1471 hl (by decide) rfl (fun ls hl => ?_)
                            refine lv_iload hx hb dL_law_1473 (lv_at hl 16 rfl) ?_
                            refine lv_if_ge (tgt := 1513) hx hb dL_law_1475 (by decide) (fun c_898 => ?_) (fun c_898 => ?_)
                            · have hf := x_t c_898 hf
                              refine lv_iload hx hb dL_law_1513 (lv_at hl 16 rfl) ?_
                              refine lv_istore (lv' := [(23, .int z23j), (17, .long x17_897), (0, .ref b), (1, .ref a0), (2, .ref yq0), (3, .ref ym0), (4, .ref yh0), (5, .ref yb0), (6, .ref ye0), (7, .int z7j), (8, .int z8j), (10, .int z10j), (12, .int z12j), (15, .int x15_645), (16, .int x16_836), (19, .long x19_867), (21, .long x21_869), (24, .int z24j)]) hx hb dL_law_1515 hl (by decide) rfl (fun ls hl => ?_)
                              refine lv_iinc (v := (z24j + 1)) (lv' := [(24, .int (z24j + 1)), (23, .int z23j), (17, .long x17_897), (0, .ref b), (1, .ref a0), (2, .ref yq0), (3, .ref ym0), (4, .ref yh0), (5, .ref yb0), (6, .ref ye0), (7, .int z7j), (8, .int z8j), (10, .int z10j), (12, .int z12j), (15, .int x15_645), (16, .int x16_836), (19, .long x19_867), (21, .long x21_869)]) hx hb dL_law_1517 hl (k := 17) rfl rfl (by decide) rfl (fun ls hl => ?_)
                              refine lv_goto (tgt := 1423) hx hb dL_law_1520 (by decide) ?_
                              exact ih mmj x17_897 z23j (z24j + 1) _ _ _ _ hf hP hD hS (lv_sub hl [3, 4, 5, 6, 7, 8, 9, 10, 11, 12, 13, 14, 15, 2, 16, 17, 1, 0] rfl) hr_1423 kx_1423
                            · have hf := x_f c_898 hf
                              refine lv_aload_n hx hb dL_law_1478 rfl (lv_at hl 4 rfl) ?_
                              refine lv_iload hx hb dL_law_1479 (lv_at hl 11 rfl) ?_
                              obtain ⟨hi_899, hf⟩ := ckI_el hf
                              refine va_lald hx hb hK hP 1 2 rfl rfl hi_899 dL_law_1481 ?_
                              refine lv_iload hx hb dL_law_1482 (lv_at hl 11 rfl) ?_
                              refine lv_aload_n hx hb dL_law_1484 rfl (lv_at hl 3 rfl) ?_
                              refine lv_iconst (v := 0) hx hb dL_law_1485 (by decide) ?_
                              obtain ⟨hi_900, hf⟩ := ckI_el hf
                              refine va_iald hx hb hK hP 2 1 rfl rfl hi_900 dL_law_1486 ?_
                              refine lv_iload hx hb dL_law_1487 (lv_at hl 17 rfl) ?_
                              refine lv_iadd hx hb dL_law_1489 ?_
                              refine lv_aload hx hb dL_law_1490 (lv_at hl 5 rfl) ?_
                              obtain ⟨r_901, h_902, hf⟩ := bd1_el hf
                              refine x_callSi (As := [.int z12j, .int ((qqj (0 : Int32).toNatClampNeg) + z24j), .ref yh0]) (rest := [.long (mmj z12j.toNatClampNeg)]) ⟨hx, hb, hml, hown, hts⟩ (mL_held l D cy yh0 hhj z12j ((qqj (0 : Int32).toNatClampNeg) + z24j) r_901 h_902) (va_cwS 3 hts (gcS_L_held hbg wm_10_10) rfl rfl rfl kdL_held ⟨Nat.le_of_ble_eq_true rfl, Nat.le_of_ble_eq_true rfl⟩) (w1 := wAE cy ye0 eej ++ (wAM cy ym0 mmj ++ (wAQ cy yq0 qqj))) (w2 := wAB cy yb0 bbj ++ (wX7 cy a0 t0 t1 k0 k1 k2 s0 s1 s2 s3 s4 s5 s6 s7 s8 s9 s10 s11 hd Xle Xch Xpo Xltr Xfi Xse Xth Kszj Kclj Kkej Aszj Anuj Abaj Amoj Acoj Hszj Hlaj Hcej Bszj Blaj Bcej Tmaj Tlcj Ttcj dayj limj lowj higj thrj offj crej rcpj payj svj nxj SLj)) (w' := wAE cy ye0 eej ++ (wAM cy ym0 mmj ++ (wAQ cy yq0 qqj ++ (wAH cy yh0 hhj ++ (wAB cy yb0 bbj ++ wX7 cy a0 t0 t1 k0 k1 k2 s0 s1 s2 s3 s4 s5 s6 s7 s8 s9 s10 s11 hd Xle Xch Xpo Xltr Xfi Xse Xth Kszj Kclj Kkej Aszj Anuj Abaj Amoj Acoj Hszj Hlaj Hcej Bszj Blaj Bcej Tmaj Tlcj Ttcj dayj limj lowj higj thrj offj crej rcpj payj svj nxj SLj))))) (by simp only [List.append_assoc, List.append_nil, List.nil_append]) (by simp only [List.append_assoc, List.append_nil, List.nil_append]) hP hK hD hN hS hA rfl hl rfl (Nat.le_of_ble_eq_true rfl) dL_law_1492 ⟨Nat.le_refl _, Nat.le_refl _⟩ (fun H locs hP hD hS => ?_)
                              refine lv_i2l (v := r_901.toInt64) hx hb dL_law_1495 rfl ?_
                              refine lv_lsub hx hb dL_law_1496 ?_
                              refine lv_iload hx hb dL_law_1497 (lv_at hl 12 rfl) ?_
                              refine lv_i2l (v := x15_645.toInt64) hx hb dL_law_1499 rfl ?_
                              refine W.lcmp hx hb dL_law_1500 ?_
                              refine lv_if_lt (tgt := 1513) hx hb dL_law_1501 (by decide) (fun c_903 => ?_) (fun c_903 => ?_)
                              · have c_903 := (lg_cmp_lt _ _).mp c_903
                                have hf := x_t c_903 hf
                                refine lv_iload hx hb dL_law_1513 (lv_at hl 16 rfl) ?_
                                refine lv_istore (lv' := [(23, .int z23j), (17, .long x17_897), (0, .ref b), (1, .ref a0), (2, .ref yq0), (3, .ref ym0), (4, .ref yh0), (5, .ref yb0), (6, .ref ye0), (7, .int z7j), (8, .int z8j), (10, .int z10j), (12, .int z12j), (15, .int x15_645), (16, .int x16_836), (19, .long x19_867), (21, .long x21_869), (24, .int z24j)]) hx hb dL_law_1515 hl (by decide) rfl (fun ls hl => ?_)
                                refine lv_iinc (v := (z24j + 1)) (lv' := [(24, .int (z24j + 1)), (23, .int z23j), (17, .long x17_897), (0, .ref b), (1, .ref a0), (2, .ref yq0), (3, .ref ym0), (4, .ref yh0), (5, .ref yb0), (6, .ref ye0), (7, .int z7j), (8, .int z8j), (10, .int z10j), (12, .int z12j), (15, .int x15_645), (16, .int x16_836), (19, .long x19_867), (21, .long x21_869)]) hx hb dL_law_1517 hl (k := 17) rfl rfl (by decide) rfl (fun ls hl => ?_)
                                refine lv_goto (tgt := 1423) hx hb dL_law_1520 (by decide) ?_
                                exact ih mmj x17_897 z23j (z24j + 1) _ _ _ _ hf hP hD hS (lv_sub hl [3, 4, 5, 6, 7, 8, 9, 10, 11, 12, 13, 14, 15, 2, 16, 17, 1, 0] rfl) hr_1423 kx_1423
                              · have c_903 := fun q => c_903 ((lg_cmp_lt _ _).mpr q)
                                have hf := x_f c_903 hf
                                refine lv_aload_n hx hb dL_law_1504 rfl (lv_at hl 3 rfl) ?_
                                refine lv_iconst (v := 0) hx hb dL_law_1505 (by decide) ?_
                                obtain ⟨hi_904, hf⟩ := ckI_el hf
                                refine va_iald hx hb hK hP 2 1 rfl rfl hi_904 dL_law_1506 ?_
                                refine lv_iload hx hb dL_law_1507 (lv_at hl 17 rfl) ?_
                                refine lv_iadd hx hb dL_law_1509 ?_
                                refine lv_goto (tgt := 1515) hx hb dL_law_1510 (by decide) ?_
                                obtain ⟨x23_905, ex23_905, hf⟩ := lt_el hf
                                refine x_topi ex23_905 ?_
                                refine lv_istore (lv' := [(23, .int x23_905), (17, .long x17_897), (0, .ref b), (1, .ref a0), (2, .ref yq0), (3, .ref ym0), (4, .ref yh0), (5, .ref yb0), (6, .ref ye0), (7, .int z7j), (8, .int z8j), (10, .int z10j), (12, .int z12j), (15, .int x15_645), (16, .int x16_836), (19, .long x19_867), (21, .long x21_869), (24, .int z24j)]) hx hb dL_law_1515 hl (by decide) rfl (fun ls hl => ?_)
                                refine lv_iinc (v := (z24j + 1)) (lv' := [(24, .int (z24j + 1)), (23, .int x23_905), (17, .long x17_897), (0, .ref b), (1, .ref a0), (2, .ref yq0), (3, .ref ym0), (4, .ref yh0), (5, .ref yb0), (6, .ref ye0), (7, .int z7j), (8, .int z8j), (10, .int z10j), (12, .int z12j), (15, .int x15_645), (16, .int x16_836), (19, .long x19_867), (21, .long x21_869)]) hx hb dL_law_1517 hl (k := 17) rfl rfl (by decide) rfl (fun ls hl => ?_)
                                refine lv_goto (tgt := 1423) hx hb dL_law_1520 (by decide) ?_
                                exact ih mmj x17_897 x23_905 (z24j + 1) _ _ _ _ hf hP hD hS (lv_sub hl [3, 4, 5, 6, 7, 8, 9, 10, 11, 12, 13, 14, 15, 2, 16, 17, 1, 0] rfl) hr_1423 kx_1423
                          have hfL_law_J1453 : ∀ (mmj : Nat → Int64) (z17j : Int64) (z23j : Int32) (z24j : Int32) (s0j : Int64) (H : Heap) (locs : List Loc) (ls : Array Slot), fL_law_J1453 qqj hhj z7j z8j z10j z12j x15_645 x16_836 x19_867 x21_869 mmj z17j z23j z24j s0j (fL_law_L1423 qqj hhj z7j z8j z10j z12j x15_645 x16_836 x19_867 x21_869 n) = some o_1423 → va_P D vwCl (wAE cy ye0 eej ++ (wAM cy ym0 mmj ++ (wAQ cy yq0 qqj ++ (wAH cy yh0 hhj ++ (wAB cy yb0 bbj ++ wX7 cy a0 t0 t1 k0 k1 k2 s0 s1 s2 s3 s4 s5 s6 s7 s8 s9 s10 s11 hd Xle Xch Xpo Xltr Xfi Xse Xth Kszj Kclj Kkej Aszj Anuj Abaj Amoj Acoj Hszj Hlaj Hcej Bszj Blaj Bcej Tmaj Tlcj Ttcj dayj limj lowj higj thrj offj crej rcpj payj svj nxj SLj))))) H → va_D A (wAE cy ye0 eej ++ (wAM cy ym0 mmj ++ (wAQ cy yq0 qqj ++ (wAH cy yh0 hhj ++ (wAB cy yb0 bbj ++ wX7 cy a0 t0 t1 k0 k1 k2 s0 s1 s2 s3 s4 s5 s6 s7 s8 s9 s10 s11 hd Xle Xch Xpo Xltr Xfi Xse Xth Kszj Kclj Kkej Aszj Anuj Abaj Amoj Acoj Hszj Hlaj Hcej Bszj Blaj Bcej Tmaj Tlcj Ttcj dayj limj lowj higj thrj offj crej rcpj payj svj nxj SLj))))) → va_S A s.heap H locs → lv_has ls 27 [(0, .ref b), (1, .ref a0), (2, .ref yq0), (3, .ref ym0), (4, .ref yh0), (5, .ref yb0), (6, .ref ye0), (7, .int z7j), (8, .int z8j), (10, .int z10j), (12, .int z12j), (15, .int x15_645), (16, .int x16_836), (17, .long z17j), (19, .long x19_867), (21, .long x21_869), (23, .int z23j), (24, .int z24j)] → W p l e room_1 s m #[Value.ref b] below meth c H locs 600000 7302250 Q (F0 m 1453 ls [.long s0j]) := by
                            intro mmj z17j z23j z24j s0j H locs ls hf hP hD hS hl
                            unfold fL_law_J1453 at hf
                            refine lv_lstore (lv' := [(25, .long s0j), (0, .ref b), (1, .ref a0), (2, .ref yq0), (3, .ref ym0), (4, .ref yh0), (5, .ref yb0), (6, .ref ye0), (7, .int z7j), (8, .int z8j), (10, .int z10j), (12, .int z12j), (15, .int x15_645), (16, .int x16_836), (17, .long z17j), (19, .long x19_867), (21, .long x21_869), (23, .int z23j), (24, .int z24j)]) hx hb dL_law_1453 hl (by decide) rfl (fun ls hl => ?_)
                            refine lv_lload hx hb dL_law_1455 (lv_at hl 14 rfl) ?_
                            refine lv_iload hx hb dL_law_1457 (lv_at hl 18 rfl) ?_
                            refine lv_iload hx hb dL_law_1459 (lv_at hl 13 rfl) ?_
                            refine lv_icmp_gt (tgt := 1469) hx hb dL_law_1461 (by decide) (fun c_896 => ?_) (fun c_896 => ?_)
                            · have hf := x_t c_896 hf
                              refine lv_lconst (v := 0) hx hb dL_law_1469 (by decide) ?_
                              exact hfL_law_J1470 mmj z23j z24j 0 z17j _ _ _ hf hP hD hS (lv_sub hl [1, 2, 3, 4, 5, 6, 7, 8, 9, 10, 11, 12, 13, 15, 16, 17, 18] rfl)
                            · have hf := x_f c_896 hf
                              refine lv_lload hx hb dL_law_1464 (lv_at hl 0 rfl) ?_
                              refine lv_goto (tgt := 1470) hx hb dL_law_1466 (by decide) ?_
                              exact hfL_law_J1470 mmj z23j z24j s0j z17j _ _ _ hf hP hD hS (lv_sub hl [1, 2, 3, 4, 5, 6, 7, 8, 9, 10, 11, 12, 13, 15, 16, 17, 18] rfl)
                          refine lv_iload hx hb dL_law_1423 (lv_at hl 17 rfl) ?_
                          refine lv_sipush (v := 400) hx hb dL_law_1425 (by decide) ?_
                          refine lv_icmp_gt (tgt := 1523) hx hb dL_law_1428 (by decide) (fun c_890 => ?_) (fun c_890 => ?_)
                          · have hf := x_t c_890 hf
                            exact kx_1423 mm_883 z17_884 z23_885 (Option.some.inj hf).symm _ _ _ hP hD hS (lv_sub hl [0, 1, 2, 3, 4, 5, 6, 7, 8, 9, 10, 11, 12, 13, 14, 15, 16] rfl)
                          · have hf := x_f c_890 hf
                            refine lv_iload hx hb dL_law_1431 (lv_at hl 17 rfl) ?_
                            refine lv_if_ne (tgt := 1440) hx hb dL_law_1433 (by decide) (fun c_891 => ?_) (fun c_891 => ?_)
                            · have hf := x_f c_891 hf
                              refine lv_iload hx hb dL_law_1440 (lv_at hl 10 rfl) ?_
                              refine lv_aload_n hx hb dL_law_1442 rfl (lv_at hl 2 rfl) ?_
                              refine lv_iconst (v := 0) hx hb dL_law_1443 (by decide) ?_
                              obtain ⟨hi_892, hf⟩ := ckI_el hf
                              refine va_iald hx hb hK hP 2 1 rfl rfl hi_892 dL_law_1444 ?_
                              refine lv_iload hx hb dL_law_1445 (lv_at hl 17 rfl) ?_
                              refine lv_iadd hx hb dL_law_1447 ?_
                              refine lv_aload_n hx hb dL_law_1448 rfl (lv_at hl 3 rfl) ?_
                              refine lv_aload_n hx hb dL_law_1449 rfl (lv_at hl 2 rfl) ?_
                              obtain ⟨r_893, mm_894, h_895, hf⟩ := bd2_el hf
                              refine x_callSl (As := [.int z12j, .int ((qqj (0 : Int32).toNatClampNeg) + z24_886), .ref ym0, .ref yq0]) (rest := []) ⟨hx, hb, hml, hown, hts⟩ (mL_interest l D cy ym0 yq0 mm_883 qqj z12j ((qqj (0 : Int32).toNatClampNeg) + z24_886) r_893 mm_894 h_895) (va_cwS 4 hts (gcS_L_interest hbg wm_13_22) rfl rfl rfl kdL_interest ⟨Nat.le_of_ble_eq_true rfl, Nat.le_of_ble_eq_true rfl⟩) (w1 := wAE cy ye0 eej) (w2 := wAH cy yh0 hhj ++ (wAB cy yb0 bbj ++ (wX7 cy a0 t0 t1 k0 k1 k2 s0 s1 s2 s3 s4 s5 s6 s7 s8 s9 s10 s11 hd Xle Xch Xpo Xltr Xfi Xse Xth Kszj Kclj Kkej Aszj Anuj Abaj Amoj Acoj Hszj Hlaj Hcej Bszj Blaj Bcej Tmaj Tlcj Ttcj dayj limj lowj higj thrj offj crej rcpj payj svj nxj SLj))) (w' := wAE cy ye0 eej ++ (wAM cy ym0 mm_894 ++ (wAQ cy yq0 qqj ++ (wAH cy yh0 hhj ++ (wAB cy yb0 bbj ++ wX7 cy a0 t0 t1 k0 k1 k2 s0 s1 s2 s3 s4 s5 s6 s7 s8 s9 s10 s11 hd Xle Xch Xpo Xltr Xfi Xse Xth Kszj Kclj Kkej Aszj Anuj Abaj Amoj Acoj Hszj Hlaj Hcej Bszj Blaj Bcej Tmaj Tlcj Ttcj dayj limj lowj higj thrj offj crej rcpj payj svj nxj SLj))))) (by simp only [List.append_assoc, List.append_nil, List.nil_append]) (by simp only [List.append_assoc, List.append_nil, List.nil_append]) hP hK hD hN hS hA rfl hl rfl (Nat.le_of_ble_eq_true rfl) dL_law_1450 ⟨Nat.le_refl _, Nat.le_refl _⟩ (fun H locs hP hD hS => ?_)
                              exact hfL_law_J1453 mm_894 z17_884 z23_885 z24_886 r_893 _ _ _ hf hP hD hS (lv_sub hl [0, 1, 2, 3, 4, 5, 6, 7, 8, 9, 10, 11, 12, 13, 14, 15, 16, 17] rfl)
                            · have hf := x_t c_891 hf
                              refine lv_lconst (v := 0) hx hb dL_law_1436 (by decide) ?_
                              refine lv_goto (tgt := 1453) hx hb dL_law_1437 (by decide) ?_
                              exact hfL_law_J1453 mm_883 z17_884 z23_885 z24_886 0 _ _ _ hf hP hD hS (lv_sub hl [0, 1, 2, 3, 4, 5, 6, 7, 8, 9, 10, 11, 12, 13, 14, 15, 16, 17] rfl)
                      obtain ⟨mm_870, x17_871, x23_872, h1_1423, hf⟩ := bd3_el hf
                      refine hL_1423 2147483648 mmj 0 (-6) 0 _ _ _ _ h1_1423 hP hD hS (lv_sub hl [7, 8, 9, 10, 11, 12, 13, 14, 15, 17, 19, 6, 5, 4, 3, 2, 1, 0] rfl) trivial (fun mm_8709 x17_8719 x23_8729 ho H locs ls hP hD hS hl => ?_)
                      cases ho
                      refine lv_aload_n hx hb dL_law_1523 rfl (lv_at hl 3 rfl) ?_
                      refine lv_iload hx hb dL_law_1524 (lv_at hl 10 rfl) ?_
                      refine lv_lload hx hb dL_law_1526 (lv_at hl 14 rfl) ?_
                      obtain ⟨hi_873, hf⟩ := ckI_el hf
                      obtain ⟨mm_874, emm_874, hf⟩ := lt_el hf
                      refine x_last hx hb hK hP hD hS 1 rfl hi_873 emm_874 (w' := wAE cy ye0 eej ++ (wAM cy ym0 mm_874 ++ (wAQ cy yq0 qqj ++ (wAH cy yh0 hhj ++ (wAB cy yb0 bbj ++ wX7 cy a0 t0 t1 k0 k1 k2 s0 s1 s2 s3 s4 s5 s6 s7 s8 s9 s10 s11 hd Xle Xch Xpo Xltr Xfi Xse Xth Kszj Kclj Kkej Aszj Anuj Abaj Amoj Acoj Hszj Hlaj Hcej Bszj Blaj Bcej Tmaj Tlcj Ttcj dayj limj lowj higj thrj offj crej rcpj payj svj nxj SLj))))) rfl dL_law_1528 (fun H locs hP hD hS => ?_)
                      refine lv_aload_n hx hb dL_law_1529 rfl (lv_at hl 3 rfl) ?_
                      refine lv_bipush (v := 10) hx hb dL_law_1530 (by decide) ?_
                      refine lv_iload hx hb dL_law_1532 (lv_at hl 10 rfl) ?_
                      refine lv_iadd hx hb dL_law_1534 ?_
                      refine lv_lload hx hb dL_law_1535 (lv_at hl 15 rfl) ?_
                      obtain ⟨hi_875, hf⟩ := ckI_el hf
                      obtain ⟨mm_876, emm_876, hf⟩ := lt_el hf
                      refine x_last hx hb hK hP hD hS 1 rfl hi_875 emm_876 (w' := wAE cy ye0 eej ++ (wAM cy ym0 mm_876 ++ (wAQ cy yq0 qqj ++ (wAH cy yh0 hhj ++ (wAB cy yb0 bbj ++ wX7 cy a0 t0 t1 k0 k1 k2 s0 s1 s2 s3 s4 s5 s6 s7 s8 s9 s10 s11 hd Xle Xch Xpo Xltr Xfi Xse Xth Kszj Kclj Kkej Aszj Anuj Abaj Amoj Acoj Hszj Hlaj Hcej Bszj Blaj Bcej Tmaj Tlcj Ttcj dayj limj lowj higj thrj offj crej rcpj payj svj nxj SLj))))) rfl dL_law_1537 (fun H locs hP hD hS => ?_)
                      refine lv_aload_n hx hb dL_law_1538 rfl (lv_at hl 1 rfl) ?_
                      refine lv_iload hx hb dL_law_1539 (lv_at hl 10 rfl) ?_
                      refine lv_iload hx hb dL_law_1541 (lv_at hl 12 rfl) ?_
                      obtain ⟨r_877, h_878, hf⟩ := bd1_el hf
                      refine x_callVi (As := [.int z12j, .int x16_836]) (rest := []) ⟨hx, hb, hml, hown, hts⟩ (mX7_interestIn l D cy a0 t0 t1 k0 k1 k2 s0 s1 s2 s3 s4 s5 s6 s7 s8 s9 s10 s11 hd Xle Xch Xpo Xltr Xfi Xse Xth Kszj Kclj Kkej Aszj Anuj Abaj Amoj Acoj Hszj Hlaj Hcej Bszj Blaj Bcej Tmaj Tlcj Ttcj dayj limj lowj higj thrj offj crej rcpj payj svj nxj SLj z12j x16_836 r_877 h_878) (cwV 2 hts (gcV_X7_interestIn hbg wm_14_2) rfl rfl rfl kdX7_interestIn ⟨Nat.le_of_ble_eq_true rfl, Nat.le_of_ble_eq_true rfl⟩) (w1 := wAE cy ye0 eej ++ (wAM cy ym0 mm_876 ++ (wAQ cy yq0 qqj ++ (wAH cy yh0 hhj ++ (wAB cy yb0 bbj))))) (w2 := []) (w' := wAE cy ye0 eej ++ (wAM cy ym0 mm_876 ++ (wAQ cy yq0 qqj ++ (wAH cy yh0 hhj ++ (wAB cy yb0 bbj ++ wX7 cy a0 t0 t1 k0 k1 k2 s0 s1 s2 s3 s4 s5 s6 s7 s8 s9 s10 s11 hd Xle Xch Xpo Xltr Xfi Xse Xth Kszj Kclj Kkej Aszj Anuj Abaj Amoj Acoj Hszj Hlaj Hcej Bszj Blaj Bcej Tmaj Tlcj Ttcj dayj limj lowj higj thrj offj crej rcpj payj svj nxj SLj))))) (by simp only [List.append_assoc, List.append_nil, List.nil_append]) (by simp only [List.append_assoc, List.append_nil, List.nil_append]) hP hK hD hN hS hA (q0 := 0) rfl rfl rfl rfl hl rfl (Nat.le_of_ble_eq_true rfl) dL_law_1543 ⟨Nat.le_refl _, Nat.le_refl _⟩ (fun H locs hP hD hS => ?_)
                      refine lv_i2l (v := r_877.toInt64) hx hb dL_law_1546 rfl ?_
                      refine lv_lload hx hb dL_law_1547 (lv_at hl 13 rfl) ?_
                      refine W.lcmp hx hb dL_law_1549 ?_
                      refine lv_if_ne (tgt := 1566) hx hb dL_law_1550 (by decide) (fun c_879 => ?_) (fun c_879 => ?_)
                      · have c_879 := fun q => c_879 ((lg_cmp_eq _ _).mpr q)
                        have hf := x_f c_879 hf
                        refine lv_iconst (v := 0) hx hb dL_law_1566 (by decide) ?_
                        have hf := Option.some.inj hf
                        have hf := (hr_94 _ hf.symm)
                        exact absurd hf (by decide)
                      · have c_879 := (lg_cmp_eq _ _).mp c_879
                        have hf := x_t c_879 hf
                        refine lv_aload_n hx hb dL_law_1553 rfl (lv_at hl 1 rfl) ?_
                        refine lv_iload hx hb dL_law_1554 (lv_at hl 10 rfl) ?_
                        refine lv_iload hx hb dL_law_1556 (lv_at hl 11 rfl) ?_
                        obtain ⟨r_880, h_881, hf⟩ := bd1_el hf
                        refine x_callVi (As := [.int z12j, .int x15_645]) (rest := []) ⟨hx, hb, hml, hown, hts⟩ (mX7_payableOn l D cy a0 t0 t1 k0 k1 k2 s0 s1 s2 s3 s4 s5 s6 s7 s8 s9 s10 s11 hd Xle Xch Xpo Xltr Xfi Xse Xth Kszj Kclj Kkej Aszj Anuj Abaj Amoj Acoj Hszj Hlaj Hcej Bszj Blaj Bcej Tmaj Tlcj Ttcj dayj limj lowj higj thrj offj crej rcpj payj svj nxj SLj z12j x15_645 r_880 h_881) (cwV 2 hts (gcV_X7_payableOn hbg wm_15_6) rfl rfl rfl kdX7_payableOn ⟨Nat.le_of_ble_eq_true rfl, Nat.le_of_ble_eq_true rfl⟩) (w1 := wAE cy ye0 eej ++ (wAM cy ym0 mm_876 ++ (wAQ cy yq0 qqj ++ (wAH cy yh0 hhj ++ (wAB cy yb0 bbj))))) (w2 := []) (w' := wAE cy ye0 eej ++ (wAM cy ym0 mm_876 ++ (wAQ cy yq0 qqj ++ (wAH cy yh0 hhj ++ (wAB cy yb0 bbj ++ wX7 cy a0 t0 t1 k0 k1 k2 s0 s1 s2 s3 s4 s5 s6 s7 s8 s9 s10 s11 hd Xle Xch Xpo Xltr Xfi Xse Xth Kszj Kclj Kkej Aszj Anuj Abaj Amoj Acoj Hszj Hlaj Hcej Bszj Blaj Bcej Tmaj Tlcj Ttcj dayj limj lowj higj thrj offj crej rcpj payj svj nxj SLj))))) (by simp only [List.append_assoc, List.append_nil, List.nil_append]) (by simp only [List.append_assoc, List.append_nil, List.nil_append]) hP hK hD hN hS hA (q0 := 0) rfl rfl rfl rfl hl rfl (Nat.le_of_ble_eq_true rfl) dL_law_1558 ⟨Nat.le_refl _, Nat.le_refl _⟩ (fun H locs hP hD hS => ?_)
                        refine lv_iload hx hb dL_law_1561 (lv_at hl 16 rfl) ?_
                        refine lv_icmp_eq (tgt := 1568) hx hb dL_law_1563 (by decide) (fun c_882 => ?_) (fun c_882 => ?_)
                        · have hf := x_t c_882 hf
                          refine lv_goto (tgt := 1596) hx hb dL_law_1568 (by decide) ?_
                          exact (hfL_law_J1596 C0 ye0 ym0 yq0 yh0 yb0 a0 t0 t1 k0 k1 k2 s0 s1 s2 s3 s4 s5 s6 s7 s8 s9 s10 s11 hd Xle Xch Xpo Xltr Xfi Xse Xth rec o_94 ih hr_94 kx_94) eej mm_876 qqj hhj bbj Kszj Kclj Kkej Aszj Anuj Abaj Amoj Acoj Hszj Hlaj Hcej Bszj Blaj Bcej Tmaj Tlcj Ttcj dayj limj lowj higj thrj offj crej rcpj payj svj nxj SLj z7j z8j z10j x16_836 _ _ _ hf hP hD hS (lv_sub hl [0, 1, 2, 3, 4, 5, 6, 7, 8, 9, 12] rfl)
                        · have hf := x_f c_882 hf
                          refine lv_iconst (v := 0) hx hb dL_law_1566 (by decide) ?_
                          have hf := Option.some.inj hf
                          have hf := (hr_94 _ hf.symm)
                          exact absurd hf (by decide)
                · have hf := x_t c_653 hf
                  refine lv_aload_n hx hb dL_law_1166 rfl (lv_at hl 3 rfl) ?_
                  refine lv_bipush (v := 7) hx hb dL_law_1167 (by decide) ?_
                  obtain ⟨hi_906, hf⟩ := ckI_el hf
                  refine va_iald hx hb hK hP 2 1 rfl rfl hi_906 dL_law_1169 ?_
                  refine lv_if_ne (tgt := 1177) hx hb dL_law_1170 (by decide) (fun c_907 => ?_) (fun c_907 => ?_)
                  · have hf := x_f c_907 hf
                    refine lv_iload hx hb dL_law_1177 (lv_at hl 11 rfl) ?_
                    refine lv_aload_n hx hb dL_law_1179 rfl (lv_at hl 3 rfl) ?_
                    refine lv_bipush (v := 7) hx hb dL_law_1180 (by decide) ?_
                    obtain ⟨hi_908, hf⟩ := ckI_el hf
                    refine va_iald hx hb hK hP 2 1 rfl rfl hi_908 dL_law_1182 ?_
                    obtain ⟨r_909, h_910, hf⟩ := bd1_el hf
                    refine x_callSi (As := [.int z10j, .int (qqj (7 : Int32).toNatClampNeg)]) (rest := []) ⟨hx, hb, hml, hown, hts⟩ (mL_low l D cy   z10j (qqj (7 : Int32).toNatClampNeg) r_909 h_910) (va_cwS 2 hts (gcS_L_low hbg wm_4_19) rfl rfl rfl kdL_low ⟨Nat.le_of_ble_eq_true rfl, Nat.le_of_ble_eq_true rfl⟩) (w1 := []) (w2 := wAE cy ye0 eej ++ (wAM cy ym0 mmj ++ (wAQ cy yq0 qqj ++ (wAH cy yh0 hhj ++ (wAB cy yb0 bbj ++ wX7 cy a0 t0 t1 k0 k1 k2 s0 s1 s2 s3 s4 s5 s6 s7 s8 s9 s10 s11 hd Xle Xch Xpo Xltr Xfi Xse Xth Kszj Kclj Kkej Aszj Anuj Abaj Amoj Acoj Hszj Hlaj Hcej Bszj Blaj Bcej Tmaj Tlcj Ttcj dayj limj lowj higj thrj offj crej rcpj payj svj nxj SLj))))) (w' := wAE cy ye0 eej ++ (wAM cy ym0 mmj ++ (wAQ cy yq0 qqj ++ (wAH cy yh0 hhj ++ (wAB cy yb0 bbj ++ wX7 cy a0 t0 t1 k0 k1 k2 s0 s1 s2 s3 s4 s5 s6 s7 s8 s9 s10 s11 hd Xle Xch Xpo Xltr Xfi Xse Xth Kszj Kclj Kkej Aszj Anuj Abaj Amoj Acoj Hszj Hlaj Hcej Bszj Blaj Bcej Tmaj Tlcj Ttcj dayj limj lowj higj thrj offj crej rcpj payj svj nxj SLj))))) rfl rfl hP hK hD hN hS hA rfl hl rfl (Nat.le_of_ble_eq_true rfl) dL_law_1183 ⟨Nat.le_refl _, Nat.le_refl _⟩ (fun H locs hP hD hS => ?_)
                    exact (hfL_law_J1186 C0 ye0 ym0 yq0 yh0 yb0 a0 t0 t1 k0 k1 k2 s0 s1 s2 s3 s4 s5 s6 s7 s8 s9 s10 s11 hd Xle Xch Xpo Xltr Xfi Xse Xth rec o_94 ih hr_94 kx_94) eej mmj qqj hhj bbj Kszj Kclj Kkej Aszj Anuj Abaj Amoj Acoj Hszj Hlaj Hcej Bszj Blaj Bcej Tmaj Tlcj Ttcj dayj limj lowj higj thrj offj crej rcpj payj svj nxj SLj z7j z8j z10j r_909 _ _ _ hf hP hD hS (lv_sub hl [1, 2, 3, 4, 5, 6, 7, 8, 9, 11] rfl)
                  · have hf := x_t c_907 hf
                    refine lv_iconst (v := 0) hx hb dL_law_1173 (by decide) ?_
                    refine lv_goto (tgt := 1186) hx hb dL_law_1174 (by decide) ?_
                    exact (hfL_law_J1186 C0 ye0 ym0 yq0 yh0 yb0 a0 t0 t1 k0 k1 k2 s0 s1 s2 s3 s4 s5 s6 s7 s8 s9 s10 s11 hd Xle Xch Xpo Xltr Xfi Xse Xth rec o_94 ih hr_94 kx_94) eej mmj qqj hhj bbj Kszj Kclj Kkej Aszj Anuj Abaj Amoj Acoj Hszj Hlaj Hcej Bszj Blaj Bcej Tmaj Tlcj Ttcj dayj limj lowj higj thrj offj crej rcpj payj svj nxj SLj z7j z8j z10j 0 _ _ _ hf hP hD hS (lv_sub hl [1, 2, 3, 4, 5, 6, 7, 8, 9, 11] rfl)
              · have hf := x_t c_652 hf
                refine lv_aload_n hx hb dL_law_1011 rfl (lv_at hl 3 rfl) ?_
                refine lv_bipush (v := 7) hx hb dL_law_1012 (by decide) ?_
                obtain ⟨hi_957, hf⟩ := ckI_el hf
                refine va_iald hx hb hK hP 2 1 rfl rfl hi_957 dL_law_1014 ?_
                refine lv_bipush (v := 20) hx hb dL_law_1015 (by decide) ?_
                refine lv_icmp_ne (tgt := 1023) hx hb dL_law_1017 (by decide) (fun c_958 => ?_) (fun c_958 => ?_)
                · have hf := x_f c_958 hf
                  refine lv_iconst (v := 0) hx hb dL_law_1023 (by decide) ?_
                  refine lv_istore (lv' := [(16, .int 0), (15, .int x15_645), (0, .ref b), (1, .ref a0), (2, .ref yq0), (3, .ref ym0), (4, .ref yh0), (5, .ref yb0), (6, .ref ye0), (7, .int z7j), (8, .int z8j), (9, .int z9j), (10, .int z10j), (11, .int z11j), (12, .int z12j), (13, .int z13j), (14, .int z14j)]) hx hb dL_law_1024 hl (by decide) rfl (fun ls hl => ?_)
                  refine lv_iconst (v := 0) hx hb dL_law_1026 (by decide) ?_
                  refine lv_istore (lv' := [(17, .int 0), (16, .int 0), (15, .int x15_645), (0, .ref b), (1, .ref a0), (2, .ref yq0), (3, .ref ym0), (4, .ref yh0), (5, .ref yb0), (6, .ref ye0), (7, .int z7j), (8, .int z8j), (9, .int z9j), (10, .int z10j), (11, .int z11j), (12, .int z12j), (13, .int z13j), (14, .int z14j)]) hx hb dL_law_1027 hl (by decide) rfl (fun ls hl => ?_)
                  have hL_1029 : ∀ (n : Nat) (z16_986 : Int32) (z17_987 : Int32) (o : Int32) (H : Heap) (locs : List Loc) (ls : Array Slot), fL_law_L1029 bbj z7j z8j z10j z12j z14j x15_645 n z16_986 z17_987 = some o → va_P D vwCl (wAE cy ye0 eej ++ (wAM cy ym0 mmj ++ (wAQ cy yq0 qqj ++ (wAH cy yh0 hhj ++ (wAB cy yb0 bbj ++ wX7 cy a0 t0 t1 k0 k1 k2 s0 s1 s2 s3 s4 s5 s6 s7 s8 s9 s10 s11 hd Xle Xch Xpo Xltr Xfi Xse Xth Kszj Kclj Kkej Aszj Anuj Abaj Amoj Acoj Hszj Hlaj Hcej Bszj Blaj Bcej Tmaj Tlcj Ttcj dayj limj lowj higj thrj offj crej rcpj payj svj nxj SLj))))) H → va_D A (wAE cy ye0 eej ++ (wAM cy ym0 mmj ++ (wAQ cy yq0 qqj ++ (wAH cy yh0 hhj ++ (wAB cy yb0 bbj ++ wX7 cy a0 t0 t1 k0 k1 k2 s0 s1 s2 s3 s4 s5 s6 s7 s8 s9 s10 s11 hd Xle Xch Xpo Xltr Xfi Xse Xth Kszj Kclj Kkej Aszj Anuj Abaj Amoj Acoj Hszj Hlaj Hcej Bszj Blaj Bcej Tmaj Tlcj Ttcj dayj limj lowj higj thrj offj crej rcpj payj svj nxj SLj))))) → va_S A s.heap H locs → lv_has ls 27 [(0, .ref b), (1, .ref a0), (2, .ref yq0), (3, .ref ym0), (4, .ref yh0), (5, .ref yb0), (6, .ref ye0), (7, .int z7j), (8, .int z8j), (10, .int z10j), (12, .int z12j), (14, .int z14j), (15, .int x15_645), (16, .int z16_986), (17, .int z17_987)] → True → ((∀ (x16_988 : Int32) , o = x16_988 → ∀ (H : Heap) (locs : List Loc) (ls : Array Slot), va_P D vwCl (wAE cy ye0 eej ++ (wAM cy ym0 mmj ++ (wAQ cy yq0 qqj ++ (wAH cy yh0 hhj ++ (wAB cy yb0 bbj ++ wX7 cy a0 t0 t1 k0 k1 k2 s0 s1 s2 s3 s4 s5 s6 s7 s8 s9 s10 s11 hd Xle Xch Xpo Xltr Xfi Xse Xth Kszj Kclj Kkej Aszj Anuj Abaj Amoj Acoj Hszj Hlaj Hcej Bszj Blaj Bcej Tmaj Tlcj Ttcj dayj limj lowj higj thrj offj crej rcpj payj svj nxj SLj))))) H → va_D A (wAE cy ye0 eej ++ (wAM cy ym0 mmj ++ (wAQ cy yq0 qqj ++ (wAH cy yh0 hhj ++ (wAB cy yb0 bbj ++ wX7 cy a0 t0 t1 k0 k1 k2 s0 s1 s2 s3 s4 s5 s6 s7 s8 s9 s10 s11 hd Xle Xch Xpo Xltr Xfi Xse Xth Kszj Kclj Kkej Aszj Anuj Abaj Amoj Acoj Hszj Hlaj Hcej Bszj Blaj Bcej Tmaj Tlcj Ttcj dayj limj lowj higj thrj offj crej rcpj payj svj nxj SLj))))) → va_S A s.heap H locs → lv_has ls 27 [(0, .ref b), (1, .ref a0), (2, .ref yq0), (3, .ref ym0), (4, .ref yh0), (5, .ref yb0), (6, .ref ye0), (7, .int z7j), (8, .int z8j), (10, .int z10j), (12, .int z12j), (14, .int z14j), (15, .int x15_645), (16, .int x16_988)] →  W p l e room_1 s m #[Value.ref b] below meth c H locs 600000 7302250 Q (F0 m 1060 ls []))) → W p l e room_1 s m #[Value.ref b] below meth c H locs 600000 7302250 Q (F0 m 1029 ls []) := by
                    intro n
                    induction n with
                    | zero =>
                      intro z16_986 z17_987 o_1029 H locs ls hf
                      rw [fL_law_L1029] at hf
                      cases hf
                    | succ n ih =>
                      intro z16_986 z17_987 o_1029 H locs ls hf hP hD hS hl hr_1029 kx_1029
                      rw [fL_law_L1029] at hf
                      refine lv_iload hx hb dL_law_1029 (lv_at hl 14 rfl) ?_
                      refine lv_bipush (v := 60) hx hb dL_law_1031 (by decide) ?_
                      refine lv_icmp_ge (tgt := 1060) hx hb dL_law_1033 (by decide) (fun c_989 => ?_) (fun c_989 => ?_)
                      · have hf := x_t c_989 hf
                        exact kx_1029 z16_986 (Option.some.inj hf).symm _ _ _ hP hD hS (lv_sub hl [0, 1, 2, 3, 4, 5, 6, 7, 8, 9, 10, 11, 12, 13] rfl)
                      · have hf := x_f c_989 hf
                        refine lv_iload hx hb dL_law_1036 (lv_at hl 13 rfl) ?_
                        refine lv_aload hx hb dL_law_1038 (lv_at hl 5 rfl) ?_
                        refine lv_iload hx hb dL_law_1040 (lv_at hl 14 rfl) ?_
                        obtain ⟨hi_990, hf⟩ := ckI_el hf
                        refine va_iald hx hb hK hP 4 1 rfl rfl hi_990 dL_law_1042 ?_
                        refine lv_if_le (tgt := 1050) hx hb dL_law_1043 (by decide) (fun c_991 => ?_) (fun c_991 => ?_)
                        · have hf := x_t c_991 hf
                          refine lv_iconst (v := 0) hx hb dL_law_1050 (by decide) ?_
                          refine lv_iadd hx hb dL_law_1051 ?_
                          obtain ⟨x16_992, ex16_992, hf⟩ := lt_el hf
                          refine x_topi ex16_992 ?_
                          refine lv_istore (lv' := [(16, .int x16_992), (0, .ref b), (1, .ref a0), (2, .ref yq0), (3, .ref ym0), (4, .ref yh0), (5, .ref yb0), (6, .ref ye0), (7, .int z7j), (8, .int z8j), (10, .int z10j), (12, .int z12j), (14, .int z14j), (15, .int x15_645), (17, .int z17_987)]) hx hb dL_law_1052 hl (by decide) rfl (fun ls hl => ?_)
                          refine lv_iinc (v := (z17_987 + 3)) (lv' := [(17, .int (z17_987 + 3)), (16, .int x16_992), (0, .ref b), (1, .ref a0), (2, .ref yq0), (3, .ref ym0), (4, .ref yh0), (5, .ref yb0), (6, .ref ye0), (7, .int z7j), (8, .int z8j), (10, .int z10j), (12, .int z12j), (14, .int z14j), (15, .int x15_645)]) hx hb dL_law_1054 hl (k := 14) rfl rfl (by decide) rfl (fun ls hl => ?_)
                          refine lv_goto (tgt := 1029) hx hb dL_law_1057 (by decide) ?_
                          exact ih x16_992 (z17_987 + 3) _ _ _ _ hf hP hD hS (lv_sub hl [2, 3, 4, 5, 6, 7, 8, 9, 10, 11, 12, 13, 14, 1, 0] rfl) hr_1029 kx_1029
                        · have hf := x_f c_991 hf
                          refine lv_iconst (v := 1) hx hb dL_law_1046 (by decide) ?_
                          refine lv_goto (tgt := 1051) hx hb dL_law_1047 (by decide) ?_
                          refine lv_iadd hx hb dL_law_1051 ?_
                          obtain ⟨x16_993, ex16_993, hf⟩ := lt_el hf
                          refine x_topi ex16_993 ?_
                          refine lv_istore (lv' := [(16, .int x16_993), (0, .ref b), (1, .ref a0), (2, .ref yq0), (3, .ref ym0), (4, .ref yh0), (5, .ref yb0), (6, .ref ye0), (7, .int z7j), (8, .int z8j), (10, .int z10j), (12, .int z12j), (14, .int z14j), (15, .int x15_645), (17, .int z17_987)]) hx hb dL_law_1052 hl (by decide) rfl (fun ls hl => ?_)
                          refine lv_iinc (v := (z17_987 + 3)) (lv' := [(17, .int (z17_987 + 3)), (16, .int x16_993), (0, .ref b), (1, .ref a0), (2, .ref yq0), (3, .ref ym0), (4, .ref yh0), (5, .ref yb0), (6, .ref ye0), (7, .int z7j), (8, .int z8j), (10, .int z10j), (12, .int z12j), (14, .int z14j), (15, .int x15_645)]) hx hb dL_law_1054 hl (k := 14) rfl rfl (by decide) rfl (fun ls hl => ?_)
                          refine lv_goto (tgt := 1029) hx hb dL_law_1057 (by decide) ?_
                          exact ih x16_993 (z17_987 + 3) _ _ _ _ hf hP hD hS (lv_sub hl [2, 3, 4, 5, 6, 7, 8, 9, 10, 11, 12, 13, 14, 1, 0] rfl) hr_1029 kx_1029
                  obtain ⟨x16_959, h1_1029, hf⟩ := bd1_el hf
                  refine hL_1029 2147483648 0 0 _ _ _ _ h1_1029 hP hD hS (lv_sub hl [3, 4, 5, 6, 7, 8, 9, 10, 11, 13, 15, 17, 2, 1, 0] rfl) trivial (fun x16_9599 ho H locs ls hP hD hS hl => ?_)
                  cases ho
                  refine lv_aload_n hx hb dL_law_1060 rfl (lv_at hl 1 rfl) ?_
                  refine lv_iload hx hb dL_law_1061 (lv_at hl 10 rfl) ?_
                  refine lv_iload hx hb dL_law_1063 (lv_at hl 12 rfl) ?_
                  obtain ⟨r_960, Bsz_961, Bla_962, Bce_963, sv_964, nx_965, SL_966, h_967, hf⟩ := bd7_el hf
                  refine x_callVi (As := [.int z12j, .int x15_645]) (rest := []) ⟨hx, hb, hml, hown, hts⟩ (mX7_bill l D cy a0 t0 t1 k0 k1 k2 s0 s1 s2 s3 s4 s5 s6 s7 s8 s9 s10 s11 hd Xle Xch Xpo Xltr Xfi Xse Xth Kszj Kclj Kkej Aszj Anuj Abaj Amoj Acoj Hszj Hlaj Hcej Bszj Blaj Bcej Tmaj Tlcj Ttcj dayj limj lowj higj thrj offj crej rcpj payj svj nxj SLj z12j x15_645 r_960 Bsz_961 Bla_962 Bce_963 sv_964 nx_965 SL_966 h_967) (cwV 2 hts (gcV_X7_bill hbg wm_13_4) rfl rfl rfl kdX7_bill ⟨Nat.le_of_ble_eq_true rfl, Nat.le_of_ble_eq_true rfl⟩) (w1 := wAE cy ye0 eej ++ (wAM cy ym0 mmj ++ (wAQ cy yq0 qqj ++ (wAH cy yh0 hhj ++ (wAB cy yb0 bbj))))) (w2 := []) (w' := wAE cy ye0 eej ++ (wAM cy ym0 mmj ++ (wAQ cy yq0 qqj ++ (wAH cy yh0 hhj ++ (wAB cy yb0 bbj ++ wX7 cy a0 t0 t1 k0 k1 k2 s0 s1 s2 s3 s4 s5 s6 s7 s8 s9 s10 s11 hd Xle Xch Xpo Xltr Xfi Xse Xth Kszj Kclj Kkej Aszj Anuj Abaj Amoj Acoj Hszj Hlaj Hcej Bsz_961 Bla_962 Bce_963 Tmaj Tlcj Ttcj dayj limj lowj higj thrj offj crej rcpj payj sv_964 nx_965 SL_966))))) (by simp only [List.append_assoc, List.append_nil, List.nil_append]) (by simp only [List.append_assoc, List.append_nil, List.nil_append]) hP hK hD hN hS hA (q0 := 0) rfl rfl rfl rfl hl rfl (Nat.le_of_ble_eq_true rfl) dL_law_1065 ⟨Nat.le_refl _, Nat.le_refl _⟩ (fun H locs hP hD hS => ?_)
                  refine lv_iload hx hb dL_law_1068 (lv_at hl 11 rfl) ?_
                  refine lv_if_ne (tgt := 1077) hx hb dL_law_1070 (by decide) (fun c_968 => ?_) (fun c_968 => ?_)
                  · have hf := x_f c_968 hf
                    refine lv_iload hx hb dL_law_1077 (lv_at hl 13 rfl) ?_
                    refine lv_bipush (v := 15) hx hb dL_law_1079 (by decide) ?_
                    refine lv_icmp_ne (tgt := 1089) hx hb dL_law_1081 (by decide) (fun c_969 => ?_) (fun c_969 => ?_)
                    · have hf := x_f c_969 hf
                      refine lv_aload_n hx hb dL_law_1089 rfl (lv_at hl 2 rfl) ?_
                      refine lv_bipush (v := 7) hx hb dL_law_1090 (by decide) ?_
                      obtain ⟨hi_970, hf⟩ := ckI_el hf
                      refine va_iald hx hb hK hP 2 1 rfl rfl hi_970 dL_law_1092 ?_
                      refine lv_iconst (v := 1) hx hb dL_law_1093 (by decide) ?_
                      refine lv_iadd hx hb dL_law_1094 ?_
                      exact (hfL_law_J1095 C0 ye0 ym0 yq0 yh0 yb0 a0 t0 t1 k0 k1 k2 s0 s1 s2 s3 s4 s5 s6 s7 s8 s9 s10 s11 hd Xle Xch Xpo Xltr Xfi Xse Xth rec o_94 ih hr_94 kx_94) eej mmj qqj hhj bbj Kszj Kclj Kkej Aszj Anuj Abaj Amoj Acoj Hszj Hlaj Hcej Bsz_961 Bla_962 Bce_963 Tmaj Tlcj Ttcj dayj limj lowj higj thrj offj crej rcpj payj sv_964 nx_965 SL_966 z7j z8j z10j z12j z14j x15_645 x16_959 ((qqj (7 : Int32).toNatClampNeg) + 1) r_960 _ _ _ hf hP hD hS (lv_sub hl [0, 1, 2, 3, 4, 5, 6, 7, 8, 9, 10, 11, 12, 13] rfl)
                    · have hf := x_t c_969 hf
                      refine lv_bipush (v := (-4)) hx hb dL_law_1084 (by decide) ?_
                      refine lv_goto (tgt := 1095) hx hb dL_law_1086 (by decide) ?_
                      exact (hfL_law_J1095 C0 ye0 ym0 yq0 yh0 yb0 a0 t0 t1 k0 k1 k2 s0 s1 s2 s3 s4 s5 s6 s7 s8 s9 s10 s11 hd Xle Xch Xpo Xltr Xfi Xse Xth rec o_94 ih hr_94 kx_94) eej mmj qqj hhj bbj Kszj Kclj Kkej Aszj Anuj Abaj Amoj Acoj Hszj Hlaj Hcej Bsz_961 Bla_962 Bce_963 Tmaj Tlcj Ttcj dayj limj lowj higj thrj offj crej rcpj payj sv_964 nx_965 SL_966 z7j z8j z10j z12j z14j x15_645 x16_959 (-4) r_960 _ _ _ hf hP hD hS (lv_sub hl [0, 1, 2, 3, 4, 5, 6, 7, 8, 9, 10, 11, 12, 13] rfl)
                  · have hf := x_t c_968 hf
                    refine lv_iconst (v := (-1)) hx hb dL_law_1073 (by decide) ?_
                    refine lv_goto (tgt := 1095) hx hb dL_law_1074 (by decide) ?_
                    exact (hfL_law_J1095 C0 ye0 ym0 yq0 yh0 yb0 a0 t0 t1 k0 k1 k2 s0 s1 s2 s3 s4 s5 s6 s7 s8 s9 s10 s11 hd Xle Xch Xpo Xltr Xfi Xse Xth rec o_94 ih hr_94 kx_94) eej mmj qqj hhj bbj Kszj Kclj Kkej Aszj Anuj Abaj Amoj Acoj Hszj Hlaj Hcej Bsz_961 Bla_962 Bce_963 Tmaj Tlcj Ttcj dayj limj lowj higj thrj offj crej rcpj payj sv_964 nx_965 SL_966 z7j z8j z10j z12j z14j x15_645 x16_959 (-1) r_960 _ _ _ hf hP hD hS (lv_sub hl [0, 1, 2, 3, 4, 5, 6, 7, 8, 9, 10, 11, 12, 13] rfl)
                · have hf := x_t c_958 hf
                  refine lv_goto (tgt := 2304) hx hb dL_law_1020 (by decide) ?_
                  refine lv_iinc (v := (z8j + 1)) (lv' := [(8, .int (z8j + 1)), (15, .int x15_645), (0, .ref b), (1, .ref a0), (2, .ref yq0), (3, .ref ym0), (4, .ref yh0), (5, .ref yb0), (6, .ref ye0), (7, .int z7j), (9, .int z9j), (10, .int z10j), (11, .int z11j), (12, .int z12j), (13, .int z13j), (14, .int z14j)]) hx hb dL_law_2304 hl (k := 9) rfl rfl (by decide) rfl (fun ls hl => ?_)
                  refine lv_goto (tgt := 94) hx hb dL_law_2307 (by decide) ?_
                  exact ih eej mmj qqj hhj bbj Kszj Kclj Kkej Aszj Anuj Abaj Amoj Acoj Hszj Hlaj Hcej Bszj Blaj Bcej Tmaj Tlcj Ttcj dayj limj lowj higj thrj offj crej rcpj payj svj nxj SLj z7j (z8j + 1) _ _ _ _ hf hP hD hS (lv_sub hl [2, 3, 4, 5, 6, 7, 8, 9, 0] rfl) hr_94 kx_94
            · have hf := x_t c_651 hf
              refine lv_iload hx hb dL_law_944 (lv_at hl 11 rfl) ?_
              refine lv_bipush (v := 20) hx hb dL_law_946 (by decide) ?_
              obtain ⟨r_994, h_995, hf⟩ := bd1_el hf
              refine x_callSi (As := [.int z10j, .int 20]) (rest := []) ⟨hx, hb, hml, hown, hts⟩ (mL_low l D cy   z10j 20 r_994 h_995) (va_cwS 2 hts (gcS_L_low hbg wm_4_19) rfl rfl rfl kdL_low ⟨Nat.le_of_ble_eq_true rfl, Nat.le_of_ble_eq_true rfl⟩) (w1 := []) (w2 := wAE cy ye0 eej ++ (wAM cy ym0 mmj ++ (wAQ cy yq0 qqj ++ (wAH cy yh0 hhj ++ (wAB cy yb0 bbj ++ wX7 cy a0 t0 t1 k0 k1 k2 s0 s1 s2 s3 s4 s5 s6 s7 s8 s9 s10 s11 hd Xle Xch Xpo Xltr Xfi Xse Xth Kszj Kclj Kkej Aszj Anuj Abaj Amoj Acoj Hszj Hlaj Hcej Bszj Blaj Bcej Tmaj Tlcj Ttcj dayj limj lowj higj thrj offj crej rcpj payj svj nxj SLj))))) (w' := wAE cy ye0 eej ++ (wAM cy ym0 mmj ++ (wAQ cy yq0 qqj ++ (wAH cy yh0 hhj ++ (wAB cy yb0 bbj ++ wX7 cy a0 t0 t1 k0 k1 k2 s0 s1 s2 s3 s4 s5 s6 s7 s8 s9 s10 s11 hd Xle Xch Xpo Xltr Xfi Xse Xth Kszj Kclj Kkej Aszj Anuj Abaj Amoj Acoj Hszj Hlaj Hcej Bszj Blaj Bcej Tmaj Tlcj Ttcj dayj limj lowj higj thrj offj crej rcpj payj svj nxj SLj))))) rfl rfl hP hK hD hN hS hA rfl hl rfl (Nat.le_of_ble_eq_true rfl) dL_law_948 ⟨Nat.le_refl _, Nat.le_refl _⟩ (fun H locs hP hD hS => ?_)
              refine lv_istore (lv' := [(16, .int r_994), (15, .int x15_645), (0, .ref b), (1, .ref a0), (2, .ref yq0), (3, .ref ym0), (4, .ref yh0), (5, .ref yb0), (6, .ref ye0), (7, .int z7j), (8, .int z8j), (9, .int z9j), (10, .int z10j), (11, .int z11j), (12, .int z12j), (13, .int z13j), (14, .int z14j)]) hx hb dL_law_951 hl (by decide) rfl (fun ls hl => ?_)
              refine lv_aload hx hb dL_law_953 (lv_at hl 6 rfl) ?_
              refine lv_iconst (v := 3) hx hb dL_law_955 (by decide) ?_
              refine lv_iload hx hb dL_law_956 (lv_at hl 0 rfl) ?_
              refine lv_imul hx hb dL_law_958 ?_
              obtain ⟨hi_996, hf⟩ := ckI_el hf
              refine va_iald hx hb hK hP 3 1 rfl rfl hi_996 dL_law_959 ?_
              obtain ⟨x17_997, ex17_997, hf⟩ := lt_el hf
              refine x_topi ex17_997 ?_
              refine lv_istore (lv' := [(17, .int x17_997), (16, .int r_994), (15, .int x15_645), (0, .ref b), (1, .ref a0), (2, .ref yq0), (3, .ref ym0), (4, .ref yh0), (5, .ref yb0), (6, .ref ye0), (7, .int z7j), (8, .int z8j), (9, .int z9j), (10, .int z10j), (11, .int z11j), (12, .int z12j), (13, .int z13j), (14, .int z14j)]) hx hb dL_law_960 hl (by decide) rfl (fun ls hl => ?_)
              refine lv_aload hx hb dL_law_962 (lv_at hl 7 rfl) ?_
              refine lv_iconst (v := 3) hx hb dL_law_964 (by decide) ?_
              refine lv_iload hx hb dL_law_965 (lv_at hl 1 rfl) ?_
              refine lv_imul hx hb dL_law_967 ?_
              refine lv_iconst (v := 0) hx hb dL_law_968 (by decide) ?_
              obtain ⟨hi_998, hf⟩ := ckI_el hf
              obtain ⟨hh_999, ehh_999, hf⟩ := lt_el hf
              refine x_iast hx hb hK hP hD hS 3 rfl hi_998 ehh_999 (w' := wAE cy ye0 eej ++ (wAM cy ym0 mmj ++ (wAQ cy yq0 qqj ++ (wAH cy yh0 hh_999 ++ (wAB cy yb0 bbj ++ wX7 cy a0 t0 t1 k0 k1 k2 s0 s1 s2 s3 s4 s5 s6 s7 s8 s9 s10 s11 hd Xle Xch Xpo Xltr Xfi Xse Xth Kszj Kclj Kkej Aszj Anuj Abaj Amoj Acoj Hszj Hlaj Hcej Bszj Blaj Bcej Tmaj Tlcj Ttcj dayj limj lowj higj thrj offj crej rcpj payj svj nxj SLj))))) rfl dL_law_969 (fun H locs hP hD hS => ?_)
              refine lv_aload_n hx hb dL_law_970 rfl (lv_at hl 4 rfl) ?_
              refine lv_iload hx hb dL_law_971 (lv_at hl 1 rfl) ?_
              refine lv_iconst (v := 1) hx hb dL_law_973 (by decide) ?_
              refine lv_iadd hx hb dL_law_974 ?_
              obtain ⟨r_1000, Hsz_1001, Hce_1002, sv_1003, nx_1004, SL_1005, h_1006, hf⟩ := bd6_el hf
              refine x_callVi (As := [.int (r_994 + 1)]) (rest := []) ⟨hx, hb, hml, hown, hts⟩ (mX7_release l D cy a0 t0 t1 k0 k1 k2 s0 s1 s2 s3 s4 s5 s6 s7 s8 s9 s10 s11 hd Xle Xch Xpo Xltr Xfi Xse Xth Kszj Kclj Kkej Aszj Anuj Abaj Amoj Acoj Hszj Hlaj Hcej Bszj Blaj Bcej Tmaj Tlcj Ttcj dayj limj lowj higj thrj offj crej rcpj payj svj nxj SLj (r_994 + 1) r_1000 Hsz_1001 Hce_1002 sv_1003 nx_1004 SL_1005 h_1006) (cwV 1 hts (gcV_X7_release hbg wm_12_11) rfl rfl rfl kdX7_release ⟨Nat.le_of_ble_eq_true rfl, Nat.le_of_ble_eq_true rfl⟩) (w1 := wAE cy ye0 eej ++ (wAM cy ym0 mmj ++ (wAQ cy yq0 qqj ++ (wAH cy yh0 hh_999 ++ (wAB cy yb0 bbj))))) (w2 := []) (w' := wAE cy ye0 eej ++ (wAM cy ym0 mmj ++ (wAQ cy yq0 qqj ++ (wAH cy yh0 hh_999 ++ (wAB cy yb0 bbj ++ wX7 cy a0 t0 t1 k0 k1 k2 s0 s1 s2 s3 s4 s5 s6 s7 s8 s9 s10 s11 hd Xle Xch Xpo Xltr Xfi Xse Xth Kszj Kclj Kkej Aszj Anuj Abaj Amoj Acoj Hsz_1001 Hlaj Hce_1002 Bszj Blaj Bcej Tmaj Tlcj Ttcj dayj limj lowj higj thrj offj crej rcpj payj sv_1003 nx_1004 SL_1005))))) (by simp only [List.append_assoc, List.append_nil, List.nil_append]) (by simp only [List.append_assoc, List.append_nil, List.nil_append]) hP hK hD hN hS hA (q0 := 0) rfl rfl rfl rfl hl rfl (Nat.le_of_ble_eq_true rfl) dL_law_975 ⟨Nat.le_refl _, Nat.le_refl _⟩ (fun H locs hP hD hS => ?_)
              refine lv_iload hx hb dL_law_978 (lv_at hl 0 rfl) ?_
              refine lv_if_le (tgt := 995) hx hb dL_law_980 (by decide) (fun c_1007 => ?_) (fun c_1007 => ?_)
              · have hf := x_t c_1007 hf
                refine lv_iconst (v := (-1)) hx hb dL_law_995 (by decide) ?_
                refine lv_icmp_eq (tgt := 1001) hx hb dL_law_996 (by decide) (fun c_1008 => ?_) (fun c_1008 => ?_)
                · have hf := x_t c_1008 hf
                  refine lv_goto (tgt := 2283) hx hb dL_law_1001 (by decide) ?_
                  exact (hfL_law_J2283 C0 ye0 ym0 yq0 yh0 yb0 a0 t0 t1 k0 k1 k2 s0 s1 s2 s3 s4 s5 s6 s7 s8 s9 s10 s11 hd Xle Xch Xpo Xltr Xfi Xse Xth rec o_94 ih hr_94 kx_94) eej mmj qqj hh_999 bbj Kszj Kclj Kkej Aszj Anuj Abaj Amoj Acoj Hsz_1001 Hlaj Hce_1002 Bszj Blaj Bcej Tmaj Tlcj Ttcj dayj limj lowj higj thrj offj crej rcpj payj sv_1003 nx_1004 SL_1005 z7j z8j z10j _ _ _ hf hP hD hS (lv_sub hl [3, 4, 5, 6, 7, 8, 9, 10, 11, 13] rfl)
                · have hf := x_f c_1008 hf
                  refine lv_iconst (v := 0) hx hb dL_law_999 (by decide) ?_
                  have hf := Option.some.inj hf
                  have hf := (hr_94 _ hf.symm)
                  exact absurd hf (by decide)
              · have hf := x_f c_1007 hf
                refine lv_iload hx hb dL_law_983 (lv_at hl 0 rfl) ?_
                refine lv_aload_n hx hb dL_law_985 rfl (lv_at hl 6 rfl) ?_
                refine lv_aload_n hx hb dL_law_986 rfl (lv_at hl 5 rfl) ?_
                refine lv_aload hx hb dL_law_987 (lv_at hl 7 rfl) ?_
                obtain ⟨r_1009, h_1010, hf⟩ := bd1_el hf
                refine x_callSi (As := [.int x17_997, .ref ym0, .ref yq0, .ref yh0]) (rest := [.int r_1000]) ⟨hx, hb, hml, hown, hts⟩ (mL_free l D cy ym0 yq0 yh0 mmj qqj hh_999 x17_997 r_1009 h_1010) (va_cwS 4 hts (gcS_L_free hbg wm_10_7) rfl rfl rfl kdL_free ⟨Nat.le_of_ble_eq_true rfl, Nat.le_of_ble_eq_true rfl⟩) (w1 := wAE cy ye0 eej) (w2 := wAB cy yb0 bbj ++ (wX7 cy a0 t0 t1 k0 k1 k2 s0 s1 s2 s3 s4 s5 s6 s7 s8 s9 s10 s11 hd Xle Xch Xpo Xltr Xfi Xse Xth Kszj Kclj Kkej Aszj Anuj Abaj Amoj Acoj Hsz_1001 Hlaj Hce_1002 Bszj Blaj Bcej Tmaj Tlcj Ttcj dayj limj lowj higj thrj offj crej rcpj payj sv_1003 nx_1004 SL_1005)) (w' := wAE cy ye0 eej ++ (wAM cy ym0 mmj ++ (wAQ cy yq0 qqj ++ (wAH cy yh0 hh_999 ++ (wAB cy yb0 bbj ++ wX7 cy a0 t0 t1 k0 k1 k2 s0 s1 s2 s3 s4 s5 s6 s7 s8 s9 s10 s11 hd Xle Xch Xpo Xltr Xfi Xse Xth Kszj Kclj Kkej Aszj Anuj Abaj Amoj Acoj Hsz_1001 Hlaj Hce_1002 Bszj Blaj Bcej Tmaj Tlcj Ttcj dayj limj lowj higj thrj offj crej rcpj payj sv_1003 nx_1004 SL_1005))))) (by simp only [List.append_assoc, List.append_nil, List.nil_append]) (by simp only [List.append_assoc, List.append_nil, List.nil_append]) hP hK hD hN hS hA rfl hl rfl (Nat.le_of_ble_eq_true rfl) dL_law_989 ⟨Nat.le_refl _, Nat.le_refl _⟩ (fun H locs hP hD hS => ?_)
                refine lv_goto (tgt := 996) hx hb dL_law_992 (by decide) ?_
                refine lv_icmp_eq (tgt := 1001) hx hb dL_law_996 (by decide) (fun c_1011 => ?_) (fun c_1011 => ?_)
                · have hf := x_t c_1011 hf
                  refine lv_goto (tgt := 2283) hx hb dL_law_1001 (by decide) ?_
                  exact (hfL_law_J2283 C0 ye0 ym0 yq0 yh0 yb0 a0 t0 t1 k0 k1 k2 s0 s1 s2 s3 s4 s5 s6 s7 s8 s9 s10 s11 hd Xle Xch Xpo Xltr Xfi Xse Xth rec o_94 ih hr_94 kx_94) eej mmj qqj hh_999 bbj Kszj Kclj Kkej Aszj Anuj Abaj Amoj Acoj Hsz_1001 Hlaj Hce_1002 Bszj Blaj Bcej Tmaj Tlcj Ttcj dayj limj lowj higj thrj offj crej rcpj payj sv_1003 nx_1004 SL_1005 z7j z8j z10j _ _ _ hf hP hD hS (lv_sub hl [3, 4, 5, 6, 7, 8, 9, 10, 11, 13] rfl)
                · have hf := x_f c_1011 hf
                  refine lv_iconst (v := 0) hx hb dL_law_999 (by decide) ?_
                  have hf := Option.some.inj hf
                  have hf := (hr_94 _ hf.symm)
                  exact absurd hf (by decide)
          · have hf := x_f c_650 hf
            refine lv_aload_n hx hb dL_law_732 rfl (lv_at hl 3 rfl) ?_
            refine lv_bipush (v := 6) hx hb dL_law_733 (by decide) ?_
            obtain ⟨hi_1012, hf⟩ := ckI_el hf
            refine va_iald hx hb hK hP 2 1 rfl rfl hi_1012 dL_law_735 ?_
            refine lv_bipush (v := 20) hx hb dL_law_736 (by decide) ?_
            refine lv_icmp_ne (tgt := 744) hx hb dL_law_738 (by decide) (fun c_1013 => ?_) (fun c_1013 => ?_)
            · have hf := x_f c_1013 hf
              refine lv_iconst (v := 1) hx hb dL_law_744 (by decide) ?_
              refine lv_iload hx hb dL_law_745 (lv_at hl 10 rfl) ?_
              refine lv_bipush (v := 7) hx hb dL_law_747 (by decide) ?_
              refine lv_ishr hx hb dL_law_749 ?_
              refine lv_bipush (v := 60) hx hb dL_law_750 (by decide) ?_
              obtain ⟨r_1014, h_1015, hf⟩ := bd1_el hf
              refine x_callSi (As := [.int (z9j >>> (7 &&& 31)), .int 60]) (rest := [.int 1]) ⟨hx, hb, hml, hown, hts⟩ (mL_low l D cy   (z9j >>> (7 &&& 31)) 60 r_1014 h_1015) (va_cwS 2 hts (gcS_L_low hbg wm_4_19) rfl rfl rfl kdL_low ⟨Nat.le_of_ble_eq_true rfl, Nat.le_of_ble_eq_true rfl⟩) (w1 := []) (w2 := wAE cy ye0 eej ++ (wAM cy ym0 mmj ++ (wAQ cy yq0 qqj ++ (wAH cy yh0 hhj ++ (wAB cy yb0 bbj ++ wX7 cy a0 t0 t1 k0 k1 k2 s0 s1 s2 s3 s4 s5 s6 s7 s8 s9 s10 s11 hd Xle Xch Xpo Xltr Xfi Xse Xth Kszj Kclj Kkej Aszj Anuj Abaj Amoj Acoj Hszj Hlaj Hcej Bszj Blaj Bcej Tmaj Tlcj Ttcj dayj limj lowj higj thrj offj crej rcpj payj svj nxj SLj))))) (w' := wAE cy ye0 eej ++ (wAM cy ym0 mmj ++ (wAQ cy yq0 qqj ++ (wAH cy yh0 hhj ++ (wAB cy yb0 bbj ++ wX7 cy a0 t0 t1 k0 k1 k2 s0 s1 s2 s3 s4 s5 s6 s7 s8 s9 s10 s11 hd Xle Xch Xpo Xltr Xfi Xse Xth Kszj Kclj Kkej Aszj Anuj Abaj Amoj Acoj Hszj Hlaj Hcej Bszj Blaj Bcej Tmaj Tlcj Ttcj dayj limj lowj higj thrj offj crej rcpj payj svj nxj SLj))))) rfl rfl hP hK hD hN hS hA rfl hl rfl (Nat.le_of_ble_eq_true rfl) dL_law_752 ⟨Nat.le_refl _, Nat.le_refl _⟩ (fun H locs hP hD hS => ?_)
              refine lv_iadd hx hb dL_law_755 ?_
              obtain ⟨x16_1016, ex16_1016, hf⟩ := lt_el hf
              refine x_topi ex16_1016 ?_
              refine lv_istore (lv' := [(16, .int x16_1016), (15, .int x15_645), (0, .ref b), (1, .ref a0), (2, .ref yq0), (3, .ref ym0), (4, .ref yh0), (5, .ref yb0), (6, .ref ye0), (7, .int z7j), (8, .int z8j), (9, .int z9j), (10, .int z10j), (11, .int z11j), (12, .int z12j), (13, .int z13j), (14, .int z14j)]) hx hb dL_law_756 hl (by decide) rfl (fun ls hl => ?_)
              refine lv_iconst (v := 0) hx hb dL_law_758 (by decide) ?_
              refine lv_istore (lv' := [(17, .int 0), (16, .int x16_1016), (15, .int x15_645), (0, .ref b), (1, .ref a0), (2, .ref yq0), (3, .ref ym0), (4, .ref yh0), (5, .ref yb0), (6, .ref ye0), (7, .int z7j), (8, .int z8j), (9, .int z9j), (10, .int z10j), (11, .int z11j), (12, .int z12j), (13, .int z13j), (14, .int z14j)]) hx hb dL_law_759 hl (by decide) rfl (fun ls hl => ?_)
              refine lv_iconst (v := 0) hx hb dL_law_761 (by decide) ?_
              refine lv_istore (lv' := [(18, .int 0), (17, .int 0), (16, .int x16_1016), (15, .int x15_645), (0, .ref b), (1, .ref a0), (2, .ref yq0), (3, .ref ym0), (4, .ref yh0), (5, .ref yb0), (6, .ref ye0), (7, .int z7j), (8, .int z8j), (9, .int z9j), (10, .int z10j), (11, .int z11j), (12, .int z12j), (13, .int z13j), (14, .int z14j)]) hx hb dL_law_762 hl (by decide) rfl (fun ls hl => ?_)
              have hL_764 : ∀ (n : Nat) (z17_1050 : Int32) (z18_1051 : Int32) (o : Int32) (H : Heap) (locs : List Loc) (ls : Array Slot), fL_law_L764 hhj z7j z8j z10j z12j z14j x15_645 x16_1016 n z17_1050 z18_1051 = some o → va_P D vwCl (wAE cy ye0 eej ++ (wAM cy ym0 mmj ++ (wAQ cy yq0 qqj ++ (wAH cy yh0 hhj ++ (wAB cy yb0 bbj ++ wX7 cy a0 t0 t1 k0 k1 k2 s0 s1 s2 s3 s4 s5 s6 s7 s8 s9 s10 s11 hd Xle Xch Xpo Xltr Xfi Xse Xth Kszj Kclj Kkej Aszj Anuj Abaj Amoj Acoj Hszj Hlaj Hcej Bszj Blaj Bcej Tmaj Tlcj Ttcj dayj limj lowj higj thrj offj crej rcpj payj svj nxj SLj))))) H → va_D A (wAE cy ye0 eej ++ (wAM cy ym0 mmj ++ (wAQ cy yq0 qqj ++ (wAH cy yh0 hhj ++ (wAB cy yb0 bbj ++ wX7 cy a0 t0 t1 k0 k1 k2 s0 s1 s2 s3 s4 s5 s6 s7 s8 s9 s10 s11 hd Xle Xch Xpo Xltr Xfi Xse Xth Kszj Kclj Kkej Aszj Anuj Abaj Amoj Acoj Hszj Hlaj Hcej Bszj Blaj Bcej Tmaj Tlcj Ttcj dayj limj lowj higj thrj offj crej rcpj payj svj nxj SLj))))) → va_S A s.heap H locs → lv_has ls 27 [(0, .ref b), (1, .ref a0), (2, .ref yq0), (3, .ref ym0), (4, .ref yh0), (5, .ref yb0), (6, .ref ye0), (7, .int z7j), (8, .int z8j), (10, .int z10j), (12, .int z12j), (14, .int z14j), (15, .int x15_645), (16, .int x16_1016), (17, .int z17_1050), (18, .int z18_1051)] → True → ((∀ (x17_1052 : Int32) , o = x17_1052 → ∀ (H : Heap) (locs : List Loc) (ls : Array Slot), va_P D vwCl (wAE cy ye0 eej ++ (wAM cy ym0 mmj ++ (wAQ cy yq0 qqj ++ (wAH cy yh0 hhj ++ (wAB cy yb0 bbj ++ wX7 cy a0 t0 t1 k0 k1 k2 s0 s1 s2 s3 s4 s5 s6 s7 s8 s9 s10 s11 hd Xle Xch Xpo Xltr Xfi Xse Xth Kszj Kclj Kkej Aszj Anuj Abaj Amoj Acoj Hszj Hlaj Hcej Bszj Blaj Bcej Tmaj Tlcj Ttcj dayj limj lowj higj thrj offj crej rcpj payj svj nxj SLj))))) H → va_D A (wAE cy ye0 eej ++ (wAM cy ym0 mmj ++ (wAQ cy yq0 qqj ++ (wAH cy yh0 hhj ++ (wAB cy yb0 bbj ++ wX7 cy a0 t0 t1 k0 k1 k2 s0 s1 s2 s3 s4 s5 s6 s7 s8 s9 s10 s11 hd Xle Xch Xpo Xltr Xfi Xse Xth Kszj Kclj Kkej Aszj Anuj Abaj Amoj Acoj Hszj Hlaj Hcej Bszj Blaj Bcej Tmaj Tlcj Ttcj dayj limj lowj higj thrj offj crej rcpj payj svj nxj SLj))))) → va_S A s.heap H locs → lv_has ls 27 [(0, .ref b), (1, .ref a0), (2, .ref yq0), (3, .ref ym0), (4, .ref yh0), (5, .ref yb0), (6, .ref ye0), (7, .int z7j), (8, .int z8j), (10, .int z10j), (12, .int z12j), (14, .int z14j), (15, .int x15_645), (16, .int x16_1016), (17, .int x17_1052)] →  W p l e room_1 s m #[Value.ref b] below meth c H locs 600000 7302250 Q (F0 m 795 ls []))) → W p l e room_1 s m #[Value.ref b] below meth c H locs 600000 7302250 Q (F0 m 764 ls []) := by
                intro n
                induction n with
                | zero =>
                  intro z17_1050 z18_1051 o_764 H locs ls hf
                  rw [fL_law_L764] at hf
                  cases hf
                | succ n ih =>
                  intro z17_1050 z18_1051 o_764 H locs ls hf hP hD hS hl hr_764 kx_764
                  rw [fL_law_L764] at hf
                  refine lv_iload hx hb dL_law_764 (lv_at hl 15 rfl) ?_
                  refine lv_bipush (v := 60) hx hb dL_law_766 (by decide) ?_
                  refine lv_icmp_ge (tgt := 795) hx hb dL_law_768 (by decide) (fun c_1053 => ?_) (fun c_1053 => ?_)
                  · have hf := x_t c_1053 hf
                    exact kx_764 z17_1050 (Option.some.inj hf).symm _ _ _ hP hD hS (lv_sub hl [0, 1, 2, 3, 4, 5, 6, 7, 8, 9, 10, 11, 12, 13, 14] rfl)
                  · have hf := x_f c_1053 hf
                    refine lv_iload hx hb dL_law_771 (lv_at hl 14 rfl) ?_
                    refine lv_aload hx hb dL_law_773 (lv_at hl 4 rfl) ?_
                    refine lv_iload hx hb dL_law_775 (lv_at hl 15 rfl) ?_
                    obtain ⟨hi_1054, hf⟩ := ckI_el hf
                    refine va_iald hx hb hK hP 3 1 rfl rfl hi_1054 dL_law_777 ?_
                    refine lv_if_le (tgt := 785) hx hb dL_law_778 (by decide) (fun c_1055 => ?_) (fun c_1055 => ?_)
                    · have hf := x_t c_1055 hf
                      refine lv_iconst (v := 0) hx hb dL_law_785 (by decide) ?_
                      refine lv_iadd hx hb dL_law_786 ?_
                      obtain ⟨x17_1056, ex17_1056, hf⟩ := lt_el hf
                      refine x_topi ex17_1056 ?_
                      refine lv_istore (lv' := [(17, .int x17_1056), (0, .ref b), (1, .ref a0), (2, .ref yq0), (3, .ref ym0), (4, .ref yh0), (5, .ref yb0), (6, .ref ye0), (7, .int z7j), (8, .int z8j), (10, .int z10j), (12, .int z12j), (14, .int z14j), (15, .int x15_645), (16, .int x16_1016), (18, .int z18_1051)]) hx hb dL_law_787 hl (by decide) rfl (fun ls hl => ?_)
                      refine lv_iinc (v := (z18_1051 + 3)) (lv' := [(18, .int (z18_1051 + 3)), (17, .int x17_1056), (0, .ref b), (1, .ref a0), (2, .ref yq0), (3, .ref ym0), (4, .ref yh0), (5, .ref yb0), (6, .ref ye0), (7, .int z7j), (8, .int z8j), (10, .int z10j), (12, .int z12j), (14, .int z14j), (15, .int x15_645), (16, .int x16_1016)]) hx hb dL_law_789 hl (k := 15) rfl rfl (by decide) rfl (fun ls hl => ?_)
                      refine lv_goto (tgt := 764) hx hb dL_law_792 (by decide) ?_
                      exact ih x17_1056 (z18_1051 + 3) _ _ _ _ hf hP hD hS (lv_sub hl [2, 3, 4, 5, 6, 7, 8, 9, 10, 11, 12, 13, 14, 15, 1, 0] rfl) hr_764 kx_764
                    · have hf := x_f c_1055 hf
                      refine lv_iconst (v := 1) hx hb dL_law_781 (by decide) ?_
                      refine lv_goto (tgt := 786) hx hb dL_law_782 (by decide) ?_
                      refine lv_iadd hx hb dL_law_786 ?_
                      obtain ⟨x17_1057, ex17_1057, hf⟩ := lt_el hf
                      refine x_topi ex17_1057 ?_
                      refine lv_istore (lv' := [(17, .int x17_1057), (0, .ref b), (1, .ref a0), (2, .ref yq0), (3, .ref ym0), (4, .ref yh0), (5, .ref yb0), (6, .ref ye0), (7, .int z7j), (8, .int z8j), (10, .int z10j), (12, .int z12j), (14, .int z14j), (15, .int x15_645), (16, .int x16_1016), (18, .int z18_1051)]) hx hb dL_law_787 hl (by decide) rfl (fun ls hl => ?_)
                      refine lv_iinc (v := (z18_1051 + 3)) (lv' := [(18, .int (z18_1051 + 3)), (17, .int x17_1057), (0, .ref b), (1, .ref a0), (2, .ref yq0), (3, .ref ym0), (4, .ref yh0), (5, .ref yb0), (6, .ref ye0), (7, .int z7j), (8, .int z8j), (10, .int z10j), (12, .int z12j), (14, .int z14j), (15, .int x15_645), (16, .int x16_1016)]) hx hb dL_law_789 hl (k := 15) rfl rfl (by decide) rfl (fun ls hl => ?_)
                      refine lv_goto (tgt := 764) hx hb dL_law_792 (by decide) ?_
                      exact ih x17_1057 (z18_1051 + 3) _ _ _ _ hf hP hD hS (lv_sub hl [2, 3, 4, 5, 6, 7, 8, 9, 10, 11, 12, 13, 14, 15, 1, 0] rfl) hr_764 kx_764
              obtain ⟨x17_1017, h1_764, hf⟩ := bd1_el hf
              refine hL_764 2147483648 0 0 _ _ _ _ h1_764 hP hD hS (lv_sub hl [4, 5, 6, 7, 8, 9, 10, 11, 12, 14, 16, 18, 3, 2, 1, 0] rfl) trivial (fun x17_10179 ho H locs ls hP hD hS hl => ?_)
              cases ho
              refine lv_iload hx hb dL_law_795 (lv_at hl 11 rfl) ?_
              refine lv_if_eq (tgt := 818) hx hb dL_law_797 (by decide) (fun c_1018 => ?_) (fun c_1018 => ?_)
              · have hf := x_t c_1018 hf
                refine lv_iconst (v := 0) hx hb dL_law_818 (by decide) ?_
                exact (hfL_law_J819 C0 ye0 ym0 yq0 yh0 yb0 a0 t0 t1 k0 k1 k2 s0 s1 s2 s3 s4 s5 s6 s7 s8 s9 s10 s11 hd Xle Xch Xpo Xltr Xfi Xse Xth rec o_94 ih hr_94 kx_94) eej mmj qqj hhj bbj Kszj Kclj Kkej Aszj Anuj Abaj Amoj Acoj Hszj Hlaj Hcej Bszj Blaj Bcej Tmaj Tlcj Ttcj dayj limj lowj higj thrj offj crej rcpj payj svj nxj SLj z7j z8j z10j z12j z14j x15_645 x16_1016 x17_1017 0 _ _ _ hf hP hD hS (lv_sub hl [0, 1, 2, 3, 4, 5, 6, 7, 8, 9, 10, 11, 12, 13, 14] rfl)
              · have hf := x_f c_1018 hf
                refine lv_iload hx hb dL_law_800 (lv_at hl 10 rfl) ?_
                refine lv_aload_n hx hb dL_law_802 rfl (lv_at hl 3 rfl) ?_
                refine lv_aload_n hx hb dL_law_803 rfl (lv_at hl 2 rfl) ?_
                refine lv_aload hx hb dL_law_804 (lv_at hl 4 rfl) ?_
                obtain ⟨r_1047, h_1048, hf⟩ := bd1_el hf
                refine x_callSi (As := [.int z12j, .ref ym0, .ref yq0, .ref yh0]) (rest := []) ⟨hx, hb, hml, hown, hts⟩ (mL_free l D cy ym0 yq0 yh0 mmj qqj hhj z12j r_1047 h_1048) (va_cwS 4 hts (gcS_L_free hbg wm_10_7) rfl rfl rfl kdL_free ⟨Nat.le_of_ble_eq_true rfl, Nat.le_of_ble_eq_true rfl⟩) (w1 := wAE cy ye0 eej) (w2 := wAB cy yb0 bbj ++ (wX7 cy a0 t0 t1 k0 k1 k2 s0 s1 s2 s3 s4 s5 s6 s7 s8 s9 s10 s11 hd Xle Xch Xpo Xltr Xfi Xse Xth Kszj Kclj Kkej Aszj Anuj Abaj Amoj Acoj Hszj Hlaj Hcej Bszj Blaj Bcej Tmaj Tlcj Ttcj dayj limj lowj higj thrj offj crej rcpj payj svj nxj SLj)) (w' := wAE cy ye0 eej ++ (wAM cy ym0 mmj ++ (wAQ cy yq0 qqj ++ (wAH cy yh0 hhj ++ (wAB cy yb0 bbj ++ wX7 cy a0 t0 t1 k0 k1 k2 s0 s1 s2 s3 s4 s5 s6 s7 s8 s9 s10 s11 hd Xle Xch Xpo Xltr Xfi Xse Xth Kszj Kclj Kkej Aszj Anuj Abaj Amoj Acoj Hszj Hlaj Hcej Bszj Blaj Bcej Tmaj Tlcj Ttcj dayj limj lowj higj thrj offj crej rcpj payj svj nxj SLj))))) (by simp only [List.append_assoc, List.append_nil, List.nil_append]) (by simp only [List.append_assoc, List.append_nil, List.nil_append]) hP hK hD hN hS hA rfl hl rfl (Nat.le_of_ble_eq_true rfl) dL_law_806 ⟨Nat.le_refl _, Nat.le_refl _⟩ (fun H locs hP hD hS => ?_)
                refine lv_iload hx hb dL_law_809 (lv_at hl 12 rfl) ?_
                refine lv_icmp_lt (tgt := 818) hx hb dL_law_811 (by decide) (fun c_1049 => ?_) (fun c_1049 => ?_)
                · have hf := x_t c_1049 hf
                  refine lv_iconst (v := 0) hx hb dL_law_818 (by decide) ?_
                  exact (hfL_law_J819 C0 ye0 ym0 yq0 yh0 yb0 a0 t0 t1 k0 k1 k2 s0 s1 s2 s3 s4 s5 s6 s7 s8 s9 s10 s11 hd Xle Xch Xpo Xltr Xfi Xse Xth rec o_94 ih hr_94 kx_94) eej mmj qqj hhj bbj Kszj Kclj Kkej Aszj Anuj Abaj Amoj Acoj Hszj Hlaj Hcej Bszj Blaj Bcej Tmaj Tlcj Ttcj dayj limj lowj higj thrj offj crej rcpj payj svj nxj SLj z7j z8j z10j z12j z14j x15_645 x16_1016 x17_1017 0 _ _ _ hf hP hD hS (lv_sub hl [0, 1, 2, 3, 4, 5, 6, 7, 8, 9, 10, 11, 12, 13, 14] rfl)
                · have hf := x_f c_1049 hf
                  refine lv_iconst (v := 1) hx hb dL_law_814 (by decide) ?_
                  refine lv_goto (tgt := 819) hx hb dL_law_815 (by decide) ?_
                  exact (hfL_law_J819 C0 ye0 ym0 yq0 yh0 yb0 a0 t0 t1 k0 k1 k2 s0 s1 s2 s3 s4 s5 s6 s7 s8 s9 s10 s11 hd Xle Xch Xpo Xltr Xfi Xse Xth rec o_94 ih hr_94 kx_94) eej mmj qqj hhj bbj Kszj Kclj Kkej Aszj Anuj Abaj Amoj Acoj Hszj Hlaj Hcej Bszj Blaj Bcej Tmaj Tlcj Ttcj dayj limj lowj higj thrj offj crej rcpj payj svj nxj SLj z7j z8j z10j z12j z14j x15_645 x16_1016 x17_1017 1 _ _ _ hf hP hD hS (lv_sub hl [0, 1, 2, 3, 4, 5, 6, 7, 8, 9, 10, 11, 12, 13, 14] rfl)
            · have hf := x_t c_1013 hf
              refine lv_goto (tgt := 2304) hx hb dL_law_741 (by decide) ?_
              refine lv_iinc (v := (z8j + 1)) (lv' := [(8, .int (z8j + 1)), (15, .int x15_645), (0, .ref b), (1, .ref a0), (2, .ref yq0), (3, .ref ym0), (4, .ref yh0), (5, .ref yb0), (6, .ref ye0), (7, .int z7j), (9, .int z9j), (10, .int z10j), (11, .int z11j), (12, .int z12j), (13, .int z13j), (14, .int z14j)]) hx hb dL_law_2304 hl (k := 9) rfl rfl (by decide) rfl (fun ls hl => ?_)
              refine lv_goto (tgt := 94) hx hb dL_law_2307 (by decide) ?_
              exact ih eej mmj qqj hhj bbj Kszj Kclj Kkej Aszj Anuj Abaj Amoj Acoj Hszj Hlaj Hcej Bszj Blaj Bcej Tmaj Tlcj Ttcj dayj limj lowj higj thrj offj crej rcpj payj svj nxj SLj z7j (z8j + 1) _ _ _ _ hf hP hD hS (lv_sub hl [2, 3, 4, 5, 6, 7, 8, 9, 0] rfl) hr_94 kx_94
        · have hf := x_f c_649 hf
          refine lv_iload hx hb dL_law_530 (lv_at hl 15 rfl) ?_
          refine lv_if_eq (tgt := 549) hx hb dL_law_532 (by decide) (fun c_1058 => ?_) (fun c_1058 => ?_)
          · have hf := x_t c_1058 hf
            refine lv_iconst (v := 0) hx hb dL_law_549 (by decide) ?_
            exact (hfL_law_J550 C0 ye0 ym0 yq0 yh0 yb0 a0 t0 t1 k0 k1 k2 s0 s1 s2 s3 s4 s5 s6 s7 s8 s9 s10 s11 hd Xle Xch Xpo Xltr Xfi Xse Xth rec o_94 ih hr_94 kx_94) eej mmj qqj hhj bbj Kszj Kclj Kkej Aszj Anuj Abaj Amoj Acoj Hszj Hlaj Hcej Bszj Blaj Bcej Tmaj Tlcj Ttcj dayj limj lowj higj thrj offj crej rcpj payj svj nxj SLj z7j z8j z10j z12j z13j x15_645 0 _ _ _ hf hP hD hS (lv_sub hl [1, 2, 3, 4, 5, 6, 7, 8, 9, 11, 13, 14, 0] rfl)
          · have hf := x_f c_1058 hf
            refine lv_aload_n hx hb dL_law_535 rfl (lv_at hl 3 rfl) ?_
            refine lv_bipush (v := 10) hx hb dL_law_536 (by decide) ?_
            refine lv_iload hx hb dL_law_538 (lv_at hl 14 rfl) ?_
            refine lv_iadd hx hb dL_law_540 ?_
            obtain ⟨hi_1094, hf⟩ := ckI_el hf
            refine va_iald hx hb hK hP 2 1 rfl rfl hi_1094 dL_law_541 ?_
            refine lv_if_lt (tgt := 549) hx hb dL_law_542 (by decide) (fun c_1095 => ?_) (fun c_1095 => ?_)
            · have hf := x_t c_1095 hf
              refine lv_iconst (v := 0) hx hb dL_law_549 (by decide) ?_
              exact (hfL_law_J550 C0 ye0 ym0 yq0 yh0 yb0 a0 t0 t1 k0 k1 k2 s0 s1 s2 s3 s4 s5 s6 s7 s8 s9 s10 s11 hd Xle Xch Xpo Xltr Xfi Xse Xth rec o_94 ih hr_94 kx_94) eej mmj qqj hhj bbj Kszj Kclj Kkej Aszj Anuj Abaj Amoj Acoj Hszj Hlaj Hcej Bszj Blaj Bcej Tmaj Tlcj Ttcj dayj limj lowj higj thrj offj crej rcpj payj svj nxj SLj z7j z8j z10j z12j z13j x15_645 0 _ _ _ hf hP hD hS (lv_sub hl [1, 2, 3, 4, 5, 6, 7, 8, 9, 11, 13, 14, 0] rfl)
            · have hf := x_f c_1095 hf
              refine lv_iconst (v := 1) hx hb dL_law_545 (by decide) ?_
              refine lv_goto (tgt := 550) hx hb dL_law_546 (by decide) ?_
              exact (hfL_law_J550 C0 ye0 ym0 yq0 yh0 yb0 a0 t0 t1 k0 k1 k2 s0 s1 s2 s3 s4 s5 s6 s7 s8 s9 s10 s11 hd Xle Xch Xpo Xltr Xfi Xse Xth rec o_94 ih hr_94 kx_94) eej mmj qqj hhj bbj Kszj Kclj Kkej Aszj Anuj Abaj Amoj Acoj Hszj Hlaj Hcej Bszj Blaj Bcej Tmaj Tlcj Ttcj dayj limj lowj higj thrj offj crej rcpj payj svj nxj SLj z7j z8j z10j z12j z13j x15_645 1 _ _ _ hf hP hD hS (lv_sub hl [1, 2, 3, 4, 5, 6, 7, 8, 9, 11, 13, 14, 0] rfl)
      · have hf := x_f c_648 hf
        refine lv_iload hx hb dL_law_411 (lv_at hl 15 rfl) ?_
        refine lv_if_eq (tgt := 434) hx hb dL_law_413 (by decide) (fun c_1096 => ?_) (fun c_1096 => ?_)
        · have hf := x_t c_1096 hf
          refine lv_iconst (v := 0) hx hb dL_law_434 (by decide) ?_
          exact (hfL_law_J435 C0 ye0 ym0 yq0 yh0 yb0 a0 t0 t1 k0 k1 k2 s0 s1 s2 s3 s4 s5 s6 s7 s8 s9 s10 s11 hd Xle Xch Xpo Xltr Xfi Xse Xth rec o_94 ih hr_94 kx_94) eej mmj qqj hhj bbj Kszj Kclj Kkej Aszj Anuj Abaj Amoj Acoj Hszj Hlaj Hcej Bszj Blaj Bcej Tmaj Tlcj Ttcj dayj limj lowj higj thrj offj crej rcpj payj svj nxj SLj z7j z8j z10j z12j z14j x15_645 0 _ _ _ hf hP hD hS (lv_sub hl [1, 2, 3, 4, 5, 6, 7, 8, 9, 11, 13, 15, 0] rfl)
        · have hf := x_f c_1096 hf
          refine lv_iload hx hb dL_law_416 (lv_at hl 13 rfl) ?_
          refine lv_aload_n hx hb dL_law_418 rfl (lv_at hl 4 rfl) ?_
          refine lv_aload_n hx hb dL_law_419 rfl (lv_at hl 3 rfl) ?_
          refine lv_aload hx hb dL_law_420 (lv_at hl 5 rfl) ?_
          obtain ⟨r_1123, h_1124, hf⟩ := bd1_el hf
          refine x_callSi (As := [.int z12j, .ref ym0, .ref yq0, .ref yh0]) (rest := []) ⟨hx, hb, hml, hown, hts⟩ (mL_free l D cy ym0 yq0 yh0 mmj qqj hhj z12j r_1123 h_1124) (va_cwS 4 hts (gcS_L_free hbg wm_10_7) rfl rfl rfl kdL_free ⟨Nat.le_of_ble_eq_true rfl, Nat.le_of_ble_eq_true rfl⟩) (w1 := wAE cy ye0 eej) (w2 := wAB cy yb0 bbj ++ (wX7 cy a0 t0 t1 k0 k1 k2 s0 s1 s2 s3 s4 s5 s6 s7 s8 s9 s10 s11 hd Xle Xch Xpo Xltr Xfi Xse Xth Kszj Kclj Kkej Aszj Anuj Abaj Amoj Acoj Hszj Hlaj Hcej Bszj Blaj Bcej Tmaj Tlcj Ttcj dayj limj lowj higj thrj offj crej rcpj payj svj nxj SLj)) (w' := wAE cy ye0 eej ++ (wAM cy ym0 mmj ++ (wAQ cy yq0 qqj ++ (wAH cy yh0 hhj ++ (wAB cy yb0 bbj ++ wX7 cy a0 t0 t1 k0 k1 k2 s0 s1 s2 s3 s4 s5 s6 s7 s8 s9 s10 s11 hd Xle Xch Xpo Xltr Xfi Xse Xth Kszj Kclj Kkej Aszj Anuj Abaj Amoj Acoj Hszj Hlaj Hcej Bszj Blaj Bcej Tmaj Tlcj Ttcj dayj limj lowj higj thrj offj crej rcpj payj svj nxj SLj))))) (by simp only [List.append_assoc, List.append_nil, List.nil_append]) (by simp only [List.append_assoc, List.append_nil, List.nil_append]) hP hK hD hN hS hA rfl hl rfl (Nat.le_of_ble_eq_true rfl) dL_law_422 ⟨Nat.le_refl _, Nat.le_refl _⟩ (fun H locs hP hD hS => ?_)
          refine lv_iload hx hb dL_law_425 (lv_at hl 0 rfl) ?_
          refine lv_icmp_lt (tgt := 434) hx hb dL_law_427 (by decide) (fun c_1125 => ?_) (fun c_1125 => ?_)
          · have hf := x_t c_1125 hf
            refine lv_iconst (v := 0) hx hb dL_law_434 (by decide) ?_
            exact (hfL_law_J435 C0 ye0 ym0 yq0 yh0 yb0 a0 t0 t1 k0 k1 k2 s0 s1 s2 s3 s4 s5 s6 s7 s8 s9 s10 s11 hd Xle Xch Xpo Xltr Xfi Xse Xth rec o_94 ih hr_94 kx_94) eej mmj qqj hhj bbj Kszj Kclj Kkej Aszj Anuj Abaj Amoj Acoj Hszj Hlaj Hcej Bszj Blaj Bcej Tmaj Tlcj Ttcj dayj limj lowj higj thrj offj crej rcpj payj svj nxj SLj z7j z8j z10j z12j z14j x15_645 0 _ _ _ hf hP hD hS (lv_sub hl [1, 2, 3, 4, 5, 6, 7, 8, 9, 11, 13, 15, 0] rfl)
          · have hf := x_f c_1125 hf
            refine lv_iconst (v := 1) hx hb dL_law_430 (by decide) ?_
            refine lv_goto (tgt := 435) hx hb dL_law_431 (by decide) ?_
            exact (hfL_law_J435 C0 ye0 ym0 yq0 yh0 yb0 a0 t0 t1 k0 k1 k2 s0 s1 s2 s3 s4 s5 s6 s7 s8 s9 s10 s11 hd Xle Xch Xpo Xltr Xfi Xse Xth rec o_94 ih hr_94 kx_94) eej mmj qqj hhj bbj Kszj Kclj Kkej Aszj Anuj Abaj Amoj Acoj Hszj Hlaj Hcej Bszj Blaj Bcej Tmaj Tlcj Ttcj dayj limj lowj higj thrj offj crej rcpj payj svj nxj SLj z7j z8j z10j z12j z14j x15_645 1 _ _ _ hf hP hD hS (lv_sub hl [1, 2, 3, 4, 5, 6, 7, 8, 9, 11, 13, 15, 0] rfl)
    · have hf := x_f c_647 hf
      refine lv_aload_n hx hb dL_law_291 rfl (lv_at hl 4 rfl) ?_
      refine lv_iload hx hb dL_law_292 (lv_at hl 13 rfl) ?_
      obtain ⟨hi_1126, hf⟩ := ckI_el hf
      refine va_lald hx hb hK hP 1 2 rfl rfl hi_1126 dL_law_294 ?_
      refine lv_iload hx hb dL_law_295 (lv_at hl 0 rfl) ?_
      refine lv_i2l (v := x15_645.toInt64) hx hb dL_law_297 rfl ?_
      refine lv_ladd hx hb dL_law_298 ?_
      refine lv_ldc2 hx hb hown wd3 dL_law_299 ?_
      refine W.lcmp hx hb dL_law_302 ?_
      refine lv_if_gt (tgt := 310) hx hb dL_law_303 (by decide) (fun c_1127 => ?_) (fun c_1127 => ?_)
      · have c_1127 := (lg_cmp_gt _ _).mp c_1127
        have hf := x_t c_1127 hf
        refine lv_iconst (v := 0) hx hb dL_law_310 (by decide) ?_
        exact (hfL_law_J311 C0 ye0 ym0 yq0 yh0 yb0 a0 t0 t1 k0 k1 k2 s0 s1 s2 s3 s4 s5 s6 s7 s8 s9 s10 s11 hd Xle Xch Xpo Xltr Xfi Xse Xth rec o_94 ih hr_94 kx_94) eej mmj qqj hhj bbj Kszj Kclj Kkej Aszj Anuj Abaj Amoj Acoj Hszj Hlaj Hcej Bszj Blaj Bcej Tmaj Tlcj Ttcj dayj limj lowj higj thrj offj crej rcpj payj svj nxj SLj z7j z8j z10j z12j z14j x15_645 0 _ _ _ hf hP hD hS (lv_sub hl [1, 2, 3, 4, 5, 6, 7, 8, 9, 11, 13, 15, 0] rfl)
      · have c_1127 := fun q => c_1127 ((lg_cmp_gt _ _).mpr q)
        have hf := x_f c_1127 hf
        refine lv_iconst (v := 1) hx hb dL_law_306 (by decide) ?_
        refine lv_goto (tgt := 311) hx hb dL_law_307 (by decide) ?_
        exact (hfL_law_J311 C0 ye0 ym0 yq0 yh0 yb0 a0 t0 t1 k0 k1 k2 s0 s1 s2 s3 s4 s5 s6 s7 s8 s9 s10 s11 hd Xle Xch Xpo Xltr Xfi Xse Xth rec o_94 ih hr_94 kx_94) eej mmj qqj hhj bbj Kszj Kclj Kkej Aszj Anuj Abaj Amoj Acoj Hszj Hlaj Hcej Bszj Blaj Bcej Tmaj Tlcj Ttcj dayj limj lowj higj thrj offj crej rcpj payj svj nxj SLj z7j z8j z10j z12j z14j x15_645 1 _ _ _ hf hP hD hS (lv_sub hl [1, 2, 3, 4, 5, 6, 7, 8, 9, 11, 13, 15, 0] rfl)
  · have hf := x_t c_646 hf
    refine lv_aload_n hx hb dL_law_227 rfl (lv_at hl 2 rfl) ?_
    refine lv_iload hx hb dL_law_228 (lv_at hl 13 rfl) ?_
    obtain ⟨r_1155, Asz_1156, Anu_1157, Aba_1158, Amo_1159, Aco_1160, sv_1161, nx_1162, SL_1163, h_1164, hf⟩ := bd9_el hf
    refine x_callVi (As := [.int z12j]) (rest := []) ⟨hx, hb, hml, hown, hts⟩ (mX7_open l D cy a0 t0 t1 k0 k1 k2 s0 s1 s2 s3 s4 s5 s6 s7 s8 s9 s10 s11 hd Xle Xch Xpo Xltr Xfi Xse Xth Kszj Kclj Kkej Aszj Anuj Abaj Amoj Acoj Hszj Hlaj Hcej Bszj Blaj Bcej Tmaj Tlcj Ttcj dayj limj lowj higj thrj offj crej rcpj payj svj nxj SLj z12j r_1155 Asz_1156 Anu_1157 Aba_1158 Amo_1159 Aco_1160 sv_1161 nx_1162 SL_1163 h_1164) (cwV 1 hts (gcV_X7_open hbg wm_4_23) rfl rfl rfl kdX7_open ⟨Nat.le_of_ble_eq_true rfl, Nat.le_of_ble_eq_true rfl⟩) (w1 := wAE cy ye0 eej ++ (wAM cy ym0 mmj ++ (wAQ cy yq0 qqj ++ (wAH cy yh0 hhj ++ (wAB cy yb0 bbj))))) (w2 := []) (w' := wAE cy ye0 eej ++ (wAM cy ym0 mmj ++ (wAQ cy yq0 qqj ++ (wAH cy yh0 hhj ++ (wAB cy yb0 bbj ++ wX7 cy a0 t0 t1 k0 k1 k2 s0 s1 s2 s3 s4 s5 s6 s7 s8 s9 s10 s11 hd Xle Xch Xpo Xltr Xfi Xse Xth Kszj Kclj Kkej Asz_1156 Anu_1157 Aba_1158 Amo_1159 Aco_1160 Hszj Hlaj Hcej Bszj Blaj Bcej Tmaj Tlcj Ttcj dayj limj lowj higj thrj offj crej rcpj payj sv_1161 nx_1162 SL_1163))))) (by simp only [List.append_assoc, List.append_nil, List.nil_append]) (by simp only [List.append_assoc, List.append_nil, List.nil_append]) hP hK hD hN hS hA (q0 := 0) rfl rfl rfl rfl hl rfl (Nat.le_of_ble_eq_true rfl) dL_law_230 ⟨Nat.le_refl _, Nat.le_refl _⟩ (fun H locs hP hD hS => ?_)
    refine lv_iload hx hb dL_law_233 (lv_at hl 15 rfl) ?_
    refine lv_if_eq (tgt := 243) hx hb dL_law_235 (by decide) (fun c_1165 => ?_) (fun c_1165 => ?_)
    · have hf := x_t c_1165 hf
      refine lv_aload_n hx hb dL_law_243 rfl (lv_at hl 3 rfl) ?_
      obtain ⟨r_1166, h_1167, hf⟩ := bd1_el hf
      refine x_callSi (As := [.ref yq0]) (rest := [.int r_1155]) ⟨hx, hb, hml, hown, hts⟩ (mL_clients l D cy yq0 qqj  r_1166 h_1167) (va_cwS 1 hts (gcS_L_clients hbg wm_7_22) rfl rfl rfl kdL_clients ⟨Nat.le_of_ble_eq_true rfl, Nat.le_of_ble_eq_true rfl⟩) (w1 := wAE cy ye0 eej ++ (wAM cy ym0 mmj)) (w2 := wAH cy yh0 hhj ++ (wAB cy yb0 bbj ++ (wX7 cy a0 t0 t1 k0 k1 k2 s0 s1 s2 s3 s4 s5 s6 s7 s8 s9 s10 s11 hd Xle Xch Xpo Xltr Xfi Xse Xth Kszj Kclj Kkej Asz_1156 Anu_1157 Aba_1158 Amo_1159 Aco_1160 Hszj Hlaj Hcej Bszj Blaj Bcej Tmaj Tlcj Ttcj dayj limj lowj higj thrj offj crej rcpj payj sv_1161 nx_1162 SL_1163))) (w' := wAE cy ye0 eej ++ (wAM cy ym0 mmj ++ (wAQ cy yq0 qqj ++ (wAH cy yh0 hhj ++ (wAB cy yb0 bbj ++ wX7 cy a0 t0 t1 k0 k1 k2 s0 s1 s2 s3 s4 s5 s6 s7 s8 s9 s10 s11 hd Xle Xch Xpo Xltr Xfi Xse Xth Kszj Kclj Kkej Asz_1156 Anu_1157 Aba_1158 Amo_1159 Aco_1160 Hszj Hlaj Hcej Bszj Blaj Bcej Tmaj Tlcj Ttcj dayj limj lowj higj thrj offj crej rcpj payj sv_1161 nx_1162 SL_1163))))) (by simp only [List.append_assoc, List.append_nil, List.nil_append]) (by simp only [List.append_assoc, List.append_nil, List.nil_append]) hP hK hD hN hS hA rfl hl rfl (Nat.le_of_ble_eq_true rfl) dL_law_244 ⟨Nat.le_refl _, Nat.le_refl _⟩ (fun H locs hP hD hS => ?_)
      refine lv_iconst (v := 1) hx hb dL_law_247 (by decide) ?_
      refine lv_iadd hx hb dL_law_248 ?_
      exact (hfL_law_J249 C0 ye0 ym0 yq0 yh0 yb0 a0 t0 t1 k0 k1 k2 s0 s1 s2 s3 s4 s5 s6 s7 s8 s9 s10 s11 hd Xle Xch Xpo Xltr Xfi Xse Xth rec o_94 ih hr_94 kx_94) eej mmj qqj hhj bbj Kszj Kclj Kkej Asz_1156 Anu_1157 Aba_1158 Amo_1159 Aco_1160 Hszj Hlaj Hcej Bszj Blaj Bcej Tmaj Tlcj Ttcj dayj limj lowj higj thrj offj crej rcpj payj sv_1161 nx_1162 SL_1163 z7j z8j z10j z12j z14j (r_1166 + 1) r_1155 _ _ _ hf hP hD hS (lv_sub hl [1, 2, 3, 4, 5, 6, 7, 8, 9, 11, 13, 15] rfl)
    · have hf := x_f c_1165 hf
      refine lv_bipush (v := (-3)) hx hb dL_law_238 (by decide) ?_
      refine lv_goto (tgt := 249) hx hb dL_law_240 (by decide) ?_
      exact (hfL_law_J249 C0 ye0 ym0 yq0 yh0 yb0 a0 t0 t1 k0 k1 k2 s0 s1 s2 s3 s4 s5 s6 s7 s8 s9 s10 s11 hd Xle Xch Xpo Xltr Xfi Xse Xth rec o_94 ih hr_94 kx_94) eej mmj qqj hhj bbj Kszj Kclj Kkej Asz_1156 Anu_1157 Aba_1158 Amo_1159 Aco_1160 Hszj Hlaj Hcej Bszj Blaj Bcej Tmaj Tlcj Ttcj dayj limj lowj higj thrj offj crej rcpj payj sv_1161 nx_1162 SL_1163 z7j z8j z10j z12j z14j (-3) r_1155 _ _ _ hf hP hD hS (lv_sub hl [1, 2, 3, 4, 5, 6, 7, 8, 9, 11, 13, 15] rfl)
