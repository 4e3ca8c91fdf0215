/-! the pure side, zg: one order of the text -/
theorem nch_i {T : Nat} {ch tx : Nat → Int32} (hT : T ≤ 80) (hc : ∀ i, i < T → ch i = tx i ∧ 33 ≤ (tx i).toInt ∧ (tx i).toInt ≤ 126) {i : Nat} (hi : i < T) : narrow .char (.int (tx i)) = .int (tx i) := by
  obtain ⟨h1, h2, h3⟩ := hc i hi
  obtain ⟨k, ek, ek2, ek3⟩ := nneg_nI (x := tx i) (by omega)
  rw [ek]
  exact nar_c ⟨k, by omega⟩
def OMo (c v1 v2 v3 o t h : Int32) : Prop := ((c = 115 ∨ c = 100) ∧ o = v1) ∨ ((c = 114 ∨ c = 112 ∨ c = 98) ∧ o = v1 ∧ h = v2) ∨ (c = 116 ∧ o = v1 ∧ t = v2 ∧ h = v3)
def RDo (T : Nat) (ch tx : Nat → Int32) (i e : Nat) : Prop := ∃ c v1 v2 v3 : Int32, (∀ ltr fi se th, fX2_readOrder (nI T) ch (nI i) ltr fi se th = some (1, nI (e + 1), c, v1, v2, v3)) ∧ ∀ ltr on_ tw th nu, ∃ on' tw' th' nu', fX8_readsOrder tx (nI T) (nI i) ltr on_ tw th nu = some (1, nI e, c, on', tw', th', nu') ∧ OMo c v1 v2 v3 on' tw' th'
def ORo (T : Nat) (ch tx : Nat → Int32) (i : Nat) : Prop :=
  (∃ e, e ≤ T ∧ (∀ n z2 z3, T - i < n → FX T ch n 0 z2 z3 (nI i) = some (nI e)) ∧ ∀ ltr on_ tw th nu, ∃ ltr' on' tw' th' nu', fX8_readsOrder tx (nI T) (nI i) ltr on_ tw th nu = some (0, nI e, ltr', on', tw', th', nu')) ∨
  (∃ e, i + 2 ≤ e ∧ e ≤ T ∧ RDo T ch tx i e ∧
    ((e = T ∧ ∀ n z2 z3, T - i < n → FX T ch n 0 z2 z3 (nI i) = some (-6)) ∨
     (e < T ∧ ¬ tx e = 59 ∧ ∀ n z2 z3, T - i < n → FX T ch n 0 z2 z3 (nI i) = some (nI e)) ∨
     (e < T ∧ tx e = 59 ∧ ∀ n z2 z3, T - i < n → ∃ m z2' z3', T - (e + 1) < m ∧ FX T ch n 0 z2 z3 (nI i) = FX T ch m 0 z2' z3' (nI (e + 1)))))
theorem rn_i {le : Int32} {ch : Nat → Int32} {i e : Nat} {v : Int32} (h : fX2_readNumber_L14 le ch 2147483648 (nI (i + 1)) 0 0 = some (nI e, v)) : fX2_readNumber le ch (nI i) = some (v, nI e) := by
  unfold fX2_readNumber
  rw [lts, nI_1, h, bd2_s]
theorem ord_last {T : Nat} {ch tx : Nat → Int32} (hT : T ≤ 80) (hc : ∀ i, i < T → ch i = tx i ∧ 33 ≤ (tx i).toInt ∧ (tx i).toInt ≤ 126) {i j : Nat} (hij : i < j) (hj : j ≤ T) {c p : Int32} (c0 : ¬ c = 0) (hs : fX2_signAfter c p = some 59) (hF : ∀ n z2 z3, T - i < n → ∃ m, T - j < m ∧ FX T ch n 0 z2 z3 (nI i) = FX T ch m c p 0 (nI j)) (hR0 : ∀ e v, (∀ nu, fX8_readsNumber tx (nI T) (nI j) nu = some (0, nI e, v)) → ∀ ltr on_ tw th nu, ∃ ltr' on' tw' th' nu', fX8_readsOrder tx (nI T) (nI i) ltr on_ tw th nu = some (0, nI e, ltr', on', tw', th', nu')) (hR1 : ∀ e v, (∀ nu, fX8_readsNumber tx (nI T) (nI j) nu = some (1, nI e, v)) → fX2_readNumber_L14 (nI T) ch 2147483648 (nI j) 0 0 = some (nI e, v) → RDo T ch tx i e) : ORo T ch tx i := by
  obtain ⟨e, v, h1, h2, h3, (⟨h4, h5⟩ | ⟨h4, h5, (⟨h6, h7⟩ | ⟨h6, h7, h8⟩ | ⟨h6, h7, h8, h9⟩)⟩)⟩ := seg_i hT hc hj c0 hs (by decide)
  · refine Or.inl ⟨e, h2, fun n z2 z3 hn => ?_, hR0 e v h4⟩
    obtain ⟨m, q1, q2⟩ := hF n z2 z3 hn
    rw [q2, h5 m q1]
  · refine Or.inr ⟨e, by omega, h2, hR1 e v h4 h3, Or.inl ⟨h6, fun n z2 z3 hn => ?_⟩⟩
    obtain ⟨m, q1, q2⟩ := hF n z2 z3 hn
    rw [q2, h7 m q1, if_pos rfl]
  · refine Or.inr ⟨e, by omega, h2, hR1 e v h4 h3, Or.inr (Or.inl ⟨h6, h7, fun n z2 z3 hn => ?_⟩)⟩
    obtain ⟨m, q1, q2⟩ := hF n z2 z3 hn
    rw [q2, h8 m q1]
  · refine Or.inr ⟨e, by omega, h2, hR1 e v h4 h3, Or.inr (Or.inr ⟨h6, h7, fun n z2 z3 hn => ?_⟩)⟩
    obtain ⟨m, q1, q2⟩ := hF n z2 z3 hn
    obtain ⟨m2, z3', q3, q4⟩ := h8 rfl m q1
    exact ⟨m2, p, z3', q3, by rw [q2, q4]⟩
theorem ord_mid {T : Nat} {ch tx : Nat → Int32} (hT : T ≤ 80) (hc : ∀ i, i < T → ch i = tx i ∧ 33 ≤ (tx i).toInt ∧ (tx i).toInt ≤ 126) {i j : Nat} (hij : i < j) (hj : j ≤ T) {c p s : Int32} (c0 : ¬ c = 0) (hs : fX2_signAfter c p = some s) (hs2 : 57 < s.toInt) (hs3 : ¬ s = 59) (hs4 : ¬ -1 = s) (hF : ∀ n z2 z3, T - i < n → ∃ m, T - j < m ∧ FX T ch n 0 z2 z3 (nI i) = FX T ch m c p 0 (nI j)) (hR0 : ∀ e v, (∀ nu, fX8_readsNumber tx (nI T) (nI j) nu = some (0, nI e, v)) → ∀ ltr on_ tw th nu, ∃ ltr' on' tw' th' nu', fX8_readsOrder tx (nI T) (nI i) ltr on_ tw th nu = some (0, nI e, ltr', on', tw', th', nu')) (hRn : ∀ e v, (∀ nu, fX8_readsNumber tx (nI T) (nI j) nu = some (1, nI e, v)) → fX8_isNext tx (nI T) (nI e) s = some (0, nI e) → ∀ ltr on_ tw th nu, ∃ ltr' on' tw' th' nu', fX8_readsOrder tx (nI T) (nI i) ltr on_ tw th nu = some (0, nI e, ltr', on', tw', th', nu')) (hN : ∀ e v, j < e → e < T → (∀ nu, fX8_readsNumber tx (nI T) (nI j) nu = some (1, nI e, v)) → fX2_readNumber_L14 (nI T) ch 2147483648 (nI j) 0 0 = some (nI e, v) → fX8_isNext tx (nI T) (nI e) s = some (1, nI (e + 1)) → (∀ n z2 z3, T - i < n → ∃ m, T - (e + 1) < m ∧ FX T ch n 0 z2 z3 (nI i) = FX T ch m c (p + 1) 0 (nI (e + 1))) → ORo T ch tx i) : ORo T ch tx i := by
  obtain ⟨e, v, h1, h2, h3, (⟨h4, h5⟩ | ⟨h4, h5, (⟨h6, h7⟩ | ⟨h6, h7, h8⟩ | ⟨h6, h7, h8, h9⟩)⟩)⟩ := seg_i hT hc hj c0 hs hs2
  · refine Or.inl ⟨e, h2, fun n z2 z3 hn => ?_, hR0 e v h4⟩
    obtain ⟨m, q1, q2⟩ := hF n z2 z3 hn
    rw [q2, h5 m q1]
  · refine Or.inl ⟨e, h2, fun n z2 z3 hn => ?_, hRn e v h4 (by rw [h6]; exact isn_end hT tx hs4)⟩
    obtain ⟨m, q1, q2⟩ := hF n z2 z3 hn
    rw [q2, h7 m q1, if_neg hs3, h6]
  · refine Or.inl ⟨e, h2, fun n z2 z3 hn => ?_, hRn e v h4 (isn_no hT hc h6 h7)⟩
    obtain ⟨m, q1, q2⟩ := hF n z2 z3 hn
    rw [q2, h8 m q1]
  · refine hN e v h5 h6 h4 h3 (isn_yes hT hc h6 h7) fun n z2 z3 hn => ?_
    obtain ⟨m, q1, q2⟩ := hF n z2 z3 hn
    obtain ⟨m2, q3, q4⟩ := h9 hs3 m q1
    exact ⟨m2, q3, by rw [q2, q4]⟩
theorem rO_bad {tx : Nat → Int32} {tl : Int32} {i : Nat} {x : Int32} (hx : fX8_character tx tl (nI i) = some x) (h1 : ¬ x = 114) (h2 : ¬ x = 112) (h3 : ¬ x = 116) (h4 : ¬ x = 98) (h5 : ¬ x = 115) (h6 : ¬ x = 100) (ltr on_ tw th nu : Int32) : fX8_readsOrder tx tl (nI i) ltr on_ tw th nu = some (0, nI i, x, on_, tw, th, nu) := by
  unfold fX8_readsOrder
  rw [hx, bd1_s, if_neg h1, if_neg h2, if_neg h3, if_neg h4, if_neg h5, if_neg h6]
theorem rO_ok {tx : Nat → Int32} {tl : Int32} {i : Nat} {x : Int32} (hx : fX8_character tx tl (nI i) = some x) (h : ¬ (¬ x = 114 ∧ ¬ x = 112 ∧ ¬ x = 116 ∧ ¬ x = 98 ∧ ¬ x = 115 ∧ ¬ x = 100)) (ltr on_ tw th nu : Int32) : fX8_readsOrder tx tl (nI i) ltr on_ tw th nu = fX8_readsOrder_J68 tx tl (nI i) x on_ tw th nu := by
  unfold fX8_readsOrder
  rw [hx, bd1_s]
  by_cases h1 : x = 114
  · rw [if_pos h1]
  · rw [if_neg h1]
    by_cases h2 : x = 112
    · rw [if_pos h2]
    · rw [if_neg h2]
      by_cases h3 : x = 116
      · rw [if_pos h3]
      · rw [if_neg h3]
        by_cases h4 : x = 98
        · rw [if_pos h4]
        · rw [if_neg h4]
          by_cases h5 : x = 115
          · rw [if_pos h5]
          · rw [if_neg h5]
            by_cases h6 : x = 100
            · rw [if_pos h6]
            · exact absurd ⟨h1, h2, h3, h4, h5, h6⟩ h
theorem ix_ok {x : Int32} (h : ¬ (¬ x = 114 ∧ ¬ x = 112 ∧ ¬ x = 116 ∧ ¬ x = 98 ∧ ¬ x = 115 ∧ ¬ x = 100)) : 0 ≤ ixOf x := by
  unfold ixOf
  by_cases h1 : x = 114
  · rw [if_pos h1]; decide
  · rw [if_neg h1]
    by_cases h2 : x = 112
    · rw [if_pos h2]; decide
    · rw [if_neg h2]
      by_cases h3 : x = 116
      · rw [if_pos h3]; decide
      · rw [if_neg h3]
        by_cases h4 : x = 98
        · rw [if_pos h4]; decide
        · rw [if_neg h4]
          by_cases h5 : x = 115
          · rw [if_pos h5]; decide
          · rw [if_neg h5]
            by_cases h6 : x = 100
            · rw [if_pos h6]; decide
            · exact absurd ⟨h1, h2, h3, h4, h5, h6⟩ h
theorem ix_bad {x : Int32} (h1 : ¬ x = 114) (h2 : ¬ x = 112) (h3 : ¬ x = 116) (h4 : ¬ x = 98) (h5 : ¬ x = 115) (h6 : ¬ x = 100) : ¬ 0 ≤ ixOf x := by
  unfold ixOf
  rw [if_neg h1, if_neg h2, if_neg h3, if_neg h4, if_neg h5, if_neg h6]
  decide
theorem FX_let {T : Nat} {ch tx : Nat → Int32} (hT : T ≤ 80) (hc : ∀ i, i < T → ch i = tx i ∧ 33 ≤ (tx i).toInt ∧ (tx i).toInt ≤ 126) {i : Nat} (hi : i < T) (h : 0 ≤ ixOf (tx i)) (n : Nat) (z2 z3 : Int32) : FX T ch (n + 1) 0 z2 z3 (nI i) = FX T ch n (tx i) 0 0 (nI (i + 1)) := by
  unfold FX
  rw [fX2_firstError_L9, if_neg (nI_ge (by omega) (by omega)), (at_i hT hc hi).1, bd1_s, if_pos rfl, lts, if_pos h, nI_1]
theorem j154_0 {tx : Nat → Int32} {tl at_ ltr on_ tw th nu : Int32} : fX8_readsOrder_J154 tx tl at_ ltr on_ tw th nu 0 = some (0, at_, ltr, on_, tw, nu, nu) := by
  unfold fX8_readsOrder_J154 fX8_readsOrder_J178
  rw [if_pos rfl]
theorem j154_n {tx : Nat → Int32} {tl at_ ltr on_ tw th nu e : Int32} (h : fX8_isNext tx tl at_ 58 = some (0, e)) : fX8_readsOrder_J154 tx tl at_ ltr on_ tw th nu 1 = some (0, e, ltr, on_, tw, nu, nu) := by
  unfold fX8_readsOrder_J154 fX8_readsOrder_J178
  rw [if_neg n10, h, bd2_s, if_pos rfl]
theorem j154_r0 {tx : Nat → Int32} {tl at_ ltr on_ tw th nu a e v : Int32} (h : fX8_isNext tx tl at_ 58 = some (1, a)) (h2 : fX8_readsNumber tx tl a nu = some (0, e, v)) : fX8_readsOrder_J154 tx tl at_ ltr on_ tw th nu 1 = some (0, e, ltr, on_, tw, v, v) := by
  unfold fX8_readsOrder_J154 fX8_readsOrder_J178
  rw [if_neg n10, h, bd2_s, if_neg n10, h2, bd3_s, if_pos rfl]
theorem j154_r1 {tx : Nat → Int32} {tl at_ ltr on_ tw th nu a e v : Int32} (h : fX8_isNext tx tl at_ 58 = some (1, a)) (h2 : fX8_readsNumber tx tl a nu = some (1, e, v)) : fX8_readsOrder_J154 tx tl at_ ltr on_ tw th nu 1 = some (1, e, ltr, on_, tw, v, v) := by
  unfold fX8_readsOrder_J154
  rw [if_neg n10, h, bd2_s, if_neg n10, h2, bd3_s, if_neg n10]
theorem ord_A {T : Nat} {ch tx : Nat → Int32} (hT : T ≤ 80) (hc : ∀ i, i < T → ch i = tx i ∧ 33 ≤ (tx i).toInt ∧ (tx i).toInt ≤ 126) {i : Nat} (hi : i < T) (h : tx i = 115 ∨ tx i = 100) : ORo T ch tx i := by
  have nb : ¬ (¬ tx i = 114 ∧ ¬ tx i = 112 ∧ ¬ tx i = 116 ∧ ¬ tx i = 98 ∧ ¬ tx i = 115 ∧ ¬ tx i = 100) := fun q => by
    rcases h with z | z
    · exact q.2.2.2.2.1 z
    · exact q.2.2.2.2.2 z
  have hx := at_i hT hc hi
  have hR := rO_ok hx.2 nb
  have hL := FX_let hT hc hi (ix_ok nb)
  have s0 : fX2_signAfter (tx i) 0 = some 59 := by rcases h with z | z <;> (rw [z]; rfl)
  have s1 : fX2_signAfter (tx i) 1 = some 59 := by rcases h with z | z <;> (rw [z]; rfl)
  have c0 : ¬ tx i = 0 := fun q => by rw [q] at h; revert h; decide
  have hJ : ∀ (e : Nat) (r v : Int32), (r = 0 ∨ r = 1) → (∀ nu, fX8_readsNumber tx (nI T) (nI (i + 1)) nu = some (r, nI e, v)) → ∀ on_ tw th nu, fX8_readsOrder_J68 tx (nI T) (nI i) (tx i) on_ tw th nu = some (r, nI e, tx i, v, tw, th, v) := fun e r v hr hn on_ tw th nu => by
    unfold fX8_readsOrder_J68
    rw [lts, nI_1, hn, bd3_s]
    have g : fX8_readsOrder_J109 tx (nI T) (nI e) (tx i) v tw th v r = some (r, nI e, tx i, v, tw, th, v) := by
      unfold fX8_readsOrder_J109 ckP
      rcases hr with q | q <;> (rw [q]; exact if_pos (by decide))
    by_cases q : tx i = 115
    · rw [if_pos q, g]
    · rcases h with q2 | q2
      · exact absurd q2 q
      · rw [if_neg q, if_pos q2, g]
  refine ord_last hT hc (j := i + 1) (c := tx i) (p := 0) (by omega) (by omega) c0 s0 (fun n z2 z3 hn => ?_) (fun e v hn ltr on_ tw th nu => ?_) (fun e v hn h3 => ?_)
  · obtain ⟨m, em⟩ : ∃ m, n = m + 1 := ⟨n - 1, by omega⟩
    subst em
    exact ⟨m, by omega, hL m z2 z3⟩
  · exact ⟨_, _, _, _, _, (hR _ _ _ _ _).trans (hJ e 0 v (Or.inl rfl) hn _ _ _ _)⟩
  · refine ⟨tx i, v, 0, 0, fun ltr fi se th => ?_, fun ltr on_ tw th nu => ⟨_, _, _, _, (hR _ _ _ _ _).trans (hJ e 1 v (Or.inr rfl) hn _ _ _ _), Or.inl ⟨h, rfl⟩⟩⟩
    unfold fX2_readOrder ckP
    rw [if_pos (nI_lt hi (by omega)), hx.1, bd1_s, if_pos (nch_i hT hc hi), rn_i h3, bd2_s, s0, bd1_s, if_pos rfl, s1, bd1_s, if_pos rfl, lts, nI_1]
theorem ord_B {T : Nat} {ch tx : Nat → Int32} (hT : T ≤ 80) (hc : ∀ i, i < T → ch i = tx i ∧ 33 ≤ (tx i).toInt ∧ (tx i).toInt ≤ 126) {i : Nat} (hi : i < T) (h : tx i = 114 ∨ tx i = 112 ∨ tx i = 98) : ORo T ch tx i := by
  have nb : ¬ (¬ tx i = 114 ∧ ¬ tx i = 112 ∧ ¬ tx i = 116 ∧ ¬ tx i = 98 ∧ ¬ tx i = 115 ∧ ¬ tx i = 100) := fun q => by
    rcases h with z | z | z
    · exact q.1 z
    · exact q.2.1 z
    · exact q.2.2.2.1 z
  have hx := at_i hT hc hi
  have hR := rO_ok hx.2 nb
  have hL := FX_let hT hc hi (ix_ok nb)
  have s0 : fX2_signAfter (tx i) 0 = some 58 := by rcases h with z | z | z <;> (rw [z]; rfl)
  have s1 : fX2_signAfter (tx i) 1 = some 59 := by rcases h with z | z | z <;> (rw [z]; rfl)
  have c0 : ¬ tx i = 0 := fun q => by rw [q] at h; revert h; decide
  have h115 : ¬ tx i = 115 := fun q => by rw [q] at h; revert h; decide
  have h100 : ¬ tx i = 100 := fun q => by rw [q] at h; revert h; decide
  have h116 : ¬ tx i = 116 := fun q => by rw [q] at h; revert h; decide
  have hJ : ∀ (e : Nat) (r v : Int32), (∀ nu, fX8_readsNumber tx (nI T) (nI (i + 1)) nu = some (r, nI e, v)) → ∀ on_ tw th nu, fX8_readsOrder_J68 tx (nI T) (nI i) (tx i) on_ tw th nu = fX8_readsOrder_J154 tx (nI T) (nI e) (tx i) v tw th v r := fun e r v hn on_ tw th nu => by
    unfold fX8_readsOrder_J68
    rw [lts, nI_1, hn, bd3_s, if_neg h115, if_neg h100, if_neg h116]
  refine ord_mid hT hc (j := i + 1) (c := tx i) (p := 0) (by omega) (by omega) c0 s0 (by decide) (by decide) (by decide) (fun n z2 z3 hn => ?_) (fun e v hn ltr on_ tw th nu => ?_) (fun e v hn he ltr on_ tw th nu => ?_) (fun e v l1 l2 hn h3 he hF => ?_)
  · obtain ⟨m, em⟩ : ∃ m, n = m + 1 := ⟨n - 1, by omega⟩
    subst em
    exact ⟨m, by omega, hL m z2 z3⟩
  · exact ⟨_, _, _, _, _, (hR _ _ _ _ _).trans ((hJ e 0 v hn _ _ _ _).trans j154_0)⟩
  · exact ⟨_, _, _, _, _, (hR _ _ _ _ _).trans ((hJ e 1 v hn _ _ _ _).trans (j154_n he))⟩
  · refine ord_last hT hc (j := e + 1) (c := tx i) (p := 0 + 1) (by omega) (by omega) c0 s1 hF (fun e2 v2 hn2 ltr on_ tw th nu => ?_) (fun e2 v2 hn2 h32 => ?_)
    · exact ⟨_, _, _, _, _, (hR _ _ _ _ _).trans ((hJ e 1 v hn _ _ _ _).trans (j154_r0 he (hn2 _)))⟩
    · refine ⟨tx i, v, v2, 0, fun ltr fi se th => ?_, fun ltr on_ tw th nu => ⟨_, _, _, _, (hR _ _ _ _ _).trans ((hJ e 1 v hn _ _ _ _).trans (j154_r1 he (hn2 _))), Or.inr (Or.inl ⟨h, rfl, rfl⟩)⟩⟩
      unfold fX2_readOrder ckP
      rw [if_pos (nI_lt hi (by omega)), hx.1, bd1_s, if_pos (nch_i hT hc hi), rn_i h3, bd2_s, s0, bd1_s, if_neg (show ¬ (58 : Int32) = 59 by decide), rn_i h32, bd2_s, s1, bd1_s, if_pos rfl, lts, nI_1]
theorem ord_C {T : Nat} {ch tx : Nat → Int32} (hT : T ≤ 80) (hc : ∀ i, i < T → ch i = tx i ∧ 33 ≤ (tx i).toInt ∧ (tx i).toInt ≤ 126) {i : Nat} (hi : i < T) (h : tx i = 116) : ORo T ch tx i := by
  have nb : ¬ (¬ tx i = 114 ∧ ¬ tx i = 112 ∧ ¬ tx i = 116 ∧ ¬ tx i = 98 ∧ ¬ tx i = 115 ∧ ¬ tx i = 100) := fun q => q.2.2.1 h
  have hx := at_i hT hc hi
  have hR := rO_ok hx.2 nb
  have hL := FX_let hT hc hi (ix_ok nb)
  have s0 : fX2_signAfter (tx i) 0 = some 62 := by rw [h]; rfl
  have s1 : fX2_signAfter (tx i) 1 = some 58 := by rw [h]; rfl
  have s2 : fX2_signAfter (tx i) (0 + 1 + 1) = some 59 := by rw [h]; rfl
  have c0 : ¬ tx i = 0 := fun q => by rw [q] at h; revert h; decide
  have h115 : ¬ tx i = 115 := fun q => by rw [q] at h; revert h; decide
  have h100 : ¬ tx i = 100 := fun q => by rw [q] at h; revert h; decide
  have hJ0 : ∀ (e : Nat) (v : Int32), (∀ nu, fX8_readsNumber tx (nI T) (nI (i + 1)) nu = some (0, nI e, v)) → ∀ on_ tw th nu, fX8_readsOrder_J68 tx (nI T) (nI i) (tx i) on_ tw th nu = some (0, nI e, tx i, v, v, v, v) := fun e v hn on_ tw th nu => by
    unfold fX8_readsOrder_J68
    rw [lts, nI_1, hn, bd3_s, if_neg h115, if_neg h100, if_pos h, if_pos rfl]
    unfold fX8_readsOrder_J144 fX8_readsOrder_J145
    exact j154_0
  have hJn : ∀ (e : Nat) (v : Int32), (∀ nu, fX8_readsNumber tx (nI T) (nI (i + 1)) nu = some (1, nI e, v)) → fX8_isNext tx (nI T) (nI e) 62 = some (0, nI e) → ∀ on_ tw th nu, fX8_readsOrder_J68 tx (nI T) (nI i) (tx i) on_ tw th nu = some (0, nI e, tx i, v, v, v, v) := fun e v hn he on_ tw th nu => by
    unfold fX8_readsOrder_J68
    rw [lts, nI_1, hn, bd3_s, if_neg h115, if_neg h100, if_pos h, if_neg n10, he, bd2_s, if_pos rfl]
    unfold fX8_readsOrder_J144 fX8_readsOrder_J145
    exact j154_0
  have hJ2 : ∀ (e : Nat) (v : Int32), (∀ nu, fX8_readsNumber tx (nI T) (nI (i + 1)) nu = some (1, nI e, v)) → fX8_isNext tx (nI T) (nI e) 62 = some (1, nI (e + 1)) → ∀ (e2 : Nat) (r v2 : Int32), (r = 0 ∨ r = 1) → (∀ nu, fX8_readsNumber tx (nI T) (nI (e + 1)) nu = some (r, nI e2, v2)) → ∀ on_ tw th nu, fX8_readsOrder_J68 tx (nI T) (nI i) (tx i) on_ tw th nu = fX8_readsOrder_J154 tx (nI T) (nI e2) (tx i) v v2 th v2 r := fun e v hn he e2 r v2 hr hn2 on_ tw th nu => by
    unfold fX8_readsOrder_J68
    rw [lts, nI_1, hn, bd3_s, if_neg h115, if_neg h100, if_pos h, if_neg n10, he, bd2_s, if_neg n10, hn2, bd3_s]
    unfold fX8_readsOrder_J144 fX8_readsOrder_J145
    rcases hr with q | q
    · rw [q, if_pos rfl]
    · rw [q, if_neg n10]
  refine ord_mid hT hc (j := i + 1) (c := tx i) (p := 0) (by omega) (by omega) c0 s0 (by decide) (by decide) (by decide) (fun n z2 z3 hn => ?_) (fun e v hn ltr on_ tw th nu => ?_) (fun e v hn he ltr on_ tw th nu => ?_) (fun e v l1 l2 hn h3 he hF => ?_)
  · obtain ⟨m, em⟩ : ∃ m, n = m + 1 := ⟨n - 1, by omega⟩
    subst em
    exact ⟨m, by omega, hL m z2 z3⟩
  · exact ⟨_, _, _, _, _, (hR _ _ _ _ _).trans (hJ0 e v hn _ _ _ _)⟩
  · exact ⟨_, _, _, _, _, (hR _ _ _ _ _).trans (hJn e v hn he _ _ _ _)⟩
  · refine ord_mid hT hc (j := e + 1) (c := tx i) (p := 0 + 1) (by omega) (by omega) c0 s1 (by decide) (by decide) (by decide) hF (fun e2 v2 hn2 ltr on_ tw th nu => ?_) (fun e2 v2 hn2 he2 ltr on_ tw th nu => ?_) (fun e2 v2 l3 l4 hn2 h32 he2 hF2 => ?_)
    · exact ⟨_, _, _, _, _, (hR _ _ _ _ _).trans ((hJ2 e v hn he e2 0 v2 (Or.inl rfl) hn2 _ _ _ _).trans j154_0)⟩
    · exact ⟨_, _, _, _, _, (hR _ _ _ _ _).trans ((hJ2 e v hn he e2 1 v2 (Or.inr rfl) hn2 _ _ _ _).trans (j154_n he2))⟩
    · refine ord_last hT hc (j := e2 + 1) (c := tx i) (p := 0 + 1 + 1) (by omega) (by omega) c0 s2 hF2 (fun e3 v3 hn3 ltr on_ tw th nu => ?_) (fun e3 v3 hn3 h33 => ?_)
      · exact ⟨_, _, _, _, _, (hR _ _ _ _ _).trans ((hJ2 e v hn he e2 1 v2 (Or.inr rfl) hn2 _ _ _ _).trans (j154_r0 he2 (hn3 _)))⟩
      · refine ⟨tx i, v, v2, v3, fun ltr fi se th => ?_, fun ltr on_ tw th nu => ⟨_, _, _, _, (hR _ _ _ _ _).trans ((hJ2 e v hn he e2 1 v2 (Or.inr rfl) hn2 _ _ _ _).trans (j154_r1 he2 (hn3 _))), Or.inr (Or.inr ⟨h, rfl, rfl, rfl⟩)⟩⟩
        unfold fX2_readOrder ckP
        rw [if_pos (nI_lt hi (by omega)), hx.1, bd1_s, if_pos (nch_i hT hc hi), rn_i h3, bd2_s, s0, bd1_s, if_neg (show ¬ (62 : Int32) = 59 by decide), rn_i h32, bd2_s, s1, bd1_s, if_neg (show ¬ (58 : Int32) = 59 by decide), rn_i h33, bd2_s, lts, nI_1]
theorem ord_i {T : Nat} {ch tx : Nat → Int32} (hT : T ≤ 80) (hc : ∀ i, i < T → ch i = tx i ∧ 33 ≤ (tx i).toInt ∧ (tx i).toInt ≤ 126) {i : Nat} (hi : i ≤ T) : ORo T ch tx i := by
  by_cases e : i = T
  · refine Or.inl ⟨i, hi, fun n z2 z3 hn => ?_, fun ltr on_ tw th nu => ⟨-1, on_, tw, th, nu, ?_⟩⟩
    · obtain ⟨m, em⟩ : ∃ m, n = m + 1 := ⟨n - 1, by omega⟩
      subst em
      unfold FX
      rw [e, fX2_firstError_L9, if_pos (nI_le (Nat.le_refl _) (by omega)), bs3_r]
      unfold finX
      rw [if_pos rfl]
    · exact rO_bad (by rw [e]; exact chr_end hT tx) (by decide) (by decide) (by decide) (by decide) (by decide) (by decide) _ _ _ _ _
  · have lt : i < T := by omega
    by_cases a1 : tx i = 115 ∨ tx i = 100
    · exact ord_A hT hc lt a1
    by_cases a2 : tx i = 114 ∨ tx i = 112 ∨ tx i = 98
    · exact ord_B hT hc lt a2
    by_cases a3 : tx i = 116
    · exact ord_C hT hc lt a3
    have h1 : ¬ tx i = 114 := fun q => a2 (Or.inl q)
    have h2 : ¬ tx i = 112 := fun q => a2 (Or.inr (Or.inl q))
    have h4 : ¬ tx i = 98 := fun q => a2 (Or.inr (Or.inr q))
    have h5 : ¬ tx i = 115 := fun q => a1 (Or.inl q)
    have h6 : ¬ tx i = 100 := fun q => a1 (Or.inr q)
    have hx := at_i hT hc lt
    refine Or.inl ⟨i, hi, fun n z2 z3 hn => ?_, fun ltr on_ tw th nu => ⟨_, _, _, _, _, rO_bad hx.2 h1 h2 a3 h4 h5 h6 _ _ _ _ _⟩⟩
    obtain ⟨m, em⟩ : ∃ m, n = m + 1 := ⟨n - 1, by omega⟩
    subst em
    unfold FX
    rw [fX2_firstError_L9, if_neg (nI_ge (by omega) (by omega)), hx.1, bd1_s, if_pos rfl, lts, if_neg (ix_bad h1 h2 a3 h4 h5 h6)]
    exact bs3_l
