theorem wc_0 : ∀ w ∈ wsL_law_r1, w ∈ wsL_law := fun w h => (List.mem_append_left _ (List.mem_append_left _ (List.mem_append_left _ (List.mem_append_left _ (List.mem_append_left _ (List.mem_append_left _ (List.mem_append_left _ (List.mem_append_left _ (List.mem_append_left _ (List.mem_append_left _ h))))))))))
theorem wc_1 : ∀ w ∈ wsL_law_r2, w ∈ wsL_law := fun w h => (List.mem_append_left _ (List.mem_append_left _ (List.mem_append_left _ (List.mem_append_left _ (List.mem_append_left _ (List.mem_append_left _ (List.mem_append_left _ (List.mem_append_left _ (List.mem_append_left _ (List.mem_append_right _ (List.mem_append_left _ h)))))))))))
theorem wc_2 : ∀ w ∈ wsL_law_r3, w ∈ wsL_law := fun w h => (List.mem_append_left _ (List.mem_append_left _ (List.mem_append_left _ (List.mem_append_left _ (List.mem_append_left _ (List.mem_append_left _ (List.mem_append_left _ (List.mem_append_left _ (List.mem_append_left _ (List.mem_append_right _ (List.mem_append_right _ (List.mem_append_left _ h))))))))))))
theorem wc_3 : ∀ w ∈ wsL_law_r4, w ∈ wsL_law := fun w h => (List.mem_append_left _ (List.mem_append_left _ (List.mem_append_left _ (List.mem_append_left _ (List.mem_append_left _ (List.mem_append_left _ (List.mem_append_left _ (List.mem_append_left _ (List.mem_append_left _ (List.mem_append_right _ (List.mem_append_right _ (List.mem_append_right _ (List.mem_append_left _ h)))))))))))))
theorem wc_4 : ∀ w ∈ wsL_law_r5, w ∈ wsL_law := fun w h => (List.mem_append_left _ (List.mem_append_left _ (List.mem_append_left _ (List.mem_append_left _ (List.mem_append_left _ (List.mem_append_left _ (List.mem_append_left _ (List.mem_append_left _ (List.mem_append_left _ (List.mem_append_right _ (List.mem_append_right _ (List.mem_append_right _ (List.mem_append_right _ (List.mem_append_left _ h))))))))))))))
theorem wc_5 : ∀ w ∈ wsL_law_r6, w ∈ wsL_law := fun w h => (List.mem_append_left _ (List.mem_append_left _ (List.mem_append_left _ (List.mem_append_left _ (List.mem_append_left _ (List.mem_append_left _ (List.mem_append_left _ (List.mem_append_left _ (List.mem_append_left _ (List.mem_append_right _ (List.mem_append_right _ (List.mem_append_right _ (List.mem_append_right _ (List.mem_append_right _ (List.mem_append_left _ h)))))))))))))))
theorem wc_6 : ∀ w ∈ wsL_law_r7, w ∈ wsL_law := fun w h => (List.mem_append_left _ (List.mem_append_left _ (List.mem_append_left _ (List.mem_append_left _ (List.mem_append_left _ (List.mem_append_left _ (List.mem_append_left _ (List.mem_append_left _ (List.mem_append_left _ (List.mem_append_right _ (List.mem_append_right _ (List.mem_append_right _ (List.mem_append_right _ (List.mem_append_right _ (List.mem_append_right _ (List.mem_append_left _ h))))))))))))))))
theorem wc_7 : ∀ w ∈ wsL_law_r8, w ∈ wsL_law := fun w h => (List.mem_append_left _ (List.mem_append_left _ (List.mem_append_left _ (List.mem_append_left _ (List.mem_append_left _ (List.mem_append_left _ (List.mem_append_left _ (List.mem_append_left _ (List.mem_append_left _ (List.mem_append_right _ (List.mem_append_right _ (List.mem_append_right _ (List.mem_append_right _ (List.mem_append_right _ (List.mem_append_right _ (List.mem_append_right _ (List.mem_append_left _ h)))))))))))))))))
theorem wc_8 : ∀ w ∈ wsL_law_r9, w ∈ wsL_law := fun w h => (List.mem_append_left _ (List.mem_append_left _ (List.mem_append_left _ (List.mem_append_left _ (List.mem_append_left _ (List.mem_append_left _ (List.mem_append_left _ (List.mem_append_left _ (List.mem_append_left _ (List.mem_append_right _ (List.mem_append_right _ (List.mem_append_right _ (List.mem_append_right _ (List.mem_append_right _ (List.mem_append_right _ (List.mem_append_right _ (List.mem_append_right _ (List.mem_append_left _ h))))))))))))))))))
theorem wc_9 : ∀ w ∈ wsL_law_r10, w ∈ wsL_law := fun w h => (List.mem_append_left _ (List.mem_append_left _ (List.mem_append_left _ (List.mem_append_left _ (List.mem_append_left _ (List.mem_append_left _ (List.mem_append_left _ (List.mem_append_left _ (List.mem_append_left _ (List.mem_append_right _ (List.mem_append_right _ (List.mem_append_right _ (List.mem_append_right _ (List.mem_append_right _ (List.mem_append_right _ (List.mem_append_right _ (List.mem_append_right _ (List.mem_append_right _ (List.mem_append_left _ h)))))))))))))))))))
theorem wc_10 : ∀ w ∈ wsL_law_r11, w ∈ wsL_law := fun w h => (List.mem_append_left _ (List.mem_append_left _ (List.mem_append_left _ (List.mem_append_left _ (List.mem_append_left _ (List.mem_append_left _ (List.mem_append_left _ (List.mem_append_left _ (List.mem_append_left _ (List.mem_append_right _ (List.mem_append_right _ (List.mem_append_right _ (List.mem_append_right _ (List.mem_append_right _ (List.mem_append_right _ (List.mem_append_right _ (List.mem_append_right _ (List.mem_append_right _ (List.mem_append_right _ (List.mem_append_left _ h))))))))))))))))))))
theorem wc_11 : ∀ w ∈ wsL_law_r12, w ∈ wsL_law := fun w h => (List.mem_append_left _ (List.mem_append_left _ (List.mem_append_left _ (List.mem_append_left _ (List.mem_append_left _ (List.mem_append_left _ (List.mem_append_left _ (List.mem_append_left _ (List.mem_append_left _ (List.mem_append_right _ (List.mem_append_right _ (List.mem_append_right _ (List.mem_append_right _ (List.mem_append_right _ (List.mem_append_right _ (List.mem_append_right _ (List.mem_append_right _ (List.mem_append_right _ (List.mem_append_right _ (List.mem_append_right _ (List.mem_append_left _ h)))))))))))))))))))))
theorem wc_12 : ∀ w ∈ wsL_law_r13, w ∈ wsL_law := fun w h => (List.mem_append_left _ (List.mem_append_left _ (List.mem_append_left _ (List.mem_append_left _ (List.mem_append_left _ (List.mem_append_left _ (List.mem_append_left _ (List.mem_append_left _ (List.mem_append_left _ (List.mem_append_right _ (List.mem_append_right _ (List.mem_append_right _ (List.mem_append_right _ (List.mem_append_right _ (List.mem_append_right _ (List.mem_append_right _ (List.mem_append_right _ (List.mem_append_right _ (List.mem_append_right _ (List.mem_append_right _ (List.mem_append_right _ (List.mem_append_left _ h))))))))))))))))))))))
theorem wc_13 : ∀ w ∈ wsL_law_r14, w ∈ wsL_law := fun w h => (List.mem_append_left _ (List.mem_append_left _ (List.mem_append_left _ (List.mem_append_left _ (List.mem_append_left _ (List.mem_append_left _ (List.mem_append_left _ (List.mem_append_left _ (List.mem_append_left _ (List.mem_append_right _ (List.mem_append_right _ (List.mem_append_right _ (List.mem_append_right _ (List.mem_append_right _ (List.mem_append_right _ (List.mem_append_right _ (List.mem_append_right _ (List.mem_append_right _ (List.mem_append_right _ (List.mem_append_right _ (List.mem_append_right _ (List.mem_append_right _ (List.mem_append_left _ h)))))))))))))))))))))))
theorem wc_14 : ∀ w ∈ wsL_law_r15, w ∈ wsL_law := fun w h => (List.mem_append_left _ (List.mem_append_left _ (List.mem_append_left _ (List.mem_append_left _ (List.mem_append_left _ (List.mem_append_left _ (List.mem_append_left _ (List.mem_append_left _ (List.mem_append_left _ (List.mem_append_right _ (List.mem_append_right _ (List.mem_append_right _ (List.mem_append_right _ (List.mem_append_right _ (List.mem_append_right _ (List.mem_append_right _ (List.mem_append_right _ (List.mem_append_right _ (List.mem_append_right _ (List.mem_append_right _ (List.mem_append_right _ (List.mem_append_right _ (List.mem_append_right _ (List.mem_append_left _ h))))))))))))))))))))))))
theorem wc_15 : ∀ w ∈ wsL_law_r16, w ∈ wsL_law := fun w h => (List.mem_append_left _ (List.mem_append_left _ (List.mem_append_left _ (List.mem_append_left _ (List.mem_append_left _ (List.mem_append_left _ (List.mem_append_left _ (List.mem_append_left _ (List.mem_append_left _ (List.mem_append_right _ (List.mem_append_right _ (List.mem_append_right _ (List.mem_append_right _ (List.mem_append_right _ (List.mem_append_right _ (List.mem_append_right _ (List.mem_append_right _ (List.mem_append_right _ (List.mem_append_right _ (List.mem_append_right _ (List.mem_append_right _ (List.mem_append_right _ (List.mem_append_right _ (List.mem_append_right _ (List.mem_append_left _ h)))))))))))))))))))))))))
theorem wc_16 : ∀ w ∈ wsL_law_r17, w ∈ wsL_law := fun w h => (List.mem_append_left _ (List.mem_append_left _ (List.mem_append_left _ (List.mem_append_left _ (List.mem_append_left _ (List.mem_append_left _ (List.mem_append_left _ (List.mem_append_left _ (List.mem_append_left _ (List.mem_append_right _ (List.mem_append_right _ (List.mem_append_right _ (List.mem_append_right _ (List.mem_append_right _ (List.mem_append_right _ (List.mem_append_right _ (List.mem_append_right _ (List.mem_append_right _ (List.mem_append_right _ (List.mem_append_right _ (List.mem_append_right _ (List.mem_append_right _ (List.mem_append_right _ (List.mem_append_right _ (List.mem_append_right _ (List.mem_append_left _ h))))))))))))))))))))))))))
theorem wc_17 : ∀ w ∈ wsL_law_r18, w ∈ wsL_law := fun w h => (List.mem_append_left _ (List.mem_append_left _ (List.mem_append_left _ (List.mem_append_left _ (List.mem_append_left _ (List.mem_append_left _ (List.mem_append_left _ (List.mem_append_left _ (List.mem_append_left _ (List.mem_append_right _ (List.mem_append_right _ (List.mem_append_right _ (List.mem_append_right _ (List.mem_append_right _ (List.mem_append_right _ (List.mem_append_right _ (List.mem_append_right _ (List.mem_append_right _ (List.mem_append_right _ (List.mem_append_right _ (List.mem_append_right _ (List.mem_append_right _ (List.mem_append_right _ (List.mem_append_right _ (List.mem_append_right _ (List.mem_append_right _ (List.mem_append_left _ h)))))))))))))))))))))))))))
theorem wc_18 : ∀ w ∈ wsL_law_r19, w ∈ wsL_law := fun w h => (List.mem_append_left _ (List.mem_append_left _ (List.mem_append_left _ (List.mem_append_left _ (List.mem_append_left _ (List.mem_append_left _ (List.mem_append_left _ (List.mem_append_left _ (List.mem_append_left _ (List.mem_append_right _ (List.mem_append_right _ (List.mem_append_right _ (List.mem_append_right _ (List.mem_append_right _ (List.mem_append_right _ (List.mem_append_right _ (List.mem_append_right _ (List.mem_append_right _ (List.mem_append_right _ (List.mem_append_right _ (List.mem_append_right _ (List.mem_append_right _ (List.mem_append_right _ (List.mem_append_right _ (List.mem_append_right _ (List.mem_append_right _ (List.mem_append_right _ (List.mem_append_left _ h))))))))))))))))))))))))))))
theorem wc_19 : ∀ w ∈ wsL_law_r20, w ∈ wsL_law := fun w h => (List.mem_append_left _ (List.mem_append_left _ (List.mem_append_left _ (List.mem_append_left _ (List.mem_append_left _ (List.mem_append_left _ (List.mem_append_left _ (List.mem_append_left _ (List.mem_append_left _ (List.mem_append_right _ (List.mem_append_right _ (List.mem_append_right _ (List.mem_append_right _ (List.mem_append_right _ (List.mem_append_right _ (List.mem_append_right _ (List.mem_append_right _ (List.mem_append_right _ (List.mem_append_right _ (List.mem_append_right _ (List.mem_append_right _ (List.mem_append_right _ (List.mem_append_right _ (List.mem_append_right _ (List.mem_append_right _ (List.mem_append_right _ (List.mem_append_right _ (List.mem_append_right _ (List.mem_append_left _ h)))))))))))))))))))))))))))))
theorem wc_20 : ∀ w ∈ wsL_law_r21, w ∈ wsL_law := fun w h => (List.mem_append_left _ (List.mem_append_left _ (List.mem_append_left _ (List.mem_append_left _ (List.mem_append_left _ (List.mem_append_left _ (List.mem_append_left _ (List.mem_append_left _ (List.mem_append_left _ (List.mem_append_right _ (List.mem_append_right _ (List.mem_append_right _ (List.mem_append_right _ (List.mem_append_right _ (List.mem_append_right _ (List.mem_append_right _ (List.mem_append_right _ (List.mem_append_right _ (List.mem_append_right _ (List.mem_append_right _ (List.mem_append_right _ (List.mem_append_right _ (List.mem_append_right _ (List.mem_append_right _ (List.mem_append_right _ (List.mem_append_right _ (List.mem_append_right _ (List.mem_append_right _ (List.mem_append_right _ (List.mem_append_left _ h))))))))))))))))))))))))))))))
theorem wc_21 : ∀ w ∈ wsL_law_r22, w ∈ wsL_law := fun w h => (List.mem_append_left _ (List.mem_append_left _ (List.mem_append_left _ (List.mem_append_left _ (List.mem_append_left _ (List.mem_append_left _ (List.mem_append_left _ (List.mem_append_left _ (List.mem_append_left _ (List.mem_append_right _ (List.mem_append_right _ (List.mem_append_right _ (List.mem_append_right _ (List.mem_append_right _ (List.mem_append_right _ (List.mem_append_right _ (List.mem_append_right _ (List.mem_append_right _ (List.mem_append_right _ (List.mem_append_right _ (List.mem_append_right _ (List.mem_append_right _ (List.mem_append_right _ (List.mem_append_right _ (List.mem_append_right _ (List.mem_append_right _ (List.mem_append_right _ (List.mem_append_right _ (List.mem_append_right _ (List.mem_append_right _ (List.mem_append_left _ h)))))))))))))))))))))))))))))))
theorem wc_22 : ∀ w ∈ wsL_law_r23, w ∈ wsL_law := fun w h => (List.mem_append_left _ (List.mem_append_left _ (List.mem_append_left _ (List.mem_append_left _ (List.mem_append_left _ (List.mem_append_left _ (List.mem_append_left _ (List.mem_append_left _ (List.mem_append_left _ (List.mem_append_right _ (List.mem_append_right _ (List.mem_append_right _ (List.mem_append_right _ (List.mem_append_right _ (List.mem_append_right _ (List.mem_append_right _ (List.mem_append_right _ (List.mem_append_right _ (List.mem_append_right _ (List.mem_append_right _ (List.mem_append_right _ (List.mem_append_right _ (List.mem_append_right _ (List.mem_append_right _ (List.mem_append_right _ (List.mem_append_right _ (List.mem_append_right _ (List.mem_append_right _ (List.mem_append_right _ (List.mem_append_right _ (List.mem_append_right _ (List.mem_append_left _ h))))))))))))))))))))))))))))))))
theorem wc_23 : ∀ w ∈ wsL_law_r24, w ∈ wsL_law := fun w h => (List.mem_append_left _ (List.mem_append_left _ (List.mem_append_left _ (List.mem_append_left _ (List.mem_append_left _ (List.mem_append_left _ (List.mem_append_left _ (List.mem_append_left _ (List.mem_append_left _ (List.mem_append_right _ (List.mem_append_right _ (List.mem_append_right _ (List.mem_append_right _ (List.mem_append_right _ (List.mem_append_right _ (List.mem_append_right _ (List.mem_append_right _ (List.mem_append_right _ (List.mem_append_right _ (List.mem_append_right _ (List.mem_append_right _ (List.mem_append_right _ (List.mem_append_right _ (List.mem_append_right _ (List.mem_append_right _ (List.mem_append_right _ (List.mem_append_right _ (List.mem_append_right _ (List.mem_append_right _ (List.mem_append_right _ (List.mem_append_right _ (List.mem_append_right _ h))))))))))))))))))))))))))))))))
theorem inlX7 : ∀ w ∈ u_ws RX7 TX7 4, w ∈ wsL_law := fun w h => (List.mem_append_left _ (List.mem_append_left _ (List.mem_append_left _ (List.mem_append_left _ (List.mem_append_left _ (List.mem_append_left _ (List.mem_append_left _ (List.mem_append_left _ (List.mem_append_right _ h)))))))))
theorem inlX5 : ∀ w ∈ u_ws RX5 TX5 13, w ∈ wsL_law := fun w h => (List.mem_append_left _ (List.mem_append_left _ (List.mem_append_left _ (List.mem_append_left _ (List.mem_append_left _ (List.mem_append_left _ (List.mem_append_left _ (List.mem_append_right _ h))))))))
theorem inlX1 : ∀ w ∈ u_ws RX1 TX1 3, w ∈ wsL_law := fun w h => (List.mem_append_left _ (List.mem_append_left _ (List.mem_append_left _ (List.mem_append_left _ (List.mem_append_left _ (List.mem_append_left _ (List.mem_append_right _ h)))))))
theorem inlX2 : ∀ w ∈ u_ws RX2 TX2 7, w ∈ wsL_law := fun w h => (List.mem_append_left _ (List.mem_append_left _ (List.mem_append_left _ (List.mem_append_left _ (List.mem_append_left _ (List.mem_append_right _ h))))))
theorem inlX3 : ∀ w ∈ u_ws RX3 TX3 3, w ∈ wsL_law := fun w h => (List.mem_append_left _ (List.mem_append_left _ (List.mem_append_left _ (List.mem_append_left _ (List.mem_append_right _ h)))))
theorem inlX0 : ∀ w ∈ u_ws RX0 TX0 5, w ∈ wsL_law := fun w h => (List.mem_append_left _ (List.mem_append_left _ (List.mem_append_left _ (List.mem_append_right _ h))))
theorem inlX4 : ∀ w ∈ u_ws RX4 TX4 3, w ∈ wsL_law := fun w h => (List.mem_append_left _ (List.mem_append_left _ (List.mem_append_right _ h)))
theorem inlX6 : ∀ w ∈ u_ws RX6 TX6 3, w ∈ wsL_law := fun w h => (List.mem_append_left _ (List.mem_append_right _ h))
theorem all_good : ∀ w ∈ wsL_law, (w.onTables && w.keeps) = true ∨ ∃ ty, w = .arrayClass ty := fun w h => good_of_word (List.all_eq_true.mp (by decide +kernel : wsL_law.all goodWord = true) w h)
theorem gA {big : List Cond} (hb : ∀ w ∈ wsL_law, w ∈ big) {l : List Cond} (hl : ∀ w ∈ l, w ∈ wsL_law) : GoodIn big l := fun w h => ⟨hb w (hl w h), all_good w (hl w h)⟩
theorem gA_c {c : Cond} (hc : c ∈ wsL_law) : ∀ w ∈ c :: wsL_law, w ∈ wsL_law := fun w h => (List.mem_cons.mp h).elim (fun e => e ▸ hc) id
theorem gAV {big : List Cond} (hb : ∀ w ∈ wsL_law, w ∈ big) {own C : String} {idx : Nat} {y : MethodName} {c : Cond} (h1 : Cond.methodLink own idx y ∈ wsL_law) (h2 : Cond.instanceMethod y ∈ wsL_law) (h3 : Cond.selects C y y ∈ wsL_law) (h4 : Cond.initialized C ∈ wsL_law) (h5 : c ∈ wsL_law) : GoodIn big (wsV own idx C y (c :: wsL_law)) := gA hb (List.forall_mem_cons.mpr ⟨h1, List.forall_mem_cons.mpr ⟨h2, List.forall_mem_cons.mpr ⟨h3, List.forall_mem_cons.mpr ⟨h4, gA_c h5⟩⟩⟩⟩)
theorem gAS {big : List Cond} (hb : ∀ w ∈ wsL_law, w ∈ big) {own : String} {idx : Nat} {y : MethodName} {c : Cond} (h1 : Cond.methodLink own idx y ∈ wsL_law) (h2 : Cond.static y ∈ wsL_law) (h4 : Cond.initialized y.cls ∈ wsL_law) (h5 : c ∈ wsL_law) : GoodIn big (va_wsS own idx y (c :: wsL_law)) := gA hb (List.forall_mem_cons.mpr ⟨h1, List.forall_mem_cons.mpr ⟨h2, List.forall_mem_cons.mpr ⟨h4, gA_c h5⟩⟩⟩)
def aL_cell : List Cond := .code yL_cell cL_cell 2 (some .int) :: wsL_law
def aL_clients : List Cond := .code yL_clients cL_clients 3 (some .int) :: wsL_law
def aL_enter : List Cond := .code yL_enter cL_enter 8 none :: wsL_law
def aL_free : List Cond := .code yL_free cL_free 4 (some .int) :: wsL_law
def aL_held : List Cond := .code yL_held cL_held 5 (some .int) :: wsL_law
def aL_interest : List Cond := .code yL_interest cL_interest 8 (some .long) :: wsL_law
def aL_low : List Cond := .code yL_low cL_low 2 (some .int) :: wsL_law
def aL_pass : List Cond := .code yL_pass cL_pass 11 (some .long) :: wsL_law
def aL_same : List Cond := .code yL_same cL_same 20 (some .boolean) :: wsL_law
def aX0_add : List Cond := .code yX0_add cX0_add 3 none :: wsL_law
def aX0_addCount : List Cond := .code yX0_addCount cX0_addCount 4 none :: wsL_law
def aX0_balanceAt : List Cond := .code yX0_balanceAt cX0_balanceAt 2 (some .int) :: wsL_law
def aX0_copyFrom : List Cond := .code yX0_copyFrom cX0_copyFrom 2 none :: wsL_law
def aX0_copyRow : List Cond := .code yX0_copyRow cX0_copyRow 3 none :: wsL_law
def aX0_countAt : List Cond := .code yX0_countAt cX0_countAt 2 (some .long) :: wsL_law
def aX0_find : List Cond := .code yX0_find cX0_find 3 (some .int) :: wsL_law
def aX0_init : List Cond := .code yX0_init cX0_init 1 none :: wsL_law
def aX0_insert : List Cond := .code yX0_insert cX0_insert 4 none :: wsL_law
def aX0_isPlace : List Cond := .code yX0_isPlace cX0_isPlace 2 (some .boolean) :: wsL_law
def aX0_move : List Cond := .code yX0_move cX0_move 3 none :: wsL_law
def aX0_movedAt : List Cond := .code yX0_movedAt cX0_movedAt 2 (some .int) :: wsL_law
def aX0_numberAt : List Cond := .code yX0_numberAt cX0_numberAt 2 (some .int) :: wsL_law
def aX0_remove : List Cond := .code yX0_remove cX0_remove 3 none :: wsL_law
def aX0_sumOfBalances : List Cond := .code yX0_sumOfBalances cX0_sumOfBalances 4 (some .long) :: wsL_law
def aX1_init : List Cond := .code yX1_init cX1_init 2 none :: wsL_law
def aX1_keep : List Cond := .code yX1_keep cX1_keep 1 none :: wsL_law
def aX1_prepare : List Cond := .code yX1_prepare cX1_prepare 3 none :: wsL_law
def aX1_slotAt : List Cond := .code yX1_slotAt cX1_slotAt 2 (some (.object "ClientMoneyBook$State")) :: wsL_law
def aX2_init : List Cond := .code yX2_init cX2_init 1 none :: wsL_law
def aX3_clientAt : List Cond := .code yX3_clientAt cX3_clientAt 2 (some .int) :: wsL_law
def aX3_init : List Cond := .code yX3_init cX3_init 1 none :: wsL_law
def aX3_keyOf : List Cond := .code yX3_keyOf cX3_keyOf 3 (some .int) :: wsL_law
def aX3_sort : List Cond := .code yX3_sort cX3_sort 6 none :: wsL_law
def aX4_append : List Cond := .code yX4_append cX4_append 5 (some .int) :: wsL_law
def aX4_copyFrom : List Cond := .code yX4_copyFrom cX4_copyFrom 2 none :: wsL_law
def aX4_countOf : List Cond := .code yX4_countOf cX4_countOf 4 (some .int) :: wsL_law
def aX4_find : List Cond := .code yX4_find cX4_find 3 (some .int) :: wsL_law
def aX4_get : List Cond := .code yX4_get cX4_get 3 (some .int) :: wsL_law
def aX4_init : List Cond := .code yX4_init cX4_init 1 none :: wsL_law
def aX4_remove : List Cond := .code yX4_remove cX4_remove 4 none :: wsL_law
def aX4_set : List Cond := .code yX4_set cX4_set 4 none :: wsL_law
def aX4_sumOf : List Cond := .code yX4_sumOf cX4_sumOf 5 (some .int) :: wsL_law
def aX4_sumOfAll : List Cond := .code yX4_sumOfAll cX4_sumOfAll 5 (some .long) :: wsL_law
def aX5_aboutClient : List Cond := .code yX5_aboutClient cX5_aboutClient 4 (some .int) :: wsL_law
def aX5_changeRates : List Cond := .code yX5_changeRates cX5_changeRates 5 (some .int) :: wsL_law
def aX5_changeThreshold : List Cond := .code yX5_changeThreshold cX5_changeThreshold 3 (some .int) :: wsL_law
def aX5_closeAccount : List Cond := .code yX5_closeAccount cX5_closeAccount 3 (some .int) :: wsL_law
def aX5_copyFrom : List Cond := .code yX5_copyFrom cX5_copyFrom 2 none :: wsL_law
def aX5_creditAll : List Cond := .code yX5_creditAll cX5_creditAll 3 none :: wsL_law
def aX5_endHold : List Cond := .code yX5_endHold cX5_endHold 4 (some .int) :: wsL_law
def aX5_endHoldsThatAreOver : List Cond := .code yX5_endHoldsThatAreOver cX5_endHoldsThatAreOver 2 none :: wsL_law
def aX5_enter : List Cond := .code yX5_enter cX5_enter 5 none :: wsL_law
def aX5_firstDayWithFree : List Cond := .code yX5_firstDayWithFree cX5_firstDayWithFree 10 (some .int) :: wsL_law
def aX5_freeAt : List Cond := .code yX5_freeAt cX5_freeAt 2 (some .int) :: wsL_law
def aX5_growUntil : List Cond := .code yX5_growUntil cX5_growUntil 3 none :: wsL_law
def aX5_growthPerDay : List Cond := .code yX5_growthPerDay cX5_growthPerDay 4 (some .long) :: wsL_law
def aX5_heldOn : List Cond := .code yX5_heldOn cX5_heldOn 5 (some .int) :: wsL_law
def aX5_init : List Cond := .code yX5_init cX5_init 1 none :: wsL_law
def aX5_interestAhead : List Cond := .code yX5_interestAhead cX5_interestAhead 10 (some .int) :: wsL_law
def aX5_interestToCredit : List Cond := .code yX5_interestToCredit cX5_interestToCredit 6 (some .int) :: wsL_law
def aX5_letPass : List Cond := .code yX5_letPass cX5_letPass 6 (some .long) :: wsL_law
def aX5_makeHold : List Cond := .code yX5_makeHold cX5_makeHold 5 (some .int) :: wsL_law
def aX5_makePayment : List Cond := .code yX5_makePayment cX5_makePayment 4 (some .int) :: wsL_law
def aX5_makeTransfer : List Cond := .code yX5_makeTransfer cX5_makeTransfer 6 (some .int) :: wsL_law
def aX5_openAccount : List Cond := .code yX5_openAccount cX5_openAccount 2 (some .int) :: wsL_law
def aX5_reverseEntry : List Cond := .code yX5_reverseEntry cX5_reverseEntry 10 (some .int) :: wsL_law
def aX5_settleBill : List Cond := .code yX5_settleBill cX5_settleBill 7 (some .int) :: wsL_law
def aX5_takeReceipt : List Cond := .code yX5_takeReceipt cX5_takeReceipt 4 (some .int) :: wsL_law
def aX5_writeBill : List Cond := .code yX5_writeBill cX5_writeBill 3 (some .int) :: wsL_law
def aX6_append : List Cond := .code yX6_append cX6_append 8 none :: wsL_law
def aX6_cellOf : List Cond := .code yX6_cellOf cX6_cellOf 2 (some .int) :: wsL_law
def aX6_copyFrom : List Cond := .code yX6_copyFrom cX6_copyFrom 2 none :: wsL_law
def aX6_get : List Cond := .code yX6_get cX6_get 4 (some .int) :: wsL_law
def aX6_init : List Cond := .code yX6_init cX6_init 1 none :: wsL_law
def aX6_keeps : List Cond := .code yX6_keeps cX6_keeps 2 (some .boolean) :: wsL_law
def aX6_markReversed : List Cond := .code yX6_markReversed cX6_markReversed 2 none :: wsL_law
def aX6_set : List Cond := .code yX6_set cX6_set 5 none :: wsL_law
def aX7_aboutRow : List Cond := .code yX7_aboutRow cX7_aboutRow 4 (some .int) :: wsL_law
def aX7_bill : List Cond := .code yX7_bill cX7_bill 3 (some .int) :: wsL_law
def aX7_billOf : List Cond := .code yX7_billOf cX7_billOf 3 (some .int) :: wsL_law
def aX7_clients : List Cond := .code yX7_clients cX7_clients 1 (some .int) :: wsL_law
def aX7_close : List Cond := .code yX7_close cX7_close 2 (some .int) :: wsL_law
def aX7_day : List Cond := .code yX7_day cX7_day 1 (some .int) :: wsL_law
def aX7_entries : List Cond := .code yX7_entries cX7_entries 1 (some .int) :: wsL_law
def aX7_entry : List Cond := .code yX7_entry cX7_entry 3 (some .int) :: wsL_law
def aX7_hold : List Cond := .code yX7_hold cX7_hold 4 (some .int) :: wsL_law
def aX7_holdOf : List Cond := .code yX7_holdOf cX7_holdOf 3 (some .int) :: wsL_law
def aX7_init : List Cond := .code yX7_init cX7_init 1 none :: wsL_law
def aX7_interestIn : List Cond := .code yX7_interestIn cX7_interestIn 4 (some .int) :: wsL_law
def aX7_isAmount : List Cond := .code yX7_isAmount cX7_isAmount 1 (some .boolean) :: wsL_law
def aX7_keptUnlessError : List Cond := .code yX7_keptUnlessError cX7_keptUnlessError 2 (some .int) :: wsL_law
def aX7_nextCreditDay : List Cond := .code yX7_nextCreditDay cX7_nextCreditDay 1 (some .int) :: wsL_law
def aX7_of : List Cond := .code yX7_of cX7_of 4 (some .int) :: wsL_law
def aX7_open : List Cond := .code yX7_open cX7_open 2 (some .int) :: wsL_law
def aX7_pass : List Cond := .code yX7_pass cX7_pass 4 (some .long) :: wsL_law
def aX7_pay : List Cond := .code yX7_pay cX7_pay 3 (some .int) :: wsL_law
def aX7_payableOn : List Cond := .code yX7_payableOn cX7_payableOn 4 (some .int) :: wsL_law
def aX7_ranked : List Cond := .code yX7_ranked cX7_ranked 3 (some .int) :: wsL_law
def aX7_receive : List Cond := .code yX7_receive cX7_receive 3 (some .int) :: wsL_law
def aX7_release : List Cond := .code yX7_release cX7_release 2 (some .int) :: wsL_law
def aX7_reverse : List Cond := .code yX7_reverse cX7_reverse 2 (some .int) :: wsL_law
def aX7_setRates : List Cond := .code yX7_setRates cX7_setRates 4 (some .int) :: wsL_law
def aX7_setThreshold : List Cond := .code yX7_setThreshold cX7_setThreshold 2 (some .int) :: wsL_law
def aX7_settle : List Cond := .code yX7_settle cX7_settle 2 (some .int) :: wsL_law
def aX7_sum : List Cond := .code yX7_sum cX7_sum 2 (some .long) :: wsL_law
def aX7_transfer : List Cond := .code yX7_transfer cX7_transfer 4 (some .int) :: wsL_law
theorem wm_2_19 : Cond.fieldLink RX0 9 "ClientMoneyBook$Accounts" "size" "I" ∈ wsL_law := wc_2 _ (List.mem_of_getElem? (i := 19) rfl)
theorem wm_2_20 : Cond.fieldLink RX0 15 "ClientMoneyBook$Accounts" "number" "[I" ∈ wsL_law := wc_2 _ (List.mem_of_getElem? (i := 20) rfl)
theorem wm_5_19 : Cond.methodLink RX0 29 arraycopyName ∈ wsL_law := wc_5 _ (List.mem_of_getElem? (i := 19) rfl)
theorem wm_5_20 : Cond.native arraycopyName ∈ wsL_law := wc_5 _ (List.mem_of_getElem? (i := 20) rfl)
theorem wm_5_21 : Cond.static arraycopyName ∈ wsL_law := wc_5 _ (List.mem_of_getElem? (i := 21) rfl)
theorem wm_5_22 : Cond.initialized "java/lang/System" ∈ wsL_law := wc_5 _ (List.mem_of_getElem? (i := 22) rfl)
theorem wm_2_21 : Cond.fieldLink RX0 19 "ClientMoneyBook$Accounts" "balance" "[I" ∈ wsL_law := wc_2 _ (List.mem_of_getElem? (i := 21) rfl)
theorem wm_2_22 : Cond.fieldLink RX0 22 "ClientMoneyBook$Accounts" "moved" "[I" ∈ wsL_law := wc_2 _ (List.mem_of_getElem? (i := 22) rfl)
theorem wm_2_23 : Cond.fieldLink RX0 25 "ClientMoneyBook$Accounts" "count" "[J" ∈ wsL_law := wc_2 _ (List.mem_of_getElem? (i := 23) rfl)
theorem wm_7_2 : Cond.methodLink RX0 43 yX0_isPlace ∈ wsL_law := wc_7 _ (List.mem_of_getElem? (i := 2) rfl)
theorem wm_6_22 : Cond.methodLink RX0 35 yX0_numberAt ∈ wsL_law := wc_6 _ (List.mem_of_getElem? (i := 22) rfl)
theorem wm_7_6 : Cond.methodLink RX0 39 yX0_copyRow ∈ wsL_law := wc_7 _ (List.mem_of_getElem? (i := 6) rfl)
theorem wm_22_23 : Cond.methodLink RX0 47 yX0_balanceAt ∈ wsL_law := wc_22 _ (List.mem_of_getElem? (i := 23) rfl)
theorem wm_3_19 : Cond.fieldLink RX1 20 "ClientMoneyBook$History" "slots" "[LClientMoneyBook$State;" ∈ wsL_law := wc_3 _ (List.mem_of_getElem? (i := 19) rfl)
theorem wm_3_3 : Cond.fieldLink RX4 9 "ClientMoneyBook$Rows" "size" "I" ∈ wsL_law := wc_3 _ (List.mem_of_getElem? (i := 3) rfl)
theorem wm_3_4 : Cond.fieldLink RX4 15 "ClientMoneyBook$Rows" "latestNumber" "I" ∈ wsL_law := wc_3 _ (List.mem_of_getElem? (i := 4) rfl)
theorem wm_3_5 : Cond.fieldLink RX4 18 "ClientMoneyBook$Rows" "cells" "[I" ∈ wsL_law := wc_3 _ (List.mem_of_getElem? (i := 5) rfl)
theorem wm_6_3 : Cond.methodLink RX4 22 arraycopyName ∈ wsL_law := wc_6 _ (List.mem_of_getElem? (i := 3) rfl)
theorem wm_3_9 : Cond.fieldLink RX6 9 "ClientMoneyBook$Trail" "made" "I" ∈ wsL_law := wc_3 _ (List.mem_of_getElem? (i := 9) rfl)
theorem wm_3_10 : Cond.fieldLink RX6 15 "ClientMoneyBook$Trail" "latestCheck" "I" ∈ wsL_law := wc_3 _ (List.mem_of_getElem? (i := 10) rfl)
theorem wm_3_11 : Cond.fieldLink RX6 18 "ClientMoneyBook$Trail" "cells" "[I" ∈ wsL_law := wc_3 _ (List.mem_of_getElem? (i := 11) rfl)
theorem wm_6_8 : Cond.methodLink RX6 22 arraycopyName ∈ wsL_law := wc_6 _ (List.mem_of_getElem? (i := 8) rfl)
theorem wm_1_20 : Cond.fieldLink RX5 12 "ClientMoneyBook$State" "accounts" "LClientMoneyBook$Accounts;" ∈ wsL_law := wc_1 _ (List.mem_of_getElem? (i := 20) rfl)
theorem wm_5_15 : Cond.methodLink RX5 65 yX0_copyFrom ∈ wsL_law := wc_5 _ (List.mem_of_getElem? (i := 15) rfl)
theorem wm_2_0 : Cond.fieldLink RX5 21 "ClientMoneyBook$State" "holds" "LClientMoneyBook$Rows;" ∈ wsL_law := wc_2 _ (List.mem_of_getElem? (i := 0) rfl)
theorem wm_5_23 : Cond.methodLink RX5 69 yX4_copyFrom ∈ wsL_law := wc_5 _ (List.mem_of_getElem? (i := 23) rfl)
theorem wm_2_1 : Cond.fieldLink RX5 25 "ClientMoneyBook$State" "bills" "LClientMoneyBook$Rows;" ∈ wsL_law := wc_2 _ (List.mem_of_getElem? (i := 1) rfl)
theorem wm_2_5 : Cond.fieldLink RX5 31 "ClientMoneyBook$State" "trail" "LClientMoneyBook$Trail;" ∈ wsL_law := wc_2 _ (List.mem_of_getElem? (i := 5) rfl)
theorem wm_6_4 : Cond.methodLink RX5 72 yX6_copyFrom ∈ wsL_law := wc_6 _ (List.mem_of_getElem? (i := 4) rfl)
theorem wm_2_6 : Cond.fieldLink RX5 35 "ClientMoneyBook$State" "day" "I" ∈ wsL_law := wc_2 _ (List.mem_of_getElem? (i := 6) rfl)
theorem wm_2_8 : Cond.fieldLink RX5 40 "ClientMoneyBook$State" "limit" "I" ∈ wsL_law := wc_2 _ (List.mem_of_getElem? (i := 8) rfl)
theorem wm_2_9 : Cond.fieldLink RX5 43 "ClientMoneyBook$State" "low" "I" ∈ wsL_law := wc_2 _ (List.mem_of_getElem? (i := 9) rfl)
theorem wm_2_10 : Cond.fieldLink RX5 46 "ClientMoneyBook$State" "high" "I" ∈ wsL_law := wc_2 _ (List.mem_of_getElem? (i := 10) rfl)
theorem wm_2_11 : Cond.fieldLink RX5 49 "ClientMoneyBook$State" "threshold" "I" ∈ wsL_law := wc_2 _ (List.mem_of_getElem? (i := 11) rfl)
theorem wm_2_12 : Cond.fieldLink RX5 52 "ClientMoneyBook$State" "office" "J" ∈ wsL_law := wc_2 _ (List.mem_of_getElem? (i := 12) rfl)
theorem wm_2_13 : Cond.fieldLink RX5 56 "ClientMoneyBook$State" "credited" "J" ∈ wsL_law := wc_2 _ (List.mem_of_getElem? (i := 13) rfl)
theorem wm_2_14 : Cond.fieldLink RX5 59 "ClientMoneyBook$State" "receipts" "J" ∈ wsL_law := wc_2 _ (List.mem_of_getElem? (i := 14) rfl)
theorem wm_2_15 : Cond.fieldLink RX5 62 "ClientMoneyBook$State" "payments" "J" ∈ wsL_law := wc_2 _ (List.mem_of_getElem? (i := 15) rfl)
theorem wm_3_17 : Cond.fieldLink RX1 15 "ClientMoneyBook$History" "next" "I" ∈ wsL_law := wc_3 _ (List.mem_of_getElem? (i := 17) rfl)
theorem wm_3_16 : Cond.fieldLink RX1 9 "ClientMoneyBook$History" "saved" "I" ∈ wsL_law := wc_3 _ (List.mem_of_getElem? (i := 16) rfl)
theorem wm_7_18 : Cond.methodLink RX1 33 Lib.Math.min.name ∈ wsL_law := wc_7 _ (List.mem_of_getElem? (i := 18) rfl)
theorem wm_7_19 : Cond.static Lib.Math.min.name ∈ wsL_law := wc_7 _ (List.mem_of_getElem? (i := 19) rfl)
theorem wm_7_20 : Cond.initialized "java/lang/Math" ∈ wsL_law := wc_7 _ (List.mem_of_getElem? (i := 20) rfl)
theorem wm_7_21 : Cond.code Lib.Math.min.name Lib.Math.min.code 2 (some .int) ∈ wsL_law := wc_7 _ (List.mem_of_getElem? (i := 21) rfl)
theorem wm_11_6 : Cond.methodLink RX4 28 yX4_get ∈ wsL_law := wc_11 _ (List.mem_of_getElem? (i := 6) rfl)
theorem wm_8_13 : Cond.methodLink RX5 87 yX0_balanceAt ∈ wsL_law := wc_8 _ (List.mem_of_getElem? (i := 13) rfl)
theorem wm_11_1 : Cond.methodLink RX5 157 yX0_numberAt ∈ wsL_law := wc_11 _ (List.mem_of_getElem? (i := 1) rfl)
theorem wm_11_2 : Cond.methodLink RX5 160 yX4_sumOf ∈ wsL_law := wc_11 _ (List.mem_of_getElem? (i := 2) rfl)
theorem wm_20_15 : Cond.fieldLink RX3 22 "ClientMoneyBook$State" "accounts" "LClientMoneyBook$Accounts;" ∈ wsL_law := wc_20 _ (List.mem_of_getElem? (i := 15) rfl)
theorem wm_20_21 : Cond.methodLink RX3 45 yX0_balanceAt ∈ wsL_law := wc_20 _ (List.mem_of_getElem? (i := 21) rfl)
theorem wm_20_22 : Cond.methodLink RX3 48 yX5_freeAt ∈ wsL_law := wc_20 _ (List.mem_of_getElem? (i := 22) rfl)
theorem wm_20_23 : Cond.methodLink RX3 51 yX0_movedAt ∈ wsL_law := wc_20 _ (List.mem_of_getElem? (i := 23) rfl)
theorem wm_20_16 : Cond.fieldLink RX3 28 "ClientMoneyBook$Accounts" "size" "I" ∈ wsL_law := wc_20 _ (List.mem_of_getElem? (i := 16) rfl)
theorem wm_20_17 : Cond.methodLink RX3 31 Lib.Math.min.name ∈ wsL_law := wc_20 _ (List.mem_of_getElem? (i := 17) rfl)
theorem wm_4_10 : Cond.fieldLink RX3 9 "ClientMoneyBook$Ranking" "size" "I" ∈ wsL_law := wc_4 _ (List.mem_of_getElem? (i := 10) rfl)
theorem wm_20_18 : Cond.methodLink RX3 37 yX3_keyOf ∈ wsL_law := wc_20 _ (List.mem_of_getElem? (i := 18) rfl)
theorem wm_4_12 : Cond.fieldLink RX3 19 "ClientMoneyBook$Ranking" "keys" "[I" ∈ wsL_law := wc_4 _ (List.mem_of_getElem? (i := 12) rfl)
theorem wm_4_11 : Cond.fieldLink RX3 15 "ClientMoneyBook$Ranking" "clients" "[I" ∈ wsL_law := wc_4 _ (List.mem_of_getElem? (i := 11) rfl)
theorem wm_21_0 : Cond.methodLink RX3 41 yX0_numberAt ∈ wsL_law := wc_21 _ (List.mem_of_getElem? (i := 0) rfl)
theorem wm_12_7 : Cond.methodLink RX4 32 yX4_set ∈ wsL_law := wc_12 _ (List.mem_of_getElem? (i := 7) rfl)
theorem wm_8_9 : Cond.constant RX5 75 (1000000000) ∈ wsL_law := wc_8 _ (List.mem_of_getElem? (i := 9) rfl)
theorem wm_6_14 : Cond.methodLink RX5 76 yX0_find ∈ wsL_law := wc_6 _ (List.mem_of_getElem? (i := 14) rfl)
theorem wm_6_13 : Cond.fieldLink RX5 80 "ClientMoneyBook$Accounts" "size" "I" ∈ wsL_law := wc_6 _ (List.mem_of_getElem? (i := 13) rfl)
theorem wm_6_18 : Cond.methodLink RX5 83 yX0_insert ∈ wsL_law := wc_6 _ (List.mem_of_getElem? (i := 18) rfl)
theorem wm_19_6 : Cond.methodLink RX5 90 yX4_countOf ∈ wsL_law := wc_19 _ (List.mem_of_getElem? (i := 6) rfl)
theorem wm_19_10 : Cond.methodLink RX5 93 yX0_remove ∈ wsL_law := wc_19 _ (List.mem_of_getElem? (i := 10) rfl)
theorem wm_8_12 : Cond.constant RX7 230 (100000000) ∈ wsL_law := wc_8 _ (List.mem_of_getElem? (i := 12) rfl)
theorem wm_9_15 : Cond.methodLink RX6 28 yX6_cellOf ∈ wsL_law := wc_9 _ (List.mem_of_getElem? (i := 15) rfl)
theorem wm_9_5 : Cond.constantLong RX6 40 (1009) ∈ wsL_law := wc_9 _ (List.mem_of_getElem? (i := 5) rfl)
theorem wm_9_6 : Cond.constantLong RX6 42 (31) ∈ wsL_law := wc_9 _ (List.mem_of_getElem? (i := 6) rfl)
theorem wm_9_7 : Cond.constantLong RX6 44 (17) ∈ wsL_law := wc_9 _ (List.mem_of_getElem? (i := 7) rfl)
theorem wm_9_8 : Cond.constantLong RX6 46 (101) ∈ wsL_law := wc_9 _ (List.mem_of_getElem? (i := 8) rfl)
theorem wm_9_9 : Cond.constantLong RX6 48 (103) ∈ wsL_law := wc_9 _ (List.mem_of_getElem? (i := 9) rfl)
theorem wm_9_10 : Cond.constantLong RX6 50 (1000003) ∈ wsL_law := wc_9 _ (List.mem_of_getElem? (i := 10) rfl)
theorem wm_9_11 : Cond.methodLink RX6 36 yX6_set ∈ wsL_law := wc_9 _ (List.mem_of_getElem? (i := 11) rfl)
theorem wm_9_1 : Cond.methodLink RX5 193 yX6_append ∈ wsL_law := wc_9 _ (List.mem_of_getElem? (i := 1) rfl)
theorem wm_9_18 : Cond.methodLink RX5 196 yX0_move ∈ wsL_law := wc_9 _ (List.mem_of_getElem? (i := 18) rfl)
theorem wm_0_2 : Cond.initialized RX7 ∈ wsL_law := wc_0 _ (List.mem_of_getElem? (i := 2) rfl)
theorem wm_8_10 : Cond.static yX7_isAmount ∈ wsL_law := wc_8 _ (List.mem_of_getElem? (i := 10) rfl)
theorem wm_8_17 : Cond.methodLink RX5 101 yX0_add ∈ wsL_law := wc_8 _ (List.mem_of_getElem? (i := 17) rfl)
theorem wm_8_21 : Cond.methodLink RX5 104 yX5_enter ∈ wsL_law := wc_8 _ (List.mem_of_getElem? (i := 21) rfl)
theorem wm_10_21 : Cond.methodLink RX5 108 yX5_freeAt ∈ wsL_law := wc_10 _ (List.mem_of_getElem? (i := 21) rfl)
theorem wm_12_2 : Cond.fieldLink RX5 111 "ClientMoneyBook$Rows" "size" "I" ∈ wsL_law := wc_12 _ (List.mem_of_getElem? (i := 2) rfl)
theorem wm_12_3 : Cond.methodLink RX5 112 yX4_append ∈ wsL_law := wc_12 _ (List.mem_of_getElem? (i := 3) rfl)
theorem wm_12_19 : Cond.methodLink RX5 116 yX4_find ∈ wsL_law := wc_12 _ (List.mem_of_getElem? (i := 19) rfl)
theorem wm_12_23 : Cond.methodLink RX5 117 yX4_get ∈ wsL_law := wc_12 _ (List.mem_of_getElem? (i := 23) rfl)
theorem wm_13_0 : Cond.methodLink RX5 121 yX4_remove ∈ wsL_law := wc_13 _ (List.mem_of_getElem? (i := 0) rfl)
theorem wm_13_20 : Cond.methodLink RX5 122 Lib.Math.min.name ∈ wsL_law := wc_13 _ (List.mem_of_getElem? (i := 20) rfl)
theorem wm_13_21 : Cond.methodLink RX5 127 yX4_set ∈ wsL_law := wc_13 _ (List.mem_of_getElem? (i := 21) rfl)
theorem wm_14_19 : Cond.methodLink RX5 177 yX5_growthPerDay ∈ wsL_law := wc_14 _ (List.mem_of_getElem? (i := 19) rfl)
theorem wm_16_9 : Cond.methodLink RX5 187 yX0_addCount ∈ wsL_law := wc_16 _ (List.mem_of_getElem? (i := 9) rfl)
theorem wm_14_12 : Cond.constantLong RX5 167 (3650000) ∈ wsL_law := wc_14 _ (List.mem_of_getElem? (i := 12) rfl)
theorem wm_15_3 : Cond.methodLink RX5 171 Lib.MathLoose.min_long.x ∈ wsL_law := wc_15 _ (List.mem_of_getElem? (i := 3) rfl)
theorem wm_15_4 : Cond.static Lib.MathLoose.min_long.x ∈ wsL_law := wc_15 _ (List.mem_of_getElem? (i := 4) rfl)
theorem wm_15_5 : Cond.code Lib.MathLoose.min_long.x Lib.MathLoose.min_long.code 4 (some .long) ∈ wsL_law := wc_15 _ (List.mem_of_getElem? (i := 5) rfl)
theorem wm_14_13 : Cond.methodLink RX5 163 yX0_countAt ∈ wsL_law := wc_14 _ (List.mem_of_getElem? (i := 13) rfl)
theorem wm_14_23 : Cond.methodLink RX5 180 yX5_interestToCredit ∈ wsL_law := wc_14 _ (List.mem_of_getElem? (i := 23) rfl)
theorem wm_16_17 : Cond.constantLong RX5 191 (-3650000) ∈ wsL_law := wc_16 _ (List.mem_of_getElem? (i := 17) rfl)
theorem wm_16_3 : Cond.constantLong RX5 131 (-2) ∈ wsL_law := wc_16 _ (List.mem_of_getElem? (i := 3) rfl)
theorem wm_14_17 : Cond.static yX7_nextCreditDay ∈ wsL_law := wc_14 _ (List.mem_of_getElem? (i := 17) rfl)
theorem wm_16_5 : Cond.methodLink RX5 138 yX5_growUntil ∈ wsL_law := wc_16 _ (List.mem_of_getElem? (i := 5) rfl)
theorem wm_16_13 : Cond.methodLink RX5 141 yX5_creditAll ∈ wsL_law := wc_16 _ (List.mem_of_getElem? (i := 13) rfl)
theorem wm_16_18 : Cond.methodLink RX5 144 yX5_endHoldsThatAreOver ∈ wsL_law := wc_16 _ (List.mem_of_getElem? (i := 18) rfl)
theorem wm_16_4 : Cond.constantLong RX5 133 (-4) ∈ wsL_law := wc_16 _ (List.mem_of_getElem? (i := 4) rfl)
theorem wm_18_10 : Cond.methodLink RX6 32 yX6_keeps ∈ wsL_law := wc_18 _ (List.mem_of_getElem? (i := 10) rfl)
theorem wm_18_2 : Cond.methodLink RX5 147 yX6_keeps ∈ wsL_law := wc_18 _ (List.mem_of_getElem? (i := 2) rfl)
theorem wm_18_6 : Cond.methodLink RX5 150 yX6_get ∈ wsL_law := wc_18 _ (List.mem_of_getElem? (i := 6) rfl)
theorem wm_18_11 : Cond.methodLink RX5 151 yX6_markReversed ∈ wsL_law := wc_18 _ (List.mem_of_getElem? (i := 11) rfl)
theorem wm_18_1 : Cond.fieldLink RX5 154 "ClientMoneyBook$Trail" "made" "I" ∈ wsL_law := wc_18 _ (List.mem_of_getElem? (i := 1) rfl)
theorem wm_20_1 : Cond.constantLong RX5 169 (1000000000) ∈ wsL_law := wc_20 _ (List.mem_of_getElem? (i := 1) rfl)
theorem wm_20_2 : Cond.methodLink RX5 174 yX0_movedAt ∈ wsL_law := wc_20 _ (List.mem_of_getElem? (i := 2) rfl)
theorem wm_15_15 : Cond.methodLink RX5 184 yX5_heldOn ∈ wsL_law := wc_15 _ (List.mem_of_getElem? (i := 15) rfl)
theorem wm_1_5 : Cond.fieldLink RX7 19 "ClientMoneyBook" "history" "LClientMoneyBook$History;" ∈ wsL_law := wc_1 _ (List.mem_of_getElem? (i := 5) rfl)
theorem wm_7_14 : Cond.methodLink RX7 84 yX1_keep ∈ wsL_law := wc_7 _ (List.mem_of_getElem? (i := 14) rfl)
theorem wm_1_1 : Cond.fieldLink RX7 10 "ClientMoneyBook" "state" "LClientMoneyBook$State;" ∈ wsL_law := wc_1 _ (List.mem_of_getElem? (i := 1) rfl)
theorem wm_5_3 : Cond.methodLink RX7 37 yX1_prepare ∈ wsL_law := wc_5 _ (List.mem_of_getElem? (i := 3) rfl)
theorem wm_17_5 : Cond.methodLink RX7 41 yX5_changeRates ∈ wsL_law := wc_17 _ (List.mem_of_getElem? (i := 5) rfl)
theorem wm_7_10 : Cond.methodLink RX7 45 yX7_keptUnlessError ∈ wsL_law := wc_7 _ (List.mem_of_getElem? (i := 10) rfl)
theorem wm_17_13 : Cond.methodLink RX7 49 yX5_changeThreshold ∈ wsL_law := wc_17 _ (List.mem_of_getElem? (i := 13) rfl)
theorem wm_6_9 : Cond.methodLink RX7 52 yX5_openAccount ∈ wsL_law := wc_6 _ (List.mem_of_getElem? (i := 9) rfl)
theorem wm_19_2 : Cond.methodLink RX7 55 yX5_closeAccount ∈ wsL_law := wc_19 _ (List.mem_of_getElem? (i := 2) rfl)
theorem wm_8_5 : Cond.methodLink RX7 58 yX5_takeReceipt ∈ wsL_law := wc_8 _ (List.mem_of_getElem? (i := 5) rfl)
theorem wm_10_17 : Cond.methodLink RX7 62 yX5_makePayment ∈ wsL_law := wc_10 _ (List.mem_of_getElem? (i := 17) rfl)
theorem wm_11_14 : Cond.methodLink RX7 65 yX5_makeTransfer ∈ wsL_law := wc_11 _ (List.mem_of_getElem? (i := 14) rfl)
theorem wm_11_22 : Cond.methodLink RX7 68 yX5_makeHold ∈ wsL_law := wc_11 _ (List.mem_of_getElem? (i := 22) rfl)
theorem wm_12_15 : Cond.methodLink RX7 71 yX5_endHold ∈ wsL_law := wc_12 _ (List.mem_of_getElem? (i := 15) rfl)
theorem wm_13_8 : Cond.methodLink RX7 74 yX5_writeBill ∈ wsL_law := wc_13 _ (List.mem_of_getElem? (i := 8) rfl)
theorem wm_13_16 : Cond.methodLink RX7 77 yX5_settleBill ∈ wsL_law := wc_13 _ (List.mem_of_getElem? (i := 16) rfl)
theorem wm_15_23 : Cond.methodLink RX7 80 yX5_letPass ∈ wsL_law := wc_15 _ (List.mem_of_getElem? (i := 23) rfl)
theorem wm_17_21 : Cond.methodLink RX7 87 yX5_reverseEntry ∈ wsL_law := wc_17 _ (List.mem_of_getElem? (i := 21) rfl)
theorem wm_22_0 : Cond.fieldLink RX7 90 "ClientMoneyBook$State" "day" "I" ∈ wsL_law := wc_22 _ (List.mem_of_getElem? (i := 0) rfl)
theorem wm_14_6 : Cond.fieldLink RX7 94 "ClientMoneyBook$State" "accounts" "LClientMoneyBook$Accounts;" ∈ wsL_law := wc_14 _ (List.mem_of_getElem? (i := 6) rfl)
theorem wm_20_10 : Cond.fieldLink RX7 98 "ClientMoneyBook$Accounts" "size" "I" ∈ wsL_law := wc_20 _ (List.mem_of_getElem? (i := 10) rfl)
theorem wm_1_13 : Cond.fieldLink RX7 33 "ClientMoneyBook" "ranking" "LClientMoneyBook$Ranking;" ∈ wsL_law := wc_1 _ (List.mem_of_getElem? (i := 13) rfl)
theorem wm_20_11 : Cond.methodLink RX7 103 yX3_sort ∈ wsL_law := wc_20 _ (List.mem_of_getElem? (i := 11) rfl)
theorem wm_21_1 : Cond.methodLink RX7 107 yX3_clientAt ∈ wsL_law := wc_21 _ (List.mem_of_getElem? (i := 1) rfl)
theorem wm_14_7 : Cond.methodLink RX7 110 yX0_find ∈ wsL_law := wc_14 _ (List.mem_of_getElem? (i := 7) rfl)
theorem wm_19_21 : Cond.methodLink RX7 113 yX5_aboutClient ∈ wsL_law := wc_19 _ (List.mem_of_getElem? (i := 21) rfl)
theorem wm_21_13 : Cond.methodLink RX7 228 yX4_find ∈ wsL_law := wc_21 _ (List.mem_of_getElem? (i := 13) rfl)
theorem wm_21_14 : Cond.methodLink RX7 229 yX4_get ∈ wsL_law := wc_21 _ (List.mem_of_getElem? (i := 14) rfl)
theorem wm_21_9 : Cond.fieldLink RX7 116 "ClientMoneyBook$State" "holds" "LClientMoneyBook$Rows;" ∈ wsL_law := wc_21 _ (List.mem_of_getElem? (i := 9) rfl)
theorem wm_21_10 : Cond.methodLink RX7 120 yX7_aboutRow ∈ wsL_law := wc_21 _ (List.mem_of_getElem? (i := 10) rfl)
theorem wm_21_19 : Cond.fieldLink RX7 124 "ClientMoneyBook$State" "bills" "LClientMoneyBook$Rows;" ∈ wsL_law := wc_21 _ (List.mem_of_getElem? (i := 19) rfl)
theorem wm_18_19 : Cond.fieldLink RX7 127 "ClientMoneyBook$State" "trail" "LClientMoneyBook$Trail;" ∈ wsL_law := wc_18 _ (List.mem_of_getElem? (i := 19) rfl)
theorem wm_22_9 : Cond.fieldLink RX7 131 "ClientMoneyBook$Trail" "made" "I" ∈ wsL_law := wc_22 _ (List.mem_of_getElem? (i := 9) rfl)
theorem wm_18_20 : Cond.methodLink RX7 136 yX6_keeps ∈ wsL_law := wc_18 _ (List.mem_of_getElem? (i := 20) rfl)
theorem wm_18_21 : Cond.methodLink RX7 140 yX6_get ∈ wsL_law := wc_18 _ (List.mem_of_getElem? (i := 21) rfl)
theorem wm_22_19 : Cond.methodLink RX7 143 yX0_sumOfBalances ∈ wsL_law := wc_22 _ (List.mem_of_getElem? (i := 19) rfl)
theorem wm_23_0 : Cond.methodLink RX7 149 yX4_sumOfAll ∈ wsL_law := wc_23 _ (List.mem_of_getElem? (i := 0) rfl)
theorem wm_22_14 : Cond.fieldLink RX7 152 "ClientMoneyBook$State" "office" "J" ∈ wsL_law := wc_22 _ (List.mem_of_getElem? (i := 14) rfl)
theorem wm_22_15 : Cond.fieldLink RX7 156 "ClientMoneyBook$State" "credited" "J" ∈ wsL_law := wc_22 _ (List.mem_of_getElem? (i := 15) rfl)
theorem wm_22_16 : Cond.fieldLink RX7 159 "ClientMoneyBook$State" "receipts" "J" ∈ wsL_law := wc_22 _ (List.mem_of_getElem? (i := 16) rfl)
theorem wm_22_17 : Cond.fieldLink RX7 162 "ClientMoneyBook$State" "payments" "J" ∈ wsL_law := wc_22 _ (List.mem_of_getElem? (i := 17) rfl)
theorem wm_22_18 : Cond.constantLong RX7 165 (-2) ∈ wsL_law := wc_22 _ (List.mem_of_getElem? (i := 18) rfl)
theorem wm_15_10 : Cond.methodLink RX7 167 yX7_isAmount ∈ wsL_law := wc_15 _ (List.mem_of_getElem? (i := 10) rfl)
theorem wm_15_11 : Cond.methodLink RX7 170 yX5_firstDayWithFree ∈ wsL_law := wc_15 _ (List.mem_of_getElem? (i := 11) rfl)
theorem wm_14_8 : Cond.methodLink RX7 173 yX5_interestAhead ∈ wsL_law := wc_14 _ (List.mem_of_getElem? (i := 8) rfl)
theorem wm_4_22 : Cond.constant RL 9 (2147483647) ∈ wsL_law := wc_4 _ (List.mem_of_getElem? (i := 22) rfl)
theorem wm_10_10 : Cond.methodLink RL 10 yL_held ∈ wsL_law := wc_10 _ (List.mem_of_getElem? (i := 10) rfl)
theorem wm_10_1 : Cond.constantLong RL 16 (1009) ∈ wsL_law := wc_10 _ (List.mem_of_getElem? (i := 1) rfl)
theorem wm_10_2 : Cond.constantLong RL 18 (31) ∈ wsL_law := wc_10 _ (List.mem_of_getElem? (i := 2) rfl)
theorem wm_10_3 : Cond.constantLong RL 20 (17) ∈ wsL_law := wc_10 _ (List.mem_of_getElem? (i := 3) rfl)
theorem wm_10_4 : Cond.constantLong RL 22 (101) ∈ wsL_law := wc_10 _ (List.mem_of_getElem? (i := 4) rfl)
theorem wm_10_5 : Cond.constantLong RL 24 (103) ∈ wsL_law := wc_10 _ (List.mem_of_getElem? (i := 5) rfl)
theorem wm_10_6 : Cond.constantLong RL 26 (1000003) ∈ wsL_law := wc_10 _ (List.mem_of_getElem? (i := 6) rfl)
theorem wm_14_1 : Cond.constantLong RL 28 (3650000) ∈ wsL_law := wc_14 _ (List.mem_of_getElem? (i := 1) rfl)
theorem wm_0_9 : Cond.constantLong RL 30 (1000000000) ∈ wsL_law := wc_0 _ (List.mem_of_getElem? (i := 9) rfl)
theorem wm_13_22 : Cond.methodLink RL 32 yL_interest ∈ wsL_law := wc_13 _ (List.mem_of_getElem? (i := 22) rfl)
theorem wm_9_22 : Cond.methodLink RL 36 yL_enter ∈ wsL_law := wc_9 _ (List.mem_of_getElem? (i := 22) rfl)
theorem wm_20_6 : Cond.methodLink RL 46 yX7_ranked ∈ wsL_law := wc_20 _ (List.mem_of_getElem? (i := 6) rfl)
theorem wm_19_17 : Cond.methodLink RL 40 yX7_of ∈ wsL_law := wc_19 _ (List.mem_of_getElem? (i := 17) rfl)
theorem wm_10_7 : Cond.methodLink RL 49 yL_free ∈ wsL_law := wc_10 _ (List.mem_of_getElem? (i := 7) rfl)
theorem wm_21_5 : Cond.methodLink RL 53 yX7_holdOf ∈ wsL_law := wc_21 _ (List.mem_of_getElem? (i := 5) rfl)
theorem wm_21_15 : Cond.methodLink RL 56 yX7_billOf ∈ wsL_law := wc_21 _ (List.mem_of_getElem? (i := 15) rfl)
theorem wm_18_15 : Cond.methodLink RL 59 yX7_entry ∈ wsL_law := wc_18 _ (List.mem_of_getElem? (i := 15) rfl)
theorem wm_21_20 : Cond.methodLink RL 62 yX7_day ∈ wsL_law := wc_21 _ (List.mem_of_getElem? (i := 20) rfl)
theorem wm_22_1 : Cond.methodLink RL 66 yX7_clients ∈ wsL_law := wc_22 _ (List.mem_of_getElem? (i := 1) rfl)
theorem wm_22_5 : Cond.methodLink RL 69 yX7_entries ∈ wsL_law := wc_22 _ (List.mem_of_getElem? (i := 5) rfl)
theorem wm_22_10 : Cond.methodLink RL 72 yX7_sum ∈ wsL_law := wc_22 _ (List.mem_of_getElem? (i := 10) rfl)
theorem wm_0_5 : Cond.constant RL 77 (100000) ∈ wsL_law := wc_0 _ (List.mem_of_getElem? (i := 5) rfl)
theorem wm_0_6 : Cond.constantLong RL 78 (7) ∈ wsL_law := wc_0 _ (List.mem_of_getElem? (i := 6) rfl)
theorem wm_4_13 : Cond.methodLink RL 80 yL_cell ∈ wsL_law := wc_4 _ (List.mem_of_getElem? (i := 13) rfl)
theorem wm_4_19 : Cond.methodLink RL 84 yL_low ∈ wsL_law := wc_4 _ (List.mem_of_getElem? (i := 19) rfl)
theorem wm_0_8 : Cond.constant RL 88 (200000) ∈ wsL_law := wc_0 _ (List.mem_of_getElem? (i := 8) rfl)
theorem wm_18_22 : Cond.methodLink RL 149 yX7_close ∈ wsL_law := wc_18 _ (List.mem_of_getElem? (i := 22) rfl)
theorem wm_19_14 : Cond.methodLink RL 152 yL_same ∈ wsL_law := wc_19 _ (List.mem_of_getElem? (i := 14) rfl)
theorem wm_7_22 : Cond.methodLink RL 93 yL_clients ∈ wsL_law := wc_7 _ (List.mem_of_getElem? (i := 22) rfl)
theorem wm_17_17 : Cond.methodLink RL 146 yX7_reverse ∈ wsL_law := wc_17 _ (List.mem_of_getElem? (i := 17) rfl)
theorem wm_0_15 : Cond.constant RL 139 (900000000) ∈ wsL_law := wc_0 _ (List.mem_of_getElem? (i := 15) rfl)
theorem wm_17_1 : Cond.methodLink RL 140 yX7_setRates ∈ wsL_law := wc_17 _ (List.mem_of_getElem? (i := 1) rfl)
theorem wm_17_9 : Cond.methodLink RL 143 yX7_setThreshold ∈ wsL_law := wc_17 _ (List.mem_of_getElem? (i := 9) rfl)
theorem wm_0_14 : Cond.constant RL 138 (300000) ∈ wsL_law := wc_0 _ (List.mem_of_getElem? (i := 14) rfl)
theorem wm_14_2 : Cond.methodLink RL 126 yX7_interestIn ∈ wsL_law := wc_14 _ (List.mem_of_getElem? (i := 2) rfl)
theorem wm_15_6 : Cond.methodLink RL 129 yX7_payableOn ∈ wsL_law := wc_15 _ (List.mem_of_getElem? (i := 6) rfl)
theorem wm_15_19 : Cond.methodLink RL 132 yX7_pass ∈ wsL_law := wc_15 _ (List.mem_of_getElem? (i := 19) rfl)
theorem wm_16_22 : Cond.methodLink RL 135 yL_pass ∈ wsL_law := wc_16 _ (List.mem_of_getElem? (i := 22) rfl)
theorem wm_13_12 : Cond.methodLink RL 123 yX7_settle ∈ wsL_law := wc_13 _ (List.mem_of_getElem? (i := 12) rfl)
theorem wm_13_4 : Cond.methodLink RL 120 yX7_bill ∈ wsL_law := wc_13 _ (List.mem_of_getElem? (i := 4) rfl)
theorem wm_12_11 : Cond.methodLink RL 117 yX7_release ∈ wsL_law := wc_12 _ (List.mem_of_getElem? (i := 11) rfl)
theorem wm_11_18 : Cond.methodLink RL 114 yX7_hold ∈ wsL_law := wc_11 _ (List.mem_of_getElem? (i := 18) rfl)
theorem wm_11_10 : Cond.methodLink RL 108 yX7_transfer ∈ wsL_law := wc_11 _ (List.mem_of_getElem? (i := 10) rfl)
theorem wm_0_11 : Cond.constantLong RL 101 (-4) ∈ wsL_law := wc_0 _ (List.mem_of_getElem? (i := 11) rfl)
theorem wm_0_12 : Cond.constantLong RL 106 (-3) ∈ wsL_law := wc_0 _ (List.mem_of_getElem? (i := 12) rfl)
theorem wm_0_13 : Cond.constantLong RL 112 (-2) ∈ wsL_law := wc_0 _ (List.mem_of_getElem? (i := 13) rfl)
theorem wm_0_10 : Cond.constantLong RL 99 (-1) ∈ wsL_law := wc_0 _ (List.mem_of_getElem? (i := 10) rfl)
theorem wm_10_13 : Cond.methodLink RL 103 yX7_pay ∈ wsL_law := wc_10 _ (List.mem_of_getElem? (i := 13) rfl)
theorem wm_8_1 : Cond.methodLink RL 96 yX7_receive ∈ wsL_law := wc_8 _ (List.mem_of_getElem? (i := 1) rfl)
theorem wm_4_23 : Cond.methodLink RL 89 yX7_open ∈ wsL_law := wc_4 _ (List.mem_of_getElem? (i := 23) rfl)
theorem wm_0_7 : Cond.constant RL 87 (90000000) ∈ wsL_law := wc_0 _ (List.mem_of_getElem? (i := 7) rfl)
theorem wm_5_7 : Cond.methodLink RX1 25 yX1_slotAt ∈ wsL_law := wc_5 _ (List.mem_of_getElem? (i := 7) rfl)
theorem wm_5_11 : Cond.methodLink RX1 29 yX5_copyFrom ∈ wsL_law := wc_5 _ (List.mem_of_getElem? (i := 11) rfl)
theorem wm_4_17 : Cond.constant RL 7 (1033861975) ∈ wsL_law := wc_4 _ (List.mem_of_getElem? (i := 17) rfl)
theorem wm_4_18 : Cond.constant RL 8 (650699941) ∈ wsL_law := wc_4 _ (List.mem_of_getElem? (i := 18) rfl)
theorem wm_0_21 : Cond.code objectInit ⟨#[0xb1]⟩ 1 none ∈ wsL_law := wc_0 _ (List.mem_of_getElem? (i := 21) rfl)
theorem wm_2_18 : Cond.methodLink RX0 3 objectInit ∈ wsL_law := wc_2 _ (List.mem_of_getElem? (i := 18) rfl)
theorem wm_0_20 : Cond.instanceMethod objectInit ∈ wsL_law := wc_0 _ (List.mem_of_getElem? (i := 20) rfl)
theorem wm_0_3 : Cond.arrayClass .int ∈ wsL_law := wc_0 _ (List.mem_of_getElem? (i := 3) rfl)
theorem wm_0_4 : Cond.arrayClass .long ∈ wsL_law := wc_0 _ (List.mem_of_getElem? (i := 4) rfl)
theorem wm_3_2 : Cond.methodLink RX4 3 objectInit ∈ wsL_law := wc_3 _ (List.mem_of_getElem? (i := 2) rfl)
theorem wm_3_8 : Cond.methodLink RX6 3 objectInit ∈ wsL_law := wc_3 _ (List.mem_of_getElem? (i := 8) rfl)
theorem wm_3_22 : Cond.methodLink RX2 3 objectInit ∈ wsL_law := wc_3 _ (List.mem_of_getElem? (i := 22) rfl)
theorem wm_3_23 : Cond.fieldLink RX2 9 "ClientMoneyBook$OrderText" "length" "I" ∈ wsL_law := wc_3 _ (List.mem_of_getElem? (i := 23) rfl)
theorem wm_4_0 : Cond.arrayClass .char ∈ wsL_law := wc_4 _ (List.mem_of_getElem? (i := 0) rfl)
theorem wm_4_1 : Cond.fieldLink RX2 15 "ClientMoneyBook$OrderText" "characters" "[C" ∈ wsL_law := wc_4 _ (List.mem_of_getElem? (i := 1) rfl)
theorem wm_4_2 : Cond.fieldLink RX2 19 "ClientMoneyBook$OrderText" "position" "I" ∈ wsL_law := wc_4 _ (List.mem_of_getElem? (i := 2) rfl)
theorem wm_4_3 : Cond.fieldLink RX2 22 "ClientMoneyBook$OrderText" "letter" "C" ∈ wsL_law := wc_4 _ (List.mem_of_getElem? (i := 3) rfl)
theorem wm_4_4 : Cond.fieldLink RX2 26 "ClientMoneyBook$OrderText" "first" "I" ∈ wsL_law := wc_4 _ (List.mem_of_getElem? (i := 4) rfl)
theorem wm_4_5 : Cond.fieldLink RX2 29 "ClientMoneyBook$OrderText" "second" "I" ∈ wsL_law := wc_4 _ (List.mem_of_getElem? (i := 5) rfl)
theorem wm_4_6 : Cond.fieldLink RX2 32 "ClientMoneyBook$OrderText" "third" "I" ∈ wsL_law := wc_4 _ (List.mem_of_getElem? (i := 6) rfl)
theorem wm_4_9 : Cond.methodLink RX3 3 objectInit ∈ wsL_law := wc_4 _ (List.mem_of_getElem? (i := 9) rfl)
theorem wm_1_16 : Cond.methodLink RX5 3 objectInit ∈ wsL_law := wc_1 _ (List.mem_of_getElem? (i := 16) rfl)
theorem wm_1_17 : Cond.classLink RX5 9 RX0 ∈ wsL_law := wc_1 _ (List.mem_of_getElem? (i := 17) rfl)
theorem wm_1_18 : Cond.instantiable RX0 5 ∈ wsL_law := wc_1 _ (List.mem_of_getElem? (i := 18) rfl)
theorem wm_1_19 : Cond.initialized RX0 ∈ wsL_law := wc_1 _ (List.mem_of_getElem? (i := 19) rfl)
theorem wm_2_16 : Cond.instanceMethod yX0_init ∈ wsL_law := wc_2 _ (List.mem_of_getElem? (i := 16) rfl)
theorem wm_1_21 : Cond.classLink RX5 18 RX4 ∈ wsL_law := wc_1 _ (List.mem_of_getElem? (i := 21) rfl)
theorem wm_1_22 : Cond.instantiable RX4 3 ∈ wsL_law := wc_1 _ (List.mem_of_getElem? (i := 22) rfl)
theorem wm_1_23 : Cond.initialized RX4 ∈ wsL_law := wc_1 _ (List.mem_of_getElem? (i := 23) rfl)
theorem wm_3_0 : Cond.instanceMethod yX4_init ∈ wsL_law := wc_3 _ (List.mem_of_getElem? (i := 0) rfl)
theorem wm_2_2 : Cond.classLink RX5 28 RX6 ∈ wsL_law := wc_2 _ (List.mem_of_getElem? (i := 2) rfl)
theorem wm_2_3 : Cond.instantiable RX6 3 ∈ wsL_law := wc_2 _ (List.mem_of_getElem? (i := 3) rfl)
theorem wm_2_4 : Cond.initialized RX6 ∈ wsL_law := wc_2 _ (List.mem_of_getElem? (i := 4) rfl)
theorem wm_3_6 : Cond.instanceMethod yX6_init ∈ wsL_law := wc_3 _ (List.mem_of_getElem? (i := 6) rfl)
theorem wm_2_7 : Cond.constant RX5 39 (100000) ∈ wsL_law := wc_2 _ (List.mem_of_getElem? (i := 7) rfl)
theorem wm_3_15 : Cond.methodLink RX1 3 objectInit ∈ wsL_law := wc_3 _ (List.mem_of_getElem? (i := 15) rfl)
theorem wm_3_18 : Cond.classLink RX1 18 RX5 ∈ wsL_law := wc_3 _ (List.mem_of_getElem? (i := 18) rfl)
theorem wm_0_23 : Cond.instantiable RX5 13 ∈ wsL_law := wc_0 _ (List.mem_of_getElem? (i := 23) rfl)
theorem wm_1_0 : Cond.initialized RX5 ∈ wsL_law := wc_1 _ (List.mem_of_getElem? (i := 0) rfl)
theorem wm_1_14 : Cond.instanceMethod yX5_init ∈ wsL_law := wc_1 _ (List.mem_of_getElem? (i := 14) rfl)
theorem wm_0_19 : Cond.methodLink RX7 1 objectInit ∈ wsL_law := wc_0 _ (List.mem_of_getElem? (i := 19) rfl)
theorem wm_0_22 : Cond.classLink RX7 7 RX5 ∈ wsL_law := wc_0 _ (List.mem_of_getElem? (i := 22) rfl)
theorem wm_1_2 : Cond.classLink RX7 16 RX1 ∈ wsL_law := wc_1 _ (List.mem_of_getElem? (i := 2) rfl)
theorem wm_1_3 : Cond.instantiable RX1 3 ∈ wsL_law := wc_1 _ (List.mem_of_getElem? (i := 3) rfl)
theorem wm_1_4 : Cond.initialized RX1 ∈ wsL_law := wc_1 _ (List.mem_of_getElem? (i := 4) rfl)
theorem wm_3_12 : Cond.methodLink RX7 18 yX1_init ∈ wsL_law := wc_3 _ (List.mem_of_getElem? (i := 12) rfl)
theorem wm_3_13 : Cond.instanceMethod yX1_init ∈ wsL_law := wc_3 _ (List.mem_of_getElem? (i := 13) rfl)
theorem wm_1_6 : Cond.classLink RX7 23 RX2 ∈ wsL_law := wc_1 _ (List.mem_of_getElem? (i := 6) rfl)
theorem wm_1_7 : Cond.instantiable RX2 7 ∈ wsL_law := wc_1 _ (List.mem_of_getElem? (i := 7) rfl)
theorem wm_1_8 : Cond.initialized RX2 ∈ wsL_law := wc_1 _ (List.mem_of_getElem? (i := 8) rfl)
theorem wm_3_20 : Cond.instanceMethod yX2_init ∈ wsL_law := wc_3 _ (List.mem_of_getElem? (i := 20) rfl)
theorem wm_1_9 : Cond.fieldLink RX7 26 "ClientMoneyBook" "text" "LClientMoneyBook$OrderText;" ∈ wsL_law := wc_1 _ (List.mem_of_getElem? (i := 9) rfl)
theorem wm_1_10 : Cond.classLink RX7 30 RX3 ∈ wsL_law := wc_1 _ (List.mem_of_getElem? (i := 10) rfl)
theorem wm_1_11 : Cond.instantiable RX3 3 ∈ wsL_law := wc_1 _ (List.mem_of_getElem? (i := 11) rfl)
theorem wm_1_12 : Cond.initialized RX3 ∈ wsL_law := wc_1 _ (List.mem_of_getElem? (i := 12) rfl)
theorem wm_4_7 : Cond.instanceMethod yX3_init ∈ wsL_law := wc_4 _ (List.mem_of_getElem? (i := 7) rfl)
theorem wm_0_1 : Cond.instantiable RX7 4 ∈ wsL_law := wc_0 _ (List.mem_of_getElem? (i := 1) rfl)
theorem wm_0_0 : Cond.classLink RL 41 RX7 ∈ wsL_law := wc_0 _ (List.mem_of_getElem? (i := 0) rfl)
theorem wm_0_16 : Cond.methodLink RL 76 yX7_init ∈ wsL_law := wc_0 _ (List.mem_of_getElem? (i := 16) rfl)
theorem wm_0_17 : Cond.instanceMethod yX7_init ∈ wsL_law := wc_0 _ (List.mem_of_getElem? (i := 17) rfl)
theorem wm_2_17 : Cond.code yX0_init cX0_init 1 none ∈ wsL_law := wc_2 _ (List.mem_of_getElem? (i := 17) rfl)
theorem wm_3_14 : Cond.code yX1_init cX1_init 2 none ∈ wsL_law := wc_3 _ (List.mem_of_getElem? (i := 14) rfl)
theorem wm_3_21 : Cond.code yX2_init cX2_init 1 none ∈ wsL_law := wc_3 _ (List.mem_of_getElem? (i := 21) rfl)
theorem wm_4_8 : Cond.code yX3_init cX3_init 1 none ∈ wsL_law := wc_4 _ (List.mem_of_getElem? (i := 8) rfl)
theorem wm_3_1 : Cond.code yX4_init cX4_init 1 none ∈ wsL_law := wc_3 _ (List.mem_of_getElem? (i := 1) rfl)
theorem wm_1_15 : Cond.code yX5_init cX5_init 1 none ∈ wsL_law := wc_1 _ (List.mem_of_getElem? (i := 15) rfl)
theorem wm_3_7 : Cond.code yX6_init cX6_init 1 none ∈ wsL_law := wc_3 _ (List.mem_of_getElem? (i := 7) rfl)
theorem wm_0_18 : Cond.code yX7_init cX7_init 1 none ∈ wsL_law := wc_0 _ (List.mem_of_getElem? (i := 18) rfl)
theorem wm_8_11 : Cond.code yX7_isAmount cX7_isAmount 1 (some .boolean) ∈ wsL_law := wc_8 _ (List.mem_of_getElem? (i := 11) rfl)
theorem wm_14_18 : Cond.code yX7_nextCreditDay cX7_nextCreditDay 1 (some .int) ∈ wsL_law := wc_14 _ (List.mem_of_getElem? (i := 18) rfl)
theorem wm_4_16 : Cond.code yL_cell cL_cell 2 (some .int) ∈ wsL_law := wc_4 _ (List.mem_of_getElem? (i := 16) rfl)
theorem wm_4_14 : Cond.static yL_cell ∈ wsL_law := wc_4 _ (List.mem_of_getElem? (i := 14) rfl)
theorem wm_4_15 : Cond.initialized RL ∈ wsL_law := wc_4 _ (List.mem_of_getElem? (i := 15) rfl)
theorem wm_8_0 : Cond.code yL_clients cL_clients 3 (some .int) ∈ wsL_law := wc_8 _ (List.mem_of_getElem? (i := 0) rfl)
theorem wm_7_23 : Cond.static yL_clients ∈ wsL_law := wc_7 _ (List.mem_of_getElem? (i := 23) rfl)
theorem wm_10_0 : Cond.code yL_enter cL_enter 8 none ∈ wsL_law := wc_10 _ (List.mem_of_getElem? (i := 0) rfl)
theorem wm_9_23 : Cond.static yL_enter ∈ wsL_law := wc_9 _ (List.mem_of_getElem? (i := 23) rfl)
theorem wm_10_9 : Cond.code yL_free cL_free 4 (some .int) ∈ wsL_law := wc_10 _ (List.mem_of_getElem? (i := 9) rfl)
theorem wm_10_8 : Cond.static yL_free ∈ wsL_law := wc_10 _ (List.mem_of_getElem? (i := 8) rfl)
theorem wm_10_12 : Cond.code yL_held cL_held 5 (some .int) ∈ wsL_law := wc_10 _ (List.mem_of_getElem? (i := 12) rfl)
theorem wm_10_11 : Cond.static yL_held ∈ wsL_law := wc_10 _ (List.mem_of_getElem? (i := 11) rfl)
theorem wm_14_0 : Cond.code yL_interest cL_interest 8 (some .long) ∈ wsL_law := wc_14 _ (List.mem_of_getElem? (i := 0) rfl)
theorem wm_13_23 : Cond.static yL_interest ∈ wsL_law := wc_13 _ (List.mem_of_getElem? (i := 23) rfl)
theorem wm_4_21 : Cond.code yL_low cL_low 2 (some .int) ∈ wsL_law := wc_4 _ (List.mem_of_getElem? (i := 21) rfl)
theorem wm_4_20 : Cond.static yL_low ∈ wsL_law := wc_4 _ (List.mem_of_getElem? (i := 20) rfl)
theorem wm_17_0 : Cond.code yL_pass cL_pass 11 (some .long) ∈ wsL_law := wc_17 _ (List.mem_of_getElem? (i := 0) rfl)
theorem wm_16_23 : Cond.static yL_pass ∈ wsL_law := wc_16 _ (List.mem_of_getElem? (i := 23) rfl)
theorem wm_19_16 : Cond.code yL_same cL_same 20 (some .boolean) ∈ wsL_law := wc_19 _ (List.mem_of_getElem? (i := 16) rfl)
theorem wm_19_15 : Cond.static yL_same ∈ wsL_law := wc_19 _ (List.mem_of_getElem? (i := 15) rfl)
theorem wm_20_20 : Cond.code yX3_keyOf cX3_keyOf 3 (some .int) ∈ wsL_law := wc_20 _ (List.mem_of_getElem? (i := 20) rfl)
theorem wm_20_19 : Cond.static yX3_keyOf ∈ wsL_law := wc_20 _ (List.mem_of_getElem? (i := 19) rfl)
theorem wm_9_17 : Cond.code yX6_cellOf cX6_cellOf 2 (some .int) ∈ wsL_law := wc_9 _ (List.mem_of_getElem? (i := 17) rfl)
theorem wm_9_16 : Cond.static yX6_cellOf ∈ wsL_law := wc_9 _ (List.mem_of_getElem? (i := 16) rfl)
theorem wm_21_12 : Cond.code yX7_aboutRow cX7_aboutRow 4 (some .int) ∈ wsL_law := wc_21 _ (List.mem_of_getElem? (i := 12) rfl)
theorem wm_21_11 : Cond.static yX7_aboutRow ∈ wsL_law := wc_21 _ (List.mem_of_getElem? (i := 11) rfl)
theorem wm_8_20 : Cond.code yX0_add cX0_add 3 none ∈ wsL_law := wc_8 _ (List.mem_of_getElem? (i := 20) rfl)
theorem wm_8_18 : Cond.instanceMethod yX0_add ∈ wsL_law := wc_8 _ (List.mem_of_getElem? (i := 18) rfl)
theorem wm_8_19 : Cond.selects RX0 yX0_add yX0_add ∈ wsL_law := wc_8 _ (List.mem_of_getElem? (i := 19) rfl)
theorem wm_16_12 : Cond.code yX0_addCount cX0_addCount 4 none ∈ wsL_law := wc_16 _ (List.mem_of_getElem? (i := 12) rfl)
theorem wm_16_10 : Cond.instanceMethod yX0_addCount ∈ wsL_law := wc_16 _ (List.mem_of_getElem? (i := 10) rfl)
theorem wm_16_11 : Cond.selects RX0 yX0_addCount yX0_addCount ∈ wsL_law := wc_16 _ (List.mem_of_getElem? (i := 11) rfl)
theorem wm_8_16 : Cond.code yX0_balanceAt cX0_balanceAt 2 (some .int) ∈ wsL_law := wc_8 _ (List.mem_of_getElem? (i := 16) rfl)
theorem wm_8_14 : Cond.instanceMethod yX0_balanceAt ∈ wsL_law := wc_8 _ (List.mem_of_getElem? (i := 14) rfl)
theorem wm_8_15 : Cond.selects RX0 yX0_balanceAt yX0_balanceAt ∈ wsL_law := wc_8 _ (List.mem_of_getElem? (i := 15) rfl)
theorem wm_5_18 : Cond.code yX0_copyFrom cX0_copyFrom 2 none ∈ wsL_law := wc_5 _ (List.mem_of_getElem? (i := 18) rfl)
theorem wm_5_16 : Cond.instanceMethod yX0_copyFrom ∈ wsL_law := wc_5 _ (List.mem_of_getElem? (i := 16) rfl)
theorem wm_5_17 : Cond.selects RX0 yX0_copyFrom yX0_copyFrom ∈ wsL_law := wc_5 _ (List.mem_of_getElem? (i := 17) rfl)
theorem wm_7_9 : Cond.code yX0_copyRow cX0_copyRow 3 none ∈ wsL_law := wc_7 _ (List.mem_of_getElem? (i := 9) rfl)
theorem wm_7_7 : Cond.instanceMethod yX0_copyRow ∈ wsL_law := wc_7 _ (List.mem_of_getElem? (i := 7) rfl)
theorem wm_7_8 : Cond.selects RX0 yX0_copyRow yX0_copyRow ∈ wsL_law := wc_7 _ (List.mem_of_getElem? (i := 8) rfl)
theorem wm_14_16 : Cond.code yX0_countAt cX0_countAt 2 (some .long) ∈ wsL_law := wc_14 _ (List.mem_of_getElem? (i := 16) rfl)
theorem wm_14_14 : Cond.instanceMethod yX0_countAt ∈ wsL_law := wc_14 _ (List.mem_of_getElem? (i := 14) rfl)
theorem wm_14_15 : Cond.selects RX0 yX0_countAt yX0_countAt ∈ wsL_law := wc_14 _ (List.mem_of_getElem? (i := 15) rfl)
theorem wm_6_17 : Cond.code yX0_find cX0_find 3 (some .int) ∈ wsL_law := wc_6 _ (List.mem_of_getElem? (i := 17) rfl)
theorem wm_6_15 : Cond.instanceMethod yX0_find ∈ wsL_law := wc_6 _ (List.mem_of_getElem? (i := 15) rfl)
theorem wm_6_16 : Cond.selects RX0 yX0_find yX0_find ∈ wsL_law := wc_6 _ (List.mem_of_getElem? (i := 16) rfl)
theorem wm_6_21 : Cond.code yX0_insert cX0_insert 4 none ∈ wsL_law := wc_6 _ (List.mem_of_getElem? (i := 21) rfl)
theorem wm_6_19 : Cond.instanceMethod yX0_insert ∈ wsL_law := wc_6 _ (List.mem_of_getElem? (i := 19) rfl)
theorem wm_6_20 : Cond.selects RX0 yX0_insert yX0_insert ∈ wsL_law := wc_6 _ (List.mem_of_getElem? (i := 20) rfl)
theorem wm_7_5 : Cond.code yX0_isPlace cX0_isPlace 2 (some .boolean) ∈ wsL_law := wc_7 _ (List.mem_of_getElem? (i := 5) rfl)
theorem wm_7_3 : Cond.instanceMethod yX0_isPlace ∈ wsL_law := wc_7 _ (List.mem_of_getElem? (i := 3) rfl)
theorem wm_7_4 : Cond.selects RX0 yX0_isPlace yX0_isPlace ∈ wsL_law := wc_7 _ (List.mem_of_getElem? (i := 4) rfl)
theorem wm_9_21 : Cond.code yX0_move cX0_move 3 none ∈ wsL_law := wc_9 _ (List.mem_of_getElem? (i := 21) rfl)
theorem wm_9_19 : Cond.instanceMethod yX0_move ∈ wsL_law := wc_9 _ (List.mem_of_getElem? (i := 19) rfl)
theorem wm_9_20 : Cond.selects RX0 yX0_move yX0_move ∈ wsL_law := wc_9 _ (List.mem_of_getElem? (i := 20) rfl)
theorem wm_20_5 : Cond.code yX0_movedAt cX0_movedAt 2 (some .int) ∈ wsL_law := wc_20 _ (List.mem_of_getElem? (i := 5) rfl)
theorem wm_20_3 : Cond.instanceMethod yX0_movedAt ∈ wsL_law := wc_20 _ (List.mem_of_getElem? (i := 3) rfl)
theorem wm_20_4 : Cond.selects RX0 yX0_movedAt yX0_movedAt ∈ wsL_law := wc_20 _ (List.mem_of_getElem? (i := 4) rfl)
theorem wm_7_1 : Cond.code yX0_numberAt cX0_numberAt 2 (some .int) ∈ wsL_law := wc_7 _ (List.mem_of_getElem? (i := 1) rfl)
theorem wm_6_23 : Cond.instanceMethod yX0_numberAt ∈ wsL_law := wc_6 _ (List.mem_of_getElem? (i := 23) rfl)
theorem wm_7_0 : Cond.selects RX0 yX0_numberAt yX0_numberAt ∈ wsL_law := wc_7 _ (List.mem_of_getElem? (i := 0) rfl)
theorem wm_19_13 : Cond.code yX0_remove cX0_remove 3 none ∈ wsL_law := wc_19 _ (List.mem_of_getElem? (i := 13) rfl)
theorem wm_19_11 : Cond.instanceMethod yX0_remove ∈ wsL_law := wc_19 _ (List.mem_of_getElem? (i := 11) rfl)
theorem wm_19_12 : Cond.selects RX0 yX0_remove yX0_remove ∈ wsL_law := wc_19 _ (List.mem_of_getElem? (i := 12) rfl)
theorem wm_22_22 : Cond.code yX0_sumOfBalances cX0_sumOfBalances 4 (some .long) ∈ wsL_law := wc_22 _ (List.mem_of_getElem? (i := 22) rfl)
theorem wm_22_20 : Cond.instanceMethod yX0_sumOfBalances ∈ wsL_law := wc_22 _ (List.mem_of_getElem? (i := 20) rfl)
theorem wm_22_21 : Cond.selects RX0 yX0_sumOfBalances yX0_sumOfBalances ∈ wsL_law := wc_22 _ (List.mem_of_getElem? (i := 21) rfl)
theorem wm_7_17 : Cond.code yX1_keep cX1_keep 1 none ∈ wsL_law := wc_7 _ (List.mem_of_getElem? (i := 17) rfl)
theorem wm_7_15 : Cond.instanceMethod yX1_keep ∈ wsL_law := wc_7 _ (List.mem_of_getElem? (i := 15) rfl)
theorem wm_7_16 : Cond.selects RX1 yX1_keep yX1_keep ∈ wsL_law := wc_7 _ (List.mem_of_getElem? (i := 16) rfl)
theorem wm_5_6 : Cond.code yX1_prepare cX1_prepare 3 none ∈ wsL_law := wc_5 _ (List.mem_of_getElem? (i := 6) rfl)
theorem wm_5_4 : Cond.instanceMethod yX1_prepare ∈ wsL_law := wc_5 _ (List.mem_of_getElem? (i := 4) rfl)
theorem wm_5_5 : Cond.selects RX1 yX1_prepare yX1_prepare ∈ wsL_law := wc_5 _ (List.mem_of_getElem? (i := 5) rfl)
theorem wm_5_10 : Cond.code yX1_slotAt cX1_slotAt 2 (some (.object "ClientMoneyBook$State")) ∈ wsL_law := wc_5 _ (List.mem_of_getElem? (i := 10) rfl)
theorem wm_5_8 : Cond.instanceMethod yX1_slotAt ∈ wsL_law := wc_5 _ (List.mem_of_getElem? (i := 8) rfl)
theorem wm_5_9 : Cond.selects RX1 yX1_slotAt yX1_slotAt ∈ wsL_law := wc_5 _ (List.mem_of_getElem? (i := 9) rfl)
theorem wm_21_4 : Cond.code yX3_clientAt cX3_clientAt 2 (some .int) ∈ wsL_law := wc_21 _ (List.mem_of_getElem? (i := 4) rfl)
theorem wm_21_2 : Cond.instanceMethod yX3_clientAt ∈ wsL_law := wc_21 _ (List.mem_of_getElem? (i := 2) rfl)
theorem wm_21_3 : Cond.selects RX3 yX3_clientAt yX3_clientAt ∈ wsL_law := wc_21 _ (List.mem_of_getElem? (i := 3) rfl)
theorem wm_20_14 : Cond.code yX3_sort cX3_sort 6 none ∈ wsL_law := wc_20 _ (List.mem_of_getElem? (i := 14) rfl)
theorem wm_20_12 : Cond.instanceMethod yX3_sort ∈ wsL_law := wc_20 _ (List.mem_of_getElem? (i := 12) rfl)
theorem wm_20_13 : Cond.selects RX3 yX3_sort yX3_sort ∈ wsL_law := wc_20 _ (List.mem_of_getElem? (i := 13) rfl)
theorem wm_12_6 : Cond.code yX4_append cX4_append 5 (some .int) ∈ wsL_law := wc_12 _ (List.mem_of_getElem? (i := 6) rfl)
theorem wm_12_4 : Cond.instanceMethod yX4_append ∈ wsL_law := wc_12 _ (List.mem_of_getElem? (i := 4) rfl)
theorem wm_12_5 : Cond.selects RX4 yX4_append yX4_append ∈ wsL_law := wc_12 _ (List.mem_of_getElem? (i := 5) rfl)
theorem wm_6_2 : Cond.code yX4_copyFrom cX4_copyFrom 2 none ∈ wsL_law := wc_6 _ (List.mem_of_getElem? (i := 2) rfl)
theorem wm_6_0 : Cond.instanceMethod yX4_copyFrom ∈ wsL_law := wc_6 _ (List.mem_of_getElem? (i := 0) rfl)
theorem wm_6_1 : Cond.selects RX4 yX4_copyFrom yX4_copyFrom ∈ wsL_law := wc_6 _ (List.mem_of_getElem? (i := 1) rfl)
theorem wm_19_9 : Cond.code yX4_countOf cX4_countOf 4 (some .int) ∈ wsL_law := wc_19 _ (List.mem_of_getElem? (i := 9) rfl)
theorem wm_19_7 : Cond.instanceMethod yX4_countOf ∈ wsL_law := wc_19 _ (List.mem_of_getElem? (i := 7) rfl)
theorem wm_19_8 : Cond.selects RX4 yX4_countOf yX4_countOf ∈ wsL_law := wc_19 _ (List.mem_of_getElem? (i := 8) rfl)
theorem wm_12_22 : Cond.code yX4_find cX4_find 3 (some .int) ∈ wsL_law := wc_12 _ (List.mem_of_getElem? (i := 22) rfl)
theorem wm_12_20 : Cond.instanceMethod yX4_find ∈ wsL_law := wc_12 _ (List.mem_of_getElem? (i := 20) rfl)
theorem wm_12_21 : Cond.selects RX4 yX4_find yX4_find ∈ wsL_law := wc_12 _ (List.mem_of_getElem? (i := 21) rfl)
theorem wm_11_9 : Cond.code yX4_get cX4_get 3 (some .int) ∈ wsL_law := wc_11 _ (List.mem_of_getElem? (i := 9) rfl)
theorem wm_11_7 : Cond.instanceMethod yX4_get ∈ wsL_law := wc_11 _ (List.mem_of_getElem? (i := 7) rfl)
theorem wm_11_8 : Cond.selects RX4 yX4_get yX4_get ∈ wsL_law := wc_11 _ (List.mem_of_getElem? (i := 8) rfl)
theorem wm_13_3 : Cond.code yX4_remove cX4_remove 4 none ∈ wsL_law := wc_13 _ (List.mem_of_getElem? (i := 3) rfl)
theorem wm_13_1 : Cond.instanceMethod yX4_remove ∈ wsL_law := wc_13 _ (List.mem_of_getElem? (i := 1) rfl)
theorem wm_13_2 : Cond.selects RX4 yX4_remove yX4_remove ∈ wsL_law := wc_13 _ (List.mem_of_getElem? (i := 2) rfl)
theorem wm_12_10 : Cond.code yX4_set cX4_set 4 none ∈ wsL_law := wc_12 _ (List.mem_of_getElem? (i := 10) rfl)
theorem wm_12_8 : Cond.instanceMethod yX4_set ∈ wsL_law := wc_12 _ (List.mem_of_getElem? (i := 8) rfl)
theorem wm_12_9 : Cond.selects RX4 yX4_set yX4_set ∈ wsL_law := wc_12 _ (List.mem_of_getElem? (i := 9) rfl)
theorem wm_11_5 : Cond.code yX4_sumOf cX4_sumOf 5 (some .int) ∈ wsL_law := wc_11 _ (List.mem_of_getElem? (i := 5) rfl)
theorem wm_11_3 : Cond.instanceMethod yX4_sumOf ∈ wsL_law := wc_11 _ (List.mem_of_getElem? (i := 3) rfl)
theorem wm_11_4 : Cond.selects RX4 yX4_sumOf yX4_sumOf ∈ wsL_law := wc_11 _ (List.mem_of_getElem? (i := 4) rfl)
theorem wm_23_3 : Cond.code yX4_sumOfAll cX4_sumOfAll 5 (some .long) ∈ wsL_law := wc_23 _ (List.mem_of_getElem? (i := 3) rfl)
theorem wm_23_1 : Cond.instanceMethod yX4_sumOfAll ∈ wsL_law := wc_23 _ (List.mem_of_getElem? (i := 1) rfl)
theorem wm_23_2 : Cond.selects RX4 yX4_sumOfAll yX4_sumOfAll ∈ wsL_law := wc_23 _ (List.mem_of_getElem? (i := 2) rfl)
theorem wm_20_0 : Cond.code yX5_aboutClient cX5_aboutClient 4 (some .int) ∈ wsL_law := wc_20 _ (List.mem_of_getElem? (i := 0) rfl)
theorem wm_19_22 : Cond.instanceMethod yX5_aboutClient ∈ wsL_law := wc_19 _ (List.mem_of_getElem? (i := 22) rfl)
theorem wm_19_23 : Cond.selects RX5 yX5_aboutClient yX5_aboutClient ∈ wsL_law := wc_19 _ (List.mem_of_getElem? (i := 23) rfl)
theorem wm_17_8 : Cond.code yX5_changeRates cX5_changeRates 5 (some .int) ∈ wsL_law := wc_17 _ (List.mem_of_getElem? (i := 8) rfl)
theorem wm_17_6 : Cond.instanceMethod yX5_changeRates ∈ wsL_law := wc_17 _ (List.mem_of_getElem? (i := 6) rfl)
theorem wm_17_7 : Cond.selects RX5 yX5_changeRates yX5_changeRates ∈ wsL_law := wc_17 _ (List.mem_of_getElem? (i := 7) rfl)
theorem wm_17_16 : Cond.code yX5_changeThreshold cX5_changeThreshold 3 (some .int) ∈ wsL_law := wc_17 _ (List.mem_of_getElem? (i := 16) rfl)
theorem wm_17_14 : Cond.instanceMethod yX5_changeThreshold ∈ wsL_law := wc_17 _ (List.mem_of_getElem? (i := 14) rfl)
theorem wm_17_15 : Cond.selects RX5 yX5_changeThreshold yX5_changeThreshold ∈ wsL_law := wc_17 _ (List.mem_of_getElem? (i := 15) rfl)
theorem wm_19_5 : Cond.code yX5_closeAccount cX5_closeAccount 3 (some .int) ∈ wsL_law := wc_19 _ (List.mem_of_getElem? (i := 5) rfl)
theorem wm_19_3 : Cond.instanceMethod yX5_closeAccount ∈ wsL_law := wc_19 _ (List.mem_of_getElem? (i := 3) rfl)
theorem wm_19_4 : Cond.selects RX5 yX5_closeAccount yX5_closeAccount ∈ wsL_law := wc_19 _ (List.mem_of_getElem? (i := 4) rfl)
theorem wm_5_14 : Cond.code yX5_copyFrom cX5_copyFrom 2 none ∈ wsL_law := wc_5 _ (List.mem_of_getElem? (i := 14) rfl)
theorem wm_5_12 : Cond.instanceMethod yX5_copyFrom ∈ wsL_law := wc_5 _ (List.mem_of_getElem? (i := 12) rfl)
theorem wm_5_13 : Cond.selects RX5 yX5_copyFrom yX5_copyFrom ∈ wsL_law := wc_5 _ (List.mem_of_getElem? (i := 13) rfl)
theorem wm_16_16 : Cond.code yX5_creditAll cX5_creditAll 3 none ∈ wsL_law := wc_16 _ (List.mem_of_getElem? (i := 16) rfl)
theorem wm_16_14 : Cond.instanceMethod yX5_creditAll ∈ wsL_law := wc_16 _ (List.mem_of_getElem? (i := 14) rfl)
theorem wm_16_15 : Cond.selects RX5 yX5_creditAll yX5_creditAll ∈ wsL_law := wc_16 _ (List.mem_of_getElem? (i := 15) rfl)
theorem wm_12_18 : Cond.code yX5_endHold cX5_endHold 4 (some .int) ∈ wsL_law := wc_12 _ (List.mem_of_getElem? (i := 18) rfl)
theorem wm_12_16 : Cond.instanceMethod yX5_endHold ∈ wsL_law := wc_12 _ (List.mem_of_getElem? (i := 16) rfl)
theorem wm_12_17 : Cond.selects RX5 yX5_endHold yX5_endHold ∈ wsL_law := wc_12 _ (List.mem_of_getElem? (i := 17) rfl)
theorem wm_16_21 : Cond.code yX5_endHoldsThatAreOver cX5_endHoldsThatAreOver 2 none ∈ wsL_law := wc_16 _ (List.mem_of_getElem? (i := 21) rfl)
theorem wm_16_19 : Cond.instanceMethod yX5_endHoldsThatAreOver ∈ wsL_law := wc_16 _ (List.mem_of_getElem? (i := 19) rfl)
theorem wm_16_20 : Cond.selects RX5 yX5_endHoldsThatAreOver yX5_endHoldsThatAreOver ∈ wsL_law := wc_16 _ (List.mem_of_getElem? (i := 20) rfl)
theorem wm_9_0 : Cond.code yX5_enter cX5_enter 5 none ∈ wsL_law := wc_9 _ (List.mem_of_getElem? (i := 0) rfl)
theorem wm_8_22 : Cond.instanceMethod yX5_enter ∈ wsL_law := wc_8 _ (List.mem_of_getElem? (i := 22) rfl)
theorem wm_8_23 : Cond.selects RX5 yX5_enter yX5_enter ∈ wsL_law := wc_8 _ (List.mem_of_getElem? (i := 23) rfl)
theorem wm_15_14 : Cond.code yX5_firstDayWithFree cX5_firstDayWithFree 10 (some .int) ∈ wsL_law := wc_15 _ (List.mem_of_getElem? (i := 14) rfl)
theorem wm_15_12 : Cond.instanceMethod yX5_firstDayWithFree ∈ wsL_law := wc_15 _ (List.mem_of_getElem? (i := 12) rfl)
theorem wm_15_13 : Cond.selects RX5 yX5_firstDayWithFree yX5_firstDayWithFree ∈ wsL_law := wc_15 _ (List.mem_of_getElem? (i := 13) rfl)
theorem wm_11_0 : Cond.code yX5_freeAt cX5_freeAt 2 (some .int) ∈ wsL_law := wc_11 _ (List.mem_of_getElem? (i := 0) rfl)
theorem wm_10_22 : Cond.instanceMethod yX5_freeAt ∈ wsL_law := wc_10 _ (List.mem_of_getElem? (i := 22) rfl)
theorem wm_10_23 : Cond.selects RX5 yX5_freeAt yX5_freeAt ∈ wsL_law := wc_10 _ (List.mem_of_getElem? (i := 23) rfl)
theorem wm_16_8 : Cond.code yX5_growUntil cX5_growUntil 3 none ∈ wsL_law := wc_16 _ (List.mem_of_getElem? (i := 8) rfl)
theorem wm_16_6 : Cond.instanceMethod yX5_growUntil ∈ wsL_law := wc_16 _ (List.mem_of_getElem? (i := 6) rfl)
theorem wm_16_7 : Cond.selects RX5 yX5_growUntil yX5_growUntil ∈ wsL_law := wc_16 _ (List.mem_of_getElem? (i := 7) rfl)
theorem wm_14_22 : Cond.code yX5_growthPerDay cX5_growthPerDay 4 (some .long) ∈ wsL_law := wc_14 _ (List.mem_of_getElem? (i := 22) rfl)
theorem wm_14_20 : Cond.instanceMethod yX5_growthPerDay ∈ wsL_law := wc_14 _ (List.mem_of_getElem? (i := 20) rfl)
theorem wm_14_21 : Cond.selects RX5 yX5_growthPerDay yX5_growthPerDay ∈ wsL_law := wc_14 _ (List.mem_of_getElem? (i := 21) rfl)
theorem wm_15_18 : Cond.code yX5_heldOn cX5_heldOn 5 (some .int) ∈ wsL_law := wc_15 _ (List.mem_of_getElem? (i := 18) rfl)
theorem wm_15_16 : Cond.instanceMethod yX5_heldOn ∈ wsL_law := wc_15 _ (List.mem_of_getElem? (i := 16) rfl)
theorem wm_15_17 : Cond.selects RX5 yX5_heldOn yX5_heldOn ∈ wsL_law := wc_15 _ (List.mem_of_getElem? (i := 17) rfl)
theorem wm_14_11 : Cond.code yX5_interestAhead cX5_interestAhead 10 (some .int) ∈ wsL_law := wc_14 _ (List.mem_of_getElem? (i := 11) rfl)
theorem wm_14_9 : Cond.instanceMethod yX5_interestAhead ∈ wsL_law := wc_14 _ (List.mem_of_getElem? (i := 9) rfl)
theorem wm_14_10 : Cond.selects RX5 yX5_interestAhead yX5_interestAhead ∈ wsL_law := wc_14 _ (List.mem_of_getElem? (i := 10) rfl)
theorem wm_15_2 : Cond.code yX5_interestToCredit cX5_interestToCredit 6 (some .int) ∈ wsL_law := wc_15 _ (List.mem_of_getElem? (i := 2) rfl)
theorem wm_15_0 : Cond.instanceMethod yX5_interestToCredit ∈ wsL_law := wc_15 _ (List.mem_of_getElem? (i := 0) rfl)
theorem wm_15_1 : Cond.selects RX5 yX5_interestToCredit yX5_interestToCredit ∈ wsL_law := wc_15 _ (List.mem_of_getElem? (i := 1) rfl)
theorem wm_16_2 : Cond.code yX5_letPass cX5_letPass 6 (some .long) ∈ wsL_law := wc_16 _ (List.mem_of_getElem? (i := 2) rfl)
theorem wm_16_0 : Cond.instanceMethod yX5_letPass ∈ wsL_law := wc_16 _ (List.mem_of_getElem? (i := 0) rfl)
theorem wm_16_1 : Cond.selects RX5 yX5_letPass yX5_letPass ∈ wsL_law := wc_16 _ (List.mem_of_getElem? (i := 1) rfl)
theorem wm_12_1 : Cond.code yX5_makeHold cX5_makeHold 5 (some .int) ∈ wsL_law := wc_12 _ (List.mem_of_getElem? (i := 1) rfl)
theorem wm_11_23 : Cond.instanceMethod yX5_makeHold ∈ wsL_law := wc_11 _ (List.mem_of_getElem? (i := 23) rfl)
theorem wm_12_0 : Cond.selects RX5 yX5_makeHold yX5_makeHold ∈ wsL_law := wc_12 _ (List.mem_of_getElem? (i := 0) rfl)
theorem wm_10_20 : Cond.code yX5_makePayment cX5_makePayment 4 (some .int) ∈ wsL_law := wc_10 _ (List.mem_of_getElem? (i := 20) rfl)
theorem wm_10_18 : Cond.instanceMethod yX5_makePayment ∈ wsL_law := wc_10 _ (List.mem_of_getElem? (i := 18) rfl)
theorem wm_10_19 : Cond.selects RX5 yX5_makePayment yX5_makePayment ∈ wsL_law := wc_10 _ (List.mem_of_getElem? (i := 19) rfl)
theorem wm_11_17 : Cond.code yX5_makeTransfer cX5_makeTransfer 6 (some .int) ∈ wsL_law := wc_11 _ (List.mem_of_getElem? (i := 17) rfl)
theorem wm_11_15 : Cond.instanceMethod yX5_makeTransfer ∈ wsL_law := wc_11 _ (List.mem_of_getElem? (i := 15) rfl)
theorem wm_11_16 : Cond.selects RX5 yX5_makeTransfer yX5_makeTransfer ∈ wsL_law := wc_11 _ (List.mem_of_getElem? (i := 16) rfl)
theorem wm_6_12 : Cond.code yX5_openAccount cX5_openAccount 2 (some .int) ∈ wsL_law := wc_6 _ (List.mem_of_getElem? (i := 12) rfl)
theorem wm_6_10 : Cond.instanceMethod yX5_openAccount ∈ wsL_law := wc_6 _ (List.mem_of_getElem? (i := 10) rfl)
theorem wm_6_11 : Cond.selects RX5 yX5_openAccount yX5_openAccount ∈ wsL_law := wc_6 _ (List.mem_of_getElem? (i := 11) rfl)
theorem wm_18_0 : Cond.code yX5_reverseEntry cX5_reverseEntry 10 (some .int) ∈ wsL_law := wc_18 _ (List.mem_of_getElem? (i := 0) rfl)
theorem wm_17_22 : Cond.instanceMethod yX5_reverseEntry ∈ wsL_law := wc_17 _ (List.mem_of_getElem? (i := 22) rfl)
theorem wm_17_23 : Cond.selects RX5 yX5_reverseEntry yX5_reverseEntry ∈ wsL_law := wc_17 _ (List.mem_of_getElem? (i := 23) rfl)
theorem wm_13_19 : Cond.code yX5_settleBill cX5_settleBill 7 (some .int) ∈ wsL_law := wc_13 _ (List.mem_of_getElem? (i := 19) rfl)
theorem wm_13_17 : Cond.instanceMethod yX5_settleBill ∈ wsL_law := wc_13 _ (List.mem_of_getElem? (i := 17) rfl)
theorem wm_13_18 : Cond.selects RX5 yX5_settleBill yX5_settleBill ∈ wsL_law := wc_13 _ (List.mem_of_getElem? (i := 18) rfl)
theorem wm_8_8 : Cond.code yX5_takeReceipt cX5_takeReceipt 4 (some .int) ∈ wsL_law := wc_8 _ (List.mem_of_getElem? (i := 8) rfl)
theorem wm_8_6 : Cond.instanceMethod yX5_takeReceipt ∈ wsL_law := wc_8 _ (List.mem_of_getElem? (i := 6) rfl)
theorem wm_8_7 : Cond.selects RX5 yX5_takeReceipt yX5_takeReceipt ∈ wsL_law := wc_8 _ (List.mem_of_getElem? (i := 7) rfl)
theorem wm_13_11 : Cond.code yX5_writeBill cX5_writeBill 3 (some .int) ∈ wsL_law := wc_13 _ (List.mem_of_getElem? (i := 11) rfl)
theorem wm_13_9 : Cond.instanceMethod yX5_writeBill ∈ wsL_law := wc_13 _ (List.mem_of_getElem? (i := 9) rfl)
theorem wm_13_10 : Cond.selects RX5 yX5_writeBill yX5_writeBill ∈ wsL_law := wc_13 _ (List.mem_of_getElem? (i := 10) rfl)
theorem wm_9_4 : Cond.code yX6_append cX6_append 8 none ∈ wsL_law := wc_9 _ (List.mem_of_getElem? (i := 4) rfl)
theorem wm_9_2 : Cond.instanceMethod yX6_append ∈ wsL_law := wc_9 _ (List.mem_of_getElem? (i := 2) rfl)
theorem wm_9_3 : Cond.selects RX6 yX6_append yX6_append ∈ wsL_law := wc_9 _ (List.mem_of_getElem? (i := 3) rfl)
theorem wm_6_7 : Cond.code yX6_copyFrom cX6_copyFrom 2 none ∈ wsL_law := wc_6 _ (List.mem_of_getElem? (i := 7) rfl)
theorem wm_6_5 : Cond.instanceMethod yX6_copyFrom ∈ wsL_law := wc_6 _ (List.mem_of_getElem? (i := 5) rfl)
theorem wm_6_6 : Cond.selects RX6 yX6_copyFrom yX6_copyFrom ∈ wsL_law := wc_6 _ (List.mem_of_getElem? (i := 6) rfl)
theorem wm_18_9 : Cond.code yX6_get cX6_get 4 (some .int) ∈ wsL_law := wc_18 _ (List.mem_of_getElem? (i := 9) rfl)
theorem wm_18_7 : Cond.instanceMethod yX6_get ∈ wsL_law := wc_18 _ (List.mem_of_getElem? (i := 7) rfl)
theorem wm_18_8 : Cond.selects RX6 yX6_get yX6_get ∈ wsL_law := wc_18 _ (List.mem_of_getElem? (i := 8) rfl)
theorem wm_18_5 : Cond.code yX6_keeps cX6_keeps 2 (some .boolean) ∈ wsL_law := wc_18 _ (List.mem_of_getElem? (i := 5) rfl)
theorem wm_18_3 : Cond.instanceMethod yX6_keeps ∈ wsL_law := wc_18 _ (List.mem_of_getElem? (i := 3) rfl)
theorem wm_18_4 : Cond.selects RX6 yX6_keeps yX6_keeps ∈ wsL_law := wc_18 _ (List.mem_of_getElem? (i := 4) rfl)
theorem wm_18_14 : Cond.code yX6_markReversed cX6_markReversed 2 none ∈ wsL_law := wc_18 _ (List.mem_of_getElem? (i := 14) rfl)
theorem wm_18_12 : Cond.instanceMethod yX6_markReversed ∈ wsL_law := wc_18 _ (List.mem_of_getElem? (i := 12) rfl)
theorem wm_18_13 : Cond.selects RX6 yX6_markReversed yX6_markReversed ∈ wsL_law := wc_18 _ (List.mem_of_getElem? (i := 13) rfl)
theorem wm_9_14 : Cond.code yX6_set cX6_set 5 none ∈ wsL_law := wc_9 _ (List.mem_of_getElem? (i := 14) rfl)
theorem wm_9_12 : Cond.instanceMethod yX6_set ∈ wsL_law := wc_9 _ (List.mem_of_getElem? (i := 12) rfl)
theorem wm_9_13 : Cond.selects RX6 yX6_set yX6_set ∈ wsL_law := wc_9 _ (List.mem_of_getElem? (i := 13) rfl)
theorem wm_13_7 : Cond.code yX7_bill cX7_bill 3 (some .int) ∈ wsL_law := wc_13 _ (List.mem_of_getElem? (i := 7) rfl)
theorem wm_13_5 : Cond.instanceMethod yX7_bill ∈ wsL_law := wc_13 _ (List.mem_of_getElem? (i := 5) rfl)
theorem wm_13_6 : Cond.selects RX7 yX7_bill yX7_bill ∈ wsL_law := wc_13 _ (List.mem_of_getElem? (i := 6) rfl)
theorem wm_21_18 : Cond.code yX7_billOf cX7_billOf 3 (some .int) ∈ wsL_law := wc_21 _ (List.mem_of_getElem? (i := 18) rfl)
theorem wm_21_16 : Cond.instanceMethod yX7_billOf ∈ wsL_law := wc_21 _ (List.mem_of_getElem? (i := 16) rfl)
theorem wm_21_17 : Cond.selects RX7 yX7_billOf yX7_billOf ∈ wsL_law := wc_21 _ (List.mem_of_getElem? (i := 17) rfl)
theorem wm_22_4 : Cond.code yX7_clients cX7_clients 1 (some .int) ∈ wsL_law := wc_22 _ (List.mem_of_getElem? (i := 4) rfl)
theorem wm_22_2 : Cond.instanceMethod yX7_clients ∈ wsL_law := wc_22 _ (List.mem_of_getElem? (i := 2) rfl)
theorem wm_22_3 : Cond.selects RX7 yX7_clients yX7_clients ∈ wsL_law := wc_22 _ (List.mem_of_getElem? (i := 3) rfl)
theorem wm_19_1 : Cond.code yX7_close cX7_close 2 (some .int) ∈ wsL_law := wc_19 _ (List.mem_of_getElem? (i := 1) rfl)
theorem wm_18_23 : Cond.instanceMethod yX7_close ∈ wsL_law := wc_18 _ (List.mem_of_getElem? (i := 23) rfl)
theorem wm_19_0 : Cond.selects RX7 yX7_close yX7_close ∈ wsL_law := wc_19 _ (List.mem_of_getElem? (i := 0) rfl)
theorem wm_21_23 : Cond.code yX7_day cX7_day 1 (some .int) ∈ wsL_law := wc_21 _ (List.mem_of_getElem? (i := 23) rfl)
theorem wm_21_21 : Cond.instanceMethod yX7_day ∈ wsL_law := wc_21 _ (List.mem_of_getElem? (i := 21) rfl)
theorem wm_21_22 : Cond.selects RX7 yX7_day yX7_day ∈ wsL_law := wc_21 _ (List.mem_of_getElem? (i := 22) rfl)
theorem wm_22_8 : Cond.code yX7_entries cX7_entries 1 (some .int) ∈ wsL_law := wc_22 _ (List.mem_of_getElem? (i := 8) rfl)
theorem wm_22_6 : Cond.instanceMethod yX7_entries ∈ wsL_law := wc_22 _ (List.mem_of_getElem? (i := 6) rfl)
theorem wm_22_7 : Cond.selects RX7 yX7_entries yX7_entries ∈ wsL_law := wc_22 _ (List.mem_of_getElem? (i := 7) rfl)
theorem wm_18_18 : Cond.code yX7_entry cX7_entry 3 (some .int) ∈ wsL_law := wc_18 _ (List.mem_of_getElem? (i := 18) rfl)
theorem wm_18_16 : Cond.instanceMethod yX7_entry ∈ wsL_law := wc_18 _ (List.mem_of_getElem? (i := 16) rfl)
theorem wm_18_17 : Cond.selects RX7 yX7_entry yX7_entry ∈ wsL_law := wc_18 _ (List.mem_of_getElem? (i := 17) rfl)
theorem wm_11_21 : Cond.code yX7_hold cX7_hold 4 (some .int) ∈ wsL_law := wc_11 _ (List.mem_of_getElem? (i := 21) rfl)
theorem wm_11_19 : Cond.instanceMethod yX7_hold ∈ wsL_law := wc_11 _ (List.mem_of_getElem? (i := 19) rfl)
theorem wm_11_20 : Cond.selects RX7 yX7_hold yX7_hold ∈ wsL_law := wc_11 _ (List.mem_of_getElem? (i := 20) rfl)
theorem wm_21_8 : Cond.code yX7_holdOf cX7_holdOf 3 (some .int) ∈ wsL_law := wc_21 _ (List.mem_of_getElem? (i := 8) rfl)
theorem wm_21_6 : Cond.instanceMethod yX7_holdOf ∈ wsL_law := wc_21 _ (List.mem_of_getElem? (i := 6) rfl)
theorem wm_21_7 : Cond.selects RX7 yX7_holdOf yX7_holdOf ∈ wsL_law := wc_21 _ (List.mem_of_getElem? (i := 7) rfl)
theorem wm_14_5 : Cond.code yX7_interestIn cX7_interestIn 4 (some .int) ∈ wsL_law := wc_14 _ (List.mem_of_getElem? (i := 5) rfl)
theorem wm_14_3 : Cond.instanceMethod yX7_interestIn ∈ wsL_law := wc_14 _ (List.mem_of_getElem? (i := 3) rfl)
theorem wm_14_4 : Cond.selects RX7 yX7_interestIn yX7_interestIn ∈ wsL_law := wc_14 _ (List.mem_of_getElem? (i := 4) rfl)
theorem wm_7_13 : Cond.code yX7_keptUnlessError cX7_keptUnlessError 2 (some .int) ∈ wsL_law := wc_7 _ (List.mem_of_getElem? (i := 13) rfl)
theorem wm_7_11 : Cond.instanceMethod yX7_keptUnlessError ∈ wsL_law := wc_7 _ (List.mem_of_getElem? (i := 11) rfl)
theorem wm_7_12 : Cond.selects RX7 yX7_keptUnlessError yX7_keptUnlessError ∈ wsL_law := wc_7 _ (List.mem_of_getElem? (i := 12) rfl)
theorem wm_19_20 : Cond.code yX7_of cX7_of 4 (some .int) ∈ wsL_law := wc_19 _ (List.mem_of_getElem? (i := 20) rfl)
theorem wm_19_18 : Cond.instanceMethod yX7_of ∈ wsL_law := wc_19 _ (List.mem_of_getElem? (i := 18) rfl)
theorem wm_19_19 : Cond.selects RX7 yX7_of yX7_of ∈ wsL_law := wc_19 _ (List.mem_of_getElem? (i := 19) rfl)
theorem wm_5_2 : Cond.code yX7_open cX7_open 2 (some .int) ∈ wsL_law := wc_5 _ (List.mem_of_getElem? (i := 2) rfl)
theorem wm_5_0 : Cond.instanceMethod yX7_open ∈ wsL_law := wc_5 _ (List.mem_of_getElem? (i := 0) rfl)
theorem wm_5_1 : Cond.selects RX7 yX7_open yX7_open ∈ wsL_law := wc_5 _ (List.mem_of_getElem? (i := 1) rfl)
theorem wm_15_22 : Cond.code yX7_pass cX7_pass 4 (some .long) ∈ wsL_law := wc_15 _ (List.mem_of_getElem? (i := 22) rfl)
theorem wm_15_20 : Cond.instanceMethod yX7_pass ∈ wsL_law := wc_15 _ (List.mem_of_getElem? (i := 20) rfl)
theorem wm_15_21 : Cond.selects RX7 yX7_pass yX7_pass ∈ wsL_law := wc_15 _ (List.mem_of_getElem? (i := 21) rfl)
theorem wm_10_16 : Cond.code yX7_pay cX7_pay 3 (some .int) ∈ wsL_law := wc_10 _ (List.mem_of_getElem? (i := 16) rfl)
theorem wm_10_14 : Cond.instanceMethod yX7_pay ∈ wsL_law := wc_10 _ (List.mem_of_getElem? (i := 14) rfl)
theorem wm_10_15 : Cond.selects RX7 yX7_pay yX7_pay ∈ wsL_law := wc_10 _ (List.mem_of_getElem? (i := 15) rfl)
theorem wm_15_9 : Cond.code yX7_payableOn cX7_payableOn 4 (some .int) ∈ wsL_law := wc_15 _ (List.mem_of_getElem? (i := 9) rfl)
theorem wm_15_7 : Cond.instanceMethod yX7_payableOn ∈ wsL_law := wc_15 _ (List.mem_of_getElem? (i := 7) rfl)
theorem wm_15_8 : Cond.selects RX7 yX7_payableOn yX7_payableOn ∈ wsL_law := wc_15 _ (List.mem_of_getElem? (i := 8) rfl)
theorem wm_20_9 : Cond.code yX7_ranked cX7_ranked 3 (some .int) ∈ wsL_law := wc_20 _ (List.mem_of_getElem? (i := 9) rfl)
theorem wm_20_7 : Cond.instanceMethod yX7_ranked ∈ wsL_law := wc_20 _ (List.mem_of_getElem? (i := 7) rfl)
theorem wm_20_8 : Cond.selects RX7 yX7_ranked yX7_ranked ∈ wsL_law := wc_20 _ (List.mem_of_getElem? (i := 8) rfl)
theorem wm_8_4 : Cond.code yX7_receive cX7_receive 3 (some .int) ∈ wsL_law := wc_8 _ (List.mem_of_getElem? (i := 4) rfl)
theorem wm_8_2 : Cond.instanceMethod yX7_receive ∈ wsL_law := wc_8 _ (List.mem_of_getElem? (i := 2) rfl)
theorem wm_8_3 : Cond.selects RX7 yX7_receive yX7_receive ∈ wsL_law := wc_8 _ (List.mem_of_getElem? (i := 3) rfl)
theorem wm_12_14 : Cond.code yX7_release cX7_release 2 (some .int) ∈ wsL_law := wc_12 _ (List.mem_of_getElem? (i := 14) rfl)
theorem wm_12_12 : Cond.instanceMethod yX7_release ∈ wsL_law := wc_12 _ (List.mem_of_getElem? (i := 12) rfl)
theorem wm_12_13 : Cond.selects RX7 yX7_release yX7_release ∈ wsL_law := wc_12 _ (List.mem_of_getElem? (i := 13) rfl)
theorem wm_17_20 : Cond.code yX7_reverse cX7_reverse 2 (some .int) ∈ wsL_law := wc_17 _ (List.mem_of_getElem? (i := 20) rfl)
theorem wm_17_18 : Cond.instanceMethod yX7_reverse ∈ wsL_law := wc_17 _ (List.mem_of_getElem? (i := 18) rfl)
theorem wm_17_19 : Cond.selects RX7 yX7_reverse yX7_reverse ∈ wsL_law := wc_17 _ (List.mem_of_getElem? (i := 19) rfl)
theorem wm_17_4 : Cond.code yX7_setRates cX7_setRates 4 (some .int) ∈ wsL_law := wc_17 _ (List.mem_of_getElem? (i := 4) rfl)
theorem wm_17_2 : Cond.instanceMethod yX7_setRates ∈ wsL_law := wc_17 _ (List.mem_of_getElem? (i := 2) rfl)
theorem wm_17_3 : Cond.selects RX7 yX7_setRates yX7_setRates ∈ wsL_law := wc_17 _ (List.mem_of_getElem? (i := 3) rfl)
theorem wm_17_12 : Cond.code yX7_setThreshold cX7_setThreshold 2 (some .int) ∈ wsL_law := wc_17 _ (List.mem_of_getElem? (i := 12) rfl)
theorem wm_17_10 : Cond.instanceMethod yX7_setThreshold ∈ wsL_law := wc_17 _ (List.mem_of_getElem? (i := 10) rfl)
theorem wm_17_11 : Cond.selects RX7 yX7_setThreshold yX7_setThreshold ∈ wsL_law := wc_17 _ (List.mem_of_getElem? (i := 11) rfl)
theorem wm_13_15 : Cond.code yX7_settle cX7_settle 2 (some .int) ∈ wsL_law := wc_13 _ (List.mem_of_getElem? (i := 15) rfl)
theorem wm_13_13 : Cond.instanceMethod yX7_settle ∈ wsL_law := wc_13 _ (List.mem_of_getElem? (i := 13) rfl)
theorem wm_13_14 : Cond.selects RX7 yX7_settle yX7_settle ∈ wsL_law := wc_13 _ (List.mem_of_getElem? (i := 14) rfl)
theorem wm_22_13 : Cond.code yX7_sum cX7_sum 2 (some .long) ∈ wsL_law := wc_22 _ (List.mem_of_getElem? (i := 13) rfl)
theorem wm_22_11 : Cond.instanceMethod yX7_sum ∈ wsL_law := wc_22 _ (List.mem_of_getElem? (i := 11) rfl)
theorem wm_22_12 : Cond.selects RX7 yX7_sum yX7_sum ∈ wsL_law := wc_22 _ (List.mem_of_getElem? (i := 12) rfl)
theorem wm_11_13 : Cond.code yX7_transfer cX7_transfer 4 (some .int) ∈ wsL_law := wc_11 _ (List.mem_of_getElem? (i := 13) rfl)
theorem wm_11_11 : Cond.instanceMethod yX7_transfer ∈ wsL_law := wc_11 _ (List.mem_of_getElem? (i := 11) rfl)
theorem wm_11_12 : Cond.selects RX7 yX7_transfer yX7_transfer ∈ wsL_law := wc_11 _ (List.mem_of_getElem? (i := 12) rfl)
theorem gcB_X0_init {big : List Cond} (hb : ∀ w ∈ wsL_law, w ∈ big) : GoodIn big aX0_init := gA hb (gA_c wm_2_17)
theorem gcB_X1_init {big : List Cond} (hb : ∀ w ∈ wsL_law, w ∈ big) : GoodIn big aX1_init := gA hb (gA_c wm_3_14)
theorem gcB_X2_init {big : List Cond} (hb : ∀ w ∈ wsL_law, w ∈ big) : GoodIn big aX2_init := gA hb (gA_c wm_3_21)
theorem gcB_X3_init {big : List Cond} (hb : ∀ w ∈ wsL_law, w ∈ big) : GoodIn big aX3_init := gA hb (gA_c wm_4_8)
theorem gcB_X4_init {big : List Cond} (hb : ∀ w ∈ wsL_law, w ∈ big) : GoodIn big aX4_init := gA hb (gA_c wm_3_1)
theorem gcB_X5_init {big : List Cond} (hb : ∀ w ∈ wsL_law, w ∈ big) : GoodIn big aX5_init := gA hb (gA_c wm_1_15)
theorem gcB_X6_init {big : List Cond} (hb : ∀ w ∈ wsL_law, w ∈ big) : GoodIn big aX6_init := gA hb (gA_c wm_3_7)
theorem gcB_X7_init {big : List Cond} (hb : ∀ w ∈ wsL_law, w ∈ big) : GoodIn big aX7_init := gA hb (gA_c wm_0_18)
theorem gcB_X7_isAmount {big : List Cond} (hb : ∀ w ∈ wsL_law, w ∈ big) : GoodIn big aX7_isAmount := gA hb (gA_c wm_8_11)
theorem gcB_X7_nextCreditDay {big : List Cond} (hb : ∀ w ∈ wsL_law, w ∈ big) : GoodIn big aX7_nextCreditDay := gA hb (gA_c wm_14_18)
theorem gcS_L_cell {big : List Cond} (hb : ∀ w ∈ wsL_law, w ∈ big) {own : String} {idx : Nat} (h1 : Cond.methodLink own idx yL_cell ∈ wsL_law) : GoodIn big (va_wsS own idx yL_cell aL_cell) := gAS hb h1 wm_4_14 wm_4_15 wm_4_16
theorem gcS_L_clients {big : List Cond} (hb : ∀ w ∈ wsL_law, w ∈ big) {own : String} {idx : Nat} (h1 : Cond.methodLink own idx yL_clients ∈ wsL_law) : GoodIn big (va_wsS own idx yL_clients aL_clients) := gAS hb h1 wm_7_23 wm_4_15 wm_8_0
theorem gcS_L_enter {big : List Cond} (hb : ∀ w ∈ wsL_law, w ∈ big) {own : String} {idx : Nat} (h1 : Cond.methodLink own idx yL_enter ∈ wsL_law) : GoodIn big (va_wsS own idx yL_enter aL_enter) := gAS hb h1 wm_9_23 wm_4_15 wm_10_0
theorem gcS_L_free {big : List Cond} (hb : ∀ w ∈ wsL_law, w ∈ big) {own : String} {idx : Nat} (h1 : Cond.methodLink own idx yL_free ∈ wsL_law) : GoodIn big (va_wsS own idx yL_free aL_free) := gAS hb h1 wm_10_8 wm_4_15 wm_10_9
theorem gcS_L_held {big : List Cond} (hb : ∀ w ∈ wsL_law, w ∈ big) {own : String} {idx : Nat} (h1 : Cond.methodLink own idx yL_held ∈ wsL_law) : GoodIn big (va_wsS own idx yL_held aL_held) := gAS hb h1 wm_10_11 wm_4_15 wm_10_12
theorem gcS_L_interest {big : List Cond} (hb : ∀ w ∈ wsL_law, w ∈ big) {own : String} {idx : Nat} (h1 : Cond.methodLink own idx yL_interest ∈ wsL_law) : GoodIn big (va_wsS own idx yL_interest aL_interest) := gAS hb h1 wm_13_23 wm_4_15 wm_14_0
theorem gcS_L_low {big : List Cond} (hb : ∀ w ∈ wsL_law, w ∈ big) {own : String} {idx : Nat} (h1 : Cond.methodLink own idx yL_low ∈ wsL_law) : GoodIn big (va_wsS own idx yL_low aL_low) := gAS hb h1 wm_4_20 wm_4_15 wm_4_21
theorem gcS_L_pass {big : List Cond} (hb : ∀ w ∈ wsL_law, w ∈ big) {own : String} {idx : Nat} (h1 : Cond.methodLink own idx yL_pass ∈ wsL_law) : GoodIn big (va_wsS own idx yL_pass aL_pass) := gAS hb h1 wm_16_23 wm_4_15 wm_17_0
theorem gcS_L_same {big : List Cond} (hb : ∀ w ∈ wsL_law, w ∈ big) {own : String} {idx : Nat} (h1 : Cond.methodLink own idx yL_same ∈ wsL_law) : GoodIn big (va_wsS own idx yL_same aL_same) := gAS hb h1 wm_19_15 wm_4_15 wm_19_16
theorem gcS_X3_keyOf {big : List Cond} (hb : ∀ w ∈ wsL_law, w ∈ big) {own : String} {idx : Nat} (h1 : Cond.methodLink own idx yX3_keyOf ∈ wsL_law) : GoodIn big (va_wsS own idx yX3_keyOf aX3_keyOf) := gAS hb h1 wm_20_19 wm_1_12 wm_20_20
theorem gcS_X6_cellOf {big : List Cond} (hb : ∀ w ∈ wsL_law, w ∈ big) {own : String} {idx : Nat} (h1 : Cond.methodLink own idx yX6_cellOf ∈ wsL_law) : GoodIn big (va_wsS own idx yX6_cellOf aX6_cellOf) := gAS hb h1 wm_9_16 wm_2_4 wm_9_17
theorem gcS_X7_aboutRow {big : List Cond} (hb : ∀ w ∈ wsL_law, w ∈ big) {own : String} {idx : Nat} (h1 : Cond.methodLink own idx yX7_aboutRow ∈ wsL_law) : GoodIn big (va_wsS own idx yX7_aboutRow aX7_aboutRow) := gAS hb h1 wm_21_11 wm_0_2 wm_21_12
theorem gcS_X7_isAmount {big : List Cond} (hb : ∀ w ∈ wsL_law, w ∈ big) {own : String} {idx : Nat} (h1 : Cond.methodLink own idx yX7_isAmount ∈ wsL_law) : GoodIn big (va_wsS own idx yX7_isAmount aX7_isAmount) := gAS hb h1 wm_8_10 wm_0_2 wm_8_11
theorem gcV_X0_add {big : List Cond} (hb : ∀ w ∈ wsL_law, w ∈ big) {own : String} {idx : Nat} (h1 : Cond.methodLink own idx yX0_add ∈ wsL_law) : GoodIn big (wsV own idx RX0 yX0_add aX0_add) := gAV hb h1 wm_8_18 wm_8_19 wm_1_19 wm_8_20
theorem gcV_X0_addCount {big : List Cond} (hb : ∀ w ∈ wsL_law, w ∈ big) {own : String} {idx : Nat} (h1 : Cond.methodLink own idx yX0_addCount ∈ wsL_law) : GoodIn big (wsV own idx RX0 yX0_addCount aX0_addCount) := gAV hb h1 wm_16_10 wm_16_11 wm_1_19 wm_16_12
theorem gcV_X0_balanceAt {big : List Cond} (hb : ∀ w ∈ wsL_law, w ∈ big) {own : String} {idx : Nat} (h1 : Cond.methodLink own idx yX0_balanceAt ∈ wsL_law) : GoodIn big (wsV own idx RX0 yX0_balanceAt aX0_balanceAt) := gAV hb h1 wm_8_14 wm_8_15 wm_1_19 wm_8_16
theorem gcV_X0_copyFrom {big : List Cond} (hb : ∀ w ∈ wsL_law, w ∈ big) {own : String} {idx : Nat} (h1 : Cond.methodLink own idx yX0_copyFrom ∈ wsL_law) : GoodIn big (wsV own idx RX0 yX0_copyFrom aX0_copyFrom) := gAV hb h1 wm_5_16 wm_5_17 wm_1_19 wm_5_18
theorem gcV_X0_copyRow {big : List Cond} (hb : ∀ w ∈ wsL_law, w ∈ big) {own : String} {idx : Nat} (h1 : Cond.methodLink own idx yX0_copyRow ∈ wsL_law) : GoodIn big (wsV own idx RX0 yX0_copyRow aX0_copyRow) := gAV hb h1 wm_7_7 wm_7_8 wm_1_19 wm_7_9
theorem gcV_X0_countAt {big : List Cond} (hb : ∀ w ∈ wsL_law, w ∈ big) {own : String} {idx : Nat} (h1 : Cond.methodLink own idx yX0_countAt ∈ wsL_law) : GoodIn big (wsV own idx RX0 yX0_countAt aX0_countAt) := gAV hb h1 wm_14_14 wm_14_15 wm_1_19 wm_14_16
theorem gcV_X0_find {big : List Cond} (hb : ∀ w ∈ wsL_law, w ∈ big) {own : String} {idx : Nat} (h1 : Cond.methodLink own idx yX0_find ∈ wsL_law) : GoodIn big (wsV own idx RX0 yX0_find aX0_find) := gAV hb h1 wm_6_15 wm_6_16 wm_1_19 wm_6_17
theorem gcV_X0_insert {big : List Cond} (hb : ∀ w ∈ wsL_law, w ∈ big) {own : String} {idx : Nat} (h1 : Cond.methodLink own idx yX0_insert ∈ wsL_law) : GoodIn big (wsV own idx RX0 yX0_insert aX0_insert) := gAV hb h1 wm_6_19 wm_6_20 wm_1_19 wm_6_21
theorem gcV_X0_isPlace {big : List Cond} (hb : ∀ w ∈ wsL_law, w ∈ big) {own : String} {idx : Nat} (h1 : Cond.methodLink own idx yX0_isPlace ∈ wsL_law) : GoodIn big (wsV own idx RX0 yX0_isPlace aX0_isPlace) := gAV hb h1 wm_7_3 wm_7_4 wm_1_19 wm_7_5
theorem gcV_X0_move {big : List Cond} (hb : ∀ w ∈ wsL_law, w ∈ big) {own : String} {idx : Nat} (h1 : Cond.methodLink own idx yX0_move ∈ wsL_law) : GoodIn big (wsV own idx RX0 yX0_move aX0_move) := gAV hb h1 wm_9_19 wm_9_20 wm_1_19 wm_9_21
theorem gcV_X0_movedAt {big : List Cond} (hb : ∀ w ∈ wsL_law, w ∈ big) {own : String} {idx : Nat} (h1 : Cond.methodLink own idx yX0_movedAt ∈ wsL_law) : GoodIn big (wsV own idx RX0 yX0_movedAt aX0_movedAt) := gAV hb h1 wm_20_3 wm_20_4 wm_1_19 wm_20_5
theorem gcV_X0_numberAt {big : List Cond} (hb : ∀ w ∈ wsL_law, w ∈ big) {own : String} {idx : Nat} (h1 : Cond.methodLink own idx yX0_numberAt ∈ wsL_law) : GoodIn big (wsV own idx RX0 yX0_numberAt aX0_numberAt) := gAV hb h1 wm_6_23 wm_7_0 wm_1_19 wm_7_1
theorem gcV_X0_remove {big : List Cond} (hb : ∀ w ∈ wsL_law, w ∈ big) {own : String} {idx : Nat} (h1 : Cond.methodLink own idx yX0_remove ∈ wsL_law) : GoodIn big (wsV own idx RX0 yX0_remove aX0_remove) := gAV hb h1 wm_19_11 wm_19_12 wm_1_19 wm_19_13
theorem gcV_X0_sumOfBalances {big : List Cond} (hb : ∀ w ∈ wsL_law, w ∈ big) {own : String} {idx : Nat} (h1 : Cond.methodLink own idx yX0_sumOfBalances ∈ wsL_law) : GoodIn big (wsV own idx RX0 yX0_sumOfBalances aX0_sumOfBalances) := gAV hb h1 wm_22_20 wm_22_21 wm_1_19 wm_22_22
theorem gcV_X1_keep {big : List Cond} (hb : ∀ w ∈ wsL_law, w ∈ big) {own : String} {idx : Nat} (h1 : Cond.methodLink own idx yX1_keep ∈ wsL_law) : GoodIn big (wsV own idx RX1 yX1_keep aX1_keep) := gAV hb h1 wm_7_15 wm_7_16 wm_1_4 wm_7_17
theorem gcV_X1_prepare {big : List Cond} (hb : ∀ w ∈ wsL_law, w ∈ big) {own : String} {idx : Nat} (h1 : Cond.methodLink own idx yX1_prepare ∈ wsL_law) : GoodIn big (wsV own idx RX1 yX1_prepare aX1_prepare) := gAV hb h1 wm_5_4 wm_5_5 wm_1_4 wm_5_6
theorem gcV_X1_slotAt {big : List Cond} (hb : ∀ w ∈ wsL_law, w ∈ big) {own : String} {idx : Nat} (h1 : Cond.methodLink own idx yX1_slotAt ∈ wsL_law) : GoodIn big (wsV own idx RX1 yX1_slotAt aX1_slotAt) := gAV hb h1 wm_5_8 wm_5_9 wm_1_4 wm_5_10
theorem gcV_X3_clientAt {big : List Cond} (hb : ∀ w ∈ wsL_law, w ∈ big) {own : String} {idx : Nat} (h1 : Cond.methodLink own idx yX3_clientAt ∈ wsL_law) : GoodIn big (wsV own idx RX3 yX3_clientAt aX3_clientAt) := gAV hb h1 wm_21_2 wm_21_3 wm_1_12 wm_21_4
theorem gcV_X3_sort {big : List Cond} (hb : ∀ w ∈ wsL_law, w ∈ big) {own : String} {idx : Nat} (h1 : Cond.methodLink own idx yX3_sort ∈ wsL_law) : GoodIn big (wsV own idx RX3 yX3_sort aX3_sort) := gAV hb h1 wm_20_12 wm_20_13 wm_1_12 wm_20_14
theorem gcV_X4_append {big : List Cond} (hb : ∀ w ∈ wsL_law, w ∈ big) {own : String} {idx : Nat} (h1 : Cond.methodLink own idx yX4_append ∈ wsL_law) : GoodIn big (wsV own idx RX4 yX4_append aX4_append) := gAV hb h1 wm_12_4 wm_12_5 wm_1_23 wm_12_6
theorem gcV_X4_copyFrom {big : List Cond} (hb : ∀ w ∈ wsL_law, w ∈ big) {own : String} {idx : Nat} (h1 : Cond.methodLink own idx yX4_copyFrom ∈ wsL_law) : GoodIn big (wsV own idx RX4 yX4_copyFrom aX4_copyFrom) := gAV hb h1 wm_6_0 wm_6_1 wm_1_23 wm_6_2
theorem gcV_X4_countOf {big : List Cond} (hb : ∀ w ∈ wsL_law, w ∈ big) {own : String} {idx : Nat} (h1 : Cond.methodLink own idx yX4_countOf ∈ wsL_law) : GoodIn big (wsV own idx RX4 yX4_countOf aX4_countOf) := gAV hb h1 wm_19_7 wm_19_8 wm_1_23 wm_19_9
theorem gcV_X4_find {big : List Cond} (hb : ∀ w ∈ wsL_law, w ∈ big) {own : String} {idx : Nat} (h1 : Cond.methodLink own idx yX4_find ∈ wsL_law) : GoodIn big (wsV own idx RX4 yX4_find aX4_find) := gAV hb h1 wm_12_20 wm_12_21 wm_1_23 wm_12_22
theorem gcV_X4_get {big : List Cond} (hb : ∀ w ∈ wsL_law, w ∈ big) {own : String} {idx : Nat} (h1 : Cond.methodLink own idx yX4_get ∈ wsL_law) : GoodIn big (wsV own idx RX4 yX4_get aX4_get) := gAV hb h1 wm_11_7 wm_11_8 wm_1_23 wm_11_9
theorem gcV_X4_remove {big : List Cond} (hb : ∀ w ∈ wsL_law, w ∈ big) {own : String} {idx : Nat} (h1 : Cond.methodLink own idx yX4_remove ∈ wsL_law) : GoodIn big (wsV own idx RX4 yX4_remove aX4_remove) := gAV hb h1 wm_13_1 wm_13_2 wm_1_23 wm_13_3
theorem gcV_X4_set {big : List Cond} (hb : ∀ w ∈ wsL_law, w ∈ big) {own : String} {idx : Nat} (h1 : Cond.methodLink own idx yX4_set ∈ wsL_law) : GoodIn big (wsV own idx RX4 yX4_set aX4_set) := gAV hb h1 wm_12_8 wm_12_9 wm_1_23 wm_12_10
theorem gcV_X4_sumOf {big : List Cond} (hb : ∀ w ∈ wsL_law, w ∈ big) {own : String} {idx : Nat} (h1 : Cond.methodLink own idx yX4_sumOf ∈ wsL_law) : GoodIn big (wsV own idx RX4 yX4_sumOf aX4_sumOf) := gAV hb h1 wm_11_3 wm_11_4 wm_1_23 wm_11_5
theorem gcV_X4_sumOfAll {big : List Cond} (hb : ∀ w ∈ wsL_law, w ∈ big) {own : String} {idx : Nat} (h1 : Cond.methodLink own idx yX4_sumOfAll ∈ wsL_law) : GoodIn big (wsV own idx RX4 yX4_sumOfAll aX4_sumOfAll) := gAV hb h1 wm_23_1 wm_23_2 wm_1_23 wm_23_3
theorem gcV_X5_aboutClient {big : List Cond} (hb : ∀ w ∈ wsL_law, w ∈ big) {own : String} {idx : Nat} (h1 : Cond.methodLink own idx yX5_aboutClient ∈ wsL_law) : GoodIn big (wsV own idx RX5 yX5_aboutClient aX5_aboutClient) := gAV hb h1 wm_19_22 wm_19_23 wm_1_0 wm_20_0
theorem gcV_X5_changeRates {big : List Cond} (hb : ∀ w ∈ wsL_law, w ∈ big) {own : String} {idx : Nat} (h1 : Cond.methodLink own idx yX5_changeRates ∈ wsL_law) : GoodIn big (wsV own idx RX5 yX5_changeRates aX5_changeRates) := gAV hb h1 wm_17_6 wm_17_7 wm_1_0 wm_17_8
theorem gcV_X5_changeThreshold {big : List Cond} (hb : ∀ w ∈ wsL_law, w ∈ big) {own : String} {idx : Nat} (h1 : Cond.methodLink own idx yX5_changeThreshold ∈ wsL_law) : GoodIn big (wsV own idx RX5 yX5_changeThreshold aX5_changeThreshold) := gAV hb h1 wm_17_14 wm_17_15 wm_1_0 wm_17_16
theorem gcV_X5_closeAccount {big : List Cond} (hb : ∀ w ∈ wsL_law, w ∈ big) {own : String} {idx : Nat} (h1 : Cond.methodLink own idx yX5_closeAccount ∈ wsL_law) : GoodIn big (wsV own idx RX5 yX5_closeAccount aX5_closeAccount) := gAV hb h1 wm_19_3 wm_19_4 wm_1_0 wm_19_5
theorem gcV_X5_copyFrom {big : List Cond} (hb : ∀ w ∈ wsL_law, w ∈ big) {own : String} {idx : Nat} (h1 : Cond.methodLink own idx yX5_copyFrom ∈ wsL_law) : GoodIn big (wsV own idx RX5 yX5_copyFrom aX5_copyFrom) := gAV hb h1 wm_5_12 wm_5_13 wm_1_0 wm_5_14
theorem gcV_X5_creditAll {big : List Cond} (hb : ∀ w ∈ wsL_law, w ∈ big) {own : String} {idx : Nat} (h1 : Cond.methodLink own idx yX5_creditAll ∈ wsL_law) : GoodIn big (wsV own idx RX5 yX5_creditAll aX5_creditAll) := gAV hb h1 wm_16_14 wm_16_15 wm_1_0 wm_16_16
theorem gcV_X5_endHold {big : List Cond} (hb : ∀ w ∈ wsL_law, w ∈ big) {own : String} {idx : Nat} (h1 : Cond.methodLink own idx yX5_endHold ∈ wsL_law) : GoodIn big (wsV own idx RX5 yX5_endHold aX5_endHold) := gAV hb h1 wm_12_16 wm_12_17 wm_1_0 wm_12_18
theorem gcV_X5_endHoldsThatAreOver {big : List Cond} (hb : ∀ w ∈ wsL_law, w ∈ big) {own : String} {idx : Nat} (h1 : Cond.methodLink own idx yX5_endHoldsThatAreOver ∈ wsL_law) : GoodIn big (wsV own idx RX5 yX5_endHoldsThatAreOver aX5_endHoldsThatAreOver) := gAV hb h1 wm_16_19 wm_16_20 wm_1_0 wm_16_21
theorem gcV_X5_enter {big : List Cond} (hb : ∀ w ∈ wsL_law, w ∈ big) {own : String} {idx : Nat} (h1 : Cond.methodLink own idx yX5_enter ∈ wsL_law) : GoodIn big (wsV own idx RX5 yX5_enter aX5_enter) := gAV hb h1 wm_8_22 wm_8_23 wm_1_0 wm_9_0
theorem gcV_X5_firstDayWithFree {big : List Cond} (hb : ∀ w ∈ wsL_law, w ∈ big) {own : String} {idx : Nat} (h1 : Cond.methodLink own idx yX5_firstDayWithFree ∈ wsL_law) : GoodIn big (wsV own idx RX5 yX5_firstDayWithFree aX5_firstDayWithFree) := gAV hb h1 wm_15_12 wm_15_13 wm_1_0 wm_15_14
theorem gcV_X5_freeAt {big : List Cond} (hb : ∀ w ∈ wsL_law, w ∈ big) {own : String} {idx : Nat} (h1 : Cond.methodLink own idx yX5_freeAt ∈ wsL_law) : GoodIn big (wsV own idx RX5 yX5_freeAt aX5_freeAt) := gAV hb h1 wm_10_22 wm_10_23 wm_1_0 wm_11_0
theorem gcV_X5_growUntil {big : List Cond} (hb : ∀ w ∈ wsL_law, w ∈ big) {own : String} {idx : Nat} (h1 : Cond.methodLink own idx yX5_growUntil ∈ wsL_law) : GoodIn big (wsV own idx RX5 yX5_growUntil aX5_growUntil) := gAV hb h1 wm_16_6 wm_16_7 wm_1_0 wm_16_8
theorem gcV_X5_growthPerDay {big : List Cond} (hb : ∀ w ∈ wsL_law, w ∈ big) {own : String} {idx : Nat} (h1 : Cond.methodLink own idx yX5_growthPerDay ∈ wsL_law) : GoodIn big (wsV own idx RX5 yX5_growthPerDay aX5_growthPerDay) := gAV hb h1 wm_14_20 wm_14_21 wm_1_0 wm_14_22
theorem gcV_X5_heldOn {big : List Cond} (hb : ∀ w ∈ wsL_law, w ∈ big) {own : String} {idx : Nat} (h1 : Cond.methodLink own idx yX5_heldOn ∈ wsL_law) : GoodIn big (wsV own idx RX5 yX5_heldOn aX5_heldOn) := gAV hb h1 wm_15_16 wm_15_17 wm_1_0 wm_15_18
theorem gcV_X5_interestAhead {big : List Cond} (hb : ∀ w ∈ wsL_law, w ∈ big) {own : String} {idx : Nat} (h1 : Cond.methodLink own idx yX5_interestAhead ∈ wsL_law) : GoodIn big (wsV own idx RX5 yX5_interestAhead aX5_interestAhead) := gAV hb h1 wm_14_9 wm_14_10 wm_1_0 wm_14_11
theorem gcV_X5_interestToCredit {big : List Cond} (hb : ∀ w ∈ wsL_law, w ∈ big) {own : String} {idx : Nat} (h1 : Cond.methodLink own idx yX5_interestToCredit ∈ wsL_law) : GoodIn big (wsV own idx RX5 yX5_interestToCredit aX5_interestToCredit) := gAV hb h1 wm_15_0 wm_15_1 wm_1_0 wm_15_2
theorem gcV_X5_letPass {big : List Cond} (hb : ∀ w ∈ wsL_law, w ∈ big) {own : String} {idx : Nat} (h1 : Cond.methodLink own idx yX5_letPass ∈ wsL_law) : GoodIn big (wsV own idx RX5 yX5_letPass aX5_letPass) := gAV hb h1 wm_16_0 wm_16_1 wm_1_0 wm_16_2
theorem gcV_X5_makeHold {big : List Cond} (hb : ∀ w ∈ wsL_law, w ∈ big) {own : String} {idx : Nat} (h1 : Cond.methodLink own idx yX5_makeHold ∈ wsL_law) : GoodIn big (wsV own idx RX5 yX5_makeHold aX5_makeHold) := gAV hb h1 wm_11_23 wm_12_0 wm_1_0 wm_12_1
theorem gcV_X5_makePayment {big : List Cond} (hb : ∀ w ∈ wsL_law, w ∈ big) {own : String} {idx : Nat} (h1 : Cond.methodLink own idx yX5_makePayment ∈ wsL_law) : GoodIn big (wsV own idx RX5 yX5_makePayment aX5_makePayment) := gAV hb h1 wm_10_18 wm_10_19 wm_1_0 wm_10_20
theorem gcV_X5_makeTransfer {big : List Cond} (hb : ∀ w ∈ wsL_law, w ∈ big) {own : String} {idx : Nat} (h1 : Cond.methodLink own idx yX5_makeTransfer ∈ wsL_law) : GoodIn big (wsV own idx RX5 yX5_makeTransfer aX5_makeTransfer) := gAV hb h1 wm_11_15 wm_11_16 wm_1_0 wm_11_17
theorem gcV_X5_openAccount {big : List Cond} (hb : ∀ w ∈ wsL_law, w ∈ big) {own : String} {idx : Nat} (h1 : Cond.methodLink own idx yX5_openAccount ∈ wsL_law) : GoodIn big (wsV own idx RX5 yX5_openAccount aX5_openAccount) := gAV hb h1 wm_6_10 wm_6_11 wm_1_0 wm_6_12
theorem gcV_X5_reverseEntry {big : List Cond} (hb : ∀ w ∈ wsL_law, w ∈ big) {own : String} {idx : Nat} (h1 : Cond.methodLink own idx yX5_reverseEntry ∈ wsL_law) : GoodIn big (wsV own idx RX5 yX5_reverseEntry aX5_reverseEntry) := gAV hb h1 wm_17_22 wm_17_23 wm_1_0 wm_18_0
theorem gcV_X5_settleBill {big : List Cond} (hb : ∀ w ∈ wsL_law, w ∈ big) {own : String} {idx : Nat} (h1 : Cond.methodLink own idx yX5_settleBill ∈ wsL_law) : GoodIn big (wsV own idx RX5 yX5_settleBill aX5_settleBill) := gAV hb h1 wm_13_17 wm_13_18 wm_1_0 wm_13_19
theorem gcV_X5_takeReceipt {big : List Cond} (hb : ∀ w ∈ wsL_law, w ∈ big) {own : String} {idx : Nat} (h1 : Cond.methodLink own idx yX5_takeReceipt ∈ wsL_law) : GoodIn big (wsV own idx RX5 yX5_takeReceipt aX5_takeReceipt) := gAV hb h1 wm_8_6 wm_8_7 wm_1_0 wm_8_8
theorem gcV_X5_writeBill {big : List Cond} (hb : ∀ w ∈ wsL_law, w ∈ big) {own : String} {idx : Nat} (h1 : Cond.methodLink own idx yX5_writeBill ∈ wsL_law) : GoodIn big (wsV own idx RX5 yX5_writeBill aX5_writeBill) := gAV hb h1 wm_13_9 wm_13_10 wm_1_0 wm_13_11
theorem gcV_X6_append {big : List Cond} (hb : ∀ w ∈ wsL_law, w ∈ big) {own : String} {idx : Nat} (h1 : Cond.methodLink own idx yX6_append ∈ wsL_law) : GoodIn big (wsV own idx RX6 yX6_append aX6_append) := gAV hb h1 wm_9_2 wm_9_3 wm_2_4 wm_9_4
theorem gcV_X6_copyFrom {big : List Cond} (hb : ∀ w ∈ wsL_law, w ∈ big) {own : String} {idx : Nat} (h1 : Cond.methodLink own idx yX6_copyFrom ∈ wsL_law) : GoodIn big (wsV own idx RX6 yX6_copyFrom aX6_copyFrom) := gAV hb h1 wm_6_5 wm_6_6 wm_2_4 wm_6_7
theorem gcV_X6_get {big : List Cond} (hb : ∀ w ∈ wsL_law, w ∈ big) {own : String} {idx : Nat} (h1 : Cond.methodLink own idx yX6_get ∈ wsL_law) : GoodIn big (wsV own idx RX6 yX6_get aX6_get) := gAV hb h1 wm_18_7 wm_18_8 wm_2_4 wm_18_9
theorem gcV_X6_keeps {big : List Cond} (hb : ∀ w ∈ wsL_law, w ∈ big) {own : String} {idx : Nat} (h1 : Cond.methodLink own idx yX6_keeps ∈ wsL_law) : GoodIn big (wsV own idx RX6 yX6_keeps aX6_keeps) := gAV hb h1 wm_18_3 wm_18_4 wm_2_4 wm_18_5
theorem gcV_X6_markReversed {big : List Cond} (hb : ∀ w ∈ wsL_law, w ∈ big) {own : String} {idx : Nat} (h1 : Cond.methodLink own idx yX6_markReversed ∈ wsL_law) : GoodIn big (wsV own idx RX6 yX6_markReversed aX6_markReversed) := gAV hb h1 wm_18_12 wm_18_13 wm_2_4 wm_18_14
theorem gcV_X6_set {big : List Cond} (hb : ∀ w ∈ wsL_law, w ∈ big) {own : String} {idx : Nat} (h1 : Cond.methodLink own idx yX6_set ∈ wsL_law) : GoodIn big (wsV own idx RX6 yX6_set aX6_set) := gAV hb h1 wm_9_12 wm_9_13 wm_2_4 wm_9_14
theorem gcV_X7_bill {big : List Cond} (hb : ∀ w ∈ wsL_law, w ∈ big) {own : String} {idx : Nat} (h1 : Cond.methodLink own idx yX7_bill ∈ wsL_law) : GoodIn big (wsV own idx RX7 yX7_bill aX7_bill) := gAV hb h1 wm_13_5 wm_13_6 wm_0_2 wm_13_7
theorem gcV_X7_billOf {big : List Cond} (hb : ∀ w ∈ wsL_law, w ∈ big) {own : String} {idx : Nat} (h1 : Cond.methodLink own idx yX7_billOf ∈ wsL_law) : GoodIn big (wsV own idx RX7 yX7_billOf aX7_billOf) := gAV hb h1 wm_21_16 wm_21_17 wm_0_2 wm_21_18
theorem gcV_X7_clients {big : List Cond} (hb : ∀ w ∈ wsL_law, w ∈ big) {own : String} {idx : Nat} (h1 : Cond.methodLink own idx yX7_clients ∈ wsL_law) : GoodIn big (wsV own idx RX7 yX7_clients aX7_clients) := gAV hb h1 wm_22_2 wm_22_3 wm_0_2 wm_22_4
theorem gcV_X7_close {big : List Cond} (hb : ∀ w ∈ wsL_law, w ∈ big) {own : String} {idx : Nat} (h1 : Cond.methodLink own idx yX7_close ∈ wsL_law) : GoodIn big (wsV own idx RX7 yX7_close aX7_close) := gAV hb h1 wm_18_23 wm_19_0 wm_0_2 wm_19_1
theorem gcV_X7_day {big : List Cond} (hb : ∀ w ∈ wsL_law, w ∈ big) {own : String} {idx : Nat} (h1 : Cond.methodLink own idx yX7_day ∈ wsL_law) : GoodIn big (wsV own idx RX7 yX7_day aX7_day) := gAV hb h1 wm_21_21 wm_21_22 wm_0_2 wm_21_23
theorem gcV_X7_entries {big : List Cond} (hb : ∀ w ∈ wsL_law, w ∈ big) {own : String} {idx : Nat} (h1 : Cond.methodLink own idx yX7_entries ∈ wsL_law) : GoodIn big (wsV own idx RX7 yX7_entries aX7_entries) := gAV hb h1 wm_22_6 wm_22_7 wm_0_2 wm_22_8
theorem gcV_X7_entry {big : List Cond} (hb : ∀ w ∈ wsL_law, w ∈ big) {own : String} {idx : Nat} (h1 : Cond.methodLink own idx yX7_entry ∈ wsL_law) : GoodIn big (wsV own idx RX7 yX7_entry aX7_entry) := gAV hb h1 wm_18_16 wm_18_17 wm_0_2 wm_18_18
theorem gcV_X7_hold {big : List Cond} (hb : ∀ w ∈ wsL_law, w ∈ big) {own : String} {idx : Nat} (h1 : Cond.methodLink own idx yX7_hold ∈ wsL_law) : GoodIn big (wsV own idx RX7 yX7_hold aX7_hold) := gAV hb h1 wm_11_19 wm_11_20 wm_0_2 wm_11_21
theorem gcV_X7_holdOf {big : List Cond} (hb : ∀ w ∈ wsL_law, w ∈ big) {own : String} {idx : Nat} (h1 : Cond.methodLink own idx yX7_holdOf ∈ wsL_law) : GoodIn big (wsV own idx RX7 yX7_holdOf aX7_holdOf) := gAV hb h1 wm_21_6 wm_21_7 wm_0_2 wm_21_8
theorem gcV_X7_interestIn {big : List Cond} (hb : ∀ w ∈ wsL_law, w ∈ big) {own : String} {idx : Nat} (h1 : Cond.methodLink own idx yX7_interestIn ∈ wsL_law) : GoodIn big (wsV own idx RX7 yX7_interestIn aX7_interestIn) := gAV hb h1 wm_14_3 wm_14_4 wm_0_2 wm_14_5
theorem gcV_X7_keptUnlessError {big : List Cond} (hb : ∀ w ∈ wsL_law, w ∈ big) {own : String} {idx : Nat} (h1 : Cond.methodLink own idx yX7_keptUnlessError ∈ wsL_law) : GoodIn big (wsV own idx RX7 yX7_keptUnlessError aX7_keptUnlessError) := gAV hb h1 wm_7_11 wm_7_12 wm_0_2 wm_7_13
theorem gcV_X7_of {big : List Cond} (hb : ∀ w ∈ wsL_law, w ∈ big) {own : String} {idx : Nat} (h1 : Cond.methodLink own idx yX7_of ∈ wsL_law) : GoodIn big (wsV own idx RX7 yX7_of aX7_of) := gAV hb h1 wm_19_18 wm_19_19 wm_0_2 wm_19_20
theorem gcV_X7_open {big : List Cond} (hb : ∀ w ∈ wsL_law, w ∈ big) {own : String} {idx : Nat} (h1 : Cond.methodLink own idx yX7_open ∈ wsL_law) : GoodIn big (wsV own idx RX7 yX7_open aX7_open) := gAV hb h1 wm_5_0 wm_5_1 wm_0_2 wm_5_2
theorem gcV_X7_pass {big : List Cond} (hb : ∀ w ∈ wsL_law, w ∈ big) {own : String} {idx : Nat} (h1 : Cond.methodLink own idx yX7_pass ∈ wsL_law) : GoodIn big (wsV own idx RX7 yX7_pass aX7_pass) := gAV hb h1 wm_15_20 wm_15_21 wm_0_2 wm_15_22
theorem gcV_X7_pay {big : List Cond} (hb : ∀ w ∈ wsL_law, w ∈ big) {own : String} {idx : Nat} (h1 : Cond.methodLink own idx yX7_pay ∈ wsL_law) : GoodIn big (wsV own idx RX7 yX7_pay aX7_pay) := gAV hb h1 wm_10_14 wm_10_15 wm_0_2 wm_10_16
theorem gcV_X7_payableOn {big : List Cond} (hb : ∀ w ∈ wsL_law, w ∈ big) {own : String} {idx : Nat} (h1 : Cond.methodLink own idx yX7_payableOn ∈ wsL_law) : GoodIn big (wsV own idx RX7 yX7_payableOn aX7_payableOn) := gAV hb h1 wm_15_7 wm_15_8 wm_0_2 wm_15_9
theorem gcV_X7_ranked {big : List Cond} (hb : ∀ w ∈ wsL_law, w ∈ big) {own : String} {idx : Nat} (h1 : Cond.methodLink own idx yX7_ranked ∈ wsL_law) : GoodIn big (wsV own idx RX7 yX7_ranked aX7_ranked) := gAV hb h1 wm_20_7 wm_20_8 wm_0_2 wm_20_9
theorem gcV_X7_receive {big : List Cond} (hb : ∀ w ∈ wsL_law, w ∈ big) {own : String} {idx : Nat} (h1 : Cond.methodLink own idx yX7_receive ∈ wsL_law) : GoodIn big (wsV own idx RX7 yX7_receive aX7_receive) := gAV hb h1 wm_8_2 wm_8_3 wm_0_2 wm_8_4
theorem gcV_X7_release {big : List Cond} (hb : ∀ w ∈ wsL_law, w ∈ big) {own : String} {idx : Nat} (h1 : Cond.methodLink own idx yX7_release ∈ wsL_law) : GoodIn big (wsV own idx RX7 yX7_release aX7_release) := gAV hb h1 wm_12_12 wm_12_13 wm_0_2 wm_12_14
theorem gcV_X7_reverse {big : List Cond} (hb : ∀ w ∈ wsL_law, w ∈ big) {own : String} {idx : Nat} (h1 : Cond.methodLink own idx yX7_reverse ∈ wsL_law) : GoodIn big (wsV own idx RX7 yX7_reverse aX7_reverse) := gAV hb h1 wm_17_18 wm_17_19 wm_0_2 wm_17_20
theorem gcV_X7_setRates {big : List Cond} (hb : ∀ w ∈ wsL_law, w ∈ big) {own : String} {idx : Nat} (h1 : Cond.methodLink own idx yX7_setRates ∈ wsL_law) : GoodIn big (wsV own idx RX7 yX7_setRates aX7_setRates) := gAV hb h1 wm_17_2 wm_17_3 wm_0_2 wm_17_4
theorem gcV_X7_setThreshold {big : List Cond} (hb : ∀ w ∈ wsL_law, w ∈ big) {own : String} {idx : Nat} (h1 : Cond.methodLink own idx yX7_setThreshold ∈ wsL_law) : GoodIn big (wsV own idx RX7 yX7_setThreshold aX7_setThreshold) := gAV hb h1 wm_17_10 wm_17_11 wm_0_2 wm_17_12
theorem gcV_X7_settle {big : List Cond} (hb : ∀ w ∈ wsL_law, w ∈ big) {own : String} {idx : Nat} (h1 : Cond.methodLink own idx yX7_settle ∈ wsL_law) : GoodIn big (wsV own idx RX7 yX7_settle aX7_settle) := gAV hb h1 wm_13_13 wm_13_14 wm_0_2 wm_13_15
theorem gcV_X7_sum {big : List Cond} (hb : ∀ w ∈ wsL_law, w ∈ big) {own : String} {idx : Nat} (h1 : Cond.methodLink own idx yX7_sum ∈ wsL_law) : GoodIn big (wsV own idx RX7 yX7_sum aX7_sum) := gAV hb h1 wm_22_11 wm_22_12 wm_0_2 wm_22_13
theorem gcV_X7_transfer {big : List Cond} (hb : ∀ w ∈ wsL_law, w ∈ big) {own : String} {idx : Nat} (h1 : Cond.methodLink own idx yX7_transfer ∈ wsL_law) : GoodIn big (wsV own idx RX7 yX7_transfer aX7_transfer) := gAV hb h1 wm_11_11 wm_11_12 wm_0_2 wm_11_13
