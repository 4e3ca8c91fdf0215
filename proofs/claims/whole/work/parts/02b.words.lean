theorem wc_0 : ∀ w ∈ wsL_law_r1, w ∈ wsL_law := fun w h => (List.mem_append_left _ (List.mem_append_left _ (List.mem_append_left _ (List.mem_append_left _ (List.mem_append_left _ (List.mem_append_left _ (List.mem_append_left _ (List.mem_append_left _ (List.mem_append_left _ (List.mem_append_left _ (List.mem_append_left _ h)))))))))))
theorem wc_1 : ∀ w ∈ wsL_law_r2, w ∈ wsL_law := fun w h => (List.mem_append_left _ (List.mem_append_left _ (List.mem_append_left _ (List.mem_append_left _ (List.mem_append_left _ (List.mem_append_left _ (List.mem_append_left _ (List.mem_append_left _ (List.mem_append_left _ (List.mem_append_left _ (List.mem_append_right _ (List.mem_append_left _ h))))))))))))
theorem wc_2 : ∀ w ∈ wsL_law_r3, w ∈ wsL_law := fun w h => (List.mem_append_left _ (List.mem_append_left _ (List.mem_append_left _ (List.mem_append_left _ (List.mem_append_left _ (List.mem_append_left _ (List.mem_append_left _ (List.mem_append_left _ (List.mem_append_left _ (List.mem_append_left _ (List.mem_append_right _ (List.mem_append_right _ (List.mem_append_left _ h)))))))))))))
theorem wc_3 : ∀ w ∈ wsL_law_r4, w ∈ wsL_law := fun w h => (List.mem_append_left _ (List.mem_append_left _ (List.mem_append_left _ (List.mem_append_left _ (List.mem_append_left _ (List.mem_append_left _ (List.mem_append_left _ (List.mem_append_left _ (List.mem_append_left _ (List.mem_append_left _ (List.mem_append_right _ (List.mem_append_right _ (List.mem_append_right _ (List.mem_append_left _ h))))))))))))))
theorem wc_4 : ∀ w ∈ wsL_law_r5, w ∈ wsL_law := fun w h => (List.mem_append_left _ (List.mem_append_left _ (List.mem_append_left _ (List.mem_append_left _ (List.mem_append_left _ (List.mem_append_left _ (List.mem_append_left _ (List.mem_append_left _ (List.mem_append_left _ (List.mem_append_left _ (List.mem_append_right _ (List.mem_append_right _ (List.mem_append_right _ (List.mem_append_right _ (List.mem_append_left _ h)))))))))))))))
theorem wc_5 : ∀ w ∈ wsL_law_r6, w ∈ wsL_law := fun w h => (List.mem_append_left _ (List.mem_append_left _ (List.mem_append_left _ (List.mem_append_left _ (List.mem_append_left _ (List.mem_append_left _ (List.mem_append_left _ (List.mem_append_left _ (List.mem_append_left _ (List.mem_append_left _ (List.mem_append_right _ (List.mem_append_right _ (List.mem_append_right _ (List.mem_append_right _ (List.mem_append_right _ (List.mem_append_left _ h))))))))))))))))
theorem wc_6 : ∀ w ∈ wsL_law_r7, w ∈ wsL_law := fun w h => (List.mem_append_left _ (List.mem_append_left _ (List.mem_append_left _ (List.mem_append_left _ (List.mem_append_left _ (List.mem_append_left _ (List.mem_append_left _ (List.mem_append_left _ (List.mem_append_left _ (List.mem_append_left _ (List.mem_append_right _ (List.mem_append_right _ (List.mem_append_right _ (List.mem_append_right _ (List.mem_append_right _ (List.mem_append_right _ (List.mem_append_left _ h)))))))))))))))))
theorem wc_7 : ∀ w ∈ wsL_law_r8, w ∈ wsL_law := fun w h => (List.mem_append_left _ (List.mem_append_left _ (List.mem_append_left _ (List.mem_append_left _ (List.mem_append_left _ (List.mem_append_left _ (List.mem_append_left _ (List.mem_append_left _ (List.mem_append_left _ (List.mem_append_left _ (List.mem_append_right _ (List.mem_append_right _ (List.mem_append_right _ (List.mem_append_right _ (List.mem_append_right _ (List.mem_append_right _ (List.mem_append_right _ (List.mem_append_left _ h))))))))))))))))))
theorem wc_8 : ∀ w ∈ wsL_law_r9, w ∈ wsL_law := fun w h => (List.mem_append_left _ (List.mem_append_left _ (List.mem_append_left _ (List.mem_append_left _ (List.mem_append_left _ (List.mem_append_left _ (List.mem_append_left _ (List.mem_append_left _ (List.mem_append_left _ (List.mem_append_left _ (List.mem_append_right _ (List.mem_append_right _ (List.mem_append_right _ (List.mem_append_right _ (List.mem_append_right _ (List.mem_append_right _ (List.mem_append_right _ (List.mem_append_right _ (List.mem_append_left _ h)))))))))))))))))))
theorem wc_9 : ∀ w ∈ wsL_law_r10, w ∈ wsL_law := fun w h => (List.mem_append_left _ (List.mem_append_left _ (List.mem_append_left _ (List.mem_append_left _ (List.mem_append_left _ (List.mem_append_left _ (List.mem_append_left _ (List.mem_append_left _ (List.mem_append_left _ (List.mem_append_left _ (List.mem_append_right _ (List.mem_append_right _ (List.mem_append_right _ (List.mem_append_right _ (List.mem_append_right _ (List.mem_append_right _ (List.mem_append_right _ (List.mem_append_right _ (List.mem_append_right _ (List.mem_append_left _ h))))))))))))))))))))
theorem wc_10 : ∀ w ∈ wsL_law_r11, w ∈ wsL_law := fun w h => (List.mem_append_left _ (List.mem_append_left _ (List.mem_append_left _ (List.mem_append_left _ (List.mem_append_left _ (List.mem_append_left _ (List.mem_append_left _ (List.mem_append_left _ (List.mem_append_left _ (List.mem_append_left _ (List.mem_append_right _ (List.mem_append_right _ (List.mem_append_right _ (List.mem_append_right _ (List.mem_append_right _ (List.mem_append_right _ (List.mem_append_right _ (List.mem_append_right _ (List.mem_append_right _ (List.mem_append_right _ (List.mem_append_left _ h)))))))))))))))))))))
theorem wc_11 : ∀ w ∈ wsL_law_r12, w ∈ wsL_law := fun w h => (List.mem_append_left _ (List.mem_append_left _ (List.mem_append_left _ (List.mem_append_left _ (List.mem_append_left _ (List.mem_append_left _ (List.mem_append_left _ (List.mem_append_left _ (List.mem_append_left _ (List.mem_append_left _ (List.mem_append_right _ (List.mem_append_right _ (List.mem_append_right _ (List.mem_append_right _ (List.mem_append_right _ (List.mem_append_right _ (List.mem_append_right _ (List.mem_append_right _ (List.mem_append_right _ (List.mem_append_right _ (List.mem_append_right _ (List.mem_append_left _ h))))))))))))))))))))))
theorem wc_12 : ∀ w ∈ wsL_law_r13, w ∈ wsL_law := fun w h => (List.mem_append_left _ (List.mem_append_left _ (List.mem_append_left _ (List.mem_append_left _ (List.mem_append_left _ (List.mem_append_left _ (List.mem_append_left _ (List.mem_append_left _ (List.mem_append_left _ (List.mem_append_left _ (List.mem_append_right _ (List.mem_append_right _ (List.mem_append_right _ (List.mem_append_right _ (List.mem_append_right _ (List.mem_append_right _ (List.mem_append_right _ (List.mem_append_right _ (List.mem_append_right _ (List.mem_append_right _ (List.mem_append_right _ (List.mem_append_right _ (List.mem_append_left _ h)))))))))))))))))))))))
theorem wc_13 : ∀ w ∈ wsL_law_r14, w ∈ wsL_law := fun w h => (List.mem_append_left _ (List.mem_append_left _ (List.mem_append_left _ (List.mem_append_left _ (List.mem_append_left _ (List.mem_append_left _ (List.mem_append_left _ (List.mem_append_left _ (List.mem_append_left _ (List.mem_append_left _ (List.mem_append_right _ (List.mem_append_right _ (List.mem_append_right _ (List.mem_append_right _ (List.mem_append_right _ (List.mem_append_right _ (List.mem_append_right _ (List.mem_append_right _ (List.mem_append_right _ (List.mem_append_right _ (List.mem_append_right _ (List.mem_append_right _ (List.mem_append_right _ (List.mem_append_left _ h))))))))))))))))))))))))
theorem wc_14 : ∀ w ∈ wsL_law_r15, w ∈ wsL_law := fun w h => (List.mem_append_left _ (List.mem_append_left _ (List.mem_append_left _ (List.mem_append_left _ (List.mem_append_left _ (List.mem_append_left _ (List.mem_append_left _ (List.mem_append_left _ (List.mem_append_left _ (List.mem_append_left _ (List.mem_append_right _ (List.mem_append_right _ (List.mem_append_right _ (List.mem_append_right _ (List.mem_append_right _ (List.mem_append_right _ (List.mem_append_right _ (List.mem_append_right _ (List.mem_append_right _ (List.mem_append_right _ (List.mem_append_right _ (List.mem_append_right _ (List.mem_append_right _ (List.mem_append_right _ (List.mem_append_left _ h)))))))))))))))))))))))))
theorem wc_15 : ∀ w ∈ wsL_law_r16, w ∈ wsL_law := fun w h => (List.mem_append_left _ (List.mem_append_left _ (List.mem_append_left _ (List.mem_append_left _ (List.mem_append_left _ (List.mem_append_left _ (List.mem_append_left _ (List.mem_append_left _ (List.mem_append_left _ (List.mem_append_left _ (List.mem_append_right _ (List.mem_append_right _ (List.mem_append_right _ (List.mem_append_right _ (List.mem_append_right _ (List.mem_append_right _ (List.mem_append_right _ (List.mem_append_right _ (List.mem_append_right _ (List.mem_append_right _ (List.mem_append_right _ (List.mem_append_right _ (List.mem_append_right _ (List.mem_append_right _ (List.mem_append_right _ (List.mem_append_left _ h))))))))))))))))))))))))))
theorem wc_16 : ∀ w ∈ wsL_law_r17, w ∈ wsL_law := fun w h => (List.mem_append_left _ (List.mem_append_left _ (List.mem_append_left _ (List.mem_append_left _ (List.mem_append_left _ (List.mem_append_left _ (List.mem_append_left _ (List.mem_append_left _ (List.mem_append_left _ (List.mem_append_left _ (List.mem_append_right _ (List.mem_append_right _ (List.mem_append_right _ (List.mem_append_right _ (List.mem_append_right _ (List.mem_append_right _ (List.mem_append_right _ (List.mem_append_right _ (List.mem_append_right _ (List.mem_append_right _ (List.mem_append_right _ (List.mem_append_right _ (List.mem_append_right _ (List.mem_append_right _ (List.mem_append_right _ (List.mem_append_right _ (List.mem_append_left _ h)))))))))))))))))))))))))))
theorem wc_17 : ∀ w ∈ wsL_law_r18, w ∈ wsL_law := fun w h => (List.mem_append_left _ (List.mem_append_left _ (List.mem_append_left _ (List.mem_append_left _ (List.mem_append_left _ (List.mem_append_left _ (List.mem_append_left _ (List.mem_append_left _ (List.mem_append_left _ (List.mem_append_left _ (List.mem_append_right _ (List.mem_append_right _ (List.mem_append_right _ (List.mem_append_right _ (List.mem_append_right _ (List.mem_append_right _ (List.mem_append_right _ (List.mem_append_right _ (List.mem_append_right _ (List.mem_append_right _ (List.mem_append_right _ (List.mem_append_right _ (List.mem_append_right _ (List.mem_append_right _ (List.mem_append_right _ (List.mem_append_right _ (List.mem_append_right _ (List.mem_append_left _ h))))))))))))))))))))))))))))
theorem wc_18 : ∀ w ∈ wsL_law_r19, w ∈ wsL_law := fun w h => (List.mem_append_left _ (List.mem_append_left _ (List.mem_append_left _ (List.mem_append_left _ (List.mem_append_left _ (List.mem_append_left _ (List.mem_append_left _ (List.mem_append_left _ (List.mem_append_left _ (List.mem_append_left _ (List.mem_append_right _ (List.mem_append_right _ (List.mem_append_right _ (List.mem_append_right _ (List.mem_append_right _ (List.mem_append_right _ (List.mem_append_right _ (List.mem_append_right _ (List.mem_append_right _ (List.mem_append_right _ (List.mem_append_right _ (List.mem_append_right _ (List.mem_append_right _ (List.mem_append_right _ (List.mem_append_right _ (List.mem_append_right _ (List.mem_append_right _ (List.mem_append_right _ (List.mem_append_left _ h)))))))))))))))))))))))))))))
theorem wc_19 : ∀ w ∈ wsL_law_r20, w ∈ wsL_law := fun w h => (List.mem_append_left _ (List.mem_append_left _ (List.mem_append_left _ (List.mem_append_left _ (List.mem_append_left _ (List.mem_append_left _ (List.mem_append_left _ (List.mem_append_left _ (List.mem_append_left _ (List.mem_append_left _ (List.mem_append_right _ (List.mem_append_right _ (List.mem_append_right _ (List.mem_append_right _ (List.mem_append_right _ (List.mem_append_right _ (List.mem_append_right _ (List.mem_append_right _ (List.mem_append_right _ (List.mem_append_right _ (List.mem_append_right _ (List.mem_append_right _ (List.mem_append_right _ (List.mem_append_right _ (List.mem_append_right _ (List.mem_append_right _ (List.mem_append_right _ (List.mem_append_right _ (List.mem_append_right _ (List.mem_append_left _ h))))))))))))))))))))))))))))))
theorem wc_20 : ∀ w ∈ wsL_law_r21, w ∈ wsL_law := fun w h => (List.mem_append_left _ (List.mem_append_left _ (List.mem_append_left _ (List.mem_append_left _ (List.mem_append_left _ (List.mem_append_left _ (List.mem_append_left _ (List.mem_append_left _ (List.mem_append_left _ (List.mem_append_left _ (List.mem_append_right _ (List.mem_append_right _ (List.mem_append_right _ (List.mem_append_right _ (List.mem_append_right _ (List.mem_append_right _ (List.mem_append_right _ (List.mem_append_right _ (List.mem_append_right _ (List.mem_append_right _ (List.mem_append_right _ (List.mem_append_right _ (List.mem_append_right _ (List.mem_append_right _ (List.mem_append_right _ (List.mem_append_right _ (List.mem_append_right _ (List.mem_append_right _ (List.mem_append_right _ (List.mem_append_right _ (List.mem_append_left _ h)))))))))))))))))))))))))))))))
theorem wc_21 : ∀ w ∈ wsL_law_r22, w ∈ wsL_law := fun w h => (List.mem_append_left _ (List.mem_append_left _ (List.mem_append_left _ (List.mem_append_left _ (List.mem_append_left _ (List.mem_append_left _ (List.mem_append_left _ (List.mem_append_left _ (List.mem_append_left _ (List.mem_append_left _ (List.mem_append_right _ (List.mem_append_right _ (List.mem_append_right _ (List.mem_append_right _ (List.mem_append_right _ (List.mem_append_right _ (List.mem_append_right _ (List.mem_append_right _ (List.mem_append_right _ (List.mem_append_right _ (List.mem_append_right _ (List.mem_append_right _ (List.mem_append_right _ (List.mem_append_right _ (List.mem_append_right _ (List.mem_append_right _ (List.mem_append_right _ (List.mem_append_right _ (List.mem_append_right _ (List.mem_append_right _ (List.mem_append_right _ (List.mem_append_left _ h))))))))))))))))))))))))))))))))
theorem wc_22 : ∀ w ∈ wsL_law_r23, w ∈ wsL_law := fun w h => (List.mem_append_left _ (List.mem_append_left _ (List.mem_append_left _ (List.mem_append_left _ (List.mem_append_left _ (List.mem_append_left _ (List.mem_append_left _ (List.mem_append_left _ (List.mem_append_left _ (List.mem_append_left _ (List.mem_append_right _ (List.mem_append_right _ (List.mem_append_right _ (List.mem_append_right _ (List.mem_append_right _ (List.mem_append_right _ (List.mem_append_right _ (List.mem_append_right _ (List.mem_append_right _ (List.mem_append_right _ (List.mem_append_right _ (List.mem_append_right _ (List.mem_append_right _ (List.mem_append_right _ (List.mem_append_right _ (List.mem_append_right _ (List.mem_append_right _ (List.mem_append_right _ (List.mem_append_right _ (List.mem_append_right _ (List.mem_append_right _ (List.mem_append_right _ (List.mem_append_left _ h)))))))))))))))))))))))))))))))))
theorem wc_23 : ∀ w ∈ wsL_law_r24, w ∈ wsL_law := fun w h => (List.mem_append_left _ (List.mem_append_left _ (List.mem_append_left _ (List.mem_append_left _ (List.mem_append_left _ (List.mem_append_left _ (List.mem_append_left _ (List.mem_append_left _ (List.mem_append_left _ (List.mem_append_left _ (List.mem_append_right _ (List.mem_append_right _ (List.mem_append_right _ (List.mem_append_right _ (List.mem_append_right _ (List.mem_append_right _ (List.mem_append_right _ (List.mem_append_right _ (List.mem_append_right _ (List.mem_append_right _ (List.mem_append_right _ (List.mem_append_right _ (List.mem_append_right _ (List.mem_append_right _ (List.mem_append_right _ (List.mem_append_right _ (List.mem_append_right _ (List.mem_append_right _ (List.mem_append_right _ (List.mem_append_right _ (List.mem_append_right _ (List.mem_append_right _ (List.mem_append_right _ (List.mem_append_left _ h))))))))))))))))))))))))))))))))))
theorem wc_24 : ∀ w ∈ wsL_law_r25, w ∈ wsL_law := fun w h => (List.mem_append_left _ (List.mem_append_left _ (List.mem_append_left _ (List.mem_append_left _ (List.mem_append_left _ (List.mem_append_left _ (List.mem_append_left _ (List.mem_append_left _ (List.mem_append_left _ (List.mem_append_left _ (List.mem_append_right _ (List.mem_append_right _ (List.mem_append_right _ (List.mem_append_right _ (List.mem_append_right _ (List.mem_append_right _ (List.mem_append_right _ (List.mem_append_right _ (List.mem_append_right _ (List.mem_append_right _ (List.mem_append_right _ (List.mem_append_right _ (List.mem_append_right _ (List.mem_append_right _ (List.mem_append_right _ (List.mem_append_right _ (List.mem_append_right _ (List.mem_append_right _ (List.mem_append_right _ (List.mem_append_right _ (List.mem_append_right _ (List.mem_append_right _ (List.mem_append_right _ (List.mem_append_right _ (List.mem_append_left _ h)))))))))))))))))))))))))))))))))))
theorem wc_25 : ∀ w ∈ wsL_law_r26, w ∈ wsL_law := fun w h => (List.mem_append_left _ (List.mem_append_left _ (List.mem_append_left _ (List.mem_append_left _ (List.mem_append_left _ (List.mem_append_left _ (List.mem_append_left _ (List.mem_append_left _ (List.mem_append_left _ (List.mem_append_left _ (List.mem_append_right _ (List.mem_append_right _ (List.mem_append_right _ (List.mem_append_right _ (List.mem_append_right _ (List.mem_append_right _ (List.mem_append_right _ (List.mem_append_right _ (List.mem_append_right _ (List.mem_append_right _ (List.mem_append_right _ (List.mem_append_right _ (List.mem_append_right _ (List.mem_append_right _ (List.mem_append_right _ (List.mem_append_right _ (List.mem_append_right _ (List.mem_append_right _ (List.mem_append_right _ (List.mem_append_right _ (List.mem_append_right _ (List.mem_append_right _ (List.mem_append_right _ (List.mem_append_right _ (List.mem_append_right _ (List.mem_append_left _ h))))))))))))))))))))))))))))))))))))
theorem wc_26 : ∀ w ∈ wsL_law_r27, w ∈ wsL_law := fun w h => (List.mem_append_left _ (List.mem_append_left _ (List.mem_append_left _ (List.mem_append_left _ (List.mem_append_left _ (List.mem_append_left _ (List.mem_append_left _ (List.mem_append_left _ (List.mem_append_left _ (List.mem_append_left _ (List.mem_append_right _ (List.mem_append_right _ (List.mem_append_right _ (List.mem_append_right _ (List.mem_append_right _ (List.mem_append_right _ (List.mem_append_right _ (List.mem_append_right _ (List.mem_append_right _ (List.mem_append_right _ (List.mem_append_right _ (List.mem_append_right _ (List.mem_append_right _ (List.mem_append_right _ (List.mem_append_right _ (List.mem_append_right _ (List.mem_append_right _ (List.mem_append_right _ (List.mem_append_right _ (List.mem_append_right _ (List.mem_append_right _ (List.mem_append_right _ (List.mem_append_right _ (List.mem_append_right _ (List.mem_append_right _ (List.mem_append_right _ (List.mem_append_left _ h)))))))))))))))))))))))))))))))))))))
theorem wc_27 : ∀ w ∈ wsL_law_r28, w ∈ wsL_law := fun w h => (List.mem_append_left _ (List.mem_append_left _ (List.mem_append_left _ (List.mem_append_left _ (List.mem_append_left _ (List.mem_append_left _ (List.mem_append_left _ (List.mem_append_left _ (List.mem_append_left _ (List.mem_append_left _ (List.mem_append_right _ (List.mem_append_right _ (List.mem_append_right _ (List.mem_append_right _ (List.mem_append_right _ (List.mem_append_right _ (List.mem_append_right _ (List.mem_append_right _ (List.mem_append_right _ (List.mem_append_right _ (List.mem_append_right _ (List.mem_append_right _ (List.mem_append_right _ (List.mem_append_right _ (List.mem_append_right _ (List.mem_append_right _ (List.mem_append_right _ (List.mem_append_right _ (List.mem_append_right _ (List.mem_append_right _ (List.mem_append_right _ (List.mem_append_right _ (List.mem_append_right _ (List.mem_append_right _ (List.mem_append_right _ (List.mem_append_right _ (List.mem_append_right _ (List.mem_append_left _ h))))))))))))))))))))))))))))))))))))))
theorem wc_28 : ∀ w ∈ wsL_law_r29, w ∈ wsL_law := fun w h => (List.mem_append_left _ (List.mem_append_left _ (List.mem_append_left _ (List.mem_append_left _ (List.mem_append_left _ (List.mem_append_left _ (List.mem_append_left _ (List.mem_append_left _ (List.mem_append_left _ (List.mem_append_left _ (List.mem_append_right _ (List.mem_append_right _ (List.mem_append_right _ (List.mem_append_right _ (List.mem_append_right _ (List.mem_append_right _ (List.mem_append_right _ (List.mem_append_right _ (List.mem_append_right _ (List.mem_append_right _ (List.mem_append_right _ (List.mem_append_right _ (List.mem_append_right _ (List.mem_append_right _ (List.mem_append_right _ (List.mem_append_right _ (List.mem_append_right _ (List.mem_append_right _ (List.mem_append_right _ (List.mem_append_right _ (List.mem_append_right _ (List.mem_append_right _ (List.mem_append_right _ (List.mem_append_right _ (List.mem_append_right _ (List.mem_append_right _ (List.mem_append_right _ (List.mem_append_right _ (List.mem_append_left _ h)))))))))))))))))))))))))))))))))))))))
theorem wc_29 : ∀ w ∈ wsL_law_r30, w ∈ wsL_law := fun w h => (List.mem_append_left _ (List.mem_append_left _ (List.mem_append_left _ (List.mem_append_left _ (List.mem_append_left _ (List.mem_append_left _ (List.mem_append_left _ (List.mem_append_left _ (List.mem_append_left _ (List.mem_append_left _ (List.mem_append_right _ (List.mem_append_right _ (List.mem_append_right _ (List.mem_append_right _ (List.mem_append_right _ (List.mem_append_right _ (List.mem_append_right _ (List.mem_append_right _ (List.mem_append_right _ (List.mem_append_right _ (List.mem_append_right _ (List.mem_append_right _ (List.mem_append_right _ (List.mem_append_right _ (List.mem_append_right _ (List.mem_append_right _ (List.mem_append_right _ (List.mem_append_right _ (List.mem_append_right _ (List.mem_append_right _ (List.mem_append_right _ (List.mem_append_right _ (List.mem_append_right _ (List.mem_append_right _ (List.mem_append_right _ (List.mem_append_right _ (List.mem_append_right _ (List.mem_append_right _ (List.mem_append_right _ (List.mem_append_left _ h))))))))))))))))))))))))))))))))))))))))
theorem wc_30 : ∀ w ∈ wsL_law_r31, w ∈ wsL_law := fun w h => (List.mem_append_left _ (List.mem_append_left _ (List.mem_append_left _ (List.mem_append_left _ (List.mem_append_left _ (List.mem_append_left _ (List.mem_append_left _ (List.mem_append_left _ (List.mem_append_left _ (List.mem_append_left _ (List.mem_append_right _ (List.mem_append_right _ (List.mem_append_right _ (List.mem_append_right _ (List.mem_append_right _ (List.mem_append_right _ (List.mem_append_right _ (List.mem_append_right _ (List.mem_append_right _ (List.mem_append_right _ (List.mem_append_right _ (List.mem_append_right _ (List.mem_append_right _ (List.mem_append_right _ (List.mem_append_right _ (List.mem_append_right _ (List.mem_append_right _ (List.mem_append_right _ (List.mem_append_right _ (List.mem_append_right _ (List.mem_append_right _ (List.mem_append_right _ (List.mem_append_right _ (List.mem_append_right _ (List.mem_append_right _ (List.mem_append_right _ (List.mem_append_right _ (List.mem_append_right _ (List.mem_append_right _ (List.mem_append_right _ (List.mem_append_left _ h)))))))))))))))))))))))))))))))))))))))))
theorem wc_31 : ∀ w ∈ wsL_law_r32, w ∈ wsL_law := fun w h => (List.mem_append_left _ (List.mem_append_left _ (List.mem_append_left _ (List.mem_append_left _ (List.mem_append_left _ (List.mem_append_left _ (List.mem_append_left _ (List.mem_append_left _ (List.mem_append_left _ (List.mem_append_left _ (List.mem_append_right _ (List.mem_append_right _ (List.mem_append_right _ (List.mem_append_right _ (List.mem_append_right _ (List.mem_append_right _ (List.mem_append_right _ (List.mem_append_right _ (List.mem_append_right _ (List.mem_append_right _ (List.mem_append_right _ (List.mem_append_right _ (List.mem_append_right _ (List.mem_append_right _ (List.mem_append_right _ (List.mem_append_right _ (List.mem_append_right _ (List.mem_append_right _ (List.mem_append_right _ (List.mem_append_right _ (List.mem_append_right _ (List.mem_append_right _ (List.mem_append_right _ (List.mem_append_right _ (List.mem_append_right _ (List.mem_append_right _ (List.mem_append_right _ (List.mem_append_right _ (List.mem_append_right _ (List.mem_append_right _ (List.mem_append_right _ (List.mem_append_left _ h))))))))))))))))))))))))))))))))))))))))))
theorem wc_32 : ∀ w ∈ wsL_law_r33, w ∈ wsL_law := fun w h => (List.mem_append_left _ (List.mem_append_left _ (List.mem_append_left _ (List.mem_append_left _ (List.mem_append_left _ (List.mem_append_left _ (List.mem_append_left _ (List.mem_append_left _ (List.mem_append_left _ (List.mem_append_left _ (List.mem_append_right _ (List.mem_append_right _ (List.mem_append_right _ (List.mem_append_right _ (List.mem_append_right _ (List.mem_append_right _ (List.mem_append_right _ (List.mem_append_right _ (List.mem_append_right _ (List.mem_append_right _ (List.mem_append_right _ (List.mem_append_right _ (List.mem_append_right _ (List.mem_append_right _ (List.mem_append_right _ (List.mem_append_right _ (List.mem_append_right _ (List.mem_append_right _ (List.mem_append_right _ (List.mem_append_right _ (List.mem_append_right _ (List.mem_append_right _ (List.mem_append_right _ (List.mem_append_right _ (List.mem_append_right _ (List.mem_append_right _ (List.mem_append_right _ (List.mem_append_right _ (List.mem_append_right _ (List.mem_append_right _ (List.mem_append_right _ (List.mem_append_right _ (List.mem_append_left _ h)))))))))))))))))))))))))))))))))))))))))))
theorem wc_33 : ∀ w ∈ wsL_law_r34, w ∈ wsL_law := fun w h => (List.mem_append_left _ (List.mem_append_left _ (List.mem_append_left _ (List.mem_append_left _ (List.mem_append_left _ (List.mem_append_left _ (List.mem_append_left _ (List.mem_append_left _ (List.mem_append_left _ (List.mem_append_left _ (List.mem_append_right _ (List.mem_append_right _ (List.mem_append_right _ (List.mem_append_right _ (List.mem_append_right _ (List.mem_append_right _ (List.mem_append_right _ (List.mem_append_right _ (List.mem_append_right _ (List.mem_append_right _ (List.mem_append_right _ (List.mem_append_right _ (List.mem_append_right _ (List.mem_append_right _ (List.mem_append_right _ (List.mem_append_right _ (List.mem_append_right _ (List.mem_append_right _ (List.mem_append_right _ (List.mem_append_right _ (List.mem_append_right _ (List.mem_append_right _ (List.mem_append_right _ (List.mem_append_right _ (List.mem_append_right _ (List.mem_append_right _ (List.mem_append_right _ (List.mem_append_right _ (List.mem_append_right _ (List.mem_append_right _ (List.mem_append_right _ (List.mem_append_right _ (List.mem_append_right _ (List.mem_append_left _ h))))))))))))))))))))))))))))))))))))))))))))
theorem wc_34 : ∀ w ∈ wsL_law_r35, w ∈ wsL_law := fun w h => (List.mem_append_left _ (List.mem_append_left _ (List.mem_append_left _ (List.mem_append_left _ (List.mem_append_left _ (List.mem_append_left _ (List.mem_append_left _ (List.mem_append_left _ (List.mem_append_left _ (List.mem_append_left _ (List.mem_append_right _ (List.mem_append_right _ (List.mem_append_right _ (List.mem_append_right _ (List.mem_append_right _ (List.mem_append_right _ (List.mem_append_right _ (List.mem_append_right _ (List.mem_append_right _ (List.mem_append_right _ (List.mem_append_right _ (List.mem_append_right _ (List.mem_append_right _ (List.mem_append_right _ (List.mem_append_right _ (List.mem_append_right _ (List.mem_append_right _ (List.mem_append_right _ (List.mem_append_right _ (List.mem_append_right _ (List.mem_append_right _ (List.mem_append_right _ (List.mem_append_right _ (List.mem_append_right _ (List.mem_append_right _ (List.mem_append_right _ (List.mem_append_right _ (List.mem_append_right _ (List.mem_append_right _ (List.mem_append_right _ (List.mem_append_right _ (List.mem_append_right _ (List.mem_append_right _ (List.mem_append_right _ (List.mem_append_left _ h)))))))))))))))))))))))))))))))))))))))))))))
theorem wc_35 : ∀ w ∈ wsL_law_r36, w ∈ wsL_law := fun w h => (List.mem_append_left _ (List.mem_append_left _ (List.mem_append_left _ (List.mem_append_left _ (List.mem_append_left _ (List.mem_append_left _ (List.mem_append_left _ (List.mem_append_left _ (List.mem_append_left _ (List.mem_append_left _ (List.mem_append_right _ (List.mem_append_right _ (List.mem_append_right _ (List.mem_append_right _ (List.mem_append_right _ (List.mem_append_right _ (List.mem_append_right _ (List.mem_append_right _ (List.mem_append_right _ (List.mem_append_right _ (List.mem_append_right _ (List.mem_append_right _ (List.mem_append_right _ (List.mem_append_right _ (List.mem_append_right _ (List.mem_append_right _ (List.mem_append_right _ (List.mem_append_right _ (List.mem_append_right _ (List.mem_append_right _ (List.mem_append_right _ (List.mem_append_right _ (List.mem_append_right _ (List.mem_append_right _ (List.mem_append_right _ (List.mem_append_right _ (List.mem_append_right _ (List.mem_append_right _ (List.mem_append_right _ (List.mem_append_right _ (List.mem_append_right _ (List.mem_append_right _ (List.mem_append_right _ (List.mem_append_right _ (List.mem_append_right _ (List.mem_append_left _ h))))))))))))))))))))))))))))))))))))))))))))))
theorem wc_36 : ∀ w ∈ wsL_law_r37, w ∈ wsL_law := fun w h => (List.mem_append_left _ (List.mem_append_left _ (List.mem_append_left _ (List.mem_append_left _ (List.mem_append_left _ (List.mem_append_left _ (List.mem_append_left _ (List.mem_append_left _ (List.mem_append_left _ (List.mem_append_left _ (List.mem_append_right _ (List.mem_append_right _ (List.mem_append_right _ (List.mem_append_right _ (List.mem_append_right _ (List.mem_append_right _ (List.mem_append_right _ (List.mem_append_right _ (List.mem_append_right _ (List.mem_append_right _ (List.mem_append_right _ (List.mem_append_right _ (List.mem_append_right _ (List.mem_append_right _ (List.mem_append_right _ (List.mem_append_right _ (List.mem_append_right _ (List.mem_append_right _ (List.mem_append_right _ (List.mem_append_right _ (List.mem_append_right _ (List.mem_append_right _ (List.mem_append_right _ (List.mem_append_right _ (List.mem_append_right _ (List.mem_append_right _ (List.mem_append_right _ (List.mem_append_right _ (List.mem_append_right _ (List.mem_append_right _ (List.mem_append_right _ (List.mem_append_right _ (List.mem_append_right _ (List.mem_append_right _ (List.mem_append_right _ (List.mem_append_right _ (List.mem_append_left _ h)))))))))))))))))))))))))))))))))))))))))))))))
theorem wc_37 : ∀ w ∈ wsL_law_r38, w ∈ wsL_law := fun w h => (List.mem_append_left _ (List.mem_append_left _ (List.mem_append_left _ (List.mem_append_left _ (List.mem_append_left _ (List.mem_append_left _ (List.mem_append_left _ (List.mem_append_left _ (List.mem_append_left _ (List.mem_append_left _ (List.mem_append_right _ (List.mem_append_right _ (List.mem_append_right _ (List.mem_append_right _ (List.mem_append_right _ (List.mem_append_right _ (List.mem_append_right _ (List.mem_append_right _ (List.mem_append_right _ (List.mem_append_right _ (List.mem_append_right _ (List.mem_append_right _ (List.mem_append_right _ (List.mem_append_right _ (List.mem_append_right _ (List.mem_append_right _ (List.mem_append_right _ (List.mem_append_right _ (List.mem_append_right _ (List.mem_append_right _ (List.mem_append_right _ (List.mem_append_right _ (List.mem_append_right _ (List.mem_append_right _ (List.mem_append_right _ (List.mem_append_right _ (List.mem_append_right _ (List.mem_append_right _ (List.mem_append_right _ (List.mem_append_right _ (List.mem_append_right _ (List.mem_append_right _ (List.mem_append_right _ (List.mem_append_right _ (List.mem_append_right _ (List.mem_append_right _ (List.mem_append_right _ (List.mem_append_left _ h))))))))))))))))))))))))))))))))))))))))))))))))
theorem wc_38 : ∀ w ∈ wsL_law_r39, w ∈ wsL_law := fun w h => (List.mem_append_left _ (List.mem_append_left _ (List.mem_append_left _ (List.mem_append_left _ (List.mem_append_left _ (List.mem_append_left _ (List.mem_append_left _ (List.mem_append_left _ (List.mem_append_left _ (List.mem_append_left _ (List.mem_append_right _ (List.mem_append_right _ (List.mem_append_right _ (List.mem_append_right _ (List.mem_append_right _ (List.mem_append_right _ (List.mem_append_right _ (List.mem_append_right _ (List.mem_append_right _ (List.mem_append_right _ (List.mem_append_right _ (List.mem_append_right _ (List.mem_append_right _ (List.mem_append_right _ (List.mem_append_right _ (List.mem_append_right _ (List.mem_append_right _ (List.mem_append_right _ (List.mem_append_right _ (List.mem_append_right _ (List.mem_append_right _ (List.mem_append_right _ (List.mem_append_right _ (List.mem_append_right _ (List.mem_append_right _ (List.mem_append_right _ (List.mem_append_right _ (List.mem_append_right _ (List.mem_append_right _ (List.mem_append_right _ (List.mem_append_right _ (List.mem_append_right _ (List.mem_append_right _ (List.mem_append_right _ (List.mem_append_right _ (List.mem_append_right _ (List.mem_append_right _ (List.mem_append_right _ (List.mem_append_left _ h)))))))))))))))))))))))))))))))))))))))))))))))))
theorem wc_39 : ∀ w ∈ wsL_law_r40, w ∈ wsL_law := fun w h => (List.mem_append_left _ (List.mem_append_left _ (List.mem_append_left _ (List.mem_append_left _ (List.mem_append_left _ (List.mem_append_left _ (List.mem_append_left _ (List.mem_append_left _ (List.mem_append_left _ (List.mem_append_left _ (List.mem_append_right _ (List.mem_append_right _ (List.mem_append_right _ (List.mem_append_right _ (List.mem_append_right _ (List.mem_append_right _ (List.mem_append_right _ (List.mem_append_right _ (List.mem_append_right _ (List.mem_append_right _ (List.mem_append_right _ (List.mem_append_right _ (List.mem_append_right _ (List.mem_append_right _ (List.mem_append_right _ (List.mem_append_right _ (List.mem_append_right _ (List.mem_append_right _ (List.mem_append_right _ (List.mem_append_right _ (List.mem_append_right _ (List.mem_append_right _ (List.mem_append_right _ (List.mem_append_right _ (List.mem_append_right _ (List.mem_append_right _ (List.mem_append_right _ (List.mem_append_right _ (List.mem_append_right _ (List.mem_append_right _ (List.mem_append_right _ (List.mem_append_right _ (List.mem_append_right _ (List.mem_append_right _ (List.mem_append_right _ (List.mem_append_right _ (List.mem_append_right _ (List.mem_append_right _ (List.mem_append_right _ (List.mem_append_left _ h))))))))))))))))))))))))))))))))))))))))))))))))))
theorem wc_40 : ∀ w ∈ wsL_law_r41, w ∈ wsL_law := fun w h => (List.mem_append_left _ (List.mem_append_left _ (List.mem_append_left _ (List.mem_append_left _ (List.mem_append_left _ (List.mem_append_left _ (List.mem_append_left _ (List.mem_append_left _ (List.mem_append_left _ (List.mem_append_left _ (List.mem_append_right _ (List.mem_append_right _ (List.mem_append_right _ (List.mem_append_right _ (List.mem_append_right _ (List.mem_append_right _ (List.mem_append_right _ (List.mem_append_right _ (List.mem_append_right _ (List.mem_append_right _ (List.mem_append_right _ (List.mem_append_right _ (List.mem_append_right _ (List.mem_append_right _ (List.mem_append_right _ (List.mem_append_right _ (List.mem_append_right _ (List.mem_append_right _ (List.mem_append_right _ (List.mem_append_right _ (List.mem_append_right _ (List.mem_append_right _ (List.mem_append_right _ (List.mem_append_right _ (List.mem_append_right _ (List.mem_append_right _ (List.mem_append_right _ (List.mem_append_right _ (List.mem_append_right _ (List.mem_append_right _ (List.mem_append_right _ (List.mem_append_right _ (List.mem_append_right _ (List.mem_append_right _ (List.mem_append_right _ (List.mem_append_right _ (List.mem_append_right _ (List.mem_append_right _ (List.mem_append_right _ (List.mem_append_right _ (List.mem_append_left _ h)))))))))))))))))))))))))))))))))))))))))))))))))))
theorem wc_41 : ∀ w ∈ wsL_law_r42, w ∈ wsL_law := fun w h => (List.mem_append_left _ (List.mem_append_left _ (List.mem_append_left _ (List.mem_append_left _ (List.mem_append_left _ (List.mem_append_left _ (List.mem_append_left _ (List.mem_append_left _ (List.mem_append_left _ (List.mem_append_left _ (List.mem_append_right _ (List.mem_append_right _ (List.mem_append_right _ (List.mem_append_right _ (List.mem_append_right _ (List.mem_append_right _ (List.mem_append_right _ (List.mem_append_right _ (List.mem_append_right _ (List.mem_append_right _ (List.mem_append_right _ (List.mem_append_right _ (List.mem_append_right _ (List.mem_append_right _ (List.mem_append_right _ (List.mem_append_right _ (List.mem_append_right _ (List.mem_append_right _ (List.mem_append_right _ (List.mem_append_right _ (List.mem_append_right _ (List.mem_append_right _ (List.mem_append_right _ (List.mem_append_right _ (List.mem_append_right _ (List.mem_append_right _ (List.mem_append_right _ (List.mem_append_right _ (List.mem_append_right _ (List.mem_append_right _ (List.mem_append_right _ (List.mem_append_right _ (List.mem_append_right _ (List.mem_append_right _ (List.mem_append_right _ (List.mem_append_right _ (List.mem_append_right _ (List.mem_append_right _ (List.mem_append_right _ (List.mem_append_right _ (List.mem_append_right _ (List.mem_append_left _ h))))))))))))))))))))))))))))))))))))))))))))))))))))
theorem wc_42 : ∀ w ∈ wsL_law_r43, w ∈ wsL_law := fun w h => (List.mem_append_left _ (List.mem_append_left _ (List.mem_append_left _ (List.mem_append_left _ (List.mem_append_left _ (List.mem_append_left _ (List.mem_append_left _ (List.mem_append_left _ (List.mem_append_left _ (List.mem_append_left _ (List.mem_append_right _ (List.mem_append_right _ (List.mem_append_right _ (List.mem_append_right _ (List.mem_append_right _ (List.mem_append_right _ (List.mem_append_right _ (List.mem_append_right _ (List.mem_append_right _ (List.mem_append_right _ (List.mem_append_right _ (List.mem_append_right _ (List.mem_append_right _ (List.mem_append_right _ (List.mem_append_right _ (List.mem_append_right _ (List.mem_append_right _ (List.mem_append_right _ (List.mem_append_right _ (List.mem_append_right _ (List.mem_append_right _ (List.mem_append_right _ (List.mem_append_right _ (List.mem_append_right _ (List.mem_append_right _ (List.mem_append_right _ (List.mem_append_right _ (List.mem_append_right _ (List.mem_append_right _ (List.mem_append_right _ (List.mem_append_right _ (List.mem_append_right _ (List.mem_append_right _ (List.mem_append_right _ (List.mem_append_right _ (List.mem_append_right _ (List.mem_append_right _ (List.mem_append_right _ (List.mem_append_right _ (List.mem_append_right _ (List.mem_append_right _ (List.mem_append_right _ (List.mem_append_left _ h)))))))))))))))))))))))))))))))))))))))))))))))))))))
theorem wc_43 : ∀ w ∈ wsL_law_r44, w ∈ wsL_law := fun w h => (List.mem_append_left _ (List.mem_append_left _ (List.mem_append_left _ (List.mem_append_left _ (List.mem_append_left _ (List.mem_append_left _ (List.mem_append_left _ (List.mem_append_left _ (List.mem_append_left _ (List.mem_append_left _ (List.mem_append_right _ (List.mem_append_right _ (List.mem_append_right _ (List.mem_append_right _ (List.mem_append_right _ (List.mem_append_right _ (List.mem_append_right _ (List.mem_append_right _ (List.mem_append_right _ (List.mem_append_right _ (List.mem_append_right _ (List.mem_append_right _ (List.mem_append_right _ (List.mem_append_right _ (List.mem_append_right _ (List.mem_append_right _ (List.mem_append_right _ (List.mem_append_right _ (List.mem_append_right _ (List.mem_append_right _ (List.mem_append_right _ (List.mem_append_right _ (List.mem_append_right _ (List.mem_append_right _ (List.mem_append_right _ (List.mem_append_right _ (List.mem_append_right _ (List.mem_append_right _ (List.mem_append_right _ (List.mem_append_right _ (List.mem_append_right _ (List.mem_append_right _ (List.mem_append_right _ (List.mem_append_right _ (List.mem_append_right _ (List.mem_append_right _ (List.mem_append_right _ (List.mem_append_right _ (List.mem_append_right _ (List.mem_append_right _ (List.mem_append_right _ (List.mem_append_right _ (List.mem_append_right _ h)))))))))))))))))))))))))))))))))))))))))))))))))))))
theorem inlX7 : ∀ w ∈ u_ws RX7 TX7 4, w ∈ wsL_law := fun w h => (List.mem_append_left _ (List.mem_append_left _ (List.mem_append_left _ (List.mem_append_left _ (List.mem_append_left _ (List.mem_append_left _ (List.mem_append_left _ (List.mem_append_left _ (List.mem_append_left _ (List.mem_append_right _ h))))))))))
theorem inlX8 : ∀ w ∈ u_ws RX8 TX8 16, w ∈ wsL_law := fun w h => (List.mem_append_left _ (List.mem_append_left _ (List.mem_append_left _ (List.mem_append_left _ (List.mem_append_left _ (List.mem_append_left _ (List.mem_append_left _ (List.mem_append_left _ (List.mem_append_right _ h)))))))))
theorem inlX5 : ∀ w ∈ u_ws RX5 TX5 13, w ∈ wsL_law := fun w h => (List.mem_append_left _ (List.mem_append_left _ (List.mem_append_left _ (List.mem_append_left _ (List.mem_append_left _ (List.mem_append_left _ (List.mem_append_left _ (List.mem_append_right _ h))))))))
theorem inlX1 : ∀ w ∈ u_ws RX1 TX1 3, w ∈ wsL_law := fun w h => (List.mem_append_left _ (List.mem_append_left _ (List.mem_append_left _ (List.mem_append_left _ (List.mem_append_left _ (List.mem_append_left _ (List.mem_append_right _ h)))))))
theorem inlX2 : ∀ w ∈ u_ws RX2 TX2 7, w ∈ wsL_law := fun w h => (List.mem_append_left _ (List.mem_append_left _ (List.mem_append_left _ (List.mem_append_left _ (List.mem_append_left _ (List.mem_append_right _ h))))))
theorem inlX3 : ∀ w ∈ u_ws RX3 TX3 3, w ∈ wsL_law := fun w h => (List.mem_append_left _ (List.mem_append_left _ (List.mem_append_left _ (List.mem_append_left _ (List.mem_append_right _ h)))))
theorem inlX0 : ∀ w ∈ u_ws RX0 TX0 5, w ∈ wsL_law := fun w h => (List.mem_append_left _ (List.mem_append_left _ (List.mem_append_left _ (List.mem_append_right _ h))))
theorem inlX4 : ∀ w ∈ u_ws RX4 TX4 3, w ∈ wsL_law := fun w h => (List.mem_append_left _ (List.mem_append_left _ (List.mem_append_right _ h)))
theorem inlX6 : ∀ w ∈ u_ws RX6 TX6 3, w ∈ wsL_law := fun w h => (List.mem_append_left _ (List.mem_append_right _ h))
theorem all_good : ∀ w ∈ wsL_law, (w.onTables && w.keeps) = true ∨ ∃ ty, w = .arrayClass ty := fun w h => good_of_word (List.all_eq_true.mp (by decide +kernel : wsL_law.all goodWord = true) w h)
theorem gA {big : List Cond} (hb : ∀ w ∈ wsL_law, w ∈ big) {l : List Cond} (hl : ∀ w ∈ l, w ∈ wsL_law) : GoodIn big l := fun w h => ⟨hb w (hl w h), all_good w (hl w h)⟩
theorem gA_c {c : Cond} (hc : c ∈ wsL_law) : ∀ w ∈ c :: wsL_law, w ∈ wsL_law := fun w h => (List.mem_cons.mp h).elim (fun e => e ▸ hc) id
theorem gAV {big : List Cond} (hb : ∀ w ∈ wsL_law, w ∈ big) {own C : String} {idx : Nat} {y : MethodName} {c : Cond} (h1 : Cond.methodLink own idx y ∈ wsL_law) (h2 : Cond.instanceMethod y ∈ wsL_law) (h3 : Cond.selects C y y ∈ wsL_law) (h4 : Cond.initialized C ∈ wsL_law) (h5 : c ∈ wsL_law) : GoodIn big (wsV own idx C y (c :: wsL_law)) := gA hb (List.forall_mem_cons.mpr ⟨h1, List.forall_mem_cons.mpr ⟨h2, List.forall_mem_cons.mpr ⟨h3, List.forall_mem_cons.mpr ⟨h4, gA_c h5⟩⟩⟩⟩)
theorem gAS {big : List Cond} (hb : ∀ w ∈ wsL_law, w ∈ big) {own : String} {idx : Nat} {y : MethodName} {c : Cond} (h1 : Cond.methodLink own idx y ∈ wsL_law) (h2 : Cond.static y ∈ wsL_law) (h4 : Cond.initialized y.cls ∈ wsL_law) (h5 : c ∈ wsL_law) : GoodIn big (va_wsS own idx y (c :: wsL_law)) := gA hb (List.forall_mem_cons.mpr ⟨h1, List.forall_mem_cons.mpr ⟨h2, List.forall_mem_cons.mpr ⟨h4, gA_c h5⟩⟩⟩)
def aJ0_coder_7d493 : List Cond := .code yJ0_coder_7d493 cJ0_coder_7d493 1 (some .byte) :: wsL_law
def aJ0_indexOf_0f7a4 : List Cond := .code yJ0_indexOf_0f7a4 cJ0_indexOf_0f7a4 2 (some .int) :: wsL_law
def aJ0_indexOf_7cf53 : List Cond := .code yJ0_indexOf_7cf53 cJ0_indexOf_7cf53 3 (some .int) :: wsL_law
def aJ0_isLatin1_aae02 : List Cond := .code yJ0_isLatin1_aae02 cJ0_isLatin1_aae02 1 (some .boolean) :: wsL_law
def aJ0_length_8abf5 : List Cond := .code yJ0_length_8abf5 cJ0_length_8abf5 1 (some .int) :: wsL_law
def aJ1_canEncode_9a6ad : List Cond := .code yJ1_canEncode_9a6ad cJ1_canEncode_9a6ad 1 (some .boolean) :: wsL_law
def aJ1_indexOfChar_4cfef : List Cond := .code yJ1_indexOfChar_4cfef cJ1_indexOfChar_4cfef 6 (some .int) :: wsL_law
def aJ1_indexOf_4cfef : List Cond := .code yJ1_indexOf_4cfef cJ1_indexOf_4cfef 4 (some .int) :: wsL_law
def aX0_add : List Cond := .code yX0_add cX0_add 3 none :: wsL_law
def aX0_addCount : List Cond := .code yX0_addCount cX0_addCount 4 none :: wsL_law
def aX0_balanceAt : List Cond := .code yX0_balanceAt cX0_balanceAt 2 (some .int) :: wsL_law
def aX0_copyFrom : List Cond := .code yX0_copyFrom cX0_copyFrom 2 none :: wsL_law
def aX0_copyRow : List Cond := .code yX0_copyRow cX0_copyRow 3 none :: wsL_law
def aX0_countAt : List Cond := .code yX0_countAt cX0_countAt 2 (some .long) :: wsL_law
def aX0_find : List Cond := .code yX0_find cX0_find 3 (some .int) :: wsL_law
def aX0_init : List Cond := .code yX0_init cX0_init 1 none :: wsL_law
def aX0_insert : List Cond := .code yX0_insert cX0_insert 4 none :: wsL_law
def aX0_isPlace : List Cond := .code yX0_isPlace cX0_isPlace 2 (some .boolean) :: wsL_law
def aX0_move : List Cond := .code yX0_move cX0_move 3 none :: wsL_law
def aX0_movedAt : List Cond := .code yX0_movedAt cX0_movedAt 2 (some .int) :: wsL_law
def aX0_numberAt : List Cond := .code yX0_numberAt cX0_numberAt 2 (some .int) :: wsL_law
def aX0_remove : List Cond := .code yX0_remove cX0_remove 3 none :: wsL_law
def aX0_sumOfBalances : List Cond := .code yX0_sumOfBalances cX0_sumOfBalances 4 (some .long) :: wsL_law
def aX1_init : List Cond := .code yX1_init cX1_init 2 none :: wsL_law
def aX1_keep : List Cond := .code yX1_keep cX1_keep 1 none :: wsL_law
def aX1_prepare : List Cond := .code yX1_prepare cX1_prepare 3 none :: wsL_law
def aX1_restoreLatest : List Cond := .code yX1_restoreLatest cX1_restoreLatest 3 (some .int) :: wsL_law
def aX1_slotAt : List Cond := .code yX1_slotAt cX1_slotAt 2 (some (.object "ClientMoneyBook$State")) :: wsL_law
def aX2_append : List Cond := .code yX2_append cX2_append 2 (some .int) :: wsL_law
def aX2_at : List Cond := .code yX2_at cX2_at 2 (some .char) :: wsL_law
def aX2_empty : List Cond := .code yX2_empty cX2_empty 2 (some .int) :: wsL_law
def aX2_firstError : List Cond := .code yX2_firstError cX2_firstError 6 (some .int) :: wsL_law
def aX2_init : List Cond := .code yX2_init cX2_init 1 none :: wsL_law
def aX2_isDigit : List Cond := .code yX2_isDigit cX2_isDigit 1 (some .boolean) :: wsL_law
def aX2_readNumber : List Cond := .code yX2_readNumber cX2_readNumber 3 (some .int) :: wsL_law
def aX2_readOrder : List Cond := .code yX2_readOrder cX2_readOrder 1 (some .boolean) :: wsL_law
def aX2_signAfter : List Cond := .code yX2_signAfter cX2_signAfter 2 (some .char) :: wsL_law
def aX2_startReading : List Cond := .code yX2_startReading cX2_startReading 1 none :: wsL_law
def aX3_clientAt : List Cond := .code yX3_clientAt cX3_clientAt 2 (some .int) :: wsL_law
def aX3_init : List Cond := .code yX3_init cX3_init 1 none :: wsL_law
def aX3_keyOf : List Cond := .code yX3_keyOf cX3_keyOf 3 (some .int) :: wsL_law
def aX3_sort : List Cond := .code yX3_sort cX3_sort 6 none :: wsL_law
def aX4_append : List Cond := .code yX4_append cX4_append 5 (some .int) :: wsL_law
def aX4_copyFrom : List Cond := .code yX4_copyFrom cX4_copyFrom 2 none :: wsL_law
def aX4_countOf : List Cond := .code yX4_countOf cX4_countOf 4 (some .int) :: wsL_law
def aX4_find : List Cond := .code yX4_find cX4_find 3 (some .int) :: wsL_law
def aX4_get : List Cond := .code yX4_get cX4_get 3 (some .int) :: wsL_law
def aX4_init : List Cond := .code yX4_init cX4_init 1 none :: wsL_law
def aX4_remove : List Cond := .code yX4_remove cX4_remove 4 none :: wsL_law
def aX4_set : List Cond := .code yX4_set cX4_set 4 none :: wsL_law
def aX4_sumOf : List Cond := .code yX4_sumOf cX4_sumOf 5 (some .int) :: wsL_law
def aX4_sumOfAll : List Cond := .code yX4_sumOfAll cX4_sumOfAll 5 (some .long) :: wsL_law
def aX5_aboutClient : List Cond := .code yX5_aboutClient cX5_aboutClient 4 (some .int) :: wsL_law
def aX5_changeRates : List Cond := .code yX5_changeRates cX5_changeRates 5 (some .int) :: wsL_law
def aX5_changeThreshold : List Cond := .code yX5_changeThreshold cX5_changeThreshold 3 (some .int) :: wsL_law
def aX5_closeAccount : List Cond := .code yX5_closeAccount cX5_closeAccount 3 (some .int) :: wsL_law
def aX5_copyFrom : List Cond := .code yX5_copyFrom cX5_copyFrom 2 none :: wsL_law
def aX5_creditAll : List Cond := .code yX5_creditAll cX5_creditAll 3 none :: wsL_law
def aX5_endHold : List Cond := .code yX5_endHold cX5_endHold 4 (some .int) :: wsL_law
def aX5_endHoldsThatAreOver : List Cond := .code yX5_endHoldsThatAreOver cX5_endHoldsThatAreOver 2 none :: wsL_law
def aX5_enter : List Cond := .code yX5_enter cX5_enter 5 none :: wsL_law
def aX5_firstDayWithFree : List Cond := .code yX5_firstDayWithFree cX5_firstDayWithFree 10 (some .int) :: wsL_law
def aX5_freeAt : List Cond := .code yX5_freeAt cX5_freeAt 2 (some .int) :: wsL_law
def aX5_growUntil : List Cond := .code yX5_growUntil cX5_growUntil 3 none :: wsL_law
def aX5_growthPerDay : List Cond := .code yX5_growthPerDay cX5_growthPerDay 4 (some .long) :: wsL_law
def aX5_heldOn : List Cond := .code yX5_heldOn cX5_heldOn 5 (some .int) :: wsL_law
def aX5_init : List Cond := .code yX5_init cX5_init 1 none :: wsL_law
def aX5_interestAhead : List Cond := .code yX5_interestAhead cX5_interestAhead 10 (some .int) :: wsL_law
def aX5_interestToCredit : List Cond := .code yX5_interestToCredit cX5_interestToCredit 6 (some .int) :: wsL_law
def aX5_letPass : List Cond := .code yX5_letPass cX5_letPass 6 (some .long) :: wsL_law
def aX5_makeHold : List Cond := .code yX5_makeHold cX5_makeHold 5 (some .int) :: wsL_law
def aX5_makePayment : List Cond := .code yX5_makePayment cX5_makePayment 4 (some .int) :: wsL_law
def aX5_makeTransfer : List Cond := .code yX5_makeTransfer cX5_makeTransfer 6 (some .int) :: wsL_law
def aX5_openAccount : List Cond := .code yX5_openAccount cX5_openAccount 2 (some .int) :: wsL_law
def aX5_reverseEntry : List Cond := .code yX5_reverseEntry cX5_reverseEntry 10 (some .int) :: wsL_law
def aX5_settleBill : List Cond := .code yX5_settleBill cX5_settleBill 7 (some .int) :: wsL_law
def aX5_takeReceipt : List Cond := .code yX5_takeReceipt cX5_takeReceipt 4 (some .int) :: wsL_law
def aX5_writeBill : List Cond := .code yX5_writeBill cX5_writeBill 3 (some .int) :: wsL_law
def aX6_append : List Cond := .code yX6_append cX6_append 8 none :: wsL_law
def aX6_cellOf : List Cond := .code yX6_cellOf cX6_cellOf 2 (some .int) :: wsL_law
def aX6_copyFrom : List Cond := .code yX6_copyFrom cX6_copyFrom 2 none :: wsL_law
def aX6_get : List Cond := .code yX6_get cX6_get 4 (some .int) :: wsL_law
def aX6_init : List Cond := .code yX6_init cX6_init 1 none :: wsL_law
def aX6_keeps : List Cond := .code yX6_keeps cX6_keeps 2 (some .boolean) :: wsL_law
def aX6_markReversed : List Cond := .code yX6_markReversed cX6_markReversed 2 none :: wsL_law
def aX6_set : List Cond := .code yX6_set cX6_set 5 none :: wsL_law
def aX7_aboutRow : List Cond := .code yX7_aboutRow cX7_aboutRow 4 (some .int) :: wsL_law
def aX7_bill : List Cond := .code yX7_bill cX7_bill 3 (some .int) :: wsL_law
def aX7_billOf : List Cond := .code yX7_billOf cX7_billOf 3 (some .int) :: wsL_law
def aX7_carryOut : List Cond := .code yX7_carryOut cX7_carryOut 3 (some .int) :: wsL_law
def aX7_carryOutOrder : List Cond := .code yX7_carryOutOrder cX7_carryOutOrder 1 (some .long) :: wsL_law
def aX7_clearText : List Cond := .code yX7_clearText cX7_clearText 1 (some .int) :: wsL_law
def aX7_clients : List Cond := .code yX7_clients cX7_clients 1 (some .int) :: wsL_law
def aX7_close : List Cond := .code yX7_close cX7_close 2 (some .int) :: wsL_law
def aX7_day : List Cond := .code yX7_day cX7_day 1 (some .int) :: wsL_law
def aX7_digest : List Cond := .code yX7_digest cX7_digest 4 (some .long) :: wsL_law
def aX7_entries : List Cond := .code yX7_entries cX7_entries 1 (some .int) :: wsL_law
def aX7_entry : List Cond := .code yX7_entry cX7_entry 3 (some .int) :: wsL_law
def aX7_hashOfClients : List Cond := .code yX7_hashOfClients cX7_hashOfClients 7 (some .long) :: wsL_law
def aX7_hashOfRanks : List Cond := .code yX7_hashOfRanks cX7_hashOfRanks 7 (some .long) :: wsL_law
def aX7_hashOfRows : List Cond := .code yX7_hashOfRows cX7_hashOfRows 7 (some .long) :: wsL_law
def aX7_hashOfTrail : List Cond := .code yX7_hashOfTrail cX7_hashOfTrail 9 (some .long) :: wsL_law
def aX7_hold : List Cond := .code yX7_hold cX7_hold 4 (some .int) :: wsL_law
def aX7_holdOf : List Cond := .code yX7_holdOf cX7_holdOf 3 (some .int) :: wsL_law
def aX7_init : List Cond := .code yX7_init cX7_init 1 none :: wsL_law
def aX7_interestIn : List Cond := .code yX7_interestIn cX7_interestIn 4 (some .int) :: wsL_law
def aX7_isAmount : List Cond := .code yX7_isAmount cX7_isAmount 1 (some .boolean) :: wsL_law
def aX7_keptUnlessError : List Cond := .code yX7_keptUnlessError cX7_keptUnlessError 2 (some .int) :: wsL_law
def aX7_nextCreditDay : List Cond := .code yX7_nextCreditDay cX7_nextCreditDay 1 (some .int) :: wsL_law
def aX7_of : List Cond := .code yX7_of cX7_of 4 (some .int) :: wsL_law
def aX7_open : List Cond := .code yX7_open cX7_open 2 (some .int) :: wsL_law
def aX7_pass : List Cond := .code yX7_pass cX7_pass 4 (some .long) :: wsL_law
def aX7_pay : List Cond := .code yX7_pay cX7_pay 3 (some .int) :: wsL_law
def aX7_payableOn : List Cond := .code yX7_payableOn cX7_payableOn 4 (some .int) :: wsL_law
def aX7_ranked : List Cond := .code yX7_ranked cX7_ranked 3 (some .int) :: wsL_law
def aX7_receive : List Cond := .code yX7_receive cX7_receive 3 (some .int) :: wsL_law
def aX7_release : List Cond := .code yX7_release cX7_release 2 (some .int) :: wsL_law
def aX7_reverse : List Cond := .code yX7_reverse cX7_reverse 2 (some .int) :: wsL_law
def aX7_setRates : List Cond := .code yX7_setRates cX7_setRates 4 (some .int) :: wsL_law
def aX7_setThreshold : List Cond := .code yX7_setThreshold cX7_setThreshold 2 (some .int) :: wsL_law
def aX7_settle : List Cond := .code yX7_settle cX7_settle 2 (some .int) :: wsL_law
def aX7_sum : List Cond := .code yX7_sum cX7_sum 2 (some .long) :: wsL_law
def aX7_syntaxError : List Cond := .code yX7_syntaxError cX7_syntaxError 1 (some .int) :: wsL_law
def aX7_transfer : List Cond := .code yX7_transfer cX7_transfer 4 (some .int) :: wsL_law
def aX7_type : List Cond := .code yX7_type cX7_type 2 (some .int) :: wsL_law
def aX7_undo : List Cond := .code yX7_undo cX7_undo 1 (some .int) :: wsL_law
def aX8_adds : List Cond := .code yX8_adds cX8_adds 3 (some .int) :: wsL_law
def aX8_bill : List Cond := .code yX8_bill cX8_bill 4 (some .int) :: wsL_law
def aX8_billOf : List Cond := .code yX8_billOf cX8_billOf 4 (some .int) :: wsL_law
def aX8_billPart : List Cond := .code yX8_billPart cX8_billPart 3 (some .int) :: wsL_law
def aX8_bills : List Cond := .code yX8_bills cX8_bills 4 (some .int) :: wsL_law
def aX8_billsOf : List Cond := .code yX8_billsOf cX8_billsOf 4 (some .int) :: wsL_law
def aX8_carryOut : List Cond := .code yX8_carryOut cX8_carryOut 3 (some .int) :: wsL_law
def aX8_character : List Cond := .code yX8_character cX8_character 2 (some .int) :: wsL_law
def aX8_clearText : List Cond := .code yX8_clearText cX8_clearText 2 (some .int) :: wsL_law
def aX8_clients : List Cond := .code yX8_clients cX8_clients 1 (some .int) :: wsL_law
def aX8_close : List Cond := .code yX8_close cX8_close 5 (some .int) :: wsL_law
def aX8_day : List Cond := .code yX8_day cX8_day 1 (some .int) :: wsL_law
def aX8_dayEnds : List Cond := .code yX8_dayEnds cX8_dayEnds 8 (some .int) :: wsL_law
def aX8_digest : List Cond := .code yX8_digest cX8_digest 5 (some .long) :: wsL_law
def aX8_does : List Cond := .code yX8_does cX8_does 1 none :: wsL_law
def aX8_endsHold : List Cond := .code yX8_endsHold cX8_endsHold 2 none :: wsL_law
def aX8_enters : List Cond := .code yX8_enters cX8_enters 9 (some .int) :: wsL_law
def aX8_entries : List Cond := .code yX8_entries cX8_entries 1 (some .int) :: wsL_law
def aX8_entry : List Cond := .code yX8_entry cX8_entry 3 (some .int) :: wsL_law
def aX8_entryPart : List Cond := .code yX8_entryPart cX8_entryPart 3 (some .int) :: wsL_law
def aX8_find : List Cond := .code yX8_find cX8_find 4 (some .int) :: wsL_law
def aX8_findBill : List Cond := .code yX8_findBill cX8_findBill 4 (some .int) :: wsL_law
def aX8_findError : List Cond := .code yX8_findError cX8_findError 1 (some .int) :: wsL_law
def aX8_findHold : List Cond := .code yX8_findHold cX8_findHold 4 (some .int) :: wsL_law
def aX8_findRanks : List Cond := .code yX8_findRanks cX8_findRanks 4 none :: wsL_law
def aX8_free : List Cond := .code yX8_free cX8_free 2 (some .int) :: wsL_law
def aX8_giver : List Cond := .code yX8_giver cX8_giver 3 (some .int) :: wsL_law
def aX8_hasRoom : List Cond := .code yX8_hasRoom cX8_hasRoom 3 (some .boolean) :: wsL_law
def aX8_held : List Cond := .code yX8_held cX8_held 2 (some .int) :: wsL_law
def aX8_heldOn : List Cond := .code yX8_heldOn cX8_heldOn 5 (some .int) :: wsL_law
def aX8_hold : List Cond := .code yX8_hold cX8_hold 6 (some .int) :: wsL_law
def aX8_holdOf : List Cond := .code yX8_holdOf cX8_holdOf 4 (some .int) :: wsL_law
def aX8_holdPart : List Cond := .code yX8_holdPart cX8_holdPart 3 (some .int) :: wsL_law
def aX8_holdsOf : List Cond := .code yX8_holdsOf cX8_holdsOf 4 (some .int) :: wsL_law
def aX8_init : List Cond := .code yX8_init cX8_init 1 none :: wsL_law
def aX8_interestIn : List Cond := .code yX8_interestIn cX8_interestIn 6 (some .int) :: wsL_law
def aX8_isAmount : List Cond := .code yX8_isAmount cX8_isAmount 1 (some .boolean) :: wsL_law
def aX8_isEntry : List Cond := .code yX8_isEntry cX8_isEntry 2 (some .boolean) :: wsL_law
def aX8_isNext : List Cond := .code yX8_isNext cX8_isNext 3 (some .boolean) :: wsL_law
def aX8_of : List Cond := .code yX8_of cX8_of 4 (some .int) :: wsL_law
def aX8_ofClient : List Cond := .code yX8_ofClient cX8_ofClient 3 (some .int) :: wsL_law
def aX8_open : List Cond := .code yX8_open cX8_open 4 (some .int) :: wsL_law
def aX8_part : List Cond := .code yX8_part cX8_part 3 (some .int) :: wsL_law
def aX8_pass : List Cond := .code yX8_pass cX8_pass 3 (some .long) :: wsL_law
def aX8_passes : List Cond := .code yX8_passes cX8_passes 5 (some .long) :: wsL_law
def aX8_passesDay : List Cond := .code yX8_passesDay cX8_passesDay 5 (some .long) :: wsL_law
def aX8_pay : List Cond := .code yX8_pay cX8_pay 4 (some .int) :: wsL_law
def aX8_payableOn : List Cond := .code yX8_payableOn cX8_payableOn 6 (some .int) :: wsL_law
def aX8_pays : List Cond := .code yX8_pays cX8_pays 4 (some .int) :: wsL_law
def aX8_ranked : List Cond := .code yX8_ranked cX8_ranked 3 (some .int) :: wsL_law
def aX8_readsNumber : List Cond := .code yX8_readsNumber cX8_readsNumber 2 (some .boolean) :: wsL_law
def aX8_readsOrder : List Cond := .code yX8_readsOrder cX8_readsOrder 2 (some .boolean) :: wsL_law
def aX8_receive : List Cond := .code yX8_receive cX8_receive 4 (some .int) :: wsL_law
def aX8_receives : List Cond := .code yX8_receives cX8_receives 4 (some .int) :: wsL_law
def aX8_record : List Cond := .code yX8_record cX8_record 2 none :: wsL_law
def aX8_release : List Cond := .code yX8_release cX8_release 4 (some .int) :: wsL_law
def aX8_restOf : List Cond := .code yX8_restOf cX8_restOf 4 (some .int) :: wsL_law
def aX8_reverse : List Cond := .code yX8_reverse cX8_reverse 6 (some .int) :: wsL_law
def aX8_setPart : List Cond := .code yX8_setPart cX8_setPart 4 none :: wsL_law
def aX8_setRates : List Cond := .code yX8_setRates cX8_setRates 5 (some .int) :: wsL_law
def aX8_setThreshold : List Cond := .code yX8_setThreshold cX8_setThreshold 3 (some .int) :: wsL_law
def aX8_settle : List Cond := .code yX8_settle cX8_settle 3 (some .int) :: wsL_law
def aX8_settles : List Cond := .code yX8_settles cX8_settles 5 (some .int) :: wsL_law
def aX8_staysAhead : List Cond := .code yX8_staysAhead cX8_staysAhead 4 (some .boolean) :: wsL_law
def aX8_sum : List Cond := .code yX8_sum cX8_sum 2 (some .long) :: wsL_law
def aX8_sumOf : List Cond := .code yX8_sumOf cX8_sumOf 5 (some .long) :: wsL_law
def aX8_syntaxError : List Cond := .code yX8_syntaxError cX8_syntaxError 1 (some .int) :: wsL_law
def aX8_taker : List Cond := .code yX8_taker cX8_taker 2 (some .int) :: wsL_law
def aX8_takesOut : List Cond := .code yX8_takesOut cX8_takesOut 5 none :: wsL_law
def aX8_thinks : List Cond := .code yX8_thinks cX8_thinks 2 none :: wsL_law
def aX8_transfer : List Cond := .code yX8_transfer cX8_transfer 5 (some .int) :: wsL_law
def aX8_transfers : List Cond := .code yX8_transfers cX8_transfers 5 (some .int) :: wsL_law
def aX8_type : List Cond := .code yX8_type cX8_type 2 (some .int) :: wsL_law
def aX8_undo : List Cond := .code yX8_undo cX8_undo 2 (some .int) :: wsL_law
def aX8_whyNotBilled : List Cond := .code yX8_whyNotBilled cX8_whyNotBilled 3 (some .int) :: wsL_law
def aX8_whyNotDone : List Cond := .code yX8_whyNotDone cX8_whyNotDone 1 (some .int) :: wsL_law
def aX8_whyNotMoved : List Cond := .code yX8_whyNotMoved cX8_whyNotMoved 6 (some .int) :: wsL_law
def aX8_whyNotPaid : List Cond := .code yX8_whyNotPaid cX8_whyNotPaid 4 (some .int) :: wsL_law
def aX8_whyNotPassed : List Cond := .code yX8_whyNotPassed cX8_whyNotPassed 2 (some .int) :: wsL_law
def aX8_whyNotReceived : List Cond := .code yX8_whyNotReceived cX8_whyNotReceived 4 (some .int) :: wsL_law
def aX8_whyNotReversed : List Cond := .code yX8_whyNotReversed cX8_whyNotReversed 5 (some .int) :: wsL_law
def aX8_whyNotSettled : List Cond := .code yX8_whyNotSettled cX8_whyNotSettled 3 (some .int) :: wsL_law
def aX8_within : List Cond := .code yX8_within cX8_within 3 (some .boolean) :: wsL_law
theorem wm_2_9 : Cond.fieldLink RX0 9 "ClientMoneyBook$Accounts" "size" "I" ∈ wsL_law := wc_2 _ (List.mem_of_getElem? (i := 9) rfl)
theorem wm_2_11 : Cond.fieldLink RX0 15 "ClientMoneyBook$Accounts" "number" "[I" ∈ wsL_law := wc_2 _ (List.mem_of_getElem? (i := 11) rfl)
theorem wm_5_12 : Cond.methodLink RX0 29 arraycopyName ∈ wsL_law := wc_5 _ (List.mem_of_getElem? (i := 12) rfl)
theorem wm_5_13 : Cond.native arraycopyName ∈ wsL_law := wc_5 _ (List.mem_of_getElem? (i := 13) rfl)
theorem wm_5_14 : Cond.static arraycopyName ∈ wsL_law := wc_5 _ (List.mem_of_getElem? (i := 14) rfl)
theorem wm_5_15 : Cond.initialized "java/lang/System" ∈ wsL_law := wc_5 _ (List.mem_of_getElem? (i := 15) rfl)
theorem wm_2_12 : Cond.fieldLink RX0 19 "ClientMoneyBook$Accounts" "balance" "[I" ∈ wsL_law := wc_2 _ (List.mem_of_getElem? (i := 12) rfl)
theorem wm_2_13 : Cond.fieldLink RX0 22 "ClientMoneyBook$Accounts" "moved" "[I" ∈ wsL_law := wc_2 _ (List.mem_of_getElem? (i := 13) rfl)
theorem wm_2_15 : Cond.fieldLink RX0 25 "ClientMoneyBook$Accounts" "count" "[J" ∈ wsL_law := wc_2 _ (List.mem_of_getElem? (i := 15) rfl)
theorem wm_8_17 : Cond.methodLink RX0 43 yX0_isPlace ∈ wsL_law := wc_8 _ (List.mem_of_getElem? (i := 17) rfl)
theorem wm_8_13 : Cond.methodLink RX0 35 yX0_numberAt ∈ wsL_law := wc_8 _ (List.mem_of_getElem? (i := 13) rfl)
theorem wm_8_21 : Cond.methodLink RX0 39 yX0_copyRow ∈ wsL_law := wc_8 _ (List.mem_of_getElem? (i := 21) rfl)
theorem wm_31_22 : Cond.methodLink RX0 47 yX0_balanceAt ∈ wsL_law := wc_31 _ (List.mem_of_getElem? (i := 22) rfl)
theorem wm_3_11 : Cond.fieldLink RX1 20 "ClientMoneyBook$History" "slots" "[LClientMoneyBook$State;" ∈ wsL_law := wc_3 _ (List.mem_of_getElem? (i := 11) rfl)
theorem wm_2_19 : Cond.fieldLink RX4 9 "ClientMoneyBook$Rows" "size" "I" ∈ wsL_law := wc_2 _ (List.mem_of_getElem? (i := 19) rfl)
theorem wm_2_20 : Cond.fieldLink RX4 15 "ClientMoneyBook$Rows" "latestNumber" "I" ∈ wsL_law := wc_2 _ (List.mem_of_getElem? (i := 20) rfl)
theorem wm_2_21 : Cond.fieldLink RX4 18 "ClientMoneyBook$Rows" "cells" "[I" ∈ wsL_law := wc_2 _ (List.mem_of_getElem? (i := 21) rfl)
theorem wm_5_20 : Cond.methodLink RX4 22 arraycopyName ∈ wsL_law := wc_5 _ (List.mem_of_getElem? (i := 20) rfl)
theorem wm_3_1 : Cond.fieldLink RX6 9 "ClientMoneyBook$Trail" "made" "I" ∈ wsL_law := wc_3 _ (List.mem_of_getElem? (i := 1) rfl)
theorem wm_3_2 : Cond.fieldLink RX6 15 "ClientMoneyBook$Trail" "latestCheck" "I" ∈ wsL_law := wc_3 _ (List.mem_of_getElem? (i := 2) rfl)
theorem wm_3_3 : Cond.fieldLink RX6 18 "ClientMoneyBook$Trail" "cells" "[I" ∈ wsL_law := wc_3 _ (List.mem_of_getElem? (i := 3) rfl)
theorem wm_6_1 : Cond.methodLink RX6 22 arraycopyName ∈ wsL_law := wc_6 _ (List.mem_of_getElem? (i := 1) rfl)
theorem wm_1_10 : Cond.fieldLink RX5 12 "ClientMoneyBook$State" "accounts" "LClientMoneyBook$Accounts;" ∈ wsL_law := wc_1 _ (List.mem_of_getElem? (i := 10) rfl)
theorem wm_5_8 : Cond.methodLink RX5 65 yX0_copyFrom ∈ wsL_law := wc_5 _ (List.mem_of_getElem? (i := 8) rfl)
theorem wm_1_14 : Cond.fieldLink RX5 21 "ClientMoneyBook$State" "holds" "LClientMoneyBook$Rows;" ∈ wsL_law := wc_1 _ (List.mem_of_getElem? (i := 14) rfl)
theorem wm_5_16 : Cond.methodLink RX5 69 yX4_copyFrom ∈ wsL_law := wc_5 _ (List.mem_of_getElem? (i := 16) rfl)
theorem wm_1_15 : Cond.fieldLink RX5 25 "ClientMoneyBook$State" "bills" "LClientMoneyBook$Rows;" ∈ wsL_law := wc_1 _ (List.mem_of_getElem? (i := 15) rfl)
theorem wm_1_19 : Cond.fieldLink RX5 31 "ClientMoneyBook$State" "trail" "LClientMoneyBook$Trail;" ∈ wsL_law := wc_1 _ (List.mem_of_getElem? (i := 19) rfl)
theorem wm_5_21 : Cond.methodLink RX5 72 yX6_copyFrom ∈ wsL_law := wc_5 _ (List.mem_of_getElem? (i := 21) rfl)
theorem wm_1_20 : Cond.fieldLink RX5 35 "ClientMoneyBook$State" "day" "I" ∈ wsL_law := wc_1 _ (List.mem_of_getElem? (i := 20) rfl)
theorem wm_1_22 : Cond.fieldLink RX5 40 "ClientMoneyBook$State" "limit" "I" ∈ wsL_law := wc_1 _ (List.mem_of_getElem? (i := 22) rfl)
theorem wm_1_23 : Cond.fieldLink RX5 43 "ClientMoneyBook$State" "low" "I" ∈ wsL_law := wc_1 _ (List.mem_of_getElem? (i := 23) rfl)
theorem wm_2_0 : Cond.fieldLink RX5 46 "ClientMoneyBook$State" "high" "I" ∈ wsL_law := wc_2 _ (List.mem_of_getElem? (i := 0) rfl)
theorem wm_2_1 : Cond.fieldLink RX5 49 "ClientMoneyBook$State" "threshold" "I" ∈ wsL_law := wc_2 _ (List.mem_of_getElem? (i := 1) rfl)
theorem wm_2_2 : Cond.fieldLink RX5 52 "ClientMoneyBook$State" "office" "J" ∈ wsL_law := wc_2 _ (List.mem_of_getElem? (i := 2) rfl)
theorem wm_2_3 : Cond.fieldLink RX5 56 "ClientMoneyBook$State" "credited" "J" ∈ wsL_law := wc_2 _ (List.mem_of_getElem? (i := 3) rfl)
theorem wm_2_4 : Cond.fieldLink RX5 59 "ClientMoneyBook$State" "receipts" "J" ∈ wsL_law := wc_2 _ (List.mem_of_getElem? (i := 4) rfl)
theorem wm_2_5 : Cond.fieldLink RX5 62 "ClientMoneyBook$State" "payments" "J" ∈ wsL_law := wc_2 _ (List.mem_of_getElem? (i := 5) rfl)
theorem wm_3_9 : Cond.fieldLink RX1 15 "ClientMoneyBook$History" "next" "I" ∈ wsL_law := wc_3 _ (List.mem_of_getElem? (i := 9) rfl)
theorem wm_3_8 : Cond.fieldLink RX1 9 "ClientMoneyBook$History" "saved" "I" ∈ wsL_law := wc_3 _ (List.mem_of_getElem? (i := 8) rfl)
theorem wm_6_15 : Cond.methodLink RX1 33 Lib.Math.min.name ∈ wsL_law := wc_6 _ (List.mem_of_getElem? (i := 15) rfl)
theorem wm_6_16 : Cond.static Lib.Math.min.name ∈ wsL_law := wc_6 _ (List.mem_of_getElem? (i := 16) rfl)
theorem wm_6_17 : Cond.initialized "java/lang/Math" ∈ wsL_law := wc_6 _ (List.mem_of_getElem? (i := 17) rfl)
theorem wm_6_18 : Cond.code Lib.Math.min.name Lib.Math.min.code 2 (some .int) ∈ wsL_law := wc_6 _ (List.mem_of_getElem? (i := 18) rfl)
theorem wm_3_15 : Cond.fieldLink RX2 9 "ClientMoneyBook$OrderText" "length" "I" ∈ wsL_law := wc_3 _ (List.mem_of_getElem? (i := 15) rfl)
theorem wm_3_17 : Cond.fieldLink RX2 15 "ClientMoneyBook$OrderText" "characters" "[C" ∈ wsL_law := wc_3 _ (List.mem_of_getElem? (i := 17) rfl)
theorem wm_35_3 : Cond.methodLink RX2 35 yX2_at ∈ wsL_law := wc_35 _ (List.mem_of_getElem? (i := 3) rfl)
theorem wm_38_21 : Cond.methodLink RX2 47 yX2_isDigit ∈ wsL_law := wc_38 _ (List.mem_of_getElem? (i := 21) rfl)
theorem wm_39_0 : Cond.methodLink RX2 51 yX2_signAfter ∈ wsL_law := wc_39 _ (List.mem_of_getElem? (i := 0) rfl)
theorem wm_35_7 : Cond.methodLink RX2 41 yJ0_indexOf_0f7a4 ∈ wsL_law := wc_35 _ (List.mem_of_getElem? (i := 7) rfl)
theorem wm_3_18 : Cond.fieldLink RX2 19 "ClientMoneyBook$OrderText" "position" "I" ∈ wsL_law := wc_3 _ (List.mem_of_getElem? (i := 18) rfl)
theorem wm_3_19 : Cond.fieldLink RX2 22 "ClientMoneyBook$OrderText" "letter" "C" ∈ wsL_law := wc_3 _ (List.mem_of_getElem? (i := 19) rfl)
theorem wm_40_21 : Cond.methodLink RX2 55 yX2_readNumber ∈ wsL_law := wc_40 _ (List.mem_of_getElem? (i := 21) rfl)
theorem wm_3_20 : Cond.fieldLink RX2 26 "ClientMoneyBook$OrderText" "first" "I" ∈ wsL_law := wc_3 _ (List.mem_of_getElem? (i := 20) rfl)
theorem wm_3_21 : Cond.fieldLink RX2 29 "ClientMoneyBook$OrderText" "second" "I" ∈ wsL_law := wc_3 _ (List.mem_of_getElem? (i := 21) rfl)
theorem wm_3_22 : Cond.fieldLink RX2 32 "ClientMoneyBook$OrderText" "third" "I" ∈ wsL_law := wc_3 _ (List.mem_of_getElem? (i := 22) rfl)
theorem wm_10_9 : Cond.methodLink RX4 28 yX4_get ∈ wsL_law := wc_10 _ (List.mem_of_getElem? (i := 9) rfl)
theorem wm_10_1 : Cond.methodLink RX5 87 yX0_balanceAt ∈ wsL_law := wc_10 _ (List.mem_of_getElem? (i := 1) rfl)
theorem wm_14_19 : Cond.methodLink RX5 157 yX0_numberAt ∈ wsL_law := wc_14 _ (List.mem_of_getElem? (i := 19) rfl)
theorem wm_14_20 : Cond.methodLink RX5 160 yX4_sumOf ∈ wsL_law := wc_14 _ (List.mem_of_getElem? (i := 20) rfl)
theorem wm_27_5 : Cond.fieldLink RX3 22 "ClientMoneyBook$State" "accounts" "LClientMoneyBook$Accounts;" ∈ wsL_law := wc_27 _ (List.mem_of_getElem? (i := 5) rfl)
theorem wm_27_11 : Cond.methodLink RX3 45 yX0_balanceAt ∈ wsL_law := wc_27 _ (List.mem_of_getElem? (i := 11) rfl)
theorem wm_27_12 : Cond.methodLink RX3 48 yX5_freeAt ∈ wsL_law := wc_27 _ (List.mem_of_getElem? (i := 12) rfl)
theorem wm_27_13 : Cond.methodLink RX3 51 yX0_movedAt ∈ wsL_law := wc_27 _ (List.mem_of_getElem? (i := 13) rfl)
theorem wm_27_6 : Cond.fieldLink RX3 28 "ClientMoneyBook$Accounts" "size" "I" ∈ wsL_law := wc_27 _ (List.mem_of_getElem? (i := 6) rfl)
theorem wm_27_7 : Cond.methodLink RX3 31 Lib.Math.min.name ∈ wsL_law := wc_27 _ (List.mem_of_getElem? (i := 7) rfl)
theorem wm_4_2 : Cond.fieldLink RX3 9 "ClientMoneyBook$Ranking" "size" "I" ∈ wsL_law := wc_4 _ (List.mem_of_getElem? (i := 2) rfl)
theorem wm_27_8 : Cond.methodLink RX3 37 yX3_keyOf ∈ wsL_law := wc_27 _ (List.mem_of_getElem? (i := 8) rfl)
theorem wm_4_4 : Cond.fieldLink RX3 19 "ClientMoneyBook$Ranking" "keys" "[I" ∈ wsL_law := wc_4 _ (List.mem_of_getElem? (i := 4) rfl)
theorem wm_4_3 : Cond.fieldLink RX3 15 "ClientMoneyBook$Ranking" "clients" "[I" ∈ wsL_law := wc_4 _ (List.mem_of_getElem? (i := 3) rfl)
theorem wm_27_17 : Cond.methodLink RX3 41 yX0_numberAt ∈ wsL_law := wc_27 _ (List.mem_of_getElem? (i := 17) rfl)
theorem wm_17_13 : Cond.methodLink RX4 32 yX4_set ∈ wsL_law := wc_17 _ (List.mem_of_getElem? (i := 13) rfl)
theorem wm_6_6 : Cond.constant RX5 75 (1000000000) ∈ wsL_law := wc_6 _ (List.mem_of_getElem? (i := 6) rfl)
theorem wm_8_5 : Cond.methodLink RX5 76 yX0_find ∈ wsL_law := wc_8 _ (List.mem_of_getElem? (i := 5) rfl)
theorem wm_8_4 : Cond.fieldLink RX5 80 "ClientMoneyBook$Accounts" "size" "I" ∈ wsL_law := wc_8 _ (List.mem_of_getElem? (i := 4) rfl)
theorem wm_8_9 : Cond.methodLink RX5 83 yX0_insert ∈ wsL_law := wc_8 _ (List.mem_of_getElem? (i := 9) rfl)
theorem wm_10_5 : Cond.methodLink RX5 90 yX4_countOf ∈ wsL_law := wc_10 _ (List.mem_of_getElem? (i := 5) rfl)
theorem wm_10_13 : Cond.methodLink RX5 93 yX0_remove ∈ wsL_law := wc_10 _ (List.mem_of_getElem? (i := 13) rfl)
theorem wm_11_15 : Cond.constant RX7 230 (100000000) ∈ wsL_law := wc_11 _ (List.mem_of_getElem? (i := 15) rfl)
theorem wm_12_14 : Cond.methodLink RX6 28 yX6_cellOf ∈ wsL_law := wc_12 _ (List.mem_of_getElem? (i := 14) rfl)
theorem wm_12_4 : Cond.constantLong RX6 40 (1009) ∈ wsL_law := wc_12 _ (List.mem_of_getElem? (i := 4) rfl)
theorem wm_12_5 : Cond.constantLong RX6 42 (31) ∈ wsL_law := wc_12 _ (List.mem_of_getElem? (i := 5) rfl)
theorem wm_12_6 : Cond.constantLong RX6 44 (17) ∈ wsL_law := wc_12 _ (List.mem_of_getElem? (i := 6) rfl)
theorem wm_12_7 : Cond.constantLong RX6 46 (101) ∈ wsL_law := wc_12 _ (List.mem_of_getElem? (i := 7) rfl)
theorem wm_12_8 : Cond.constantLong RX6 48 (103) ∈ wsL_law := wc_12 _ (List.mem_of_getElem? (i := 8) rfl)
theorem wm_12_9 : Cond.constantLong RX6 50 (1000003) ∈ wsL_law := wc_12 _ (List.mem_of_getElem? (i := 9) rfl)
theorem wm_12_10 : Cond.methodLink RX6 36 yX6_set ∈ wsL_law := wc_12 _ (List.mem_of_getElem? (i := 10) rfl)
theorem wm_12_0 : Cond.methodLink RX5 193 yX6_append ∈ wsL_law := wc_12 _ (List.mem_of_getElem? (i := 0) rfl)
theorem wm_12_17 : Cond.methodLink RX5 196 yX0_move ∈ wsL_law := wc_12 _ (List.mem_of_getElem? (i := 17) rfl)
theorem wm_0_2 : Cond.initialized RX7 ∈ wsL_law := wc_0 _ (List.mem_of_getElem? (i := 2) rfl)
theorem wm_11_13 : Cond.static yX7_isAmount ∈ wsL_law := wc_11 _ (List.mem_of_getElem? (i := 13) rfl)
theorem wm_11_16 : Cond.methodLink RX5 101 yX0_add ∈ wsL_law := wc_11 _ (List.mem_of_getElem? (i := 16) rfl)
theorem wm_11_20 : Cond.methodLink RX5 104 yX5_enter ∈ wsL_law := wc_11 _ (List.mem_of_getElem? (i := 20) rfl)
theorem wm_14_15 : Cond.methodLink RX5 108 yX5_freeAt ∈ wsL_law := wc_14 _ (List.mem_of_getElem? (i := 15) rfl)
theorem wm_17_8 : Cond.fieldLink RX5 111 "ClientMoneyBook$Rows" "size" "I" ∈ wsL_law := wc_17 _ (List.mem_of_getElem? (i := 8) rfl)
theorem wm_17_9 : Cond.methodLink RX5 112 yX4_append ∈ wsL_law := wc_17 _ (List.mem_of_getElem? (i := 9) rfl)
theorem wm_18_5 : Cond.methodLink RX5 116 yX4_find ∈ wsL_law := wc_18 _ (List.mem_of_getElem? (i := 5) rfl)
theorem wm_18_9 : Cond.methodLink RX5 117 yX4_get ∈ wsL_law := wc_18 _ (List.mem_of_getElem? (i := 9) rfl)
theorem wm_18_10 : Cond.methodLink RX5 121 yX4_remove ∈ wsL_law := wc_18 _ (List.mem_of_getElem? (i := 10) rfl)
theorem wm_20_10 : Cond.methodLink RX5 122 Lib.Math.min.name ∈ wsL_law := wc_20 _ (List.mem_of_getElem? (i := 10) rfl)
theorem wm_20_11 : Cond.methodLink RX5 127 yX4_set ∈ wsL_law := wc_20 _ (List.mem_of_getElem? (i := 11) rfl)
theorem wm_21_20 : Cond.methodLink RX5 177 yX5_growthPerDay ∈ wsL_law := wc_21 _ (List.mem_of_getElem? (i := 20) rfl)
theorem wm_22_0 : Cond.methodLink RX5 187 yX0_addCount ∈ wsL_law := wc_22 _ (List.mem_of_getElem? (i := 0) rfl)
theorem wm_22_17 : Cond.constantLong RX5 167 (3650000) ∈ wsL_law := wc_22 _ (List.mem_of_getElem? (i := 17) rfl)
theorem wm_22_18 : Cond.methodLink RX5 171 Lib.MathLoose.min_long.x ∈ wsL_law := wc_22 _ (List.mem_of_getElem? (i := 18) rfl)
theorem wm_22_19 : Cond.static Lib.MathLoose.min_long.x ∈ wsL_law := wc_22 _ (List.mem_of_getElem? (i := 19) rfl)
theorem wm_22_20 : Cond.code Lib.MathLoose.min_long.x Lib.MathLoose.min_long.code 4 (some .long) ∈ wsL_law := wc_22 _ (List.mem_of_getElem? (i := 20) rfl)
theorem wm_22_9 : Cond.methodLink RX5 163 yX0_countAt ∈ wsL_law := wc_22 _ (List.mem_of_getElem? (i := 9) rfl)
theorem wm_22_13 : Cond.methodLink RX5 180 yX5_interestToCredit ∈ wsL_law := wc_22 _ (List.mem_of_getElem? (i := 13) rfl)
theorem wm_22_8 : Cond.constantLong RX5 191 (-3650000) ∈ wsL_law := wc_22 _ (List.mem_of_getElem? (i := 8) rfl)
theorem wm_21_12 : Cond.constantLong RX5 131 (-2) ∈ wsL_law := wc_21 _ (List.mem_of_getElem? (i := 12) rfl)
theorem wm_21_14 : Cond.static yX7_nextCreditDay ∈ wsL_law := wc_21 _ (List.mem_of_getElem? (i := 14) rfl)
theorem wm_21_16 : Cond.methodLink RX5 138 yX5_growUntil ∈ wsL_law := wc_21 _ (List.mem_of_getElem? (i := 16) rfl)
theorem wm_22_4 : Cond.methodLink RX5 141 yX5_creditAll ∈ wsL_law := wc_22 _ (List.mem_of_getElem? (i := 4) rfl)
theorem wm_22_21 : Cond.methodLink RX5 144 yX5_endHoldsThatAreOver ∈ wsL_law := wc_22 _ (List.mem_of_getElem? (i := 21) rfl)
theorem wm_21_13 : Cond.constantLong RX5 133 (-4) ∈ wsL_law := wc_21 _ (List.mem_of_getElem? (i := 13) rfl)
theorem wm_24_21 : Cond.methodLink RX6 32 yX6_keeps ∈ wsL_law := wc_24 _ (List.mem_of_getElem? (i := 21) rfl)
theorem wm_24_13 : Cond.methodLink RX5 147 yX6_keeps ∈ wsL_law := wc_24 _ (List.mem_of_getElem? (i := 13) rfl)
theorem wm_24_17 : Cond.methodLink RX5 150 yX6_get ∈ wsL_law := wc_24 _ (List.mem_of_getElem? (i := 17) rfl)
theorem wm_24_22 : Cond.methodLink RX5 151 yX6_markReversed ∈ wsL_law := wc_24 _ (List.mem_of_getElem? (i := 22) rfl)
theorem wm_24_12 : Cond.fieldLink RX5 154 "ClientMoneyBook$Trail" "made" "I" ∈ wsL_law := wc_24 _ (List.mem_of_getElem? (i := 12) rfl)
theorem wm_28_19 : Cond.constantLong RX5 169 (1000000000) ∈ wsL_law := wc_28 _ (List.mem_of_getElem? (i := 19) rfl)
theorem wm_28_20 : Cond.methodLink RX5 174 yX0_movedAt ∈ wsL_law := wc_28 _ (List.mem_of_getElem? (i := 20) rfl)
theorem wm_32_21 : Cond.methodLink RX5 184 yX5_heldOn ∈ wsL_law := wc_32 _ (List.mem_of_getElem? (i := 21) rfl)
theorem wm_0_19 : Cond.fieldLink RX7 19 "ClientMoneyBook" "history" "LClientMoneyBook$History;" ∈ wsL_law := wc_0 _ (List.mem_of_getElem? (i := 19) rfl)
theorem wm_6_11 : Cond.methodLink RX7 84 yX1_keep ∈ wsL_law := wc_6 _ (List.mem_of_getElem? (i := 11) rfl)
theorem wm_0_15 : Cond.fieldLink RX7 10 "ClientMoneyBook" "state" "LClientMoneyBook$State;" ∈ wsL_law := wc_0 _ (List.mem_of_getElem? (i := 15) rfl)
theorem wm_4_20 : Cond.methodLink RX7 37 yX1_prepare ∈ wsL_law := wc_4 _ (List.mem_of_getElem? (i := 20) rfl)
theorem wm_6_2 : Cond.methodLink RX7 41 yX5_changeRates ∈ wsL_law := wc_6 _ (List.mem_of_getElem? (i := 2) rfl)
theorem wm_6_7 : Cond.methodLink RX7 45 yX7_keptUnlessError ∈ wsL_law := wc_6 _ (List.mem_of_getElem? (i := 7) rfl)
theorem wm_7_12 : Cond.methodLink RX7 49 yX5_changeThreshold ∈ wsL_law := wc_7 _ (List.mem_of_getElem? (i := 12) rfl)
theorem wm_8_0 : Cond.methodLink RX7 52 yX5_openAccount ∈ wsL_law := wc_8 _ (List.mem_of_getElem? (i := 0) rfl)
theorem wm_9_21 : Cond.methodLink RX7 55 yX5_closeAccount ∈ wsL_law := wc_9 _ (List.mem_of_getElem? (i := 21) rfl)
theorem wm_11_9 : Cond.methodLink RX7 58 yX5_takeReceipt ∈ wsL_law := wc_11 _ (List.mem_of_getElem? (i := 9) rfl)
theorem wm_14_11 : Cond.methodLink RX7 62 yX5_makePayment ∈ wsL_law := wc_14 _ (List.mem_of_getElem? (i := 11) rfl)
theorem wm_16_8 : Cond.methodLink RX7 65 yX5_makeTransfer ∈ wsL_law := wc_16 _ (List.mem_of_getElem? (i := 8) rfl)
theorem wm_17_4 : Cond.methodLink RX7 68 yX5_makeHold ∈ wsL_law := wc_17 _ (List.mem_of_getElem? (i := 4) rfl)
theorem wm_18_1 : Cond.methodLink RX7 71 yX5_endHold ∈ wsL_law := wc_18 _ (List.mem_of_getElem? (i := 1) rfl)
theorem wm_19_10 : Cond.methodLink RX7 74 yX5_writeBill ∈ wsL_law := wc_19 _ (List.mem_of_getElem? (i := 10) rfl)
theorem wm_20_6 : Cond.methodLink RX7 77 yX5_settleBill ∈ wsL_law := wc_20 _ (List.mem_of_getElem? (i := 6) rfl)
theorem wm_21_8 : Cond.methodLink RX7 80 yX5_letPass ∈ wsL_law := wc_21 _ (List.mem_of_getElem? (i := 8) rfl)
theorem wm_24_8 : Cond.methodLink RX7 87 yX5_reverseEntry ∈ wsL_law := wc_24 _ (List.mem_of_getElem? (i := 8) rfl)
theorem wm_26_6 : Cond.fieldLink RX7 90 "ClientMoneyBook$State" "day" "I" ∈ wsL_law := wc_26 _ (List.mem_of_getElem? (i := 6) rfl)
theorem wm_26_15 : Cond.fieldLink RX7 94 "ClientMoneyBook$State" "accounts" "LClientMoneyBook$Accounts;" ∈ wsL_law := wc_26 _ (List.mem_of_getElem? (i := 15) rfl)
theorem wm_26_16 : Cond.fieldLink RX7 98 "ClientMoneyBook$Accounts" "size" "I" ∈ wsL_law := wc_26 _ (List.mem_of_getElem? (i := 16) rfl)
theorem wm_1_3 : Cond.fieldLink RX7 33 "ClientMoneyBook" "ranking" "LClientMoneyBook$Ranking;" ∈ wsL_law := wc_1 _ (List.mem_of_getElem? (i := 3) rfl)
theorem wm_27_1 : Cond.methodLink RX7 103 yX3_sort ∈ wsL_law := wc_27 _ (List.mem_of_getElem? (i := 1) rfl)
theorem wm_27_18 : Cond.methodLink RX7 107 yX3_clientAt ∈ wsL_law := wc_27 _ (List.mem_of_getElem? (i := 18) rfl)
theorem wm_28_14 : Cond.methodLink RX7 110 yX0_find ∈ wsL_law := wc_28 _ (List.mem_of_getElem? (i := 14) rfl)
theorem wm_28_15 : Cond.methodLink RX7 113 yX5_aboutClient ∈ wsL_law := wc_28 _ (List.mem_of_getElem? (i := 15) rfl)
theorem wm_29_22 : Cond.methodLink RX7 228 yX4_find ∈ wsL_law := wc_29 _ (List.mem_of_getElem? (i := 22) rfl)
theorem wm_29_23 : Cond.methodLink RX7 229 yX4_get ∈ wsL_law := wc_29 _ (List.mem_of_getElem? (i := 23) rfl)
theorem wm_29_18 : Cond.fieldLink RX7 116 "ClientMoneyBook$State" "holds" "LClientMoneyBook$Rows;" ∈ wsL_law := wc_29 _ (List.mem_of_getElem? (i := 18) rfl)
theorem wm_29_19 : Cond.methodLink RX7 120 yX7_aboutRow ∈ wsL_law := wc_29 _ (List.mem_of_getElem? (i := 19) rfl)
theorem wm_30_8 : Cond.fieldLink RX7 124 "ClientMoneyBook$State" "bills" "LClientMoneyBook$Rows;" ∈ wsL_law := wc_30 _ (List.mem_of_getElem? (i := 8) rfl)
theorem wm_30_17 : Cond.fieldLink RX7 127 "ClientMoneyBook$State" "trail" "LClientMoneyBook$Trail;" ∈ wsL_law := wc_30 _ (List.mem_of_getElem? (i := 17) rfl)
theorem wm_30_18 : Cond.fieldLink RX7 131 "ClientMoneyBook$Trail" "made" "I" ∈ wsL_law := wc_30 _ (List.mem_of_getElem? (i := 18) rfl)
theorem wm_31_3 : Cond.methodLink RX7 136 yX6_keeps ∈ wsL_law := wc_31 _ (List.mem_of_getElem? (i := 3) rfl)
theorem wm_31_4 : Cond.methodLink RX7 140 yX6_get ∈ wsL_law := wc_31 _ (List.mem_of_getElem? (i := 4) rfl)
theorem wm_31_18 : Cond.methodLink RX7 143 yX0_sumOfBalances ∈ wsL_law := wc_31 _ (List.mem_of_getElem? (i := 18) rfl)
theorem wm_31_23 : Cond.methodLink RX7 149 yX4_sumOfAll ∈ wsL_law := wc_31 _ (List.mem_of_getElem? (i := 23) rfl)
theorem wm_31_13 : Cond.fieldLink RX7 152 "ClientMoneyBook$State" "office" "J" ∈ wsL_law := wc_31 _ (List.mem_of_getElem? (i := 13) rfl)
theorem wm_31_14 : Cond.fieldLink RX7 156 "ClientMoneyBook$State" "credited" "J" ∈ wsL_law := wc_31 _ (List.mem_of_getElem? (i := 14) rfl)
theorem wm_31_15 : Cond.fieldLink RX7 159 "ClientMoneyBook$State" "receipts" "J" ∈ wsL_law := wc_31 _ (List.mem_of_getElem? (i := 15) rfl)
theorem wm_31_16 : Cond.fieldLink RX7 162 "ClientMoneyBook$State" "payments" "J" ∈ wsL_law := wc_31 _ (List.mem_of_getElem? (i := 16) rfl)
theorem wm_31_17 : Cond.constantLong RX7 165 (-2) ∈ wsL_law := wc_31 _ (List.mem_of_getElem? (i := 17) rfl)
theorem wm_32_16 : Cond.methodLink RX7 167 yX7_isAmount ∈ wsL_law := wc_32 _ (List.mem_of_getElem? (i := 16) rfl)
theorem wm_32_17 : Cond.methodLink RX7 170 yX5_firstDayWithFree ∈ wsL_law := wc_32 _ (List.mem_of_getElem? (i := 17) rfl)
theorem wm_33_9 : Cond.methodLink RX7 173 yX5_interestAhead ∈ wsL_law := wc_33 _ (List.mem_of_getElem? (i := 9) rfl)
theorem wm_0_23 : Cond.fieldLink RX7 26 "ClientMoneyBook" "text" "LClientMoneyBook$OrderText;" ∈ wsL_law := wc_0 _ (List.mem_of_getElem? (i := 23) rfl)
theorem wm_33_21 : Cond.fieldLink RX7 176 "ClientMoneyBook$OrderText" "length" "I" ∈ wsL_law := wc_33 _ (List.mem_of_getElem? (i := 21) rfl)
theorem wm_33_22 : Cond.methodLink RX7 179 yX2_append ∈ wsL_law := wc_33 _ (List.mem_of_getElem? (i := 22) rfl)
theorem wm_34_11 : Cond.methodLink RX7 183 yX2_empty ∈ wsL_law := wc_34 _ (List.mem_of_getElem? (i := 11) rfl)
theorem wm_34_23 : Cond.methodLink RX7 187 yX2_firstError ∈ wsL_law := wc_34 _ (List.mem_of_getElem? (i := 23) rfl)
theorem wm_41_5 : Cond.fieldLink RX7 231 "ClientMoneyBook$OrderText" "letter" "C" ∈ wsL_law := wc_41 _ (List.mem_of_getElem? (i := 5) rfl)
theorem wm_41_6 : Cond.fieldLink RX7 235 "ClientMoneyBook$OrderText" "first" "I" ∈ wsL_law := wc_41 _ (List.mem_of_getElem? (i := 6) rfl)
theorem wm_41_7 : Cond.fieldLink RX7 238 "ClientMoneyBook$OrderText" "second" "I" ∈ wsL_law := wc_41 _ (List.mem_of_getElem? (i := 7) rfl)
theorem wm_41_9 : Cond.constantLong RX7 244 (-5) ∈ wsL_law := wc_41 _ (List.mem_of_getElem? (i := 9) rfl)
theorem wm_41_8 : Cond.fieldLink RX7 241 "ClientMoneyBook$OrderText" "third" "I" ∈ wsL_law := wc_41 _ (List.mem_of_getElem? (i := 8) rfl)
theorem wm_40_13 : Cond.methodLink RX7 190 yX2_startReading ∈ wsL_law := wc_40 _ (List.mem_of_getElem? (i := 13) rfl)
theorem wm_40_17 : Cond.methodLink RX7 193 yX2_readOrder ∈ wsL_law := wc_40 _ (List.mem_of_getElem? (i := 17) rfl)
theorem wm_41_1 : Cond.methodLink RX7 197 yX7_carryOutOrder ∈ wsL_law := wc_41 _ (List.mem_of_getElem? (i := 1) rfl)
theorem wm_42_2 : Cond.fieldLink RX7 200 "ClientMoneyBook$History" "saved" "I" ∈ wsL_law := wc_42 _ (List.mem_of_getElem? (i := 2) rfl)
theorem wm_42_3 : Cond.methodLink RX7 203 yX1_restoreLatest ∈ wsL_law := wc_42 _ (List.mem_of_getElem? (i := 3) rfl)
theorem wm_42_16 : Cond.constantLong RX7 209 (31) ∈ wsL_law := wc_42 _ (List.mem_of_getElem? (i := 16) rfl)
theorem wm_42_21 : Cond.methodLink RX7 246 yX0_numberAt ∈ wsL_law := wc_42 _ (List.mem_of_getElem? (i := 21) rfl)
theorem wm_43_1 : Cond.fieldLink RX7 249 "ClientMoneyBook$Rows" "size" "I" ∈ wsL_law := wc_43 _ (List.mem_of_getElem? (i := 1) rfl)
theorem wm_42_15 : Cond.constantLong RX7 207 (6262) ∈ wsL_law := wc_42 _ (List.mem_of_getElem? (i := 15) rfl)
theorem wm_42_17 : Cond.methodLink RX7 211 yX7_hashOfClients ∈ wsL_law := wc_42 _ (List.mem_of_getElem? (i := 17) rfl)
theorem wm_42_22 : Cond.methodLink RX7 215 yX7_hashOfRows ∈ wsL_law := wc_42 _ (List.mem_of_getElem? (i := 22) rfl)
theorem wm_43_2 : Cond.methodLink RX7 219 yX7_hashOfTrail ∈ wsL_law := wc_43 _ (List.mem_of_getElem? (i := 2) rfl)
theorem wm_43_6 : Cond.methodLink RX7 222 yX7_hashOfRanks ∈ wsL_law := wc_43 _ (List.mem_of_getElem? (i := 6) rfl)
theorem wm_43_10 : Cond.methodLink RX7 225 yX7_sum ∈ wsL_law := wc_43 _ (List.mem_of_getElem? (i := 10) rfl)
theorem wm_7_7 : Cond.fieldLink RX8 30 "ClientMoneyBookModel" "recorded" "I" ∈ wsL_law := wc_7 _ (List.mem_of_getElem? (i := 7) rfl)
theorem wm_4_11 : Cond.fieldLink RX8 17 "ClientMoneyBookModel" "history" "[I" ∈ wsL_law := wc_4 _ (List.mem_of_getElem? (i := 11) rfl)
theorem wm_4_9 : Cond.fieldLink RX8 7 "ClientMoneyBookModel" "state" "[I" ∈ wsL_law := wc_4 _ (List.mem_of_getElem? (i := 9) rfl)
theorem wm_4_12 : Cond.fieldLink RX8 20 "ClientMoneyBookModel" "greatHistory" "[J" ∈ wsL_law := wc_4 _ (List.mem_of_getElem? (i := 12) rfl)
theorem wm_4_10 : Cond.fieldLink RX8 13 "ClientMoneyBookModel" "great" "[J" ∈ wsL_law := wc_4 _ (List.mem_of_getElem? (i := 10) rfl)
theorem wm_9_9 : Cond.methodLink RX8 34 yX8_part ∈ wsL_law := wc_9 _ (List.mem_of_getElem? (i := 9) rfl)
theorem wm_15_20 : Cond.methodLink RX8 38 yX8_holdPart ∈ wsL_law := wc_15 _ (List.mem_of_getElem? (i := 20) rfl)
theorem wm_15_16 : Cond.methodLink RX8 41 yX8_heldOn ∈ wsL_law := wc_15 _ (List.mem_of_getElem? (i := 16) rfl)
theorem wm_15_12 : Cond.methodLink RX8 44 yX8_held ∈ wsL_law := wc_15 _ (List.mem_of_getElem? (i := 12) rfl)
theorem wm_11_1 : Cond.methodLink RX8 48 yX8_billPart ∈ wsL_law := wc_11 _ (List.mem_of_getElem? (i := 1) rfl)
theorem wm_14_1 : Cond.constantLong RX8 51 (1009) ∈ wsL_law := wc_14 _ (List.mem_of_getElem? (i := 1) rfl)
theorem wm_14_2 : Cond.constantLong RX8 53 (31) ∈ wsL_law := wc_14 _ (List.mem_of_getElem? (i := 2) rfl)
theorem wm_14_3 : Cond.constantLong RX8 55 (17) ∈ wsL_law := wc_14 _ (List.mem_of_getElem? (i := 3) rfl)
theorem wm_14_4 : Cond.constantLong RX8 57 (101) ∈ wsL_law := wc_14 _ (List.mem_of_getElem? (i := 4) rfl)
theorem wm_14_5 : Cond.constantLong RX8 59 (103) ∈ wsL_law := wc_14 _ (List.mem_of_getElem? (i := 5) rfl)
theorem wm_14_6 : Cond.constantLong RX8 61 (1000003) ∈ wsL_law := wc_14 _ (List.mem_of_getElem? (i := 6) rfl)
theorem wm_9_13 : Cond.methodLink RX8 63 yX8_setPart ∈ wsL_law := wc_9 _ (List.mem_of_getElem? (i := 13) rfl)
theorem wm_7_0 : Cond.methodLink RX8 67 yX8_within ∈ wsL_law := wc_7 _ (List.mem_of_getElem? (i := 0) rfl)
theorem wm_6_23 : Cond.constant RX8 71 (1000000000) ∈ wsL_law := wc_6 _ (List.mem_of_getElem? (i := 23) rfl)
theorem wm_7_3 : Cond.methodLink RX8 72 yX8_record ∈ wsL_law := wc_7 _ (List.mem_of_getElem? (i := 3) rfl)
theorem wm_9_5 : Cond.methodLink RX8 75 yX8_find ∈ wsL_law := wc_9 _ (List.mem_of_getElem? (i := 5) rfl)
theorem wm_10_21 : Cond.methodLink RX8 78 yX8_billsOf ∈ wsL_law := wc_10 _ (List.mem_of_getElem? (i := 21) rfl)
theorem wm_13_8 : Cond.constant RX8 81 (100000000) ∈ wsL_law := wc_13 _ (List.mem_of_getElem? (i := 8) rfl)
theorem wm_13_5 : Cond.methodLink RX8 82 yX8_isAmount ∈ wsL_law := wc_13 _ (List.mem_of_getElem? (i := 5) rfl)
theorem wm_13_9 : Cond.methodLink RX8 86 yX8_hasRoom ∈ wsL_law := wc_13 _ (List.mem_of_getElem? (i := 9) rfl)
theorem wm_13_17 : Cond.methodLink RX8 90 yX8_adds ∈ wsL_law := wc_13 _ (List.mem_of_getElem? (i := 17) rfl)
theorem wm_13_21 : Cond.methodLink RX8 93 yX8_enters ∈ wsL_law := wc_13 _ (List.mem_of_getElem? (i := 21) rfl)
theorem wm_13_1 : Cond.methodLink RX8 97 yX8_whyNotReceived ∈ wsL_law := wc_13 _ (List.mem_of_getElem? (i := 1) rfl)
theorem wm_13_13 : Cond.methodLink RX8 100 yX8_receives ∈ wsL_law := wc_13 _ (List.mem_of_getElem? (i := 13) rfl)
theorem wm_15_8 : Cond.methodLink RX8 103 yX8_free ∈ wsL_law := wc_15 _ (List.mem_of_getElem? (i := 8) rfl)
theorem wm_15_4 : Cond.methodLink RX8 106 yX8_whyNotPaid ∈ wsL_law := wc_15 _ (List.mem_of_getElem? (i := 4) rfl)
theorem wm_16_0 : Cond.methodLink RX8 109 yX8_pays ∈ wsL_law := wc_16 _ (List.mem_of_getElem? (i := 0) rfl)
theorem wm_16_16 : Cond.methodLink RX8 112 yX8_whyNotMoved ∈ wsL_law := wc_16 _ (List.mem_of_getElem? (i := 16) rfl)
theorem wm_16_20 : Cond.methodLink RX8 116 yX8_transfers ∈ wsL_law := wc_16 _ (List.mem_of_getElem? (i := 20) rfl)
theorem wm_19_2 : Cond.methodLink RX8 119 yX8_takesOut ∈ wsL_law := wc_19 _ (List.mem_of_getElem? (i := 2) rfl)
theorem wm_18_18 : Cond.methodLink RX8 122 yX8_findHold ∈ wsL_law := wc_18 _ (List.mem_of_getElem? (i := 18) rfl)
theorem wm_18_22 : Cond.methodLink RX8 125 yX8_endsHold ∈ wsL_law := wc_18 _ (List.mem_of_getElem? (i := 22) rfl)
theorem wm_19_18 : Cond.methodLink RX8 129 yX8_whyNotBilled ∈ wsL_law := wc_19 _ (List.mem_of_getElem? (i := 18) rfl)
theorem wm_19_22 : Cond.methodLink RX8 132 yX8_bills ∈ wsL_law := wc_19 _ (List.mem_of_getElem? (i := 22) rfl)
theorem wm_20_20 : Cond.methodLink RX8 135 yX8_findBill ∈ wsL_law := wc_20 _ (List.mem_of_getElem? (i := 20) rfl)
theorem wm_20_16 : Cond.methodLink RX8 138 yX8_whyNotSettled ∈ wsL_law := wc_20 _ (List.mem_of_getElem? (i := 16) rfl)
theorem wm_21_0 : Cond.methodLink RX8 141 yX8_settles ∈ wsL_law := wc_21 _ (List.mem_of_getElem? (i := 0) rfl)
theorem wm_23_17 : Cond.fieldLink RX8 144 "ClientMoneyBookModel" "thoughtBalance" "I" ∈ wsL_law := wc_23 _ (List.mem_of_getElem? (i := 17) rfl)
theorem wm_23_18 : Cond.fieldLink RX8 147 "ClientMoneyBookModel" "thoughtCount" "J" ∈ wsL_law := wc_23 _ (List.mem_of_getElem? (i := 18) rfl)
theorem wm_24_3 : Cond.constantLong RX8 151 (3650000) ∈ wsL_law := wc_24 _ (List.mem_of_getElem? (i := 3) rfl)
theorem wm_23_19 : Cond.methodLink RX8 153 yX8_thinks ∈ wsL_law := wc_23 _ (List.mem_of_getElem? (i := 19) rfl)
theorem wm_23_23 : Cond.methodLink RX8 156 yX8_dayEnds ∈ wsL_law := wc_23 _ (List.mem_of_getElem? (i := 23) rfl)
theorem wm_23_13 : Cond.methodLink RX8 159 yX8_passesDay ∈ wsL_law := wc_23 _ (List.mem_of_getElem? (i := 13) rfl)
theorem wm_23_5 : Cond.methodLink RX8 163 yX8_whyNotPassed ∈ wsL_law := wc_23 _ (List.mem_of_getElem? (i := 5) rfl)
theorem wm_23_9 : Cond.methodLink RX8 166 yX8_passes ∈ wsL_law := wc_23 _ (List.mem_of_getElem? (i := 9) rfl)
theorem wm_25_18 : Cond.methodLink RX8 170 yX8_entryPart ∈ wsL_law := wc_25 _ (List.mem_of_getElem? (i := 18) rfl)
theorem wm_25_10 : Cond.methodLink RX8 173 yX8_isEntry ∈ wsL_law := wc_25 _ (List.mem_of_getElem? (i := 10) rfl)
theorem wm_25_14 : Cond.methodLink RX8 176 yX8_giver ∈ wsL_law := wc_25 _ (List.mem_of_getElem? (i := 14) rfl)
theorem wm_25_22 : Cond.methodLink RX8 179 yX8_taker ∈ wsL_law := wc_25 _ (List.mem_of_getElem? (i := 22) rfl)
theorem wm_25_6 : Cond.methodLink RX8 182 yX8_whyNotReversed ∈ wsL_law := wc_25 _ (List.mem_of_getElem? (i := 6) rfl)
theorem wm_4_14 : Cond.fieldLink RX8 26 "ClientMoneyBookModel" "ranks" "[I" ∈ wsL_law := wc_4 _ (List.mem_of_getElem? (i := 14) rfl)
theorem wm_28_6 : Cond.methodLink RX8 185 yX8_staysAhead ∈ wsL_law := wc_28 _ (List.mem_of_getElem? (i := 6) rfl)
theorem wm_28_2 : Cond.methodLink RX8 188 yX8_findRanks ∈ wsL_law := wc_28 _ (List.mem_of_getElem? (i := 2) rfl)
theorem wm_29_5 : Cond.constantLong RX8 191 (1000000000) ∈ wsL_law := wc_29 _ (List.mem_of_getElem? (i := 5) rfl)
theorem wm_29_6 : Cond.methodLink RX8 193 yX8_restOf ∈ wsL_law := wc_29 _ (List.mem_of_getElem? (i := 6) rfl)
theorem wm_29_10 : Cond.methodLink RX8 196 yX8_holdsOf ∈ wsL_law := wc_29 _ (List.mem_of_getElem? (i := 10) rfl)
theorem wm_29_1 : Cond.methodLink RX8 199 yX8_ofClient ∈ wsL_law := wc_29 _ (List.mem_of_getElem? (i := 1) rfl)
theorem wm_32_7 : Cond.constantLong RX8 205 (-2) ∈ wsL_law := wc_32 _ (List.mem_of_getElem? (i := 7) rfl)
theorem wm_32_8 : Cond.methodLink RX8 202 yX8_sumOf ∈ wsL_law := wc_32 _ (List.mem_of_getElem? (i := 8) rfl)
theorem wm_34_6 : Cond.fieldLink RX8 207 "ClientMoneyBookModel" "textLength" "I" ∈ wsL_law := wc_34 _ (List.mem_of_getElem? (i := 6) rfl)
theorem wm_4_13 : Cond.fieldLink RX8 23 "ClientMoneyBookModel" "text" "[I" ∈ wsL_law := wc_4 _ (List.mem_of_getElem? (i := 13) rfl)
theorem wm_39_11 : Cond.fieldLink RX8 210 "ClientMoneyBookModel" "at" "I" ∈ wsL_law := wc_39 _ (List.mem_of_getElem? (i := 11) rfl)
theorem wm_39_21 : Cond.methodLink RX8 213 yX8_character ∈ wsL_law := wc_39 _ (List.mem_of_getElem? (i := 21) rfl)
theorem wm_39_17 : Cond.fieldLink RX8 216 "ClientMoneyBookModel" "number" "I" ∈ wsL_law := wc_39 _ (List.mem_of_getElem? (i := 17) rfl)
theorem wm_39_16 : Cond.fieldLink RX8 219 "ClientMoneyBookModel" "letter" "I" ∈ wsL_law := wc_39 _ (List.mem_of_getElem? (i := 16) rfl)
theorem wm_40_1 : Cond.methodLink RX8 222 yX8_readsNumber ∈ wsL_law := wc_40 _ (List.mem_of_getElem? (i := 1) rfl)
theorem wm_39_18 : Cond.fieldLink RX8 226 "ClientMoneyBookModel" "one" "I" ∈ wsL_law := wc_39 _ (List.mem_of_getElem? (i := 18) rfl)
theorem wm_39_20 : Cond.fieldLink RX8 235 "ClientMoneyBookModel" "three" "I" ∈ wsL_law := wc_39 _ (List.mem_of_getElem? (i := 20) rfl)
theorem wm_40_5 : Cond.methodLink RX8 229 yX8_isNext ∈ wsL_law := wc_40 _ (List.mem_of_getElem? (i := 5) rfl)
theorem wm_39_19 : Cond.fieldLink RX8 232 "ClientMoneyBookModel" "two" "I" ∈ wsL_law := wc_39 _ (List.mem_of_getElem? (i := 19) rfl)
theorem wm_39_12 : Cond.methodLink RX8 238 yX8_readsOrder ∈ wsL_law := wc_39 _ (List.mem_of_getElem? (i := 12) rfl)
theorem wm_39_7 : Cond.methodLink RX8 241 yX8_findError ∈ wsL_law := wc_39 _ (List.mem_of_getElem? (i := 7) rfl)
theorem wm_41_14 : Cond.methodLink RX8 245 yX8_whyNotDone ∈ wsL_law := wc_41 _ (List.mem_of_getElem? (i := 14) rfl)
theorem wm_41_18 : Cond.methodLink RX8 248 yX8_does ∈ wsL_law := wc_41 _ (List.mem_of_getElem? (i := 18) rfl)
theorem wm_43_15 : Cond.constantLong RX8 251 (202) ∈ wsL_law := wc_43 _ (List.mem_of_getElem? (i := 15) rfl)
theorem wm_5_0 : Cond.methodLink RX1 25 yX1_slotAt ∈ wsL_law := wc_5 _ (List.mem_of_getElem? (i := 0) rfl)
theorem wm_5_4 : Cond.methodLink RX1 29 yX5_copyFrom ∈ wsL_law := wc_5 _ (List.mem_of_getElem? (i := 4) rfl)
theorem wm_35_21 : Cond.fieldLink RJ0 38 "java/lang/String" "COMPACT_STRINGS" "Z" ∈ wsL_law := wc_35 _ (List.mem_of_getElem? (i := 21) rfl)
theorem wm_35_22 : Cond.fieldLink RJ0 15 "java/lang/String" "coder" "B" ∈ wsL_law := wc_35 _ (List.mem_of_getElem? (i := 22) rfl)
theorem wm_35_16 : Cond.fieldLink RJ0 9 "java/lang/String" "value" "[B" ∈ wsL_law := wc_35 _ (List.mem_of_getElem? (i := 16) rfl)
theorem wm_36_3 : Cond.methodLink RJ0 335 yJ0_coder_7d493 ∈ wsL_law := wc_36 _ (List.mem_of_getElem? (i := 3) rfl)
theorem wm_36_11 : Cond.methodLink RJ1 92 Lib.Math.max.name ∈ wsL_law := wc_36 _ (List.mem_of_getElem? (i := 11) rfl)
theorem wm_36_12 : Cond.static Lib.Math.max.name ∈ wsL_law := wc_36 _ (List.mem_of_getElem? (i := 12) rfl)
theorem wm_36_13 : Cond.code Lib.Math.max.name Lib.Math.max.code 2 (some .int) ∈ wsL_law := wc_36 _ (List.mem_of_getElem? (i := 13) rfl)
theorem wm_36_14 : Cond.methodLink RJ1 38 Lib.Math.min.name ∈ wsL_law := wc_36 _ (List.mem_of_getElem? (i := 14) rfl)
theorem wm_36_15 : Cond.methodLink RJ1 88 yJ1_canEncode_9a6ad ∈ wsL_law := wc_36 _ (List.mem_of_getElem? (i := 15) rfl)
theorem wm_36_18 : Cond.methodLink RJ1 95 yJ1_indexOfChar_4cfef ∈ wsL_law := wc_36 _ (List.mem_of_getElem? (i := 18) rfl)
theorem wm_35_17 : Cond.methodLink RJ0 492 yJ0_isLatin1_aae02 ∈ wsL_law := wc_35 _ (List.mem_of_getElem? (i := 17) rfl)
theorem wm_35_23 : Cond.methodLink RJ0 505 yJ0_length_8abf5 ∈ wsL_law := wc_35 _ (List.mem_of_getElem? (i := 23) rfl)
theorem wm_36_7 : Cond.methodLink RJ0 637 yJ1_indexOf_4cfef ∈ wsL_law := wc_36 _ (List.mem_of_getElem? (i := 7) rfl)
theorem wm_35_12 : Cond.methodLink RJ0 633 yJ0_indexOf_7cf53 ∈ wsL_law := wc_35 _ (List.mem_of_getElem? (i := 12) rfl)
theorem wm_0_11 : Cond.code objectInit ⟨#[0xb1]⟩ 1 none ∈ wsL_law := wc_0 _ (List.mem_of_getElem? (i := 11) rfl)
theorem wm_2_8 : Cond.methodLink RX0 3 objectInit ∈ wsL_law := wc_2 _ (List.mem_of_getElem? (i := 8) rfl)
theorem wm_0_10 : Cond.instanceMethod objectInit ∈ wsL_law := wc_0 _ (List.mem_of_getElem? (i := 10) rfl)
theorem wm_2_10 : Cond.arrayClass .int ∈ wsL_law := wc_2 _ (List.mem_of_getElem? (i := 10) rfl)
theorem wm_2_14 : Cond.arrayClass .long ∈ wsL_law := wc_2 _ (List.mem_of_getElem? (i := 14) rfl)
theorem wm_2_18 : Cond.methodLink RX4 3 objectInit ∈ wsL_law := wc_2 _ (List.mem_of_getElem? (i := 18) rfl)
theorem wm_3_0 : Cond.methodLink RX6 3 objectInit ∈ wsL_law := wc_3 _ (List.mem_of_getElem? (i := 0) rfl)
theorem wm_3_14 : Cond.methodLink RX2 3 objectInit ∈ wsL_law := wc_3 _ (List.mem_of_getElem? (i := 14) rfl)
theorem wm_3_16 : Cond.arrayClass .char ∈ wsL_law := wc_3 _ (List.mem_of_getElem? (i := 16) rfl)
theorem wm_4_1 : Cond.methodLink RX3 3 objectInit ∈ wsL_law := wc_4 _ (List.mem_of_getElem? (i := 1) rfl)
theorem wm_1_6 : Cond.methodLink RX5 3 objectInit ∈ wsL_law := wc_1 _ (List.mem_of_getElem? (i := 6) rfl)
theorem wm_1_7 : Cond.classLink RX5 9 RX0 ∈ wsL_law := wc_1 _ (List.mem_of_getElem? (i := 7) rfl)
theorem wm_1_8 : Cond.instantiable RX0 5 ∈ wsL_law := wc_1 _ (List.mem_of_getElem? (i := 8) rfl)
theorem wm_1_9 : Cond.initialized RX0 ∈ wsL_law := wc_1 _ (List.mem_of_getElem? (i := 9) rfl)
theorem wm_2_6 : Cond.instanceMethod yX0_init ∈ wsL_law := wc_2 _ (List.mem_of_getElem? (i := 6) rfl)
theorem wm_1_11 : Cond.classLink RX5 18 RX4 ∈ wsL_law := wc_1 _ (List.mem_of_getElem? (i := 11) rfl)
theorem wm_1_12 : Cond.instantiable RX4 3 ∈ wsL_law := wc_1 _ (List.mem_of_getElem? (i := 12) rfl)
theorem wm_1_13 : Cond.initialized RX4 ∈ wsL_law := wc_1 _ (List.mem_of_getElem? (i := 13) rfl)
theorem wm_2_16 : Cond.instanceMethod yX4_init ∈ wsL_law := wc_2 _ (List.mem_of_getElem? (i := 16) rfl)
theorem wm_1_16 : Cond.classLink RX5 28 RX6 ∈ wsL_law := wc_1 _ (List.mem_of_getElem? (i := 16) rfl)
theorem wm_1_17 : Cond.instantiable RX6 3 ∈ wsL_law := wc_1 _ (List.mem_of_getElem? (i := 17) rfl)
theorem wm_1_18 : Cond.initialized RX6 ∈ wsL_law := wc_1 _ (List.mem_of_getElem? (i := 18) rfl)
theorem wm_2_22 : Cond.instanceMethod yX6_init ∈ wsL_law := wc_2 _ (List.mem_of_getElem? (i := 22) rfl)
theorem wm_1_21 : Cond.constant RX5 39 (100000) ∈ wsL_law := wc_1 _ (List.mem_of_getElem? (i := 21) rfl)
theorem wm_3_7 : Cond.methodLink RX1 3 objectInit ∈ wsL_law := wc_3 _ (List.mem_of_getElem? (i := 7) rfl)
theorem wm_3_10 : Cond.classLink RX1 18 RX5 ∈ wsL_law := wc_3 _ (List.mem_of_getElem? (i := 10) rfl)
theorem wm_0_13 : Cond.instantiable RX5 13 ∈ wsL_law := wc_0 _ (List.mem_of_getElem? (i := 13) rfl)
theorem wm_0_14 : Cond.initialized RX5 ∈ wsL_law := wc_0 _ (List.mem_of_getElem? (i := 14) rfl)
theorem wm_1_4 : Cond.instanceMethod yX5_init ∈ wsL_law := wc_1 _ (List.mem_of_getElem? (i := 4) rfl)
theorem wm_0_9 : Cond.methodLink RX7 1 objectInit ∈ wsL_law := wc_0 _ (List.mem_of_getElem? (i := 9) rfl)
theorem wm_0_12 : Cond.classLink RX7 7 RX5 ∈ wsL_law := wc_0 _ (List.mem_of_getElem? (i := 12) rfl)
theorem wm_0_16 : Cond.classLink RX7 16 RX1 ∈ wsL_law := wc_0 _ (List.mem_of_getElem? (i := 16) rfl)
theorem wm_0_17 : Cond.instantiable RX1 3 ∈ wsL_law := wc_0 _ (List.mem_of_getElem? (i := 17) rfl)
theorem wm_0_18 : Cond.initialized RX1 ∈ wsL_law := wc_0 _ (List.mem_of_getElem? (i := 18) rfl)
theorem wm_3_4 : Cond.methodLink RX7 18 yX1_init ∈ wsL_law := wc_3 _ (List.mem_of_getElem? (i := 4) rfl)
theorem wm_3_5 : Cond.instanceMethod yX1_init ∈ wsL_law := wc_3 _ (List.mem_of_getElem? (i := 5) rfl)
theorem wm_0_20 : Cond.classLink RX7 23 RX2 ∈ wsL_law := wc_0 _ (List.mem_of_getElem? (i := 20) rfl)
theorem wm_0_21 : Cond.instantiable RX2 7 ∈ wsL_law := wc_0 _ (List.mem_of_getElem? (i := 21) rfl)
theorem wm_0_22 : Cond.initialized RX2 ∈ wsL_law := wc_0 _ (List.mem_of_getElem? (i := 22) rfl)
theorem wm_3_12 : Cond.instanceMethod yX2_init ∈ wsL_law := wc_3 _ (List.mem_of_getElem? (i := 12) rfl)
theorem wm_1_0 : Cond.classLink RX7 30 RX3 ∈ wsL_law := wc_1 _ (List.mem_of_getElem? (i := 0) rfl)
theorem wm_1_1 : Cond.instantiable RX3 3 ∈ wsL_law := wc_1 _ (List.mem_of_getElem? (i := 1) rfl)
theorem wm_1_2 : Cond.initialized RX3 ∈ wsL_law := wc_1 _ (List.mem_of_getElem? (i := 2) rfl)
theorem wm_3_23 : Cond.instanceMethod yX3_init ∈ wsL_law := wc_3 _ (List.mem_of_getElem? (i := 23) rfl)
theorem wm_4_8 : Cond.methodLink RX8 1 objectInit ∈ wsL_law := wc_4 _ (List.mem_of_getElem? (i := 8) rfl)
theorem wm_4_15 : Cond.constant RX8 29 (100000) ∈ wsL_law := wc_4 _ (List.mem_of_getElem? (i := 15) rfl)
theorem wm_4_16 : Cond.methodLink RL 13 yX7_setRates ∈ wsL_law := wc_4 _ (List.mem_of_getElem? (i := 16) rfl)
theorem wm_6_19 : Cond.methodLink RL 17 yX8_setRates ∈ wsL_law := wc_6 _ (List.mem_of_getElem? (i := 19) rfl)
theorem wm_7_8 : Cond.methodLink RL 18 yX7_setThreshold ∈ wsL_law := wc_7 _ (List.mem_of_getElem? (i := 8) rfl)
theorem wm_7_16 : Cond.methodLink RL 22 yX8_setThreshold ∈ wsL_law := wc_7 _ (List.mem_of_getElem? (i := 16) rfl)
theorem wm_7_20 : Cond.methodLink RL 23 yX7_open ∈ wsL_law := wc_7 _ (List.mem_of_getElem? (i := 20) rfl)
theorem wm_9_1 : Cond.methodLink RL 26 yX8_open ∈ wsL_law := wc_9 _ (List.mem_of_getElem? (i := 1) rfl)
theorem wm_9_17 : Cond.methodLink RL 27 yX7_close ∈ wsL_law := wc_9 _ (List.mem_of_getElem? (i := 17) rfl)
theorem wm_10_17 : Cond.methodLink RL 30 yX8_close ∈ wsL_law := wc_10 _ (List.mem_of_getElem? (i := 17) rfl)
theorem wm_11_5 : Cond.methodLink RL 31 yX7_receive ∈ wsL_law := wc_11 _ (List.mem_of_getElem? (i := 5) rfl)
theorem wm_12_21 : Cond.methodLink RL 35 yX8_receive ∈ wsL_law := wc_12 _ (List.mem_of_getElem? (i := 21) rfl)
theorem wm_14_7 : Cond.methodLink RL 36 yX7_pay ∈ wsL_law := wc_14 _ (List.mem_of_getElem? (i := 7) rfl)
theorem wm_15_0 : Cond.methodLink RL 39 yX8_pay ∈ wsL_law := wc_15 _ (List.mem_of_getElem? (i := 0) rfl)
theorem wm_16_4 : Cond.methodLink RL 40 yX7_transfer ∈ wsL_law := wc_16 _ (List.mem_of_getElem? (i := 4) rfl)
theorem wm_16_12 : Cond.methodLink RL 43 yX8_transfer ∈ wsL_law := wc_16 _ (List.mem_of_getElem? (i := 12) rfl)
theorem wm_17_0 : Cond.methodLink RL 44 yX7_hold ∈ wsL_law := wc_17 _ (List.mem_of_getElem? (i := 0) rfl)
theorem wm_17_17 : Cond.methodLink RL 47 yX8_hold ∈ wsL_law := wc_17 _ (List.mem_of_getElem? (i := 17) rfl)
theorem wm_17_21 : Cond.methodLink RL 48 yX7_release ∈ wsL_law := wc_17 _ (List.mem_of_getElem? (i := 21) rfl)
theorem wm_18_14 : Cond.methodLink RL 51 yX8_release ∈ wsL_law := wc_18 _ (List.mem_of_getElem? (i := 14) rfl)
theorem wm_19_6 : Cond.methodLink RL 52 yX7_bill ∈ wsL_law := wc_19 _ (List.mem_of_getElem? (i := 6) rfl)
theorem wm_19_14 : Cond.methodLink RL 55 yX8_bill ∈ wsL_law := wc_19 _ (List.mem_of_getElem? (i := 14) rfl)
theorem wm_20_2 : Cond.methodLink RL 56 yX7_settle ∈ wsL_law := wc_20 _ (List.mem_of_getElem? (i := 2) rfl)
theorem wm_20_12 : Cond.methodLink RL 59 yX8_settle ∈ wsL_law := wc_20 _ (List.mem_of_getElem? (i := 12) rfl)
theorem wm_21_4 : Cond.methodLink RL 60 yX7_pass ∈ wsL_law := wc_21 _ (List.mem_of_getElem? (i := 4) rfl)
theorem wm_23_1 : Cond.methodLink RL 64 yX8_pass ∈ wsL_law := wc_23 _ (List.mem_of_getElem? (i := 1) rfl)
theorem wm_24_4 : Cond.methodLink RL 65 yX7_reverse ∈ wsL_law := wc_24 _ (List.mem_of_getElem? (i := 4) rfl)
theorem wm_25_2 : Cond.methodLink RL 68 yX8_reverse ∈ wsL_law := wc_25 _ (List.mem_of_getElem? (i := 2) rfl)
theorem wm_26_2 : Cond.methodLink RL 69 yX7_day ∈ wsL_law := wc_26 _ (List.mem_of_getElem? (i := 2) rfl)
theorem wm_26_7 : Cond.methodLink RL 73 yX8_day ∈ wsL_law := wc_26 _ (List.mem_of_getElem? (i := 7) rfl)
theorem wm_26_11 : Cond.methodLink RL 74 yX7_clients ∈ wsL_law := wc_26 _ (List.mem_of_getElem? (i := 11) rfl)
theorem wm_26_17 : Cond.methodLink RL 77 yX8_clients ∈ wsL_law := wc_26 _ (List.mem_of_getElem? (i := 17) rfl)
theorem wm_26_21 : Cond.methodLink RL 78 yX7_ranked ∈ wsL_law := wc_26 _ (List.mem_of_getElem? (i := 21) rfl)
theorem wm_27_22 : Cond.methodLink RL 81 yX8_ranked ∈ wsL_law := wc_27 _ (List.mem_of_getElem? (i := 22) rfl)
theorem wm_28_10 : Cond.methodLink RL 82 yX7_of ∈ wsL_law := wc_28 _ (List.mem_of_getElem? (i := 10) rfl)
theorem wm_28_21 : Cond.methodLink RL 85 yX8_of ∈ wsL_law := wc_28 _ (List.mem_of_getElem? (i := 21) rfl)
theorem wm_29_14 : Cond.methodLink RL 86 yX7_holdOf ∈ wsL_law := wc_29 _ (List.mem_of_getElem? (i := 14) rfl)
theorem wm_30_0 : Cond.methodLink RL 89 yX8_holdOf ∈ wsL_law := wc_30 _ (List.mem_of_getElem? (i := 0) rfl)
theorem wm_30_4 : Cond.methodLink RL 90 yX7_billOf ∈ wsL_law := wc_30 _ (List.mem_of_getElem? (i := 4) rfl)
theorem wm_30_9 : Cond.methodLink RL 93 yX8_billOf ∈ wsL_law := wc_30 _ (List.mem_of_getElem? (i := 9) rfl)
theorem wm_30_13 : Cond.methodLink RL 94 yX7_entries ∈ wsL_law := wc_30 _ (List.mem_of_getElem? (i := 13) rfl)
theorem wm_30_19 : Cond.methodLink RL 97 yX8_entries ∈ wsL_law := wc_30 _ (List.mem_of_getElem? (i := 19) rfl)
theorem wm_30_23 : Cond.methodLink RL 98 yX7_entry ∈ wsL_law := wc_30 _ (List.mem_of_getElem? (i := 23) rfl)
theorem wm_31_5 : Cond.methodLink RL 101 yX8_entry ∈ wsL_law := wc_31 _ (List.mem_of_getElem? (i := 5) rfl)
theorem wm_31_9 : Cond.methodLink RL 102 yX7_sum ∈ wsL_law := wc_31 _ (List.mem_of_getElem? (i := 9) rfl)
theorem wm_32_3 : Cond.methodLink RL 105 yX8_sum ∈ wsL_law := wc_32 _ (List.mem_of_getElem? (i := 3) rfl)
theorem wm_32_12 : Cond.methodLink RL 106 yX7_payableOn ∈ wsL_law := wc_32 _ (List.mem_of_getElem? (i := 12) rfl)
theorem wm_33_1 : Cond.methodLink RL 109 yX8_payableOn ∈ wsL_law := wc_33 _ (List.mem_of_getElem? (i := 1) rfl)
theorem wm_33_5 : Cond.methodLink RL 110 yX7_interestIn ∈ wsL_law := wc_33 _ (List.mem_of_getElem? (i := 5) rfl)
theorem wm_33_13 : Cond.methodLink RL 113 yX8_interestIn ∈ wsL_law := wc_33 _ (List.mem_of_getElem? (i := 13) rfl)
theorem wm_33_17 : Cond.methodLink RL 114 yX7_type ∈ wsL_law := wc_33 _ (List.mem_of_getElem? (i := 17) rfl)
theorem wm_34_2 : Cond.methodLink RL 117 yX8_type ∈ wsL_law := wc_34 _ (List.mem_of_getElem? (i := 2) rfl)
theorem wm_34_7 : Cond.methodLink RL 118 yX7_clearText ∈ wsL_law := wc_34 _ (List.mem_of_getElem? (i := 7) rfl)
theorem wm_34_15 : Cond.methodLink RL 121 yX8_clearText ∈ wsL_law := wc_34 _ (List.mem_of_getElem? (i := 15) rfl)
theorem wm_34_19 : Cond.methodLink RL 122 yX7_syntaxError ∈ wsL_law := wc_34 _ (List.mem_of_getElem? (i := 19) rfl)
theorem wm_39_3 : Cond.methodLink RL 125 yX8_syntaxError ∈ wsL_law := wc_39 _ (List.mem_of_getElem? (i := 3) rfl)
theorem wm_40_9 : Cond.methodLink RL 126 yX7_carryOut ∈ wsL_law := wc_40 _ (List.mem_of_getElem? (i := 9) rfl)
theorem wm_41_10 : Cond.methodLink RL 129 yX8_carryOut ∈ wsL_law := wc_41 _ (List.mem_of_getElem? (i := 10) rfl)
theorem wm_41_22 : Cond.methodLink RL 130 yX7_undo ∈ wsL_law := wc_41 _ (List.mem_of_getElem? (i := 22) rfl)
theorem wm_42_7 : Cond.methodLink RL 133 yX8_undo ∈ wsL_law := wc_42 _ (List.mem_of_getElem? (i := 7) rfl)
theorem wm_42_11 : Cond.methodLink RL 134 yX7_digest ∈ wsL_law := wc_42 _ (List.mem_of_getElem? (i := 11) rfl)
theorem wm_43_11 : Cond.methodLink RL 138 yX8_digest ∈ wsL_law := wc_43 _ (List.mem_of_getElem? (i := 11) rfl)
theorem wm_0_1 : Cond.instantiable RX7 4 ∈ wsL_law := wc_0 _ (List.mem_of_getElem? (i := 1) rfl)
theorem wm_0_4 : Cond.instantiable RX8 16 ∈ wsL_law := wc_0 _ (List.mem_of_getElem? (i := 4) rfl)
theorem wm_0_0 : Cond.classLink RL 7 RX7 ∈ wsL_law := wc_0 _ (List.mem_of_getElem? (i := 0) rfl)
theorem wm_0_6 : Cond.methodLink RL 9 yX7_init ∈ wsL_law := wc_0 _ (List.mem_of_getElem? (i := 6) rfl)
theorem wm_0_7 : Cond.instanceMethod yX7_init ∈ wsL_law := wc_0 _ (List.mem_of_getElem? (i := 7) rfl)
theorem wm_0_3 : Cond.classLink RL 10 RX8 ∈ wsL_law := wc_0 _ (List.mem_of_getElem? (i := 3) rfl)
theorem wm_0_5 : Cond.initialized RX8 ∈ wsL_law := wc_0 _ (List.mem_of_getElem? (i := 5) rfl)
theorem wm_4_5 : Cond.methodLink RL 12 yX8_init ∈ wsL_law := wc_4 _ (List.mem_of_getElem? (i := 5) rfl)
theorem wm_4_6 : Cond.instanceMethod yX8_init ∈ wsL_law := wc_4 _ (List.mem_of_getElem? (i := 6) rfl)
theorem wm_2_7 : Cond.code yX0_init cX0_init 1 none ∈ wsL_law := wc_2 _ (List.mem_of_getElem? (i := 7) rfl)
theorem wm_3_6 : Cond.code yX1_init cX1_init 2 none ∈ wsL_law := wc_3 _ (List.mem_of_getElem? (i := 6) rfl)
theorem wm_3_13 : Cond.code yX2_init cX2_init 1 none ∈ wsL_law := wc_3 _ (List.mem_of_getElem? (i := 13) rfl)
theorem wm_4_0 : Cond.code yX3_init cX3_init 1 none ∈ wsL_law := wc_4 _ (List.mem_of_getElem? (i := 0) rfl)
theorem wm_2_17 : Cond.code yX4_init cX4_init 1 none ∈ wsL_law := wc_2 _ (List.mem_of_getElem? (i := 17) rfl)
theorem wm_1_5 : Cond.code yX5_init cX5_init 1 none ∈ wsL_law := wc_1 _ (List.mem_of_getElem? (i := 5) rfl)
theorem wm_2_23 : Cond.code yX6_init cX6_init 1 none ∈ wsL_law := wc_2 _ (List.mem_of_getElem? (i := 23) rfl)
theorem wm_0_8 : Cond.code yX7_init cX7_init 1 none ∈ wsL_law := wc_0 _ (List.mem_of_getElem? (i := 8) rfl)
theorem wm_11_14 : Cond.code yX7_isAmount cX7_isAmount 1 (some .boolean) ∈ wsL_law := wc_11 _ (List.mem_of_getElem? (i := 14) rfl)
theorem wm_21_15 : Cond.code yX7_nextCreditDay cX7_nextCreditDay 1 (some .int) ∈ wsL_law := wc_21 _ (List.mem_of_getElem? (i := 15) rfl)
theorem wm_4_7 : Cond.code yX8_init cX8_init 1 none ∈ wsL_law := wc_4 _ (List.mem_of_getElem? (i := 7) rfl)
theorem wm_36_17 : Cond.code yJ1_canEncode_9a6ad cJ1_canEncode_9a6ad 1 (some .boolean) ∈ wsL_law := wc_36 _ (List.mem_of_getElem? (i := 17) rfl)
theorem wm_36_16 : Cond.static yJ1_canEncode_9a6ad ∈ wsL_law := wc_36 _ (List.mem_of_getElem? (i := 16) rfl)
theorem wm_36_9 : Cond.initialized RJ1 ∈ wsL_law := wc_36 _ (List.mem_of_getElem? (i := 9) rfl)
theorem wm_36_20 : Cond.code yJ1_indexOfChar_4cfef cJ1_indexOfChar_4cfef 6 (some .int) ∈ wsL_law := wc_36 _ (List.mem_of_getElem? (i := 20) rfl)
theorem wm_36_19 : Cond.static yJ1_indexOfChar_4cfef ∈ wsL_law := wc_36 _ (List.mem_of_getElem? (i := 19) rfl)
theorem wm_36_10 : Cond.code yJ1_indexOf_4cfef cJ1_indexOf_4cfef 4 (some .int) ∈ wsL_law := wc_36 _ (List.mem_of_getElem? (i := 10) rfl)
theorem wm_36_8 : Cond.static yJ1_indexOf_4cfef ∈ wsL_law := wc_36 _ (List.mem_of_getElem? (i := 8) rfl)
theorem wm_38_23 : Cond.code yX2_isDigit cX2_isDigit 1 (some .boolean) ∈ wsL_law := wc_38 _ (List.mem_of_getElem? (i := 23) rfl)
theorem wm_38_22 : Cond.static yX2_isDigit ∈ wsL_law := wc_38 _ (List.mem_of_getElem? (i := 22) rfl)
theorem wm_39_2 : Cond.code yX2_signAfter cX2_signAfter 2 (some .char) ∈ wsL_law := wc_39 _ (List.mem_of_getElem? (i := 2) rfl)
theorem wm_39_1 : Cond.static yX2_signAfter ∈ wsL_law := wc_39 _ (List.mem_of_getElem? (i := 1) rfl)
theorem wm_27_10 : Cond.code yX3_keyOf cX3_keyOf 3 (some .int) ∈ wsL_law := wc_27 _ (List.mem_of_getElem? (i := 10) rfl)
theorem wm_27_9 : Cond.static yX3_keyOf ∈ wsL_law := wc_27 _ (List.mem_of_getElem? (i := 9) rfl)
theorem wm_12_16 : Cond.code yX6_cellOf cX6_cellOf 2 (some .int) ∈ wsL_law := wc_12 _ (List.mem_of_getElem? (i := 16) rfl)
theorem wm_12_15 : Cond.static yX6_cellOf ∈ wsL_law := wc_12 _ (List.mem_of_getElem? (i := 15) rfl)
theorem wm_29_21 : Cond.code yX7_aboutRow cX7_aboutRow 4 (some .int) ∈ wsL_law := wc_29 _ (List.mem_of_getElem? (i := 21) rfl)
theorem wm_29_20 : Cond.static yX7_aboutRow ∈ wsL_law := wc_29 _ (List.mem_of_getElem? (i := 20) rfl)
theorem wm_43_0 : Cond.code yX7_hashOfRows cX7_hashOfRows 7 (some .long) ∈ wsL_law := wc_43 _ (List.mem_of_getElem? (i := 0) rfl)
theorem wm_42_23 : Cond.static yX7_hashOfRows ∈ wsL_law := wc_42 _ (List.mem_of_getElem? (i := 23) rfl)
theorem wm_13_7 : Cond.code yX8_isAmount cX8_isAmount 1 (some .boolean) ∈ wsL_law := wc_13 _ (List.mem_of_getElem? (i := 7) rfl)
theorem wm_13_6 : Cond.static yX8_isAmount ∈ wsL_law := wc_13 _ (List.mem_of_getElem? (i := 6) rfl)
theorem wm_7_2 : Cond.code yX8_within cX8_within 3 (some .boolean) ∈ wsL_law := wc_7 _ (List.mem_of_getElem? (i := 2) rfl)
theorem wm_7_1 : Cond.static yX8_within ∈ wsL_law := wc_7 _ (List.mem_of_getElem? (i := 1) rfl)
theorem wm_36_6 : Cond.code yJ0_coder_7d493 cJ0_coder_7d493 1 (some .byte) ∈ wsL_law := wc_36 _ (List.mem_of_getElem? (i := 6) rfl)
theorem wm_36_4 : Cond.instanceMethod yJ0_coder_7d493 ∈ wsL_law := wc_36 _ (List.mem_of_getElem? (i := 4) rfl)
theorem wm_36_5 : Cond.selects RJ0 yJ0_coder_7d493 yJ0_coder_7d493 ∈ wsL_law := wc_36 _ (List.mem_of_getElem? (i := 5) rfl)
theorem wm_35_10 : Cond.initialized RJ0 ∈ wsL_law := wc_35 _ (List.mem_of_getElem? (i := 10) rfl)
theorem wm_35_11 : Cond.code yJ0_indexOf_0f7a4 cJ0_indexOf_0f7a4 2 (some .int) ∈ wsL_law := wc_35 _ (List.mem_of_getElem? (i := 11) rfl)
theorem wm_35_8 : Cond.instanceMethod yJ0_indexOf_0f7a4 ∈ wsL_law := wc_35 _ (List.mem_of_getElem? (i := 8) rfl)
theorem wm_35_9 : Cond.selects RJ0 yJ0_indexOf_0f7a4 yJ0_indexOf_0f7a4 ∈ wsL_law := wc_35 _ (List.mem_of_getElem? (i := 9) rfl)
theorem wm_35_15 : Cond.code yJ0_indexOf_7cf53 cJ0_indexOf_7cf53 3 (some .int) ∈ wsL_law := wc_35 _ (List.mem_of_getElem? (i := 15) rfl)
theorem wm_35_13 : Cond.instanceMethod yJ0_indexOf_7cf53 ∈ wsL_law := wc_35 _ (List.mem_of_getElem? (i := 13) rfl)
theorem wm_35_14 : Cond.selects RJ0 yJ0_indexOf_7cf53 yJ0_indexOf_7cf53 ∈ wsL_law := wc_35 _ (List.mem_of_getElem? (i := 14) rfl)
theorem wm_35_20 : Cond.code yJ0_isLatin1_aae02 cJ0_isLatin1_aae02 1 (some .boolean) ∈ wsL_law := wc_35 _ (List.mem_of_getElem? (i := 20) rfl)
theorem wm_35_18 : Cond.instanceMethod yJ0_isLatin1_aae02 ∈ wsL_law := wc_35 _ (List.mem_of_getElem? (i := 18) rfl)
theorem wm_35_19 : Cond.selects RJ0 yJ0_isLatin1_aae02 yJ0_isLatin1_aae02 ∈ wsL_law := wc_35 _ (List.mem_of_getElem? (i := 19) rfl)
theorem wm_36_2 : Cond.code yJ0_length_8abf5 cJ0_length_8abf5 1 (some .int) ∈ wsL_law := wc_36 _ (List.mem_of_getElem? (i := 2) rfl)
theorem wm_36_0 : Cond.instanceMethod yJ0_length_8abf5 ∈ wsL_law := wc_36 _ (List.mem_of_getElem? (i := 0) rfl)
theorem wm_36_1 : Cond.selects RJ0 yJ0_length_8abf5 yJ0_length_8abf5 ∈ wsL_law := wc_36 _ (List.mem_of_getElem? (i := 1) rfl)
theorem wm_11_19 : Cond.code yX0_add cX0_add 3 none ∈ wsL_law := wc_11 _ (List.mem_of_getElem? (i := 19) rfl)
theorem wm_11_17 : Cond.instanceMethod yX0_add ∈ wsL_law := wc_11 _ (List.mem_of_getElem? (i := 17) rfl)
theorem wm_11_18 : Cond.selects RX0 yX0_add yX0_add ∈ wsL_law := wc_11 _ (List.mem_of_getElem? (i := 18) rfl)
theorem wm_22_3 : Cond.code yX0_addCount cX0_addCount 4 none ∈ wsL_law := wc_22 _ (List.mem_of_getElem? (i := 3) rfl)
theorem wm_22_1 : Cond.instanceMethod yX0_addCount ∈ wsL_law := wc_22 _ (List.mem_of_getElem? (i := 1) rfl)
theorem wm_22_2 : Cond.selects RX0 yX0_addCount yX0_addCount ∈ wsL_law := wc_22 _ (List.mem_of_getElem? (i := 2) rfl)
theorem wm_10_4 : Cond.code yX0_balanceAt cX0_balanceAt 2 (some .int) ∈ wsL_law := wc_10 _ (List.mem_of_getElem? (i := 4) rfl)
theorem wm_10_2 : Cond.instanceMethod yX0_balanceAt ∈ wsL_law := wc_10 _ (List.mem_of_getElem? (i := 2) rfl)
theorem wm_10_3 : Cond.selects RX0 yX0_balanceAt yX0_balanceAt ∈ wsL_law := wc_10 _ (List.mem_of_getElem? (i := 3) rfl)
theorem wm_5_11 : Cond.code yX0_copyFrom cX0_copyFrom 2 none ∈ wsL_law := wc_5 _ (List.mem_of_getElem? (i := 11) rfl)
theorem wm_5_9 : Cond.instanceMethod yX0_copyFrom ∈ wsL_law := wc_5 _ (List.mem_of_getElem? (i := 9) rfl)
theorem wm_5_10 : Cond.selects RX0 yX0_copyFrom yX0_copyFrom ∈ wsL_law := wc_5 _ (List.mem_of_getElem? (i := 10) rfl)
theorem wm_9_0 : Cond.code yX0_copyRow cX0_copyRow 3 none ∈ wsL_law := wc_9 _ (List.mem_of_getElem? (i := 0) rfl)
theorem wm_8_22 : Cond.instanceMethod yX0_copyRow ∈ wsL_law := wc_8 _ (List.mem_of_getElem? (i := 22) rfl)
theorem wm_8_23 : Cond.selects RX0 yX0_copyRow yX0_copyRow ∈ wsL_law := wc_8 _ (List.mem_of_getElem? (i := 23) rfl)
theorem wm_22_12 : Cond.code yX0_countAt cX0_countAt 2 (some .long) ∈ wsL_law := wc_22 _ (List.mem_of_getElem? (i := 12) rfl)
theorem wm_22_10 : Cond.instanceMethod yX0_countAt ∈ wsL_law := wc_22 _ (List.mem_of_getElem? (i := 10) rfl)
theorem wm_22_11 : Cond.selects RX0 yX0_countAt yX0_countAt ∈ wsL_law := wc_22 _ (List.mem_of_getElem? (i := 11) rfl)
theorem wm_8_8 : Cond.code yX0_find cX0_find 3 (some .int) ∈ wsL_law := wc_8 _ (List.mem_of_getElem? (i := 8) rfl)
theorem wm_8_6 : Cond.instanceMethod yX0_find ∈ wsL_law := wc_8 _ (List.mem_of_getElem? (i := 6) rfl)
theorem wm_8_7 : Cond.selects RX0 yX0_find yX0_find ∈ wsL_law := wc_8 _ (List.mem_of_getElem? (i := 7) rfl)
theorem wm_8_12 : Cond.code yX0_insert cX0_insert 4 none ∈ wsL_law := wc_8 _ (List.mem_of_getElem? (i := 12) rfl)
theorem wm_8_10 : Cond.instanceMethod yX0_insert ∈ wsL_law := wc_8 _ (List.mem_of_getElem? (i := 10) rfl)
theorem wm_8_11 : Cond.selects RX0 yX0_insert yX0_insert ∈ wsL_law := wc_8 _ (List.mem_of_getElem? (i := 11) rfl)
theorem wm_8_20 : Cond.code yX0_isPlace cX0_isPlace 2 (some .boolean) ∈ wsL_law := wc_8 _ (List.mem_of_getElem? (i := 20) rfl)
theorem wm_8_18 : Cond.instanceMethod yX0_isPlace ∈ wsL_law := wc_8 _ (List.mem_of_getElem? (i := 18) rfl)
theorem wm_8_19 : Cond.selects RX0 yX0_isPlace yX0_isPlace ∈ wsL_law := wc_8 _ (List.mem_of_getElem? (i := 19) rfl)
theorem wm_12_20 : Cond.code yX0_move cX0_move 3 none ∈ wsL_law := wc_12 _ (List.mem_of_getElem? (i := 20) rfl)
theorem wm_12_18 : Cond.instanceMethod yX0_move ∈ wsL_law := wc_12 _ (List.mem_of_getElem? (i := 18) rfl)
theorem wm_12_19 : Cond.selects RX0 yX0_move yX0_move ∈ wsL_law := wc_12 _ (List.mem_of_getElem? (i := 19) rfl)
theorem wm_27_16 : Cond.code yX0_movedAt cX0_movedAt 2 (some .int) ∈ wsL_law := wc_27 _ (List.mem_of_getElem? (i := 16) rfl)
theorem wm_27_14 : Cond.instanceMethod yX0_movedAt ∈ wsL_law := wc_27 _ (List.mem_of_getElem? (i := 14) rfl)
theorem wm_27_15 : Cond.selects RX0 yX0_movedAt yX0_movedAt ∈ wsL_law := wc_27 _ (List.mem_of_getElem? (i := 15) rfl)
theorem wm_8_16 : Cond.code yX0_numberAt cX0_numberAt 2 (some .int) ∈ wsL_law := wc_8 _ (List.mem_of_getElem? (i := 16) rfl)
theorem wm_8_14 : Cond.instanceMethod yX0_numberAt ∈ wsL_law := wc_8 _ (List.mem_of_getElem? (i := 14) rfl)
theorem wm_8_15 : Cond.selects RX0 yX0_numberAt yX0_numberAt ∈ wsL_law := wc_8 _ (List.mem_of_getElem? (i := 15) rfl)
theorem wm_10_16 : Cond.code yX0_remove cX0_remove 3 none ∈ wsL_law := wc_10 _ (List.mem_of_getElem? (i := 16) rfl)
theorem wm_10_14 : Cond.instanceMethod yX0_remove ∈ wsL_law := wc_10 _ (List.mem_of_getElem? (i := 14) rfl)
theorem wm_10_15 : Cond.selects RX0 yX0_remove yX0_remove ∈ wsL_law := wc_10 _ (List.mem_of_getElem? (i := 15) rfl)
theorem wm_31_21 : Cond.code yX0_sumOfBalances cX0_sumOfBalances 4 (some .long) ∈ wsL_law := wc_31 _ (List.mem_of_getElem? (i := 21) rfl)
theorem wm_31_19 : Cond.instanceMethod yX0_sumOfBalances ∈ wsL_law := wc_31 _ (List.mem_of_getElem? (i := 19) rfl)
theorem wm_31_20 : Cond.selects RX0 yX0_sumOfBalances yX0_sumOfBalances ∈ wsL_law := wc_31 _ (List.mem_of_getElem? (i := 20) rfl)
theorem wm_6_14 : Cond.code yX1_keep cX1_keep 1 none ∈ wsL_law := wc_6 _ (List.mem_of_getElem? (i := 14) rfl)
theorem wm_6_12 : Cond.instanceMethod yX1_keep ∈ wsL_law := wc_6 _ (List.mem_of_getElem? (i := 12) rfl)
theorem wm_6_13 : Cond.selects RX1 yX1_keep yX1_keep ∈ wsL_law := wc_6 _ (List.mem_of_getElem? (i := 13) rfl)
theorem wm_4_23 : Cond.code yX1_prepare cX1_prepare 3 none ∈ wsL_law := wc_4 _ (List.mem_of_getElem? (i := 23) rfl)
theorem wm_4_21 : Cond.instanceMethod yX1_prepare ∈ wsL_law := wc_4 _ (List.mem_of_getElem? (i := 21) rfl)
theorem wm_4_22 : Cond.selects RX1 yX1_prepare yX1_prepare ∈ wsL_law := wc_4 _ (List.mem_of_getElem? (i := 22) rfl)
theorem wm_42_6 : Cond.code yX1_restoreLatest cX1_restoreLatest 3 (some .int) ∈ wsL_law := wc_42 _ (List.mem_of_getElem? (i := 6) rfl)
theorem wm_42_4 : Cond.instanceMethod yX1_restoreLatest ∈ wsL_law := wc_42 _ (List.mem_of_getElem? (i := 4) rfl)
theorem wm_42_5 : Cond.selects RX1 yX1_restoreLatest yX1_restoreLatest ∈ wsL_law := wc_42 _ (List.mem_of_getElem? (i := 5) rfl)
theorem wm_5_3 : Cond.code yX1_slotAt cX1_slotAt 2 (some (.object "ClientMoneyBook$State")) ∈ wsL_law := wc_5 _ (List.mem_of_getElem? (i := 3) rfl)
theorem wm_5_1 : Cond.instanceMethod yX1_slotAt ∈ wsL_law := wc_5 _ (List.mem_of_getElem? (i := 1) rfl)
theorem wm_5_2 : Cond.selects RX1 yX1_slotAt yX1_slotAt ∈ wsL_law := wc_5 _ (List.mem_of_getElem? (i := 2) rfl)
theorem wm_34_1 : Cond.code yX2_append cX2_append 2 (some .int) ∈ wsL_law := wc_34 _ (List.mem_of_getElem? (i := 1) rfl)
theorem wm_33_23 : Cond.instanceMethod yX2_append ∈ wsL_law := wc_33 _ (List.mem_of_getElem? (i := 23) rfl)
theorem wm_34_0 : Cond.selects RX2 yX2_append yX2_append ∈ wsL_law := wc_34 _ (List.mem_of_getElem? (i := 0) rfl)
theorem wm_35_6 : Cond.code yX2_at cX2_at 2 (some .char) ∈ wsL_law := wc_35 _ (List.mem_of_getElem? (i := 6) rfl)
theorem wm_35_4 : Cond.instanceMethod yX2_at ∈ wsL_law := wc_35 _ (List.mem_of_getElem? (i := 4) rfl)
theorem wm_35_5 : Cond.selects RX2 yX2_at yX2_at ∈ wsL_law := wc_35 _ (List.mem_of_getElem? (i := 5) rfl)
theorem wm_34_14 : Cond.code yX2_empty cX2_empty 2 (some .int) ∈ wsL_law := wc_34 _ (List.mem_of_getElem? (i := 14) rfl)
theorem wm_34_12 : Cond.instanceMethod yX2_empty ∈ wsL_law := wc_34 _ (List.mem_of_getElem? (i := 12) rfl)
theorem wm_34_13 : Cond.selects RX2 yX2_empty yX2_empty ∈ wsL_law := wc_34 _ (List.mem_of_getElem? (i := 13) rfl)
theorem wm_35_2 : Cond.code yX2_firstError cX2_firstError 6 (some .int) ∈ wsL_law := wc_35 _ (List.mem_of_getElem? (i := 2) rfl)
theorem wm_35_0 : Cond.instanceMethod yX2_firstError ∈ wsL_law := wc_35 _ (List.mem_of_getElem? (i := 0) rfl)
theorem wm_35_1 : Cond.selects RX2 yX2_firstError yX2_firstError ∈ wsL_law := wc_35 _ (List.mem_of_getElem? (i := 1) rfl)
theorem wm_41_0 : Cond.code yX2_readNumber cX2_readNumber 3 (some .int) ∈ wsL_law := wc_41 _ (List.mem_of_getElem? (i := 0) rfl)
theorem wm_40_22 : Cond.instanceMethod yX2_readNumber ∈ wsL_law := wc_40 _ (List.mem_of_getElem? (i := 22) rfl)
theorem wm_40_23 : Cond.selects RX2 yX2_readNumber yX2_readNumber ∈ wsL_law := wc_40 _ (List.mem_of_getElem? (i := 23) rfl)
theorem wm_40_20 : Cond.code yX2_readOrder cX2_readOrder 1 (some .boolean) ∈ wsL_law := wc_40 _ (List.mem_of_getElem? (i := 20) rfl)
theorem wm_40_18 : Cond.instanceMethod yX2_readOrder ∈ wsL_law := wc_40 _ (List.mem_of_getElem? (i := 18) rfl)
theorem wm_40_19 : Cond.selects RX2 yX2_readOrder yX2_readOrder ∈ wsL_law := wc_40 _ (List.mem_of_getElem? (i := 19) rfl)
theorem wm_40_16 : Cond.code yX2_startReading cX2_startReading 1 none ∈ wsL_law := wc_40 _ (List.mem_of_getElem? (i := 16) rfl)
theorem wm_40_14 : Cond.instanceMethod yX2_startReading ∈ wsL_law := wc_40 _ (List.mem_of_getElem? (i := 14) rfl)
theorem wm_40_15 : Cond.selects RX2 yX2_startReading yX2_startReading ∈ wsL_law := wc_40 _ (List.mem_of_getElem? (i := 15) rfl)
theorem wm_27_21 : Cond.code yX3_clientAt cX3_clientAt 2 (some .int) ∈ wsL_law := wc_27 _ (List.mem_of_getElem? (i := 21) rfl)
theorem wm_27_19 : Cond.instanceMethod yX3_clientAt ∈ wsL_law := wc_27 _ (List.mem_of_getElem? (i := 19) rfl)
theorem wm_27_20 : Cond.selects RX3 yX3_clientAt yX3_clientAt ∈ wsL_law := wc_27 _ (List.mem_of_getElem? (i := 20) rfl)
theorem wm_27_4 : Cond.code yX3_sort cX3_sort 6 none ∈ wsL_law := wc_27 _ (List.mem_of_getElem? (i := 4) rfl)
theorem wm_27_2 : Cond.instanceMethod yX3_sort ∈ wsL_law := wc_27 _ (List.mem_of_getElem? (i := 2) rfl)
theorem wm_27_3 : Cond.selects RX3 yX3_sort yX3_sort ∈ wsL_law := wc_27 _ (List.mem_of_getElem? (i := 3) rfl)
theorem wm_17_12 : Cond.code yX4_append cX4_append 5 (some .int) ∈ wsL_law := wc_17 _ (List.mem_of_getElem? (i := 12) rfl)
theorem wm_17_10 : Cond.instanceMethod yX4_append ∈ wsL_law := wc_17 _ (List.mem_of_getElem? (i := 10) rfl)
theorem wm_17_11 : Cond.selects RX4 yX4_append yX4_append ∈ wsL_law := wc_17 _ (List.mem_of_getElem? (i := 11) rfl)
theorem wm_5_19 : Cond.code yX4_copyFrom cX4_copyFrom 2 none ∈ wsL_law := wc_5 _ (List.mem_of_getElem? (i := 19) rfl)
theorem wm_5_17 : Cond.instanceMethod yX4_copyFrom ∈ wsL_law := wc_5 _ (List.mem_of_getElem? (i := 17) rfl)
theorem wm_5_18 : Cond.selects RX4 yX4_copyFrom yX4_copyFrom ∈ wsL_law := wc_5 _ (List.mem_of_getElem? (i := 18) rfl)
theorem wm_10_8 : Cond.code yX4_countOf cX4_countOf 4 (some .int) ∈ wsL_law := wc_10 _ (List.mem_of_getElem? (i := 8) rfl)
theorem wm_10_6 : Cond.instanceMethod yX4_countOf ∈ wsL_law := wc_10 _ (List.mem_of_getElem? (i := 6) rfl)
theorem wm_10_7 : Cond.selects RX4 yX4_countOf yX4_countOf ∈ wsL_law := wc_10 _ (List.mem_of_getElem? (i := 7) rfl)
theorem wm_18_8 : Cond.code yX4_find cX4_find 3 (some .int) ∈ wsL_law := wc_18 _ (List.mem_of_getElem? (i := 8) rfl)
theorem wm_18_6 : Cond.instanceMethod yX4_find ∈ wsL_law := wc_18 _ (List.mem_of_getElem? (i := 6) rfl)
theorem wm_18_7 : Cond.selects RX4 yX4_find yX4_find ∈ wsL_law := wc_18 _ (List.mem_of_getElem? (i := 7) rfl)
theorem wm_10_12 : Cond.code yX4_get cX4_get 3 (some .int) ∈ wsL_law := wc_10 _ (List.mem_of_getElem? (i := 12) rfl)
theorem wm_10_10 : Cond.instanceMethod yX4_get ∈ wsL_law := wc_10 _ (List.mem_of_getElem? (i := 10) rfl)
theorem wm_10_11 : Cond.selects RX4 yX4_get yX4_get ∈ wsL_law := wc_10 _ (List.mem_of_getElem? (i := 11) rfl)
theorem wm_18_13 : Cond.code yX4_remove cX4_remove 4 none ∈ wsL_law := wc_18 _ (List.mem_of_getElem? (i := 13) rfl)
theorem wm_18_11 : Cond.instanceMethod yX4_remove ∈ wsL_law := wc_18 _ (List.mem_of_getElem? (i := 11) rfl)
theorem wm_18_12 : Cond.selects RX4 yX4_remove yX4_remove ∈ wsL_law := wc_18 _ (List.mem_of_getElem? (i := 12) rfl)
theorem wm_17_16 : Cond.code yX4_set cX4_set 4 none ∈ wsL_law := wc_17 _ (List.mem_of_getElem? (i := 16) rfl)
theorem wm_17_14 : Cond.instanceMethod yX4_set ∈ wsL_law := wc_17 _ (List.mem_of_getElem? (i := 14) rfl)
theorem wm_17_15 : Cond.selects RX4 yX4_set yX4_set ∈ wsL_law := wc_17 _ (List.mem_of_getElem? (i := 15) rfl)
theorem wm_14_23 : Cond.code yX4_sumOf cX4_sumOf 5 (some .int) ∈ wsL_law := wc_14 _ (List.mem_of_getElem? (i := 23) rfl)
theorem wm_14_21 : Cond.instanceMethod yX4_sumOf ∈ wsL_law := wc_14 _ (List.mem_of_getElem? (i := 21) rfl)
theorem wm_14_22 : Cond.selects RX4 yX4_sumOf yX4_sumOf ∈ wsL_law := wc_14 _ (List.mem_of_getElem? (i := 22) rfl)
theorem wm_32_2 : Cond.code yX4_sumOfAll cX4_sumOfAll 5 (some .long) ∈ wsL_law := wc_32 _ (List.mem_of_getElem? (i := 2) rfl)
theorem wm_32_0 : Cond.instanceMethod yX4_sumOfAll ∈ wsL_law := wc_32 _ (List.mem_of_getElem? (i := 0) rfl)
theorem wm_32_1 : Cond.selects RX4 yX4_sumOfAll yX4_sumOfAll ∈ wsL_law := wc_32 _ (List.mem_of_getElem? (i := 1) rfl)
theorem wm_28_18 : Cond.code yX5_aboutClient cX5_aboutClient 4 (some .int) ∈ wsL_law := wc_28 _ (List.mem_of_getElem? (i := 18) rfl)
theorem wm_28_16 : Cond.instanceMethod yX5_aboutClient ∈ wsL_law := wc_28 _ (List.mem_of_getElem? (i := 16) rfl)
theorem wm_28_17 : Cond.selects RX5 yX5_aboutClient yX5_aboutClient ∈ wsL_law := wc_28 _ (List.mem_of_getElem? (i := 17) rfl)
theorem wm_6_5 : Cond.code yX5_changeRates cX5_changeRates 5 (some .int) ∈ wsL_law := wc_6 _ (List.mem_of_getElem? (i := 5) rfl)
theorem wm_6_3 : Cond.instanceMethod yX5_changeRates ∈ wsL_law := wc_6 _ (List.mem_of_getElem? (i := 3) rfl)
theorem wm_6_4 : Cond.selects RX5 yX5_changeRates yX5_changeRates ∈ wsL_law := wc_6 _ (List.mem_of_getElem? (i := 4) rfl)
theorem wm_7_15 : Cond.code yX5_changeThreshold cX5_changeThreshold 3 (some .int) ∈ wsL_law := wc_7 _ (List.mem_of_getElem? (i := 15) rfl)
theorem wm_7_13 : Cond.instanceMethod yX5_changeThreshold ∈ wsL_law := wc_7 _ (List.mem_of_getElem? (i := 13) rfl)
theorem wm_7_14 : Cond.selects RX5 yX5_changeThreshold yX5_changeThreshold ∈ wsL_law := wc_7 _ (List.mem_of_getElem? (i := 14) rfl)
theorem wm_10_0 : Cond.code yX5_closeAccount cX5_closeAccount 3 (some .int) ∈ wsL_law := wc_10 _ (List.mem_of_getElem? (i := 0) rfl)
theorem wm_9_22 : Cond.instanceMethod yX5_closeAccount ∈ wsL_law := wc_9 _ (List.mem_of_getElem? (i := 22) rfl)
theorem wm_9_23 : Cond.selects RX5 yX5_closeAccount yX5_closeAccount ∈ wsL_law := wc_9 _ (List.mem_of_getElem? (i := 23) rfl)
theorem wm_5_7 : Cond.code yX5_copyFrom cX5_copyFrom 2 none ∈ wsL_law := wc_5 _ (List.mem_of_getElem? (i := 7) rfl)
theorem wm_5_5 : Cond.instanceMethod yX5_copyFrom ∈ wsL_law := wc_5 _ (List.mem_of_getElem? (i := 5) rfl)
theorem wm_5_6 : Cond.selects RX5 yX5_copyFrom yX5_copyFrom ∈ wsL_law := wc_5 _ (List.mem_of_getElem? (i := 6) rfl)
theorem wm_22_7 : Cond.code yX5_creditAll cX5_creditAll 3 none ∈ wsL_law := wc_22 _ (List.mem_of_getElem? (i := 7) rfl)
theorem wm_22_5 : Cond.instanceMethod yX5_creditAll ∈ wsL_law := wc_22 _ (List.mem_of_getElem? (i := 5) rfl)
theorem wm_22_6 : Cond.selects RX5 yX5_creditAll yX5_creditAll ∈ wsL_law := wc_22 _ (List.mem_of_getElem? (i := 6) rfl)
theorem wm_18_4 : Cond.code yX5_endHold cX5_endHold 4 (some .int) ∈ wsL_law := wc_18 _ (List.mem_of_getElem? (i := 4) rfl)
theorem wm_18_2 : Cond.instanceMethod yX5_endHold ∈ wsL_law := wc_18 _ (List.mem_of_getElem? (i := 2) rfl)
theorem wm_18_3 : Cond.selects RX5 yX5_endHold yX5_endHold ∈ wsL_law := wc_18 _ (List.mem_of_getElem? (i := 3) rfl)
theorem wm_23_0 : Cond.code yX5_endHoldsThatAreOver cX5_endHoldsThatAreOver 2 none ∈ wsL_law := wc_23 _ (List.mem_of_getElem? (i := 0) rfl)
theorem wm_22_22 : Cond.instanceMethod yX5_endHoldsThatAreOver ∈ wsL_law := wc_22 _ (List.mem_of_getElem? (i := 22) rfl)
theorem wm_22_23 : Cond.selects RX5 yX5_endHoldsThatAreOver yX5_endHoldsThatAreOver ∈ wsL_law := wc_22 _ (List.mem_of_getElem? (i := 23) rfl)
theorem wm_11_23 : Cond.code yX5_enter cX5_enter 5 none ∈ wsL_law := wc_11 _ (List.mem_of_getElem? (i := 23) rfl)
theorem wm_11_21 : Cond.instanceMethod yX5_enter ∈ wsL_law := wc_11 _ (List.mem_of_getElem? (i := 21) rfl)
theorem wm_11_22 : Cond.selects RX5 yX5_enter yX5_enter ∈ wsL_law := wc_11 _ (List.mem_of_getElem? (i := 22) rfl)
theorem wm_32_20 : Cond.code yX5_firstDayWithFree cX5_firstDayWithFree 10 (some .int) ∈ wsL_law := wc_32 _ (List.mem_of_getElem? (i := 20) rfl)
theorem wm_32_18 : Cond.instanceMethod yX5_firstDayWithFree ∈ wsL_law := wc_32 _ (List.mem_of_getElem? (i := 18) rfl)
theorem wm_32_19 : Cond.selects RX5 yX5_firstDayWithFree yX5_firstDayWithFree ∈ wsL_law := wc_32 _ (List.mem_of_getElem? (i := 19) rfl)
theorem wm_14_18 : Cond.code yX5_freeAt cX5_freeAt 2 (some .int) ∈ wsL_law := wc_14 _ (List.mem_of_getElem? (i := 18) rfl)
theorem wm_14_16 : Cond.instanceMethod yX5_freeAt ∈ wsL_law := wc_14 _ (List.mem_of_getElem? (i := 16) rfl)
theorem wm_14_17 : Cond.selects RX5 yX5_freeAt yX5_freeAt ∈ wsL_law := wc_14 _ (List.mem_of_getElem? (i := 17) rfl)
theorem wm_21_19 : Cond.code yX5_growUntil cX5_growUntil 3 none ∈ wsL_law := wc_21 _ (List.mem_of_getElem? (i := 19) rfl)
theorem wm_21_17 : Cond.instanceMethod yX5_growUntil ∈ wsL_law := wc_21 _ (List.mem_of_getElem? (i := 17) rfl)
theorem wm_21_18 : Cond.selects RX5 yX5_growUntil yX5_growUntil ∈ wsL_law := wc_21 _ (List.mem_of_getElem? (i := 18) rfl)
theorem wm_21_23 : Cond.code yX5_growthPerDay cX5_growthPerDay 4 (some .long) ∈ wsL_law := wc_21 _ (List.mem_of_getElem? (i := 23) rfl)
theorem wm_21_21 : Cond.instanceMethod yX5_growthPerDay ∈ wsL_law := wc_21 _ (List.mem_of_getElem? (i := 21) rfl)
theorem wm_21_22 : Cond.selects RX5 yX5_growthPerDay yX5_growthPerDay ∈ wsL_law := wc_21 _ (List.mem_of_getElem? (i := 22) rfl)
theorem wm_33_0 : Cond.code yX5_heldOn cX5_heldOn 5 (some .int) ∈ wsL_law := wc_33 _ (List.mem_of_getElem? (i := 0) rfl)
theorem wm_32_22 : Cond.instanceMethod yX5_heldOn ∈ wsL_law := wc_32 _ (List.mem_of_getElem? (i := 22) rfl)
theorem wm_32_23 : Cond.selects RX5 yX5_heldOn yX5_heldOn ∈ wsL_law := wc_32 _ (List.mem_of_getElem? (i := 23) rfl)
theorem wm_33_12 : Cond.code yX5_interestAhead cX5_interestAhead 10 (some .int) ∈ wsL_law := wc_33 _ (List.mem_of_getElem? (i := 12) rfl)
theorem wm_33_10 : Cond.instanceMethod yX5_interestAhead ∈ wsL_law := wc_33 _ (List.mem_of_getElem? (i := 10) rfl)
theorem wm_33_11 : Cond.selects RX5 yX5_interestAhead yX5_interestAhead ∈ wsL_law := wc_33 _ (List.mem_of_getElem? (i := 11) rfl)
theorem wm_22_16 : Cond.code yX5_interestToCredit cX5_interestToCredit 6 (some .int) ∈ wsL_law := wc_22 _ (List.mem_of_getElem? (i := 16) rfl)
theorem wm_22_14 : Cond.instanceMethod yX5_interestToCredit ∈ wsL_law := wc_22 _ (List.mem_of_getElem? (i := 14) rfl)
theorem wm_22_15 : Cond.selects RX5 yX5_interestToCredit yX5_interestToCredit ∈ wsL_law := wc_22 _ (List.mem_of_getElem? (i := 15) rfl)
theorem wm_21_11 : Cond.code yX5_letPass cX5_letPass 6 (some .long) ∈ wsL_law := wc_21 _ (List.mem_of_getElem? (i := 11) rfl)
theorem wm_21_9 : Cond.instanceMethod yX5_letPass ∈ wsL_law := wc_21 _ (List.mem_of_getElem? (i := 9) rfl)
theorem wm_21_10 : Cond.selects RX5 yX5_letPass yX5_letPass ∈ wsL_law := wc_21 _ (List.mem_of_getElem? (i := 10) rfl)
theorem wm_17_7 : Cond.code yX5_makeHold cX5_makeHold 5 (some .int) ∈ wsL_law := wc_17 _ (List.mem_of_getElem? (i := 7) rfl)
theorem wm_17_5 : Cond.instanceMethod yX5_makeHold ∈ wsL_law := wc_17 _ (List.mem_of_getElem? (i := 5) rfl)
theorem wm_17_6 : Cond.selects RX5 yX5_makeHold yX5_makeHold ∈ wsL_law := wc_17 _ (List.mem_of_getElem? (i := 6) rfl)
theorem wm_14_14 : Cond.code yX5_makePayment cX5_makePayment 4 (some .int) ∈ wsL_law := wc_14 _ (List.mem_of_getElem? (i := 14) rfl)
theorem wm_14_12 : Cond.instanceMethod yX5_makePayment ∈ wsL_law := wc_14 _ (List.mem_of_getElem? (i := 12) rfl)
theorem wm_14_13 : Cond.selects RX5 yX5_makePayment yX5_makePayment ∈ wsL_law := wc_14 _ (List.mem_of_getElem? (i := 13) rfl)
theorem wm_16_11 : Cond.code yX5_makeTransfer cX5_makeTransfer 6 (some .int) ∈ wsL_law := wc_16 _ (List.mem_of_getElem? (i := 11) rfl)
theorem wm_16_9 : Cond.instanceMethod yX5_makeTransfer ∈ wsL_law := wc_16 _ (List.mem_of_getElem? (i := 9) rfl)
theorem wm_16_10 : Cond.selects RX5 yX5_makeTransfer yX5_makeTransfer ∈ wsL_law := wc_16 _ (List.mem_of_getElem? (i := 10) rfl)
theorem wm_8_3 : Cond.code yX5_openAccount cX5_openAccount 2 (some .int) ∈ wsL_law := wc_8 _ (List.mem_of_getElem? (i := 3) rfl)
theorem wm_8_1 : Cond.instanceMethod yX5_openAccount ∈ wsL_law := wc_8 _ (List.mem_of_getElem? (i := 1) rfl)
theorem wm_8_2 : Cond.selects RX5 yX5_openAccount yX5_openAccount ∈ wsL_law := wc_8 _ (List.mem_of_getElem? (i := 2) rfl)
theorem wm_24_11 : Cond.code yX5_reverseEntry cX5_reverseEntry 10 (some .int) ∈ wsL_law := wc_24 _ (List.mem_of_getElem? (i := 11) rfl)
theorem wm_24_9 : Cond.instanceMethod yX5_reverseEntry ∈ wsL_law := wc_24 _ (List.mem_of_getElem? (i := 9) rfl)
theorem wm_24_10 : Cond.selects RX5 yX5_reverseEntry yX5_reverseEntry ∈ wsL_law := wc_24 _ (List.mem_of_getElem? (i := 10) rfl)
theorem wm_20_9 : Cond.code yX5_settleBill cX5_settleBill 7 (some .int) ∈ wsL_law := wc_20 _ (List.mem_of_getElem? (i := 9) rfl)
theorem wm_20_7 : Cond.instanceMethod yX5_settleBill ∈ wsL_law := wc_20 _ (List.mem_of_getElem? (i := 7) rfl)
theorem wm_20_8 : Cond.selects RX5 yX5_settleBill yX5_settleBill ∈ wsL_law := wc_20 _ (List.mem_of_getElem? (i := 8) rfl)
theorem wm_11_12 : Cond.code yX5_takeReceipt cX5_takeReceipt 4 (some .int) ∈ wsL_law := wc_11 _ (List.mem_of_getElem? (i := 12) rfl)
theorem wm_11_10 : Cond.instanceMethod yX5_takeReceipt ∈ wsL_law := wc_11 _ (List.mem_of_getElem? (i := 10) rfl)
theorem wm_11_11 : Cond.selects RX5 yX5_takeReceipt yX5_takeReceipt ∈ wsL_law := wc_11 _ (List.mem_of_getElem? (i := 11) rfl)
theorem wm_19_13 : Cond.code yX5_writeBill cX5_writeBill 3 (some .int) ∈ wsL_law := wc_19 _ (List.mem_of_getElem? (i := 13) rfl)
theorem wm_19_11 : Cond.instanceMethod yX5_writeBill ∈ wsL_law := wc_19 _ (List.mem_of_getElem? (i := 11) rfl)
theorem wm_19_12 : Cond.selects RX5 yX5_writeBill yX5_writeBill ∈ wsL_law := wc_19 _ (List.mem_of_getElem? (i := 12) rfl)
theorem wm_12_3 : Cond.code yX6_append cX6_append 8 none ∈ wsL_law := wc_12 _ (List.mem_of_getElem? (i := 3) rfl)
theorem wm_12_1 : Cond.instanceMethod yX6_append ∈ wsL_law := wc_12 _ (List.mem_of_getElem? (i := 1) rfl)
theorem wm_12_2 : Cond.selects RX6 yX6_append yX6_append ∈ wsL_law := wc_12 _ (List.mem_of_getElem? (i := 2) rfl)
theorem wm_6_0 : Cond.code yX6_copyFrom cX6_copyFrom 2 none ∈ wsL_law := wc_6 _ (List.mem_of_getElem? (i := 0) rfl)
theorem wm_5_22 : Cond.instanceMethod yX6_copyFrom ∈ wsL_law := wc_5 _ (List.mem_of_getElem? (i := 22) rfl)
theorem wm_5_23 : Cond.selects RX6 yX6_copyFrom yX6_copyFrom ∈ wsL_law := wc_5 _ (List.mem_of_getElem? (i := 23) rfl)
theorem wm_24_20 : Cond.code yX6_get cX6_get 4 (some .int) ∈ wsL_law := wc_24 _ (List.mem_of_getElem? (i := 20) rfl)
theorem wm_24_18 : Cond.instanceMethod yX6_get ∈ wsL_law := wc_24 _ (List.mem_of_getElem? (i := 18) rfl)
theorem wm_24_19 : Cond.selects RX6 yX6_get yX6_get ∈ wsL_law := wc_24 _ (List.mem_of_getElem? (i := 19) rfl)
theorem wm_24_16 : Cond.code yX6_keeps cX6_keeps 2 (some .boolean) ∈ wsL_law := wc_24 _ (List.mem_of_getElem? (i := 16) rfl)
theorem wm_24_14 : Cond.instanceMethod yX6_keeps ∈ wsL_law := wc_24 _ (List.mem_of_getElem? (i := 14) rfl)
theorem wm_24_15 : Cond.selects RX6 yX6_keeps yX6_keeps ∈ wsL_law := wc_24 _ (List.mem_of_getElem? (i := 15) rfl)
theorem wm_25_1 : Cond.code yX6_markReversed cX6_markReversed 2 none ∈ wsL_law := wc_25 _ (List.mem_of_getElem? (i := 1) rfl)
theorem wm_24_23 : Cond.instanceMethod yX6_markReversed ∈ wsL_law := wc_24 _ (List.mem_of_getElem? (i := 23) rfl)
theorem wm_25_0 : Cond.selects RX6 yX6_markReversed yX6_markReversed ∈ wsL_law := wc_25 _ (List.mem_of_getElem? (i := 0) rfl)
theorem wm_12_13 : Cond.code yX6_set cX6_set 5 none ∈ wsL_law := wc_12 _ (List.mem_of_getElem? (i := 13) rfl)
theorem wm_12_11 : Cond.instanceMethod yX6_set ∈ wsL_law := wc_12 _ (List.mem_of_getElem? (i := 11) rfl)
theorem wm_12_12 : Cond.selects RX6 yX6_set yX6_set ∈ wsL_law := wc_12 _ (List.mem_of_getElem? (i := 12) rfl)
theorem wm_19_9 : Cond.code yX7_bill cX7_bill 3 (some .int) ∈ wsL_law := wc_19 _ (List.mem_of_getElem? (i := 9) rfl)
theorem wm_19_7 : Cond.instanceMethod yX7_bill ∈ wsL_law := wc_19 _ (List.mem_of_getElem? (i := 7) rfl)
theorem wm_19_8 : Cond.selects RX7 yX7_bill yX7_bill ∈ wsL_law := wc_19 _ (List.mem_of_getElem? (i := 8) rfl)
theorem wm_30_7 : Cond.code yX7_billOf cX7_billOf 3 (some .int) ∈ wsL_law := wc_30 _ (List.mem_of_getElem? (i := 7) rfl)
theorem wm_30_5 : Cond.instanceMethod yX7_billOf ∈ wsL_law := wc_30 _ (List.mem_of_getElem? (i := 5) rfl)
theorem wm_30_6 : Cond.selects RX7 yX7_billOf yX7_billOf ∈ wsL_law := wc_30 _ (List.mem_of_getElem? (i := 6) rfl)
theorem wm_40_12 : Cond.code yX7_carryOut cX7_carryOut 3 (some .int) ∈ wsL_law := wc_40 _ (List.mem_of_getElem? (i := 12) rfl)
theorem wm_40_10 : Cond.instanceMethod yX7_carryOut ∈ wsL_law := wc_40 _ (List.mem_of_getElem? (i := 10) rfl)
theorem wm_40_11 : Cond.selects RX7 yX7_carryOut yX7_carryOut ∈ wsL_law := wc_40 _ (List.mem_of_getElem? (i := 11) rfl)
theorem wm_41_4 : Cond.code yX7_carryOutOrder cX7_carryOutOrder 1 (some .long) ∈ wsL_law := wc_41 _ (List.mem_of_getElem? (i := 4) rfl)
theorem wm_41_2 : Cond.instanceMethod yX7_carryOutOrder ∈ wsL_law := wc_41 _ (List.mem_of_getElem? (i := 2) rfl)
theorem wm_41_3 : Cond.selects RX7 yX7_carryOutOrder yX7_carryOutOrder ∈ wsL_law := wc_41 _ (List.mem_of_getElem? (i := 3) rfl)
theorem wm_34_10 : Cond.code yX7_clearText cX7_clearText 1 (some .int) ∈ wsL_law := wc_34 _ (List.mem_of_getElem? (i := 10) rfl)
theorem wm_34_8 : Cond.instanceMethod yX7_clearText ∈ wsL_law := wc_34 _ (List.mem_of_getElem? (i := 8) rfl)
theorem wm_34_9 : Cond.selects RX7 yX7_clearText yX7_clearText ∈ wsL_law := wc_34 _ (List.mem_of_getElem? (i := 9) rfl)
theorem wm_26_14 : Cond.code yX7_clients cX7_clients 1 (some .int) ∈ wsL_law := wc_26 _ (List.mem_of_getElem? (i := 14) rfl)
theorem wm_26_12 : Cond.instanceMethod yX7_clients ∈ wsL_law := wc_26 _ (List.mem_of_getElem? (i := 12) rfl)
theorem wm_26_13 : Cond.selects RX7 yX7_clients yX7_clients ∈ wsL_law := wc_26 _ (List.mem_of_getElem? (i := 13) rfl)
theorem wm_9_20 : Cond.code yX7_close cX7_close 2 (some .int) ∈ wsL_law := wc_9 _ (List.mem_of_getElem? (i := 20) rfl)
theorem wm_9_18 : Cond.instanceMethod yX7_close ∈ wsL_law := wc_9 _ (List.mem_of_getElem? (i := 18) rfl)
theorem wm_9_19 : Cond.selects RX7 yX7_close yX7_close ∈ wsL_law := wc_9 _ (List.mem_of_getElem? (i := 19) rfl)
theorem wm_26_5 : Cond.code yX7_day cX7_day 1 (some .int) ∈ wsL_law := wc_26 _ (List.mem_of_getElem? (i := 5) rfl)
theorem wm_26_3 : Cond.instanceMethod yX7_day ∈ wsL_law := wc_26 _ (List.mem_of_getElem? (i := 3) rfl)
theorem wm_26_4 : Cond.selects RX7 yX7_day yX7_day ∈ wsL_law := wc_26 _ (List.mem_of_getElem? (i := 4) rfl)
theorem wm_42_14 : Cond.code yX7_digest cX7_digest 4 (some .long) ∈ wsL_law := wc_42 _ (List.mem_of_getElem? (i := 14) rfl)
theorem wm_42_12 : Cond.instanceMethod yX7_digest ∈ wsL_law := wc_42 _ (List.mem_of_getElem? (i := 12) rfl)
theorem wm_42_13 : Cond.selects RX7 yX7_digest yX7_digest ∈ wsL_law := wc_42 _ (List.mem_of_getElem? (i := 13) rfl)
theorem wm_30_16 : Cond.code yX7_entries cX7_entries 1 (some .int) ∈ wsL_law := wc_30 _ (List.mem_of_getElem? (i := 16) rfl)
theorem wm_30_14 : Cond.instanceMethod yX7_entries ∈ wsL_law := wc_30 _ (List.mem_of_getElem? (i := 14) rfl)
theorem wm_30_15 : Cond.selects RX7 yX7_entries yX7_entries ∈ wsL_law := wc_30 _ (List.mem_of_getElem? (i := 15) rfl)
theorem wm_31_2 : Cond.code yX7_entry cX7_entry 3 (some .int) ∈ wsL_law := wc_31 _ (List.mem_of_getElem? (i := 2) rfl)
theorem wm_31_0 : Cond.instanceMethod yX7_entry ∈ wsL_law := wc_31 _ (List.mem_of_getElem? (i := 0) rfl)
theorem wm_31_1 : Cond.selects RX7 yX7_entry yX7_entry ∈ wsL_law := wc_31 _ (List.mem_of_getElem? (i := 1) rfl)
theorem wm_42_20 : Cond.code yX7_hashOfClients cX7_hashOfClients 7 (some .long) ∈ wsL_law := wc_42 _ (List.mem_of_getElem? (i := 20) rfl)
theorem wm_42_18 : Cond.instanceMethod yX7_hashOfClients ∈ wsL_law := wc_42 _ (List.mem_of_getElem? (i := 18) rfl)
theorem wm_42_19 : Cond.selects RX7 yX7_hashOfClients yX7_hashOfClients ∈ wsL_law := wc_42 _ (List.mem_of_getElem? (i := 19) rfl)
theorem wm_43_9 : Cond.code yX7_hashOfRanks cX7_hashOfRanks 7 (some .long) ∈ wsL_law := wc_43 _ (List.mem_of_getElem? (i := 9) rfl)
theorem wm_43_7 : Cond.instanceMethod yX7_hashOfRanks ∈ wsL_law := wc_43 _ (List.mem_of_getElem? (i := 7) rfl)
theorem wm_43_8 : Cond.selects RX7 yX7_hashOfRanks yX7_hashOfRanks ∈ wsL_law := wc_43 _ (List.mem_of_getElem? (i := 8) rfl)
theorem wm_43_5 : Cond.code yX7_hashOfTrail cX7_hashOfTrail 9 (some .long) ∈ wsL_law := wc_43 _ (List.mem_of_getElem? (i := 5) rfl)
theorem wm_43_3 : Cond.instanceMethod yX7_hashOfTrail ∈ wsL_law := wc_43 _ (List.mem_of_getElem? (i := 3) rfl)
theorem wm_43_4 : Cond.selects RX7 yX7_hashOfTrail yX7_hashOfTrail ∈ wsL_law := wc_43 _ (List.mem_of_getElem? (i := 4) rfl)
theorem wm_17_3 : Cond.code yX7_hold cX7_hold 4 (some .int) ∈ wsL_law := wc_17 _ (List.mem_of_getElem? (i := 3) rfl)
theorem wm_17_1 : Cond.instanceMethod yX7_hold ∈ wsL_law := wc_17 _ (List.mem_of_getElem? (i := 1) rfl)
theorem wm_17_2 : Cond.selects RX7 yX7_hold yX7_hold ∈ wsL_law := wc_17 _ (List.mem_of_getElem? (i := 2) rfl)
theorem wm_29_17 : Cond.code yX7_holdOf cX7_holdOf 3 (some .int) ∈ wsL_law := wc_29 _ (List.mem_of_getElem? (i := 17) rfl)
theorem wm_29_15 : Cond.instanceMethod yX7_holdOf ∈ wsL_law := wc_29 _ (List.mem_of_getElem? (i := 15) rfl)
theorem wm_29_16 : Cond.selects RX7 yX7_holdOf yX7_holdOf ∈ wsL_law := wc_29 _ (List.mem_of_getElem? (i := 16) rfl)
theorem wm_33_8 : Cond.code yX7_interestIn cX7_interestIn 4 (some .int) ∈ wsL_law := wc_33 _ (List.mem_of_getElem? (i := 8) rfl)
theorem wm_33_6 : Cond.instanceMethod yX7_interestIn ∈ wsL_law := wc_33 _ (List.mem_of_getElem? (i := 6) rfl)
theorem wm_33_7 : Cond.selects RX7 yX7_interestIn yX7_interestIn ∈ wsL_law := wc_33 _ (List.mem_of_getElem? (i := 7) rfl)
theorem wm_6_10 : Cond.code yX7_keptUnlessError cX7_keptUnlessError 2 (some .int) ∈ wsL_law := wc_6 _ (List.mem_of_getElem? (i := 10) rfl)
theorem wm_6_8 : Cond.instanceMethod yX7_keptUnlessError ∈ wsL_law := wc_6 _ (List.mem_of_getElem? (i := 8) rfl)
theorem wm_6_9 : Cond.selects RX7 yX7_keptUnlessError yX7_keptUnlessError ∈ wsL_law := wc_6 _ (List.mem_of_getElem? (i := 9) rfl)
theorem wm_28_13 : Cond.code yX7_of cX7_of 4 (some .int) ∈ wsL_law := wc_28 _ (List.mem_of_getElem? (i := 13) rfl)
theorem wm_28_11 : Cond.instanceMethod yX7_of ∈ wsL_law := wc_28 _ (List.mem_of_getElem? (i := 11) rfl)
theorem wm_28_12 : Cond.selects RX7 yX7_of yX7_of ∈ wsL_law := wc_28 _ (List.mem_of_getElem? (i := 12) rfl)
theorem wm_7_23 : Cond.code yX7_open cX7_open 2 (some .int) ∈ wsL_law := wc_7 _ (List.mem_of_getElem? (i := 23) rfl)
theorem wm_7_21 : Cond.instanceMethod yX7_open ∈ wsL_law := wc_7 _ (List.mem_of_getElem? (i := 21) rfl)
theorem wm_7_22 : Cond.selects RX7 yX7_open yX7_open ∈ wsL_law := wc_7 _ (List.mem_of_getElem? (i := 22) rfl)
theorem wm_21_7 : Cond.code yX7_pass cX7_pass 4 (some .long) ∈ wsL_law := wc_21 _ (List.mem_of_getElem? (i := 7) rfl)
theorem wm_21_5 : Cond.instanceMethod yX7_pass ∈ wsL_law := wc_21 _ (List.mem_of_getElem? (i := 5) rfl)
theorem wm_21_6 : Cond.selects RX7 yX7_pass yX7_pass ∈ wsL_law := wc_21 _ (List.mem_of_getElem? (i := 6) rfl)
theorem wm_14_10 : Cond.code yX7_pay cX7_pay 3 (some .int) ∈ wsL_law := wc_14 _ (List.mem_of_getElem? (i := 10) rfl)
theorem wm_14_8 : Cond.instanceMethod yX7_pay ∈ wsL_law := wc_14 _ (List.mem_of_getElem? (i := 8) rfl)
theorem wm_14_9 : Cond.selects RX7 yX7_pay yX7_pay ∈ wsL_law := wc_14 _ (List.mem_of_getElem? (i := 9) rfl)
theorem wm_32_15 : Cond.code yX7_payableOn cX7_payableOn 4 (some .int) ∈ wsL_law := wc_32 _ (List.mem_of_getElem? (i := 15) rfl)
theorem wm_32_13 : Cond.instanceMethod yX7_payableOn ∈ wsL_law := wc_32 _ (List.mem_of_getElem? (i := 13) rfl)
theorem wm_32_14 : Cond.selects RX7 yX7_payableOn yX7_payableOn ∈ wsL_law := wc_32 _ (List.mem_of_getElem? (i := 14) rfl)
theorem wm_27_0 : Cond.code yX7_ranked cX7_ranked 3 (some .int) ∈ wsL_law := wc_27 _ (List.mem_of_getElem? (i := 0) rfl)
theorem wm_26_22 : Cond.instanceMethod yX7_ranked ∈ wsL_law := wc_26 _ (List.mem_of_getElem? (i := 22) rfl)
theorem wm_26_23 : Cond.selects RX7 yX7_ranked yX7_ranked ∈ wsL_law := wc_26 _ (List.mem_of_getElem? (i := 23) rfl)
theorem wm_11_8 : Cond.code yX7_receive cX7_receive 3 (some .int) ∈ wsL_law := wc_11 _ (List.mem_of_getElem? (i := 8) rfl)
theorem wm_11_6 : Cond.instanceMethod yX7_receive ∈ wsL_law := wc_11 _ (List.mem_of_getElem? (i := 6) rfl)
theorem wm_11_7 : Cond.selects RX7 yX7_receive yX7_receive ∈ wsL_law := wc_11 _ (List.mem_of_getElem? (i := 7) rfl)
theorem wm_18_0 : Cond.code yX7_release cX7_release 2 (some .int) ∈ wsL_law := wc_18 _ (List.mem_of_getElem? (i := 0) rfl)
theorem wm_17_22 : Cond.instanceMethod yX7_release ∈ wsL_law := wc_17 _ (List.mem_of_getElem? (i := 22) rfl)
theorem wm_17_23 : Cond.selects RX7 yX7_release yX7_release ∈ wsL_law := wc_17 _ (List.mem_of_getElem? (i := 23) rfl)
theorem wm_24_7 : Cond.code yX7_reverse cX7_reverse 2 (some .int) ∈ wsL_law := wc_24 _ (List.mem_of_getElem? (i := 7) rfl)
theorem wm_24_5 : Cond.instanceMethod yX7_reverse ∈ wsL_law := wc_24 _ (List.mem_of_getElem? (i := 5) rfl)
theorem wm_24_6 : Cond.selects RX7 yX7_reverse yX7_reverse ∈ wsL_law := wc_24 _ (List.mem_of_getElem? (i := 6) rfl)
theorem wm_4_19 : Cond.code yX7_setRates cX7_setRates 4 (some .int) ∈ wsL_law := wc_4 _ (List.mem_of_getElem? (i := 19) rfl)
theorem wm_4_17 : Cond.instanceMethod yX7_setRates ∈ wsL_law := wc_4 _ (List.mem_of_getElem? (i := 17) rfl)
theorem wm_4_18 : Cond.selects RX7 yX7_setRates yX7_setRates ∈ wsL_law := wc_4 _ (List.mem_of_getElem? (i := 18) rfl)
theorem wm_7_11 : Cond.code yX7_setThreshold cX7_setThreshold 2 (some .int) ∈ wsL_law := wc_7 _ (List.mem_of_getElem? (i := 11) rfl)
theorem wm_7_9 : Cond.instanceMethod yX7_setThreshold ∈ wsL_law := wc_7 _ (List.mem_of_getElem? (i := 9) rfl)
theorem wm_7_10 : Cond.selects RX7 yX7_setThreshold yX7_setThreshold ∈ wsL_law := wc_7 _ (List.mem_of_getElem? (i := 10) rfl)
theorem wm_20_5 : Cond.code yX7_settle cX7_settle 2 (some .int) ∈ wsL_law := wc_20 _ (List.mem_of_getElem? (i := 5) rfl)
theorem wm_20_3 : Cond.instanceMethod yX7_settle ∈ wsL_law := wc_20 _ (List.mem_of_getElem? (i := 3) rfl)
theorem wm_20_4 : Cond.selects RX7 yX7_settle yX7_settle ∈ wsL_law := wc_20 _ (List.mem_of_getElem? (i := 4) rfl)
theorem wm_31_12 : Cond.code yX7_sum cX7_sum 2 (some .long) ∈ wsL_law := wc_31 _ (List.mem_of_getElem? (i := 12) rfl)
theorem wm_31_10 : Cond.instanceMethod yX7_sum ∈ wsL_law := wc_31 _ (List.mem_of_getElem? (i := 10) rfl)
theorem wm_31_11 : Cond.selects RX7 yX7_sum yX7_sum ∈ wsL_law := wc_31 _ (List.mem_of_getElem? (i := 11) rfl)
theorem wm_34_22 : Cond.code yX7_syntaxError cX7_syntaxError 1 (some .int) ∈ wsL_law := wc_34 _ (List.mem_of_getElem? (i := 22) rfl)
theorem wm_34_20 : Cond.instanceMethod yX7_syntaxError ∈ wsL_law := wc_34 _ (List.mem_of_getElem? (i := 20) rfl)
theorem wm_34_21 : Cond.selects RX7 yX7_syntaxError yX7_syntaxError ∈ wsL_law := wc_34 _ (List.mem_of_getElem? (i := 21) rfl)
theorem wm_16_7 : Cond.code yX7_transfer cX7_transfer 4 (some .int) ∈ wsL_law := wc_16 _ (List.mem_of_getElem? (i := 7) rfl)
theorem wm_16_5 : Cond.instanceMethod yX7_transfer ∈ wsL_law := wc_16 _ (List.mem_of_getElem? (i := 5) rfl)
theorem wm_16_6 : Cond.selects RX7 yX7_transfer yX7_transfer ∈ wsL_law := wc_16 _ (List.mem_of_getElem? (i := 6) rfl)
theorem wm_33_20 : Cond.code yX7_type cX7_type 2 (some .int) ∈ wsL_law := wc_33 _ (List.mem_of_getElem? (i := 20) rfl)
theorem wm_33_18 : Cond.instanceMethod yX7_type ∈ wsL_law := wc_33 _ (List.mem_of_getElem? (i := 18) rfl)
theorem wm_33_19 : Cond.selects RX7 yX7_type yX7_type ∈ wsL_law := wc_33 _ (List.mem_of_getElem? (i := 19) rfl)
theorem wm_42_1 : Cond.code yX7_undo cX7_undo 1 (some .int) ∈ wsL_law := wc_42 _ (List.mem_of_getElem? (i := 1) rfl)
theorem wm_41_23 : Cond.instanceMethod yX7_undo ∈ wsL_law := wc_41 _ (List.mem_of_getElem? (i := 23) rfl)
theorem wm_42_0 : Cond.selects RX7 yX7_undo yX7_undo ∈ wsL_law := wc_42 _ (List.mem_of_getElem? (i := 0) rfl)
theorem wm_13_20 : Cond.code yX8_adds cX8_adds 3 (some .int) ∈ wsL_law := wc_13 _ (List.mem_of_getElem? (i := 20) rfl)
theorem wm_13_18 : Cond.instanceMethod yX8_adds ∈ wsL_law := wc_13 _ (List.mem_of_getElem? (i := 18) rfl)
theorem wm_13_19 : Cond.selects RX8 yX8_adds yX8_adds ∈ wsL_law := wc_13 _ (List.mem_of_getElem? (i := 19) rfl)
theorem wm_19_17 : Cond.code yX8_bill cX8_bill 4 (some .int) ∈ wsL_law := wc_19 _ (List.mem_of_getElem? (i := 17) rfl)
theorem wm_19_15 : Cond.instanceMethod yX8_bill ∈ wsL_law := wc_19 _ (List.mem_of_getElem? (i := 15) rfl)
theorem wm_19_16 : Cond.selects RX8 yX8_bill yX8_bill ∈ wsL_law := wc_19 _ (List.mem_of_getElem? (i := 16) rfl)
theorem wm_30_12 : Cond.code yX8_billOf cX8_billOf 4 (some .int) ∈ wsL_law := wc_30 _ (List.mem_of_getElem? (i := 12) rfl)
theorem wm_30_10 : Cond.instanceMethod yX8_billOf ∈ wsL_law := wc_30 _ (List.mem_of_getElem? (i := 10) rfl)
theorem wm_30_11 : Cond.selects RX8 yX8_billOf yX8_billOf ∈ wsL_law := wc_30 _ (List.mem_of_getElem? (i := 11) rfl)
theorem wm_11_4 : Cond.code yX8_billPart cX8_billPart 3 (some .int) ∈ wsL_law := wc_11 _ (List.mem_of_getElem? (i := 4) rfl)
theorem wm_11_2 : Cond.instanceMethod yX8_billPart ∈ wsL_law := wc_11 _ (List.mem_of_getElem? (i := 2) rfl)
theorem wm_11_3 : Cond.selects RX8 yX8_billPart yX8_billPart ∈ wsL_law := wc_11 _ (List.mem_of_getElem? (i := 3) rfl)
theorem wm_20_1 : Cond.code yX8_bills cX8_bills 4 (some .int) ∈ wsL_law := wc_20 _ (List.mem_of_getElem? (i := 1) rfl)
theorem wm_19_23 : Cond.instanceMethod yX8_bills ∈ wsL_law := wc_19 _ (List.mem_of_getElem? (i := 23) rfl)
theorem wm_20_0 : Cond.selects RX8 yX8_bills yX8_bills ∈ wsL_law := wc_20 _ (List.mem_of_getElem? (i := 0) rfl)
theorem wm_11_0 : Cond.code yX8_billsOf cX8_billsOf 4 (some .int) ∈ wsL_law := wc_11 _ (List.mem_of_getElem? (i := 0) rfl)
theorem wm_10_22 : Cond.instanceMethod yX8_billsOf ∈ wsL_law := wc_10 _ (List.mem_of_getElem? (i := 22) rfl)
theorem wm_10_23 : Cond.selects RX8 yX8_billsOf yX8_billsOf ∈ wsL_law := wc_10 _ (List.mem_of_getElem? (i := 23) rfl)
theorem wm_41_13 : Cond.code yX8_carryOut cX8_carryOut 3 (some .int) ∈ wsL_law := wc_41 _ (List.mem_of_getElem? (i := 13) rfl)
theorem wm_41_11 : Cond.instanceMethod yX8_carryOut ∈ wsL_law := wc_41 _ (List.mem_of_getElem? (i := 11) rfl)
theorem wm_41_12 : Cond.selects RX8 yX8_carryOut yX8_carryOut ∈ wsL_law := wc_41 _ (List.mem_of_getElem? (i := 12) rfl)
theorem wm_40_0 : Cond.code yX8_character cX8_character 2 (some .int) ∈ wsL_law := wc_40 _ (List.mem_of_getElem? (i := 0) rfl)
theorem wm_39_22 : Cond.instanceMethod yX8_character ∈ wsL_law := wc_39 _ (List.mem_of_getElem? (i := 22) rfl)
theorem wm_39_23 : Cond.selects RX8 yX8_character yX8_character ∈ wsL_law := wc_39 _ (List.mem_of_getElem? (i := 23) rfl)
theorem wm_34_18 : Cond.code yX8_clearText cX8_clearText 2 (some .int) ∈ wsL_law := wc_34 _ (List.mem_of_getElem? (i := 18) rfl)
theorem wm_34_16 : Cond.instanceMethod yX8_clearText ∈ wsL_law := wc_34 _ (List.mem_of_getElem? (i := 16) rfl)
theorem wm_34_17 : Cond.selects RX8 yX8_clearText yX8_clearText ∈ wsL_law := wc_34 _ (List.mem_of_getElem? (i := 17) rfl)
theorem wm_26_20 : Cond.code yX8_clients cX8_clients 1 (some .int) ∈ wsL_law := wc_26 _ (List.mem_of_getElem? (i := 20) rfl)
theorem wm_26_18 : Cond.instanceMethod yX8_clients ∈ wsL_law := wc_26 _ (List.mem_of_getElem? (i := 18) rfl)
theorem wm_26_19 : Cond.selects RX8 yX8_clients yX8_clients ∈ wsL_law := wc_26 _ (List.mem_of_getElem? (i := 19) rfl)
theorem wm_10_20 : Cond.code yX8_close cX8_close 5 (some .int) ∈ wsL_law := wc_10 _ (List.mem_of_getElem? (i := 20) rfl)
theorem wm_10_18 : Cond.instanceMethod yX8_close ∈ wsL_law := wc_10 _ (List.mem_of_getElem? (i := 18) rfl)
theorem wm_10_19 : Cond.selects RX8 yX8_close yX8_close ∈ wsL_law := wc_10 _ (List.mem_of_getElem? (i := 19) rfl)
theorem wm_26_10 : Cond.code yX8_day cX8_day 1 (some .int) ∈ wsL_law := wc_26 _ (List.mem_of_getElem? (i := 10) rfl)
theorem wm_26_8 : Cond.instanceMethod yX8_day ∈ wsL_law := wc_26 _ (List.mem_of_getElem? (i := 8) rfl)
theorem wm_26_9 : Cond.selects RX8 yX8_day yX8_day ∈ wsL_law := wc_26 _ (List.mem_of_getElem? (i := 9) rfl)
theorem wm_24_2 : Cond.code yX8_dayEnds cX8_dayEnds 8 (some .int) ∈ wsL_law := wc_24 _ (List.mem_of_getElem? (i := 2) rfl)
theorem wm_24_0 : Cond.instanceMethod yX8_dayEnds ∈ wsL_law := wc_24 _ (List.mem_of_getElem? (i := 0) rfl)
theorem wm_24_1 : Cond.selects RX8 yX8_dayEnds yX8_dayEnds ∈ wsL_law := wc_24 _ (List.mem_of_getElem? (i := 1) rfl)
theorem wm_43_14 : Cond.code yX8_digest cX8_digest 5 (some .long) ∈ wsL_law := wc_43 _ (List.mem_of_getElem? (i := 14) rfl)
theorem wm_43_12 : Cond.instanceMethod yX8_digest ∈ wsL_law := wc_43 _ (List.mem_of_getElem? (i := 12) rfl)
theorem wm_43_13 : Cond.selects RX8 yX8_digest yX8_digest ∈ wsL_law := wc_43 _ (List.mem_of_getElem? (i := 13) rfl)
theorem wm_41_21 : Cond.code yX8_does cX8_does 1 none ∈ wsL_law := wc_41 _ (List.mem_of_getElem? (i := 21) rfl)
theorem wm_41_19 : Cond.instanceMethod yX8_does ∈ wsL_law := wc_41 _ (List.mem_of_getElem? (i := 19) rfl)
theorem wm_41_20 : Cond.selects RX8 yX8_does yX8_does ∈ wsL_law := wc_41 _ (List.mem_of_getElem? (i := 20) rfl)
theorem wm_19_1 : Cond.code yX8_endsHold cX8_endsHold 2 none ∈ wsL_law := wc_19 _ (List.mem_of_getElem? (i := 1) rfl)
theorem wm_18_23 : Cond.instanceMethod yX8_endsHold ∈ wsL_law := wc_18 _ (List.mem_of_getElem? (i := 23) rfl)
theorem wm_19_0 : Cond.selects RX8 yX8_endsHold yX8_endsHold ∈ wsL_law := wc_19 _ (List.mem_of_getElem? (i := 0) rfl)
theorem wm_14_0 : Cond.code yX8_enters cX8_enters 9 (some .int) ∈ wsL_law := wc_14 _ (List.mem_of_getElem? (i := 0) rfl)
theorem wm_13_22 : Cond.instanceMethod yX8_enters ∈ wsL_law := wc_13 _ (List.mem_of_getElem? (i := 22) rfl)
theorem wm_13_23 : Cond.selects RX8 yX8_enters yX8_enters ∈ wsL_law := wc_13 _ (List.mem_of_getElem? (i := 23) rfl)
theorem wm_30_22 : Cond.code yX8_entries cX8_entries 1 (some .int) ∈ wsL_law := wc_30 _ (List.mem_of_getElem? (i := 22) rfl)
theorem wm_30_20 : Cond.instanceMethod yX8_entries ∈ wsL_law := wc_30 _ (List.mem_of_getElem? (i := 20) rfl)
theorem wm_30_21 : Cond.selects RX8 yX8_entries yX8_entries ∈ wsL_law := wc_30 _ (List.mem_of_getElem? (i := 21) rfl)
theorem wm_31_8 : Cond.code yX8_entry cX8_entry 3 (some .int) ∈ wsL_law := wc_31 _ (List.mem_of_getElem? (i := 8) rfl)
theorem wm_31_6 : Cond.instanceMethod yX8_entry ∈ wsL_law := wc_31 _ (List.mem_of_getElem? (i := 6) rfl)
theorem wm_31_7 : Cond.selects RX8 yX8_entry yX8_entry ∈ wsL_law := wc_31 _ (List.mem_of_getElem? (i := 7) rfl)
theorem wm_25_21 : Cond.code yX8_entryPart cX8_entryPart 3 (some .int) ∈ wsL_law := wc_25 _ (List.mem_of_getElem? (i := 21) rfl)
theorem wm_25_19 : Cond.instanceMethod yX8_entryPart ∈ wsL_law := wc_25 _ (List.mem_of_getElem? (i := 19) rfl)
theorem wm_25_20 : Cond.selects RX8 yX8_entryPart yX8_entryPart ∈ wsL_law := wc_25 _ (List.mem_of_getElem? (i := 20) rfl)
theorem wm_9_8 : Cond.code yX8_find cX8_find 4 (some .int) ∈ wsL_law := wc_9 _ (List.mem_of_getElem? (i := 8) rfl)
theorem wm_9_6 : Cond.instanceMethod yX8_find ∈ wsL_law := wc_9 _ (List.mem_of_getElem? (i := 6) rfl)
theorem wm_9_7 : Cond.selects RX8 yX8_find yX8_find ∈ wsL_law := wc_9 _ (List.mem_of_getElem? (i := 7) rfl)
theorem wm_20_23 : Cond.code yX8_findBill cX8_findBill 4 (some .int) ∈ wsL_law := wc_20 _ (List.mem_of_getElem? (i := 23) rfl)
theorem wm_20_21 : Cond.instanceMethod yX8_findBill ∈ wsL_law := wc_20 _ (List.mem_of_getElem? (i := 21) rfl)
theorem wm_20_22 : Cond.selects RX8 yX8_findBill yX8_findBill ∈ wsL_law := wc_20 _ (List.mem_of_getElem? (i := 22) rfl)
theorem wm_39_10 : Cond.code yX8_findError cX8_findError 1 (some .int) ∈ wsL_law := wc_39 _ (List.mem_of_getElem? (i := 10) rfl)
theorem wm_39_8 : Cond.instanceMethod yX8_findError ∈ wsL_law := wc_39 _ (List.mem_of_getElem? (i := 8) rfl)
theorem wm_39_9 : Cond.selects RX8 yX8_findError yX8_findError ∈ wsL_law := wc_39 _ (List.mem_of_getElem? (i := 9) rfl)
theorem wm_18_21 : Cond.code yX8_findHold cX8_findHold 4 (some .int) ∈ wsL_law := wc_18 _ (List.mem_of_getElem? (i := 21) rfl)
theorem wm_18_19 : Cond.instanceMethod yX8_findHold ∈ wsL_law := wc_18 _ (List.mem_of_getElem? (i := 19) rfl)
theorem wm_18_20 : Cond.selects RX8 yX8_findHold yX8_findHold ∈ wsL_law := wc_18 _ (List.mem_of_getElem? (i := 20) rfl)
theorem wm_28_5 : Cond.code yX8_findRanks cX8_findRanks 4 none ∈ wsL_law := wc_28 _ (List.mem_of_getElem? (i := 5) rfl)
theorem wm_28_3 : Cond.instanceMethod yX8_findRanks ∈ wsL_law := wc_28 _ (List.mem_of_getElem? (i := 3) rfl)
theorem wm_28_4 : Cond.selects RX8 yX8_findRanks yX8_findRanks ∈ wsL_law := wc_28 _ (List.mem_of_getElem? (i := 4) rfl)
theorem wm_15_11 : Cond.code yX8_free cX8_free 2 (some .int) ∈ wsL_law := wc_15 _ (List.mem_of_getElem? (i := 11) rfl)
theorem wm_15_9 : Cond.instanceMethod yX8_free ∈ wsL_law := wc_15 _ (List.mem_of_getElem? (i := 9) rfl)
theorem wm_15_10 : Cond.selects RX8 yX8_free yX8_free ∈ wsL_law := wc_15 _ (List.mem_of_getElem? (i := 10) rfl)
theorem wm_25_17 : Cond.code yX8_giver cX8_giver 3 (some .int) ∈ wsL_law := wc_25 _ (List.mem_of_getElem? (i := 17) rfl)
theorem wm_25_15 : Cond.instanceMethod yX8_giver ∈ wsL_law := wc_25 _ (List.mem_of_getElem? (i := 15) rfl)
theorem wm_25_16 : Cond.selects RX8 yX8_giver yX8_giver ∈ wsL_law := wc_25 _ (List.mem_of_getElem? (i := 16) rfl)
theorem wm_13_12 : Cond.code yX8_hasRoom cX8_hasRoom 3 (some .boolean) ∈ wsL_law := wc_13 _ (List.mem_of_getElem? (i := 12) rfl)
theorem wm_13_10 : Cond.instanceMethod yX8_hasRoom ∈ wsL_law := wc_13 _ (List.mem_of_getElem? (i := 10) rfl)
theorem wm_13_11 : Cond.selects RX8 yX8_hasRoom yX8_hasRoom ∈ wsL_law := wc_13 _ (List.mem_of_getElem? (i := 11) rfl)
theorem wm_15_15 : Cond.code yX8_held cX8_held 2 (some .int) ∈ wsL_law := wc_15 _ (List.mem_of_getElem? (i := 15) rfl)
theorem wm_15_13 : Cond.instanceMethod yX8_held ∈ wsL_law := wc_15 _ (List.mem_of_getElem? (i := 13) rfl)
theorem wm_15_14 : Cond.selects RX8 yX8_held yX8_held ∈ wsL_law := wc_15 _ (List.mem_of_getElem? (i := 14) rfl)
theorem wm_15_19 : Cond.code yX8_heldOn cX8_heldOn 5 (some .int) ∈ wsL_law := wc_15 _ (List.mem_of_getElem? (i := 19) rfl)
theorem wm_15_17 : Cond.instanceMethod yX8_heldOn ∈ wsL_law := wc_15 _ (List.mem_of_getElem? (i := 17) rfl)
theorem wm_15_18 : Cond.selects RX8 yX8_heldOn yX8_heldOn ∈ wsL_law := wc_15 _ (List.mem_of_getElem? (i := 18) rfl)
theorem wm_17_20 : Cond.code yX8_hold cX8_hold 6 (some .int) ∈ wsL_law := wc_17 _ (List.mem_of_getElem? (i := 20) rfl)
theorem wm_17_18 : Cond.instanceMethod yX8_hold ∈ wsL_law := wc_17 _ (List.mem_of_getElem? (i := 18) rfl)
theorem wm_17_19 : Cond.selects RX8 yX8_hold yX8_hold ∈ wsL_law := wc_17 _ (List.mem_of_getElem? (i := 19) rfl)
theorem wm_30_3 : Cond.code yX8_holdOf cX8_holdOf 4 (some .int) ∈ wsL_law := wc_30 _ (List.mem_of_getElem? (i := 3) rfl)
theorem wm_30_1 : Cond.instanceMethod yX8_holdOf ∈ wsL_law := wc_30 _ (List.mem_of_getElem? (i := 1) rfl)
theorem wm_30_2 : Cond.selects RX8 yX8_holdOf yX8_holdOf ∈ wsL_law := wc_30 _ (List.mem_of_getElem? (i := 2) rfl)
theorem wm_15_23 : Cond.code yX8_holdPart cX8_holdPart 3 (some .int) ∈ wsL_law := wc_15 _ (List.mem_of_getElem? (i := 23) rfl)
theorem wm_15_21 : Cond.instanceMethod yX8_holdPart ∈ wsL_law := wc_15 _ (List.mem_of_getElem? (i := 21) rfl)
theorem wm_15_22 : Cond.selects RX8 yX8_holdPart yX8_holdPart ∈ wsL_law := wc_15 _ (List.mem_of_getElem? (i := 22) rfl)
theorem wm_29_13 : Cond.code yX8_holdsOf cX8_holdsOf 4 (some .int) ∈ wsL_law := wc_29 _ (List.mem_of_getElem? (i := 13) rfl)
theorem wm_29_11 : Cond.instanceMethod yX8_holdsOf ∈ wsL_law := wc_29 _ (List.mem_of_getElem? (i := 11) rfl)
theorem wm_29_12 : Cond.selects RX8 yX8_holdsOf yX8_holdsOf ∈ wsL_law := wc_29 _ (List.mem_of_getElem? (i := 12) rfl)
theorem wm_33_16 : Cond.code yX8_interestIn cX8_interestIn 6 (some .int) ∈ wsL_law := wc_33 _ (List.mem_of_getElem? (i := 16) rfl)
theorem wm_33_14 : Cond.instanceMethod yX8_interestIn ∈ wsL_law := wc_33 _ (List.mem_of_getElem? (i := 14) rfl)
theorem wm_33_15 : Cond.selects RX8 yX8_interestIn yX8_interestIn ∈ wsL_law := wc_33 _ (List.mem_of_getElem? (i := 15) rfl)
theorem wm_25_13 : Cond.code yX8_isEntry cX8_isEntry 2 (some .boolean) ∈ wsL_law := wc_25 _ (List.mem_of_getElem? (i := 13) rfl)
theorem wm_25_11 : Cond.instanceMethod yX8_isEntry ∈ wsL_law := wc_25 _ (List.mem_of_getElem? (i := 11) rfl)
theorem wm_25_12 : Cond.selects RX8 yX8_isEntry yX8_isEntry ∈ wsL_law := wc_25 _ (List.mem_of_getElem? (i := 12) rfl)
theorem wm_40_8 : Cond.code yX8_isNext cX8_isNext 3 (some .boolean) ∈ wsL_law := wc_40 _ (List.mem_of_getElem? (i := 8) rfl)
theorem wm_40_6 : Cond.instanceMethod yX8_isNext ∈ wsL_law := wc_40 _ (List.mem_of_getElem? (i := 6) rfl)
theorem wm_40_7 : Cond.selects RX8 yX8_isNext yX8_isNext ∈ wsL_law := wc_40 _ (List.mem_of_getElem? (i := 7) rfl)
theorem wm_29_0 : Cond.code yX8_of cX8_of 4 (some .int) ∈ wsL_law := wc_29 _ (List.mem_of_getElem? (i := 0) rfl)
theorem wm_28_22 : Cond.instanceMethod yX8_of ∈ wsL_law := wc_28 _ (List.mem_of_getElem? (i := 22) rfl)
theorem wm_28_23 : Cond.selects RX8 yX8_of yX8_of ∈ wsL_law := wc_28 _ (List.mem_of_getElem? (i := 23) rfl)
theorem wm_29_4 : Cond.code yX8_ofClient cX8_ofClient 3 (some .int) ∈ wsL_law := wc_29 _ (List.mem_of_getElem? (i := 4) rfl)
theorem wm_29_2 : Cond.instanceMethod yX8_ofClient ∈ wsL_law := wc_29 _ (List.mem_of_getElem? (i := 2) rfl)
theorem wm_29_3 : Cond.selects RX8 yX8_ofClient yX8_ofClient ∈ wsL_law := wc_29 _ (List.mem_of_getElem? (i := 3) rfl)
theorem wm_9_4 : Cond.code yX8_open cX8_open 4 (some .int) ∈ wsL_law := wc_9 _ (List.mem_of_getElem? (i := 4) rfl)
theorem wm_9_2 : Cond.instanceMethod yX8_open ∈ wsL_law := wc_9 _ (List.mem_of_getElem? (i := 2) rfl)
theorem wm_9_3 : Cond.selects RX8 yX8_open yX8_open ∈ wsL_law := wc_9 _ (List.mem_of_getElem? (i := 3) rfl)
theorem wm_9_12 : Cond.code yX8_part cX8_part 3 (some .int) ∈ wsL_law := wc_9 _ (List.mem_of_getElem? (i := 12) rfl)
theorem wm_9_10 : Cond.instanceMethod yX8_part ∈ wsL_law := wc_9 _ (List.mem_of_getElem? (i := 10) rfl)
theorem wm_9_11 : Cond.selects RX8 yX8_part yX8_part ∈ wsL_law := wc_9 _ (List.mem_of_getElem? (i := 11) rfl)
theorem wm_23_4 : Cond.code yX8_pass cX8_pass 3 (some .long) ∈ wsL_law := wc_23 _ (List.mem_of_getElem? (i := 4) rfl)
theorem wm_23_2 : Cond.instanceMethod yX8_pass ∈ wsL_law := wc_23 _ (List.mem_of_getElem? (i := 2) rfl)
theorem wm_23_3 : Cond.selects RX8 yX8_pass yX8_pass ∈ wsL_law := wc_23 _ (List.mem_of_getElem? (i := 3) rfl)
theorem wm_23_12 : Cond.code yX8_passes cX8_passes 5 (some .long) ∈ wsL_law := wc_23 _ (List.mem_of_getElem? (i := 12) rfl)
theorem wm_23_10 : Cond.instanceMethod yX8_passes ∈ wsL_law := wc_23 _ (List.mem_of_getElem? (i := 10) rfl)
theorem wm_23_11 : Cond.selects RX8 yX8_passes yX8_passes ∈ wsL_law := wc_23 _ (List.mem_of_getElem? (i := 11) rfl)
theorem wm_23_16 : Cond.code yX8_passesDay cX8_passesDay 5 (some .long) ∈ wsL_law := wc_23 _ (List.mem_of_getElem? (i := 16) rfl)
theorem wm_23_14 : Cond.instanceMethod yX8_passesDay ∈ wsL_law := wc_23 _ (List.mem_of_getElem? (i := 14) rfl)
theorem wm_23_15 : Cond.selects RX8 yX8_passesDay yX8_passesDay ∈ wsL_law := wc_23 _ (List.mem_of_getElem? (i := 15) rfl)
theorem wm_15_3 : Cond.code yX8_pay cX8_pay 4 (some .int) ∈ wsL_law := wc_15 _ (List.mem_of_getElem? (i := 3) rfl)
theorem wm_15_1 : Cond.instanceMethod yX8_pay ∈ wsL_law := wc_15 _ (List.mem_of_getElem? (i := 1) rfl)
theorem wm_15_2 : Cond.selects RX8 yX8_pay yX8_pay ∈ wsL_law := wc_15 _ (List.mem_of_getElem? (i := 2) rfl)
theorem wm_33_4 : Cond.code yX8_payableOn cX8_payableOn 6 (some .int) ∈ wsL_law := wc_33 _ (List.mem_of_getElem? (i := 4) rfl)
theorem wm_33_2 : Cond.instanceMethod yX8_payableOn ∈ wsL_law := wc_33 _ (List.mem_of_getElem? (i := 2) rfl)
theorem wm_33_3 : Cond.selects RX8 yX8_payableOn yX8_payableOn ∈ wsL_law := wc_33 _ (List.mem_of_getElem? (i := 3) rfl)
theorem wm_16_3 : Cond.code yX8_pays cX8_pays 4 (some .int) ∈ wsL_law := wc_16 _ (List.mem_of_getElem? (i := 3) rfl)
theorem wm_16_1 : Cond.instanceMethod yX8_pays ∈ wsL_law := wc_16 _ (List.mem_of_getElem? (i := 1) rfl)
theorem wm_16_2 : Cond.selects RX8 yX8_pays yX8_pays ∈ wsL_law := wc_16 _ (List.mem_of_getElem? (i := 2) rfl)
theorem wm_28_1 : Cond.code yX8_ranked cX8_ranked 3 (some .int) ∈ wsL_law := wc_28 _ (List.mem_of_getElem? (i := 1) rfl)
theorem wm_27_23 : Cond.instanceMethod yX8_ranked ∈ wsL_law := wc_27 _ (List.mem_of_getElem? (i := 23) rfl)
theorem wm_28_0 : Cond.selects RX8 yX8_ranked yX8_ranked ∈ wsL_law := wc_28 _ (List.mem_of_getElem? (i := 0) rfl)
theorem wm_40_4 : Cond.code yX8_readsNumber cX8_readsNumber 2 (some .boolean) ∈ wsL_law := wc_40 _ (List.mem_of_getElem? (i := 4) rfl)
theorem wm_40_2 : Cond.instanceMethod yX8_readsNumber ∈ wsL_law := wc_40 _ (List.mem_of_getElem? (i := 2) rfl)
theorem wm_40_3 : Cond.selects RX8 yX8_readsNumber yX8_readsNumber ∈ wsL_law := wc_40 _ (List.mem_of_getElem? (i := 3) rfl)
theorem wm_39_15 : Cond.code yX8_readsOrder cX8_readsOrder 2 (some .boolean) ∈ wsL_law := wc_39 _ (List.mem_of_getElem? (i := 15) rfl)
theorem wm_39_13 : Cond.instanceMethod yX8_readsOrder ∈ wsL_law := wc_39 _ (List.mem_of_getElem? (i := 13) rfl)
theorem wm_39_14 : Cond.selects RX8 yX8_readsOrder yX8_readsOrder ∈ wsL_law := wc_39 _ (List.mem_of_getElem? (i := 14) rfl)
theorem wm_13_0 : Cond.code yX8_receive cX8_receive 4 (some .int) ∈ wsL_law := wc_13 _ (List.mem_of_getElem? (i := 0) rfl)
theorem wm_12_22 : Cond.instanceMethod yX8_receive ∈ wsL_law := wc_12 _ (List.mem_of_getElem? (i := 22) rfl)
theorem wm_12_23 : Cond.selects RX8 yX8_receive yX8_receive ∈ wsL_law := wc_12 _ (List.mem_of_getElem? (i := 23) rfl)
theorem wm_13_16 : Cond.code yX8_receives cX8_receives 4 (some .int) ∈ wsL_law := wc_13 _ (List.mem_of_getElem? (i := 16) rfl)
theorem wm_13_14 : Cond.instanceMethod yX8_receives ∈ wsL_law := wc_13 _ (List.mem_of_getElem? (i := 14) rfl)
theorem wm_13_15 : Cond.selects RX8 yX8_receives yX8_receives ∈ wsL_law := wc_13 _ (List.mem_of_getElem? (i := 15) rfl)
theorem wm_7_6 : Cond.code yX8_record cX8_record 2 none ∈ wsL_law := wc_7 _ (List.mem_of_getElem? (i := 6) rfl)
theorem wm_7_4 : Cond.instanceMethod yX8_record ∈ wsL_law := wc_7 _ (List.mem_of_getElem? (i := 4) rfl)
theorem wm_7_5 : Cond.selects RX8 yX8_record yX8_record ∈ wsL_law := wc_7 _ (List.mem_of_getElem? (i := 5) rfl)
theorem wm_18_17 : Cond.code yX8_release cX8_release 4 (some .int) ∈ wsL_law := wc_18 _ (List.mem_of_getElem? (i := 17) rfl)
theorem wm_18_15 : Cond.instanceMethod yX8_release ∈ wsL_law := wc_18 _ (List.mem_of_getElem? (i := 15) rfl)
theorem wm_18_16 : Cond.selects RX8 yX8_release yX8_release ∈ wsL_law := wc_18 _ (List.mem_of_getElem? (i := 16) rfl)
theorem wm_29_9 : Cond.code yX8_restOf cX8_restOf 4 (some .int) ∈ wsL_law := wc_29 _ (List.mem_of_getElem? (i := 9) rfl)
theorem wm_29_7 : Cond.instanceMethod yX8_restOf ∈ wsL_law := wc_29 _ (List.mem_of_getElem? (i := 7) rfl)
theorem wm_29_8 : Cond.selects RX8 yX8_restOf yX8_restOf ∈ wsL_law := wc_29 _ (List.mem_of_getElem? (i := 8) rfl)
theorem wm_25_5 : Cond.code yX8_reverse cX8_reverse 6 (some .int) ∈ wsL_law := wc_25 _ (List.mem_of_getElem? (i := 5) rfl)
theorem wm_25_3 : Cond.instanceMethod yX8_reverse ∈ wsL_law := wc_25 _ (List.mem_of_getElem? (i := 3) rfl)
theorem wm_25_4 : Cond.selects RX8 yX8_reverse yX8_reverse ∈ wsL_law := wc_25 _ (List.mem_of_getElem? (i := 4) rfl)
theorem wm_9_16 : Cond.code yX8_setPart cX8_setPart 4 none ∈ wsL_law := wc_9 _ (List.mem_of_getElem? (i := 16) rfl)
theorem wm_9_14 : Cond.instanceMethod yX8_setPart ∈ wsL_law := wc_9 _ (List.mem_of_getElem? (i := 14) rfl)
theorem wm_9_15 : Cond.selects RX8 yX8_setPart yX8_setPart ∈ wsL_law := wc_9 _ (List.mem_of_getElem? (i := 15) rfl)
theorem wm_6_22 : Cond.code yX8_setRates cX8_setRates 5 (some .int) ∈ wsL_law := wc_6 _ (List.mem_of_getElem? (i := 22) rfl)
theorem wm_6_20 : Cond.instanceMethod yX8_setRates ∈ wsL_law := wc_6 _ (List.mem_of_getElem? (i := 20) rfl)
theorem wm_6_21 : Cond.selects RX8 yX8_setRates yX8_setRates ∈ wsL_law := wc_6 _ (List.mem_of_getElem? (i := 21) rfl)
theorem wm_7_19 : Cond.code yX8_setThreshold cX8_setThreshold 3 (some .int) ∈ wsL_law := wc_7 _ (List.mem_of_getElem? (i := 19) rfl)
theorem wm_7_17 : Cond.instanceMethod yX8_setThreshold ∈ wsL_law := wc_7 _ (List.mem_of_getElem? (i := 17) rfl)
theorem wm_7_18 : Cond.selects RX8 yX8_setThreshold yX8_setThreshold ∈ wsL_law := wc_7 _ (List.mem_of_getElem? (i := 18) rfl)
theorem wm_20_15 : Cond.code yX8_settle cX8_settle 3 (some .int) ∈ wsL_law := wc_20 _ (List.mem_of_getElem? (i := 15) rfl)
theorem wm_20_13 : Cond.instanceMethod yX8_settle ∈ wsL_law := wc_20 _ (List.mem_of_getElem? (i := 13) rfl)
theorem wm_20_14 : Cond.selects RX8 yX8_settle yX8_settle ∈ wsL_law := wc_20 _ (List.mem_of_getElem? (i := 14) rfl)
theorem wm_21_3 : Cond.code yX8_settles cX8_settles 5 (some .int) ∈ wsL_law := wc_21 _ (List.mem_of_getElem? (i := 3) rfl)
theorem wm_21_1 : Cond.instanceMethod yX8_settles ∈ wsL_law := wc_21 _ (List.mem_of_getElem? (i := 1) rfl)
theorem wm_21_2 : Cond.selects RX8 yX8_settles yX8_settles ∈ wsL_law := wc_21 _ (List.mem_of_getElem? (i := 2) rfl)
theorem wm_28_9 : Cond.code yX8_staysAhead cX8_staysAhead 4 (some .boolean) ∈ wsL_law := wc_28 _ (List.mem_of_getElem? (i := 9) rfl)
theorem wm_28_7 : Cond.instanceMethod yX8_staysAhead ∈ wsL_law := wc_28 _ (List.mem_of_getElem? (i := 7) rfl)
theorem wm_28_8 : Cond.selects RX8 yX8_staysAhead yX8_staysAhead ∈ wsL_law := wc_28 _ (List.mem_of_getElem? (i := 8) rfl)
theorem wm_32_6 : Cond.code yX8_sum cX8_sum 2 (some .long) ∈ wsL_law := wc_32 _ (List.mem_of_getElem? (i := 6) rfl)
theorem wm_32_4 : Cond.instanceMethod yX8_sum ∈ wsL_law := wc_32 _ (List.mem_of_getElem? (i := 4) rfl)
theorem wm_32_5 : Cond.selects RX8 yX8_sum yX8_sum ∈ wsL_law := wc_32 _ (List.mem_of_getElem? (i := 5) rfl)
theorem wm_32_11 : Cond.code yX8_sumOf cX8_sumOf 5 (some .long) ∈ wsL_law := wc_32 _ (List.mem_of_getElem? (i := 11) rfl)
theorem wm_32_9 : Cond.instanceMethod yX8_sumOf ∈ wsL_law := wc_32 _ (List.mem_of_getElem? (i := 9) rfl)
theorem wm_32_10 : Cond.selects RX8 yX8_sumOf yX8_sumOf ∈ wsL_law := wc_32 _ (List.mem_of_getElem? (i := 10) rfl)
theorem wm_39_6 : Cond.code yX8_syntaxError cX8_syntaxError 1 (some .int) ∈ wsL_law := wc_39 _ (List.mem_of_getElem? (i := 6) rfl)
theorem wm_39_4 : Cond.instanceMethod yX8_syntaxError ∈ wsL_law := wc_39 _ (List.mem_of_getElem? (i := 4) rfl)
theorem wm_39_5 : Cond.selects RX8 yX8_syntaxError yX8_syntaxError ∈ wsL_law := wc_39 _ (List.mem_of_getElem? (i := 5) rfl)
theorem wm_26_1 : Cond.code yX8_taker cX8_taker 2 (some .int) ∈ wsL_law := wc_26 _ (List.mem_of_getElem? (i := 1) rfl)
theorem wm_25_23 : Cond.instanceMethod yX8_taker ∈ wsL_law := wc_25 _ (List.mem_of_getElem? (i := 23) rfl)
theorem wm_26_0 : Cond.selects RX8 yX8_taker yX8_taker ∈ wsL_law := wc_26 _ (List.mem_of_getElem? (i := 0) rfl)
theorem wm_19_5 : Cond.code yX8_takesOut cX8_takesOut 5 none ∈ wsL_law := wc_19 _ (List.mem_of_getElem? (i := 5) rfl)
theorem wm_19_3 : Cond.instanceMethod yX8_takesOut ∈ wsL_law := wc_19 _ (List.mem_of_getElem? (i := 3) rfl)
theorem wm_19_4 : Cond.selects RX8 yX8_takesOut yX8_takesOut ∈ wsL_law := wc_19 _ (List.mem_of_getElem? (i := 4) rfl)
theorem wm_23_22 : Cond.code yX8_thinks cX8_thinks 2 none ∈ wsL_law := wc_23 _ (List.mem_of_getElem? (i := 22) rfl)
theorem wm_23_20 : Cond.instanceMethod yX8_thinks ∈ wsL_law := wc_23 _ (List.mem_of_getElem? (i := 20) rfl)
theorem wm_23_21 : Cond.selects RX8 yX8_thinks yX8_thinks ∈ wsL_law := wc_23 _ (List.mem_of_getElem? (i := 21) rfl)
theorem wm_16_15 : Cond.code yX8_transfer cX8_transfer 5 (some .int) ∈ wsL_law := wc_16 _ (List.mem_of_getElem? (i := 15) rfl)
theorem wm_16_13 : Cond.instanceMethod yX8_transfer ∈ wsL_law := wc_16 _ (List.mem_of_getElem? (i := 13) rfl)
theorem wm_16_14 : Cond.selects RX8 yX8_transfer yX8_transfer ∈ wsL_law := wc_16 _ (List.mem_of_getElem? (i := 14) rfl)
theorem wm_16_23 : Cond.code yX8_transfers cX8_transfers 5 (some .int) ∈ wsL_law := wc_16 _ (List.mem_of_getElem? (i := 23) rfl)
theorem wm_16_21 : Cond.instanceMethod yX8_transfers ∈ wsL_law := wc_16 _ (List.mem_of_getElem? (i := 21) rfl)
theorem wm_16_22 : Cond.selects RX8 yX8_transfers yX8_transfers ∈ wsL_law := wc_16 _ (List.mem_of_getElem? (i := 22) rfl)
theorem wm_34_5 : Cond.code yX8_type cX8_type 2 (some .int) ∈ wsL_law := wc_34 _ (List.mem_of_getElem? (i := 5) rfl)
theorem wm_34_3 : Cond.instanceMethod yX8_type ∈ wsL_law := wc_34 _ (List.mem_of_getElem? (i := 3) rfl)
theorem wm_34_4 : Cond.selects RX8 yX8_type yX8_type ∈ wsL_law := wc_34 _ (List.mem_of_getElem? (i := 4) rfl)
theorem wm_42_10 : Cond.code yX8_undo cX8_undo 2 (some .int) ∈ wsL_law := wc_42 _ (List.mem_of_getElem? (i := 10) rfl)
theorem wm_42_8 : Cond.instanceMethod yX8_undo ∈ wsL_law := wc_42 _ (List.mem_of_getElem? (i := 8) rfl)
theorem wm_42_9 : Cond.selects RX8 yX8_undo yX8_undo ∈ wsL_law := wc_42 _ (List.mem_of_getElem? (i := 9) rfl)
theorem wm_19_21 : Cond.code yX8_whyNotBilled cX8_whyNotBilled 3 (some .int) ∈ wsL_law := wc_19 _ (List.mem_of_getElem? (i := 21) rfl)
theorem wm_19_19 : Cond.instanceMethod yX8_whyNotBilled ∈ wsL_law := wc_19 _ (List.mem_of_getElem? (i := 19) rfl)
theorem wm_19_20 : Cond.selects RX8 yX8_whyNotBilled yX8_whyNotBilled ∈ wsL_law := wc_19 _ (List.mem_of_getElem? (i := 20) rfl)
theorem wm_41_17 : Cond.code yX8_whyNotDone cX8_whyNotDone 1 (some .int) ∈ wsL_law := wc_41 _ (List.mem_of_getElem? (i := 17) rfl)
theorem wm_41_15 : Cond.instanceMethod yX8_whyNotDone ∈ wsL_law := wc_41 _ (List.mem_of_getElem? (i := 15) rfl)
theorem wm_41_16 : Cond.selects RX8 yX8_whyNotDone yX8_whyNotDone ∈ wsL_law := wc_41 _ (List.mem_of_getElem? (i := 16) rfl)
theorem wm_16_19 : Cond.code yX8_whyNotMoved cX8_whyNotMoved 6 (some .int) ∈ wsL_law := wc_16 _ (List.mem_of_getElem? (i := 19) rfl)
theorem wm_16_17 : Cond.instanceMethod yX8_whyNotMoved ∈ wsL_law := wc_16 _ (List.mem_of_getElem? (i := 17) rfl)
theorem wm_16_18 : Cond.selects RX8 yX8_whyNotMoved yX8_whyNotMoved ∈ wsL_law := wc_16 _ (List.mem_of_getElem? (i := 18) rfl)
theorem wm_15_7 : Cond.code yX8_whyNotPaid cX8_whyNotPaid 4 (some .int) ∈ wsL_law := wc_15 _ (List.mem_of_getElem? (i := 7) rfl)
theorem wm_15_5 : Cond.instanceMethod yX8_whyNotPaid ∈ wsL_law := wc_15 _ (List.mem_of_getElem? (i := 5) rfl)
theorem wm_15_6 : Cond.selects RX8 yX8_whyNotPaid yX8_whyNotPaid ∈ wsL_law := wc_15 _ (List.mem_of_getElem? (i := 6) rfl)
theorem wm_23_8 : Cond.code yX8_whyNotPassed cX8_whyNotPassed 2 (some .int) ∈ wsL_law := wc_23 _ (List.mem_of_getElem? (i := 8) rfl)
theorem wm_23_6 : Cond.instanceMethod yX8_whyNotPassed ∈ wsL_law := wc_23 _ (List.mem_of_getElem? (i := 6) rfl)
theorem wm_23_7 : Cond.selects RX8 yX8_whyNotPassed yX8_whyNotPassed ∈ wsL_law := wc_23 _ (List.mem_of_getElem? (i := 7) rfl)
theorem wm_13_4 : Cond.code yX8_whyNotReceived cX8_whyNotReceived 4 (some .int) ∈ wsL_law := wc_13 _ (List.mem_of_getElem? (i := 4) rfl)
theorem wm_13_2 : Cond.instanceMethod yX8_whyNotReceived ∈ wsL_law := wc_13 _ (List.mem_of_getElem? (i := 2) rfl)
theorem wm_13_3 : Cond.selects RX8 yX8_whyNotReceived yX8_whyNotReceived ∈ wsL_law := wc_13 _ (List.mem_of_getElem? (i := 3) rfl)
theorem wm_25_9 : Cond.code yX8_whyNotReversed cX8_whyNotReversed 5 (some .int) ∈ wsL_law := wc_25 _ (List.mem_of_getElem? (i := 9) rfl)
theorem wm_25_7 : Cond.instanceMethod yX8_whyNotReversed ∈ wsL_law := wc_25 _ (List.mem_of_getElem? (i := 7) rfl)
theorem wm_25_8 : Cond.selects RX8 yX8_whyNotReversed yX8_whyNotReversed ∈ wsL_law := wc_25 _ (List.mem_of_getElem? (i := 8) rfl)
theorem wm_20_19 : Cond.code yX8_whyNotSettled cX8_whyNotSettled 3 (some .int) ∈ wsL_law := wc_20 _ (List.mem_of_getElem? (i := 19) rfl)
theorem wm_20_17 : Cond.instanceMethod yX8_whyNotSettled ∈ wsL_law := wc_20 _ (List.mem_of_getElem? (i := 17) rfl)
theorem wm_20_18 : Cond.selects RX8 yX8_whyNotSettled yX8_whyNotSettled ∈ wsL_law := wc_20 _ (List.mem_of_getElem? (i := 18) rfl)
theorem gcB_X0_init {big : List Cond} (hb : ∀ w ∈ wsL_law, w ∈ big) : GoodIn big aX0_init := gA hb (gA_c wm_2_7)
theorem gcB_X1_init {big : List Cond} (hb : ∀ w ∈ wsL_law, w ∈ big) : GoodIn big aX1_init := gA hb (gA_c wm_3_6)
theorem gcB_X2_init {big : List Cond} (hb : ∀ w ∈ wsL_law, w ∈ big) : GoodIn big aX2_init := gA hb (gA_c wm_3_13)
theorem gcB_X3_init {big : List Cond} (hb : ∀ w ∈ wsL_law, w ∈ big) : GoodIn big aX3_init := gA hb (gA_c wm_4_0)
theorem gcB_X4_init {big : List Cond} (hb : ∀ w ∈ wsL_law, w ∈ big) : GoodIn big aX4_init := gA hb (gA_c wm_2_17)
theorem gcB_X5_init {big : List Cond} (hb : ∀ w ∈ wsL_law, w ∈ big) : GoodIn big aX5_init := gA hb (gA_c wm_1_5)
theorem gcB_X6_init {big : List Cond} (hb : ∀ w ∈ wsL_law, w ∈ big) : GoodIn big aX6_init := gA hb (gA_c wm_2_23)
theorem gcB_X7_init {big : List Cond} (hb : ∀ w ∈ wsL_law, w ∈ big) : GoodIn big aX7_init := gA hb (gA_c wm_0_8)
theorem gcB_X7_isAmount {big : List Cond} (hb : ∀ w ∈ wsL_law, w ∈ big) : GoodIn big aX7_isAmount := gA hb (gA_c wm_11_14)
theorem gcB_X7_nextCreditDay {big : List Cond} (hb : ∀ w ∈ wsL_law, w ∈ big) : GoodIn big aX7_nextCreditDay := gA hb (gA_c wm_21_15)
theorem gcB_X8_init {big : List Cond} (hb : ∀ w ∈ wsL_law, w ∈ big) : GoodIn big aX8_init := gA hb (gA_c wm_4_7)
theorem gcS_J1_canEncode_9a6ad {big : List Cond} (hb : ∀ w ∈ wsL_law, w ∈ big) {own : String} {idx : Nat} (h1 : Cond.methodLink own idx yJ1_canEncode_9a6ad ∈ wsL_law) : GoodIn big (va_wsS own idx yJ1_canEncode_9a6ad aJ1_canEncode_9a6ad) := gAS hb h1 wm_36_16 wm_36_9 wm_36_17
theorem gcS_J1_indexOfChar_4cfef {big : List Cond} (hb : ∀ w ∈ wsL_law, w ∈ big) {own : String} {idx : Nat} (h1 : Cond.methodLink own idx yJ1_indexOfChar_4cfef ∈ wsL_law) : GoodIn big (va_wsS own idx yJ1_indexOfChar_4cfef aJ1_indexOfChar_4cfef) := gAS hb h1 wm_36_19 wm_36_9 wm_36_20
theorem gcS_J1_indexOf_4cfef {big : List Cond} (hb : ∀ w ∈ wsL_law, w ∈ big) {own : String} {idx : Nat} (h1 : Cond.methodLink own idx yJ1_indexOf_4cfef ∈ wsL_law) : GoodIn big (va_wsS own idx yJ1_indexOf_4cfef aJ1_indexOf_4cfef) := gAS hb h1 wm_36_8 wm_36_9 wm_36_10
theorem gcS_X2_isDigit {big : List Cond} (hb : ∀ w ∈ wsL_law, w ∈ big) {own : String} {idx : Nat} (h1 : Cond.methodLink own idx yX2_isDigit ∈ wsL_law) : GoodIn big (va_wsS own idx yX2_isDigit aX2_isDigit) := gAS hb h1 wm_38_22 wm_0_22 wm_38_23
theorem gcS_X2_signAfter {big : List Cond} (hb : ∀ w ∈ wsL_law, w ∈ big) {own : String} {idx : Nat} (h1 : Cond.methodLink own idx yX2_signAfter ∈ wsL_law) : GoodIn big (va_wsS own idx yX2_signAfter aX2_signAfter) := gAS hb h1 wm_39_1 wm_0_22 wm_39_2
theorem gcS_X3_keyOf {big : List Cond} (hb : ∀ w ∈ wsL_law, w ∈ big) {own : String} {idx : Nat} (h1 : Cond.methodLink own idx yX3_keyOf ∈ wsL_law) : GoodIn big (va_wsS own idx yX3_keyOf aX3_keyOf) := gAS hb h1 wm_27_9 wm_1_2 wm_27_10
theorem gcS_X6_cellOf {big : List Cond} (hb : ∀ w ∈ wsL_law, w ∈ big) {own : String} {idx : Nat} (h1 : Cond.methodLink own idx yX6_cellOf ∈ wsL_law) : GoodIn big (va_wsS own idx yX6_cellOf aX6_cellOf) := gAS hb h1 wm_12_15 wm_1_18 wm_12_16
theorem gcS_X7_aboutRow {big : List Cond} (hb : ∀ w ∈ wsL_law, w ∈ big) {own : String} {idx : Nat} (h1 : Cond.methodLink own idx yX7_aboutRow ∈ wsL_law) : GoodIn big (va_wsS own idx yX7_aboutRow aX7_aboutRow) := gAS hb h1 wm_29_20 wm_0_2 wm_29_21
theorem gcS_X7_hashOfRows {big : List Cond} (hb : ∀ w ∈ wsL_law, w ∈ big) {own : String} {idx : Nat} (h1 : Cond.methodLink own idx yX7_hashOfRows ∈ wsL_law) : GoodIn big (va_wsS own idx yX7_hashOfRows aX7_hashOfRows) := gAS hb h1 wm_42_23 wm_0_2 wm_43_0
theorem gcS_X7_isAmount {big : List Cond} (hb : ∀ w ∈ wsL_law, w ∈ big) {own : String} {idx : Nat} (h1 : Cond.methodLink own idx yX7_isAmount ∈ wsL_law) : GoodIn big (va_wsS own idx yX7_isAmount aX7_isAmount) := gAS hb h1 wm_11_13 wm_0_2 wm_11_14
theorem gcS_X8_isAmount {big : List Cond} (hb : ∀ w ∈ wsL_law, w ∈ big) {own : String} {idx : Nat} (h1 : Cond.methodLink own idx yX8_isAmount ∈ wsL_law) : GoodIn big (va_wsS own idx yX8_isAmount aX8_isAmount) := gAS hb h1 wm_13_6 wm_0_5 wm_13_7
theorem gcS_X8_within {big : List Cond} (hb : ∀ w ∈ wsL_law, w ∈ big) {own : String} {idx : Nat} (h1 : Cond.methodLink own idx yX8_within ∈ wsL_law) : GoodIn big (va_wsS own idx yX8_within aX8_within) := gAS hb h1 wm_7_1 wm_0_5 wm_7_2
theorem gcV_J0_coder_7d493 {big : List Cond} (hb : ∀ w ∈ wsL_law, w ∈ big) {own : String} {idx : Nat} (h1 : Cond.methodLink own idx yJ0_coder_7d493 ∈ wsL_law) : GoodIn big (wsV own idx RJ0 yJ0_coder_7d493 aJ0_coder_7d493) := gAV hb h1 wm_36_4 wm_36_5 wm_35_10 wm_36_6
theorem gcV_J0_indexOf_0f7a4 {big : List Cond} (hb : ∀ w ∈ wsL_law, w ∈ big) {own : String} {idx : Nat} (h1 : Cond.methodLink own idx yJ0_indexOf_0f7a4 ∈ wsL_law) : GoodIn big (wsV own idx RJ0 yJ0_indexOf_0f7a4 aJ0_indexOf_0f7a4) := gAV hb h1 wm_35_8 wm_35_9 wm_35_10 wm_35_11
theorem gcV_J0_indexOf_7cf53 {big : List Cond} (hb : ∀ w ∈ wsL_law, w ∈ big) {own : String} {idx : Nat} (h1 : Cond.methodLink own idx yJ0_indexOf_7cf53 ∈ wsL_law) : GoodIn big (wsV own idx RJ0 yJ0_indexOf_7cf53 aJ0_indexOf_7cf53) := gAV hb h1 wm_35_13 wm_35_14 wm_35_10 wm_35_15
theorem gcV_J0_isLatin1_aae02 {big : List Cond} (hb : ∀ w ∈ wsL_law, w ∈ big) {own : String} {idx : Nat} (h1 : Cond.methodLink own idx yJ0_isLatin1_aae02 ∈ wsL_law) : GoodIn big (wsV own idx RJ0 yJ0_isLatin1_aae02 aJ0_isLatin1_aae02) := gAV hb h1 wm_35_18 wm_35_19 wm_35_10 wm_35_20
theorem gcV_J0_length_8abf5 {big : List Cond} (hb : ∀ w ∈ wsL_law, w ∈ big) {own : String} {idx : Nat} (h1 : Cond.methodLink own idx yJ0_length_8abf5 ∈ wsL_law) : GoodIn big (wsV own idx RJ0 yJ0_length_8abf5 aJ0_length_8abf5) := gAV hb h1 wm_36_0 wm_36_1 wm_35_10 wm_36_2
theorem gcV_X0_add {big : List Cond} (hb : ∀ w ∈ wsL_law, w ∈ big) {own : String} {idx : Nat} (h1 : Cond.methodLink own idx yX0_add ∈ wsL_law) : GoodIn big (wsV own idx RX0 yX0_add aX0_add) := gAV hb h1 wm_11_17 wm_11_18 wm_1_9 wm_11_19
theorem gcV_X0_addCount {big : List Cond} (hb : ∀ w ∈ wsL_law, w ∈ big) {own : String} {idx : Nat} (h1 : Cond.methodLink own idx yX0_addCount ∈ wsL_law) : GoodIn big (wsV own idx RX0 yX0_addCount aX0_addCount) := gAV hb h1 wm_22_1 wm_22_2 wm_1_9 wm_22_3
theorem gcV_X0_balanceAt {big : List Cond} (hb : ∀ w ∈ wsL_law, w ∈ big) {own : String} {idx : Nat} (h1 : Cond.methodLink own idx yX0_balanceAt ∈ wsL_law) : GoodIn big (wsV own idx RX0 yX0_balanceAt aX0_balanceAt) := gAV hb h1 wm_10_2 wm_10_3 wm_1_9 wm_10_4
theorem gcV_X0_copyFrom {big : List Cond} (hb : ∀ w ∈ wsL_law, w ∈ big) {own : String} {idx : Nat} (h1 : Cond.methodLink own idx yX0_copyFrom ∈ wsL_law) : GoodIn big (wsV own idx RX0 yX0_copyFrom aX0_copyFrom) := gAV hb h1 wm_5_9 wm_5_10 wm_1_9 wm_5_11
theorem gcV_X0_copyRow {big : List Cond} (hb : ∀ w ∈ wsL_law, w ∈ big) {own : String} {idx : Nat} (h1 : Cond.methodLink own idx yX0_copyRow ∈ wsL_law) : GoodIn big (wsV own idx RX0 yX0_copyRow aX0_copyRow) := gAV hb h1 wm_8_22 wm_8_23 wm_1_9 wm_9_0
theorem gcV_X0_countAt {big : List Cond} (hb : ∀ w ∈ wsL_law, w ∈ big) {own : String} {idx : Nat} (h1 : Cond.methodLink own idx yX0_countAt ∈ wsL_law) : GoodIn big (wsV own idx RX0 yX0_countAt aX0_countAt) := gAV hb h1 wm_22_10 wm_22_11 wm_1_9 wm_22_12
theorem gcV_X0_find {big : List Cond} (hb : ∀ w ∈ wsL_law, w ∈ big) {own : String} {idx : Nat} (h1 : Cond.methodLink own idx yX0_find ∈ wsL_law) : GoodIn big (wsV own idx RX0 yX0_find aX0_find) := gAV hb h1 wm_8_6 wm_8_7 wm_1_9 wm_8_8
theorem gcV_X0_insert {big : List Cond} (hb : ∀ w ∈ wsL_law, w ∈ big) {own : String} {idx : Nat} (h1 : Cond.methodLink own idx yX0_insert ∈ wsL_law) : GoodIn big (wsV own idx RX0 yX0_insert aX0_insert) := gAV hb h1 wm_8_10 wm_8_11 wm_1_9 wm_8_12
theorem gcV_X0_isPlace {big : List Cond} (hb : ∀ w ∈ wsL_law, w ∈ big) {own : String} {idx : Nat} (h1 : Cond.methodLink own idx yX0_isPlace ∈ wsL_law) : GoodIn big (wsV own idx RX0 yX0_isPlace aX0_isPlace) := gAV hb h1 wm_8_18 wm_8_19 wm_1_9 wm_8_20
theorem gcV_X0_move {big : List Cond} (hb : ∀ w ∈ wsL_law, w ∈ big) {own : String} {idx : Nat} (h1 : Cond.methodLink own idx yX0_move ∈ wsL_law) : GoodIn big (wsV own idx RX0 yX0_move aX0_move) := gAV hb h1 wm_12_18 wm_12_19 wm_1_9 wm_12_20
theorem gcV_X0_movedAt {big : List Cond} (hb : ∀ w ∈ wsL_law, w ∈ big) {own : String} {idx : Nat} (h1 : Cond.methodLink own idx yX0_movedAt ∈ wsL_law) : GoodIn big (wsV own idx RX0 yX0_movedAt aX0_movedAt) := gAV hb h1 wm_27_14 wm_27_15 wm_1_9 wm_27_16
theorem gcV_X0_numberAt {big : List Cond} (hb : ∀ w ∈ wsL_law, w ∈ big) {own : String} {idx : Nat} (h1 : Cond.methodLink own idx yX0_numberAt ∈ wsL_law) : GoodIn big (wsV own idx RX0 yX0_numberAt aX0_numberAt) := gAV hb h1 wm_8_14 wm_8_15 wm_1_9 wm_8_16
theorem gcV_X0_remove {big : List Cond} (hb : ∀ w ∈ wsL_law, w ∈ big) {own : String} {idx : Nat} (h1 : Cond.methodLink own idx yX0_remove ∈ wsL_law) : GoodIn big (wsV own idx RX0 yX0_remove aX0_remove) := gAV hb h1 wm_10_14 wm_10_15 wm_1_9 wm_10_16
theorem gcV_X0_sumOfBalances {big : List Cond} (hb : ∀ w ∈ wsL_law, w ∈ big) {own : String} {idx : Nat} (h1 : Cond.methodLink own idx yX0_sumOfBalances ∈ wsL_law) : GoodIn big (wsV own idx RX0 yX0_sumOfBalances aX0_sumOfBalances) := gAV hb h1 wm_31_19 wm_31_20 wm_1_9 wm_31_21
theorem gcV_X1_keep {big : List Cond} (hb : ∀ w ∈ wsL_law, w ∈ big) {own : String} {idx : Nat} (h1 : Cond.methodLink own idx yX1_keep ∈ wsL_law) : GoodIn big (wsV own idx RX1 yX1_keep aX1_keep) := gAV hb h1 wm_6_12 wm_6_13 wm_0_18 wm_6_14
theorem gcV_X1_prepare {big : List Cond} (hb : ∀ w ∈ wsL_law, w ∈ big) {own : String} {idx : Nat} (h1 : Cond.methodLink own idx yX1_prepare ∈ wsL_law) : GoodIn big (wsV own idx RX1 yX1_prepare aX1_prepare) := gAV hb h1 wm_4_21 wm_4_22 wm_0_18 wm_4_23
theorem gcV_X1_restoreLatest {big : List Cond} (hb : ∀ w ∈ wsL_law, w ∈ big) {own : String} {idx : Nat} (h1 : Cond.methodLink own idx yX1_restoreLatest ∈ wsL_law) : GoodIn big (wsV own idx RX1 yX1_restoreLatest aX1_restoreLatest) := gAV hb h1 wm_42_4 wm_42_5 wm_0_18 wm_42_6
theorem gcV_X1_slotAt {big : List Cond} (hb : ∀ w ∈ wsL_law, w ∈ big) {own : String} {idx : Nat} (h1 : Cond.methodLink own idx yX1_slotAt ∈ wsL_law) : GoodIn big (wsV own idx RX1 yX1_slotAt aX1_slotAt) := gAV hb h1 wm_5_1 wm_5_2 wm_0_18 wm_5_3
theorem gcV_X2_append {big : List Cond} (hb : ∀ w ∈ wsL_law, w ∈ big) {own : String} {idx : Nat} (h1 : Cond.methodLink own idx yX2_append ∈ wsL_law) : GoodIn big (wsV own idx RX2 yX2_append aX2_append) := gAV hb h1 wm_33_23 wm_34_0 wm_0_22 wm_34_1
theorem gcV_X2_at {big : List Cond} (hb : ∀ w ∈ wsL_law, w ∈ big) {own : String} {idx : Nat} (h1 : Cond.methodLink own idx yX2_at ∈ wsL_law) : GoodIn big (wsV own idx RX2 yX2_at aX2_at) := gAV hb h1 wm_35_4 wm_35_5 wm_0_22 wm_35_6
theorem gcV_X2_empty {big : List Cond} (hb : ∀ w ∈ wsL_law, w ∈ big) {own : String} {idx : Nat} (h1 : Cond.methodLink own idx yX2_empty ∈ wsL_law) : GoodIn big (wsV own idx RX2 yX2_empty aX2_empty) := gAV hb h1 wm_34_12 wm_34_13 wm_0_22 wm_34_14
theorem gcV_X2_firstError {big : List Cond} (hb : ∀ w ∈ wsL_law, w ∈ big) {own : String} {idx : Nat} (h1 : Cond.methodLink own idx yX2_firstError ∈ wsL_law) : GoodIn big (wsV own idx RX2 yX2_firstError aX2_firstError) := gAV hb h1 wm_35_0 wm_35_1 wm_0_22 wm_35_2
theorem gcV_X2_readNumber {big : List Cond} (hb : ∀ w ∈ wsL_law, w ∈ big) {own : String} {idx : Nat} (h1 : Cond.methodLink own idx yX2_readNumber ∈ wsL_law) : GoodIn big (wsV own idx RX2 yX2_readNumber aX2_readNumber) := gAV hb h1 wm_40_22 wm_40_23 wm_0_22 wm_41_0
theorem gcV_X2_readOrder {big : List Cond} (hb : ∀ w ∈ wsL_law, w ∈ big) {own : String} {idx : Nat} (h1 : Cond.methodLink own idx yX2_readOrder ∈ wsL_law) : GoodIn big (wsV own idx RX2 yX2_readOrder aX2_readOrder) := gAV hb h1 wm_40_18 wm_40_19 wm_0_22 wm_40_20
theorem gcV_X2_startReading {big : List Cond} (hb : ∀ w ∈ wsL_law, w ∈ big) {own : String} {idx : Nat} (h1 : Cond.methodLink own idx yX2_startReading ∈ wsL_law) : GoodIn big (wsV own idx RX2 yX2_startReading aX2_startReading) := gAV hb h1 wm_40_14 wm_40_15 wm_0_22 wm_40_16
theorem gcV_X3_clientAt {big : List Cond} (hb : ∀ w ∈ wsL_law, w ∈ big) {own : String} {idx : Nat} (h1 : Cond.methodLink own idx yX3_clientAt ∈ wsL_law) : GoodIn big (wsV own idx RX3 yX3_clientAt aX3_clientAt) := gAV hb h1 wm_27_19 wm_27_20 wm_1_2 wm_27_21
theorem gcV_X3_sort {big : List Cond} (hb : ∀ w ∈ wsL_law, w ∈ big) {own : String} {idx : Nat} (h1 : Cond.methodLink own idx yX3_sort ∈ wsL_law) : GoodIn big (wsV own idx RX3 yX3_sort aX3_sort) := gAV hb h1 wm_27_2 wm_27_3 wm_1_2 wm_27_4
theorem gcV_X4_append {big : List Cond} (hb : ∀ w ∈ wsL_law, w ∈ big) {own : String} {idx : Nat} (h1 : Cond.methodLink own idx yX4_append ∈ wsL_law) : GoodIn big (wsV own idx RX4 yX4_append aX4_append) := gAV hb h1 wm_17_10 wm_17_11 wm_1_13 wm_17_12
theorem gcV_X4_copyFrom {big : List Cond} (hb : ∀ w ∈ wsL_law, w ∈ big) {own : String} {idx : Nat} (h1 : Cond.methodLink own idx yX4_copyFrom ∈ wsL_law) : GoodIn big (wsV own idx RX4 yX4_copyFrom aX4_copyFrom) := gAV hb h1 wm_5_17 wm_5_18 wm_1_13 wm_5_19
theorem gcV_X4_countOf {big : List Cond} (hb : ∀ w ∈ wsL_law, w ∈ big) {own : String} {idx : Nat} (h1 : Cond.methodLink own idx yX4_countOf ∈ wsL_law) : GoodIn big (wsV own idx RX4 yX4_countOf aX4_countOf) := gAV hb h1 wm_10_6 wm_10_7 wm_1_13 wm_10_8
theorem gcV_X4_find {big : List Cond} (hb : ∀ w ∈ wsL_law, w ∈ big) {own : String} {idx : Nat} (h1 : Cond.methodLink own idx yX4_find ∈ wsL_law) : GoodIn big (wsV own idx RX4 yX4_find aX4_find) := gAV hb h1 wm_18_6 wm_18_7 wm_1_13 wm_18_8
theorem gcV_X4_get {big : List Cond} (hb : ∀ w ∈ wsL_law, w ∈ big) {own : String} {idx : Nat} (h1 : Cond.methodLink own idx yX4_get ∈ wsL_law) : GoodIn big (wsV own idx RX4 yX4_get aX4_get) := gAV hb h1 wm_10_10 wm_10_11 wm_1_13 wm_10_12
theorem gcV_X4_remove {big : List Cond} (hb : ∀ w ∈ wsL_law, w ∈ big) {own : String} {idx : Nat} (h1 : Cond.methodLink own idx yX4_remove ∈ wsL_law) : GoodIn big (wsV own idx RX4 yX4_remove aX4_remove) := gAV hb h1 wm_18_11 wm_18_12 wm_1_13 wm_18_13
theorem gcV_X4_set {big : List Cond} (hb : ∀ w ∈ wsL_law, w ∈ big) {own : String} {idx : Nat} (h1 : Cond.methodLink own idx yX4_set ∈ wsL_law) : GoodIn big (wsV own idx RX4 yX4_set aX4_set) := gAV hb h1 wm_17_14 wm_17_15 wm_1_13 wm_17_16
theorem gcV_X4_sumOf {big : List Cond} (hb : ∀ w ∈ wsL_law, w ∈ big) {own : String} {idx : Nat} (h1 : Cond.methodLink own idx yX4_sumOf ∈ wsL_law) : GoodIn big (wsV own idx RX4 yX4_sumOf aX4_sumOf) := gAV hb h1 wm_14_21 wm_14_22 wm_1_13 wm_14_23
theorem gcV_X4_sumOfAll {big : List Cond} (hb : ∀ w ∈ wsL_law, w ∈ big) {own : String} {idx : Nat} (h1 : Cond.methodLink own idx yX4_sumOfAll ∈ wsL_law) : GoodIn big (wsV own idx RX4 yX4_sumOfAll aX4_sumOfAll) := gAV hb h1 wm_32_0 wm_32_1 wm_1_13 wm_32_2
theorem gcV_X5_aboutClient {big : List Cond} (hb : ∀ w ∈ wsL_law, w ∈ big) {own : String} {idx : Nat} (h1 : Cond.methodLink own idx yX5_aboutClient ∈ wsL_law) : GoodIn big (wsV own idx RX5 yX5_aboutClient aX5_aboutClient) := gAV hb h1 wm_28_16 wm_28_17 wm_0_14 wm_28_18
theorem gcV_X5_changeRates {big : List Cond} (hb : ∀ w ∈ wsL_law, w ∈ big) {own : String} {idx : Nat} (h1 : Cond.methodLink own idx yX5_changeRates ∈ wsL_law) : GoodIn big (wsV own idx RX5 yX5_changeRates aX5_changeRates) := gAV hb h1 wm_6_3 wm_6_4 wm_0_14 wm_6_5
theorem gcV_X5_changeThreshold {big : List Cond} (hb : ∀ w ∈ wsL_law, w ∈ big) {own : String} {idx : Nat} (h1 : Cond.methodLink own idx yX5_changeThreshold ∈ wsL_law) : GoodIn big (wsV own idx RX5 yX5_changeThreshold aX5_changeThreshold) := gAV hb h1 wm_7_13 wm_7_14 wm_0_14 wm_7_15
theorem gcV_X5_closeAccount {big : List Cond} (hb : ∀ w ∈ wsL_law, w ∈ big) {own : String} {idx : Nat} (h1 : Cond.methodLink own idx yX5_closeAccount ∈ wsL_law) : GoodIn big (wsV own idx RX5 yX5_closeAccount aX5_closeAccount) := gAV hb h1 wm_9_22 wm_9_23 wm_0_14 wm_10_0
theorem gcV_X5_copyFrom {big : List Cond} (hb : ∀ w ∈ wsL_law, w ∈ big) {own : String} {idx : Nat} (h1 : Cond.methodLink own idx yX5_copyFrom ∈ wsL_law) : GoodIn big (wsV own idx RX5 yX5_copyFrom aX5_copyFrom) := gAV hb h1 wm_5_5 wm_5_6 wm_0_14 wm_5_7
theorem gcV_X5_creditAll {big : List Cond} (hb : ∀ w ∈ wsL_law, w ∈ big) {own : String} {idx : Nat} (h1 : Cond.methodLink own idx yX5_creditAll ∈ wsL_law) : GoodIn big (wsV own idx RX5 yX5_creditAll aX5_creditAll) := gAV hb h1 wm_22_5 wm_22_6 wm_0_14 wm_22_7
theorem gcV_X5_endHold {big : List Cond} (hb : ∀ w ∈ wsL_law, w ∈ big) {own : String} {idx : Nat} (h1 : Cond.methodLink own idx yX5_endHold ∈ wsL_law) : GoodIn big (wsV own idx RX5 yX5_endHold aX5_endHold) := gAV hb h1 wm_18_2 wm_18_3 wm_0_14 wm_18_4
theorem gcV_X5_endHoldsThatAreOver {big : List Cond} (hb : ∀ w ∈ wsL_law, w ∈ big) {own : String} {idx : Nat} (h1 : Cond.methodLink own idx yX5_endHoldsThatAreOver ∈ wsL_law) : GoodIn big (wsV own idx RX5 yX5_endHoldsThatAreOver aX5_endHoldsThatAreOver) := gAV hb h1 wm_22_22 wm_22_23 wm_0_14 wm_23_0
theorem gcV_X5_enter {big : List Cond} (hb : ∀ w ∈ wsL_law, w ∈ big) {own : String} {idx : Nat} (h1 : Cond.methodLink own idx yX5_enter ∈ wsL_law) : GoodIn big (wsV own idx RX5 yX5_enter aX5_enter) := gAV hb h1 wm_11_21 wm_11_22 wm_0_14 wm_11_23
theorem gcV_X5_firstDayWithFree {big : List Cond} (hb : ∀ w ∈ wsL_law, w ∈ big) {own : String} {idx : Nat} (h1 : Cond.methodLink own idx yX5_firstDayWithFree ∈ wsL_law) : GoodIn big (wsV own idx RX5 yX5_firstDayWithFree aX5_firstDayWithFree) := gAV hb h1 wm_32_18 wm_32_19 wm_0_14 wm_32_20
theorem gcV_X5_freeAt {big : List Cond} (hb : ∀ w ∈ wsL_law, w ∈ big) {own : String} {idx : Nat} (h1 : Cond.methodLink own idx yX5_freeAt ∈ wsL_law) : GoodIn big (wsV own idx RX5 yX5_freeAt aX5_freeAt) := gAV hb h1 wm_14_16 wm_14_17 wm_0_14 wm_14_18
theorem gcV_X5_growUntil {big : List Cond} (hb : ∀ w ∈ wsL_law, w ∈ big) {own : String} {idx : Nat} (h1 : Cond.methodLink own idx yX5_growUntil ∈ wsL_law) : GoodIn big (wsV own idx RX5 yX5_growUntil aX5_growUntil) := gAV hb h1 wm_21_17 wm_21_18 wm_0_14 wm_21_19
theorem gcV_X5_growthPerDay {big : List Cond} (hb : ∀ w ∈ wsL_law, w ∈ big) {own : String} {idx : Nat} (h1 : Cond.methodLink own idx yX5_growthPerDay ∈ wsL_law) : GoodIn big (wsV own idx RX5 yX5_growthPerDay aX5_growthPerDay) := gAV hb h1 wm_21_21 wm_21_22 wm_0_14 wm_21_23
theorem gcV_X5_heldOn {big : List Cond} (hb : ∀ w ∈ wsL_law, w ∈ big) {own : String} {idx : Nat} (h1 : Cond.methodLink own idx yX5_heldOn ∈ wsL_law) : GoodIn big (wsV own idx RX5 yX5_heldOn aX5_heldOn) := gAV hb h1 wm_32_22 wm_32_23 wm_0_14 wm_33_0
theorem gcV_X5_interestAhead {big : List Cond} (hb : ∀ w ∈ wsL_law, w ∈ big) {own : String} {idx : Nat} (h1 : Cond.methodLink own idx yX5_interestAhead ∈ wsL_law) : GoodIn big (wsV own idx RX5 yX5_interestAhead aX5_interestAhead) := gAV hb h1 wm_33_10 wm_33_11 wm_0_14 wm_33_12
theorem gcV_X5_interestToCredit {big : List Cond} (hb : ∀ w ∈ wsL_law, w ∈ big) {own : String} {idx : Nat} (h1 : Cond.methodLink own idx yX5_interestToCredit ∈ wsL_law) : GoodIn big (wsV own idx RX5 yX5_interestToCredit aX5_interestToCredit) := gAV hb h1 wm_22_14 wm_22_15 wm_0_14 wm_22_16
theorem gcV_X5_letPass {big : List Cond} (hb : ∀ w ∈ wsL_law, w ∈ big) {own : String} {idx : Nat} (h1 : Cond.methodLink own idx yX5_letPass ∈ wsL_law) : GoodIn big (wsV own idx RX5 yX5_letPass aX5_letPass) := gAV hb h1 wm_21_9 wm_21_10 wm_0_14 wm_21_11
theorem gcV_X5_makeHold {big : List Cond} (hb : ∀ w ∈ wsL_law, w ∈ big) {own : String} {idx : Nat} (h1 : Cond.methodLink own idx yX5_makeHold ∈ wsL_law) : GoodIn big (wsV own idx RX5 yX5_makeHold aX5_makeHold) := gAV hb h1 wm_17_5 wm_17_6 wm_0_14 wm_17_7
theorem gcV_X5_makePayment {big : List Cond} (hb : ∀ w ∈ wsL_law, w ∈ big) {own : String} {idx : Nat} (h1 : Cond.methodLink own idx yX5_makePayment ∈ wsL_law) : GoodIn big (wsV own idx RX5 yX5_makePayment aX5_makePayment) := gAV hb h1 wm_14_12 wm_14_13 wm_0_14 wm_14_14
theorem gcV_X5_makeTransfer {big : List Cond} (hb : ∀ w ∈ wsL_law, w ∈ big) {own : String} {idx : Nat} (h1 : Cond.methodLink own idx yX5_makeTransfer ∈ wsL_law) : GoodIn big (wsV own idx RX5 yX5_makeTransfer aX5_makeTransfer) := gAV hb h1 wm_16_9 wm_16_10 wm_0_14 wm_16_11
theorem gcV_X5_openAccount {big : List Cond} (hb : ∀ w ∈ wsL_law, w ∈ big) {own : String} {idx : Nat} (h1 : Cond.methodLink own idx yX5_openAccount ∈ wsL_law) : GoodIn big (wsV own idx RX5 yX5_openAccount aX5_openAccount) := gAV hb h1 wm_8_1 wm_8_2 wm_0_14 wm_8_3
theorem gcV_X5_reverseEntry {big : List Cond} (hb : ∀ w ∈ wsL_law, w ∈ big) {own : String} {idx : Nat} (h1 : Cond.methodLink own idx yX5_reverseEntry ∈ wsL_law) : GoodIn big (wsV own idx RX5 yX5_reverseEntry aX5_reverseEntry) := gAV hb h1 wm_24_9 wm_24_10 wm_0_14 wm_24_11
theorem gcV_X5_settleBill {big : List Cond} (hb : ∀ w ∈ wsL_law, w ∈ big) {own : String} {idx : Nat} (h1 : Cond.methodLink own idx yX5_settleBill ∈ wsL_law) : GoodIn big (wsV own idx RX5 yX5_settleBill aX5_settleBill) := gAV hb h1 wm_20_7 wm_20_8 wm_0_14 wm_20_9
theorem gcV_X5_takeReceipt {big : List Cond} (hb : ∀ w ∈ wsL_law, w ∈ big) {own : String} {idx : Nat} (h1 : Cond.methodLink own idx yX5_takeReceipt ∈ wsL_law) : GoodIn big (wsV own idx RX5 yX5_takeReceipt aX5_takeReceipt) := gAV hb h1 wm_11_10 wm_11_11 wm_0_14 wm_11_12
theorem gcV_X5_writeBill {big : List Cond} (hb : ∀ w ∈ wsL_law, w ∈ big) {own : String} {idx : Nat} (h1 : Cond.methodLink own idx yX5_writeBill ∈ wsL_law) : GoodIn big (wsV own idx RX5 yX5_writeBill aX5_writeBill) := gAV hb h1 wm_19_11 wm_19_12 wm_0_14 wm_19_13
theorem gcV_X6_append {big : List Cond} (hb : ∀ w ∈ wsL_law, w ∈ big) {own : String} {idx : Nat} (h1 : Cond.methodLink own idx yX6_append ∈ wsL_law) : GoodIn big (wsV own idx RX6 yX6_append aX6_append) := gAV hb h1 wm_12_1 wm_12_2 wm_1_18 wm_12_3
theorem gcV_X6_copyFrom {big : List Cond} (hb : ∀ w ∈ wsL_law, w ∈ big) {own : String} {idx : Nat} (h1 : Cond.methodLink own idx yX6_copyFrom ∈ wsL_law) : GoodIn big (wsV own idx RX6 yX6_copyFrom aX6_copyFrom) := gAV hb h1 wm_5_22 wm_5_23 wm_1_18 wm_6_0
theorem gcV_X6_get {big : List Cond} (hb : ∀ w ∈ wsL_law, w ∈ big) {own : String} {idx : Nat} (h1 : Cond.methodLink own idx yX6_get ∈ wsL_law) : GoodIn big (wsV own idx RX6 yX6_get aX6_get) := gAV hb h1 wm_24_18 wm_24_19 wm_1_18 wm_24_20
theorem gcV_X6_keeps {big : List Cond} (hb : ∀ w ∈ wsL_law, w ∈ big) {own : String} {idx : Nat} (h1 : Cond.methodLink own idx yX6_keeps ∈ wsL_law) : GoodIn big (wsV own idx RX6 yX6_keeps aX6_keeps) := gAV hb h1 wm_24_14 wm_24_15 wm_1_18 wm_24_16
theorem gcV_X6_markReversed {big : List Cond} (hb : ∀ w ∈ wsL_law, w ∈ big) {own : String} {idx : Nat} (h1 : Cond.methodLink own idx yX6_markReversed ∈ wsL_law) : GoodIn big (wsV own idx RX6 yX6_markReversed aX6_markReversed) := gAV hb h1 wm_24_23 wm_25_0 wm_1_18 wm_25_1
theorem gcV_X6_set {big : List Cond} (hb : ∀ w ∈ wsL_law, w ∈ big) {own : String} {idx : Nat} (h1 : Cond.methodLink own idx yX6_set ∈ wsL_law) : GoodIn big (wsV own idx RX6 yX6_set aX6_set) := gAV hb h1 wm_12_11 wm_12_12 wm_1_18 wm_12_13
theorem gcV_X7_bill {big : List Cond} (hb : ∀ w ∈ wsL_law, w ∈ big) {own : String} {idx : Nat} (h1 : Cond.methodLink own idx yX7_bill ∈ wsL_law) : GoodIn big (wsV own idx RX7 yX7_bill aX7_bill) := gAV hb h1 wm_19_7 wm_19_8 wm_0_2 wm_19_9
theorem gcV_X7_billOf {big : List Cond} (hb : ∀ w ∈ wsL_law, w ∈ big) {own : String} {idx : Nat} (h1 : Cond.methodLink own idx yX7_billOf ∈ wsL_law) : GoodIn big (wsV own idx RX7 yX7_billOf aX7_billOf) := gAV hb h1 wm_30_5 wm_30_6 wm_0_2 wm_30_7
theorem gcV_X7_carryOut {big : List Cond} (hb : ∀ w ∈ wsL_law, w ∈ big) {own : String} {idx : Nat} (h1 : Cond.methodLink own idx yX7_carryOut ∈ wsL_law) : GoodIn big (wsV own idx RX7 yX7_carryOut aX7_carryOut) := gAV hb h1 wm_40_10 wm_40_11 wm_0_2 wm_40_12
theorem gcV_X7_carryOutOrder {big : List Cond} (hb : ∀ w ∈ wsL_law, w ∈ big) {own : String} {idx : Nat} (h1 : Cond.methodLink own idx yX7_carryOutOrder ∈ wsL_law) : GoodIn big (wsV own idx RX7 yX7_carryOutOrder aX7_carryOutOrder) := gAV hb h1 wm_41_2 wm_41_3 wm_0_2 wm_41_4
theorem gcV_X7_clearText {big : List Cond} (hb : ∀ w ∈ wsL_law, w ∈ big) {own : String} {idx : Nat} (h1 : Cond.methodLink own idx yX7_clearText ∈ wsL_law) : GoodIn big (wsV own idx RX7 yX7_clearText aX7_clearText) := gAV hb h1 wm_34_8 wm_34_9 wm_0_2 wm_34_10
theorem gcV_X7_clients {big : List Cond} (hb : ∀ w ∈ wsL_law, w ∈ big) {own : String} {idx : Nat} (h1 : Cond.methodLink own idx yX7_clients ∈ wsL_law) : GoodIn big (wsV own idx RX7 yX7_clients aX7_clients) := gAV hb h1 wm_26_12 wm_26_13 wm_0_2 wm_26_14
theorem gcV_X7_close {big : List Cond} (hb : ∀ w ∈ wsL_law, w ∈ big) {own : String} {idx : Nat} (h1 : Cond.methodLink own idx yX7_close ∈ wsL_law) : GoodIn big (wsV own idx RX7 yX7_close aX7_close) := gAV hb h1 wm_9_18 wm_9_19 wm_0_2 wm_9_20
theorem gcV_X7_day {big : List Cond} (hb : ∀ w ∈ wsL_law, w ∈ big) {own : String} {idx : Nat} (h1 : Cond.methodLink own idx yX7_day ∈ wsL_law) : GoodIn big (wsV own idx RX7 yX7_day aX7_day) := gAV hb h1 wm_26_3 wm_26_4 wm_0_2 wm_26_5
theorem gcV_X7_digest {big : List Cond} (hb : ∀ w ∈ wsL_law, w ∈ big) {own : String} {idx : Nat} (h1 : Cond.methodLink own idx yX7_digest ∈ wsL_law) : GoodIn big (wsV own idx RX7 yX7_digest aX7_digest) := gAV hb h1 wm_42_12 wm_42_13 wm_0_2 wm_42_14
theorem gcV_X7_entries {big : List Cond} (hb : ∀ w ∈ wsL_law, w ∈ big) {own : String} {idx : Nat} (h1 : Cond.methodLink own idx yX7_entries ∈ wsL_law) : GoodIn big (wsV own idx RX7 yX7_entries aX7_entries) := gAV hb h1 wm_30_14 wm_30_15 wm_0_2 wm_30_16
theorem gcV_X7_entry {big : List Cond} (hb : ∀ w ∈ wsL_law, w ∈ big) {own : String} {idx : Nat} (h1 : Cond.methodLink own idx yX7_entry ∈ wsL_law) : GoodIn big (wsV own idx RX7 yX7_entry aX7_entry) := gAV hb h1 wm_31_0 wm_31_1 wm_0_2 wm_31_2
theorem gcV_X7_hashOfClients {big : List Cond} (hb : ∀ w ∈ wsL_law, w ∈ big) {own : String} {idx : Nat} (h1 : Cond.methodLink own idx yX7_hashOfClients ∈ wsL_law) : GoodIn big (wsV own idx RX7 yX7_hashOfClients aX7_hashOfClients) := gAV hb h1 wm_42_18 wm_42_19 wm_0_2 wm_42_20
theorem gcV_X7_hashOfRanks {big : List Cond} (hb : ∀ w ∈ wsL_law, w ∈ big) {own : String} {idx : Nat} (h1 : Cond.methodLink own idx yX7_hashOfRanks ∈ wsL_law) : GoodIn big (wsV own idx RX7 yX7_hashOfRanks aX7_hashOfRanks) := gAV hb h1 wm_43_7 wm_43_8 wm_0_2 wm_43_9
theorem gcV_X7_hashOfTrail {big : List Cond} (hb : ∀ w ∈ wsL_law, w ∈ big) {own : String} {idx : Nat} (h1 : Cond.methodLink own idx yX7_hashOfTrail ∈ wsL_law) : GoodIn big (wsV own idx RX7 yX7_hashOfTrail aX7_hashOfTrail) := gAV hb h1 wm_43_3 wm_43_4 wm_0_2 wm_43_5
theorem gcV_X7_hold {big : List Cond} (hb : ∀ w ∈ wsL_law, w ∈ big) {own : String} {idx : Nat} (h1 : Cond.methodLink own idx yX7_hold ∈ wsL_law) : GoodIn big (wsV own idx RX7 yX7_hold aX7_hold) := gAV hb h1 wm_17_1 wm_17_2 wm_0_2 wm_17_3
theorem gcV_X7_holdOf {big : List Cond} (hb : ∀ w ∈ wsL_law, w ∈ big) {own : String} {idx : Nat} (h1 : Cond.methodLink own idx yX7_holdOf ∈ wsL_law) : GoodIn big (wsV own idx RX7 yX7_holdOf aX7_holdOf) := gAV hb h1 wm_29_15 wm_29_16 wm_0_2 wm_29_17
theorem gcV_X7_interestIn {big : List Cond} (hb : ∀ w ∈ wsL_law, w ∈ big) {own : String} {idx : Nat} (h1 : Cond.methodLink own idx yX7_interestIn ∈ wsL_law) : GoodIn big (wsV own idx RX7 yX7_interestIn aX7_interestIn) := gAV hb h1 wm_33_6 wm_33_7 wm_0_2 wm_33_8
theorem gcV_X7_keptUnlessError {big : List Cond} (hb : ∀ w ∈ wsL_law, w ∈ big) {own : String} {idx : Nat} (h1 : Cond.methodLink own idx yX7_keptUnlessError ∈ wsL_law) : GoodIn big (wsV own idx RX7 yX7_keptUnlessError aX7_keptUnlessError) := gAV hb h1 wm_6_8 wm_6_9 wm_0_2 wm_6_10
theorem gcV_X7_of {big : List Cond} (hb : ∀ w ∈ wsL_law, w ∈ big) {own : String} {idx : Nat} (h1 : Cond.methodLink own idx yX7_of ∈ wsL_law) : GoodIn big (wsV own idx RX7 yX7_of aX7_of) := gAV hb h1 wm_28_11 wm_28_12 wm_0_2 wm_28_13
theorem gcV_X7_open {big : List Cond} (hb : ∀ w ∈ wsL_law, w ∈ big) {own : String} {idx : Nat} (h1 : Cond.methodLink own idx yX7_open ∈ wsL_law) : GoodIn big (wsV own idx RX7 yX7_open aX7_open) := gAV hb h1 wm_7_21 wm_7_22 wm_0_2 wm_7_23
theorem gcV_X7_pass {big : List Cond} (hb : ∀ w ∈ wsL_law, w ∈ big) {own : String} {idx : Nat} (h1 : Cond.methodLink own idx yX7_pass ∈ wsL_law) : GoodIn big (wsV own idx RX7 yX7_pass aX7_pass) := gAV hb h1 wm_21_5 wm_21_6 wm_0_2 wm_21_7
theorem gcV_X7_pay {big : List Cond} (hb : ∀ w ∈ wsL_law, w ∈ big) {own : String} {idx : Nat} (h1 : Cond.methodLink own idx yX7_pay ∈ wsL_law) : GoodIn big (wsV own idx RX7 yX7_pay aX7_pay) := gAV hb h1 wm_14_8 wm_14_9 wm_0_2 wm_14_10
theorem gcV_X7_payableOn {big : List Cond} (hb : ∀ w ∈ wsL_law, w ∈ big) {own : String} {idx : Nat} (h1 : Cond.methodLink own idx yX7_payableOn ∈ wsL_law) : GoodIn big (wsV own idx RX7 yX7_payableOn aX7_payableOn) := gAV hb h1 wm_32_13 wm_32_14 wm_0_2 wm_32_15
theorem gcV_X7_ranked {big : List Cond} (hb : ∀ w ∈ wsL_law, w ∈ big) {own : String} {idx : Nat} (h1 : Cond.methodLink own idx yX7_ranked ∈ wsL_law) : GoodIn big (wsV own idx RX7 yX7_ranked aX7_ranked) := gAV hb h1 wm_26_22 wm_26_23 wm_0_2 wm_27_0
theorem gcV_X7_receive {big : List Cond} (hb : ∀ w ∈ wsL_law, w ∈ big) {own : String} {idx : Nat} (h1 : Cond.methodLink own idx yX7_receive ∈ wsL_law) : GoodIn big (wsV own idx RX7 yX7_receive aX7_receive) := gAV hb h1 wm_11_6 wm_11_7 wm_0_2 wm_11_8
theorem gcV_X7_release {big : List Cond} (hb : ∀ w ∈ wsL_law, w ∈ big) {own : String} {idx : Nat} (h1 : Cond.methodLink own idx yX7_release ∈ wsL_law) : GoodIn big (wsV own idx RX7 yX7_release aX7_release) := gAV hb h1 wm_17_22 wm_17_23 wm_0_2 wm_18_0
theorem gcV_X7_reverse {big : List Cond} (hb : ∀ w ∈ wsL_law, w ∈ big) {own : String} {idx : Nat} (h1 : Cond.methodLink own idx yX7_reverse ∈ wsL_law) : GoodIn big (wsV own idx RX7 yX7_reverse aX7_reverse) := gAV hb h1 wm_24_5 wm_24_6 wm_0_2 wm_24_7
theorem gcV_X7_setRates {big : List Cond} (hb : ∀ w ∈ wsL_law, w ∈ big) {own : String} {idx : Nat} (h1 : Cond.methodLink own idx yX7_setRates ∈ wsL_law) : GoodIn big (wsV own idx RX7 yX7_setRates aX7_setRates) := gAV hb h1 wm_4_17 wm_4_18 wm_0_2 wm_4_19
theorem gcV_X7_setThreshold {big : List Cond} (hb : ∀ w ∈ wsL_law, w ∈ big) {own : String} {idx : Nat} (h1 : Cond.methodLink own idx yX7_setThreshold ∈ wsL_law) : GoodIn big (wsV own idx RX7 yX7_setThreshold aX7_setThreshold) := gAV hb h1 wm_7_9 wm_7_10 wm_0_2 wm_7_11
theorem gcV_X7_settle {big : List Cond} (hb : ∀ w ∈ wsL_law, w ∈ big) {own : String} {idx : Nat} (h1 : Cond.methodLink own idx yX7_settle ∈ wsL_law) : GoodIn big (wsV own idx RX7 yX7_settle aX7_settle) := gAV hb h1 wm_20_3 wm_20_4 wm_0_2 wm_20_5
theorem gcV_X7_sum {big : List Cond} (hb : ∀ w ∈ wsL_law, w ∈ big) {own : String} {idx : Nat} (h1 : Cond.methodLink own idx yX7_sum ∈ wsL_law) : GoodIn big (wsV own idx RX7 yX7_sum aX7_sum) := gAV hb h1 wm_31_10 wm_31_11 wm_0_2 wm_31_12
theorem gcV_X7_syntaxError {big : List Cond} (hb : ∀ w ∈ wsL_law, w ∈ big) {own : String} {idx : Nat} (h1 : Cond.methodLink own idx yX7_syntaxError ∈ wsL_law) : GoodIn big (wsV own idx RX7 yX7_syntaxError aX7_syntaxError) := gAV hb h1 wm_34_20 wm_34_21 wm_0_2 wm_34_22
theorem gcV_X7_transfer {big : List Cond} (hb : ∀ w ∈ wsL_law, w ∈ big) {own : String} {idx : Nat} (h1 : Cond.methodLink own idx yX7_transfer ∈ wsL_law) : GoodIn big (wsV own idx RX7 yX7_transfer aX7_transfer) := gAV hb h1 wm_16_5 wm_16_6 wm_0_2 wm_16_7
theorem gcV_X7_type {big : List Cond} (hb : ∀ w ∈ wsL_law, w ∈ big) {own : String} {idx : Nat} (h1 : Cond.methodLink own idx yX7_type ∈ wsL_law) : GoodIn big (wsV own idx RX7 yX7_type aX7_type) := gAV hb h1 wm_33_18 wm_33_19 wm_0_2 wm_33_20
theorem gcV_X7_undo {big : List Cond} (hb : ∀ w ∈ wsL_law, w ∈ big) {own : String} {idx : Nat} (h1 : Cond.methodLink own idx yX7_undo ∈ wsL_law) : GoodIn big (wsV own idx RX7 yX7_undo aX7_undo) := gAV hb h1 wm_41_23 wm_42_0 wm_0_2 wm_42_1
theorem gcV_X8_adds {big : List Cond} (hb : ∀ w ∈ wsL_law, w ∈ big) {own : String} {idx : Nat} (h1 : Cond.methodLink own idx yX8_adds ∈ wsL_law) : GoodIn big (wsV own idx RX8 yX8_adds aX8_adds) := gAV hb h1 wm_13_18 wm_13_19 wm_0_5 wm_13_20
theorem gcV_X8_bill {big : List Cond} (hb : ∀ w ∈ wsL_law, w ∈ big) {own : String} {idx : Nat} (h1 : Cond.methodLink own idx yX8_bill ∈ wsL_law) : GoodIn big (wsV own idx RX8 yX8_bill aX8_bill) := gAV hb h1 wm_19_15 wm_19_16 wm_0_5 wm_19_17
theorem gcV_X8_billOf {big : List Cond} (hb : ∀ w ∈ wsL_law, w ∈ big) {own : String} {idx : Nat} (h1 : Cond.methodLink own idx yX8_billOf ∈ wsL_law) : GoodIn big (wsV own idx RX8 yX8_billOf aX8_billOf) := gAV hb h1 wm_30_10 wm_30_11 wm_0_5 wm_30_12
theorem gcV_X8_billPart {big : List Cond} (hb : ∀ w ∈ wsL_law, w ∈ big) {own : String} {idx : Nat} (h1 : Cond.methodLink own idx yX8_billPart ∈ wsL_law) : GoodIn big (wsV own idx RX8 yX8_billPart aX8_billPart) := gAV hb h1 wm_11_2 wm_11_3 wm_0_5 wm_11_4
theorem gcV_X8_bills {big : List Cond} (hb : ∀ w ∈ wsL_law, w ∈ big) {own : String} {idx : Nat} (h1 : Cond.methodLink own idx yX8_bills ∈ wsL_law) : GoodIn big (wsV own idx RX8 yX8_bills aX8_bills) := gAV hb h1 wm_19_23 wm_20_0 wm_0_5 wm_20_1
theorem gcV_X8_billsOf {big : List Cond} (hb : ∀ w ∈ wsL_law, w ∈ big) {own : String} {idx : Nat} (h1 : Cond.methodLink own idx yX8_billsOf ∈ wsL_law) : GoodIn big (wsV own idx RX8 yX8_billsOf aX8_billsOf) := gAV hb h1 wm_10_22 wm_10_23 wm_0_5 wm_11_0
theorem gcV_X8_carryOut {big : List Cond} (hb : ∀ w ∈ wsL_law, w ∈ big) {own : String} {idx : Nat} (h1 : Cond.methodLink own idx yX8_carryOut ∈ wsL_law) : GoodIn big (wsV own idx RX8 yX8_carryOut aX8_carryOut) := gAV hb h1 wm_41_11 wm_41_12 wm_0_5 wm_41_13
theorem gcV_X8_character {big : List Cond} (hb : ∀ w ∈ wsL_law, w ∈ big) {own : String} {idx : Nat} (h1 : Cond.methodLink own idx yX8_character ∈ wsL_law) : GoodIn big (wsV own idx RX8 yX8_character aX8_character) := gAV hb h1 wm_39_22 wm_39_23 wm_0_5 wm_40_0
theorem gcV_X8_clearText {big : List Cond} (hb : ∀ w ∈ wsL_law, w ∈ big) {own : String} {idx : Nat} (h1 : Cond.methodLink own idx yX8_clearText ∈ wsL_law) : GoodIn big (wsV own idx RX8 yX8_clearText aX8_clearText) := gAV hb h1 wm_34_16 wm_34_17 wm_0_5 wm_34_18
theorem gcV_X8_clients {big : List Cond} (hb : ∀ w ∈ wsL_law, w ∈ big) {own : String} {idx : Nat} (h1 : Cond.methodLink own idx yX8_clients ∈ wsL_law) : GoodIn big (wsV own idx RX8 yX8_clients aX8_clients) := gAV hb h1 wm_26_18 wm_26_19 wm_0_5 wm_26_20
theorem gcV_X8_close {big : List Cond} (hb : ∀ w ∈ wsL_law, w ∈ big) {own : String} {idx : Nat} (h1 : Cond.methodLink own idx yX8_close ∈ wsL_law) : GoodIn big (wsV own idx RX8 yX8_close aX8_close) := gAV hb h1 wm_10_18 wm_10_19 wm_0_5 wm_10_20
theorem gcV_X8_day {big : List Cond} (hb : ∀ w ∈ wsL_law, w ∈ big) {own : String} {idx : Nat} (h1 : Cond.methodLink own idx yX8_day ∈ wsL_law) : GoodIn big (wsV own idx RX8 yX8_day aX8_day) := gAV hb h1 wm_26_8 wm_26_9 wm_0_5 wm_26_10
theorem gcV_X8_dayEnds {big : List Cond} (hb : ∀ w ∈ wsL_law, w ∈ big) {own : String} {idx : Nat} (h1 : Cond.methodLink own idx yX8_dayEnds ∈ wsL_law) : GoodIn big (wsV own idx RX8 yX8_dayEnds aX8_dayEnds) := gAV hb h1 wm_24_0 wm_24_1 wm_0_5 wm_24_2
theorem gcV_X8_digest {big : List Cond} (hb : ∀ w ∈ wsL_law, w ∈ big) {own : String} {idx : Nat} (h1 : Cond.methodLink own idx yX8_digest ∈ wsL_law) : GoodIn big (wsV own idx RX8 yX8_digest aX8_digest) := gAV hb h1 wm_43_12 wm_43_13 wm_0_5 wm_43_14
theorem gcV_X8_does {big : List Cond} (hb : ∀ w ∈ wsL_law, w ∈ big) {own : String} {idx : Nat} (h1 : Cond.methodLink own idx yX8_does ∈ wsL_law) : GoodIn big (wsV own idx RX8 yX8_does aX8_does) := gAV hb h1 wm_41_19 wm_41_20 wm_0_5 wm_41_21
theorem gcV_X8_endsHold {big : List Cond} (hb : ∀ w ∈ wsL_law, w ∈ big) {own : String} {idx : Nat} (h1 : Cond.methodLink own idx yX8_endsHold ∈ wsL_law) : GoodIn big (wsV own idx RX8 yX8_endsHold aX8_endsHold) := gAV hb h1 wm_18_23 wm_19_0 wm_0_5 wm_19_1
theorem gcV_X8_enters {big : List Cond} (hb : ∀ w ∈ wsL_law, w ∈ big) {own : String} {idx : Nat} (h1 : Cond.methodLink own idx yX8_enters ∈ wsL_law) : GoodIn big (wsV own idx RX8 yX8_enters aX8_enters) := gAV hb h1 wm_13_22 wm_13_23 wm_0_5 wm_14_0
theorem gcV_X8_entries {big : List Cond} (hb : ∀ w ∈ wsL_law, w ∈ big) {own : String} {idx : Nat} (h1 : Cond.methodLink own idx yX8_entries ∈ wsL_law) : GoodIn big (wsV own idx RX8 yX8_entries aX8_entries) := gAV hb h1 wm_30_20 wm_30_21 wm_0_5 wm_30_22
theorem gcV_X8_entry {big : List Cond} (hb : ∀ w ∈ wsL_law, w ∈ big) {own : String} {idx : Nat} (h1 : Cond.methodLink own idx yX8_entry ∈ wsL_law) : GoodIn big (wsV own idx RX8 yX8_entry aX8_entry) := gAV hb h1 wm_31_6 wm_31_7 wm_0_5 wm_31_8
theorem gcV_X8_entryPart {big : List Cond} (hb : ∀ w ∈ wsL_law, w ∈ big) {own : String} {idx : Nat} (h1 : Cond.methodLink own idx yX8_entryPart ∈ wsL_law) : GoodIn big (wsV own idx RX8 yX8_entryPart aX8_entryPart) := gAV hb h1 wm_25_19 wm_25_20 wm_0_5 wm_25_21
theorem gcV_X8_find {big : List Cond} (hb : ∀ w ∈ wsL_law, w ∈ big) {own : String} {idx : Nat} (h1 : Cond.methodLink own idx yX8_find ∈ wsL_law) : GoodIn big (wsV own idx RX8 yX8_find aX8_find) := gAV hb h1 wm_9_6 wm_9_7 wm_0_5 wm_9_8
theorem gcV_X8_findBill {big : List Cond} (hb : ∀ w ∈ wsL_law, w ∈ big) {own : String} {idx : Nat} (h1 : Cond.methodLink own idx yX8_findBill ∈ wsL_law) : GoodIn big (wsV own idx RX8 yX8_findBill aX8_findBill) := gAV hb h1 wm_20_21 wm_20_22 wm_0_5 wm_20_23
theorem gcV_X8_findError {big : List Cond} (hb : ∀ w ∈ wsL_law, w ∈ big) {own : String} {idx : Nat} (h1 : Cond.methodLink own idx yX8_findError ∈ wsL_law) : GoodIn big (wsV own idx RX8 yX8_findError aX8_findError) := gAV hb h1 wm_39_8 wm_39_9 wm_0_5 wm_39_10
theorem gcV_X8_findHold {big : List Cond} (hb : ∀ w ∈ wsL_law, w ∈ big) {own : String} {idx : Nat} (h1 : Cond.methodLink own idx yX8_findHold ∈ wsL_law) : GoodIn big (wsV own idx RX8 yX8_findHold aX8_findHold) := gAV hb h1 wm_18_19 wm_18_20 wm_0_5 wm_18_21
theorem gcV_X8_findRanks {big : List Cond} (hb : ∀ w ∈ wsL_law, w ∈ big) {own : String} {idx : Nat} (h1 : Cond.methodLink own idx yX8_findRanks ∈ wsL_law) : GoodIn big (wsV own idx RX8 yX8_findRanks aX8_findRanks) := gAV hb h1 wm_28_3 wm_28_4 wm_0_5 wm_28_5
theorem gcV_X8_free {big : List Cond} (hb : ∀ w ∈ wsL_law, w ∈ big) {own : String} {idx : Nat} (h1 : Cond.methodLink own idx yX8_free ∈ wsL_law) : GoodIn big (wsV own idx RX8 yX8_free aX8_free) := gAV hb h1 wm_15_9 wm_15_10 wm_0_5 wm_15_11
theorem gcV_X8_giver {big : List Cond} (hb : ∀ w ∈ wsL_law, w ∈ big) {own : String} {idx : Nat} (h1 : Cond.methodLink own idx yX8_giver ∈ wsL_law) : GoodIn big (wsV own idx RX8 yX8_giver aX8_giver) := gAV hb h1 wm_25_15 wm_25_16 wm_0_5 wm_25_17
theorem gcV_X8_hasRoom {big : List Cond} (hb : ∀ w ∈ wsL_law, w ∈ big) {own : String} {idx : Nat} (h1 : Cond.methodLink own idx yX8_hasRoom ∈ wsL_law) : GoodIn big (wsV own idx RX8 yX8_hasRoom aX8_hasRoom) := gAV hb h1 wm_13_10 wm_13_11 wm_0_5 wm_13_12
theorem gcV_X8_held {big : List Cond} (hb : ∀ w ∈ wsL_law, w ∈ big) {own : String} {idx : Nat} (h1 : Cond.methodLink own idx yX8_held ∈ wsL_law) : GoodIn big (wsV own idx RX8 yX8_held aX8_held) := gAV hb h1 wm_15_13 wm_15_14 wm_0_5 wm_15_15
theorem gcV_X8_heldOn {big : List Cond} (hb : ∀ w ∈ wsL_law, w ∈ big) {own : String} {idx : Nat} (h1 : Cond.methodLink own idx yX8_heldOn ∈ wsL_law) : GoodIn big (wsV own idx RX8 yX8_heldOn aX8_heldOn) := gAV hb h1 wm_15_17 wm_15_18 wm_0_5 wm_15_19
theorem gcV_X8_hold {big : List Cond} (hb : ∀ w ∈ wsL_law, w ∈ big) {own : String} {idx : Nat} (h1 : Cond.methodLink own idx yX8_hold ∈ wsL_law) : GoodIn big (wsV own idx RX8 yX8_hold aX8_hold) := gAV hb h1 wm_17_18 wm_17_19 wm_0_5 wm_17_20
theorem gcV_X8_holdOf {big : List Cond} (hb : ∀ w ∈ wsL_law, w ∈ big) {own : String} {idx : Nat} (h1 : Cond.methodLink own idx yX8_holdOf ∈ wsL_law) : GoodIn big (wsV own idx RX8 yX8_holdOf aX8_holdOf) := gAV hb h1 wm_30_1 wm_30_2 wm_0_5 wm_30_3
theorem gcV_X8_holdPart {big : List Cond} (hb : ∀ w ∈ wsL_law, w ∈ big) {own : String} {idx : Nat} (h1 : Cond.methodLink own idx yX8_holdPart ∈ wsL_law) : GoodIn big (wsV own idx RX8 yX8_holdPart aX8_holdPart) := gAV hb h1 wm_15_21 wm_15_22 wm_0_5 wm_15_23
theorem gcV_X8_holdsOf {big : List Cond} (hb : ∀ w ∈ wsL_law, w ∈ big) {own : String} {idx : Nat} (h1 : Cond.methodLink own idx yX8_holdsOf ∈ wsL_law) : GoodIn big (wsV own idx RX8 yX8_holdsOf aX8_holdsOf) := gAV hb h1 wm_29_11 wm_29_12 wm_0_5 wm_29_13
theorem gcV_X8_interestIn {big : List Cond} (hb : ∀ w ∈ wsL_law, w ∈ big) {own : String} {idx : Nat} (h1 : Cond.methodLink own idx yX8_interestIn ∈ wsL_law) : GoodIn big (wsV own idx RX8 yX8_interestIn aX8_interestIn) := gAV hb h1 wm_33_14 wm_33_15 wm_0_5 wm_33_16
theorem gcV_X8_isEntry {big : List Cond} (hb : ∀ w ∈ wsL_law, w ∈ big) {own : String} {idx : Nat} (h1 : Cond.methodLink own idx yX8_isEntry ∈ wsL_law) : GoodIn big (wsV own idx RX8 yX8_isEntry aX8_isEntry) := gAV hb h1 wm_25_11 wm_25_12 wm_0_5 wm_25_13
theorem gcV_X8_isNext {big : List Cond} (hb : ∀ w ∈ wsL_law, w ∈ big) {own : String} {idx : Nat} (h1 : Cond.methodLink own idx yX8_isNext ∈ wsL_law) : GoodIn big (wsV own idx RX8 yX8_isNext aX8_isNext) := gAV hb h1 wm_40_6 wm_40_7 wm_0_5 wm_40_8
theorem gcV_X8_of {big : List Cond} (hb : ∀ w ∈ wsL_law, w ∈ big) {own : String} {idx : Nat} (h1 : Cond.methodLink own idx yX8_of ∈ wsL_law) : GoodIn big (wsV own idx RX8 yX8_of aX8_of) := gAV hb h1 wm_28_22 wm_28_23 wm_0_5 wm_29_0
theorem gcV_X8_ofClient {big : List Cond} (hb : ∀ w ∈ wsL_law, w ∈ big) {own : String} {idx : Nat} (h1 : Cond.methodLink own idx yX8_ofClient ∈ wsL_law) : GoodIn big (wsV own idx RX8 yX8_ofClient aX8_ofClient) := gAV hb h1 wm_29_2 wm_29_3 wm_0_5 wm_29_4
theorem gcV_X8_open {big : List Cond} (hb : ∀ w ∈ wsL_law, w ∈ big) {own : String} {idx : Nat} (h1 : Cond.methodLink own idx yX8_open ∈ wsL_law) : GoodIn big (wsV own idx RX8 yX8_open aX8_open) := gAV hb h1 wm_9_2 wm_9_3 wm_0_5 wm_9_4
theorem gcV_X8_part {big : List Cond} (hb : ∀ w ∈ wsL_law, w ∈ big) {own : String} {idx : Nat} (h1 : Cond.methodLink own idx yX8_part ∈ wsL_law) : GoodIn big (wsV own idx RX8 yX8_part aX8_part) := gAV hb h1 wm_9_10 wm_9_11 wm_0_5 wm_9_12
theorem gcV_X8_pass {big : List Cond} (hb : ∀ w ∈ wsL_law, w ∈ big) {own : String} {idx : Nat} (h1 : Cond.methodLink own idx yX8_pass ∈ wsL_law) : GoodIn big (wsV own idx RX8 yX8_pass aX8_pass) := gAV hb h1 wm_23_2 wm_23_3 wm_0_5 wm_23_4
theorem gcV_X8_passes {big : List Cond} (hb : ∀ w ∈ wsL_law, w ∈ big) {own : String} {idx : Nat} (h1 : Cond.methodLink own idx yX8_passes ∈ wsL_law) : GoodIn big (wsV own idx RX8 yX8_passes aX8_passes) := gAV hb h1 wm_23_10 wm_23_11 wm_0_5 wm_23_12
theorem gcV_X8_passesDay {big : List Cond} (hb : ∀ w ∈ wsL_law, w ∈ big) {own : String} {idx : Nat} (h1 : Cond.methodLink own idx yX8_passesDay ∈ wsL_law) : GoodIn big (wsV own idx RX8 yX8_passesDay aX8_passesDay) := gAV hb h1 wm_23_14 wm_23_15 wm_0_5 wm_23_16
theorem gcV_X8_pay {big : List Cond} (hb : ∀ w ∈ wsL_law, w ∈ big) {own : String} {idx : Nat} (h1 : Cond.methodLink own idx yX8_pay ∈ wsL_law) : GoodIn big (wsV own idx RX8 yX8_pay aX8_pay) := gAV hb h1 wm_15_1 wm_15_2 wm_0_5 wm_15_3
theorem gcV_X8_payableOn {big : List Cond} (hb : ∀ w ∈ wsL_law, w ∈ big) {own : String} {idx : Nat} (h1 : Cond.methodLink own idx yX8_payableOn ∈ wsL_law) : GoodIn big (wsV own idx RX8 yX8_payableOn aX8_payableOn) := gAV hb h1 wm_33_2 wm_33_3 wm_0_5 wm_33_4
theorem gcV_X8_pays {big : List Cond} (hb : ∀ w ∈ wsL_law, w ∈ big) {own : String} {idx : Nat} (h1 : Cond.methodLink own idx yX8_pays ∈ wsL_law) : GoodIn big (wsV own idx RX8 yX8_pays aX8_pays) := gAV hb h1 wm_16_1 wm_16_2 wm_0_5 wm_16_3
theorem gcV_X8_ranked {big : List Cond} (hb : ∀ w ∈ wsL_law, w ∈ big) {own : String} {idx : Nat} (h1 : Cond.methodLink own idx yX8_ranked ∈ wsL_law) : GoodIn big (wsV own idx RX8 yX8_ranked aX8_ranked) := gAV hb h1 wm_27_23 wm_28_0 wm_0_5 wm_28_1
theorem gcV_X8_readsNumber {big : List Cond} (hb : ∀ w ∈ wsL_law, w ∈ big) {own : String} {idx : Nat} (h1 : Cond.methodLink own idx yX8_readsNumber ∈ wsL_law) : GoodIn big (wsV own idx RX8 yX8_readsNumber aX8_readsNumber) := gAV hb h1 wm_40_2 wm_40_3 wm_0_5 wm_40_4
theorem gcV_X8_readsOrder {big : List Cond} (hb : ∀ w ∈ wsL_law, w ∈ big) {own : String} {idx : Nat} (h1 : Cond.methodLink own idx yX8_readsOrder ∈ wsL_law) : GoodIn big (wsV own idx RX8 yX8_readsOrder aX8_readsOrder) := gAV hb h1 wm_39_13 wm_39_14 wm_0_5 wm_39_15
theorem gcV_X8_receive {big : List Cond} (hb : ∀ w ∈ wsL_law, w ∈ big) {own : String} {idx : Nat} (h1 : Cond.methodLink own idx yX8_receive ∈ wsL_law) : GoodIn big (wsV own idx RX8 yX8_receive aX8_receive) := gAV hb h1 wm_12_22 wm_12_23 wm_0_5 wm_13_0
theorem gcV_X8_receives {big : List Cond} (hb : ∀ w ∈ wsL_law, w ∈ big) {own : String} {idx : Nat} (h1 : Cond.methodLink own idx yX8_receives ∈ wsL_law) : GoodIn big (wsV own idx RX8 yX8_receives aX8_receives) := gAV hb h1 wm_13_14 wm_13_15 wm_0_5 wm_13_16
theorem gcV_X8_record {big : List Cond} (hb : ∀ w ∈ wsL_law, w ∈ big) {own : String} {idx : Nat} (h1 : Cond.methodLink own idx yX8_record ∈ wsL_law) : GoodIn big (wsV own idx RX8 yX8_record aX8_record) := gAV hb h1 wm_7_4 wm_7_5 wm_0_5 wm_7_6
theorem gcV_X8_release {big : List Cond} (hb : ∀ w ∈ wsL_law, w ∈ big) {own : String} {idx : Nat} (h1 : Cond.methodLink own idx yX8_release ∈ wsL_law) : GoodIn big (wsV own idx RX8 yX8_release aX8_release) := gAV hb h1 wm_18_15 wm_18_16 wm_0_5 wm_18_17
theorem gcV_X8_restOf {big : List Cond} (hb : ∀ w ∈ wsL_law, w ∈ big) {own : String} {idx : Nat} (h1 : Cond.methodLink own idx yX8_restOf ∈ wsL_law) : GoodIn big (wsV own idx RX8 yX8_restOf aX8_restOf) := gAV hb h1 wm_29_7 wm_29_8 wm_0_5 wm_29_9
theorem gcV_X8_reverse {big : List Cond} (hb : ∀ w ∈ wsL_law, w ∈ big) {own : String} {idx : Nat} (h1 : Cond.methodLink own idx yX8_reverse ∈ wsL_law) : GoodIn big (wsV own idx RX8 yX8_reverse aX8_reverse) := gAV hb h1 wm_25_3 wm_25_4 wm_0_5 wm_25_5
theorem gcV_X8_setPart {big : List Cond} (hb : ∀ w ∈ wsL_law, w ∈ big) {own : String} {idx : Nat} (h1 : Cond.methodLink own idx yX8_setPart ∈ wsL_law) : GoodIn big (wsV own idx RX8 yX8_setPart aX8_setPart) := gAV hb h1 wm_9_14 wm_9_15 wm_0_5 wm_9_16
theorem gcV_X8_setRates {big : List Cond} (hb : ∀ w ∈ wsL_law, w ∈ big) {own : String} {idx : Nat} (h1 : Cond.methodLink own idx yX8_setRates ∈ wsL_law) : GoodIn big (wsV own idx RX8 yX8_setRates aX8_setRates) := gAV hb h1 wm_6_20 wm_6_21 wm_0_5 wm_6_22
theorem gcV_X8_setThreshold {big : List Cond} (hb : ∀ w ∈ wsL_law, w ∈ big) {own : String} {idx : Nat} (h1 : Cond.methodLink own idx yX8_setThreshold ∈ wsL_law) : GoodIn big (wsV own idx RX8 yX8_setThreshold aX8_setThreshold) := gAV hb h1 wm_7_17 wm_7_18 wm_0_5 wm_7_19
theorem gcV_X8_settle {big : List Cond} (hb : ∀ w ∈ wsL_law, w ∈ big) {own : String} {idx : Nat} (h1 : Cond.methodLink own idx yX8_settle ∈ wsL_law) : GoodIn big (wsV own idx RX8 yX8_settle aX8_settle) := gAV hb h1 wm_20_13 wm_20_14 wm_0_5 wm_20_15
theorem gcV_X8_settles {big : List Cond} (hb : ∀ w ∈ wsL_law, w ∈ big) {own : String} {idx : Nat} (h1 : Cond.methodLink own idx yX8_settles ∈ wsL_law) : GoodIn big (wsV own idx RX8 yX8_settles aX8_settles) := gAV hb h1 wm_21_1 wm_21_2 wm_0_5 wm_21_3
theorem gcV_X8_staysAhead {big : List Cond} (hb : ∀ w ∈ wsL_law, w ∈ big) {own : String} {idx : Nat} (h1 : Cond.methodLink own idx yX8_staysAhead ∈ wsL_law) : GoodIn big (wsV own idx RX8 yX8_staysAhead aX8_staysAhead) := gAV hb h1 wm_28_7 wm_28_8 wm_0_5 wm_28_9
theorem gcV_X8_sum {big : List Cond} (hb : ∀ w ∈ wsL_law, w ∈ big) {own : String} {idx : Nat} (h1 : Cond.methodLink own idx yX8_sum ∈ wsL_law) : GoodIn big (wsV own idx RX8 yX8_sum aX8_sum) := gAV hb h1 wm_32_4 wm_32_5 wm_0_5 wm_32_6
theorem gcV_X8_sumOf {big : List Cond} (hb : ∀ w ∈ wsL_law, w ∈ big) {own : String} {idx : Nat} (h1 : Cond.methodLink own idx yX8_sumOf ∈ wsL_law) : GoodIn big (wsV own idx RX8 yX8_sumOf aX8_sumOf) := gAV hb h1 wm_32_9 wm_32_10 wm_0_5 wm_32_11
theorem gcV_X8_syntaxError {big : List Cond} (hb : ∀ w ∈ wsL_law, w ∈ big) {own : String} {idx : Nat} (h1 : Cond.methodLink own idx yX8_syntaxError ∈ wsL_law) : GoodIn big (wsV own idx RX8 yX8_syntaxError aX8_syntaxError) := gAV hb h1 wm_39_4 wm_39_5 wm_0_5 wm_39_6
theorem gcV_X8_taker {big : List Cond} (hb : ∀ w ∈ wsL_law, w ∈ big) {own : String} {idx : Nat} (h1 : Cond.methodLink own idx yX8_taker ∈ wsL_law) : GoodIn big (wsV own idx RX8 yX8_taker aX8_taker) := gAV hb h1 wm_25_23 wm_26_0 wm_0_5 wm_26_1
theorem gcV_X8_takesOut {big : List Cond} (hb : ∀ w ∈ wsL_law, w ∈ big) {own : String} {idx : Nat} (h1 : Cond.methodLink own idx yX8_takesOut ∈ wsL_law) : GoodIn big (wsV own idx RX8 yX8_takesOut aX8_takesOut) := gAV hb h1 wm_19_3 wm_19_4 wm_0_5 wm_19_5
theorem gcV_X8_thinks {big : List Cond} (hb : ∀ w ∈ wsL_law, w ∈ big) {own : String} {idx : Nat} (h1 : Cond.methodLink own idx yX8_thinks ∈ wsL_law) : GoodIn big (wsV own idx RX8 yX8_thinks aX8_thinks) := gAV hb h1 wm_23_20 wm_23_21 wm_0_5 wm_23_22
theorem gcV_X8_transfer {big : List Cond} (hb : ∀ w ∈ wsL_law, w ∈ big) {own : String} {idx : Nat} (h1 : Cond.methodLink own idx yX8_transfer ∈ wsL_law) : GoodIn big (wsV own idx RX8 yX8_transfer aX8_transfer) := gAV hb h1 wm_16_13 wm_16_14 wm_0_5 wm_16_15
theorem gcV_X8_transfers {big : List Cond} (hb : ∀ w ∈ wsL_law, w ∈ big) {own : String} {idx : Nat} (h1 : Cond.methodLink own idx yX8_transfers ∈ wsL_law) : GoodIn big (wsV own idx RX8 yX8_transfers aX8_transfers) := gAV hb h1 wm_16_21 wm_16_22 wm_0_5 wm_16_23
theorem gcV_X8_type {big : List Cond} (hb : ∀ w ∈ wsL_law, w ∈ big) {own : String} {idx : Nat} (h1 : Cond.methodLink own idx yX8_type ∈ wsL_law) : GoodIn big (wsV own idx RX8 yX8_type aX8_type) := gAV hb h1 wm_34_3 wm_34_4 wm_0_5 wm_34_5
theorem gcV_X8_undo {big : List Cond} (hb : ∀ w ∈ wsL_law, w ∈ big) {own : String} {idx : Nat} (h1 : Cond.methodLink own idx yX8_undo ∈ wsL_law) : GoodIn big (wsV own idx RX8 yX8_undo aX8_undo) := gAV hb h1 wm_42_8 wm_42_9 wm_0_5 wm_42_10
theorem gcV_X8_whyNotBilled {big : List Cond} (hb : ∀ w ∈ wsL_law, w ∈ big) {own : String} {idx : Nat} (h1 : Cond.methodLink own idx yX8_whyNotBilled ∈ wsL_law) : GoodIn big (wsV own idx RX8 yX8_whyNotBilled aX8_whyNotBilled) := gAV hb h1 wm_19_19 wm_19_20 wm_0_5 wm_19_21
theorem gcV_X8_whyNotDone {big : List Cond} (hb : ∀ w ∈ wsL_law, w ∈ big) {own : String} {idx : Nat} (h1 : Cond.methodLink own idx yX8_whyNotDone ∈ wsL_law) : GoodIn big (wsV own idx RX8 yX8_whyNotDone aX8_whyNotDone) := gAV hb h1 wm_41_15 wm_41_16 wm_0_5 wm_41_17
theorem gcV_X8_whyNotMoved {big : List Cond} (hb : ∀ w ∈ wsL_law, w ∈ big) {own : String} {idx : Nat} (h1 : Cond.methodLink own idx yX8_whyNotMoved ∈ wsL_law) : GoodIn big (wsV own idx RX8 yX8_whyNotMoved aX8_whyNotMoved) := gAV hb h1 wm_16_17 wm_16_18 wm_0_5 wm_16_19
theorem gcV_X8_whyNotPaid {big : List Cond} (hb : ∀ w ∈ wsL_law, w ∈ big) {own : String} {idx : Nat} (h1 : Cond.methodLink own idx yX8_whyNotPaid ∈ wsL_law) : GoodIn big (wsV own idx RX8 yX8_whyNotPaid aX8_whyNotPaid) := gAV hb h1 wm_15_5 wm_15_6 wm_0_5 wm_15_7
theorem gcV_X8_whyNotPassed {big : List Cond} (hb : ∀ w ∈ wsL_law, w ∈ big) {own : String} {idx : Nat} (h1 : Cond.methodLink own idx yX8_whyNotPassed ∈ wsL_law) : GoodIn big (wsV own idx RX8 yX8_whyNotPassed aX8_whyNotPassed) := gAV hb h1 wm_23_6 wm_23_7 wm_0_5 wm_23_8
theorem gcV_X8_whyNotReceived {big : List Cond} (hb : ∀ w ∈ wsL_law, w ∈ big) {own : String} {idx : Nat} (h1 : Cond.methodLink own idx yX8_whyNotReceived ∈ wsL_law) : GoodIn big (wsV own idx RX8 yX8_whyNotReceived aX8_whyNotReceived) := gAV hb h1 wm_13_2 wm_13_3 wm_0_5 wm_13_4
theorem gcV_X8_whyNotReversed {big : List Cond} (hb : ∀ w ∈ wsL_law, w ∈ big) {own : String} {idx : Nat} (h1 : Cond.methodLink own idx yX8_whyNotReversed ∈ wsL_law) : GoodIn big (wsV own idx RX8 yX8_whyNotReversed aX8_whyNotReversed) := gAV hb h1 wm_25_7 wm_25_8 wm_0_5 wm_25_9
theorem gcV_X8_whyNotSettled {big : List Cond} (hb : ∀ w ∈ wsL_law, w ∈ big) {own : String} {idx : Nat} (h1 : Cond.methodLink own idx yX8_whyNotSettled ∈ wsL_law) : GoodIn big (wsV own idx RX8 yX8_whyNotSettled aX8_whyNotSettled) := gAV hb h1 wm_20_17 wm_20_18 wm_0_5 wm_20_19
