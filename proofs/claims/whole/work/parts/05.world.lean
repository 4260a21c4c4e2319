theorem inR_law : ∀ w ∈ wsL_law0, w ∈ wsL_law := fun _ h => List.mem_append_left _ (List.mem_append_left _ h)
theorem inR_1 : ∀ w ∈ wsL_law0_r1, w ∈ wsL_law := fun _ h => inR_law _ (List.mem_append_left _ (List.mem_append_left _ (List.mem_append_left _ (List.mem_append_left _ (List.mem_append_left _ (List.mem_append_left _ (List.mem_append_left _ (List.mem_append_left _ (List.mem_append_left _ (List.mem_append_left _ (List.mem_append_left _ (List.mem_append_left _ (List.mem_append_left _ (List.mem_append_left _ (List.mem_append_left _ h)))))))))))))))
theorem inR_2 : ∀ w ∈ wsL_law0_r2, w ∈ wsL_law := fun _ h => inR_law _ (List.mem_append_left _ (List.mem_append_left _ (List.mem_append_left _ (List.mem_append_left _ (List.mem_append_left _ (List.mem_append_left _ (List.mem_append_left _ (List.mem_append_left _ (List.mem_append_left _ (List.mem_append_left _ (List.mem_append_left _ (List.mem_append_left _ (List.mem_append_left _ (List.mem_append_left _ (List.mem_append_right _ (List.mem_append_left _ h))))))))))))))))
theorem inR_3 : ∀ w ∈ wsL_law0_r3, w ∈ wsL_law := fun _ h => inR_law _ (List.mem_append_left _ (List.mem_append_left _ (List.mem_append_left _ (List.mem_append_left _ (List.mem_append_left _ (List.mem_append_left _ (List.mem_append_left _ (List.mem_append_left _ (List.mem_append_left _ (List.mem_append_left _ (List.mem_append_left _ (List.mem_append_left _ (List.mem_append_left _ (List.mem_append_left _ (List.mem_append_right _ (List.mem_append_right _ (List.mem_append_left _ h)))))))))))))))))
theorem inR_4 : ∀ w ∈ wsL_law0_r4, w ∈ wsL_law := fun _ h => inR_law _ (List.mem_append_left _ (List.mem_append_left _ (List.mem_append_left _ (List.mem_append_left _ (List.mem_append_left _ (List.mem_append_left _ (List.mem_append_left _ (List.mem_append_left _ (List.mem_append_left _ (List.mem_append_left _ (List.mem_append_left _ (List.mem_append_left _ (List.mem_append_left _ (List.mem_append_left _ (List.mem_append_right _ (List.mem_append_right _ (List.mem_append_right _ (List.mem_append_left _ h))))))))))))))))))
theorem inR_5 : ∀ w ∈ wsL_law0_r5, w ∈ wsL_law := fun _ h => inR_law _ (List.mem_append_left _ (List.mem_append_left _ (List.mem_append_left _ (List.mem_append_left _ (List.mem_append_left _ (List.mem_append_left _ (List.mem_append_left _ (List.mem_append_left _ (List.mem_append_left _ (List.mem_append_left _ (List.mem_append_left _ (List.mem_append_left _ (List.mem_append_left _ (List.mem_append_left _ (List.mem_append_right _ (List.mem_append_right _ (List.mem_append_right _ (List.mem_append_right _ (List.mem_append_left _ h)))))))))))))))))))
theorem inR_6 : ∀ w ∈ wsL_law0_r6, w ∈ wsL_law := fun _ h => inR_law _ (List.mem_append_left _ (List.mem_append_left _ (List.mem_append_left _ (List.mem_append_left _ (List.mem_append_left _ (List.mem_append_left _ (List.mem_append_left _ (List.mem_append_left _ (List.mem_append_left _ (List.mem_append_left _ (List.mem_append_left _ (List.mem_append_left _ (List.mem_append_left _ (List.mem_append_left _ (List.mem_append_right _ (List.mem_append_right _ (List.mem_append_right _ (List.mem_append_right _ (List.mem_append_right _ (List.mem_append_left _ h))))))))))))))))))))
theorem inR_7 : ∀ w ∈ wsL_law0_r7, w ∈ wsL_law := fun _ h => inR_law _ (List.mem_append_left _ (List.mem_append_left _ (List.mem_append_left _ (List.mem_append_left _ (List.mem_append_left _ (List.mem_append_left _ (List.mem_append_left _ (List.mem_append_left _ (List.mem_append_left _ (List.mem_append_left _ (List.mem_append_left _ (List.mem_append_left _ (List.mem_append_left _ (List.mem_append_left _ (List.mem_append_right _ (List.mem_append_right _ (List.mem_append_right _ (List.mem_append_right _ (List.mem_append_right _ (List.mem_append_right _ (List.mem_append_left _ h)))))))))))))))))))))
theorem inR_8 : ∀ w ∈ wsL_law0_r8, w ∈ wsL_law := fun _ h => inR_law _ (List.mem_append_left _ (List.mem_append_left _ (List.mem_append_left _ (List.mem_append_left _ (List.mem_append_left _ (List.mem_append_left _ (List.mem_append_left _ (List.mem_append_left _ (List.mem_append_left _ (List.mem_append_left _ (List.mem_append_left _ (List.mem_append_left _ (List.mem_append_left _ (List.mem_append_left _ (List.mem_append_right _ (List.mem_append_right _ (List.mem_append_right _ (List.mem_append_right _ (List.mem_append_right _ (List.mem_append_right _ (List.mem_append_right _ (List.mem_append_left _ h))))))))))))))))))))))
theorem inR_9 : ∀ w ∈ wsL_law0_r9, w ∈ wsL_law := fun _ h => inR_law _ (List.mem_append_left _ (List.mem_append_left _ (List.mem_append_left _ (List.mem_append_left _ (List.mem_append_left _ (List.mem_append_left _ (List.mem_append_left _ (List.mem_append_left _ (List.mem_append_left _ (List.mem_append_left _ (List.mem_append_left _ (List.mem_append_left _ (List.mem_append_left _ (List.mem_append_left _ (List.mem_append_right _ (List.mem_append_right _ (List.mem_append_right _ (List.mem_append_right _ (List.mem_append_right _ (List.mem_append_right _ (List.mem_append_right _ (List.mem_append_right _ (List.mem_append_left _ h)))))))))))))))))))))))
theorem inR_10 : ∀ w ∈ wsL_law0_r10, w ∈ wsL_law := fun _ h => inR_law _ (List.mem_append_left _ (List.mem_append_left _ (List.mem_append_left _ (List.mem_append_left _ (List.mem_append_left _ (List.mem_append_left _ (List.mem_append_left _ (List.mem_append_left _ (List.mem_append_left _ (List.mem_append_left _ (List.mem_append_left _ (List.mem_append_left _ (List.mem_append_left _ (List.mem_append_left _ (List.mem_append_right _ (List.mem_append_right _ (List.mem_append_right _ (List.mem_append_right _ (List.mem_append_right _ (List.mem_append_right _ (List.mem_append_right _ (List.mem_append_right _ (List.mem_append_right _ (List.mem_append_left _ h))))))))))))))))))))))))
theorem inR_11 : ∀ w ∈ wsL_law0_r11, w ∈ wsL_law := fun _ h => inR_law _ (List.mem_append_left _ (List.mem_append_left _ (List.mem_append_left _ (List.mem_append_left _ (List.mem_append_left _ (List.mem_append_left _ (List.mem_append_left _ (List.mem_append_left _ (List.mem_append_left _ (List.mem_append_left _ (List.mem_append_left _ (List.mem_append_left _ (List.mem_append_left _ (List.mem_append_left _ (List.mem_append_right _ (List.mem_append_right _ (List.mem_append_right _ (List.mem_append_right _ (List.mem_append_right _ (List.mem_append_right _ (List.mem_append_right _ (List.mem_append_right _ (List.mem_append_right _ (List.mem_append_right _ (List.mem_append_left _ h)))))))))))))))))))))))))
theorem inR_12 : ∀ w ∈ wsL_law0_r12, w ∈ wsL_law := fun _ h => inR_law _ (List.mem_append_left _ (List.mem_append_left _ (List.mem_append_left _ (List.mem_append_left _ (List.mem_append_left _ (List.mem_append_left _ (List.mem_append_left _ (List.mem_append_left _ (List.mem_append_left _ (List.mem_append_left _ (List.mem_append_left _ (List.mem_append_left _ (List.mem_append_left _ (List.mem_append_left _ (List.mem_append_right _ (List.mem_append_right _ (List.mem_append_right _ (List.mem_append_right _ (List.mem_append_right _ (List.mem_append_right _ (List.mem_append_right _ (List.mem_append_right _ (List.mem_append_right _ (List.mem_append_right _ (List.mem_append_right _ (List.mem_append_left _ h))))))))))))))))))))))))))
theorem inR_13 : ∀ w ∈ wsL_law0_r13, w ∈ wsL_law := fun _ h => inR_law _ (List.mem_append_left _ (List.mem_append_left _ (List.mem_append_left _ (List.mem_append_left _ (List.mem_append_left _ (List.mem_append_left _ (List.mem_append_left _ (List.mem_append_left _ (List.mem_append_left _ (List.mem_append_left _ (List.mem_append_left _ (List.mem_append_left _ (List.mem_append_left _ (List.mem_append_left _ (List.mem_append_right _ (List.mem_append_right _ (List.mem_append_right _ (List.mem_append_right _ (List.mem_append_right _ (List.mem_append_right _ (List.mem_append_right _ (List.mem_append_right _ (List.mem_append_right _ (List.mem_append_right _ (List.mem_append_right _ (List.mem_append_right _ (List.mem_append_left _ h)))))))))))))))))))))))))))
theorem inR_14 : ∀ w ∈ wsL_law0_r14, w ∈ wsL_law := fun _ h => inR_law _ (List.mem_append_left _ (List.mem_append_left _ (List.mem_append_left _ (List.mem_append_left _ (List.mem_append_left _ (List.mem_append_left _ (List.mem_append_left _ (List.mem_append_left _ (List.mem_append_left _ (List.mem_append_left _ (List.mem_append_left _ (List.mem_append_left _ (List.mem_append_left _ (List.mem_append_left _ (List.mem_append_right _ (List.mem_append_right _ (List.mem_append_right _ (List.mem_append_right _ (List.mem_append_right _ (List.mem_append_right _ (List.mem_append_right _ (List.mem_append_right _ (List.mem_append_right _ (List.mem_append_right _ (List.mem_append_right _ (List.mem_append_right _ (List.mem_append_right _ (List.mem_append_left _ h))))))))))))))))))))))))))))
theorem inR_15 : ∀ w ∈ wsL_law0_r15, w ∈ wsL_law := fun _ h => inR_law _ (List.mem_append_left _ (List.mem_append_left _ (List.mem_append_left _ (List.mem_append_left _ (List.mem_append_left _ (List.mem_append_left _ (List.mem_append_left _ (List.mem_append_left _ (List.mem_append_left _ (List.mem_append_left _ (List.mem_append_left _ (List.mem_append_left _ (List.mem_append_left _ (List.mem_append_left _ (List.mem_append_right _ (List.mem_append_right _ (List.mem_append_right _ (List.mem_append_right _ (List.mem_append_right _ (List.mem_append_right _ (List.mem_append_right _ (List.mem_append_right _ (List.mem_append_right _ (List.mem_append_right _ (List.mem_append_right _ (List.mem_append_right _ (List.mem_append_right _ (List.mem_append_right _ (List.mem_append_left _ h)))))))))))))))))))))))))))))
theorem inR_16 : ∀ w ∈ wsL_law0_r16, w ∈ wsL_law := fun _ h => inR_law _ (List.mem_append_left _ (List.mem_append_left _ (List.mem_append_left _ (List.mem_append_left _ (List.mem_append_left _ (List.mem_append_left _ (List.mem_append_left _ (List.mem_append_left _ (List.mem_append_left _ (List.mem_append_left _ (List.mem_append_left _ (List.mem_append_left _ (List.mem_append_left _ (List.mem_append_left _ (List.mem_append_right _ (List.mem_append_right _ (List.mem_append_right _ (List.mem_append_right _ (List.mem_append_right _ (List.mem_append_right _ (List.mem_append_right _ (List.mem_append_right _ (List.mem_append_right _ (List.mem_append_right _ (List.mem_append_right _ (List.mem_append_right _ (List.mem_append_right _ (List.mem_append_right _ (List.mem_append_right _ (List.mem_append_left _ h))))))))))))))))))))))))))))))
theorem inR_17 : ∀ w ∈ wsL_law0_r17, w ∈ wsL_law := fun _ h => inR_law _ (List.mem_append_left _ (List.mem_append_left _ (List.mem_append_left _ (List.mem_append_left _ (List.mem_append_left _ (List.mem_append_left _ (List.mem_append_left _ (List.mem_append_left _ (List.mem_append_left _ (List.mem_append_left _ (List.mem_append_left _ (List.mem_append_left _ (List.mem_append_left _ (List.mem_append_left _ (List.mem_append_right _ (List.mem_append_right _ (List.mem_append_right _ (List.mem_append_right _ (List.mem_append_right _ (List.mem_append_right _ (List.mem_append_right _ (List.mem_append_right _ (List.mem_append_right _ (List.mem_append_right _ (List.mem_append_right _ (List.mem_append_right _ (List.mem_append_right _ (List.mem_append_right _ (List.mem_append_right _ (List.mem_append_right _ (List.mem_append_left _ h)))))))))))))))))))))))))))))))
theorem inR_18 : ∀ w ∈ wsL_law0_r18, w ∈ wsL_law := fun _ h => inR_law _ (List.mem_append_left _ (List.mem_append_left _ (List.mem_append_left _ (List.mem_append_left _ (List.mem_append_left _ (List.mem_append_left _ (List.mem_append_left _ (List.mem_append_left _ (List.mem_append_left _ (List.mem_append_left _ (List.mem_append_left _ (List.mem_append_left _ (List.mem_append_left _ (List.mem_append_left _ (List.mem_append_right _ (List.mem_append_right _ (List.mem_append_right _ (List.mem_append_right _ (List.mem_append_right _ (List.mem_append_right _ (List.mem_append_right _ (List.mem_append_right _ (List.mem_append_right _ (List.mem_append_right _ (List.mem_append_right _ (List.mem_append_right _ (List.mem_append_right _ (List.mem_append_right _ (List.mem_append_right _ (List.mem_append_right _ (List.mem_append_right _ (List.mem_append_left _ h))))))))))))))))))))))))))))))))
theorem inR_19 : ∀ w ∈ wsL_law0_r19, w ∈ wsL_law := fun _ h => inR_law _ (List.mem_append_left _ (List.mem_append_left _ (List.mem_append_left _ (List.mem_append_left _ (List.mem_append_left _ (List.mem_append_left _ (List.mem_append_left _ (List.mem_append_left _ (List.mem_append_left _ (List.mem_append_left _ (List.mem_append_left _ (List.mem_append_left _ (List.mem_append_left _ (List.mem_append_left _ (List.mem_append_right _ (List.mem_append_right _ (List.mem_append_right _ (List.mem_append_right _ (List.mem_append_right _ (List.mem_append_right _ (List.mem_append_right _ (List.mem_append_right _ (List.mem_append_right _ (List.mem_append_right _ (List.mem_append_right _ (List.mem_append_right _ (List.mem_append_right _ (List.mem_append_right _ (List.mem_append_right _ (List.mem_append_right _ (List.mem_append_right _ (List.mem_append_right _ (List.mem_append_left _ h)))))))))))))))))))))))))))))))))
theorem inR_20 : ∀ w ∈ wsL_law0_r20, w ∈ wsL_law := fun _ h => inR_law _ (List.mem_append_left _ (List.mem_append_left _ (List.mem_append_left _ (List.mem_append_left _ (List.mem_append_left _ (List.mem_append_left _ (List.mem_append_left _ (List.mem_append_left _ (List.mem_append_left _ (List.mem_append_left _ (List.mem_append_left _ (List.mem_append_left _ (List.mem_append_left _ (List.mem_append_left _ (List.mem_append_right _ (List.mem_append_right _ (List.mem_append_right _ (List.mem_append_right _ (List.mem_append_right _ (List.mem_append_right _ (List.mem_append_right _ (List.mem_append_right _ (List.mem_append_right _ (List.mem_append_right _ (List.mem_append_right _ (List.mem_append_right _ (List.mem_append_right _ (List.mem_append_right _ (List.mem_append_right _ (List.mem_append_right _ (List.mem_append_right _ (List.mem_append_right _ (List.mem_append_right _ (List.mem_append_left _ h))))))))))))))))))))))))))))))))))
theorem inR_21 : ∀ w ∈ wsL_law0_r21, w ∈ wsL_law := fun _ h => inR_law _ (List.mem_append_left _ (List.mem_append_left _ (List.mem_append_left _ (List.mem_append_left _ (List.mem_append_left _ (List.mem_append_left _ (List.mem_append_left _ (List.mem_append_left _ (List.mem_append_left _ (List.mem_append_left _ (List.mem_append_left _ (List.mem_append_left _ (List.mem_append_left _ (List.mem_append_left _ (List.mem_append_right _ (List.mem_append_right _ (List.mem_append_right _ (List.mem_append_right _ (List.mem_append_right _ (List.mem_append_right _ (List.mem_append_right _ (List.mem_append_right _ (List.mem_append_right _ (List.mem_append_right _ (List.mem_append_right _ (List.mem_append_right _ (List.mem_append_right _ (List.mem_append_right _ (List.mem_append_right _ (List.mem_append_right _ (List.mem_append_right _ (List.mem_append_right _ (List.mem_append_right _ (List.mem_append_right _ (List.mem_append_left _ h)))))))))))))))))))))))))))))))))))
theorem inR_22 : ∀ w ∈ wsL_law0_r22, w ∈ wsL_law := fun _ h => inR_law _ (List.mem_append_left _ (List.mem_append_left _ (List.mem_append_left _ (List.mem_append_left _ (List.mem_append_left _ (List.mem_append_left _ (List.mem_append_left _ (List.mem_append_left _ (List.mem_append_left _ (List.mem_append_left _ (List.mem_append_left _ (List.mem_append_left _ (List.mem_append_left _ (List.mem_append_left _ (List.mem_append_right _ (List.mem_append_right _ (List.mem_append_right _ (List.mem_append_right _ (List.mem_append_right _ (List.mem_append_right _ (List.mem_append_right _ (List.mem_append_right _ (List.mem_append_right _ (List.mem_append_right _ (List.mem_append_right _ (List.mem_append_right _ (List.mem_append_right _ (List.mem_append_right _ (List.mem_append_right _ (List.mem_append_right _ (List.mem_append_right _ (List.mem_append_right _ (List.mem_append_right _ (List.mem_append_right _ (List.mem_append_right _ (List.mem_append_left _ h))))))))))))))))))))))))))))))))))))
theorem inR_23 : ∀ w ∈ wsL_law0_r23, w ∈ wsL_law := fun _ h => inR_law _ (List.mem_append_left _ (List.mem_append_left _ (List.mem_append_left _ (List.mem_append_left _ (List.mem_append_left _ (List.mem_append_left _ (List.mem_append_left _ (List.mem_append_left _ (List.mem_append_left _ (List.mem_append_left _ (List.mem_append_left _ (List.mem_append_left _ (List.mem_append_left _ (List.mem_append_left _ (List.mem_append_right _ (List.mem_append_right _ (List.mem_append_right _ (List.mem_append_right _ (List.mem_append_right _ (List.mem_append_right _ (List.mem_append_right _ (List.mem_append_right _ (List.mem_append_right _ (List.mem_append_right _ (List.mem_append_right _ (List.mem_append_right _ (List.mem_append_right _ (List.mem_append_right _ (List.mem_append_right _ (List.mem_append_right _ (List.mem_append_right _ (List.mem_append_right _ (List.mem_append_right _ (List.mem_append_right _ (List.mem_append_right _ (List.mem_append_right _ (List.mem_append_left _ h)))))))))))))))))))))))))))))))))))))
theorem inR_24 : ∀ w ∈ wsL_law0_r24, w ∈ wsL_law := fun _ h => inR_law _ (List.mem_append_left _ (List.mem_append_left _ (List.mem_append_left _ (List.mem_append_left _ (List.mem_append_left _ (List.mem_append_left _ (List.mem_append_left _ (List.mem_append_left _ (List.mem_append_left _ (List.mem_append_left _ (List.mem_append_left _ (List.mem_append_left _ (List.mem_append_left _ (List.mem_append_left _ (List.mem_append_right _ (List.mem_append_right _ (List.mem_append_right _ (List.mem_append_right _ (List.mem_append_right _ (List.mem_append_right _ (List.mem_append_right _ (List.mem_append_right _ (List.mem_append_right _ (List.mem_append_right _ (List.mem_append_right _ (List.mem_append_right _ (List.mem_append_right _ (List.mem_append_right _ (List.mem_append_right _ (List.mem_append_right _ (List.mem_append_right _ (List.mem_append_right _ (List.mem_append_right _ (List.mem_append_right _ (List.mem_append_right _ (List.mem_append_right _ (List.mem_append_right _ (List.mem_append_left _ h))))))))))))))))))))))))))))))))))))))
theorem inR_25 : ∀ w ∈ wsL_law0_r25, w ∈ wsL_law := fun _ h => inR_law _ (List.mem_append_left _ (List.mem_append_left _ (List.mem_append_left _ (List.mem_append_left _ (List.mem_append_left _ (List.mem_append_left _ (List.mem_append_left _ (List.mem_append_left _ (List.mem_append_left _ (List.mem_append_left _ (List.mem_append_left _ (List.mem_append_left _ (List.mem_append_left _ (List.mem_append_left _ (List.mem_append_right _ (List.mem_append_right _ (List.mem_append_right _ (List.mem_append_right _ (List.mem_append_right _ (List.mem_append_right _ (List.mem_append_right _ (List.mem_append_right _ (List.mem_append_right _ (List.mem_append_right _ (List.mem_append_right _ (List.mem_append_right _ (List.mem_append_right _ (List.mem_append_right _ (List.mem_append_right _ (List.mem_append_right _ (List.mem_append_right _ (List.mem_append_right _ (List.mem_append_right _ (List.mem_append_right _ (List.mem_append_right _ (List.mem_append_right _ (List.mem_append_right _ (List.mem_append_right _ (List.mem_append_left _ h)))))))))))))))))))))))))))))))))))))))
theorem inR_26 : ∀ w ∈ wsL_law0_r26, w ∈ wsL_law := fun _ h => inR_law _ (List.mem_append_left _ (List.mem_append_left _ (List.mem_append_left _ (List.mem_append_left _ (List.mem_append_left _ (List.mem_append_left _ (List.mem_append_left _ (List.mem_append_left _ (List.mem_append_left _ (List.mem_append_left _ (List.mem_append_left _ (List.mem_append_left _ (List.mem_append_left _ (List.mem_append_left _ (List.mem_append_right _ (List.mem_append_right _ (List.mem_append_right _ (List.mem_append_right _ (List.mem_append_right _ (List.mem_append_right _ (List.mem_append_right _ (List.mem_append_right _ (List.mem_append_right _ (List.mem_append_right _ (List.mem_append_right _ (List.mem_append_right _ (List.mem_append_right _ (List.mem_append_right _ (List.mem_append_right _ (List.mem_append_right _ (List.mem_append_right _ (List.mem_append_right _ (List.mem_append_right _ (List.mem_append_right _ (List.mem_append_right _ (List.mem_append_right _ (List.mem_append_right _ (List.mem_append_right _ (List.mem_append_right _ (List.mem_append_left _ h))))))))))))))))))))))))))))))))))))))))
theorem inR_27 : ∀ w ∈ wsL_law0_r27, w ∈ wsL_law := fun _ h => inR_law _ (List.mem_append_left _ (List.mem_append_left _ (List.mem_append_left _ (List.mem_append_left _ (List.mem_append_left _ (List.mem_append_left _ (List.mem_append_left _ (List.mem_append_left _ (List.mem_append_left _ (List.mem_append_left _ (List.mem_append_left _ (List.mem_append_left _ (List.mem_append_left _ (List.mem_append_left _ (List.mem_append_right _ (List.mem_append_right _ (List.mem_append_right _ (List.mem_append_right _ (List.mem_append_right _ (List.mem_append_right _ (List.mem_append_right _ (List.mem_append_right _ (List.mem_append_right _ (List.mem_append_right _ (List.mem_append_right _ (List.mem_append_right _ (List.mem_append_right _ (List.mem_append_right _ (List.mem_append_right _ (List.mem_append_right _ (List.mem_append_right _ (List.mem_append_right _ (List.mem_append_right _ (List.mem_append_right _ (List.mem_append_right _ (List.mem_append_right _ (List.mem_append_right _ (List.mem_append_right _ (List.mem_append_right _ (List.mem_append_right _ (List.mem_append_left _ h)))))))))))))))))))))))))))))))))))))))))
theorem inR_28 : ∀ w ∈ wsL_law0_r28, w ∈ wsL_law := fun _ h => inR_law _ (List.mem_append_left _ (List.mem_append_left _ (List.mem_append_left _ (List.mem_append_left _ (List.mem_append_left _ (List.mem_append_left _ (List.mem_append_left _ (List.mem_append_left _ (List.mem_append_left _ (List.mem_append_left _ (List.mem_append_left _ (List.mem_append_left _ (List.mem_append_left _ (List.mem_append_left _ (List.mem_append_right _ (List.mem_append_right _ (List.mem_append_right _ (List.mem_append_right _ (List.mem_append_right _ (List.mem_append_right _ (List.mem_append_right _ (List.mem_append_right _ (List.mem_append_right _ (List.mem_append_right _ (List.mem_append_right _ (List.mem_append_right _ (List.mem_append_right _ (List.mem_append_right _ (List.mem_append_right _ (List.mem_append_right _ (List.mem_append_right _ (List.mem_append_right _ (List.mem_append_right _ (List.mem_append_right _ (List.mem_append_right _ (List.mem_append_right _ (List.mem_append_right _ (List.mem_append_right _ (List.mem_append_right _ (List.mem_append_right _ (List.mem_append_right _ (List.mem_append_left _ h))))))))))))))))))))))))))))))))))))))))))
theorem inR_29 : ∀ w ∈ wsL_law0_r29, w ∈ wsL_law := fun _ h => inR_law _ (List.mem_append_left _ (List.mem_append_left _ (List.mem_append_left _ (List.mem_append_left _ (List.mem_append_left _ (List.mem_append_left _ (List.mem_append_left _ (List.mem_append_left _ (List.mem_append_left _ (List.mem_append_left _ (List.mem_append_left _ (List.mem_append_left _ (List.mem_append_left _ (List.mem_append_left _ (List.mem_append_right _ (List.mem_append_right _ (List.mem_append_right _ (List.mem_append_right _ (List.mem_append_right _ (List.mem_append_right _ (List.mem_append_right _ (List.mem_append_right _ (List.mem_append_right _ (List.mem_append_right _ (List.mem_append_right _ (List.mem_append_right _ (List.mem_append_right _ (List.mem_append_right _ (List.mem_append_right _ (List.mem_append_right _ (List.mem_append_right _ (List.mem_append_right _ (List.mem_append_right _ (List.mem_append_right _ (List.mem_append_right _ (List.mem_append_right _ (List.mem_append_right _ (List.mem_append_right _ (List.mem_append_right _ (List.mem_append_right _ (List.mem_append_right _ (List.mem_append_right _ (List.mem_append_left _ h)))))))))))))))))))))))))))))))))))))))))))
theorem inR_30 : ∀ w ∈ wsL_law0_r30, w ∈ wsL_law := fun _ h => inR_law _ (List.mem_append_left _ (List.mem_append_left _ (List.mem_append_left _ (List.mem_append_left _ (List.mem_append_left _ (List.mem_append_left _ (List.mem_append_left _ (List.mem_append_left _ (List.mem_append_left _ (List.mem_append_left _ (List.mem_append_left _ (List.mem_append_left _ (List.mem_append_left _ (List.mem_append_left _ (List.mem_append_right _ (List.mem_append_right _ (List.mem_append_right _ (List.mem_append_right _ (List.mem_append_right _ (List.mem_append_right _ (List.mem_append_right _ (List.mem_append_right _ (List.mem_append_right _ (List.mem_append_right _ (List.mem_append_right _ (List.mem_append_right _ (List.mem_append_right _ (List.mem_append_right _ (List.mem_append_right _ (List.mem_append_right _ (List.mem_append_right _ (List.mem_append_right _ (List.mem_append_right _ (List.mem_append_right _ (List.mem_append_right _ (List.mem_append_right _ (List.mem_append_right _ (List.mem_append_right _ (List.mem_append_right _ (List.mem_append_right _ (List.mem_append_right _ (List.mem_append_right _ (List.mem_append_right _ (List.mem_append_left _ h))))))))))))))))))))))))))))))))))))))))))))
theorem inR_31 : ∀ w ∈ wsL_law0_r31, w ∈ wsL_law := fun _ h => inR_law _ (List.mem_append_left _ (List.mem_append_left _ (List.mem_append_left _ (List.mem_append_left _ (List.mem_append_left _ (List.mem_append_left _ (List.mem_append_left _ (List.mem_append_left _ (List.mem_append_left _ (List.mem_append_left _ (List.mem_append_left _ (List.mem_append_left _ (List.mem_append_left _ (List.mem_append_left _ (List.mem_append_right _ (List.mem_append_right _ (List.mem_append_right _ (List.mem_append_right _ (List.mem_append_right _ (List.mem_append_right _ (List.mem_append_right _ (List.mem_append_right _ (List.mem_append_right _ (List.mem_append_right _ (List.mem_append_right _ (List.mem_append_right _ (List.mem_append_right _ (List.mem_append_right _ (List.mem_append_right _ (List.mem_append_right _ (List.mem_append_right _ (List.mem_append_right _ (List.mem_append_right _ (List.mem_append_right _ (List.mem_append_right _ (List.mem_append_right _ (List.mem_append_right _ (List.mem_append_right _ (List.mem_append_right _ (List.mem_append_right _ (List.mem_append_right _ (List.mem_append_right _ (List.mem_append_right _ (List.mem_append_right _ (List.mem_append_left _ h)))))))))))))))))))))))))))))))))))))))))))))
theorem inR_32 : ∀ w ∈ wsL_law0_r32, w ∈ wsL_law := fun _ h => inR_law _ (List.mem_append_left _ (List.mem_append_left _ (List.mem_append_left _ (List.mem_append_left _ (List.mem_append_left _ (List.mem_append_left _ (List.mem_append_left _ (List.mem_append_left _ (List.mem_append_left _ (List.mem_append_left _ (List.mem_append_left _ (List.mem_append_left _ (List.mem_append_left _ (List.mem_append_left _ (List.mem_append_right _ (List.mem_append_right _ (List.mem_append_right _ (List.mem_append_right _ (List.mem_append_right _ (List.mem_append_right _ (List.mem_append_right _ (List.mem_append_right _ (List.mem_append_right _ (List.mem_append_right _ (List.mem_append_right _ (List.mem_append_right _ (List.mem_append_right _ (List.mem_append_right _ (List.mem_append_right _ (List.mem_append_right _ (List.mem_append_right _ (List.mem_append_right _ (List.mem_append_right _ (List.mem_append_right _ (List.mem_append_right _ (List.mem_append_right _ (List.mem_append_right _ (List.mem_append_right _ (List.mem_append_right _ (List.mem_append_right _ (List.mem_append_right _ (List.mem_append_right _ (List.mem_append_right _ (List.mem_append_right _ (List.mem_append_right _ (List.mem_append_left _ h))))))))))))))))))))))))))))))))))))))))))))))
theorem inR_33 : ∀ w ∈ wsL_law0_r33, w ∈ wsL_law := fun _ h => inR_law _ (List.mem_append_left _ (List.mem_append_left _ (List.mem_append_left _ (List.mem_append_left _ (List.mem_append_left _ (List.mem_append_left _ (List.mem_append_left _ (List.mem_append_left _ (List.mem_append_left _ (List.mem_append_left _ (List.mem_append_left _ (List.mem_append_left _ (List.mem_append_left _ (List.mem_append_left _ (List.mem_append_right _ (List.mem_append_right _ (List.mem_append_right _ (List.mem_append_right _ (List.mem_append_right _ (List.mem_append_right _ (List.mem_append_right _ (List.mem_append_right _ (List.mem_append_right _ (List.mem_append_right _ (List.mem_append_right _ (List.mem_append_right _ (List.mem_append_right _ (List.mem_append_right _ (List.mem_append_right _ (List.mem_append_right _ (List.mem_append_right _ (List.mem_append_right _ (List.mem_append_right _ (List.mem_append_right _ (List.mem_append_right _ (List.mem_append_right _ (List.mem_append_right _ (List.mem_append_right _ (List.mem_append_right _ (List.mem_append_right _ (List.mem_append_right _ (List.mem_append_right _ (List.mem_append_right _ (List.mem_append_right _ (List.mem_append_right _ (List.mem_append_right _ (List.mem_append_left _ h)))))))))))))))))))))))))))))))))))))))))))))))
theorem inR_34 : ∀ w ∈ wsL_law0_r34, w ∈ wsL_law := fun _ h => inR_law _ (List.mem_append_left _ (List.mem_append_left _ (List.mem_append_left _ (List.mem_append_left _ (List.mem_append_left _ (List.mem_append_left _ (List.mem_append_left _ (List.mem_append_left _ (List.mem_append_left _ (List.mem_append_left _ (List.mem_append_left _ (List.mem_append_left _ (List.mem_append_left _ (List.mem_append_left _ (List.mem_append_right _ (List.mem_append_right _ (List.mem_append_right _ (List.mem_append_right _ (List.mem_append_right _ (List.mem_append_right _ (List.mem_append_right _ (List.mem_append_right _ (List.mem_append_right _ (List.mem_append_right _ (List.mem_append_right _ (List.mem_append_right _ (List.mem_append_right _ (List.mem_append_right _ (List.mem_append_right _ (List.mem_append_right _ (List.mem_append_right _ (List.mem_append_right _ (List.mem_append_right _ (List.mem_append_right _ (List.mem_append_right _ (List.mem_append_right _ (List.mem_append_right _ (List.mem_append_right _ (List.mem_append_right _ (List.mem_append_right _ (List.mem_append_right _ (List.mem_append_right _ (List.mem_append_right _ (List.mem_append_right _ (List.mem_append_right _ (List.mem_append_right _ (List.mem_append_right _ (List.mem_append_left _ h))))))))))))))))))))))))))))))))))))))))))))))))
theorem inR_35 : ∀ w ∈ wsL_law0_r35, w ∈ wsL_law := fun _ h => inR_law _ (List.mem_append_left _ (List.mem_append_left _ (List.mem_append_left _ (List.mem_append_left _ (List.mem_append_left _ (List.mem_append_left _ (List.mem_append_left _ (List.mem_append_left _ (List.mem_append_left _ (List.mem_append_left _ (List.mem_append_left _ (List.mem_append_left _ (List.mem_append_left _ (List.mem_append_left _ (List.mem_append_right _ (List.mem_append_right _ (List.mem_append_right _ (List.mem_append_right _ (List.mem_append_right _ (List.mem_append_right _ (List.mem_append_right _ (List.mem_append_right _ (List.mem_append_right _ (List.mem_append_right _ (List.mem_append_right _ (List.mem_append_right _ (List.mem_append_right _ (List.mem_append_right _ (List.mem_append_right _ (List.mem_append_right _ (List.mem_append_right _ (List.mem_append_right _ (List.mem_append_right _ (List.mem_append_right _ (List.mem_append_right _ (List.mem_append_right _ (List.mem_append_right _ (List.mem_append_right _ (List.mem_append_right _ (List.mem_append_right _ (List.mem_append_right _ (List.mem_append_right _ (List.mem_append_right _ (List.mem_append_right _ (List.mem_append_right _ (List.mem_append_right _ (List.mem_append_right _ (List.mem_append_right _ (List.mem_append_left _ h)))))))))))))))))))))))))))))))))))))))))))))))))
theorem inR_36 : ∀ w ∈ wsL_law0_r36, w ∈ wsL_law := fun _ h => inR_law _ (List.mem_append_left _ (List.mem_append_left _ (List.mem_append_left _ (List.mem_append_left _ (List.mem_append_left _ (List.mem_append_left _ (List.mem_append_left _ (List.mem_append_left _ (List.mem_append_left _ (List.mem_append_left _ (List.mem_append_left _ (List.mem_append_left _ (List.mem_append_left _ (List.mem_append_left _ (List.mem_append_right _ (List.mem_append_right _ (List.mem_append_right _ (List.mem_append_right _ (List.mem_append_right _ (List.mem_append_right _ (List.mem_append_right _ (List.mem_append_right _ (List.mem_append_right _ (List.mem_append_right _ (List.mem_append_right _ (List.mem_append_right _ (List.mem_append_right _ (List.mem_append_right _ (List.mem_append_right _ (List.mem_append_right _ (List.mem_append_right _ (List.mem_append_right _ (List.mem_append_right _ (List.mem_append_right _ (List.mem_append_right _ (List.mem_append_right _ (List.mem_append_right _ (List.mem_append_right _ (List.mem_append_right _ (List.mem_append_right _ (List.mem_append_right _ (List.mem_append_right _ (List.mem_append_right _ (List.mem_append_right _ (List.mem_append_right _ (List.mem_append_right _ (List.mem_append_right _ (List.mem_append_right _ (List.mem_append_right _ (List.mem_append_left _ h))))))))))))))))))))))))))))))))))))))))))))))))))
theorem inR_37 : ∀ w ∈ wsL_law0_r37, w ∈ wsL_law := fun _ h => inR_law _ (List.mem_append_left _ (List.mem_append_left _ (List.mem_append_left _ (List.mem_append_left _ (List.mem_append_left _ (List.mem_append_left _ (List.mem_append_left _ (List.mem_append_left _ (List.mem_append_left _ (List.mem_append_left _ (List.mem_append_left _ (List.mem_append_left _ (List.mem_append_left _ (List.mem_append_left _ (List.mem_append_right _ (List.mem_append_right _ (List.mem_append_right _ (List.mem_append_right _ (List.mem_append_right _ (List.mem_append_right _ (List.mem_append_right _ (List.mem_append_right _ (List.mem_append_right _ (List.mem_append_right _ (List.mem_append_right _ (List.mem_append_right _ (List.mem_append_right _ (List.mem_append_right _ (List.mem_append_right _ (List.mem_append_right _ (List.mem_append_right _ (List.mem_append_right _ (List.mem_append_right _ (List.mem_append_right _ (List.mem_append_right _ (List.mem_append_right _ (List.mem_append_right _ (List.mem_append_right _ (List.mem_append_right _ (List.mem_append_right _ (List.mem_append_right _ (List.mem_append_right _ (List.mem_append_right _ (List.mem_append_right _ (List.mem_append_right _ (List.mem_append_right _ (List.mem_append_right _ (List.mem_append_right _ (List.mem_append_right _ (List.mem_append_right _ (List.mem_append_left _ h)))))))))))))))))))))))))))))))))))))))))))))))))))
theorem inR_38 : ∀ w ∈ wsL_law0_r38, w ∈ wsL_law := fun _ h => inR_law _ (List.mem_append_left _ (List.mem_append_left _ (List.mem_append_left _ (List.mem_append_left _ (List.mem_append_left _ (List.mem_append_left _ (List.mem_append_left _ (List.mem_append_left _ (List.mem_append_left _ (List.mem_append_left _ (List.mem_append_left _ (List.mem_append_left _ (List.mem_append_left _ (List.mem_append_left _ (List.mem_append_right _ (List.mem_append_right _ (List.mem_append_right _ (List.mem_append_right _ (List.mem_append_right _ (List.mem_append_right _ (List.mem_append_right _ (List.mem_append_right _ (List.mem_append_right _ (List.mem_append_right _ (List.mem_append_right _ (List.mem_append_right _ (List.mem_append_right _ (List.mem_append_right _ (List.mem_append_right _ (List.mem_append_right _ (List.mem_append_right _ (List.mem_append_right _ (List.mem_append_right _ (List.mem_append_right _ (List.mem_append_right _ (List.mem_append_right _ (List.mem_append_right _ (List.mem_append_right _ (List.mem_append_right _ (List.mem_append_right _ (List.mem_append_right _ (List.mem_append_right _ (List.mem_append_right _ (List.mem_append_right _ (List.mem_append_right _ (List.mem_append_right _ (List.mem_append_right _ (List.mem_append_right _ (List.mem_append_right _ (List.mem_append_right _ (List.mem_append_right _ (List.mem_append_left _ h))))))))))))))))))))))))))))))))))))))))))))))))))))
theorem inR_39 : ∀ w ∈ wsL_law0_r39, w ∈ wsL_law := fun _ h => inR_law _ (List.mem_append_left _ (List.mem_append_left _ (List.mem_append_left _ (List.mem_append_left _ (List.mem_append_left _ (List.mem_append_left _ (List.mem_append_left _ (List.mem_append_left _ (List.mem_append_left _ (List.mem_append_left _ (List.mem_append_left _ (List.mem_append_left _ (List.mem_append_left _ (List.mem_append_left _ (List.mem_append_right _ (List.mem_append_right _ (List.mem_append_right _ (List.mem_append_right _ (List.mem_append_right _ (List.mem_append_right _ (List.mem_append_right _ (List.mem_append_right _ (List.mem_append_right _ (List.mem_append_right _ (List.mem_append_right _ (List.mem_append_right _ (List.mem_append_right _ (List.mem_append_right _ (List.mem_append_right _ (List.mem_append_right _ (List.mem_append_right _ (List.mem_append_right _ (List.mem_append_right _ (List.mem_append_right _ (List.mem_append_right _ (List.mem_append_right _ (List.mem_append_right _ (List.mem_append_right _ (List.mem_append_right _ (List.mem_append_right _ (List.mem_append_right _ (List.mem_append_right _ (List.mem_append_right _ (List.mem_append_right _ (List.mem_append_right _ (List.mem_append_right _ (List.mem_append_right _ (List.mem_append_right _ (List.mem_append_right _ (List.mem_append_right _ (List.mem_append_right _ (List.mem_append_right _ (List.mem_append_left _ h)))))))))))))))))))))))))))))))))))))))))))))))))))))
theorem inR_40 : ∀ w ∈ wsL_law0_r40, w ∈ wsL_law := fun _ h => inR_law _ (List.mem_append_left _ (List.mem_append_left _ (List.mem_append_left _ (List.mem_append_left _ (List.mem_append_left _ (List.mem_append_left _ (List.mem_append_left _ (List.mem_append_left _ (List.mem_append_left _ (List.mem_append_left _ (List.mem_append_left _ (List.mem_append_left _ (List.mem_append_left _ (List.mem_append_left _ (List.mem_append_right _ (List.mem_append_right _ (List.mem_append_right _ (List.mem_append_right _ (List.mem_append_right _ (List.mem_append_right _ (List.mem_append_right _ (List.mem_append_right _ (List.mem_append_right _ (List.mem_append_right _ (List.mem_append_right _ (List.mem_append_right _ (List.mem_append_right _ (List.mem_append_right _ (List.mem_append_right _ (List.mem_append_right _ (List.mem_append_right _ (List.mem_append_right _ (List.mem_append_right _ (List.mem_append_right _ (List.mem_append_right _ (List.mem_append_right _ (List.mem_append_right _ (List.mem_append_right _ (List.mem_append_right _ (List.mem_append_right _ (List.mem_append_right _ (List.mem_append_right _ (List.mem_append_right _ (List.mem_append_right _ (List.mem_append_right _ (List.mem_append_right _ (List.mem_append_right _ (List.mem_append_right _ (List.mem_append_right _ (List.mem_append_right _ (List.mem_append_right _ (List.mem_append_right _ (List.mem_append_right _ (List.mem_append_left _ h))))))))))))))))))))))))))))))))))))))))))))))))))))))
theorem inR_41 : ∀ w ∈ wsL_law0_r41, w ∈ wsL_law := fun _ h => inR_law _ (List.mem_append_left _ (List.mem_append_left _ (List.mem_append_left _ (List.mem_append_left _ (List.mem_append_left _ (List.mem_append_left _ (List.mem_append_left _ (List.mem_append_left _ (List.mem_append_left _ (List.mem_append_left _ (List.mem_append_left _ (List.mem_append_left _ (List.mem_append_left _ (List.mem_append_left _ (List.mem_append_right _ (List.mem_append_right _ (List.mem_append_right _ (List.mem_append_right _ (List.mem_append_right _ (List.mem_append_right _ (List.mem_append_right _ (List.mem_append_right _ (List.mem_append_right _ (List.mem_append_right _ (List.mem_append_right _ (List.mem_append_right _ (List.mem_append_right _ (List.mem_append_right _ (List.mem_append_right _ (List.mem_append_right _ (List.mem_append_right _ (List.mem_append_right _ (List.mem_append_right _ (List.mem_append_right _ (List.mem_append_right _ (List.mem_append_right _ (List.mem_append_right _ (List.mem_append_right _ (List.mem_append_right _ (List.mem_append_right _ (List.mem_append_right _ (List.mem_append_right _ (List.mem_append_right _ (List.mem_append_right _ (List.mem_append_right _ (List.mem_append_right _ (List.mem_append_right _ (List.mem_append_right _ (List.mem_append_right _ (List.mem_append_right _ (List.mem_append_right _ (List.mem_append_right _ (List.mem_append_right _ (List.mem_append_right _ (List.mem_append_left _ h)))))))))))))))))))))))))))))))))))))))))))))))))))))))
theorem inR_42 : ∀ w ∈ wsL_law0_r42, w ∈ wsL_law := fun _ h => inR_law _ (List.mem_append_left _ (List.mem_append_left _ (List.mem_append_left _ (List.mem_append_left _ (List.mem_append_left _ (List.mem_append_left _ (List.mem_append_left _ (List.mem_append_left _ (List.mem_append_left _ (List.mem_append_left _ (List.mem_append_left _ (List.mem_append_left _ (List.mem_append_left _ (List.mem_append_left _ (List.mem_append_right _ (List.mem_append_right _ (List.mem_append_right _ (List.mem_append_right _ (List.mem_append_right _ (List.mem_append_right _ (List.mem_append_right _ (List.mem_append_right _ (List.mem_append_right _ (List.mem_append_right _ (List.mem_append_right _ (List.mem_append_right _ (List.mem_append_right _ (List.mem_append_right _ (List.mem_append_right _ (List.mem_append_right _ (List.mem_append_right _ (List.mem_append_right _ (List.mem_append_right _ (List.mem_append_right _ (List.mem_append_right _ (List.mem_append_right _ (List.mem_append_right _ (List.mem_append_right _ (List.mem_append_right _ (List.mem_append_right _ (List.mem_append_right _ (List.mem_append_right _ (List.mem_append_right _ (List.mem_append_right _ (List.mem_append_right _ (List.mem_append_right _ (List.mem_append_right _ (List.mem_append_right _ (List.mem_append_right _ (List.mem_append_right _ (List.mem_append_right _ (List.mem_append_right _ (List.mem_append_right _ (List.mem_append_right _ (List.mem_append_right _ (List.mem_append_left _ h))))))))))))))))))))))))))))))))))))))))))))))))))))))))
theorem inR_43 : ∀ w ∈ wsL_law0_r43, w ∈ wsL_law := fun _ h => inR_law _ (List.mem_append_left _ (List.mem_append_left _ (List.mem_append_left _ (List.mem_append_left _ (List.mem_append_left _ (List.mem_append_left _ (List.mem_append_left _ (List.mem_append_left _ (List.mem_append_left _ (List.mem_append_left _ (List.mem_append_left _ (List.mem_append_left _ (List.mem_append_left _ (List.mem_append_left _ (List.mem_append_right _ (List.mem_append_right _ (List.mem_append_right _ (List.mem_append_right _ (List.mem_append_right _ (List.mem_append_right _ (List.mem_append_right _ (List.mem_append_right _ (List.mem_append_right _ (List.mem_append_right _ (List.mem_append_right _ (List.mem_append_right _ (List.mem_append_right _ (List.mem_append_right _ (List.mem_append_right _ (List.mem_append_right _ (List.mem_append_right _ (List.mem_append_right _ (List.mem_append_right _ (List.mem_append_right _ (List.mem_append_right _ (List.mem_append_right _ (List.mem_append_right _ (List.mem_append_right _ (List.mem_append_right _ (List.mem_append_right _ (List.mem_append_right _ (List.mem_append_right _ (List.mem_append_right _ (List.mem_append_right _ (List.mem_append_right _ (List.mem_append_right _ (List.mem_append_right _ (List.mem_append_right _ (List.mem_append_right _ (List.mem_append_right _ (List.mem_append_right _ (List.mem_append_right _ (List.mem_append_right _ (List.mem_append_right _ (List.mem_append_right _ (List.mem_append_right _ (List.mem_append_left _ h)))))))))))))))))))))))))))))))))))))))))))))))))))))))))
theorem inR_44 : ∀ w ∈ wsL_law0_r44, w ∈ wsL_law := fun _ h => inR_law _ (List.mem_append_left _ (List.mem_append_left _ (List.mem_append_left _ (List.mem_append_left _ (List.mem_append_left _ (List.mem_append_left _ (List.mem_append_left _ (List.mem_append_left _ (List.mem_append_left _ (List.mem_append_left _ (List.mem_append_left _ (List.mem_append_left _ (List.mem_append_left _ (List.mem_append_left _ (List.mem_append_right _ (List.mem_append_right _ (List.mem_append_right _ (List.mem_append_right _ (List.mem_append_right _ (List.mem_append_right _ (List.mem_append_right _ (List.mem_append_right _ (List.mem_append_right _ (List.mem_append_right _ (List.mem_append_right _ (List.mem_append_right _ (List.mem_append_right _ (List.mem_append_right _ (List.mem_append_right _ (List.mem_append_right _ (List.mem_append_right _ (List.mem_append_right _ (List.mem_append_right _ (List.mem_append_right _ (List.mem_append_right _ (List.mem_append_right _ (List.mem_append_right _ (List.mem_append_right _ (List.mem_append_right _ (List.mem_append_right _ (List.mem_append_right _ (List.mem_append_right _ (List.mem_append_right _ (List.mem_append_right _ (List.mem_append_right _ (List.mem_append_right _ (List.mem_append_right _ (List.mem_append_right _ (List.mem_append_right _ (List.mem_append_right _ (List.mem_append_right _ (List.mem_append_right _ (List.mem_append_right _ (List.mem_append_right _ (List.mem_append_right _ (List.mem_append_right _ (List.mem_append_right _ (List.mem_append_left _ h))))))))))))))))))))))))))))))))))))))))))))))))))))))))))
theorem inR_45 : ∀ w ∈ wsL_law0_r45, w ∈ wsL_law := fun _ h => inR_law _ (List.mem_append_left _ (List.mem_append_left _ (List.mem_append_left _ (List.mem_append_left _ (List.mem_append_left _ (List.mem_append_left _ (List.mem_append_left _ (List.mem_append_left _ (List.mem_append_left _ (List.mem_append_left _ (List.mem_append_left _ (List.mem_append_left _ (List.mem_append_left _ (List.mem_append_left _ (List.mem_append_right _ (List.mem_append_right _ (List.mem_append_right _ (List.mem_append_right _ (List.mem_append_right _ (List.mem_append_right _ (List.mem_append_right _ (List.mem_append_right _ (List.mem_append_right _ (List.mem_append_right _ (List.mem_append_right _ (List.mem_append_right _ (List.mem_append_right _ (List.mem_append_right _ (List.mem_append_right _ (List.mem_append_right _ (List.mem_append_right _ (List.mem_append_right _ (List.mem_append_right _ (List.mem_append_right _ (List.mem_append_right _ (List.mem_append_right _ (List.mem_append_right _ (List.mem_append_right _ (List.mem_append_right _ (List.mem_append_right _ (List.mem_append_right _ (List.mem_append_right _ (List.mem_append_right _ (List.mem_append_right _ (List.mem_append_right _ (List.mem_append_right _ (List.mem_append_right _ (List.mem_append_right _ (List.mem_append_right _ (List.mem_append_right _ (List.mem_append_right _ (List.mem_append_right _ (List.mem_append_right _ (List.mem_append_right _ (List.mem_append_right _ (List.mem_append_right _ (List.mem_append_right _ (List.mem_append_right _ (List.mem_append_left _ h)))))))))))))))))))))))))))))))))))))))))))))))))))))))))))
theorem inR_46 : ∀ w ∈ wsL_law0_r46, w ∈ wsL_law := fun _ h => inR_law _ (List.mem_append_left _ (List.mem_append_left _ (List.mem_append_left _ (List.mem_append_left _ (List.mem_append_left _ (List.mem_append_left _ (List.mem_append_left _ (List.mem_append_left _ (List.mem_append_left _ (List.mem_append_left _ (List.mem_append_left _ (List.mem_append_left _ (List.mem_append_left _ (List.mem_append_left _ (List.mem_append_right _ (List.mem_append_right _ (List.mem_append_right _ (List.mem_append_right _ (List.mem_append_right _ (List.mem_append_right _ (List.mem_append_right _ (List.mem_append_right _ (List.mem_append_right _ (List.mem_append_right _ (List.mem_append_right _ (List.mem_append_right _ (List.mem_append_right _ (List.mem_append_right _ (List.mem_append_right _ (List.mem_append_right _ (List.mem_append_right _ (List.mem_append_right _ (List.mem_append_right _ (List.mem_append_right _ (List.mem_append_right _ (List.mem_append_right _ (List.mem_append_right _ (List.mem_append_right _ (List.mem_append_right _ (List.mem_append_right _ (List.mem_append_right _ (List.mem_append_right _ (List.mem_append_right _ (List.mem_append_right _ (List.mem_append_right _ (List.mem_append_right _ (List.mem_append_right _ (List.mem_append_right _ (List.mem_append_right _ (List.mem_append_right _ (List.mem_append_right _ (List.mem_append_right _ (List.mem_append_right _ (List.mem_append_right _ (List.mem_append_right _ (List.mem_append_right _ (List.mem_append_right _ (List.mem_append_right _ (List.mem_append_right _ (List.mem_append_left _ h))))))))))))))))))))))))))))))))))))))))))))))))))))))))))))
theorem inR_47 : ∀ w ∈ wsL_law0_r47, w ∈ wsL_law := fun _ h => inR_law _ (List.mem_append_left _ (List.mem_append_left _ (List.mem_append_left _ (List.mem_append_left _ (List.mem_append_left _ (List.mem_append_left _ (List.mem_append_left _ (List.mem_append_left _ (List.mem_append_left _ (List.mem_append_left _ (List.mem_append_left _ (List.mem_append_left _ (List.mem_append_left _ (List.mem_append_left _ (List.mem_append_right _ (List.mem_append_right _ (List.mem_append_right _ (List.mem_append_right _ (List.mem_append_right _ (List.mem_append_right _ (List.mem_append_right _ (List.mem_append_right _ (List.mem_append_right _ (List.mem_append_right _ (List.mem_append_right _ (List.mem_append_right _ (List.mem_append_right _ (List.mem_append_right _ (List.mem_append_right _ (List.mem_append_right _ (List.mem_append_right _ (List.mem_append_right _ (List.mem_append_right _ (List.mem_append_right _ (List.mem_append_right _ (List.mem_append_right _ (List.mem_append_right _ (List.mem_append_right _ (List.mem_append_right _ (List.mem_append_right _ (List.mem_append_right _ (List.mem_append_right _ (List.mem_append_right _ (List.mem_append_right _ (List.mem_append_right _ (List.mem_append_right _ (List.mem_append_right _ (List.mem_append_right _ (List.mem_append_right _ (List.mem_append_right _ (List.mem_append_right _ (List.mem_append_right _ (List.mem_append_right _ (List.mem_append_right _ (List.mem_append_right _ (List.mem_append_right _ (List.mem_append_right _ (List.mem_append_right _ (List.mem_append_right _ (List.mem_append_right _ (List.mem_append_left _ h)))))))))))))))))))))))))))))))))))))))))))))))))))))))))))))
theorem inR_48 : ∀ w ∈ wsL_law0_r48, w ∈ wsL_law := fun _ h => inR_law _ (List.mem_append_left _ (List.mem_append_left _ (List.mem_append_left _ (List.mem_append_left _ (List.mem_append_left _ (List.mem_append_left _ (List.mem_append_left _ (List.mem_append_left _ (List.mem_append_left _ (List.mem_append_left _ (List.mem_append_left _ (List.mem_append_left _ (List.mem_append_left _ (List.mem_append_left _ (List.mem_append_right _ (List.mem_append_right _ (List.mem_append_right _ (List.mem_append_right _ (List.mem_append_right _ (List.mem_append_right _ (List.mem_append_right _ (List.mem_append_right _ (List.mem_append_right _ (List.mem_append_right _ (List.mem_append_right _ (List.mem_append_right _ (List.mem_append_right _ (List.mem_append_right _ (List.mem_append_right _ (List.mem_append_right _ (List.mem_append_right _ (List.mem_append_right _ (List.mem_append_right _ (List.mem_append_right _ (List.mem_append_right _ (List.mem_append_right _ (List.mem_append_right _ (List.mem_append_right _ (List.mem_append_right _ (List.mem_append_right _ (List.mem_append_right _ (List.mem_append_right _ (List.mem_append_right _ (List.mem_append_right _ (List.mem_append_right _ (List.mem_append_right _ (List.mem_append_right _ (List.mem_append_right _ (List.mem_append_right _ (List.mem_append_right _ (List.mem_append_right _ (List.mem_append_right _ (List.mem_append_right _ (List.mem_append_right _ (List.mem_append_right _ (List.mem_append_right _ (List.mem_append_right _ (List.mem_append_right _ (List.mem_append_right _ (List.mem_append_right _ (List.mem_append_right _ (List.mem_append_left _ h))))))))))))))))))))))))))))))))))))))))))))))))))))))))))))))
theorem inR_49 : ∀ w ∈ wsL_law0_r49, w ∈ wsL_law := fun _ h => inR_law _ (List.mem_append_left _ (List.mem_append_left _ (List.mem_append_left _ (List.mem_append_left _ (List.mem_append_left _ (List.mem_append_left _ (List.mem_append_left _ (List.mem_append_left _ (List.mem_append_left _ (List.mem_append_left _ (List.mem_append_left _ (List.mem_append_left _ (List.mem_append_left _ (List.mem_append_left _ (List.mem_append_right _ (List.mem_append_right _ (List.mem_append_right _ (List.mem_append_right _ (List.mem_append_right _ (List.mem_append_right _ (List.mem_append_right _ (List.mem_append_right _ (List.mem_append_right _ (List.mem_append_right _ (List.mem_append_right _ (List.mem_append_right _ (List.mem_append_right _ (List.mem_append_right _ (List.mem_append_right _ (List.mem_append_right _ (List.mem_append_right _ (List.mem_append_right _ (List.mem_append_right _ (List.mem_append_right _ (List.mem_append_right _ (List.mem_append_right _ (List.mem_append_right _ (List.mem_append_right _ (List.mem_append_right _ (List.mem_append_right _ (List.mem_append_right _ (List.mem_append_right _ (List.mem_append_right _ (List.mem_append_right _ (List.mem_append_right _ (List.mem_append_right _ (List.mem_append_right _ (List.mem_append_right _ (List.mem_append_right _ (List.mem_append_right _ (List.mem_append_right _ (List.mem_append_right _ (List.mem_append_right _ (List.mem_append_right _ (List.mem_append_right _ (List.mem_append_right _ (List.mem_append_right _ (List.mem_append_right _ (List.mem_append_right _ (List.mem_append_right _ (List.mem_append_right _ (List.mem_append_right _ (List.mem_append_left _ h)))))))))))))))))))))))))))))))))))))))))))))))))))))))))))))))
theorem inR_50 : ∀ w ∈ wsL_law0_r50, w ∈ wsL_law := fun _ h => inR_law _ (List.mem_append_left _ (List.mem_append_left _ (List.mem_append_left _ (List.mem_append_left _ (List.mem_append_left _ (List.mem_append_left _ (List.mem_append_left _ (List.mem_append_left _ (List.mem_append_left _ (List.mem_append_left _ (List.mem_append_left _ (List.mem_append_left _ (List.mem_append_left _ (List.mem_append_left _ (List.mem_append_right _ (List.mem_append_right _ (List.mem_append_right _ (List.mem_append_right _ (List.mem_append_right _ (List.mem_append_right _ (List.mem_append_right _ (List.mem_append_right _ (List.mem_append_right _ (List.mem_append_right _ (List.mem_append_right _ (List.mem_append_right _ (List.mem_append_right _ (List.mem_append_right _ (List.mem_append_right _ (List.mem_append_right _ (List.mem_append_right _ (List.mem_append_right _ (List.mem_append_right _ (List.mem_append_right _ (List.mem_append_right _ (List.mem_append_right _ (List.mem_append_right _ (List.mem_append_right _ (List.mem_append_right _ (List.mem_append_right _ (List.mem_append_right _ (List.mem_append_right _ (List.mem_append_right _ (List.mem_append_right _ (List.mem_append_right _ (List.mem_append_right _ (List.mem_append_right _ (List.mem_append_right _ (List.mem_append_right _ (List.mem_append_right _ (List.mem_append_right _ (List.mem_append_right _ (List.mem_append_right _ (List.mem_append_right _ (List.mem_append_right _ (List.mem_append_right _ (List.mem_append_right _ (List.mem_append_right _ (List.mem_append_right _ (List.mem_append_right _ (List.mem_append_right _ (List.mem_append_right _ (List.mem_append_right _ (List.mem_append_left _ h))))))))))))))))))))))))))))))))))))))))))))))))))))))))))))))))
theorem inR_51 : ∀ w ∈ wsL_law0_r51, w ∈ wsL_law := fun _ h => inR_law _ (List.mem_append_left _ (List.mem_append_left _ (List.mem_append_left _ (List.mem_append_left _ (List.mem_append_left _ (List.mem_append_left _ (List.mem_append_left _ (List.mem_append_left _ (List.mem_append_left _ (List.mem_append_left _ (List.mem_append_left _ (List.mem_append_left _ (List.mem_append_left _ (List.mem_append_left _ (List.mem_append_right _ (List.mem_append_right _ (List.mem_append_right _ (List.mem_append_right _ (List.mem_append_right _ (List.mem_append_right _ (List.mem_append_right _ (List.mem_append_right _ (List.mem_append_right _ (List.mem_append_right _ (List.mem_append_right _ (List.mem_append_right _ (List.mem_append_right _ (List.mem_append_right _ (List.mem_append_right _ (List.mem_append_right _ (List.mem_append_right _ (List.mem_append_right _ (List.mem_append_right _ (List.mem_append_right _ (List.mem_append_right _ (List.mem_append_right _ (List.mem_append_right _ (List.mem_append_right _ (List.mem_append_right _ (List.mem_append_right _ (List.mem_append_right _ (List.mem_append_right _ (List.mem_append_right _ (List.mem_append_right _ (List.mem_append_right _ (List.mem_append_right _ (List.mem_append_right _ (List.mem_append_right _ (List.mem_append_right _ (List.mem_append_right _ (List.mem_append_right _ (List.mem_append_right _ (List.mem_append_right _ (List.mem_append_right _ (List.mem_append_right _ (List.mem_append_right _ (List.mem_append_right _ (List.mem_append_right _ (List.mem_append_right _ (List.mem_append_right _ (List.mem_append_right _ (List.mem_append_right _ (List.mem_append_right _ (List.mem_append_right _ (List.mem_append_left _ h)))))))))))))))))))))))))))))))))))))))))))))))))))))))))))))))))
theorem inR_52 : ∀ w ∈ wsL_law0_r52, w ∈ wsL_law := fun _ h => inR_law _ (List.mem_append_left _ (List.mem_append_left _ (List.mem_append_left _ (List.mem_append_left _ (List.mem_append_left _ (List.mem_append_left _ (List.mem_append_left _ (List.mem_append_left _ (List.mem_append_left _ (List.mem_append_left _ (List.mem_append_left _ (List.mem_append_left _ (List.mem_append_left _ (List.mem_append_left _ (List.mem_append_right _ (List.mem_append_right _ (List.mem_append_right _ (List.mem_append_right _ (List.mem_append_right _ (List.mem_append_right _ (List.mem_append_right _ (List.mem_append_right _ (List.mem_append_right _ (List.mem_append_right _ (List.mem_append_right _ (List.mem_append_right _ (List.mem_append_right _ (List.mem_append_right _ (List.mem_append_right _ (List.mem_append_right _ (List.mem_append_right _ (List.mem_append_right _ (List.mem_append_right _ (List.mem_append_right _ (List.mem_append_right _ (List.mem_append_right _ (List.mem_append_right _ (List.mem_append_right _ (List.mem_append_right _ (List.mem_append_right _ (List.mem_append_right _ (List.mem_append_right _ (List.mem_append_right _ (List.mem_append_right _ (List.mem_append_right _ (List.mem_append_right _ (List.mem_append_right _ (List.mem_append_right _ (List.mem_append_right _ (List.mem_append_right _ (List.mem_append_right _ (List.mem_append_right _ (List.mem_append_right _ (List.mem_append_right _ (List.mem_append_right _ (List.mem_append_right _ (List.mem_append_right _ (List.mem_append_right _ (List.mem_append_right _ (List.mem_append_right _ (List.mem_append_right _ (List.mem_append_right _ (List.mem_append_right _ (List.mem_append_right _ (List.mem_append_right _ (List.mem_append_left _ h))))))))))))))))))))))))))))))))))))))))))))))))))))))))))))))))))
theorem inR_53 : ∀ w ∈ wsL_law0_r53, w ∈ wsL_law := fun _ h => inR_law _ (List.mem_append_left _ (List.mem_append_left _ (List.mem_append_left _ (List.mem_append_left _ (List.mem_append_left _ (List.mem_append_left _ (List.mem_append_left _ (List.mem_append_left _ (List.mem_append_left _ (List.mem_append_left _ (List.mem_append_left _ (List.mem_append_left _ (List.mem_append_left _ (List.mem_append_left _ (List.mem_append_right _ (List.mem_append_right _ (List.mem_append_right _ (List.mem_append_right _ (List.mem_append_right _ (List.mem_append_right _ (List.mem_append_right _ (List.mem_append_right _ (List.mem_append_right _ (List.mem_append_right _ (List.mem_append_right _ (List.mem_append_right _ (List.mem_append_right _ (List.mem_append_right _ (List.mem_append_right _ (List.mem_append_right _ (List.mem_append_right _ (List.mem_append_right _ (List.mem_append_right _ (List.mem_append_right _ (List.mem_append_right _ (List.mem_append_right _ (List.mem_append_right _ (List.mem_append_right _ (List.mem_append_right _ (List.mem_append_right _ (List.mem_append_right _ (List.mem_append_right _ (List.mem_append_right _ (List.mem_append_right _ (List.mem_append_right _ (List.mem_append_right _ (List.mem_append_right _ (List.mem_append_right _ (List.mem_append_right _ (List.mem_append_right _ (List.mem_append_right _ (List.mem_append_right _ (List.mem_append_right _ (List.mem_append_right _ (List.mem_append_right _ (List.mem_append_right _ (List.mem_append_right _ (List.mem_append_right _ (List.mem_append_right _ (List.mem_append_right _ (List.mem_append_right _ (List.mem_append_right _ (List.mem_append_right _ (List.mem_append_right _ (List.mem_append_right _ (List.mem_append_right _ (List.mem_append_left _ h)))))))))))))))))))))))))))))))))))))))))))))))))))))))))))))))))))
theorem inR_54 : ∀ w ∈ wsL_law0_r54, w ∈ wsL_law := fun _ h => inR_law _ (List.mem_append_left _ (List.mem_append_left _ (List.mem_append_left _ (List.mem_append_left _ (List.mem_append_left _ (List.mem_append_left _ (List.mem_append_left _ (List.mem_append_left _ (List.mem_append_left _ (List.mem_append_left _ (List.mem_append_left _ (List.mem_append_left _ (List.mem_append_left _ (List.mem_append_left _ (List.mem_append_right _ (List.mem_append_right _ (List.mem_append_right _ (List.mem_append_right _ (List.mem_append_right _ (List.mem_append_right _ (List.mem_append_right _ (List.mem_append_right _ (List.mem_append_right _ (List.mem_append_right _ (List.mem_append_right _ (List.mem_append_right _ (List.mem_append_right _ (List.mem_append_right _ (List.mem_append_right _ (List.mem_append_right _ (List.mem_append_right _ (List.mem_append_right _ (List.mem_append_right _ (List.mem_append_right _ (List.mem_append_right _ (List.mem_append_right _ (List.mem_append_right _ (List.mem_append_right _ (List.mem_append_right _ (List.mem_append_right _ (List.mem_append_right _ (List.mem_append_right _ (List.mem_append_right _ (List.mem_append_right _ (List.mem_append_right _ (List.mem_append_right _ (List.mem_append_right _ (List.mem_append_right _ (List.mem_append_right _ (List.mem_append_right _ (List.mem_append_right _ (List.mem_append_right _ (List.mem_append_right _ (List.mem_append_right _ (List.mem_append_right _ (List.mem_append_right _ (List.mem_append_right _ (List.mem_append_right _ (List.mem_append_right _ (List.mem_append_right _ (List.mem_append_right _ (List.mem_append_right _ (List.mem_append_right _ (List.mem_append_right _ (List.mem_append_right _ (List.mem_append_right _ (List.mem_append_right _ (List.mem_append_left _ h))))))))))))))))))))))))))))))))))))))))))))))))))))))))))))))))))))
theorem inR_55 : ∀ w ∈ wsL_law0_r55, w ∈ wsL_law := fun _ h => inR_law _ (List.mem_append_left _ (List.mem_append_left _ (List.mem_append_left _ (List.mem_append_left _ (List.mem_append_left _ (List.mem_append_left _ (List.mem_append_left _ (List.mem_append_left _ (List.mem_append_left _ (List.mem_append_left _ (List.mem_append_left _ (List.mem_append_left _ (List.mem_append_left _ (List.mem_append_left _ (List.mem_append_right _ (List.mem_append_right _ (List.mem_append_right _ (List.mem_append_right _ (List.mem_append_right _ (List.mem_append_right _ (List.mem_append_right _ (List.mem_append_right _ (List.mem_append_right _ (List.mem_append_right _ (List.mem_append_right _ (List.mem_append_right _ (List.mem_append_right _ (List.mem_append_right _ (List.mem_append_right _ (List.mem_append_right _ (List.mem_append_right _ (List.mem_append_right _ (List.mem_append_right _ (List.mem_append_right _ (List.mem_append_right _ (List.mem_append_right _ (List.mem_append_right _ (List.mem_append_right _ (List.mem_append_right _ (List.mem_append_right _ (List.mem_append_right _ (List.mem_append_right _ (List.mem_append_right _ (List.mem_append_right _ (List.mem_append_right _ (List.mem_append_right _ (List.mem_append_right _ (List.mem_append_right _ (List.mem_append_right _ (List.mem_append_right _ (List.mem_append_right _ (List.mem_append_right _ (List.mem_append_right _ (List.mem_append_right _ (List.mem_append_right _ (List.mem_append_right _ (List.mem_append_right _ (List.mem_append_right _ (List.mem_append_right _ (List.mem_append_right _ (List.mem_append_right _ (List.mem_append_right _ (List.mem_append_right _ (List.mem_append_right _ (List.mem_append_right _ (List.mem_append_right _ (List.mem_append_right _ (List.mem_append_right _ (List.mem_append_left _ h)))))))))))))))))))))))))))))))))))))))))))))))))))))))))))))))))))))
theorem inR_56 : ∀ w ∈ wsL_law0_r56, w ∈ wsL_law := fun _ h => inR_law _ (List.mem_append_left _ (List.mem_append_left _ (List.mem_append_left _ (List.mem_append_left _ (List.mem_append_left _ (List.mem_append_left _ (List.mem_append_left _ (List.mem_append_left _ (List.mem_append_left _ (List.mem_append_left _ (List.mem_append_left _ (List.mem_append_left _ (List.mem_append_left _ (List.mem_append_left _ (List.mem_append_right _ (List.mem_append_right _ (List.mem_append_right _ (List.mem_append_right _ (List.mem_append_right _ (List.mem_append_right _ (List.mem_append_right _ (List.mem_append_right _ (List.mem_append_right _ (List.mem_append_right _ (List.mem_append_right _ (List.mem_append_right _ (List.mem_append_right _ (List.mem_append_right _ (List.mem_append_right _ (List.mem_append_right _ (List.mem_append_right _ (List.mem_append_right _ (List.mem_append_right _ (List.mem_append_right _ (List.mem_append_right _ (List.mem_append_right _ (List.mem_append_right _ (List.mem_append_right _ (List.mem_append_right _ (List.mem_append_right _ (List.mem_append_right _ (List.mem_append_right _ (List.mem_append_right _ (List.mem_append_right _ (List.mem_append_right _ (List.mem_append_right _ (List.mem_append_right _ (List.mem_append_right _ (List.mem_append_right _ (List.mem_append_right _ (List.mem_append_right _ (List.mem_append_right _ (List.mem_append_right _ (List.mem_append_right _ (List.mem_append_right _ (List.mem_append_right _ (List.mem_append_right _ (List.mem_append_right _ (List.mem_append_right _ (List.mem_append_right _ (List.mem_append_right _ (List.mem_append_right _ (List.mem_append_right _ (List.mem_append_right _ (List.mem_append_right _ (List.mem_append_right _ (List.mem_append_right _ (List.mem_append_right _ (List.mem_append_right _ (List.mem_append_left _ h))))))))))))))))))))))))))))))))))))))))))))))))))))))))))))))))))))))
theorem inR_57 : ∀ w ∈ wsL_law0_r57, w ∈ wsL_law := fun _ h => inR_law _ (List.mem_append_left _ (List.mem_append_left _ (List.mem_append_left _ (List.mem_append_left _ (List.mem_append_left _ (List.mem_append_left _ (List.mem_append_left _ (List.mem_append_left _ (List.mem_append_left _ (List.mem_append_left _ (List.mem_append_left _ (List.mem_append_left _ (List.mem_append_left _ (List.mem_append_left _ (List.mem_append_right _ (List.mem_append_right _ (List.mem_append_right _ (List.mem_append_right _ (List.mem_append_right _ (List.mem_append_right _ (List.mem_append_right _ (List.mem_append_right _ (List.mem_append_right _ (List.mem_append_right _ (List.mem_append_right _ (List.mem_append_right _ (List.mem_append_right _ (List.mem_append_right _ (List.mem_append_right _ (List.mem_append_right _ (List.mem_append_right _ (List.mem_append_right _ (List.mem_append_right _ (List.mem_append_right _ (List.mem_append_right _ (List.mem_append_right _ (List.mem_append_right _ (List.mem_append_right _ (List.mem_append_right _ (List.mem_append_right _ (List.mem_append_right _ (List.mem_append_right _ (List.mem_append_right _ (List.mem_append_right _ (List.mem_append_right _ (List.mem_append_right _ (List.mem_append_right _ (List.mem_append_right _ (List.mem_append_right _ (List.mem_append_right _ (List.mem_append_right _ (List.mem_append_right _ (List.mem_append_right _ (List.mem_append_right _ (List.mem_append_right _ (List.mem_append_right _ (List.mem_append_right _ (List.mem_append_right _ (List.mem_append_right _ (List.mem_append_right _ (List.mem_append_right _ (List.mem_append_right _ (List.mem_append_right _ (List.mem_append_right _ (List.mem_append_right _ (List.mem_append_right _ (List.mem_append_right _ (List.mem_append_right _ (List.mem_append_right _ (List.mem_append_right _ (List.mem_append_left _ h)))))))))))))))))))))))))))))))))))))))))))))))))))))))))))))))))))))))
theorem inR_58 : ∀ w ∈ wsL_law0_r58, w ∈ wsL_law := fun _ h => inR_law _ (List.mem_append_left _ (List.mem_append_left _ (List.mem_append_left _ (List.mem_append_left _ (List.mem_append_left _ (List.mem_append_left _ (List.mem_append_left _ (List.mem_append_left _ (List.mem_append_left _ (List.mem_append_left _ (List.mem_append_left _ (List.mem_append_left _ (List.mem_append_left _ (List.mem_append_left _ (List.mem_append_right _ (List.mem_append_right _ (List.mem_append_right _ (List.mem_append_right _ (List.mem_append_right _ (List.mem_append_right _ (List.mem_append_right _ (List.mem_append_right _ (List.mem_append_right _ (List.mem_append_right _ (List.mem_append_right _ (List.mem_append_right _ (List.mem_append_right _ (List.mem_append_right _ (List.mem_append_right _ (List.mem_append_right _ (List.mem_append_right _ (List.mem_append_right _ (List.mem_append_right _ (List.mem_append_right _ (List.mem_append_right _ (List.mem_append_right _ (List.mem_append_right _ (List.mem_append_right _ (List.mem_append_right _ (List.mem_append_right _ (List.mem_append_right _ (List.mem_append_right _ (List.mem_append_right _ (List.mem_append_right _ (List.mem_append_right _ (List.mem_append_right _ (List.mem_append_right _ (List.mem_append_right _ (List.mem_append_right _ (List.mem_append_right _ (List.mem_append_right _ (List.mem_append_right _ (List.mem_append_right _ (List.mem_append_right _ (List.mem_append_right _ (List.mem_append_right _ (List.mem_append_right _ (List.mem_append_right _ (List.mem_append_right _ (List.mem_append_right _ (List.mem_append_right _ (List.mem_append_right _ (List.mem_append_right _ (List.mem_append_right _ (List.mem_append_right _ (List.mem_append_right _ (List.mem_append_right _ (List.mem_append_right _ (List.mem_append_right _ (List.mem_append_right _ (List.mem_append_right _ (List.mem_append_left _ h))))))))))))))))))))))))))))))))))))))))))))))))))))))))))))))))))))))))
theorem inR_59 : ∀ w ∈ wsL_law0_r59, w ∈ wsL_law := fun _ h => inR_law _ (List.mem_append_left _ (List.mem_append_left _ (List.mem_append_left _ (List.mem_append_left _ (List.mem_append_left _ (List.mem_append_left _ (List.mem_append_left _ (List.mem_append_left _ (List.mem_append_left _ (List.mem_append_left _ (List.mem_append_left _ (List.mem_append_left _ (List.mem_append_left _ (List.mem_append_left _ (List.mem_append_right _ (List.mem_append_right _ (List.mem_append_right _ (List.mem_append_right _ (List.mem_append_right _ (List.mem_append_right _ (List.mem_append_right _ (List.mem_append_right _ (List.mem_append_right _ (List.mem_append_right _ (List.mem_append_right _ (List.mem_append_right _ (List.mem_append_right _ (List.mem_append_right _ (List.mem_append_right _ (List.mem_append_right _ (List.mem_append_right _ (List.mem_append_right _ (List.mem_append_right _ (List.mem_append_right _ (List.mem_append_right _ (List.mem_append_right _ (List.mem_append_right _ (List.mem_append_right _ (List.mem_append_right _ (List.mem_append_right _ (List.mem_append_right _ (List.mem_append_right _ (List.mem_append_right _ (List.mem_append_right _ (List.mem_append_right _ (List.mem_append_right _ (List.mem_append_right _ (List.mem_append_right _ (List.mem_append_right _ (List.mem_append_right _ (List.mem_append_right _ (List.mem_append_right _ (List.mem_append_right _ (List.mem_append_right _ (List.mem_append_right _ (List.mem_append_right _ (List.mem_append_right _ (List.mem_append_right _ (List.mem_append_right _ (List.mem_append_right _ (List.mem_append_right _ (List.mem_append_right _ (List.mem_append_right _ (List.mem_append_right _ (List.mem_append_right _ (List.mem_append_right _ (List.mem_append_right _ (List.mem_append_right _ (List.mem_append_right _ (List.mem_append_right _ (List.mem_append_right _ (List.mem_append_right _ (List.mem_append_left _ h)))))))))))))))))))))))))))))))))))))))))))))))))))))))))))))))))))))))))
theorem inR_60 : ∀ w ∈ wsL_law0_r60, w ∈ wsL_law := fun _ h => inR_law _ (List.mem_append_left _ (List.mem_append_left _ (List.mem_append_left _ (List.mem_append_left _ (List.mem_append_left _ (List.mem_append_left _ (List.mem_append_left _ (List.mem_append_left _ (List.mem_append_left _ (List.mem_append_left _ (List.mem_append_left _ (List.mem_append_left _ (List.mem_append_left _ (List.mem_append_left _ (List.mem_append_right _ (List.mem_append_right _ (List.mem_append_right _ (List.mem_append_right _ (List.mem_append_right _ (List.mem_append_right _ (List.mem_append_right _ (List.mem_append_right _ (List.mem_append_right _ (List.mem_append_right _ (List.mem_append_right _ (List.mem_append_right _ (List.mem_append_right _ (List.mem_append_right _ (List.mem_append_right _ (List.mem_append_right _ (List.mem_append_right _ (List.mem_append_right _ (List.mem_append_right _ (List.mem_append_right _ (List.mem_append_right _ (List.mem_append_right _ (List.mem_append_right _ (List.mem_append_right _ (List.mem_append_right _ (List.mem_append_right _ (List.mem_append_right _ (List.mem_append_right _ (List.mem_append_right _ (List.mem_append_right _ (List.mem_append_right _ (List.mem_append_right _ (List.mem_append_right _ (List.mem_append_right _ (List.mem_append_right _ (List.mem_append_right _ (List.mem_append_right _ (List.mem_append_right _ (List.mem_append_right _ (List.mem_append_right _ (List.mem_append_right _ (List.mem_append_right _ (List.mem_append_right _ (List.mem_append_right _ (List.mem_append_right _ (List.mem_append_right _ (List.mem_append_right _ (List.mem_append_right _ (List.mem_append_right _ (List.mem_append_right _ (List.mem_append_right _ (List.mem_append_right _ (List.mem_append_right _ (List.mem_append_right _ (List.mem_append_right _ (List.mem_append_right _ (List.mem_append_right _ (List.mem_append_right _ (List.mem_append_right _ (List.mem_append_left _ h))))))))))))))))))))))))))))))))))))))))))))))))))))))))))))))))))))))))))
theorem inR_61 : ∀ w ∈ wsL_law0_r61, w ∈ wsL_law := fun _ h => inR_law _ (List.mem_append_left _ (List.mem_append_left _ (List.mem_append_left _ (List.mem_append_left _ (List.mem_append_left _ (List.mem_append_left _ (List.mem_append_left _ (List.mem_append_left _ (List.mem_append_left _ (List.mem_append_left _ (List.mem_append_left _ (List.mem_append_left _ (List.mem_append_left _ (List.mem_append_left _ (List.mem_append_right _ (List.mem_append_right _ (List.mem_append_right _ (List.mem_append_right _ (List.mem_append_right _ (List.mem_append_right _ (List.mem_append_right _ (List.mem_append_right _ (List.mem_append_right _ (List.mem_append_right _ (List.mem_append_right _ (List.mem_append_right _ (List.mem_append_right _ (List.mem_append_right _ (List.mem_append_right _ (List.mem_append_right _ (List.mem_append_right _ (List.mem_append_right _ (List.mem_append_right _ (List.mem_append_right _ (List.mem_append_right _ (List.mem_append_right _ (List.mem_append_right _ (List.mem_append_right _ (List.mem_append_right _ (List.mem_append_right _ (List.mem_append_right _ (List.mem_append_right _ (List.mem_append_right _ (List.mem_append_right _ (List.mem_append_right _ (List.mem_append_right _ (List.mem_append_right _ (List.mem_append_right _ (List.mem_append_right _ (List.mem_append_right _ (List.mem_append_right _ (List.mem_append_right _ (List.mem_append_right _ (List.mem_append_right _ (List.mem_append_right _ (List.mem_append_right _ (List.mem_append_right _ (List.mem_append_right _ (List.mem_append_right _ (List.mem_append_right _ (List.mem_append_right _ (List.mem_append_right _ (List.mem_append_right _ (List.mem_append_right _ (List.mem_append_right _ (List.mem_append_right _ (List.mem_append_right _ (List.mem_append_right _ (List.mem_append_right _ (List.mem_append_right _ (List.mem_append_right _ (List.mem_append_right _ (List.mem_append_right _ (List.mem_append_right _ (List.mem_append_left _ h)))))))))))))))))))))))))))))))))))))))))))))))))))))))))))))))))))))))))))
theorem inR_62 : ∀ w ∈ wsL_law0_r62, w ∈ wsL_law := fun _ h => inR_law _ (List.mem_append_left _ (List.mem_append_left _ (List.mem_append_left _ (List.mem_append_left _ (List.mem_append_left _ (List.mem_append_left _ (List.mem_append_left _ (List.mem_append_left _ (List.mem_append_left _ (List.mem_append_left _ (List.mem_append_left _ (List.mem_append_left _ (List.mem_append_left _ (List.mem_append_left _ (List.mem_append_right _ (List.mem_append_right _ (List.mem_append_right _ (List.mem_append_right _ (List.mem_append_right _ (List.mem_append_right _ (List.mem_append_right _ (List.mem_append_right _ (List.mem_append_right _ (List.mem_append_right _ (List.mem_append_right _ (List.mem_append_right _ (List.mem_append_right _ (List.mem_append_right _ (List.mem_append_right _ (List.mem_append_right _ (List.mem_append_right _ (List.mem_append_right _ (List.mem_append_right _ (List.mem_append_right _ (List.mem_append_right _ (List.mem_append_right _ (List.mem_append_right _ (List.mem_append_right _ (List.mem_append_right _ (List.mem_append_right _ (List.mem_append_right _ (List.mem_append_right _ (List.mem_append_right _ (List.mem_append_right _ (List.mem_append_right _ (List.mem_append_right _ (List.mem_append_right _ (List.mem_append_right _ (List.mem_append_right _ (List.mem_append_right _ (List.mem_append_right _ (List.mem_append_right _ (List.mem_append_right _ (List.mem_append_right _ (List.mem_append_right _ (List.mem_append_right _ (List.mem_append_right _ (List.mem_append_right _ (List.mem_append_right _ (List.mem_append_right _ (List.mem_append_right _ (List.mem_append_right _ (List.mem_append_right _ (List.mem_append_right _ (List.mem_append_right _ (List.mem_append_right _ (List.mem_append_right _ (List.mem_append_right _ (List.mem_append_right _ (List.mem_append_right _ (List.mem_append_right _ (List.mem_append_right _ (List.mem_append_right _ (List.mem_append_right _ (List.mem_append_right _ (List.mem_append_left _ h))))))))))))))))))))))))))))))))))))))))))))))))))))))))))))))))))))))))))))
theorem inR_63 : ∀ w ∈ wsL_law0_r63, w ∈ wsL_law := fun _ h => inR_law _ (List.mem_append_left _ (List.mem_append_left _ (List.mem_append_left _ (List.mem_append_left _ (List.mem_append_left _ (List.mem_append_left _ (List.mem_append_left _ (List.mem_append_left _ (List.mem_append_left _ (List.mem_append_left _ (List.mem_append_left _ (List.mem_append_left _ (List.mem_append_left _ (List.mem_append_left _ (List.mem_append_right _ (List.mem_append_right _ (List.mem_append_right _ (List.mem_append_right _ (List.mem_append_right _ (List.mem_append_right _ (List.mem_append_right _ (List.mem_append_right _ (List.mem_append_right _ (List.mem_append_right _ (List.mem_append_right _ (List.mem_append_right _ (List.mem_append_right _ (List.mem_append_right _ (List.mem_append_right _ (List.mem_append_right _ (List.mem_append_right _ (List.mem_append_right _ (List.mem_append_right _ (List.mem_append_right _ (List.mem_append_right _ (List.mem_append_right _ (List.mem_append_right _ (List.mem_append_right _ (List.mem_append_right _ (List.mem_append_right _ (List.mem_append_right _ (List.mem_append_right _ (List.mem_append_right _ (List.mem_append_right _ (List.mem_append_right _ (List.mem_append_right _ (List.mem_append_right _ (List.mem_append_right _ (List.mem_append_right _ (List.mem_append_right _ (List.mem_append_right _ (List.mem_append_right _ (List.mem_append_right _ (List.mem_append_right _ (List.mem_append_right _ (List.mem_append_right _ (List.mem_append_right _ (List.mem_append_right _ (List.mem_append_right _ (List.mem_append_right _ (List.mem_append_right _ (List.mem_append_right _ (List.mem_append_right _ (List.mem_append_right _ (List.mem_append_right _ (List.mem_append_right _ (List.mem_append_right _ (List.mem_append_right _ (List.mem_append_right _ (List.mem_append_right _ (List.mem_append_right _ (List.mem_append_right _ (List.mem_append_right _ (List.mem_append_right _ (List.mem_append_right _ (List.mem_append_right _ (List.mem_append_left _ h)))))))))))))))))))))))))))))))))))))))))))))))))))))))))))))))))))))))))))))
theorem inR_64 : ∀ w ∈ wsL_law0_r64, w ∈ wsL_law := fun _ h => inR_law _ (List.mem_append_left _ (List.mem_append_left _ (List.mem_append_left _ (List.mem_append_left _ (List.mem_append_left _ (List.mem_append_left _ (List.mem_append_left _ (List.mem_append_left _ (List.mem_append_left _ (List.mem_append_left _ (List.mem_append_left _ (List.mem_append_left _ (List.mem_append_left _ (List.mem_append_left _ (List.mem_append_right _ (List.mem_append_right _ (List.mem_append_right _ (List.mem_append_right _ (List.mem_append_right _ (List.mem_append_right _ (List.mem_append_right _ (List.mem_append_right _ (List.mem_append_right _ (List.mem_append_right _ (List.mem_append_right _ (List.mem_append_right _ (List.mem_append_right _ (List.mem_append_right _ (List.mem_append_right _ (List.mem_append_right _ (List.mem_append_right _ (List.mem_append_right _ (List.mem_append_right _ (List.mem_append_right _ (List.mem_append_right _ (List.mem_append_right _ (List.mem_append_right _ (List.mem_append_right _ (List.mem_append_right _ (List.mem_append_right _ (List.mem_append_right _ (List.mem_append_right _ (List.mem_append_right _ (List.mem_append_right _ (List.mem_append_right _ (List.mem_append_right _ (List.mem_append_right _ (List.mem_append_right _ (List.mem_append_right _ (List.mem_append_right _ (List.mem_append_right _ (List.mem_append_right _ (List.mem_append_right _ (List.mem_append_right _ (List.mem_append_right _ (List.mem_append_right _ (List.mem_append_right _ (List.mem_append_right _ (List.mem_append_right _ (List.mem_append_right _ (List.mem_append_right _ (List.mem_append_right _ (List.mem_append_right _ (List.mem_append_right _ (List.mem_append_right _ (List.mem_append_right _ (List.mem_append_right _ (List.mem_append_right _ (List.mem_append_right _ (List.mem_append_right _ (List.mem_append_right _ (List.mem_append_right _ (List.mem_append_right _ (List.mem_append_right _ (List.mem_append_right _ (List.mem_append_right _ (List.mem_append_right _ (List.mem_append_left _ h))))))))))))))))))))))))))))))))))))))))))))))))))))))))))))))))))))))))))))))
theorem inR_65 : ∀ w ∈ wsL_law0_r65, w ∈ wsL_law := fun _ h => inR_law _ (List.mem_append_left _ (List.mem_append_left _ (List.mem_append_left _ (List.mem_append_left _ (List.mem_append_left _ (List.mem_append_left _ (List.mem_append_left _ (List.mem_append_left _ (List.mem_append_left _ (List.mem_append_left _ (List.mem_append_left _ (List.mem_append_left _ (List.mem_append_left _ (List.mem_append_left _ (List.mem_append_right _ (List.mem_append_right _ (List.mem_append_right _ (List.mem_append_right _ (List.mem_append_right _ (List.mem_append_right _ (List.mem_append_right _ (List.mem_append_right _ (List.mem_append_right _ (List.mem_append_right _ (List.mem_append_right _ (List.mem_append_right _ (List.mem_append_right _ (List.mem_append_right _ (List.mem_append_right _ (List.mem_append_right _ (List.mem_append_right _ (List.mem_append_right _ (List.mem_append_right _ (List.mem_append_right _ (List.mem_append_right _ (List.mem_append_right _ (List.mem_append_right _ (List.mem_append_right _ (List.mem_append_right _ (List.mem_append_right _ (List.mem_append_right _ (List.mem_append_right _ (List.mem_append_right _ (List.mem_append_right _ (List.mem_append_right _ (List.mem_append_right _ (List.mem_append_right _ (List.mem_append_right _ (List.mem_append_right _ (List.mem_append_right _ (List.mem_append_right _ (List.mem_append_right _ (List.mem_append_right _ (List.mem_append_right _ (List.mem_append_right _ (List.mem_append_right _ (List.mem_append_right _ (List.mem_append_right _ (List.mem_append_right _ (List.mem_append_right _ (List.mem_append_right _ (List.mem_append_right _ (List.mem_append_right _ (List.mem_append_right _ (List.mem_append_right _ (List.mem_append_right _ (List.mem_append_right _ (List.mem_append_right _ (List.mem_append_right _ (List.mem_append_right _ (List.mem_append_right _ (List.mem_append_right _ (List.mem_append_right _ (List.mem_append_right _ (List.mem_append_right _ (List.mem_append_right _ (List.mem_append_right _ (List.mem_append_right _ (List.mem_append_left _ h)))))))))))))))))))))))))))))))))))))))))))))))))))))))))))))))))))))))))))))))
theorem inR_66 : ∀ w ∈ wsL_law0_r66, w ∈ wsL_law := fun _ h => inR_law _ (List.mem_append_left _ (List.mem_append_left _ (List.mem_append_left _ (List.mem_append_left _ (List.mem_append_left _ (List.mem_append_left _ (List.mem_append_left _ (List.mem_append_left _ (List.mem_append_left _ (List.mem_append_left _ (List.mem_append_left _ (List.mem_append_left _ (List.mem_append_left _ (List.mem_append_left _ (List.mem_append_right _ (List.mem_append_right _ (List.mem_append_right _ (List.mem_append_right _ (List.mem_append_right _ (List.mem_append_right _ (List.mem_append_right _ (List.mem_append_right _ (List.mem_append_right _ (List.mem_append_right _ (List.mem_append_right _ (List.mem_append_right _ (List.mem_append_right _ (List.mem_append_right _ (List.mem_append_right _ (List.mem_append_right _ (List.mem_append_right _ (List.mem_append_right _ (List.mem_append_right _ (List.mem_append_right _ (List.mem_append_right _ (List.mem_append_right _ (List.mem_append_right _ (List.mem_append_right _ (List.mem_append_right _ (List.mem_append_right _ (List.mem_append_right _ (List.mem_append_right _ (List.mem_append_right _ (List.mem_append_right _ (List.mem_append_right _ (List.mem_append_right _ (List.mem_append_right _ (List.mem_append_right _ (List.mem_append_right _ (List.mem_append_right _ (List.mem_append_right _ (List.mem_append_right _ (List.mem_append_right _ (List.mem_append_right _ (List.mem_append_right _ (List.mem_append_right _ (List.mem_append_right _ (List.mem_append_right _ (List.mem_append_right _ (List.mem_append_right _ (List.mem_append_right _ (List.mem_append_right _ (List.mem_append_right _ (List.mem_append_right _ (List.mem_append_right _ (List.mem_append_right _ (List.mem_append_right _ (List.mem_append_right _ (List.mem_append_right _ (List.mem_append_right _ (List.mem_append_right _ (List.mem_append_right _ (List.mem_append_right _ (List.mem_append_right _ (List.mem_append_right _ (List.mem_append_right _ (List.mem_append_right _ (List.mem_append_right _ (List.mem_append_right _ (List.mem_append_left _ h))))))))))))))))))))))))))))))))))))))))))))))))))))))))))))))))))))))))))))))))
theorem inR_67 : ∀ w ∈ wsL_law0_r67, w ∈ wsL_law := fun _ h => inR_law _ (List.mem_append_left _ (List.mem_append_left _ (List.mem_append_left _ (List.mem_append_left _ (List.mem_append_left _ (List.mem_append_left _ (List.mem_append_left _ (List.mem_append_left _ (List.mem_append_left _ (List.mem_append_left _ (List.mem_append_left _ (List.mem_append_left _ (List.mem_append_left _ (List.mem_append_left _ (List.mem_append_right _ (List.mem_append_right _ (List.mem_append_right _ (List.mem_append_right _ (List.mem_append_right _ (List.mem_append_right _ (List.mem_append_right _ (List.mem_append_right _ (List.mem_append_right _ (List.mem_append_right _ (List.mem_append_right _ (List.mem_append_right _ (List.mem_append_right _ (List.mem_append_right _ (List.mem_append_right _ (List.mem_append_right _ (List.mem_append_right _ (List.mem_append_right _ (List.mem_append_right _ (List.mem_append_right _ (List.mem_append_right _ (List.mem_append_right _ (List.mem_append_right _ (List.mem_append_right _ (List.mem_append_right _ (List.mem_append_right _ (List.mem_append_right _ (List.mem_append_right _ (List.mem_append_right _ (List.mem_append_right _ (List.mem_append_right _ (List.mem_append_right _ (List.mem_append_right _ (List.mem_append_right _ (List.mem_append_right _ (List.mem_append_right _ (List.mem_append_right _ (List.mem_append_right _ (List.mem_append_right _ (List.mem_append_right _ (List.mem_append_right _ (List.mem_append_right _ (List.mem_append_right _ (List.mem_append_right _ (List.mem_append_right _ (List.mem_append_right _ (List.mem_append_right _ (List.mem_append_right _ (List.mem_append_right _ (List.mem_append_right _ (List.mem_append_right _ (List.mem_append_right _ (List.mem_append_right _ (List.mem_append_right _ (List.mem_append_right _ (List.mem_append_right _ (List.mem_append_right _ (List.mem_append_right _ (List.mem_append_right _ (List.mem_append_right _ (List.mem_append_right _ (List.mem_append_right _ (List.mem_append_right _ (List.mem_append_right _ (List.mem_append_right _ (List.mem_append_right _ (List.mem_append_left _ h)))))))))))))))))))))))))))))))))))))))))))))))))))))))))))))))))))))))))))))))))
theorem inR_68 : ∀ w ∈ wsL_law0_r68, w ∈ wsL_law := fun _ h => inR_law _ (List.mem_append_left _ (List.mem_append_left _ (List.mem_append_left _ (List.mem_append_left _ (List.mem_append_left _ (List.mem_append_left _ (List.mem_append_left _ (List.mem_append_left _ (List.mem_append_left _ (List.mem_append_left _ (List.mem_append_left _ (List.mem_append_left _ (List.mem_append_left _ (List.mem_append_left _ (List.mem_append_right _ (List.mem_append_right _ (List.mem_append_right _ (List.mem_append_right _ (List.mem_append_right _ (List.mem_append_right _ (List.mem_append_right _ (List.mem_append_right _ (List.mem_append_right _ (List.mem_append_right _ (List.mem_append_right _ (List.mem_append_right _ (List.mem_append_right _ (List.mem_append_right _ (List.mem_append_right _ (List.mem_append_right _ (List.mem_append_right _ (List.mem_append_right _ (List.mem_append_right _ (List.mem_append_right _ (List.mem_append_right _ (List.mem_append_right _ (List.mem_append_right _ (List.mem_append_right _ (List.mem_append_right _ (List.mem_append_right _ (List.mem_append_right _ (List.mem_append_right _ (List.mem_append_right _ (List.mem_append_right _ (List.mem_append_right _ (List.mem_append_right _ (List.mem_append_right _ (List.mem_append_right _ (List.mem_append_right _ (List.mem_append_right _ (List.mem_append_right _ (List.mem_append_right _ (List.mem_append_right _ (List.mem_append_right _ (List.mem_append_right _ (List.mem_append_right _ (List.mem_append_right _ (List.mem_append_right _ (List.mem_append_right _ (List.mem_append_right _ (List.mem_append_right _ (List.mem_append_right _ (List.mem_append_right _ (List.mem_append_right _ (List.mem_append_right _ (List.mem_append_right _ (List.mem_append_right _ (List.mem_append_right _ (List.mem_append_right _ (List.mem_append_right _ (List.mem_append_right _ (List.mem_append_right _ (List.mem_append_right _ (List.mem_append_right _ (List.mem_append_right _ (List.mem_append_right _ (List.mem_append_right _ (List.mem_append_right _ (List.mem_append_right _ (List.mem_append_right _ (List.mem_append_right _ (List.mem_append_left _ h))))))))))))))))))))))))))))))))))))))))))))))))))))))))))))))))))))))))))))))))))
theorem inR_69 : ∀ w ∈ wsL_law0_r69, w ∈ wsL_law := fun _ h => inR_law _ (List.mem_append_left _ (List.mem_append_left _ (List.mem_append_left _ (List.mem_append_left _ (List.mem_append_left _ (List.mem_append_left _ (List.mem_append_left _ (List.mem_append_left _ (List.mem_append_left _ (List.mem_append_left _ (List.mem_append_left _ (List.mem_append_left _ (List.mem_append_left _ (List.mem_append_left _ (List.mem_append_right _ (List.mem_append_right _ (List.mem_append_right _ (List.mem_append_right _ (List.mem_append_right _ (List.mem_append_right _ (List.mem_append_right _ (List.mem_append_right _ (List.mem_append_right _ (List.mem_append_right _ (List.mem_append_right _ (List.mem_append_right _ (List.mem_append_right _ (List.mem_append_right _ (List.mem_append_right _ (List.mem_append_right _ (List.mem_append_right _ (List.mem_append_right _ (List.mem_append_right _ (List.mem_append_right _ (List.mem_append_right _ (List.mem_append_right _ (List.mem_append_right _ (List.mem_append_right _ (List.mem_append_right _ (List.mem_append_right _ (List.mem_append_right _ (List.mem_append_right _ (List.mem_append_right _ (List.mem_append_right _ (List.mem_append_right _ (List.mem_append_right _ (List.mem_append_right _ (List.mem_append_right _ (List.mem_append_right _ (List.mem_append_right _ (List.mem_append_right _ (List.mem_append_right _ (List.mem_append_right _ (List.mem_append_right _ (List.mem_append_right _ (List.mem_append_right _ (List.mem_append_right _ (List.mem_append_right _ (List.mem_append_right _ (List.mem_append_right _ (List.mem_append_right _ (List.mem_append_right _ (List.mem_append_right _ (List.mem_append_right _ (List.mem_append_right _ (List.mem_append_right _ (List.mem_append_right _ (List.mem_append_right _ (List.mem_append_right _ (List.mem_append_right _ (List.mem_append_right _ (List.mem_append_right _ (List.mem_append_right _ (List.mem_append_right _ (List.mem_append_right _ (List.mem_append_right _ (List.mem_append_right _ (List.mem_append_right _ (List.mem_append_right _ (List.mem_append_right _ (List.mem_append_right _ (List.mem_append_right _ (List.mem_append_left _ h)))))))))))))))))))))))))))))))))))))))))))))))))))))))))))))))))))))))))))))))))))
theorem inR_70 : ∀ w ∈ wsL_law0_r70, w ∈ wsL_law := fun _ h => inR_law _ (List.mem_append_left _ (List.mem_append_left _ (List.mem_append_left _ (List.mem_append_left _ (List.mem_append_left _ (List.mem_append_left _ (List.mem_append_left _ (List.mem_append_left _ (List.mem_append_left _ (List.mem_append_left _ (List.mem_append_left _ (List.mem_append_left _ (List.mem_append_left _ (List.mem_append_left _ (List.mem_append_right _ (List.mem_append_right _ (List.mem_append_right _ (List.mem_append_right _ (List.mem_append_right _ (List.mem_append_right _ (List.mem_append_right _ (List.mem_append_right _ (List.mem_append_right _ (List.mem_append_right _ (List.mem_append_right _ (List.mem_append_right _ (List.mem_append_right _ (List.mem_append_right _ (List.mem_append_right _ (List.mem_append_right _ (List.mem_append_right _ (List.mem_append_right _ (List.mem_append_right _ (List.mem_append_right _ (List.mem_append_right _ (List.mem_append_right _ (List.mem_append_right _ (List.mem_append_right _ (List.mem_append_right _ (List.mem_append_right _ (List.mem_append_right _ (List.mem_append_right _ (List.mem_append_right _ (List.mem_append_right _ (List.mem_append_right _ (List.mem_append_right _ (List.mem_append_right _ (List.mem_append_right _ (List.mem_append_right _ (List.mem_append_right _ (List.mem_append_right _ (List.mem_append_right _ (List.mem_append_right _ (List.mem_append_right _ (List.mem_append_right _ (List.mem_append_right _ (List.mem_append_right _ (List.mem_append_right _ (List.mem_append_right _ (List.mem_append_right _ (List.mem_append_right _ (List.mem_append_right _ (List.mem_append_right _ (List.mem_append_right _ (List.mem_append_right _ (List.mem_append_right _ (List.mem_append_right _ (List.mem_append_right _ (List.mem_append_right _ (List.mem_append_right _ (List.mem_append_right _ (List.mem_append_right _ (List.mem_append_right _ (List.mem_append_right _ (List.mem_append_right _ (List.mem_append_right _ (List.mem_append_right _ (List.mem_append_right _ (List.mem_append_right _ (List.mem_append_right _ (List.mem_append_right _ (List.mem_append_right _ (List.mem_append_right _ (List.mem_append_left _ h))))))))))))))))))))))))))))))))))))))))))))))))))))))))))))))))))))))))))))))))))))
theorem inR_71 : ∀ w ∈ wsL_law0_r71, w ∈ wsL_law := fun _ h => inR_law _ (List.mem_append_left _ (List.mem_append_left _ (List.mem_append_left _ (List.mem_append_left _ (List.mem_append_left _ (List.mem_append_left _ (List.mem_append_left _ (List.mem_append_left _ (List.mem_append_left _ (List.mem_append_left _ (List.mem_append_left _ (List.mem_append_left _ (List.mem_append_left _ (List.mem_append_left _ (List.mem_append_right _ (List.mem_append_right _ (List.mem_append_right _ (List.mem_append_right _ (List.mem_append_right _ (List.mem_append_right _ (List.mem_append_right _ (List.mem_append_right _ (List.mem_append_right _ (List.mem_append_right _ (List.mem_append_right _ (List.mem_append_right _ (List.mem_append_right _ (List.mem_append_right _ (List.mem_append_right _ (List.mem_append_right _ (List.mem_append_right _ (List.mem_append_right _ (List.mem_append_right _ (List.mem_append_right _ (List.mem_append_right _ (List.mem_append_right _ (List.mem_append_right _ (List.mem_append_right _ (List.mem_append_right _ (List.mem_append_right _ (List.mem_append_right _ (List.mem_append_right _ (List.mem_append_right _ (List.mem_append_right _ (List.mem_append_right _ (List.mem_append_right _ (List.mem_append_right _ (List.mem_append_right _ (List.mem_append_right _ (List.mem_append_right _ (List.mem_append_right _ (List.mem_append_right _ (List.mem_append_right _ (List.mem_append_right _ (List.mem_append_right _ (List.mem_append_right _ (List.mem_append_right _ (List.mem_append_right _ (List.mem_append_right _ (List.mem_append_right _ (List.mem_append_right _ (List.mem_append_right _ (List.mem_append_right _ (List.mem_append_right _ (List.mem_append_right _ (List.mem_append_right _ (List.mem_append_right _ (List.mem_append_right _ (List.mem_append_right _ (List.mem_append_right _ (List.mem_append_right _ (List.mem_append_right _ (List.mem_append_right _ (List.mem_append_right _ (List.mem_append_right _ (List.mem_append_right _ (List.mem_append_right _ (List.mem_append_right _ (List.mem_append_right _ (List.mem_append_right _ (List.mem_append_right _ (List.mem_append_right _ (List.mem_append_right _ (List.mem_append_right _ (h)))))))))))))))))))))))))))))))))))))))))))))))))))))))))))))))))))))))))))))))))))))
abbrev Shp : Type := (Nat × List Nat) ⊕ (Nat × Nat)
/-- the shape of each cell from bs on: an object (its class, its fields: 0 int, 1 long, 2 a reference that changes, t + 3 the cell t), or an array (0 int, 1 byte, 2 long, 3 double, 4 rows; its length) -/
def shL : List Shp := [.inl (11, [32, 64, 4, 7, 10, 12, 30, 2, 2, 2, 2, 0, 0]), .inl (0, [5]), .inl (7, [6, 0]), .inr (0, 12), .inl (8, [8, 0]), .inl (7, [9, 0]), .inr (0, 12), .inl (7, [11, 0]), .inr (0, 12), .inl (2, [13, 0, 0]), .inr (4, 16), .inr (0, 186), .inr (0, 186), .inr (0, 186), .inr (0, 186), .inr (0, 186), .inr (0, 186), .inr (0, 186), .inr (0, 186), .inr (0, 186), .inr (0, 186), .inr (0, 186), .inr (0, 186), .inr (0, 186), .inr (0, 186), .inr (0, 186), .inr (0, 186), .inl (4, [31, 0]), .inr (1, 1152), .inl (9, [33, 0]), .inr (1, 900), .inl (1, [0, 0, 0, 0, 0, 0, 35, 36, 37, 38, 39, 40, 41, 42, 43, 44]), .inr (0, 4), .inr (0, 12), .inr (0, 12), .inr (0, 12), .inr (0, 12), .inr (0, 12), .inr (0, 5), .inr (0, 5), .inr (0, 12), .inr (0, 12), .inl (1, [0, 0, 0, 0, 0, 0, 46, 47, 48, 49, 50, 51, 52, 53, 54, 55]), .inr (0, 4), .inr (0, 12), .inr (0, 12), .inr (0, 12), .inr (0, 12), .inr (0, 12), .inr (0, 5), .inr (0, 5), .inr (0, 12), .inr (0, 12), .inl (6, [2, 57, 58, 59]), .inr (0, 144), .inr (0, 156), .inr (0, 156), .inl (6, [2, 61, 62, 63]), .inr (0, 144), .inr (0, 156), .inr (0, 156), .inl (5, [69, 65, 2, 2, 0, 0]), .inl (3, [66, 67, 68, 0]), .inr (2, 21), .inr (0, 21), .inr (0, 21), .inl (10, [32, 0, 0, 0, 0, 0, 1]), .inl (12, [71, 72, 73, 74, 75, 0, 0, 76, 0, 0, 0, 0, 0, 0, 0, 0, 0, 0, 0, 1, 77, 0, 0, 78, 79, 80, 81, 82, 83, 84, 0, 85, 0, 0, 0, 86, 87, 88, 0]), .inr (0, 248), .inr (0, 248), .inr (0, 248), .inr (0, 248), .inr (0, 3968), .inr (0, 900), .inr (2, 36), .inr (0, 12), .inr (0, 12), .inr (0, 12), .inr (0, 12), .inr (0, 12), .inr (0, 12), .inr (0, 5), .inr (0, 12), .inr (0, 12), .inr (0, 12), .inr (0, 1400), .inr (2, 1), .inr (3, 1)]
abbrev NC : Nat := 88
def shp (k : Nat) : Shp := shL.getD k (.inr (0, 0))
abbrev CI : Type := Nat → Nat → Int32
abbrev CL : Type := Nat → Nat → Int64
abbrev CR : Type := Nat → Nat → Nat
/-- a field's value: q.1 its kind, q.2 its place -/
def fvV (bs : Nat) (i : Nat → Int32) (l : Nat → Int64) (r : Nat → Nat) (q : Nat × Nat) : Value := match q.1 with
  | 0 => .int (i q.2)
  | 1 => .long (l q.2)
  | 2 => .ref (bs + r q.2)
  | t + 3 => .ref (bs + t)
def entA (bs : Nat) (ty : Nat) (i : Nat → Int32) (l : Nat → Int64) : (Nat → Int32) ⊕ (Nat → Int64) ⊕ (Nat → UInt32) ⊕ (Nat → UInt64) ⊕ (Nat → Option Nat) := match ty with
  | 0 => .inl i
  | 1 => .inl i
  | 2 => .inr (.inl l)
  | 3 => .inr (.inr (.inr (.inl (fun j => (l j).toUInt64))))
  | _ => .inr (.inr (.inr (.inr (fun j => some (bs + 11 + j)))))
def ent (bs : Nat) (cy : Nat → ClassId) (s : Shp) (i : Nat → Int32) (l : Nat → Int64) (r : Nat → Nat) : va_E := match s with
  | .inl (ci, ks) => .inr (ci, ks.zipIdx.map (fvV bs i l r))
  | .inr (ty, n) => .inl (cy ty, n, entA bs ty i l)
def wl (bs : Nat) (cy : Nat → ClassId) (I : CI) (L : CL) (R : CR) : va_W := (List.range NC).map (fun k => (bs + k, ent bs cy (shp k) (I k) (L k) (R k)))
def Wd (G : va_G) (bs : Nat) (cy : Nat → ClassId) (I : CI) (L : CL) (R : CR) (H : Heap) : Prop := va_P G vwCl (wl bs cy I L R) H
def Aq (bs : Nat) : Nat → Prop := fun q => bs ≤ q
def tyL (cy : Nat → ClassId) : List (ClassId × FieldType) := [(cy 0, .int), (cy 1, .byte), (cy 2, .long), (cy 3, .double), (cy 4, .array .int)]
def u2 (I : CI) (k j : Nat) (v : Int32) : CI := fun a => if a = k then upd (I a) j v else I a
def u2L (L : CL) (k j : Nat) (v : Int64) : CL := fun a => if a = k then vp_updL (L a) j v else L a
def u2R (R : CR) (k j v : Nat) : CR := fun a => if a = k then (fun b => if b = j then v else R a b) else R a
theorem wl_at {bs : Nat} {cy : Nat → ClassId} {I : CI} {L : CL} {R : CR} {k : Nat} (h : k < NC) : (wl bs cy I L R)[k]? = some (bs + k, ent bs cy (shp k) (I k) (L k) (R k)) := by
  unfold wl
  rw [List.getElem?_map, List.getElem?_range h]
  rfl
theorem wl_D {bs : Nat} {cy : Nat → ClassId} {I : CI} {L : CL} {R : CR} : va_D (Aq bs) (wl bs cy I L R) := by
  have key : ∀ (k : Nat) (q : Nat × va_E), (wl bs cy I L R)[k]? = some q → q.1 = bs + k := by
    intro k q h
    have hk : k < NC := by
      have h1 := (List.getElem?_eq_some_iff.mp h).1
      unfold wl at h1
      rwa [List.length_map, List.length_range] at h1
    rw [wl_at hk] at h
    cases h
    rfl
  refine ⟨fun i j p q hp hq he => ?_, fun k q h => ?_⟩
  · rw [key i p hp, key j q hq] at he
    omega
  · show bs ≤ q.1
    rw [key k q h]
    omega
/-- one cell of the world replaced -/
theorem wl_set {bs : Nat} {cy : Nat → ClassId} {I I' : CI} {L L' : CL} {R R' : CR} {k : Nat} {e : va_E} (hI : ∀ a, a ≠ k → I' a = I a) (hL : ∀ a, a ≠ k → L' a = L a) (hR : ∀ a, a ≠ k → R' a = R a) (he : k < NC → e = ent bs cy (shp k) (I' k) (L' k) (R' k)) :
    (wl bs cy I L R).set k (bs + k, e) = wl bs cy I' L' R' := by
  apply List.ext_getElem?
  intro j
  rw [List.getElem?_set]
  by_cases hj : k = j
  · subst hj
    by_cases hk : k < NC
    · rw [wl_at hk]
      simp [wl, hk, he hk]
    · simp [wl, hk]
  · rw [if_neg hj]
    by_cases hk : j < NC
    · rw [wl_at hk, wl_at hk, hI j (Ne.symm hj), hL j (Ne.symm hj), hR j (Ne.symm hj)]
    · simp [wl, hk]
theorem u2_ne {I : CI} {k j a : Nat} {v : Int32} (h : a ≠ k) : u2 I k j v a = I a := if_neg h
theorem u2_eq {I : CI} {k j : Nat} {v : Int32} : u2 I k j v k = upd (I k) j v := if_pos rfl
theorem u2L_ne {I : CL} {k j a : Nat} {v : Int64} (h : a ≠ k) : u2L I k j v a = I a := if_neg h
theorem u2L_eq {I : CL} {k j : Nat} {v : Int64} : u2L I k j v k = vp_updL (I k) j v := if_pos rfl
theorem u2R_ne {I : CR} {k j a v : Nat} (h : a ≠ k) : u2R I k j v a = I a := if_neg h
theorem ks_at {bs : Nat} {i : Nat → Int32} {l : Nat → Int64} {r : Nat → Nat} {ks : List Nat} {j t : Nat} (h : ks[j]? = some t) : (ks.zipIdx.map (fvV bs i l r))[j]? = some (fvV bs i l r (t, j)) := by
  rw [List.getElem?_map, List.getElem?_zipIdx, h]
  simp
theorem ks_len {bs : Nat} {i : Nat → Int32} {l : Nat → Int64} {r : Nat → Nat} {ks : List Nat} {j t : Nat} (h : ks[j]? = some t) : j < (ks.zipIdx.map (fvV bs i l r)).length := by
  rw [List.length_map, List.length_zipIdx]
  exact (List.getElem?_eq_some_iff.mp h).1
theorem ks_set {bs : Nat} {i i' : Nat → Int32} {l l' : Nat → Int64} {r r' : Nat → Nat} {ks : List Nat} {j t : Nat} {v : Value} (h : ks[j]? = some t) (hv : v = fvV bs i' l' r' (t, j)) (hne : ∀ a, a ≠ j → i' a = i a ∧ l' a = l a ∧ r' a = r a) :
    (ks.zipIdx.map (fvV bs i l r)).set j v = ks.zipIdx.map (fvV bs i' l' r') := by
  apply List.ext_getElem?
  intro a
  rw [List.getElem?_set]
  by_cases ha : j = a
  · subst ha
    rw [if_pos rfl, if_pos (ks_len h), ks_at h, hv]
  · rw [if_neg ha, List.getElem?_map, List.getElem?_map, List.getElem?_zipIdx]
    cases hk : ks[a]? with
    | none => simp
    | some t2 =>
      obtain ⟨e1, e2, e3⟩ := hne a (Ne.symm ha)
      simp only [Option.map_some, Nat.zero_add]
      congr 1
      unfold fvV
      dsimp only
      split <;> simp [e1, e2, e3]
/-- words that a walk carries beside wsL_law: links between nest mates, what a throw and a catch ask -/
def nestL : List Cond := [Cond.methodLinkNest "SpanPainter" 11 ({ cls := "SpanPainter$AutoPlanner", name := "<init>", desc := "()V" } : Jvm.MethodName) "SpanPainter", Cond.methodLinkNest "SpanPainter$AutoPlanner" 11 ({ cls := "SpanPainter$Ranking", name := "<init>", desc := "()V" } : Jvm.MethodName) "SpanPainter", Cond.methodLinkNest "SpanPainter" 18 ({ cls := "SpanPainter$SafeSearch", name := "<init>", desc := "()V" } : Jvm.MethodName) "SpanPainter", Cond.methodLinkNest "SpanPainter$SafeSearch" 11 ({ cls := "SpanPainter$Ranking", name := "<init>", desc := "()V" } : Jvm.MethodName) "SpanPainter", Cond.methodLinkNest "SpanPainter" 25 ({ cls := "SpanPainter$Ranking", name := "<init>", desc := "()V" } : Jvm.MethodName) "SpanPainter", Cond.methodLinkNest "SpanPainter" 32 ({ cls := "SpanPainter$History", name := "<init>", desc := "()V" } : Jvm.MethodName) "SpanPainter", Cond.methodLinkNest "SpanPainter" 39 ({ cls := "SpanPainter$Output", name := "<init>", desc := "()V" } : Jvm.MethodName) "SpanPainter", Cond.methodLinkNest "SpanPainter" 54 ({ cls := "SpanPainter$Text", name := "<init>", desc := "()V" } : Jvm.MethodName) "SpanPainter", Cond.fieldLinkNest "SpanPainter$Tokens" 37 "SpanPainter$Text" "bytes" "[B" "SpanPainter", Cond.fieldLinkNest "SpanPainter$Tokens" 13 "SpanPainter$Text" "size" "I" "SpanPainter", Cond.fieldLinkNest "SpanPainter$AutoPlanner" 24 "SpanPainter$Bridge" "years" "I" "SpanPainter", Cond.fieldLinkNest "SpanPainter$Parser" 139 "SpanPainter$Bridge" "years" "I" "SpanPainter", Cond.fieldLinkNest "SpanPainter$Plan" 53 "SpanPainter$Bridge" "years" "I" "SpanPainter", Cond.fieldLinkNest "SpanPainter" 168 "SpanPainter$Bridge" "years" "I" "SpanPainter", Cond.fieldLinkNest "SpanPainter$Parser" 142 "SpanPainter$Bridge" "shut" "I" "SpanPainter", Cond.fieldLinkNest "SpanPainter$Plan" 139 "SpanPainter$Bridge" "shut" "I" "SpanPainter", Cond.fieldLinkNest "SpanPainter" 264 "SpanPainter$Bridge" "shut" "I" "SpanPainter", Cond.fieldLinkNest "SpanPainter$Parser" 145 "SpanPainter$Bridge" "guard" "I" "SpanPainter", Cond.fieldLinkNest "SpanPainter$Plan" 60 "SpanPainter$Bridge" "guard" "I" "SpanPainter", Cond.fieldLinkNest "SpanPainter$Parser" 95 "SpanPainter$Bridge" "laneCount" "I" "SpanPainter", Cond.fieldLinkNest "SpanPainter$Plan" 98 "SpanPainter$Bridge" "laneCount" "I" "SpanPainter", Cond.fieldLinkNest "SpanPainter" 336 "SpanPainter$Bridge" "laneCount" "I" "SpanPainter", Cond.fieldLinkNest "SpanPainter$AutoPlanner" 53 "SpanPainter$Bridge" "spanCount" "I" "SpanPainter", Cond.fieldLinkNest "SpanPainter$SafeSearch" 31 "SpanPainter$Bridge" "spanCount" "I" "SpanPainter", Cond.fieldLinkNest "SpanPainter" 128 "SpanPainter$Bridge" "spanCount" "I" "SpanPainter", Cond.fieldLinkNest "SpanPainter$Parser" 103 "SpanPainter$Bridge" "spanCount" "I" "SpanPainter", Cond.fieldLinkNest "SpanPainter$Plan" 46 "SpanPainter$Bridge" "spanCount" "I" "SpanPainter", Cond.fieldLinkNest "SpanPainter$AutoPlanner" 67 "SpanPainter$Bridge" "gangCount" "I" "SpanPainter", Cond.fieldLinkNest "SpanPainter$SafeSearch" 59 "SpanPainter$Bridge" "gangCount" "I" "SpanPainter", Cond.fieldLinkNest "SpanPainter$Parser" 111 "SpanPainter$Bridge" "gangCount" "I" "SpanPainter", Cond.fieldLinkNest "SpanPainter$Plan" 107 "SpanPainter$Bridge" "gangCount" "I" "SpanPainter", Cond.fieldLinkNest "SpanPainter" 226 "SpanPainter$Bridge" "gangCount" "I" "SpanPainter", Cond.fieldLinkNest "SpanPainter$Plan" 101 "SpanPainter$Bridge" "traffic" "[I" "SpanPainter", Cond.fieldLinkNest "SpanPainter$Plan" 95 "SpanPainter$Bridge" "laneOf" "[I" "SpanPainter", Cond.fieldLinkNest "SpanPainter" 158 "SpanPainter$Bridge" "area" "[I" "SpanPainter", Cond.fieldLinkNest "SpanPainter$Plan" 83 "SpanPainter$Bridge" "area" "[I" "SpanPainter", Cond.fieldLinkNest "SpanPainter$Plan" 50 "SpanPainter$Bridge" "rust" "[I" "SpanPainter", Cond.fieldLinkNest "SpanPainter$Plan" 63 "SpanPainter$Bridge" "rate" "[I" "SpanPainter", Cond.fieldLinkNest "SpanPainter" 178 "SpanPainter$Bridge" "rate" "[I" "SpanPainter", Cond.fieldLinkNest "SpanPainter$Plan" 72 "SpanPainter$Bridge" "limit" "[I" "SpanPainter", Cond.fieldLinkNest "SpanPainter" 276 "SpanPainter$Bridge" "speed" "[I" "SpanPainter", Cond.fieldLinkNest "SpanPainter$Plan" 110 "SpanPainter$Bridge" "wage" "[I" "SpanPainter", Cond.fieldLinkNest "SpanPainter$Parser" 173 "SpanPainter$Bridge" "days" "[I" "SpanPainter", Cond.fieldLinkNest "SpanPainter$Plan" 125 "SpanPainter$Bridge" "days" "[I" "SpanPainter", Cond.fieldLinkNest "SpanPainter" 229 "SpanPainter$Bridge" "days" "[I" "SpanPainter", Cond.fieldLinkNest "SpanPainter$Parser" 181 "SpanPainter$Bridge" "closed" "[I" "SpanPainter", Cond.fieldLinkNest "SpanPainter" 270 "SpanPainter$Bridge" "closed" "[I" "SpanPainter", Cond.methodLinkNest "SpanPainter$Parser" 11 ({ cls := "SpanPainter$Names", name := "<init>", desc := "()V" } : Jvm.MethodName) "SpanPainter", Cond.fieldLinkNest "SpanPainter$Parser" 74 "SpanPainter$Tokens" "start" "I" "SpanPainter", Cond.fieldLinkNest "SpanPainter$Parser" 64 "SpanPainter$Tokens" "kind" "I" "SpanPainter", Cond.fieldLinkNest "SpanPainter$Parser" 192 "SpanPainter$Tokens" "number" "I" "SpanPainter", Cond.fieldLinkNest "SpanPainter$Parser" 80 "SpanPainter$Tokens" "word" "J" "SpanPainter", Cond.castable "java/lang/IndexOutOfBoundsException" "java/lang/IndexOutOfBoundsException", Cond.castable "java/lang/IllegalArgumentException" "java/lang/IllegalArgumentException", Cond.declares (Bundle.initS "java/lang/RuntimeException"), Cond.declares (Bundle.initS "java/lang/Exception"), Cond.declares (Bundle.initS Bundle.tN)]
def okW (w : Cond) : Prop := w.onTables = true ∧ ∀ s U : State, s.WarmedH U.vm → va_Nw w s → va_Nw w U
theorem okW_F {a : String} {i : Nat} {b n d h : String} : okW (.fieldLinkNest a i b n d h) := ⟨rfl, fun _ _ hW hZ => va_Nw.warmF hW hZ⟩
theorem okW_M {a : String} {i : Nat} {x : MethodName} {h : String} : okW (.methodLinkNest a i x h) := ⟨rfl, fun _ _ hW hZ => va_Nw.warmM hW hZ⟩
theorem okW_C {C T : String} : okW (.castable C T) := ⟨rfl, fun _ _ hW hZ => va_Nw.warmC hW hZ⟩
theorem okW_D {x : MethodName} : okW (.declares x) := ⟨rfl, fun s U hW hZ => va_tabs rfl (rfl : (s.setVm U.vm).vm = U.vm) (by rw [Cond.declares_setVm hW.alike]; exact hZ)⟩
theorem nest_ok : ∀ w ∈ nestL, okW w := List.forall_mem_cons.mpr ⟨okW_M, List.forall_mem_cons.mpr ⟨okW_M, List.forall_mem_cons.mpr ⟨okW_M, List.forall_mem_cons.mpr ⟨okW_M, List.forall_mem_cons.mpr ⟨okW_M, List.forall_mem_cons.mpr ⟨okW_M, List.forall_mem_cons.mpr ⟨okW_M, List.forall_mem_cons.mpr ⟨okW_M, List.forall_mem_cons.mpr ⟨okW_F, List.forall_mem_cons.mpr ⟨okW_F, List.forall_mem_cons.mpr ⟨okW_F, List.forall_mem_cons.mpr ⟨okW_F, List.forall_mem_cons.mpr ⟨okW_F, List.forall_mem_cons.mpr ⟨okW_F, List.forall_mem_cons.mpr ⟨okW_F, List.forall_mem_cons.mpr ⟨okW_F, List.forall_mem_cons.mpr ⟨okW_F, List.forall_mem_cons.mpr ⟨okW_F, List.forall_mem_cons.mpr ⟨okW_F, List.forall_mem_cons.mpr ⟨okW_F, List.forall_mem_cons.mpr ⟨okW_F, List.forall_mem_cons.mpr ⟨okW_F, List.forall_mem_cons.mpr ⟨okW_F, List.forall_mem_cons.mpr ⟨okW_F, List.forall_mem_cons.mpr ⟨okW_F, List.forall_mem_cons.mpr ⟨okW_F, List.forall_mem_cons.mpr ⟨okW_F, List.forall_mem_cons.mpr ⟨okW_F, List.forall_mem_cons.mpr ⟨okW_F, List.forall_mem_cons.mpr ⟨okW_F, List.forall_mem_cons.mpr ⟨okW_F, List.forall_mem_cons.mpr ⟨okW_F, List.forall_mem_cons.mpr ⟨okW_F, List.forall_mem_cons.mpr ⟨okW_F, List.forall_mem_cons.mpr ⟨okW_F, List.forall_mem_cons.mpr ⟨okW_F, List.forall_mem_cons.mpr ⟨okW_F, List.forall_mem_cons.mpr ⟨okW_F, List.forall_mem_cons.mpr ⟨okW_F, List.forall_mem_cons.mpr ⟨okW_F, List.forall_mem_cons.mpr ⟨okW_F, List.forall_mem_cons.mpr ⟨okW_F, List.forall_mem_cons.mpr ⟨okW_F, List.forall_mem_cons.mpr ⟨okW_F, List.forall_mem_cons.mpr ⟨okW_F, List.forall_mem_cons.mpr ⟨okW_F, List.forall_mem_cons.mpr ⟨okW_F, List.forall_mem_cons.mpr ⟨okW_M, List.forall_mem_cons.mpr ⟨okW_F, List.forall_mem_cons.mpr ⟨okW_F, List.forall_mem_cons.mpr ⟨okW_F, List.forall_mem_cons.mpr ⟨okW_F, List.forall_mem_cons.mpr ⟨okW_C, List.forall_mem_cons.mpr ⟨okW_C, List.forall_mem_cons.mpr ⟨okW_D, List.forall_mem_cons.mpr ⟨okW_D, List.forall_mem_cons.mpr ⟨okW_D, fun _ h => absurd h List.not_mem_nil⟩⟩⟩⟩⟩⟩⟩⟩⟩⟩⟩⟩⟩⟩⟩⟩⟩⟩⟩⟩⟩⟩⟩⟩⟩⟩⟩⟩⟩⟩⟩⟩⟩⟩⟩⟩⟩⟩⟩⟩⟩⟩⟩⟩⟩⟩⟩⟩⟩⟩⟩⟩⟩⟩⟩⟩⟩
def strL : List (Nat × String) := [(105, "the buffer does not hold so many bytes"), (334, "there is no such span"), (332, "there is no such year"), (164, "there are not so many spans"), (341, "there is no such gang"), (339, "there is no such lane"), (343, "the value is out of its range"), (327, "the output has no such byte")]
abbrev KWT : String := "bridge lane span gang weather closed paint none "
def kwB : List Int32 := [98, 114, 105, 100, 103, 101, 32, 108, 97, 110, 101, 32, 115, 112, 97, 110, 32, 103, 97, 110, 103, 32, 119, 101, 97, 116, 104, 101, 114, 32, 99, 108, 111, 115, 101, 100, 32, 112, 97, 105, 110, 116, 32, 110, 111, 110, 101, 32]
def NK (U : State) : Prop := (∀ w ∈ nestL, va_Nw w U) ∧ ∀ q ∈ strL, ∃ a : Nat, vk_R RX11 q.1 q.2 a U
/-- what a walk stands on beside the world: the tables' other words, and cells below bs that nothing changes (cy 10, cy 11: the keywords' text and its bytes) -/
def EK (bs : Nat) (cy : Nat → ClassId) (U : State) (H : Heap) : Prop := NK U ∧ vx_Zq Bundle.tN "UNASSIGNED_STACK" Bundle.steD (Aq bs) U H ∧ vx_Zq Bundle.tN "SUPPRESSED_SENTINEL" Bundle.listD (Aq bs) U H ∧ vk_R RX12 147 KWT (cy 10) U ∧ vk_S 1 [48] [kwB] (fun _ => cy 10) (fun _ => cy 11) (Aq bs) U H ∧ va_Z "java/lang/String" "COMPACT_STRINGS" "Z" (.int 1) (Aq bs) U H ∧ va_Zq "jdk/internal/util/Preconditions" "SIOOBE_FORMATTER" "Ljava/util/function/BiFunction;" (Aq bs) U H
theorem NK.warm {s U : State} (hW : s.WarmedH U.vm) (h : NK s) : NK U := ⟨fun w hw => (nest_ok w hw).2 s U hW (h.1 w hw), fun q hq => by obtain ⟨a, ha⟩ := h.2 q hq; exact ⟨a, vk_R.warm hW ha⟩⟩
theorem NK.same {s U : State} (hv : U.vm = s.vm) (h : NK s) : NK U := ⟨fun w hw => va_Nw.same (nest_ok w hw).1 hv.symm (h.1 w hw), fun q hq => by obtain ⟨a, ha⟩ := h.2 q hq; exact ⟨a, vk_R.same hv ha⟩⟩
theorem EK.to {bs : Nat} {cy : Nat → ClassId} {s U : State} {H : Heap} (hW : s.WarmedH U.vm) (hk : ∀ a : Nat, a < s.heap.size → ¬ Aq bs a → H[a]? = s.heap[a]?) (h : EK bs cy s s.heap) : EK bs cy U H := by
  obtain ⟨h1, h2, h3, h4, h5, h6, h7⟩ := h
  exact ⟨h1.warm hW, (h2.moved hW.alike).kept hk, (h3.moved hW.alike).kept hk, h4.warm hW, (h5.moved hW.alike).kept hk, (h6.moved hW.alike).kept hk, (h7.moved hW.alike).kept hk⟩
theorem EK.same {bs : Nat} {cy : Nat → ClassId} {s U : State} {H : Heap} (hv : U.vm = s.vm) (h : EK bs cy s H) : EK bs cy U H := by
  obtain ⟨h1, h2, h3, h4, h5, h6, h7⟩ := h
  have ha : s.vm.Alike U.vm := by rw [hv]; exact Vm.Alike.refl s.vm
  exact ⟨h1.same hv, h2.moved ha, h3.moved ha, h4.same hv, h5.moved ha, h6.moved ha, h7.moved ha⟩
/-- a field's place in the tables: own's pool index, the class's number, the field's number -/
def FI (own : String) (index ci j : Nat) : Prop := ∃ (C : String) (T : u_T) (N : Nat), vwCl[ci]? = some (C, T, N) ∧ (T j).1 = C ∧ j < N ∧ (∀ w ∈ u_ws C T N, w ∈ wsL_law) ∧ Cond.fieldLink own index C (T j).2.1 (T j).2.2.1 ∈ wsL_law
def FN (own : String) (index ci j : Nat) : Prop := ∃ (C : String) (T : u_T) (N : Nat), vwCl[ci]? = some (C, T, N) ∧ (T j).1 = C ∧ j < N ∧ (∀ w ∈ u_ws C T N, w ∈ wsL_law) ∧ Cond.fieldLinkNest own index C (T j).2.1 (T j).2.2.1 "SpanPainter" ∈ nestL
/-- what a method's walk stands on -/
def Cx (p : Program) (s : State) (m : MethodId) (args : Array Value) (c : Code) (cc : ByteArray) (nL : Nat) (own : String) (G : va_G) (bs : Nat) (cy : Nat → ClassId) : Prop :=
  p.tables.exec = Jvm.exec ∧ c.code = cc ∧ c.maxLocals = nL ∧ s.vm.findClass own = some m.cls ∧ (∀ w ∈ wsL_law, w.before args s = true) ∧ va_K G vwCl (tyL cy) s ∧ EK bs cy s s.heap
theorem dg {cc : ByteArray} {l : List (Nat × Instr × Nat)} (h : ∀ q ∈ l, decode cc q.1 = .ok (q.2.1, q.2.2)) {i pc n : Nat} {x : Instr} (hi : l[i]? = some (pc, x, n)) : decode cc pc = .ok (x, n) := h (pc, x, n) (List.mem_of_getElem? hi)
theorem cls_nm : ∀ k, k < 13 → ∀ a, a < ((vwCl.getD k ("", TX0, 0)).2.2) → ∀ b, b < ((vwCl.getD k ("", TX0, 0)).2.2) → a ≠ b → ((vwCl.getD k ("", TX0, 0)).2.1 a).2.1 ≠ ((vwCl.getD k ("", TX0, 0)).2.1 b).2.1 := by decide +kernel
theorem cls_ty : ∀ k, k < 13 → ∀ a, a < ((vwCl.getD k ("", TX0, 0)).2.2) → (parseFieldDescriptor ((vwCl.getD k ("", TX0, 0)).2.1 a).2.2.1).isSome = true := by decide +kernel
section RR
variable {p : Program} {l : Launch} {e : Env} {Rm : Room} {s : State} {m : MethodId} {args : Array Value} {below : List Frame} {meth : Method} {c : Code} {H : Heap} {locs : List Loc} {cells slots : Nat} {Q : State → Prop}
variable {cc : ByteArray} {pc nL : Nat} {ls : Array Slot} {rest : List Value} {own : String} {G : va_G} {bs : Nat} {cy : Nat → ClassId} {I : CI} {L : CL} {R : CR} {H0 : Heap} {k : Nat}
theorem r_get (X : Cx p s m args c cc nL own G bs cy) (hW : Wd G bs cy I L R H) {index ci j : Nat} (hF : FI own index ci j) {ks : List Nat} {t : Nat} (hk : shp k = .inl (ci, ks)) (hN : k < NC) (ht : ks[j]? = some t) {v : Value} (hv : fvV bs (I k) (L k) (R k) (t, j) = v) (hdg : decode cc pc = .ok (.getfield index, 3))
    (kk : W p l e Rm s m args below meth c H locs cells slots Q (F0 m (pc + 3) ls (v :: rest))) : W p l e Rm s m args below meth c H locs cells slots Q (F0 m pc ls (.ref (bs + k) :: rest)) := by
  obtain ⟨hx, hb, hml, hown, hts, hK, -⟩ := X
  obtain ⟨C, T, N, hc, hC, hj, hin, hl⟩ := hF
  subst hv
  refine va_get hx hb hts hin hown hK hW k (fs := ks.zipIdx.map (fvV bs (I k) (L k) (R k))) ?_ hc j hj (hts _ hl) (fun x hx2 => by rw [hC] at hx2; exact hx2) (ks_at ht) hdg kk
  rw [wl_at hN, hk]
  rfl
theorem r_geti (X : Cx p s m args c cc nL own G bs cy) (hW : Wd G bs cy I L R H) {index ci j : Nat} (hF : FI own index ci j) {ks : List Nat} (hk : shp k = .inl (ci, ks)) (hN : k < NC) (ht : ks[j]? = some 0) {v : Int32} (hv : I k j = v) (hdg : decode cc pc = .ok (.getfield index, 3))
    (kk : W p l e Rm s m args below meth c H locs cells slots Q (F0 m (pc + 3) ls (.int v :: rest))) : W p l e Rm s m args below meth c H locs cells slots Q (F0 m pc ls (.ref (bs + k) :: rest)) := r_get X hW hF hk hN ht (by rw [← hv]; rfl) hdg kk
theorem r_getl (X : Cx p s m args c cc nL own G bs cy) (hW : Wd G bs cy I L R H) {index ci j : Nat} (hF : FI own index ci j) {ks : List Nat} (hk : shp k = .inl (ci, ks)) (hN : k < NC) (ht : ks[j]? = some 1) {v : Int64} (hv : L k j = v) (hdg : decode cc pc = .ok (.getfield index, 3))
    (kk : W p l e Rm s m args below meth c H locs cells slots Q (F0 m (pc + 3) ls (.long v :: rest))) : W p l e Rm s m args below meth c H locs cells slots Q (F0 m pc ls (.ref (bs + k) :: rest)) := r_get X hW hF hk hN ht (by rw [← hv]; rfl) hdg kk
theorem r_getr (X : Cx p s m args c cc nL own G bs cy) (hW : Wd G bs cy I L R H) {index ci j : Nat} (hF : FI own index ci j) {ks : List Nat} (hk : shp k = .inl (ci, ks)) (hN : k < NC) (ht : ks[j]? = some 2) {v : Nat} (hv : R k j = v) (hdg : decode cc pc = .ok (.getfield index, 3))
    (kk : W p l e Rm s m args below meth c H locs cells slots Q (F0 m (pc + 3) ls (.ref (bs + v) :: rest))) : W p l e Rm s m args below meth c H locs cells slots Q (F0 m pc ls (.ref (bs + k) :: rest)) := r_get X hW hF hk hN ht (by rw [← hv]; rfl) hdg kk
theorem r_getc (X : Cx p s m args c cc nL own G bs cy) (hW : Wd G bs cy I L R H) {index ci j : Nat} (hF : FI own index ci j) {ks : List Nat} {t : Nat} (hk : shp k = .inl (ci, ks)) (hN : k < NC) (ht : ks[j]? = some (t + 3)) (hdg : decode cc pc = .ok (.getfield index, 3))
    (kk : W p l e Rm s m args below meth c H locs cells slots Q (F0 m (pc + 3) ls (.ref (bs + t) :: rest))) : W p l e Rm s m args below meth c H locs cells slots Q (F0 m pc ls (.ref (bs + k) :: rest)) := r_get X hW hF hk hN ht rfl hdg kk
theorem r_put (X : Cx p s m args c cc nL own G bs cy) (hW : Wd G bs cy I L R H) (hS : va_S (Aq bs) H0 H locs) {index ci j : Nat} (hF : FI own index ci j) {ks : List Nat} {t : Nat} (hk : shp k = .inl (ci, ks)) (hN : k < NC) (ht : ks[j]? = some t) {v : Value} {ty : FieldType}
    (hfin : (vwCl.getD ci ("", TX0, 0)).2.1 j |>.2.2.2 = false) (hd : parseFieldDescriptor ((vwCl.getD ci ("", TX0, 0)).2.1 j).2.2.1 = some ty) (hn : narrow ty v = v) (hfit : fits ty v = true) {I' : CI} {L' : CL} {R' : CR}
    (hI : ∀ a, a ≠ k → I' a = I a) (hL : ∀ a, a ≠ k → L' a = L a) (hR : ∀ a, a ≠ k → R' a = R a) (hv : v = fvV bs (I' k) (L' k) (R' k) (t, j)) (hne : ∀ a, a ≠ j → I' k a = I k a ∧ L' k a = L k a ∧ R' k a = R k a) (hdg : decode cc pc = .ok (.putfield index, 3))
    (kk : ∀ (H1 : Heap) (locs1 : List Loc), Wd G bs cy I' L' R' H1 → va_S (Aq bs) H0 H1 locs1 → W p l e Rm s m args below meth c H1 locs1 cells slots Q (F0 m (pc + 3) ls rest)) : W p l e Rm s m args below meth c H locs cells slots Q (F0 m pc ls (v :: .ref (bs + k) :: rest)) := by
  obtain ⟨hx, hb, hml, hown, hts, hK, -⟩ := X
  obtain ⟨C, T, N, hc, hC, hj, hin, hl⟩ := hF
  have hg : vwCl.getD ci ("", TX0, 0) = (C, T, N) := by rw [List.getD_eq_getElem?_getD, hc]; rfl
  have hci : ci < 13 := (List.getElem?_eq_some_iff.mp hc).1
  have hnm := cls_nm ci hci
  have hty := cls_ty ci hci
  rw [hg] at hfin hd hnm hty
  dsimp only at hfin hd hnm hty
  refine va_put hx hb hts hin (fun a => (parseFieldDescriptor (T a).2.2.1).getD .int) (fun a ha => ?_) hnm hown hK hW wl_D hS k (fs := ks.zipIdx.map (fvV bs (I k) (L k) (R k))) ?_ hc j hj (hts _ hl) (fun x hx2 => by rw [hC] at hx2; exact hx2) hfin hd hn hfit (ks_len ht) hdg (fun H1 locs1 hP _ hS1 => kk H1 locs1 ?_ hS1)
  · have h2 := hty a ha
    cases h3 : parseFieldDescriptor (T a).2.2.1 with
    | none => rw [h3] at h2; cases h2
    | some z => rfl
  · rw [wl_at hN, hk]
    rfl
  · rw [ks_set (i' := I' k) (l' := L' k) (r' := R' k) ht hv hne] at hP
    rw [wl_set hI hL hR (fun _ => by rw [hk]; rfl)] at hP
    exact hP
theorem r_puti (X : Cx p s m args c cc nL own G bs cy) (hW : Wd G bs cy I L R H) (hS : va_S (Aq bs) H0 H locs) {index ci j : Nat} (hF : FI own index ci j) {ks : List Nat} (hk : shp k = .inl (ci, ks)) (hN : k < NC) (ht : ks[j]? = some 0) {v : Int32} {ty : FieldType}
    (hfin : ((vwCl.getD ci ("", TX0, 0)).2.1 j).2.2.2 = false) (hd : parseFieldDescriptor ((vwCl.getD ci ("", TX0, 0)).2.1 j).2.2.1 = some ty) (hn : narrow ty (.int v) = .int v) (hfit : fits ty (.int v) = true) (hdg : decode cc pc = .ok (.putfield index, 3))
    (kk : ∀ (H1 : Heap) (locs1 : List Loc), Wd G bs cy (u2 I k j v) L R H1 → va_S (Aq bs) H0 H1 locs1 → W p l e Rm s m args below meth c H1 locs1 cells slots Q (F0 m (pc + 3) ls rest)) : W p l e Rm s m args below meth c H locs cells slots Q (F0 m pc ls (.int v :: .ref (bs + k) :: rest)) :=
  r_put X hW hS hF hk hN ht hfin hd hn hfit (I' := u2 I k j v) (L' := L) (R' := R) (fun a h => u2_ne h) (fun _ _ => rfl) (fun _ _ => rfl) (by rw [u2_eq]; simp [fvV, upd]) (fun a h => ⟨by rw [u2_eq]; simp [upd, h], rfl, rfl⟩) hdg kk
theorem r_putl (X : Cx p s m args c cc nL own G bs cy) (hW : Wd G bs cy I L R H) (hS : va_S (Aq bs) H0 H locs) {index ci j : Nat} (hF : FI own index ci j) {ks : List Nat} (hk : shp k = .inl (ci, ks)) (hN : k < NC) (ht : ks[j]? = some 1) {v : Int64}
    (hfin : ((vwCl.getD ci ("", TX0, 0)).2.1 j).2.2.2 = false) (hd : parseFieldDescriptor ((vwCl.getD ci ("", TX0, 0)).2.1 j).2.2.1 = some .long) (hdg : decode cc pc = .ok (.putfield index, 3))
    (kk : ∀ (H1 : Heap) (locs1 : List Loc), Wd G bs cy I (u2L L k j v) R H1 → va_S (Aq bs) H0 H1 locs1 → W p l e Rm s m args below meth c H1 locs1 cells slots Q (F0 m (pc + 3) ls rest)) : W p l e Rm s m args below meth c H locs cells slots Q (F0 m pc ls (.long v :: .ref (bs + k) :: rest)) :=
  r_put X hW hS hF hk hN ht hfin hd rfl rfl (I' := I) (L' := u2L L k j v) (R' := R) (fun _ _ => rfl) (fun a h => u2L_ne h) (fun _ _ => rfl) (by rw [u2L_eq]; simp [fvV, vp_updL]) (fun a h => ⟨rfl, by rw [u2L_eq]; simp [vp_updL, h], rfl⟩) hdg kk
theorem r_putr (X : Cx p s m args c cc nL own G bs cy) (hW : Wd G bs cy I L R H) (hS : va_S (Aq bs) H0 H locs) {index ci j : Nat} (hF : FI own index ci j) {ks : List Nat} (hk : shp k = .inl (ci, ks)) (hN : k < NC) (ht : ks[j]? = some 2) {v : Nat} {C : String}
    (hfin : ((vwCl.getD ci ("", TX0, 0)).2.1 j).2.2.2 = false) (hd : parseFieldDescriptor ((vwCl.getD ci ("", TX0, 0)).2.1 j).2.2.1 = some (.object C)) (hdg : decode cc pc = .ok (.putfield index, 3))
    (kk : ∀ (H1 : Heap) (locs1 : List Loc), Wd G bs cy I L (u2R R k j v) H1 → va_S (Aq bs) H0 H1 locs1 → W p l e Rm s m args below meth c H1 locs1 cells slots Q (F0 m (pc + 3) ls rest)) : W p l e Rm s m args below meth c H locs cells slots Q (F0 m pc ls (.ref (bs + v) :: .ref (bs + k) :: rest)) :=
  r_put X hW hS hF hk hN ht hfin hd rfl rfl (I' := I) (L' := L) (R' := u2R R k j v) (fun _ _ => rfl) (fun _ _ => rfl) (fun a h => u2R_ne h) (by simp [fvV, u2R]) (fun a h => ⟨rfl, rfl, by simp [u2R, h]⟩) hdg kk
theorem rn_get (X : Cx p s m args c cc nL own G bs cy) (hW : Wd G bs cy I L R H) {index ci j : Nat} (hF : FN own index ci j) {ks : List Nat} {t : Nat} (hk : shp k = .inl (ci, ks)) (hN : k < NC) (ht : ks[j]? = some t) {v : Value} (hv : fvV bs (I k) (L k) (R k) (t, j) = v) (hdg : decode cc pc = .ok (.getfield index, 3))
    (kk : W p l e Rm s m args below meth c H locs cells slots Q (F0 m (pc + 3) ls (v :: rest))) : W p l e Rm s m args below meth c H locs cells slots Q (F0 m pc ls (.ref (bs + k) :: rest)) := by
  obtain ⟨hx, hb, hml, hown, hts, hK, hE⟩ := X
  obtain ⟨C, T, N, hc, hC, hj, hin, hl⟩ := hF
  subst hv
  refine va_getN (host := "SpanPainter") hx hb hts hin hown hK hW k (fs := ks.zipIdx.map (fvV bs (I k) (L k) (R k))) ?_ hc j hj (va_Nw.use (nest_ok _ hl).1 (hE.1.1 _ hl)) (fun x hx2 => by rw [hC] at hx2; exact hx2) (ks_at ht) hdg kk
  rw [wl_at hN, hk]
  rfl
theorem rn_geti (X : Cx p s m args c cc nL own G bs cy) (hW : Wd G bs cy I L R H) {index ci j : Nat} (hF : FN own index ci j) {ks : List Nat} (hk : shp k = .inl (ci, ks)) (hN : k < NC) (ht : ks[j]? = some 0) {v : Int32} (hv : I k j = v) (hdg : decode cc pc = .ok (.getfield index, 3))
    (kk : W p l e Rm s m args below meth c H locs cells slots Q (F0 m (pc + 3) ls (.int v :: rest))) : W p l e Rm s m args below meth c H locs cells slots Q (F0 m pc ls (.ref (bs + k) :: rest)) := rn_get X hW hF hk hN ht (by rw [← hv]; rfl) hdg kk
theorem rn_getl (X : Cx p s m args c cc nL own G bs cy) (hW : Wd G bs cy I L R H) {index ci j : Nat} (hF : FN own index ci j) {ks : List Nat} (hk : shp k = .inl (ci, ks)) (hN : k < NC) (ht : ks[j]? = some 1) {v : Int64} (hv : L k j = v) (hdg : decode cc pc = .ok (.getfield index, 3))
    (kk : W p l e Rm s m args below meth c H locs cells slots Q (F0 m (pc + 3) ls (.long v :: rest))) : W p l e Rm s m args below meth c H locs cells slots Q (F0 m pc ls (.ref (bs + k) :: rest)) := rn_get X hW hF hk hN ht (by rw [← hv]; rfl) hdg kk
theorem rn_getr (X : Cx p s m args c cc nL own G bs cy) (hW : Wd G bs cy I L R H) {index ci j : Nat} (hF : FN own index ci j) {ks : List Nat} (hk : shp k = .inl (ci, ks)) (hN : k < NC) (ht : ks[j]? = some 2) {v : Nat} (hv : R k j = v) (hdg : decode cc pc = .ok (.getfield index, 3))
    (kk : W p l e Rm s m args below meth c H locs cells slots Q (F0 m (pc + 3) ls (.ref (bs + v) :: rest))) : W p l e Rm s m args below meth c H locs cells slots Q (F0 m pc ls (.ref (bs + k) :: rest)) := rn_get X hW hF hk hN ht (by rw [← hv]; rfl) hdg kk
theorem rn_getc (X : Cx p s m args c cc nL own G bs cy) (hW : Wd G bs cy I L R H) {index ci j : Nat} (hF : FN own index ci j) {ks : List Nat} {t : Nat} (hk : shp k = .inl (ci, ks)) (hN : k < NC) (ht : ks[j]? = some (t + 3)) (hdg : decode cc pc = .ok (.getfield index, 3))
    (kk : W p l e Rm s m args below meth c H locs cells slots Q (F0 m (pc + 3) ls (.ref (bs + t) :: rest))) : W p l e Rm s m args below meth c H locs cells slots Q (F0 m pc ls (.ref (bs + k) :: rest)) := rn_get X hW hF hk hN ht rfl hdg kk
theorem rn_put (X : Cx p s m args c cc nL own G bs cy) (hW : Wd G bs cy I L R H) (hS : va_S (Aq bs) H0 H locs) {index ci j : Nat} (hF : FN own index ci j) {ks : List Nat} {t : Nat} (hk : shp k = .inl (ci, ks)) (hN : k < NC) (ht : ks[j]? = some t) {v : Value} {ty : FieldType}
    (hfin : (vwCl.getD ci ("", TX0, 0)).2.1 j |>.2.2.2 = false) (hd : parseFieldDescriptor ((vwCl.getD ci ("", TX0, 0)).2.1 j).2.2.1 = some ty) (hn : narrow ty v = v) (hfit : fits ty v = true) {I' : CI} {L' : CL} {R' : CR}
    (hI : ∀ a, a ≠ k → I' a = I a) (hL : ∀ a, a ≠ k → L' a = L a) (hR : ∀ a, a ≠ k → R' a = R a) (hv : v = fvV bs (I' k) (L' k) (R' k) (t, j)) (hne : ∀ a, a ≠ j → I' k a = I k a ∧ L' k a = L k a ∧ R' k a = R k a) (hdg : decode cc pc = .ok (.putfield index, 3))
    (kk : ∀ (H1 : Heap) (locs1 : List Loc), Wd G bs cy I' L' R' H1 → va_S (Aq bs) H0 H1 locs1 → W p l e Rm s m args below meth c H1 locs1 cells slots Q (F0 m (pc + 3) ls rest)) : W p l e Rm s m args below meth c H locs cells slots Q (F0 m pc ls (v :: .ref (bs + k) :: rest)) := by
  obtain ⟨hx, hb, hml, hown, hts, hK, hE⟩ := X
  obtain ⟨C, T, N, hc, hC, hj, hin, hl⟩ := hF
  have hg : vwCl.getD ci ("", TX0, 0) = (C, T, N) := by rw [List.getD_eq_getElem?_getD, hc]; rfl
  have hci : ci < 13 := (List.getElem?_eq_some_iff.mp hc).1
  have hnm := cls_nm ci hci
  have hty := cls_ty ci hci
  rw [hg] at hfin hd hnm hty
  dsimp only at hfin hd hnm hty
  refine va_putN (host := "SpanPainter") hx hb hts hin (fun a => (parseFieldDescriptor (T a).2.2.1).getD .int) (fun a ha => ?_) hnm hown hK hW wl_D hS k (fs := ks.zipIdx.map (fvV bs (I k) (L k) (R k))) ?_ hc j hj (va_Nw.use (nest_ok _ hl).1 (hE.1.1 _ hl)) (fun x hx2 => by rw [hC] at hx2; exact hx2) hfin hd hn hfit (ks_len ht) hdg (fun H1 locs1 hP _ hS1 => kk H1 locs1 ?_ hS1)
  · have h2 := hty a ha
    cases h3 : parseFieldDescriptor (T a).2.2.1 with
    | none => rw [h3] at h2; cases h2
    | some z => rfl
  · rw [wl_at hN, hk]
    rfl
  · rw [ks_set (i' := I' k) (l' := L' k) (r' := R' k) ht hv hne] at hP
    rw [wl_set hI hL hR (fun _ => by rw [hk]; rfl)] at hP
    exact hP
theorem rn_puti (X : Cx p s m args c cc nL own G bs cy) (hW : Wd G bs cy I L R H) (hS : va_S (Aq bs) H0 H locs) {index ci j : Nat} (hF : FN own index ci j) {ks : List Nat} (hk : shp k = .inl (ci, ks)) (hN : k < NC) (ht : ks[j]? = some 0) {v : Int32} {ty : FieldType}
    (hfin : ((vwCl.getD ci ("", TX0, 0)).2.1 j).2.2.2 = false) (hd : parseFieldDescriptor ((vwCl.getD ci ("", TX0, 0)).2.1 j).2.2.1 = some ty) (hn : narrow ty (.int v) = .int v) (hfit : fits ty (.int v) = true) (hdg : decode cc pc = .ok (.putfield index, 3))
    (kk : ∀ (H1 : Heap) (locs1 : List Loc), Wd G bs cy (u2 I k j v) L R H1 → va_S (Aq bs) H0 H1 locs1 → W p l e Rm s m args below meth c H1 locs1 cells slots Q (F0 m (pc + 3) ls rest)) : W p l e Rm s m args below meth c H locs cells slots Q (F0 m pc ls (.int v :: .ref (bs + k) :: rest)) :=
  rn_put X hW hS hF hk hN ht hfin hd hn hfit (I' := u2 I k j v) (L' := L) (R' := R) (fun a h => u2_ne h) (fun _ _ => rfl) (fun _ _ => rfl) (by rw [u2_eq]; simp [fvV, upd]) (fun a h => ⟨by rw [u2_eq]; simp [upd, h], rfl, rfl⟩) hdg kk
theorem rn_putl (X : Cx p s m args c cc nL own G bs cy) (hW : Wd G bs cy I L R H) (hS : va_S (Aq bs) H0 H locs) {index ci j : Nat} (hF : FN own index ci j) {ks : List Nat} (hk : shp k = .inl (ci, ks)) (hN : k < NC) (ht : ks[j]? = some 1) {v : Int64}
    (hfin : ((vwCl.getD ci ("", TX0, 0)).2.1 j).2.2.2 = false) (hd : parseFieldDescriptor ((vwCl.getD ci ("", TX0, 0)).2.1 j).2.2.1 = some .long) (hdg : decode cc pc = .ok (.putfield index, 3))
    (kk : ∀ (H1 : Heap) (locs1 : List Loc), Wd G bs cy I (u2L L k j v) R H1 → va_S (Aq bs) H0 H1 locs1 → W p l e Rm s m args below meth c H1 locs1 cells slots Q (F0 m (pc + 3) ls rest)) : W p l e Rm s m args below meth c H locs cells slots Q (F0 m pc ls (.long v :: .ref (bs + k) :: rest)) :=
  rn_put X hW hS hF hk hN ht hfin hd rfl rfl (I' := I) (L' := u2L L k j v) (R' := R) (fun _ _ => rfl) (fun a h => u2L_ne h) (fun _ _ => rfl) (by rw [u2L_eq]; simp [fvV, vp_updL]) (fun a h => ⟨rfl, by rw [u2L_eq]; simp [vp_updL, h], rfl⟩) hdg kk
theorem rn_putr (X : Cx p s m args c cc nL own G bs cy) (hW : Wd G bs cy I L R H) (hS : va_S (Aq bs) H0 H locs) {index ci j : Nat} (hF : FN own index ci j) {ks : List Nat} (hk : shp k = .inl (ci, ks)) (hN : k < NC) (ht : ks[j]? = some 2) {v : Nat} {C : String}
    (hfin : ((vwCl.getD ci ("", TX0, 0)).2.1 j).2.2.2 = false) (hd : parseFieldDescriptor ((vwCl.getD ci ("", TX0, 0)).2.1 j).2.2.1 = some (.object C)) (hdg : decode cc pc = .ok (.putfield index, 3))
    (kk : ∀ (H1 : Heap) (locs1 : List Loc), Wd G bs cy I L (u2R R k j v) H1 → va_S (Aq bs) H0 H1 locs1 → W p l e Rm s m args below meth c H1 locs1 cells slots Q (F0 m (pc + 3) ls rest)) : W p l e Rm s m args below meth c H locs cells slots Q (F0 m pc ls (.ref (bs + v) :: .ref (bs + k) :: rest)) :=
  rn_put X hW hS hF hk hN ht hfin hd rfl rfl (I' := I) (L' := L) (R' := u2R R k j v) (fun _ _ => rfl) (fun _ _ => rfl) (fun a h => u2R_ne h) (by simp [fvV, u2R]) (fun a h => ⟨rfl, rfl, by simp [u2R, h]⟩) hdg kk
theorem wl_arr {ty n : Nat} (hk : shp k = .inr (ty, n)) (hN : k < NC) : (wl bs cy I L R)[k]? = some (bs + k, .inl (cy ty, n, entA bs ty (I k) (L k))) := by
  rw [wl_at hN, hk]
  rfl
theorem r_ald (X : Cx p s m args c cc nL own G bs cy) (hW : Wd G bs cy I L R H) {n : Nat} (hk : shp k = .inr (0, n)) (hN : k < NC) {x : Int32} {j : Nat} (hx : x = nI j) (hj : j < n) (hn : n < 2 ^ 31) {v : Int32} (hv : I k j = v) (hdg : decode cc pc = .ok (.iaload, 1))
    (kk : W p l e Rm s m args below meth c H locs cells slots Q (F0 m (pc + 1) ls (.int v :: rest))) : W p l e Rm s m args below meth c H locs cells slots Q (F0 m pc ls (.int x :: .ref (bs + k) :: rest)) := by
  subst hx; subst hv
  refine va_iald X.1 X.2.1 X.2.2.2.2.2.1 hW k 0 (wl_arr hk hN) rfl (vp_in_nI hj hn) hdg ?_
  rw [nI_clamp (by omega)]
  exact kk
theorem r_bald (X : Cx p s m args c cc nL own G bs cy) (hW : Wd G bs cy I L R H) {n : Nat} (hk : shp k = .inr (1, n)) (hN : k < NC) {x : Int32} {j : Nat} (hx : x = nI j) (hj : j < n) (hn : n < 2 ^ 31) {v : Int32} (hv : I k j = v) (hdg : decode cc pc = .ok (.baload, 1))
    (kk : W p l e Rm s m args below meth c H locs cells slots Q (F0 m (pc + 1) ls (.int v :: rest))) : W p l e Rm s m args below meth c H locs cells slots Q (F0 m pc ls (.int x :: .ref (bs + k) :: rest)) := by
  subst hx; subst hv
  refine va_bald X.1 X.2.1 X.2.2.2.2.2.1 hW k 1 (wl_arr hk hN) rfl (vp_in_nI hj hn) hdg ?_
  rw [nI_clamp (by omega)]
  exact kk
theorem r_lald (X : Cx p s m args c cc nL own G bs cy) (hW : Wd G bs cy I L R H) {n : Nat} (hk : shp k = .inr (2, n)) (hN : k < NC) {x : Int32} {j : Nat} (hx : x = nI j) (hj : j < n) (hn : n < 2 ^ 31) {v : Int64} (hv : L k j = v) (hdg : decode cc pc = .ok (.laload, 1))
    (kk : W p l e Rm s m args below meth c H locs cells slots Q (F0 m (pc + 1) ls (.long v :: rest))) : W p l e Rm s m args below meth c H locs cells slots Q (F0 m pc ls (.int x :: .ref (bs + k) :: rest)) := by
  subst hx; subst hv
  refine va_lald X.1 X.2.1 X.2.2.2.2.2.1 hW k 2 (wl_arr hk hN) rfl (vp_in_nI hj hn) hdg ?_
  rw [nI_clamp (by omega)]
  exact kk
theorem r_ast (X : Cx p s m args c cc nL own G bs cy) (hW : Wd G bs cy I L R H) (hS : va_S (Aq bs) H0 H locs) {n : Nat} (hk : shp k = .inr (0, n)) (hN : k < NC) {x : Int32} {j : Nat} (hx : x = nI j) (hj : j < n) (hn : n < 2 ^ 31) {v : Int32} (hdg : decode cc pc = .ok (.iastore, 1))
    (kk : ∀ (H1 : Heap) (locs1 : List Loc), Wd G bs cy (u2 I k j v) L R H1 → va_S (Aq bs) H0 H1 locs1 → W p l e Rm s m args below meth c H1 locs1 cells slots Q (F0 m (pc + 1) ls rest)) : W p l e Rm s m args below meth c H locs cells slots Q (F0 m pc ls (.int v :: .int x :: .ref (bs + k) :: rest)) := by
  subst hx
  refine va_iast X.1 X.2.1 X.2.2.2.2.2.1 hW wl_D hS k 0 (wl_arr hk hN) rfl (vp_in_nI hj hn) hdg (fun H1 locs1 hP _ hS1 => kk H1 locs1 ?_ hS1)
  rw [nI_clamp (by omega), wl_set (I' := u2 I k j v) (L' := L) (R' := R) (fun a h => u2_ne h) (fun _ _ => rfl) (fun _ _ => rfl) (fun _ => by rw [hk, u2_eq]; rfl)] at hP
  exact hP
theorem r_bast (X : Cx p s m args c cc nL own G bs cy) (hW : Wd G bs cy I L R H) (hS : va_S (Aq bs) H0 H locs) {n : Nat} (hk : shp k = .inr (1, n)) (hN : k < NC) {x : Int32} {j : Nat} (hx : x = nI j) (hj : j < n) (hn : n < 2 ^ 31) {v w : Int32} (hv : vp_nar .byte v = w) (hdg : decode cc pc = .ok (.bastore, 1))
    (kk : ∀ (H1 : Heap) (locs1 : List Loc), Wd G bs cy (u2 I k j w) L R H1 → va_S (Aq bs) H0 H1 locs1 → W p l e Rm s m args below meth c H1 locs1 cells slots Q (F0 m (pc + 1) ls rest)) : W p l e Rm s m args below meth c H locs cells slots Q (F0 m pc ls (.int v :: .int x :: .ref (bs + k) :: rest)) := by
  subst hx; subst hv
  refine va_bast X.1 X.2.1 X.2.2.2.2.2.1 hW wl_D hS k 1 (wl_arr hk hN) rfl (vp_in_nI hj hn) hdg (fun H1 locs1 hP _ hS1 => kk H1 locs1 ?_ hS1)
  rw [nI_clamp (by omega), wl_set (I' := u2 I k j (vp_nar .byte v)) (L' := L) (R' := R) (fun a h => u2_ne h) (fun _ _ => rfl) (fun _ _ => rfl) (fun _ => by rw [hk, u2_eq]; rfl)] at hP
  exact hP
theorem r_last (X : Cx p s m args c cc nL own G bs cy) (hW : Wd G bs cy I L R H) (hS : va_S (Aq bs) H0 H locs) {n : Nat} (hk : shp k = .inr (2, n)) (hN : k < NC) {x : Int32} {j : Nat} (hx : x = nI j) (hj : j < n) (hn : n < 2 ^ 31) {v : Int64} (hdg : decode cc pc = .ok (.lastore, 1))
    (kk : ∀ (H1 : Heap) (locs1 : List Loc), Wd G bs cy I (u2L L k j v) R H1 → va_S (Aq bs) H0 H1 locs1 → W p l e Rm s m args below meth c H1 locs1 cells slots Q (F0 m (pc + 1) ls rest)) : W p l e Rm s m args below meth c H locs cells slots Q (F0 m pc ls (.long v :: .int x :: .ref (bs + k) :: rest)) := by
  subst hx
  refine va_last X.1 X.2.1 X.2.2.2.2.2.1 hW wl_D hS k 2 (wl_arr hk hN) rfl (vp_in_nI hj hn) hdg (fun H1 locs1 hP _ hS1 => kk H1 locs1 ?_ hS1)
  rw [nI_clamp (by omega), wl_set (I' := I) (L' := u2L L k j v) (R' := R) (fun _ _ => rfl) (fun a h => u2L_ne h) (fun _ _ => rfl) (fun _ => by rw [hk, u2L_eq]; rfl)] at hP
  exact hP
theorem r_alen (X : Cx p s m args c cc nL own G bs cy) (hW : Wd G bs cy I L R H) {ty n : Nat} (hk : shp k = .inr (ty, n)) (hty : ty < 5) (hN : k < NC) (hdg : decode cc pc = .ok (.arraylength, 1))
    (kk : W p l e Rm s m args below meth c H locs cells slots Q (F0 m (pc + 1) ls (.int (nI n) :: rest))) : W p l e Rm s m args below meth c H locs cells slots Q (F0 m pc ls (.ref (bs + k) :: rest)) := by
  have h5 : ∃ t, (tyL cy)[ty]? = some (cy ty, t) := by
    rcases (show ty = 0 ∨ ty = 1 ∨ ty = 2 ∨ ty = 3 ∨ ty = 4 by omega) with rfl | rfl | rfl | rfl | rfl <;> exact ⟨_, rfl⟩
  obtain ⟨t, ht⟩ := h5
  exact va_alen X.1 X.2.1 X.2.2.2.2.2.1 hW k ty (wl_arr hk hN) ht rfl hdg kk
end RR
abbrev MI : Type := MethodName × ByteArray × Nat × Option FieldType
def rmL (n mc ms : Nat) : Room := { frames := n, cells := mc, slots := ms, locals := 60 * n }
def mws (μ : MI) : List Cond := .code μ.1 μ.2.1 μ.2.2.1 μ.2.2.2 :: wsL_law
def PcM (G : va_G) (bs : Nat) (cy : Nat → ClassId) (av : List Value) (I : CI) (L : CL) (R : CR) : Array Value → State → Prop := va_Pc av (fun U => Wd G bs cy I L R U.heap ∧ va_K G vwCl (tyL cy) U ∧ EK bs cy U U.heap)
abbrev Sto : Type := CI × CL × CR
def BM (G : va_G) (bs : Nat) (cy : Nat → ClassId) (u : Sto) (t : State) : Prop := Wd G bs cy u.1 u.2.1 u.2.2 t.heap
/-- the contract of a method that answers an int (at its room's level n): from this store, these arguments, it returns r and leaves a store, as Q says -/
def MTi (l : Launch) (G : va_G) (bs : Nat) (cy : Nat → ClassId) (μ : MI) (n : Nat) (av : List Value) (I : CI) (L : CL) (R : CR) (Q : Int32 → CI → CL → CR → Prop) : Prop :=
  Met l μ.1 (mws μ) (rmL n 0 0) (PcM G bs cy av I L R) (va_Qi (fun (r : Int32) (u : Sto) => Q r u.1 u.2.1 u.2.2) (BM G bs cy) (Aq bs)) 0 0 (Aq bs)
def MTl (l : Launch) (G : va_G) (bs : Nat) (cy : Nat → ClassId) (μ : MI) (n : Nat) (av : List Value) (I : CI) (L : CL) (R : CR) (Q : Int64 → CI → CL → CR → Prop) : Prop :=
  Met l μ.1 (mws μ) (rmL n 0 0) (PcM G bs cy av I L R) (va_Ql (fun (r : Int64) (u : Sto) => Q r u.1 u.2.1 u.2.2) (BM G bs cy) (Aq bs)) 0 0 (Aq bs)
def MTv (l : Launch) (G : va_G) (bs : Nat) (cy : Nat → ClassId) (μ : MI) (n : Nat) (av : List Value) (I : CI) (L : CL) (R : CR) (Q : CI → CL → CR → Prop) : Prop :=
  Met l μ.1 (mws μ) (rmL n 0 0) (PcM G bs cy av I L R) (va_Qv (fun (u : Sto) => Q u.1 u.2.1 u.2.2) (BM G bs cy) (Aq bs)) 0 0 (Aq bs)
def MTd (l : Launch) (G : va_G) (bs : Nat) (cy : Nat → ClassId) (μ : MI) (n : Nat) (av : List Value) (I : CI) (L : CL) (R : CR) (Q : UInt64 → CI → CL → CR → Prop) : Prop :=
  Met l μ.1 (mws μ) (rmL n 0 0) (PcM G bs cy av I L R) (va_Qd (fun (r : UInt64) (u : Sto) => Q r u.1 u.2.1 u.2.2) (BM G bs cy) (Aq bs)) 0 0 (Aq bs)
theorem PcM_blind {G : va_G} {bs : Nat} {cy : Nat → ClassId} {av : List Value} {I : CI} {L : CL} {R : CR} : FrameBlind (PcM G bs cy av I L R) := fun a U g mk q => ⟨q.1, q.2.1, va_K.moved (u := U) (U := U.calling g mk a) (Vm.Alike.refl U.vm) q.2.2.1, EK.same (s := U) (U := U.calling g mk a) rfl q.2.2.2⟩
def noMH (y : MethodName) (n : Nat) : Prop := y.cls ≠ "java/lang/invoke/MethodHandle" ∧ y.cls ≠ "java/lang/invoke/VarHandle" ∧ (parseMethodDescriptor y.desc).map (fun d => d.parameters.length) = some n
/-- what the tables say of a method that is called: by a receiver of its own class; statically; as a constructor -/
def UV (μ : MI) (C : String) (n : Nat) : Prop := (μ.1.cls = C ∧ μ.1.cls ≠ "java/lang/invoke/MethodHandle" ∧ μ.1.cls ≠ "java/lang/invoke/VarHandle" ∧ (parseMethodDescriptor μ.1.desc).map (fun d => d.parameters.length) = some n) ∧ μ.2.2.1 ≤ 41 ∧ Cond.instanceMethod μ.1 ∈ wsL_law ∧ Cond.selects C μ.1 μ.1 ∈ wsL_law ∧ Cond.initialized C ∈ wsL_law ∧ Cond.code μ.1 μ.2.1 μ.2.2.1 μ.2.2.2 ∈ wsL_law
def US (μ : MI) (C : String) (n : Nat) : Prop := (μ.1.cls = C ∧ μ.1.cls ≠ "java/lang/invoke/MethodHandle" ∧ μ.1.cls ≠ "java/lang/invoke/VarHandle" ∧ (parseMethodDescriptor μ.1.desc).map (fun d => d.parameters.length) = some n) ∧ μ.2.2.1 ≤ 41 ∧ Cond.static μ.1 ∈ wsL_law ∧ Cond.initialized C ∈ wsL_law ∧ Cond.code μ.1 μ.2.1 μ.2.2.1 μ.2.2.2 ∈ wsL_law
def UI (μ : MI) (C : String) (n : Nat) : Prop := (μ.1.cls = C ∧ μ.1.cls ≠ "java/lang/invoke/MethodHandle" ∧ μ.1.cls ≠ "java/lang/invoke/VarHandle" ∧ (parseMethodDescriptor μ.1.desc).map (fun d => d.parameters.length) = some n) ∧ μ.2.2.1 ≤ 41 ∧ Cond.instanceMethod μ.1 ∈ wsL_law ∧ Cond.initialized C ∈ wsL_law ∧ Cond.code μ.1 μ.2.1 μ.2.2.1 μ.2.2.2 ∈ wsL_law
theorem wsL_good0 : wsL_law.all goodWord = true := by decide +kernel
theorem wsL_good {w : Cond} (h : w ∈ wsL_law) : (w.onTables && w.keeps) = true ∨ ∃ ty, w = .arrayClass ty := good_of_word (List.all_eq_true.mp wsL_good0 w h)
theorem gIn {ws : List Cond} (h : ∀ w ∈ ws, w ∈ wsL_law) : GoodIn wsL_law ws := fun w hw => ⟨h w hw, wsL_good (h w hw)⟩
abbrev MX11_init : MI := (yX11_init, cX11_init, 5, none)
abbrev MX0_init : MI := (yX0_init, cX0_init, 1, none)
abbrev MX7_init : MI := (yX7_init, cX7_init, 1, none)
abbrev MX8_init : MI := (yX8_init, cX8_init, 1, none)
abbrev MX2_init : MI := (yX2_init, cX2_init, 1, none)
abbrev MX4_init : MI := (yX4_init, cX4_init, 1, none)
abbrev MX9_init : MI := (yX9_init, cX9_init, 1, none)
abbrev MX1_init : MI := (yX1_init, cX1_init, 1, none)
abbrev MX1_reset : MI := (yX1_reset, cX1_reset, 1, none)
abbrev MJ7_fill_53178 : MI := (yJ7_fill_53178, cJ7_fill_53178, 4, none)
abbrev MX6_init : MI := (yX6_init, cX6_init, 2, none)
abbrev MX5_init : MI := (yX5_init, cX5_init, 4, none)
abbrev MX3_init : MI := (yX3_init, cX3_init, 1, none)
abbrev MX10_init : MI := (yX10_init, cX10_init, 2, none)
abbrev MX12_init : MI := (yX12_init, cX12_init, 1, none)
abbrev MX12_reset : MI := (yX12_reset, cX12_reset, 2, none)
abbrev MX11_feed : MI := (yX11_feed, cX11_feed, 6, (some .int))
abbrev MX9_hasRoomFor : MI := (yX9_hasRoomFor, cX9_hasRoomFor, 2, (some .boolean))
abbrev MX9_append : MI := (yX9_append, cX9_append, 3, none)
abbrev MX9_size : MI := (yX9_size, cX9_size, 1, (some .int))
abbrev MX12_feed : MI := (yX12_feed, cX12_feed, 6, (some .int))
abbrev MX12_append : MI := (yX12_append, cX12_append, 3, none)
abbrev ML_load : MI := (yL_load, cL_load, 4, (some .int))
abbrev MX11_load : MI := (yX11_load, cX11_load, 4, (some .int))
abbrev MX5_read : MI := (yX5_read, cX5_read, 6, (some .boolean))
abbrev MX6_start : MI := (yX6_start, cX6_start, 2, none)
abbrev MX6_followAll : MI := (yX6_followAll, cX6_followAll, 2, none)
abbrev MX6_follow : MI := (yX6_follow, cX6_follow, 6, none)
abbrev MX6_isPainted : MI := (yX6_isPainted, cX6_isPainted, 3, (some .boolean))
abbrev MX3_clear : MI := (yX3_clear, cX3_clear, 1, none)
abbrev MX10_begin : MI := (yX10_begin, cX10_begin, 2, none)
abbrev MX10_next : MI := (yX10_next, cX10_next, 1, none)
abbrev MX10_takeLetters : MI := (yX10_takeLetters, cX10_takeLetters, 1, none)
abbrev MX10_takeDigits : MI := (yX10_takeDigits, cX10_takeDigits, 1, none)
abbrev MX5_readStatement : MI := (yX5_readStatement, cX5_readStatement, 4, (some .boolean))
abbrev MX5_failOnToken : MI := (yX5_failOnToken, cX5_failOnToken, 1, (some .boolean))
abbrev MX5_readBridge : MI := (yX5_readBridge, cX5_readBridge, 4, (some .boolean))
abbrev MX5_number : MI := (yX5_number, cX5_number, 3, (some .int))
abbrev MX5_fail : MI := (yX5_fail, cX5_fail, 2, (some .boolean))
abbrev MX5_semicolon : MI := (yX5_semicolon, cX5_semicolon, 1, (some .boolean))
abbrev MX5_readLane : MI := (yX5_readLane, cX5_readLane, 4, (some .boolean))
abbrev MX5_newName : MI := (yX5_newName, cX5_newName, 1, (some .long))
abbrev MX5_isReserved : MI := (yX5_isReserved, cX5_isReserved, 2, (some .boolean))
abbrev MX3_isDeclared : MI := (yX3_isDeclared, cX3_isDeclared, 4, (some .boolean))
abbrev MX3_add : MI := (yX3_add, cX3_add, 5, none)
abbrev MX1_addLane : MI := (yX1_addLane, cX1_addLane, 2, none)
abbrev MX5_readSpan : MI := (yX5_readSpan, cX5_readSpan, 8, (some .boolean))
abbrev MX5_laneOrNone : MI := (yX5_laneOrNone, cX5_laneOrNone, 1, (some .int))
abbrev MX5_thisName : MI := (yX5_thisName, cX5_thisName, 3, (some .int))
abbrev MX3_numberOf : MI := (yX3_numberOf, cX3_numberOf, 5, (some .int))
abbrev MX1_addSpan : MI := (yX1_addSpan, cX1_addSpan, 6, none)
abbrev MX5_readGang : MI := (yX5_readGang, cX5_readGang, 5, (some .boolean))
abbrev MX1_addGang : MI := (yX1_addGang, cX1_addGang, 3, none)
abbrev MX5_readWeather : MI := (yX5_readWeather, cX5_readWeather, 3, (some .boolean))
abbrev MX5_readClosed : MI := (yX5_readClosed, cX5_readClosed, 3, (some .boolean))
abbrev MX5_knownName : MI := (yX5_knownName, cX5_knownName, 2, (some .int))
abbrev MX5_readPainting : MI := (yX5_readPainting, cX5_readPainting, 4, (some .boolean))
abbrev MX6_put : MI := (yX6_put, cX6_put, 4, none)
abbrev MX5_failureKind : MI := (yX5_failureKind, cX5_failureKind, 1, (some .int))
abbrev MX5_failurePosition : MI := (yX5_failurePosition, cX5_failurePosition, 1, (some .int))
abbrev MX9_clear : MI := (yX9_clear, cX9_clear, 1, none)
abbrev MX11_takeDraft : MI := (yX11_takeDraft, cX11_takeDraft, 2, none)
abbrev MX2_clear : MI := (yX2_clear, cX2_clear, 1, none)
abbrev MX12_load : MI := (yX12_load, cX12_load, 4, (some .int))
abbrev MX12_between : MI := (yX12_between, cX12_between, 6, (some .boolean))
abbrev MX12_advance : MI := (yX12_advance, cX12_advance, 2, (some .boolean))
abbrev MX12_byteAt : MI := (yX12_byteAt, cX12_byteAt, 2, (some .int))
abbrev MX12_isLetter : MI := (yX12_isLetter, cX12_isLetter, 1, (some .boolean))
abbrev MX12_keywordHere : MI := (yX12_keywordHere, cX12_keywordHere, 6, (some .int))
abbrev MJ0_length_8abf5 : MI := (yJ0_length_8abf5, cJ0_length_8abf5, 1, (some .int))
abbrev MJ0_coder_7d493 : MI := (yJ0_coder_7d493, cJ0_coder_7d493, 1, (some .byte))
abbrev MJ0_charAt_5068e : MI := (yJ0_charAt_5068e, cJ0_charAt_5068e, 2, (some .char))
abbrev MJ0_isLatin1_aae02 : MI := (yJ0_isLatin1_aae02, cJ0_isLatin1_aae02, 1, (some .boolean))
abbrev MJ1_charAt_3b067 : MI := (yJ1_charAt_3b067, cJ1_charAt_3b067, 2, (some .char))
abbrev MJ0_checkIndex_df160 : MI := (yJ0_checkIndex_df160, cJ0_checkIndex_df160, 2, none)
abbrev MJ3_checkIndex_8e157 : MI := (yJ3_checkIndex_8e157, cJ3_checkIndex_8e157, 3, (some .int))
abbrev MJ2_charAt_3b067 : MI := (yJ2_charAt_3b067, cJ2_charAt_3b067, 2, (some .char))
abbrev MJ2_checkIndex_2214a : MI := (yJ2_checkIndex_2214a, cJ2_checkIndex_2214a, 2, none)
abbrev MJ2_length_9d52b : MI := (yJ2_length_9d52b, cJ2_length_9d52b, 1, (some .int))
abbrev MJ2_getChar_3b067 : MI := (yJ2_getChar_3b067, cJ2_getChar_3b067, 2, (some .char))
abbrev MX12_isDigit : MI := (yX12_isDigit, cX12_isDigit, 1, (some .boolean))
abbrev MX12_statement : MI := (yX12_statement, cX12_statement, 3, (some .boolean))
abbrev MX12_fail : MI := (yX12_fail, cX12_fail, 2, (some .boolean))
abbrev MX12_bridge : MI := (yX12_bridge, cX12_bridge, 2, (some .boolean))
abbrev MX12_numberTo : MI := (yX12_numberTo, cX12_numberTo, 4, (some .boolean))
abbrev MX12_number : MI := (yX12_number, cX12_number, 3, (some .boolean))
abbrev MX12_lane : MI := (yX12_lane, cX12_lane, 2, (some .boolean))
abbrev MX12_newName : MI := (yX12_newName, cX12_newName, 2, (some .boolean))
abbrev MX12_isName : MI := (yX12_isName, cX12_isName, 1, (some .boolean))
abbrev MX12_find : MI := (yX12_find, cX12_find, 3, (some .int))
abbrev MX12_span : MI := (yX12_span, cX12_span, 3, (some .boolean))
abbrev MX12_oldName : MI := (yX12_oldName, cX12_oldName, 2, (some .boolean))
abbrev MX12_gang : MI := (yX12_gang, cX12_gang, 2, (some .boolean))
abbrev MX12_weather : MI := (yX12_weather, cX12_weather, 1, (some .boolean))
abbrev MX12_closed : MI := (yX12_closed, cX12_closed, 2, (some .boolean))
abbrev MX12_painting : MI := (yX12_painting, cX12_painting, 3, (some .boolean))
abbrev MX12_copy : MI := (yX12_copy, cX12_copy, 5, none)
abbrev MX12_thrown : MI := (yX12_thrown, cX12_thrown, 1, (some .int))
abbrev MX11_errorKind : MI := (yX11_errorKind, cX11_errorKind, 1, (some .int))
abbrev MX12_errorKind : MI := (yX12_errorKind, cX12_errorKind, 1, (some .int))
abbrev MX11_errorPosition : MI := (yX11_errorPosition, cX11_errorPosition, 1, (some .int))
abbrev MX12_errorPosition : MI := (yX12_errorPosition, cX12_errorPosition, 1, (some .int))
abbrev ML_rustBefore : MI := (yL_rustBefore, cL_rustBefore, 5, (some .int))
abbrev MX11_rustBefore : MI := (yX11_rustBefore, cX11_rustBefore, 3, (some .int))
abbrev MX11_checkSpan : MI := (yX11_checkSpan, cX11_checkSpan, 2, none)
abbrev MX11_checkYear : MI := (yX11_checkYear, cX11_checkYear, 2, none)
abbrev MX6_rustAtStart : MI := (yX6_rustAtStart, cX6_rustAtStart, 3, (some .int))
abbrev MX12_rustBefore : MI := (yX12_rustBefore, cX12_rustBefore, 3, (some .int))
abbrev MX12_goodSpan : MI := (yX12_goodSpan, cX12_goodSpan, 3, (some .boolean))
abbrev MX12_isSpan : MI := (yX12_isSpan, cX12_isSpan, 2, (some .boolean))
abbrev MX12_isYear : MI := (yX12_isYear, cX12_isYear, 2, (some .boolean))
abbrev MX12_good : MI := (yX12_good, cX12_good, 2, (some .boolean))
abbrev MX12_lay : MI := (yX12_lay, cX12_lay, 2, none)
abbrev MX12_paintedYears : MI := (yX12_paintedYears, cX12_paintedYears, 4, (some .int))
abbrev MX12_painter : MI := (yX12_painter, cX12_painter, 3, (some .int))
abbrev MX12_layBy : MI := (yX12_layBy, cX12_layBy, 6, none)
abbrev MX12_spanOf : MI := (yX12_spanOf, cX12_spanOf, 3, (some .int))
abbrev ML_rustAfter : MI := (yL_rustAfter, cL_rustAfter, 5, (some .int))
abbrev MX11_rustAfter : MI := (yX11_rustAfter, cX11_rustAfter, 3, (some .int))
abbrev MX6_rustAtEnd : MI := (yX6_rustAtEnd, cX6_rustAtEnd, 3, (some .int))
abbrev MX12_rustAfter : MI := (yX12_rustAfter, cX12_rustAfter, 3, (some .int))
abbrev ML_guardLeft : MI := (yL_guardLeft, cL_guardLeft, 5, (some .int))
abbrev MX11_guardLeft : MI := (yX11_guardLeft, cX11_guardLeft, 3, (some .int))
abbrev MX6_guardAtStart : MI := (yX6_guardAtStart, cX6_guardAtStart, 3, (some .int))
abbrev MX12_guardLeft : MI := (yX12_guardLeft, cX12_guardLeft, 3, (some .int))
abbrev ML_pastYear : MI := (yL_pastYear, cL_pastYear, 4, (some .int))
abbrev MX11_pastYear : MI := (yX11_pastYear, cX11_pastYear, 2, (some .int))
abbrev MX6_firstPast : MI := (yX6_firstPast, cX6_firstPast, 3, (some .int))
abbrev MX6_isPast : MI := (yX6_isPast, cX6_isPast, 3, (some .boolean))
abbrev MX12_pastYear : MI := (yX12_pastYear, cX12_pastYear, 2, (some .int))
abbrev MX12_firstPast : MI := (yX12_firstPast, cX12_firstPast, 2, (some .int))
abbrev MX12_pastLaid : MI := (yX12_pastLaid, cX12_pastLaid, 3, (some .int))
abbrev MX11_pastCount : MI := (yX11_pastCount, cX11_pastCount, 1, (some .int))
abbrev MX6_countPast : MI := (yX6_countPast, cX6_countPast, 3, (some .int))
abbrev MX12_pastCount : MI := (yX12_pastCount, cX12_pastCount, 1, (some .int))
abbrev MX12_countPast : MI := (yX12_countPast, cX12_countPast, 3, (some .int))
abbrev ML_pastSpans : MI := (yL_pastSpans, cL_pastSpans, 4, (some .int))
abbrev MX11_pastSpans : MI := (yX11_pastSpans, cX11_pastSpans, 4, (some .int))
abbrev MX12_pastSpans : MI := (yX12_pastSpans, cX12_pastSpans, 4, (some .int))
abbrev ML_rustiest : MI := (yL_rustiest, cL_rustiest, 4, (some .int))
abbrev MX11_rustiest : MI := (yX11_rustiest, cX11_rustiest, 6, (some .int))
abbrev MX12_rustiest : MI := (yX12_rustiest, cX12_rustiest, 5, (some .int))
abbrev ML_averageRust : MI := (yL_averageRust, cL_averageRust, 4, (some .int))
abbrev MX11_averageRust : MI := (yX11_averageRust, cX11_averageRust, 5, (some .double))
abbrev MX12_averageRust : MI := (yX12_averageRust, cX12_averageRust, 5, (some .double))
abbrev ML_urgent : MI := (yL_urgent, cL_urgent, 4, (some .int))
abbrev MX11_urgent : MI := (yX11_urgent, cX11_urgent, 5, (some .int))
abbrev MX7_clear : MI := (yX7_clear, cX7_clear, 1, none)
abbrev MX7_add : MI := (yX7_add, cX7_add, 6, none)
abbrev MX7_spanAt : MI := (yX7_spanAt, cX7_spanAt, 2, (some .int))
abbrev MX12_urgent : MI := (yX12_urgent, cX12_urgent, 4, (some .int))
abbrev MX12_ranked : MI := (yX12_ranked, cX12_ranked, 5, (some .int))
abbrev MX12_isAhead : MI := (yX12_isAhead, cX12_isAhead, 3, (some .boolean))
abbrev ML_unpaintedPast : MI := (yL_unpaintedPast, cL_unpaintedPast, 4, (some .int))
abbrev MX11_unpaintedPast : MI := (yX11_unpaintedPast, cX11_unpaintedPast, 2, (some .int))
abbrev MX1_firstPastBare : MI := (yX1_firstPastBare, cX1_firstPastBare, 5, (some .int))
abbrev MX12_unpaintedPast : MI := (yX12_unpaintedPast, cX12_unpaintedPast, 2, (some .int))
abbrev MX12_pastBy : MI := (yX12_pastBy, cX12_pastBy, 3, (some .int))
abbrev ML_coatsNeeded : MI := (yL_coatsNeeded, cL_coatsNeeded, 4, (some .int))
abbrev MX11_coatsNeeded : MI := (yX11_coatsNeeded, cX11_coatsNeeded, 3, (some .int))
abbrev MX1_latestCoat : MI := (yX1_latestCoat, cX1_latestCoat, 8, (some .int))
abbrev MX12_coatsNeeded : MI := (yX12_coatsNeeded, cX12_coatsNeeded, 4, (some .int))
abbrev MX12_bits : MI := (yX12_bits, cX12_bits, 3, (some .int))
abbrev ML_latestPainting : MI := (yL_latestPainting, cL_latestPainting, 5, (some .int))
abbrev MX11_latestPainting : MI := (yX11_latestPainting, cX11_latestPainting, 3, (some .int))
abbrev MX12_latestPainting : MI := (yX12_latestPainting, cX12_latestPainting, 6, (some .int))
abbrev MX12_latest : MI := (yX12_latest, cX12_latest, 4, (some .int))
abbrev ML_harmlessRate : MI := (yL_harmlessRate, cL_harmlessRate, 4, (some .int))
abbrev MX11_harmlessRate : MI := (yX11_harmlessRate, cX11_harmlessRate, 3, (some .int))
abbrev MX12_harmlessRate : MI := (yX12_harmlessRate, cX12_harmlessRate, 5, (some .int))
abbrev ML_effort : MI := (yL_effort, cL_effort, 5, (some .int))
abbrev MX11_effort : MI := (yX11_effort, cX11_effort, 3, (some .int))
abbrev MX6_spanEffort : MI := (yX6_spanEffort, cX6_spanEffort, 3, (some .int))
abbrev MX12_effort : MI := (yX12_effort, cX12_effort, 3, (some .int))
abbrev MX12_effortOf : MI := (yX12_effortOf, cX12_effortOf, 3, (some .int))
abbrev ML_capacity : MI := (yL_capacity, cL_capacity, 5, (some .int))
abbrev MX11_capacity : MI := (yX11_capacity, cX11_capacity, 3, (some .int))
abbrev MX11_checkGang : MI := (yX11_checkGang, cX11_checkGang, 2, none)
abbrev MX1_gangCapacity : MI := (yX1_gangCapacity, cX1_gangCapacity, 3, (some .int))
abbrev MX12_capacity : MI := (yX12_capacity, cX12_capacity, 3, (some .int))
abbrev MX12_goodGang : MI := (yX12_goodGang, cX12_goodGang, 3, (some .boolean))
abbrev MX12_isGang : MI := (yX12_isGang, cX12_isGang, 2, (some .boolean))
abbrev MX12_capacityOf : MI := (yX12_capacityOf, cX12_capacityOf, 3, (some .int))
abbrev MX12_propertyOf : MI := (yX12_propertyOf, cX12_propertyOf, 3, (some .int))
abbrev ML_loadOf : MI := (yL_loadOf, cL_loadOf, 5, (some .int))
abbrev MX11_loadOf : MI := (yX11_loadOf, cX11_loadOf, 3, (some .int))
abbrev MX6_gangLoad : MI := (yX6_gangLoad, cX6_gangLoad, 5, (some .int))
abbrev MX6_painter : MI := (yX6_painter, cX6_painter, 3, (some .int))
abbrev MX12_loadOf : MI := (yX12_loadOf, cX12_loadOf, 3, (some .int))
abbrev MX12_loadIn : MI := (yX12_loadIn, cX12_loadIn, 5, (some .int))
abbrev ML_gangOf : MI := (yL_gangOf, cL_gangOf, 5, (some .int))
abbrev MX11_gangOf : MI := (yX11_gangOf, cX11_gangOf, 3, (some .int))
abbrev MX12_gangOf : MI := (yX12_gangOf, cX12_gangOf, 3, (some .int))
abbrev MX12_orNotFound : MI := (yX12_orNotFound, cX12_orNotFound, 1, (some .int))
abbrev ML_paintedSpans : MI := (yL_paintedSpans, cL_paintedSpans, 4, (some .int))
abbrev MX11_paintedSpans : MI := (yX11_paintedSpans, cX11_paintedSpans, 4, (some .int))
abbrev MX12_paintedSpans : MI := (yX12_paintedSpans, cX12_paintedSpans, 4, (some .int))
abbrev ML_lanesShut : MI := (yL_lanesShut, cL_lanesShut, 4, (some .int))
abbrev MX11_lanesShut : MI := (yX11_lanesShut, cX11_lanesShut, 2, (some .int))
abbrev MX6_shutLanes : MI := (yX6_shutLanes, cX6_shutLanes, 4, (some .int))
abbrev MX12_lanesShut : MI := (yX12_lanesShut, cX12_lanesShut, 2, (some .int))
abbrev MX12_shutIn : MI := (yX12_shutIn, cX12_shutIn, 5, (some .int))
abbrev MX11_paintings : MI := (yX11_paintings, cX11_paintings, 1, (some .int))
abbrev MX6_countPaintings : MI := (yX6_countPaintings, cX6_countPaintings, 3, (some .int))
abbrev MX12_paintings : MI := (yX12_paintings, cX12_paintings, 3, (some .int))
abbrev ML_daysUsed : MI := (yL_daysUsed, cL_daysUsed, 5, (some .int))
abbrev MX11_daysUsed : MI := (yX11_daysUsed, cX11_daysUsed, 3, (some .int))
abbrev MX6_gangDays : MI := (yX6_gangDays, cX6_gangDays, 5, (some .int))
abbrev MX1_daysOf : MI := (yX1_daysOf, cX1_daysOf, 4, (some .int))
abbrev MX12_daysUsed : MI := (yX12_daysUsed, cX12_daysUsed, 3, (some .int))
abbrev MX12_daysIn : MI := (yX12_daysIn, cX12_daysIn, 5, (some .int))
abbrev MX12_daysOf : MI := (yX12_daysOf, cX12_daysOf, 4, (some .int))
abbrev ML_laneDays : MI := (yL_laneDays, cL_laneDays, 5, (some .int))
abbrev MX11_laneDays : MI := (yX11_laneDays, cX11_laneDays, 3, (some .int))
abbrev MX11_checkLane : MI := (yX11_checkLane, cX11_checkLane, 2, none)
abbrev MX6_daysOnLane : MI := (yX6_daysOnLane, cX6_daysOnLane, 6, (some .int))
abbrev MX12_laneDays : MI := (yX12_laneDays, cX12_laneDays, 3, (some .int))
abbrev MX12_isLane : MI := (yX12_isLane, cX12_isLane, 2, (some .boolean))
abbrev MX12_laneIn : MI := (yX12_laneIn, cX12_laneIn, 5, (some .int))
abbrev ML_trafficLoss : MI := (yL_trafficLoss, cL_trafficLoss, 4, (some .int))
abbrev MX11_trafficLoss : MI := (yX11_trafficLoss, cX11_trafficLoss, 2, (some .int))
abbrev MX6_lossIn : MI := (yX6_lossIn, cX6_lossIn, 4, (some .int))
abbrev MX12_trafficLoss : MI := (yX12_trafficLoss, cX12_trafficLoss, 2, (some .int))
abbrev MX12_lossIn : MI := (yX12_lossIn, cX12_lossIn, 4, (some .int))
abbrev ML_wages : MI := (yL_wages, cL_wages, 4, (some .int))
abbrev MX11_wages : MI := (yX11_wages, cX11_wages, 2, (some .int))
abbrev MX6_wagesIn : MI := (yX6_wagesIn, cX6_wagesIn, 4, (some .int))
abbrev MX12_wages : MI := (yX12_wages, cX12_wages, 2, (some .int))
abbrev MX12_wagesIn : MI := (yX12_wagesIn, cX12_wagesIn, 4, (some .int))
abbrev MX11_totalWages : MI := (yX11_totalWages, cX11_totalWages, 3, (some .int))
abbrev MX12_totalWages : MI := (yX12_totalWages, cX12_totalWages, 3, (some .int))
abbrev MX11_totalLoss : MI := (yX11_totalLoss, cX11_totalLoss, 3, (some .int))
abbrev MX12_totalLoss : MI := (yX12_totalLoss, cX12_totalLoss, 3, (some .int))
abbrev MX11_busiestYear : MI := (yX11_busiestYear, cX11_busiestYear, 6, (some .int))
abbrev MX12_busiestYear : MI := (yX12_busiestYear, cX12_busiestYear, 6, (some .int))
abbrev ML_idleDays : MI := (yL_idleDays, cL_idleDays, 4, (some .int))
abbrev MX11_idleDays : MI := (yX11_idleDays, cX11_idleDays, 4, (some .int))
abbrev MX12_idleDays : MI := (yX12_idleDays, cX12_idleDays, 4, (some .int))
abbrev MX11_overloads : MI := (yX11_overloads, cX11_overloads, 1, (some .int))
abbrev MX6_countOverloads : MI := (yX6_countOverloads, cX6_countOverloads, 4, (some .int))
abbrev MX6_isOverloaded : MI := (yX6_isOverloaded, cX6_isOverloaded, 3, (some .boolean))
abbrev MX12_overloads : MI := (yX12_overloads, cX12_overloads, 1, (some .int))
abbrev MX12_countOver : MI := (yX12_countOver, cX12_countOver, 4, (some .int))
abbrev MX12_isOver : MI := (yX12_isOver, cX12_isOver, 3, (some .boolean))
abbrev MX11_firstOverload : MI := (yX11_firstOverload, cX11_firstOverload, 3, (some .int))
abbrev MX12_firstOverload : MI := (yX12_firstOverload, cX12_firstOverload, 3, (some .int))
abbrev ML_refusal : MI := (yL_refusal, cL_refusal, 6, (some .int))
abbrev MX11_refusal : MI := (yX11_refusal, cX11_refusal, 4, (some .int))
abbrev MX6_reasonAgainst : MI := (yX6_reasonAgainst, cX6_reasonAgainst, 6, (some .int))
abbrev MX1_isClosed : MI := (yX1_isClosed, cX1_isClosed, 3, (some .boolean))
abbrev MJ6_bitCount_0f7a4 : MI := (yJ6_bitCount_0f7a4, cJ6_bitCount_0f7a4, 1, (some .int))
abbrev MX12_refusal : MI := (yX12_refusal, cX12_refusal, 4, (some .int))
abbrev MX12_goodPainting : MI := (yX12_goodPainting, cX12_goodPainting, 4, (some .boolean))
abbrev MX12_refusalOf : MI := (yX12_refusalOf, cX12_refusalOf, 5, (some .int))
abbrev ML_possibleGangs : MI := (yL_possibleGangs, cL_possibleGangs, 5, (some .int))
abbrev MX11_possibleGangs : MI := (yX11_possibleGangs, cX11_possibleGangs, 5, (some .int))
abbrev MX12_possibleGangs : MI := (yX12_possibleGangs, cX12_possibleGangs, 5, (some .int))
abbrev ML_firstPossible : MI := (yL_firstPossible, cL_firstPossible, 4, (some .int))
abbrev MX11_firstPossible : MI := (yX11_firstPossible, cX11_firstPossible, 4, (some .int))
abbrev MX12_firstPossible : MI := (yX12_firstPossible, cX12_firstPossible, 4, (some .int))
abbrev ML_bestPainting : MI := (yL_bestPainting, cL_bestPainting, 4, (some .int))
abbrev MX11_bestPainting : MI := (yX11_bestPainting, cX11_bestPainting, 7, (some .int))
abbrev MX11_pastCountWith : MI := (yX11_pastCountWith, cX11_pastCountWith, 6, (some .int))
abbrev MX12_bestPainting : MI := (yX12_bestPainting, cX12_bestPainting, 7, (some .int))
abbrev MX12_setPainter : MI := (yX12_setPainter, cX12_setPainter, 4, none)
abbrev ML_shutYears : MI := (yL_shutYears, cL_shutYears, 4, (some .int))
abbrev MX11_shutYears : MI := (yX11_shutYears, cX11_shutYears, 4, (some .int))
abbrev MX12_shutYears : MI := (yX12_shutYears, cX12_shutYears, 4, (some .int))
abbrev ML_needlessPaintings : MI := (yL_needlessPaintings, cL_needlessPaintings, 4, (some .int))
abbrev MX11_needlessPaintings : MI := (yX11_needlessPaintings, cX11_needlessPaintings, 5, (some .int))
abbrev MX12_needlessPaintings : MI := (yX12_needlessPaintings, cX12_needlessPaintings, 6, (some .int))
abbrev ML_sufficientSpeed : MI := (yL_sufficientSpeed, cL_sufficientSpeed, 4, (some .int))
abbrev MX11_sufficientSpeed : MI := (yX11_sufficientSpeed, cX11_sufficientSpeed, 3, (some .int))
abbrev MX6_canCopeAt : MI := (yX6_canCopeAt, cX6_canCopeAt, 4, (some .boolean))
abbrev MX12_sufficientSpeed : MI := (yX12_sufficientSpeed, cX12_sufficientSpeed, 5, (some .int))
abbrev ML_paint : MI := (yL_paint, cL_paint, 6, (some .int))
abbrev MX11_paint : MI := (yX11_paint, cX11_paint, 4, (some .int))
abbrev MX11_remember : MI := (yX11_remember, cX11_remember, 1, none)
abbrev MX2_keep : MI := (yX2_keep, cX2_keep, 3, none)
abbrev MX1_saveTo : MI := (yX1_saveTo, cX1_saveTo, 2, none)
abbrev MX6_saveTo : MI := (yX6_saveTo, cX6_saveTo, 2, none)
abbrev MX12_paint : MI := (yX12_paint, cX12_paint, 4, (some .int))
abbrev MX12_remember : MI := (yX12_remember, cX12_remember, 2, none)
abbrev ML_unpaint : MI := (yL_unpaint, cL_unpaint, 5, (some .int))
abbrev MX11_unpaint : MI := (yX11_unpaint, cX11_unpaint, 4, (some .int))
abbrev MX12_unpaint : MI := (yX12_unpaint, cX12_unpaint, 4, (some .int))
abbrev ML_movePainting : MI := (yL_movePainting, cL_movePainting, 6, (some .int))
abbrev MX11_movePainting : MI := (yX11_movePainting, cX11_movePainting, 6, (some .int))
abbrev MX12_movePainting : MI := (yX12_movePainting, cX12_movePainting, 6, (some .int))
abbrev ML_exchange : MI := (yL_exchange, cL_exchange, 6, (some .int))
abbrev MX11_exchange : MI := (yX11_exchange, cX11_exchange, 6, (some .int))
abbrev MX12_exchange : MI := (yX12_exchange, cX12_exchange, 6, (some .int))
abbrev ML_setWeather : MI := (yL_setWeather, cL_setWeather, 5, (some .int))
abbrev MX11_setWeather : MI := (yX11_setWeather, cX11_setWeather, 4, (some .int))
abbrev MX11_checkRange : MI := (yX11_checkRange, cX11_checkRange, 3, none)
abbrev MX12_setWeather : MI := (yX12_setWeather, cX12_setWeather, 3, (some .int))
abbrev MX12_good_ : MI := (yX12_good_, cX12_good_, 3, (some .boolean))
abbrev MX12_set : MI := (yX12_set, cX12_set, 4, (some .int))
abbrev ML_setShut : MI := (yL_setShut, cL_setShut, 4, (some .int))
abbrev MX11_setShut : MI := (yX11_setShut, cX11_setShut, 3, (some .int))
abbrev MX12_setShut : MI := (yX12_setShut, cX12_setShut, 2, (some .int))
abbrev ML_setClosed : MI := (yL_setClosed, cL_setClosed, 6, (some .int))
abbrev MX11_setClosed : MI := (yX11_setClosed, cX11_setClosed, 4, (some .int))
abbrev MX12_setClosed : MI := (yX12_setClosed, cX12_setClosed, 4, (some .int))
abbrev ML_setRate : MI := (yL_setRate, cL_setRate, 5, (some .int))
abbrev MX11_setRate : MI := (yX11_setRate, cX11_setRate, 3, (some .int))
abbrev MX12_setRate : MI := (yX12_setRate, cX12_setRate, 3, (some .int))
abbrev ML_setSpeed : MI := (yL_setSpeed, cL_setSpeed, 5, (some .int))
abbrev MX11_setSpeed : MI := (yX11_setSpeed, cX11_setSpeed, 3, (some .int))
abbrev MX12_setSpeed : MI := (yX12_setSpeed, cX12_setSpeed, 3, (some .int))
abbrev MX11_autoPlan : MI := (yX11_autoPlan, cX11_autoPlan, 1, (some .int))
abbrev MX0_makePlan : MI := (yX0_makePlan, cX0_makePlan, 8, none)
abbrev MX0_rankCandidates : MI := (yX0_rankCandidates, cX0_rankCandidates, 6, none)
abbrev MX7_size : MI := (yX7_size, cX7_size, 1, (some .int))
abbrev MX0_tightestGang : MI := (yX0_tightestGang, cX0_tightestGang, 10, (some .int))
abbrev MX6_capacityLeft : MI := (yX6_capacityLeft, cX6_capacityLeft, 4, (some .int))
abbrev MX6_hasPaintingsOf : MI := (yX6_hasPaintingsOf, cX6_hasPaintingsOf, 3, (some .boolean))
abbrev MX12_autoPlan : MI := (yX12_autoPlan, cX12_autoPlan, 1, (some .int))
abbrev MX12_putAside : MI := (yX12_putAside, cX12_putAside, 1, none)
abbrev MX12_makePlan : MI := (yX12_makePlan, cX12_makePlan, 6, none)
abbrev MX12_clearPlan : MI := (yX12_clearPlan, cX12_clearPlan, 2, none)
abbrev MX12_startYear : MI := (yX12_startYear, cX12_startYear, 2, none)
abbrev MX12_chooseGang : MI := (yX12_chooseGang, cX12_chooseGang, 9, (some .int))
abbrev MX12_isLaneFree : MI := (yX12_isLaneFree, cX12_isLaneFree, 4, (some .boolean))
abbrev MX12_paintNow : MI := (yX12_paintNow, cX12_paintNow, 4, none)
abbrev MX12_adopt : MI := (yX12_adopt, cX12_adopt, 2, (some .int))
abbrev MX12_isPlanAside : MI := (yX12_isPlanAside, cX12_isPlanAside, 2, (some .boolean))
abbrev MX11_applySafePlan : MI := (yX11_applySafePlan, cX11_applySafePlan, 2, (some .int))
abbrev MX8_makePlan : MI := (yX8_makePlan, cX8_makePlan, 5, (some .int))
abbrev MX8_placeFrom : MI := (yX8_placeFrom, cX8_placeFrom, 9, (some .int))
abbrev MX7_yearAt : MI := (yX7_yearAt, cX7_yearAt, 2, (some .int))
abbrev MX12_applySafePlan : MI := (yX12_applySafePlan, cX12_applySafePlan, 1, (some .int))
abbrev MX12_searchAll : MI := (yX12_searchAll, cX12_searchAll, 1, (some .boolean))
abbrev MX12_findEndangered : MI := (yX12_findEndangered, cX12_findEndangered, 3, none)
abbrev MX12_search : MI := (yX12_search, cX12_search, 5, (some .boolean))
abbrev MX11_undo : MI := (yX11_undo, cX11_undo, 1, (some .int))
abbrev MX2_isEmpty : MI := (yX2_isEmpty, cX2_isEmpty, 1, (some .boolean))
abbrev MX2_takeBack : MI := (yX2_takeBack, cX2_takeBack, 3, none)
abbrev MX1_restoreFrom : MI := (yX1_restoreFrom, cX1_restoreFrom, 2, none)
abbrev MX6_restoreFrom : MI := (yX6_restoreFrom, cX6_restoreFrom, 2, none)
abbrev MX2_size : MI := (yX2_size, cX2_size, 1, (some .int))
abbrev MX12_undo : MI := (yX12_undo, cX12_undo, 1, (some .int))
abbrev MX11_hasSafePlan : MI := (yX11_hasSafePlan, cX11_hasSafePlan, 1, (some .int))
abbrev MX12_hasSafePlan : MI := (yX12_hasSafePlan, cX12_hasSafePlan, 2, (some .int))
abbrev MX11_searchTries : MI := (yX11_searchTries, cX11_searchTries, 1, (some .int))
abbrev MX8_triesMade : MI := (yX8_triesMade, cX8_triesMade, 1, (some .int))
abbrev MX12_searchTries : MI := (yX12_searchTries, cX12_searchTries, 2, (some .int))
abbrev MX11_autoPast : MI := (yX11_autoPast, cX11_autoPast, 1, (some .int))
abbrev MX11_autoPastOf : MI := (yX11_autoPastOf, cX11_autoPastOf, 3, (some .int))
abbrev MX12_autoPast : MI := (yX12_autoPast, cX12_autoPast, 1, (some .int))
abbrev MX12_pastWith : MI := (yX12_pastWith, cX12_pastWith, 3, (some .int))
abbrev ML_autoPastWithout : MI := (yL_autoPastWithout, cL_autoPastWithout, 4, (some .int))
abbrev MX11_autoPastWithout : MI := (yX11_autoPastWithout, cX11_autoPastWithout, 2, (some .int))
abbrev MX12_autoPastWithout : MI := (yX12_autoPastWithout, cX12_autoPastWithout, 2, (some .int))
abbrev MX11_criticalGang : MI := (yX11_criticalGang, cX11_criticalGang, 5, (some .int))
abbrev MX12_criticalGang : MI := (yX12_criticalGang, cX12_criticalGang, 5, (some .int))
abbrev MX11_worstYear : MI := (yX11_worstYear, cX11_worstYear, 5, (some .int))
abbrev MX1_copyFrom : MI := (yX1_copyFrom, cX1_copyFrom, 2, none)
abbrev MX12_worstYear : MI := (yX12_worstYear, cX12_worstYear, 5, (some .int))
abbrev MX11_smallestShut : MI := (yX11_smallestShut, cX11_smallestShut, 2, (some .int))
abbrev MX12_smallestShut : MI := (yX12_smallestShut, cX12_smallestShut, 2, (some .int))
abbrev MX11_fewestGangs : MI := (yX11_fewestGangs, cX11_fewestGangs, 5, (some .int))
abbrev MX12_fewestGangs : MI := (yX12_fewestGangs, cX12_fewestGangs, 4, (some .int))
abbrev MX11_extraDays : MI := (yX11_extraDays, cX11_extraDays, 3, (some .int))
abbrev MX12_extraDays : MI := (yX12_extraDays, cX12_extraDays, 3, (some .int))
abbrev MX11_write : MI := (yX11_write, cX11_write, 3, (some .int))
abbrev MX4_clear : MI := (yX4_clear, cX4_clear, 1, none)
abbrev MX4_addNumber : MI := (yX4_addNumber, cX4_addNumber, 2, none)
abbrev MX4_addSign : MI := (yX4_addSign, cX4_addSign, 2, none)
abbrev MX4_size : MI := (yX4_size, cX4_size, 1, (some .int))
abbrev MX12_write : MI := (yX12_write, cX12_write, 3, (some .int))
abbrev MX12_putNumber : MI := (yX12_putNumber, cX12_putNumber, 2, none)
abbrev MX12_put : MI := (yX12_put, cX12_put, 2, none)
abbrev ML_outputByte : MI := (yL_outputByte, cL_outputByte, 4, (some .int))
abbrev MX11_outputByte : MI := (yX11_outputByte, cX11_outputByte, 2, (some .int))
abbrev MX4_byteAt : MI := (yX4_byteAt, cX4_byteAt, 2, (some .int))
abbrev MX12_outputByte : MI := (yX12_outputByte, cX12_outputByte, 2, (some .int))
theorem FI_X11_12 : FI RX11 12 11 2 := ⟨RX11, TX11, 13, rfl, rfl, by decide, inlX11, inR_1 _ (List.mem_of_getElem? (i := 17) rfl)⟩
theorem FI_X11_19 : FI RX11 19 11 3 := ⟨RX11, TX11, 13, rfl, rfl, by decide, inlX11, inR_1 _ (List.mem_of_getElem? (i := 21) rfl)⟩
theorem FI_X11_26 : FI RX11 26 11 4 := ⟨RX11, TX11, 13, rfl, rfl, by decide, inlX11, inR_2 _ (List.mem_of_getElem? (i := 1) rfl)⟩
theorem FI_X11_33 : FI RX11 33 11 5 := ⟨RX11, TX11, 13, rfl, rfl, by decide, inlX11, inR_2 _ (List.mem_of_getElem? (i := 5) rfl)⟩
theorem FI_X11_40 : FI RX11 40 11 6 := ⟨RX11, TX11, 13, rfl, rfl, by decide, inlX11, inR_2 _ (List.mem_of_getElem? (i := 9) rfl)⟩
theorem FI_X11_44 : FI RX11 44 11 11 := ⟨RX11, TX11, 13, rfl, rfl, by decide, inlX11, inR_2 _ (List.mem_of_getElem? (i := 10) rfl)⟩
theorem FI_X11_49 : FI RX11 49 11 12 := ⟨RX11, TX11, 13, rfl, rfl, by decide, inlX11, inR_2 _ (List.mem_of_getElem? (i := 12) rfl)⟩
theorem FI_X11_63 : FI RX11 63 11 0 := ⟨RX11, TX11, 13, rfl, rfl, by decide, inlX11, inR_2 _ (List.mem_of_getElem? (i := 22) rfl)⟩
theorem FI_X11_67 : FI RX11 67 11 7 := ⟨RX11, TX11, 13, rfl, rfl, by decide, inlX11, inR_2 _ (List.mem_of_getElem? (i := 23) rfl)⟩
theorem FI_X11_71 : FI RX11 71 11 8 := ⟨RX11, TX11, 13, rfl, rfl, by decide, inlX11, inR_3 _ (List.mem_of_getElem? (i := 0) rfl)⟩
theorem FI_X11_75 : FI RX11 75 11 9 := ⟨RX11, TX11, 13, rfl, rfl, by decide, inlX11, inR_3 _ (List.mem_of_getElem? (i := 1) rfl)⟩
theorem FI_X11_78 : FI RX11 78 11 10 := ⟨RX11, TX11, 13, rfl, rfl, by decide, inlX11, inR_3 _ (List.mem_of_getElem? (i := 2) rfl)⟩
theorem FI_X11_86 : FI RX11 86 11 1 := ⟨RX11, TX11, 13, rfl, rfl, by decide, inlX11, inR_3 _ (List.mem_of_getElem? (i := 6) rfl)⟩
theorem FI_X0_12 : FI RX0 12 0 0 := ⟨RX0, TX0, 1, rfl, rfl, by decide, inlX0, inR_3 _ (List.mem_of_getElem? (i := 11) rfl)⟩
theorem FI_X7_9 : FI RX7 9 7 0 := ⟨RX7, TX7, 2, rfl, rfl, by decide, inlX7, inR_3 _ (List.mem_of_getElem? (i := 16) rfl)⟩
theorem FI_X8_12 : FI RX8 12 8 0 := ⟨RX8, TX8, 2, rfl, rfl, by decide, inlX8, inR_3 _ (List.mem_of_getElem? (i := 21) rfl)⟩
theorem FI_X2_15 : FI RX2 15 2 0 := ⟨RX2, TX2, 3, rfl, rfl, by decide, inlX2, inR_4 _ (List.mem_of_getElem? (i := 2) rfl)⟩
theorem FI_X2_18 : FI RX2 18 2 1 := ⟨RX2, TX2, 3, rfl, rfl, by decide, inlX2, inR_4 _ (List.mem_of_getElem? (i := 3) rfl)⟩
theorem FI_X4_11 : FI RX4 11 4 0 := ⟨RX4, TX4, 2, rfl, rfl, by decide, inlX4, inR_4 _ (List.mem_of_getElem? (i := 8) rfl)⟩
theorem FI_X9_9 : FI RX9 9 9 0 := ⟨RX9, TX9, 2, rfl, rfl, by decide, inlX9, inR_4 _ (List.mem_of_getElem? (i := 12) rfl)⟩
theorem FI_X1_11 : FI RX1 11 1 6 := ⟨RX1, TX1, 16, rfl, rfl, by decide, inlX1, inR_4 _ (List.mem_of_getElem? (i := 17) rfl)⟩
theorem FI_X1_15 : FI RX1 15 1 7 := ⟨RX1, TX1, 16, rfl, rfl, by decide, inlX1, inR_4 _ (List.mem_of_getElem? (i := 18) rfl)⟩
theorem FI_X1_18 : FI RX1 18 1 8 := ⟨RX1, TX1, 16, rfl, rfl, by decide, inlX1, inR_4 _ (List.mem_of_getElem? (i := 19) rfl)⟩
theorem FI_X1_21 : FI RX1 21 1 9 := ⟨RX1, TX1, 16, rfl, rfl, by decide, inlX1, inR_4 _ (List.mem_of_getElem? (i := 20) rfl)⟩
theorem FI_X1_24 : FI RX1 24 1 10 := ⟨RX1, TX1, 16, rfl, rfl, by decide, inlX1, inR_4 _ (List.mem_of_getElem? (i := 21) rfl)⟩
theorem FI_X1_27 : FI RX1 27 1 11 := ⟨RX1, TX1, 16, rfl, rfl, by decide, inlX1, inR_4 _ (List.mem_of_getElem? (i := 22) rfl)⟩
theorem FI_X1_30 : FI RX1 30 1 12 := ⟨RX1, TX1, 16, rfl, rfl, by decide, inlX1, inR_4 _ (List.mem_of_getElem? (i := 23) rfl)⟩
theorem FI_X1_33 : FI RX1 33 1 13 := ⟨RX1, TX1, 16, rfl, rfl, by decide, inlX1, inR_5 _ (List.mem_of_getElem? (i := 0) rfl)⟩
theorem FI_X1_36 : FI RX1 36 1 14 := ⟨RX1, TX1, 16, rfl, rfl, by decide, inlX1, inR_5 _ (List.mem_of_getElem? (i := 1) rfl)⟩
theorem FI_X1_39 : FI RX1 39 1 15 := ⟨RX1, TX1, 16, rfl, rfl, by decide, inlX1, inR_5 _ (List.mem_of_getElem? (i := 2) rfl)⟩
theorem FI_X1_45 : FI RX1 45 1 0 := ⟨RX1, TX1, 16, rfl, rfl, by decide, inlX1, inR_5 _ (List.mem_of_getElem? (i := 7) rfl)⟩
theorem FI_X1_49 : FI RX1 49 1 1 := ⟨RX1, TX1, 16, rfl, rfl, by decide, inlX1, inR_5 _ (List.mem_of_getElem? (i := 8) rfl)⟩
theorem FI_X1_52 : FI RX1 52 1 2 := ⟨RX1, TX1, 16, rfl, rfl, by decide, inlX1, inR_5 _ (List.mem_of_getElem? (i := 9) rfl)⟩
theorem FI_X1_55 : FI RX1 55 1 3 := ⟨RX1, TX1, 16, rfl, rfl, by decide, inlX1, inR_5 _ (List.mem_of_getElem? (i := 10) rfl)⟩
theorem FI_X1_58 : FI RX1 58 1 4 := ⟨RX1, TX1, 16, rfl, rfl, by decide, inlX1, inR_5 _ (List.mem_of_getElem? (i := 11) rfl)⟩
theorem FI_X1_61 : FI RX1 61 1 5 := ⟨RX1, TX1, 16, rfl, rfl, by decide, inlX1, inR_5 _ (List.mem_of_getElem? (i := 12) rfl)⟩
theorem FI_X6_11 : FI RX6 11 6 1 := ⟨RX6, TX6, 4, rfl, rfl, by decide, inlX6, inR_5 _ (List.mem_of_getElem? (i := 21) rfl)⟩
theorem FI_X6_15 : FI RX6 15 6 2 := ⟨RX6, TX6, 4, rfl, rfl, by decide, inlX6, inR_5 _ (List.mem_of_getElem? (i := 22) rfl)⟩
theorem FI_X6_18 : FI RX6 18 6 3 := ⟨RX6, TX6, 4, rfl, rfl, by decide, inlX6, inR_5 _ (List.mem_of_getElem? (i := 23) rfl)⟩
theorem FI_X6_21 : FI RX6 21 6 0 := ⟨RX6, TX6, 4, rfl, rfl, by decide, inlX6, inR_6 _ (List.mem_of_getElem? (i := 0) rfl)⟩
theorem FI_X5_12 : FI RX5 12 5 1 := ⟨RX5, TX5, 6, rfl, rfl, by decide, inlX5, inR_6 _ (List.mem_of_getElem? (i := 9) rfl)⟩
theorem FI_X5_19 : FI RX5 19 5 5 := ⟨RX5, TX5, 6, rfl, rfl, by decide, inlX5, inR_6 _ (List.mem_of_getElem? (i := 11) rfl)⟩
theorem FI_X5_28 : FI RX5 28 5 0 := ⟨RX5, TX5, 6, rfl, rfl, by decide, inlX5, inR_6 _ (List.mem_of_getElem? (i := 15) rfl)⟩
theorem FI_X5_32 : FI RX5 32 5 2 := ⟨RX5, TX5, 6, rfl, rfl, by decide, inlX5, inR_6 _ (List.mem_of_getElem? (i := 16) rfl)⟩
theorem FI_X5_36 : FI RX5 36 5 3 := ⟨RX5, TX5, 6, rfl, rfl, by decide, inlX5, inR_6 _ (List.mem_of_getElem? (i := 17) rfl)⟩
theorem FI_X3_11 : FI RX3 11 3 0 := ⟨RX3, TX3, 4, rfl, rfl, by decide, inlX3, inR_6 _ (List.mem_of_getElem? (i := 21) rfl)⟩
theorem FI_X3_15 : FI RX3 15 3 1 := ⟨RX3, TX3, 4, rfl, rfl, by decide, inlX3, inR_6 _ (List.mem_of_getElem? (i := 22) rfl)⟩
theorem FI_X3_19 : FI RX3 19 3 2 := ⟨RX3, TX3, 4, rfl, rfl, by decide, inlX3, inR_6 _ (List.mem_of_getElem? (i := 23) rfl)⟩
theorem FI_X10_7 : FI RX10 7 10 0 := ⟨RX10, TX10, 7, rfl, rfl, by decide, inlX10, inR_7 _ (List.mem_of_getElem? (i := 4) rfl)⟩
theorem FI_X12_7 : FI RX12 7 12 0 := ⟨RX12, TX12, 39, rfl, rfl, by decide, inlX12, inR_7 _ (List.mem_of_getElem? (i := 9) rfl)⟩
theorem FI_X12_13 : FI RX12 13 12 1 := ⟨RX12, TX12, 39, rfl, rfl, by decide, inlX12, inR_7 _ (List.mem_of_getElem? (i := 10) rfl)⟩
theorem FI_X12_16 : FI RX12 16 12 2 := ⟨RX12, TX12, 39, rfl, rfl, by decide, inlX12, inR_7 _ (List.mem_of_getElem? (i := 11) rfl)⟩
theorem FI_X12_19 : FI RX12 19 12 3 := ⟨RX12, TX12, 39, rfl, rfl, by decide, inlX12, inR_7 _ (List.mem_of_getElem? (i := 12) rfl)⟩
theorem FI_X12_22 : FI RX12 22 12 4 := ⟨RX12, TX12, 39, rfl, rfl, by decide, inlX12, inR_7 _ (List.mem_of_getElem? (i := 13) rfl)⟩
theorem FI_X12_25 : FI RX12 25 12 7 := ⟨RX12, TX12, 39, rfl, rfl, by decide, inlX12, inR_7 _ (List.mem_of_getElem? (i := 14) rfl)⟩
theorem FI_X12_29 : FI RX12 29 12 10 := ⟨RX12, TX12, 39, rfl, rfl, by decide, inlX12, inR_7 _ (List.mem_of_getElem? (i := 16) rfl)⟩
theorem FI_X12_33 : FI RX12 33 12 20 := ⟨RX12, TX12, 39, rfl, rfl, by decide, inlX12, inR_7 _ (List.mem_of_getElem? (i := 17) rfl)⟩
theorem FI_X12_37 : FI RX12 37 12 23 := ⟨RX12, TX12, 39, rfl, rfl, by decide, inlX12, inR_7 _ (List.mem_of_getElem? (i := 18) rfl)⟩
theorem FI_X12_40 : FI RX12 40 12 24 := ⟨RX12, TX12, 39, rfl, rfl, by decide, inlX12, inR_7 _ (List.mem_of_getElem? (i := 19) rfl)⟩
theorem FI_X12_43 : FI RX12 43 12 25 := ⟨RX12, TX12, 39, rfl, rfl, by decide, inlX12, inR_7 _ (List.mem_of_getElem? (i := 20) rfl)⟩
theorem FI_X12_46 : FI RX12 46 12 26 := ⟨RX12, TX12, 39, rfl, rfl, by decide, inlX12, inR_7 _ (List.mem_of_getElem? (i := 21) rfl)⟩
theorem FI_X12_49 : FI RX12 49 12 27 := ⟨RX12, TX12, 39, rfl, rfl, by decide, inlX12, inR_7 _ (List.mem_of_getElem? (i := 22) rfl)⟩
theorem FI_X12_52 : FI RX12 52 12 28 := ⟨RX12, TX12, 39, rfl, rfl, by decide, inlX12, inR_7 _ (List.mem_of_getElem? (i := 23) rfl)⟩
theorem FI_X12_55 : FI RX12 55 12 29 := ⟨RX12, TX12, 39, rfl, rfl, by decide, inlX12, inR_8 _ (List.mem_of_getElem? (i := 0) rfl)⟩
theorem FI_X12_58 : FI RX12 58 12 31 := ⟨RX12, TX12, 39, rfl, rfl, by decide, inlX12, inR_8 _ (List.mem_of_getElem? (i := 1) rfl)⟩
theorem FI_X12_61 : FI RX12 61 12 35 := ⟨RX12, TX12, 39, rfl, rfl, by decide, inlX12, inR_8 _ (List.mem_of_getElem? (i := 2) rfl)⟩
theorem FI_X12_64 : FI RX12 64 12 36 := ⟨RX12, TX12, 39, rfl, rfl, by decide, inlX12, inR_8 _ (List.mem_of_getElem? (i := 3) rfl)⟩
theorem FI_X12_67 : FI RX12 67 12 37 := ⟨RX12, TX12, 39, rfl, rfl, by decide, inlX12, inR_8 _ (List.mem_of_getElem? (i := 4) rfl)⟩
theorem FI_X9_15 : FI RX9 15 9 1 := ⟨RX9, TX9, 2, rfl, rfl, by decide, inlX9, inR_8 _ (List.mem_of_getElem? (i := 17) rfl)⟩
theorem FI_X12_74 : FI RX12 74 12 6 := ⟨RX12, TX12, 39, rfl, rfl, by decide, inlX12, inR_9 _ (List.mem_of_getElem? (i := 6) rfl)⟩
theorem FI_X12_99 : FI RX12 99 12 8 := ⟨RX12, TX12, 39, rfl, rfl, by decide, inlX12, inR_9 _ (List.mem_of_getElem? (i := 7) rfl)⟩
theorem FI_X5_40 : FI RX5 40 5 4 := ⟨RX5, TX5, 6, rfl, rfl, by decide, inlX5, inR_10 _ (List.mem_of_getElem? (i := 5) rfl)⟩
theorem FI_X3_22 : FI RX3 22 3 3 := ⟨RX3, TX3, 4, rfl, rfl, by decide, inlX3, inR_11 _ (List.mem_of_getElem? (i := 7) rfl)⟩
theorem FI_X10_25 : FI RX10 25 10 1 := ⟨RX10, TX10, 7, rfl, rfl, by decide, inlX10, inR_11 _ (List.mem_of_getElem? (i := 13) rfl)⟩
theorem FI_X10_28 : FI RX10 28 10 2 := ⟨RX10, TX10, 7, rfl, rfl, by decide, inlX10, inR_11 _ (List.mem_of_getElem? (i := 14) rfl)⟩
theorem FI_X10_31 : FI RX10 31 10 3 := ⟨RX10, TX10, 7, rfl, rfl, by decide, inlX10, inR_11 _ (List.mem_of_getElem? (i := 15) rfl)⟩
theorem FI_X10_34 : FI RX10 34 10 4 := ⟨RX10, TX10, 7, rfl, rfl, by decide, inlX10, inR_11 _ (List.mem_of_getElem? (i := 16) rfl)⟩
theorem FI_X10_47 : FI RX10 47 10 6 := ⟨RX10, TX10, 7, rfl, rfl, by decide, inlX10, inR_12 _ (List.mem_of_getElem? (i := 1) rfl)⟩
theorem FI_X10_51 : FI RX10 51 10 5 := ⟨RX10, TX10, 7, rfl, rfl, by decide, inlX10, inR_12 _ (List.mem_of_getElem? (i := 6) rfl)⟩
theorem FI_X2_22 : FI RX2 22 2 2 := ⟨RX2, TX2, 3, rfl, rfl, by decide, inlX2, inR_17 _ (List.mem_of_getElem? (i := 13) rfl)⟩
theorem FI_X12_107 : FI RX12 107 12 11 := ⟨RX12, TX12, 39, rfl, rfl, by decide, inlX12, inR_17 _ (List.mem_of_getElem? (i := 18) rfl)⟩
theorem FI_X12_110 : FI RX12 110 12 13 := ⟨RX12, TX12, 39, rfl, rfl, by decide, inlX12, inR_17 _ (List.mem_of_getElem? (i := 19) rfl)⟩
theorem FI_X12_157 : FI RX12 157 12 17 := ⟨RX12, TX12, 39, rfl, rfl, by decide, inlX12, inR_17 _ (List.mem_of_getElem? (i := 20) rfl)⟩
theorem FI_X12_160 : FI RX12 160 12 18 := ⟨RX12, TX12, 39, rfl, rfl, by decide, inlX12, inR_17 _ (List.mem_of_getElem? (i := 21) rfl)⟩
theorem FI_X12_123 : FI RX12 123 12 14 := ⟨RX12, TX12, 39, rfl, rfl, by decide, inlX12, inR_17 _ (List.mem_of_getElem? (i := 22) rfl)⟩
theorem FI_X12_220 : FI RX12 220 12 9 := ⟨RX12, TX12, 39, rfl, rfl, by decide, inlX12, inR_17 _ (List.mem_of_getElem? (i := 23) rfl)⟩
theorem FI_X12_77 : FI RX12 77 12 5 := ⟨RX12, TX12, 39, rfl, rfl, by decide, inlX12, inR_18 _ (List.mem_of_getElem? (i := 1) rfl)⟩
theorem FI_X12_117 : FI RX12 117 12 12 := ⟨RX12, TX12, 39, rfl, rfl, by decide, inlX12, inR_18 _ (List.mem_of_getElem? (i := 9) rfl)⟩
theorem FI_X12_120 : FI RX12 120 12 15 := ⟨RX12, TX12, 39, rfl, rfl, by decide, inlX12, inR_18 _ (List.mem_of_getElem? (i := 10) rfl)⟩
theorem FI_X12_129 : FI RX12 129 12 19 := ⟨RX12, TX12, 39, rfl, rfl, by decide, inlX12, inR_18 _ (List.mem_of_getElem? (i := 11) rfl)⟩
theorem FI_X12_144 : FI RX12 144 12 16 := ⟨RX12, TX12, 39, rfl, rfl, by decide, inlX12, inR_18 _ (List.mem_of_getElem? (i := 14) rfl)⟩
theorem FI_X12_166 : FI RX12 166 12 21 := ⟨RX12, TX12, 39, rfl, rfl, by decide, inlX12, inR_21 _ (List.mem_of_getElem? (i := 22) rfl)⟩
theorem FI_X12_183 : FI RX12 183 12 22 := ⟨RX12, TX12, 39, rfl, rfl, by decide, inlX12, inR_22 _ (List.mem_of_getElem? (i := 23) rfl)⟩
theorem FI_X7_15 : FI RX7 15 7 1 := ⟨RX7, TX7, 2, rfl, rfl, by decide, inlX7, inR_32 _ (List.mem_of_getElem? (i := 13) rfl)⟩
theorem FI_X12_352 : FI RX12 352 12 30 := ⟨RX12, TX12, 39, rfl, rfl, by decide, inlX12, inR_61 _ (List.mem_of_getElem? (i := 21) rfl)⟩
theorem FI_X8_18 : FI RX8 18 8 1 := ⟨RX8, TX8, 2, rfl, rfl, by decide, inlX8, inR_63 _ (List.mem_of_getElem? (i := 3) rfl)⟩
theorem FI_X12_391 : FI RX12 391 12 34 := ⟨RX12, TX12, 39, rfl, rfl, by decide, inlX12, inR_64 _ (List.mem_of_getElem? (i := 1) rfl)⟩
theorem FI_X12_385 : FI RX12 385 12 33 := ⟨RX12, TX12, 39, rfl, rfl, by decide, inlX12, inR_64 _ (List.mem_of_getElem? (i := 3) rfl)⟩
theorem FI_X12_388 : FI RX12 388 12 32 := ⟨RX12, TX12, 39, rfl, rfl, by decide, inlX12, inR_64 _ (List.mem_of_getElem? (i := 8) rfl)⟩
theorem FI_X4_15 : FI RX4 15 4 1 := ⟨RX4, TX4, 2, rfl, rfl, by decide, inlX4, inR_70 _ (List.mem_of_getElem? (i := 2) rfl)⟩
theorem FI_X12_405 : FI RX12 405 12 38 := ⟨RX12, TX12, 39, rfl, rfl, by decide, inlX12, inR_70 _ (List.mem_of_getElem? (i := 20) rfl)⟩
theorem FN_X10_37 : FN RX10 37 9 0 := ⟨RX9, TX9, 2, rfl, rfl, by decide, inlX9, List.mem_of_getElem? (i := 8) rfl⟩
theorem FN_X10_13 : FN RX10 13 9 1 := ⟨RX9, TX9, 2, rfl, rfl, by decide, inlX9, List.mem_of_getElem? (i := 9) rfl⟩
theorem FN_X0_24 : FN RX0 24 1 0 := ⟨RX1, TX1, 16, rfl, rfl, by decide, inlX1, List.mem_of_getElem? (i := 10) rfl⟩
theorem FN_X5_139 : FN RX5 139 1 0 := ⟨RX1, TX1, 16, rfl, rfl, by decide, inlX1, List.mem_of_getElem? (i := 11) rfl⟩
theorem FN_X6_53 : FN RX6 53 1 0 := ⟨RX1, TX1, 16, rfl, rfl, by decide, inlX1, List.mem_of_getElem? (i := 12) rfl⟩
theorem FN_X11_168 : FN RX11 168 1 0 := ⟨RX1, TX1, 16, rfl, rfl, by decide, inlX1, List.mem_of_getElem? (i := 13) rfl⟩
theorem FN_X5_142 : FN RX5 142 1 1 := ⟨RX1, TX1, 16, rfl, rfl, by decide, inlX1, List.mem_of_getElem? (i := 14) rfl⟩
theorem FN_X6_139 : FN RX6 139 1 1 := ⟨RX1, TX1, 16, rfl, rfl, by decide, inlX1, List.mem_of_getElem? (i := 15) rfl⟩
theorem FN_X11_264 : FN RX11 264 1 1 := ⟨RX1, TX1, 16, rfl, rfl, by decide, inlX1, List.mem_of_getElem? (i := 16) rfl⟩
theorem FN_X5_145 : FN RX5 145 1 2 := ⟨RX1, TX1, 16, rfl, rfl, by decide, inlX1, List.mem_of_getElem? (i := 17) rfl⟩
theorem FN_X6_60 : FN RX6 60 1 2 := ⟨RX1, TX1, 16, rfl, rfl, by decide, inlX1, List.mem_of_getElem? (i := 18) rfl⟩
theorem FN_X5_95 : FN RX5 95 1 3 := ⟨RX1, TX1, 16, rfl, rfl, by decide, inlX1, List.mem_of_getElem? (i := 19) rfl⟩
theorem FN_X6_98 : FN RX6 98 1 3 := ⟨RX1, TX1, 16, rfl, rfl, by decide, inlX1, List.mem_of_getElem? (i := 20) rfl⟩
theorem FN_X11_336 : FN RX11 336 1 3 := ⟨RX1, TX1, 16, rfl, rfl, by decide, inlX1, List.mem_of_getElem? (i := 21) rfl⟩
theorem FN_X0_53 : FN RX0 53 1 4 := ⟨RX1, TX1, 16, rfl, rfl, by decide, inlX1, List.mem_of_getElem? (i := 22) rfl⟩
theorem FN_X8_31 : FN RX8 31 1 4 := ⟨RX1, TX1, 16, rfl, rfl, by decide, inlX1, List.mem_of_getElem? (i := 23) rfl⟩
theorem FN_X11_128 : FN RX11 128 1 4 := ⟨RX1, TX1, 16, rfl, rfl, by decide, inlX1, List.mem_of_getElem? (i := 24) rfl⟩
theorem FN_X5_103 : FN RX5 103 1 4 := ⟨RX1, TX1, 16, rfl, rfl, by decide, inlX1, List.mem_of_getElem? (i := 25) rfl⟩
theorem FN_X6_46 : FN RX6 46 1 4 := ⟨RX1, TX1, 16, rfl, rfl, by decide, inlX1, List.mem_of_getElem? (i := 26) rfl⟩
theorem FN_X0_67 : FN RX0 67 1 5 := ⟨RX1, TX1, 16, rfl, rfl, by decide, inlX1, List.mem_of_getElem? (i := 27) rfl⟩
theorem FN_X8_59 : FN RX8 59 1 5 := ⟨RX1, TX1, 16, rfl, rfl, by decide, inlX1, List.mem_of_getElem? (i := 28) rfl⟩
theorem FN_X5_111 : FN RX5 111 1 5 := ⟨RX1, TX1, 16, rfl, rfl, by decide, inlX1, List.mem_of_getElem? (i := 29) rfl⟩
theorem FN_X6_107 : FN RX6 107 1 5 := ⟨RX1, TX1, 16, rfl, rfl, by decide, inlX1, List.mem_of_getElem? (i := 30) rfl⟩
theorem FN_X11_226 : FN RX11 226 1 5 := ⟨RX1, TX1, 16, rfl, rfl, by decide, inlX1, List.mem_of_getElem? (i := 31) rfl⟩
theorem FN_X6_101 : FN RX6 101 1 6 := ⟨RX1, TX1, 16, rfl, rfl, by decide, inlX1, List.mem_of_getElem? (i := 32) rfl⟩
theorem FN_X6_95 : FN RX6 95 1 7 := ⟨RX1, TX1, 16, rfl, rfl, by decide, inlX1, List.mem_of_getElem? (i := 33) rfl⟩
theorem FN_X11_158 : FN RX11 158 1 8 := ⟨RX1, TX1, 16, rfl, rfl, by decide, inlX1, List.mem_of_getElem? (i := 34) rfl⟩
theorem FN_X6_83 : FN RX6 83 1 8 := ⟨RX1, TX1, 16, rfl, rfl, by decide, inlX1, List.mem_of_getElem? (i := 35) rfl⟩
theorem FN_X6_50 : FN RX6 50 1 9 := ⟨RX1, TX1, 16, rfl, rfl, by decide, inlX1, List.mem_of_getElem? (i := 36) rfl⟩
theorem FN_X6_63 : FN RX6 63 1 10 := ⟨RX1, TX1, 16, rfl, rfl, by decide, inlX1, List.mem_of_getElem? (i := 37) rfl⟩
theorem FN_X11_178 : FN RX11 178 1 10 := ⟨RX1, TX1, 16, rfl, rfl, by decide, inlX1, List.mem_of_getElem? (i := 38) rfl⟩
theorem FN_X6_72 : FN RX6 72 1 11 := ⟨RX1, TX1, 16, rfl, rfl, by decide, inlX1, List.mem_of_getElem? (i := 39) rfl⟩
theorem FN_X11_276 : FN RX11 276 1 12 := ⟨RX1, TX1, 16, rfl, rfl, by decide, inlX1, List.mem_of_getElem? (i := 40) rfl⟩
theorem FN_X6_110 : FN RX6 110 1 13 := ⟨RX1, TX1, 16, rfl, rfl, by decide, inlX1, List.mem_of_getElem? (i := 41) rfl⟩
theorem FN_X5_173 : FN RX5 173 1 14 := ⟨RX1, TX1, 16, rfl, rfl, by decide, inlX1, List.mem_of_getElem? (i := 42) rfl⟩
theorem FN_X6_125 : FN RX6 125 1 14 := ⟨RX1, TX1, 16, rfl, rfl, by decide, inlX1, List.mem_of_getElem? (i := 43) rfl⟩
theorem FN_X11_229 : FN RX11 229 1 14 := ⟨RX1, TX1, 16, rfl, rfl, by decide, inlX1, List.mem_of_getElem? (i := 44) rfl⟩
theorem FN_X5_181 : FN RX5 181 1 15 := ⟨RX1, TX1, 16, rfl, rfl, by decide, inlX1, List.mem_of_getElem? (i := 45) rfl⟩
theorem FN_X11_270 : FN RX11 270 1 15 := ⟨RX1, TX1, 16, rfl, rfl, by decide, inlX1, List.mem_of_getElem? (i := 46) rfl⟩
theorem FN_X5_74 : FN RX5 74 10 2 := ⟨RX10, TX10, 7, rfl, rfl, by decide, inlX10, List.mem_of_getElem? (i := 48) rfl⟩
theorem FN_X5_64 : FN RX5 64 10 4 := ⟨RX10, TX10, 7, rfl, rfl, by decide, inlX10, List.mem_of_getElem? (i := 49) rfl⟩
theorem FN_X5_192 : FN RX5 192 10 5 := ⟨RX10, TX10, 7, rfl, rfl, by decide, inlX10, List.mem_of_getElem? (i := 50) rfl⟩
theorem FN_X5_80 : FN RX5 80 10 6 := ⟨RX10, TX10, 7, rfl, rfl, by decide, inlX10, List.mem_of_getElem? (i := 51) rfl⟩
theorem UIX11_init : UI MX11_init RX11 0 := ⟨by decide +kernel, by decide, inR_1 _ (List.mem_of_getElem? (i := 9) rfl), inR_1 _ (List.mem_of_getElem? (i := 2) rfl), inR_1 _ (List.mem_of_getElem? (i := 10) rfl)⟩
theorem UIX0_init : UI MX0_init RX0 0 := ⟨by decide +kernel, by decide, inR_3 _ (List.mem_of_getElem? (i := 7) rfl), inR_1 _ (List.mem_of_getElem? (i := 16) rfl), inR_3 _ (List.mem_of_getElem? (i := 8) rfl)⟩
theorem UIX7_init : UI MX7_init RX7 0 := ⟨by decide +kernel, by decide, inR_3 _ (List.mem_of_getElem? (i := 12) rfl), inR_2 _ (List.mem_of_getElem? (i := 0) rfl), inR_3 _ (List.mem_of_getElem? (i := 13) rfl)⟩
theorem UIX8_init : UI MX8_init RX8 0 := ⟨by decide +kernel, by decide, inR_3 _ (List.mem_of_getElem? (i := 17) rfl), inR_1 _ (List.mem_of_getElem? (i := 20) rfl), inR_3 _ (List.mem_of_getElem? (i := 18) rfl)⟩
theorem UIX2_init : UI MX2_init RX2 0 := ⟨by decide +kernel, by decide, inR_3 _ (List.mem_of_getElem? (i := 22) rfl), inR_2 _ (List.mem_of_getElem? (i := 4) rfl), inR_3 _ (List.mem_of_getElem? (i := 23) rfl)⟩
theorem UIX4_init : UI MX4_init RX4 0 := ⟨by decide +kernel, by decide, inR_4 _ (List.mem_of_getElem? (i := 4) rfl), inR_2 _ (List.mem_of_getElem? (i := 8) rfl), inR_4 _ (List.mem_of_getElem? (i := 5) rfl)⟩
theorem UIX9_init : UI MX9_init RX9 0 := ⟨by decide +kernel, by decide, inR_4 _ (List.mem_of_getElem? (i := 9) rfl), inR_2 _ (List.mem_of_getElem? (i := 15) rfl), inR_4 _ (List.mem_of_getElem? (i := 10) rfl)⟩
theorem UIX1_init : UI MX1_init RX1 0 := ⟨by decide +kernel, by decide, inR_4 _ (List.mem_of_getElem? (i := 14) rfl), inR_2 _ (List.mem_of_getElem? (i := 18) rfl), inR_4 _ (List.mem_of_getElem? (i := 15) rfl)⟩
theorem UVX1_reset : UV MX1_reset RX1 0 := ⟨by decide +kernel, by decide, inR_5 _ (List.mem_of_getElem? (i := 4) rfl), inR_5 _ (List.mem_of_getElem? (i := 5) rfl), inR_2 _ (List.mem_of_getElem? (i := 18) rfl), inR_5 _ (List.mem_of_getElem? (i := 6) rfl)⟩
theorem USJ7_fill_53178 : US MJ7_fill_53178 RJ7 2 := ⟨by decide +kernel, by decide, inR_5 _ (List.mem_of_getElem? (i := 14) rfl), inR_5 _ (List.mem_of_getElem? (i := 15) rfl), inR_5 _ (List.mem_of_getElem? (i := 16) rfl)⟩
theorem UIX6_init : UI MX6_init RX6 1 := ⟨by decide +kernel, by decide, inR_5 _ (List.mem_of_getElem? (i := 18) rfl), inR_2 _ (List.mem_of_getElem? (i := 21) rfl), inR_5 _ (List.mem_of_getElem? (i := 19) rfl)⟩
theorem UIX5_init : UI MX5_init RX5 3 := ⟨by decide +kernel, by decide, inR_6 _ (List.mem_of_getElem? (i := 3) rfl), inR_3 _ (List.mem_of_getElem? (i := 5) rfl), inR_6 _ (List.mem_of_getElem? (i := 4) rfl)⟩
theorem UIX3_init : UI MX3_init RX3 0 := ⟨by decide +kernel, by decide, inR_6 _ (List.mem_of_getElem? (i := 18) rfl), inR_6 _ (List.mem_of_getElem? (i := 8) rfl), inR_6 _ (List.mem_of_getElem? (i := 19) rfl)⟩
theorem UIX10_init : UI MX10_init RX10 1 := ⟨by decide +kernel, by decide, inR_7 _ (List.mem_of_getElem? (i := 1) rfl), inR_6 _ (List.mem_of_getElem? (i := 14) rfl), inR_7 _ (List.mem_of_getElem? (i := 2) rfl)⟩
theorem UIX12_init : UI MX12_init RX12 0 := ⟨by decide +kernel, by decide, inR_7 _ (List.mem_of_getElem? (i := 6) rfl), inR_1 _ (List.mem_of_getElem? (i := 5) rfl), inR_7 _ (List.mem_of_getElem? (i := 7) rfl)⟩
theorem USX12_reset : US MX12_reset RX12 1 := ⟨by decide +kernel, by decide, inR_8 _ (List.mem_of_getElem? (i := 6) rfl), inR_1 _ (List.mem_of_getElem? (i := 5) rfl), inR_8 _ (List.mem_of_getElem? (i := 7) rfl)⟩
theorem UVX11_feed : UV MX11_feed RX11 5 := ⟨by decide +kernel, by decide, inR_8 _ (List.mem_of_getElem? (i := 9) rfl), inR_8 _ (List.mem_of_getElem? (i := 10) rfl), inR_1 _ (List.mem_of_getElem? (i := 2) rfl), inR_8 _ (List.mem_of_getElem? (i := 11) rfl)⟩
theorem UVX9_hasRoomFor : UV MX9_hasRoomFor RX9 1 := ⟨by decide +kernel, by decide, inR_8 _ (List.mem_of_getElem? (i := 14) rfl), inR_8 _ (List.mem_of_getElem? (i := 15) rfl), inR_2 _ (List.mem_of_getElem? (i := 15) rfl), inR_8 _ (List.mem_of_getElem? (i := 16) rfl)⟩
theorem UVX9_append : UV MX9_append RX9 1 := ⟨by decide +kernel, by decide, inR_8 _ (List.mem_of_getElem? (i := 19) rfl), inR_8 _ (List.mem_of_getElem? (i := 20) rfl), inR_2 _ (List.mem_of_getElem? (i := 15) rfl), inR_8 _ (List.mem_of_getElem? (i := 21) rfl)⟩
theorem UVX9_size : UV MX9_size RX9 0 := ⟨by decide +kernel, by decide, inR_8 _ (List.mem_of_getElem? (i := 23) rfl), inR_9 _ (List.mem_of_getElem? (i := 0) rfl), inR_2 _ (List.mem_of_getElem? (i := 15) rfl), inR_9 _ (List.mem_of_getElem? (i := 1) rfl)⟩
theorem UVX12_feed : UV MX12_feed RX12 5 := ⟨by decide +kernel, by decide, inR_9 _ (List.mem_of_getElem? (i := 3) rfl), inR_9 _ (List.mem_of_getElem? (i := 4) rfl), inR_1 _ (List.mem_of_getElem? (i := 5) rfl), inR_9 _ (List.mem_of_getElem? (i := 5) rfl)⟩
theorem UVX12_append : UV MX12_append RX12 1 := ⟨by decide +kernel, by decide, inR_9 _ (List.mem_of_getElem? (i := 10) rfl), inR_9 _ (List.mem_of_getElem? (i := 11) rfl), inR_1 _ (List.mem_of_getElem? (i := 5) rfl), inR_9 _ (List.mem_of_getElem? (i := 12) rfl)⟩
theorem UVX11_load : UV MX11_load RX11 1 := ⟨by decide +kernel, by decide, inR_9 _ (List.mem_of_getElem? (i := 19) rfl), inR_9 _ (List.mem_of_getElem? (i := 20) rfl), inR_1 _ (List.mem_of_getElem? (i := 2) rfl), inR_9 _ (List.mem_of_getElem? (i := 21) rfl)⟩
theorem UVX5_read : UV MX5_read RX5 3 := ⟨by decide +kernel, by decide, inR_10 _ (List.mem_of_getElem? (i := 2) rfl), inR_10 _ (List.mem_of_getElem? (i := 3) rfl), inR_3 _ (List.mem_of_getElem? (i := 5) rfl), inR_10 _ (List.mem_of_getElem? (i := 4) rfl)⟩
theorem UVX6_start : UV MX6_start RX6 1 := ⟨by decide +kernel, by decide, inR_10 _ (List.mem_of_getElem? (i := 8) rfl), inR_10 _ (List.mem_of_getElem? (i := 9) rfl), inR_2 _ (List.mem_of_getElem? (i := 21) rfl), inR_10 _ (List.mem_of_getElem? (i := 10) rfl)⟩
theorem UVX6_followAll : UV MX6_followAll RX6 0 := ⟨by decide +kernel, by decide, inR_10 _ (List.mem_of_getElem? (i := 12) rfl), inR_10 _ (List.mem_of_getElem? (i := 13) rfl), inR_2 _ (List.mem_of_getElem? (i := 21) rfl), inR_10 _ (List.mem_of_getElem? (i := 14) rfl)⟩
theorem UVX6_follow : UV MX6_follow RX6 1 := ⟨by decide +kernel, by decide, inR_10 _ (List.mem_of_getElem? (i := 16) rfl), inR_10 _ (List.mem_of_getElem? (i := 17) rfl), inR_2 _ (List.mem_of_getElem? (i := 21) rfl), inR_10 _ (List.mem_of_getElem? (i := 18) rfl)⟩
theorem UVX6_isPainted : UV MX6_isPainted RX6 2 := ⟨by decide +kernel, by decide, inR_11 _ (List.mem_of_getElem? (i := 0) rfl), inR_11 _ (List.mem_of_getElem? (i := 1) rfl), inR_2 _ (List.mem_of_getElem? (i := 21) rfl), inR_11 _ (List.mem_of_getElem? (i := 2) rfl)⟩
theorem UVX3_clear : UV MX3_clear RX3 0 := ⟨by decide +kernel, by decide, inR_11 _ (List.mem_of_getElem? (i := 4) rfl), inR_11 _ (List.mem_of_getElem? (i := 5) rfl), inR_6 _ (List.mem_of_getElem? (i := 8) rfl), inR_11 _ (List.mem_of_getElem? (i := 6) rfl)⟩
theorem UVX10_begin : UV MX10_begin RX10 1 := ⟨by decide +kernel, by decide, inR_11 _ (List.mem_of_getElem? (i := 9) rfl), inR_11 _ (List.mem_of_getElem? (i := 10) rfl), inR_6 _ (List.mem_of_getElem? (i := 14) rfl), inR_11 _ (List.mem_of_getElem? (i := 11) rfl)⟩
theorem UVX10_next : UV MX10_next RX10 0 := ⟨by decide +kernel, by decide, inR_11 _ (List.mem_of_getElem? (i := 18) rfl), inR_11 _ (List.mem_of_getElem? (i := 19) rfl), inR_6 _ (List.mem_of_getElem? (i := 14) rfl), inR_11 _ (List.mem_of_getElem? (i := 20) rfl)⟩
theorem UVX10_takeLetters : UV MX10_takeLetters RX10 0 := ⟨by decide +kernel, by decide, inR_11 _ (List.mem_of_getElem? (i := 22) rfl), inR_11 _ (List.mem_of_getElem? (i := 23) rfl), inR_6 _ (List.mem_of_getElem? (i := 14) rfl), inR_12 _ (List.mem_of_getElem? (i := 0) rfl)⟩
theorem UVX10_takeDigits : UV MX10_takeDigits RX10 0 := ⟨by decide +kernel, by decide, inR_12 _ (List.mem_of_getElem? (i := 3) rfl), inR_12 _ (List.mem_of_getElem? (i := 4) rfl), inR_6 _ (List.mem_of_getElem? (i := 14) rfl), inR_12 _ (List.mem_of_getElem? (i := 5) rfl)⟩
theorem UVX5_readStatement : UV MX5_readStatement RX5 1 := ⟨by decide +kernel, by decide, inR_12 _ (List.mem_of_getElem? (i := 8) rfl), inR_12 _ (List.mem_of_getElem? (i := 9) rfl), inR_3 _ (List.mem_of_getElem? (i := 5) rfl), inR_12 _ (List.mem_of_getElem? (i := 10) rfl)⟩
theorem UVX5_failOnToken : UV MX5_failOnToken RX5 0 := ⟨by decide +kernel, by decide, inR_12 _ (List.mem_of_getElem? (i := 19) rfl), inR_12 _ (List.mem_of_getElem? (i := 20) rfl), inR_3 _ (List.mem_of_getElem? (i := 5) rfl), inR_12 _ (List.mem_of_getElem? (i := 21) rfl)⟩
theorem UVX5_readBridge : UV MX5_readBridge RX5 0 := ⟨by decide +kernel, by decide, inR_12 _ (List.mem_of_getElem? (i := 23) rfl), inR_13 _ (List.mem_of_getElem? (i := 0) rfl), inR_3 _ (List.mem_of_getElem? (i := 5) rfl), inR_13 _ (List.mem_of_getElem? (i := 1) rfl)⟩
theorem UVX5_number : UV MX5_number RX5 2 := ⟨by decide +kernel, by decide, inR_13 _ (List.mem_of_getElem? (i := 3) rfl), inR_13 _ (List.mem_of_getElem? (i := 4) rfl), inR_3 _ (List.mem_of_getElem? (i := 5) rfl), inR_13 _ (List.mem_of_getElem? (i := 5) rfl)⟩
theorem UVX5_fail : UV MX5_fail RX5 1 := ⟨by decide +kernel, by decide, inR_13 _ (List.mem_of_getElem? (i := 7) rfl), inR_13 _ (List.mem_of_getElem? (i := 8) rfl), inR_3 _ (List.mem_of_getElem? (i := 5) rfl), inR_13 _ (List.mem_of_getElem? (i := 9) rfl)⟩
theorem UVX5_semicolon : UV MX5_semicolon RX5 0 := ⟨by decide +kernel, by decide, inR_13 _ (List.mem_of_getElem? (i := 11) rfl), inR_13 _ (List.mem_of_getElem? (i := 12) rfl), inR_3 _ (List.mem_of_getElem? (i := 5) rfl), inR_13 _ (List.mem_of_getElem? (i := 13) rfl)⟩
theorem UVX5_readLane : UV MX5_readLane RX5 0 := ⟨by decide +kernel, by decide, inR_13 _ (List.mem_of_getElem? (i := 15) rfl), inR_13 _ (List.mem_of_getElem? (i := 16) rfl), inR_3 _ (List.mem_of_getElem? (i := 5) rfl), inR_13 _ (List.mem_of_getElem? (i := 17) rfl)⟩
theorem UVX5_newName : UV MX5_newName RX5 0 := ⟨by decide +kernel, by decide, inR_13 _ (List.mem_of_getElem? (i := 20) rfl), inR_13 _ (List.mem_of_getElem? (i := 21) rfl), inR_3 _ (List.mem_of_getElem? (i := 5) rfl), inR_13 _ (List.mem_of_getElem? (i := 22) rfl)⟩
theorem USX5_isReserved : US MX5_isReserved RX5 1 := ⟨by decide +kernel, by decide, inR_14 _ (List.mem_of_getElem? (i := 0) rfl), inR_3 _ (List.mem_of_getElem? (i := 5) rfl), inR_14 _ (List.mem_of_getElem? (i := 1) rfl)⟩
theorem UVX3_isDeclared : UV MX3_isDeclared RX3 1 := ⟨by decide +kernel, by decide, inR_14 _ (List.mem_of_getElem? (i := 4) rfl), inR_14 _ (List.mem_of_getElem? (i := 5) rfl), inR_6 _ (List.mem_of_getElem? (i := 8) rfl), inR_14 _ (List.mem_of_getElem? (i := 6) rfl)⟩
theorem UVX3_add : UV MX3_add RX3 3 := ⟨by decide +kernel, by decide, inR_14 _ (List.mem_of_getElem? (i := 8) rfl), inR_14 _ (List.mem_of_getElem? (i := 9) rfl), inR_6 _ (List.mem_of_getElem? (i := 8) rfl), inR_14 _ (List.mem_of_getElem? (i := 10) rfl)⟩
theorem UVX1_addLane : UV MX1_addLane RX1 1 := ⟨by decide +kernel, by decide, inR_14 _ (List.mem_of_getElem? (i := 12) rfl), inR_14 _ (List.mem_of_getElem? (i := 13) rfl), inR_2 _ (List.mem_of_getElem? (i := 18) rfl), inR_14 _ (List.mem_of_getElem? (i := 14) rfl)⟩
theorem UVX5_readSpan : UV MX5_readSpan RX5 0 := ⟨by decide +kernel, by decide, inR_14 _ (List.mem_of_getElem? (i := 16) rfl), inR_14 _ (List.mem_of_getElem? (i := 17) rfl), inR_3 _ (List.mem_of_getElem? (i := 5) rfl), inR_14 _ (List.mem_of_getElem? (i := 18) rfl)⟩
theorem UVX5_laneOrNone : UV MX5_laneOrNone RX5 0 := ⟨by decide +kernel, by decide, inR_14 _ (List.mem_of_getElem? (i := 20) rfl), inR_14 _ (List.mem_of_getElem? (i := 21) rfl), inR_3 _ (List.mem_of_getElem? (i := 5) rfl), inR_14 _ (List.mem_of_getElem? (i := 22) rfl)⟩
theorem UVX5_thisName : UV MX5_thisName RX5 1 := ⟨by decide +kernel, by decide, inR_15 _ (List.mem_of_getElem? (i := 0) rfl), inR_15 _ (List.mem_of_getElem? (i := 1) rfl), inR_3 _ (List.mem_of_getElem? (i := 5) rfl), inR_15 _ (List.mem_of_getElem? (i := 2) rfl)⟩
theorem UVX3_numberOf : UV MX3_numberOf RX3 2 := ⟨by decide +kernel, by decide, inR_15 _ (List.mem_of_getElem? (i := 4) rfl), inR_15 _ (List.mem_of_getElem? (i := 5) rfl), inR_6 _ (List.mem_of_getElem? (i := 8) rfl), inR_15 _ (List.mem_of_getElem? (i := 6) rfl)⟩
theorem UVX1_addSpan : UV MX1_addSpan RX1 5 := ⟨by decide +kernel, by decide, inR_15 _ (List.mem_of_getElem? (i := 8) rfl), inR_15 _ (List.mem_of_getElem? (i := 9) rfl), inR_2 _ (List.mem_of_getElem? (i := 18) rfl), inR_15 _ (List.mem_of_getElem? (i := 10) rfl)⟩
theorem UVX5_readGang : UV MX5_readGang RX5 0 := ⟨by decide +kernel, by decide, inR_15 _ (List.mem_of_getElem? (i := 12) rfl), inR_15 _ (List.mem_of_getElem? (i := 13) rfl), inR_3 _ (List.mem_of_getElem? (i := 5) rfl), inR_15 _ (List.mem_of_getElem? (i := 14) rfl)⟩
theorem UVX1_addGang : UV MX1_addGang RX1 2 := ⟨by decide +kernel, by decide, inR_15 _ (List.mem_of_getElem? (i := 16) rfl), inR_15 _ (List.mem_of_getElem? (i := 17) rfl), inR_2 _ (List.mem_of_getElem? (i := 18) rfl), inR_15 _ (List.mem_of_getElem? (i := 18) rfl)⟩
theorem UVX5_readWeather : UV MX5_readWeather RX5 0 := ⟨by decide +kernel, by decide, inR_15 _ (List.mem_of_getElem? (i := 20) rfl), inR_15 _ (List.mem_of_getElem? (i := 21) rfl), inR_3 _ (List.mem_of_getElem? (i := 5) rfl), inR_15 _ (List.mem_of_getElem? (i := 22) rfl)⟩
theorem UVX5_readClosed : UV MX5_readClosed RX5 0 := ⟨by decide +kernel, by decide, inR_16 _ (List.mem_of_getElem? (i := 0) rfl), inR_16 _ (List.mem_of_getElem? (i := 1) rfl), inR_3 _ (List.mem_of_getElem? (i := 5) rfl), inR_16 _ (List.mem_of_getElem? (i := 2) rfl)⟩
theorem UVX5_knownName : UV MX5_knownName RX5 1 := ⟨by decide +kernel, by decide, inR_16 _ (List.mem_of_getElem? (i := 4) rfl), inR_16 _ (List.mem_of_getElem? (i := 5) rfl), inR_3 _ (List.mem_of_getElem? (i := 5) rfl), inR_16 _ (List.mem_of_getElem? (i := 6) rfl)⟩
theorem UVX5_readPainting : UV MX5_readPainting RX5 0 := ⟨by decide +kernel, by decide, inR_16 _ (List.mem_of_getElem? (i := 8) rfl), inR_16 _ (List.mem_of_getElem? (i := 9) rfl), inR_3 _ (List.mem_of_getElem? (i := 5) rfl), inR_16 _ (List.mem_of_getElem? (i := 10) rfl)⟩
theorem UVX6_put : UV MX6_put RX6 3 := ⟨by decide +kernel, by decide, inR_16 _ (List.mem_of_getElem? (i := 13) rfl), inR_16 _ (List.mem_of_getElem? (i := 14) rfl), inR_2 _ (List.mem_of_getElem? (i := 21) rfl), inR_16 _ (List.mem_of_getElem? (i := 15) rfl)⟩
theorem UVX5_failureKind : UV MX5_failureKind RX5 0 := ⟨by decide +kernel, by decide, inR_16 _ (List.mem_of_getElem? (i := 18) rfl), inR_16 _ (List.mem_of_getElem? (i := 19) rfl), inR_3 _ (List.mem_of_getElem? (i := 5) rfl), inR_16 _ (List.mem_of_getElem? (i := 20) rfl)⟩
theorem UVX5_failurePosition : UV MX5_failurePosition RX5 0 := ⟨by decide +kernel, by decide, inR_16 _ (List.mem_of_getElem? (i := 22) rfl), inR_16 _ (List.mem_of_getElem? (i := 23) rfl), inR_3 _ (List.mem_of_getElem? (i := 5) rfl), inR_17 _ (List.mem_of_getElem? (i := 0) rfl)⟩
theorem UVX9_clear : UV MX9_clear RX9 0 := ⟨by decide +kernel, by decide, inR_17 _ (List.mem_of_getElem? (i := 2) rfl), inR_17 _ (List.mem_of_getElem? (i := 3) rfl), inR_2 _ (List.mem_of_getElem? (i := 15) rfl), inR_17 _ (List.mem_of_getElem? (i := 4) rfl)⟩
theorem UVX11_takeDraft : UV MX11_takeDraft RX11 0 := ⟨by decide +kernel, by decide, inR_17 _ (List.mem_of_getElem? (i := 6) rfl), inR_17 _ (List.mem_of_getElem? (i := 7) rfl), inR_1 _ (List.mem_of_getElem? (i := 2) rfl), inR_17 _ (List.mem_of_getElem? (i := 8) rfl)⟩
theorem UVX2_clear : UV MX2_clear RX2 0 := ⟨by decide +kernel, by decide, inR_17 _ (List.mem_of_getElem? (i := 10) rfl), inR_17 _ (List.mem_of_getElem? (i := 11) rfl), inR_2 _ (List.mem_of_getElem? (i := 4) rfl), inR_17 _ (List.mem_of_getElem? (i := 12) rfl)⟩
theorem UVX12_load : UV MX12_load RX12 1 := ⟨by decide +kernel, by decide, inR_17 _ (List.mem_of_getElem? (i := 15) rfl), inR_17 _ (List.mem_of_getElem? (i := 16) rfl), inR_1 _ (List.mem_of_getElem? (i := 5) rfl), inR_17 _ (List.mem_of_getElem? (i := 17) rfl)⟩
theorem USX12_between : US MX12_between RX12 3 := ⟨by decide +kernel, by decide, inR_18 _ (List.mem_of_getElem? (i := 3) rfl), inR_1 _ (List.mem_of_getElem? (i := 5) rfl), inR_18 _ (List.mem_of_getElem? (i := 4) rfl)⟩
theorem UVX12_advance : UV MX12_advance RX12 0 := ⟨by decide +kernel, by decide, inR_18 _ (List.mem_of_getElem? (i := 6) rfl), inR_18 _ (List.mem_of_getElem? (i := 7) rfl), inR_1 _ (List.mem_of_getElem? (i := 5) rfl), inR_18 _ (List.mem_of_getElem? (i := 8) rfl)⟩
theorem UVX12_byteAt : UV MX12_byteAt RX12 1 := ⟨by decide +kernel, by decide, inR_18 _ (List.mem_of_getElem? (i := 16) rfl), inR_18 _ (List.mem_of_getElem? (i := 17) rfl), inR_1 _ (List.mem_of_getElem? (i := 5) rfl), inR_18 _ (List.mem_of_getElem? (i := 18) rfl)⟩
theorem USX12_isLetter : US MX12_isLetter RX12 1 := ⟨by decide +kernel, by decide, inR_18 _ (List.mem_of_getElem? (i := 20) rfl), inR_1 _ (List.mem_of_getElem? (i := 5) rfl), inR_18 _ (List.mem_of_getElem? (i := 21) rfl)⟩
theorem UVX12_keywordHere : UV MX12_keywordHere RX12 0 := ⟨by decide +kernel, by decide, inR_18 _ (List.mem_of_getElem? (i := 23) rfl), inR_19 _ (List.mem_of_getElem? (i := 0) rfl), inR_1 _ (List.mem_of_getElem? (i := 5) rfl), inR_19 _ (List.mem_of_getElem? (i := 1) rfl)⟩
theorem UVJ0_length_8abf5 : UV MJ0_length_8abf5 RJ0 0 := ⟨by decide +kernel, by decide, inR_19 _ (List.mem_of_getElem? (i := 3) rfl), inR_19 _ (List.mem_of_getElem? (i := 4) rfl), inR_19 _ (List.mem_of_getElem? (i := 5) rfl), inR_19 _ (List.mem_of_getElem? (i := 6) rfl)⟩
theorem UVJ0_coder_7d493 : UV MJ0_coder_7d493 RJ0 0 := ⟨by decide +kernel, by decide, inR_19 _ (List.mem_of_getElem? (i := 9) rfl), inR_19 _ (List.mem_of_getElem? (i := 10) rfl), inR_19 _ (List.mem_of_getElem? (i := 5) rfl), inR_19 _ (List.mem_of_getElem? (i := 11) rfl)⟩
theorem UVJ0_charAt_5068e : UV MJ0_charAt_5068e RJ0 1 := ⟨by decide +kernel, by decide, inR_19 _ (List.mem_of_getElem? (i := 15) rfl), inR_19 _ (List.mem_of_getElem? (i := 16) rfl), inR_19 _ (List.mem_of_getElem? (i := 5) rfl), inR_19 _ (List.mem_of_getElem? (i := 17) rfl)⟩
theorem UVJ0_isLatin1_aae02 : UV MJ0_isLatin1_aae02 RJ0 0 := ⟨by decide +kernel, by decide, inR_19 _ (List.mem_of_getElem? (i := 19) rfl), inR_19 _ (List.mem_of_getElem? (i := 20) rfl), inR_19 _ (List.mem_of_getElem? (i := 5) rfl), inR_19 _ (List.mem_of_getElem? (i := 21) rfl)⟩
theorem USJ1_charAt_3b067 : US MJ1_charAt_3b067 RJ1 2 := ⟨by decide +kernel, by decide, inR_19 _ (List.mem_of_getElem? (i := 23) rfl), inR_20 _ (List.mem_of_getElem? (i := 0) rfl), inR_20 _ (List.mem_of_getElem? (i := 1) rfl)⟩
theorem USJ0_checkIndex_df160 : US MJ0_checkIndex_df160 RJ0 2 := ⟨by decide +kernel, by decide, inR_20 _ (List.mem_of_getElem? (i := 3) rfl), inR_19 _ (List.mem_of_getElem? (i := 5) rfl), inR_20 _ (List.mem_of_getElem? (i := 4) rfl)⟩
theorem USJ3_checkIndex_8e157 : US MJ3_checkIndex_8e157 RJ3 3 := ⟨by decide +kernel, by decide, inR_20 _ (List.mem_of_getElem? (i := 7) rfl), inR_20 _ (List.mem_of_getElem? (i := 8) rfl), inR_20 _ (List.mem_of_getElem? (i := 9) rfl)⟩
theorem USJ2_charAt_3b067 : US MJ2_charAt_3b067 RJ2 2 := ⟨by decide +kernel, by decide, inR_20 _ (List.mem_of_getElem? (i := 11) rfl), inR_20 _ (List.mem_of_getElem? (i := 12) rfl), inR_20 _ (List.mem_of_getElem? (i := 13) rfl)⟩
theorem USJ2_checkIndex_2214a : US MJ2_checkIndex_2214a RJ2 2 := ⟨by decide +kernel, by decide, inR_20 _ (List.mem_of_getElem? (i := 15) rfl), inR_20 _ (List.mem_of_getElem? (i := 12) rfl), inR_20 _ (List.mem_of_getElem? (i := 16) rfl)⟩
theorem USJ2_length_9d52b : US MJ2_length_9d52b RJ2 1 := ⟨by decide +kernel, by decide, inR_20 _ (List.mem_of_getElem? (i := 18) rfl), inR_20 _ (List.mem_of_getElem? (i := 12) rfl), inR_20 _ (List.mem_of_getElem? (i := 19) rfl)⟩
theorem USJ2_getChar_3b067 : US MJ2_getChar_3b067 RJ2 2 := ⟨by decide +kernel, by decide, inR_20 _ (List.mem_of_getElem? (i := 22) rfl), inR_20 _ (List.mem_of_getElem? (i := 12) rfl), inR_20 _ (List.mem_of_getElem? (i := 23) rfl)⟩
theorem USX12_isDigit : US MX12_isDigit RX12 1 := ⟨by decide +kernel, by decide, inR_21 _ (List.mem_of_getElem? (i := 4) rfl), inR_1 _ (List.mem_of_getElem? (i := 5) rfl), inR_21 _ (List.mem_of_getElem? (i := 5) rfl)⟩
theorem UVX12_statement : UV MX12_statement RX12 1 := ⟨by decide +kernel, by decide, inR_21 _ (List.mem_of_getElem? (i := 7) rfl), inR_21 _ (List.mem_of_getElem? (i := 8) rfl), inR_1 _ (List.mem_of_getElem? (i := 5) rfl), inR_21 _ (List.mem_of_getElem? (i := 9) rfl)⟩
theorem UVX12_fail : UV MX12_fail RX12 1 := ⟨by decide +kernel, by decide, inR_21 _ (List.mem_of_getElem? (i := 11) rfl), inR_21 _ (List.mem_of_getElem? (i := 12) rfl), inR_1 _ (List.mem_of_getElem? (i := 5) rfl), inR_21 _ (List.mem_of_getElem? (i := 13) rfl)⟩
theorem UVX12_bridge : UV MX12_bridge RX12 1 := ⟨by decide +kernel, by decide, inR_21 _ (List.mem_of_getElem? (i := 15) rfl), inR_21 _ (List.mem_of_getElem? (i := 16) rfl), inR_1 _ (List.mem_of_getElem? (i := 5) rfl), inR_21 _ (List.mem_of_getElem? (i := 17) rfl)⟩
theorem UVX12_numberTo : UV MX12_numberTo RX12 3 := ⟨by decide +kernel, by decide, inR_21 _ (List.mem_of_getElem? (i := 19) rfl), inR_21 _ (List.mem_of_getElem? (i := 20) rfl), inR_1 _ (List.mem_of_getElem? (i := 5) rfl), inR_21 _ (List.mem_of_getElem? (i := 21) rfl)⟩
theorem UVX12_number : UV MX12_number RX12 2 := ⟨by decide +kernel, by decide, inR_22 _ (List.mem_of_getElem? (i := 0) rfl), inR_22 _ (List.mem_of_getElem? (i := 1) rfl), inR_1 _ (List.mem_of_getElem? (i := 5) rfl), inR_22 _ (List.mem_of_getElem? (i := 2) rfl)⟩
theorem UVX12_lane : UV MX12_lane RX12 0 := ⟨by decide +kernel, by decide, inR_22 _ (List.mem_of_getElem? (i := 4) rfl), inR_22 _ (List.mem_of_getElem? (i := 5) rfl), inR_1 _ (List.mem_of_getElem? (i := 5) rfl), inR_22 _ (List.mem_of_getElem? (i := 6) rfl)⟩
theorem UVX12_newName : UV MX12_newName RX12 1 := ⟨by decide +kernel, by decide, inR_22 _ (List.mem_of_getElem? (i := 8) rfl), inR_22 _ (List.mem_of_getElem? (i := 9) rfl), inR_1 _ (List.mem_of_getElem? (i := 5) rfl), inR_22 _ (List.mem_of_getElem? (i := 10) rfl)⟩
theorem UVX12_isName : UV MX12_isName RX12 0 := ⟨by decide +kernel, by decide, inR_22 _ (List.mem_of_getElem? (i := 12) rfl), inR_22 _ (List.mem_of_getElem? (i := 13) rfl), inR_1 _ (List.mem_of_getElem? (i := 5) rfl), inR_22 _ (List.mem_of_getElem? (i := 14) rfl)⟩
theorem UVX12_find : UV MX12_find RX12 1 := ⟨by decide +kernel, by decide, inR_22 _ (List.mem_of_getElem? (i := 16) rfl), inR_22 _ (List.mem_of_getElem? (i := 17) rfl), inR_1 _ (List.mem_of_getElem? (i := 5) rfl), inR_22 _ (List.mem_of_getElem? (i := 18) rfl)⟩
theorem UVX12_span : UV MX12_span RX12 0 := ⟨by decide +kernel, by decide, inR_22 _ (List.mem_of_getElem? (i := 20) rfl), inR_22 _ (List.mem_of_getElem? (i := 21) rfl), inR_1 _ (List.mem_of_getElem? (i := 5) rfl), inR_22 _ (List.mem_of_getElem? (i := 22) rfl)⟩
theorem UVX12_oldName : UV MX12_oldName RX12 1 := ⟨by decide +kernel, by decide, inR_23 _ (List.mem_of_getElem? (i := 1) rfl), inR_23 _ (List.mem_of_getElem? (i := 2) rfl), inR_1 _ (List.mem_of_getElem? (i := 5) rfl), inR_23 _ (List.mem_of_getElem? (i := 3) rfl)⟩
theorem UVX12_gang : UV MX12_gang RX12 0 := ⟨by decide +kernel, by decide, inR_23 _ (List.mem_of_getElem? (i := 5) rfl), inR_23 _ (List.mem_of_getElem? (i := 6) rfl), inR_1 _ (List.mem_of_getElem? (i := 5) rfl), inR_23 _ (List.mem_of_getElem? (i := 7) rfl)⟩
theorem UVX12_weather : UV MX12_weather RX12 0 := ⟨by decide +kernel, by decide, inR_23 _ (List.mem_of_getElem? (i := 9) rfl), inR_23 _ (List.mem_of_getElem? (i := 10) rfl), inR_1 _ (List.mem_of_getElem? (i := 5) rfl), inR_23 _ (List.mem_of_getElem? (i := 11) rfl)⟩
theorem UVX12_closed : UV MX12_closed RX12 0 := ⟨by decide +kernel, by decide, inR_23 _ (List.mem_of_getElem? (i := 13) rfl), inR_23 _ (List.mem_of_getElem? (i := 14) rfl), inR_1 _ (List.mem_of_getElem? (i := 5) rfl), inR_23 _ (List.mem_of_getElem? (i := 15) rfl)⟩
theorem UVX12_painting : UV MX12_painting RX12 0 := ⟨by decide +kernel, by decide, inR_23 _ (List.mem_of_getElem? (i := 17) rfl), inR_23 _ (List.mem_of_getElem? (i := 18) rfl), inR_1 _ (List.mem_of_getElem? (i := 5) rfl), inR_23 _ (List.mem_of_getElem? (i := 19) rfl)⟩
theorem USX12_copy : US MX12_copy RX12 4 := ⟨by decide +kernel, by decide, inR_23 _ (List.mem_of_getElem? (i := 21) rfl), inR_1 _ (List.mem_of_getElem? (i := 5) rfl), inR_23 _ (List.mem_of_getElem? (i := 22) rfl)⟩
theorem UVX12_thrown : UV MX12_thrown RX12 0 := ⟨by decide +kernel, by decide, inR_24 _ (List.mem_of_getElem? (i := 0) rfl), inR_24 _ (List.mem_of_getElem? (i := 1) rfl), inR_1 _ (List.mem_of_getElem? (i := 5) rfl), inR_24 _ (List.mem_of_getElem? (i := 2) rfl)⟩
theorem UVX11_errorKind : UV MX11_errorKind RX11 0 := ⟨by decide +kernel, by decide, inR_24 _ (List.mem_of_getElem? (i := 4) rfl), inR_24 _ (List.mem_of_getElem? (i := 5) rfl), inR_1 _ (List.mem_of_getElem? (i := 2) rfl), inR_24 _ (List.mem_of_getElem? (i := 6) rfl)⟩
theorem UVX12_errorKind : UV MX12_errorKind RX12 0 := ⟨by decide +kernel, by decide, inR_24 _ (List.mem_of_getElem? (i := 8) rfl), inR_24 _ (List.mem_of_getElem? (i := 9) rfl), inR_1 _ (List.mem_of_getElem? (i := 5) rfl), inR_24 _ (List.mem_of_getElem? (i := 10) rfl)⟩
theorem UVX11_errorPosition : UV MX11_errorPosition RX11 0 := ⟨by decide +kernel, by decide, inR_24 _ (List.mem_of_getElem? (i := 12) rfl), inR_24 _ (List.mem_of_getElem? (i := 13) rfl), inR_1 _ (List.mem_of_getElem? (i := 2) rfl), inR_24 _ (List.mem_of_getElem? (i := 14) rfl)⟩
theorem UVX12_errorPosition : UV MX12_errorPosition RX12 0 := ⟨by decide +kernel, by decide, inR_24 _ (List.mem_of_getElem? (i := 16) rfl), inR_24 _ (List.mem_of_getElem? (i := 17) rfl), inR_1 _ (List.mem_of_getElem? (i := 5) rfl), inR_24 _ (List.mem_of_getElem? (i := 18) rfl)⟩
theorem UVX11_rustBefore : UV MX11_rustBefore RX11 2 := ⟨by decide +kernel, by decide, inR_25 _ (List.mem_of_getElem? (i := 0) rfl), inR_25 _ (List.mem_of_getElem? (i := 1) rfl), inR_1 _ (List.mem_of_getElem? (i := 2) rfl), inR_25 _ (List.mem_of_getElem? (i := 2) rfl)⟩
theorem UVX11_checkSpan : UV MX11_checkSpan RX11 1 := ⟨by decide +kernel, by decide, inR_25 _ (List.mem_of_getElem? (i := 4) rfl), inR_25 _ (List.mem_of_getElem? (i := 5) rfl), inR_1 _ (List.mem_of_getElem? (i := 2) rfl), inR_25 _ (List.mem_of_getElem? (i := 6) rfl)⟩
theorem UVX11_checkYear : UV MX11_checkYear RX11 1 := ⟨by decide +kernel, by decide, inR_25 _ (List.mem_of_getElem? (i := 10) rfl), inR_25 _ (List.mem_of_getElem? (i := 11) rfl), inR_1 _ (List.mem_of_getElem? (i := 2) rfl), inR_25 _ (List.mem_of_getElem? (i := 12) rfl)⟩
theorem UVX6_rustAtStart : UV MX6_rustAtStart RX6 2 := ⟨by decide +kernel, by decide, inR_25 _ (List.mem_of_getElem? (i := 14) rfl), inR_25 _ (List.mem_of_getElem? (i := 15) rfl), inR_2 _ (List.mem_of_getElem? (i := 21) rfl), inR_25 _ (List.mem_of_getElem? (i := 16) rfl)⟩
theorem UVX12_rustBefore : UV MX12_rustBefore RX12 2 := ⟨by decide +kernel, by decide, inR_25 _ (List.mem_of_getElem? (i := 18) rfl), inR_25 _ (List.mem_of_getElem? (i := 19) rfl), inR_1 _ (List.mem_of_getElem? (i := 5) rfl), inR_25 _ (List.mem_of_getElem? (i := 20) rfl)⟩
theorem UVX12_goodSpan : UV MX12_goodSpan RX12 2 := ⟨by decide +kernel, by decide, inR_25 _ (List.mem_of_getElem? (i := 22) rfl), inR_25 _ (List.mem_of_getElem? (i := 23) rfl), inR_1 _ (List.mem_of_getElem? (i := 5) rfl), inR_26 _ (List.mem_of_getElem? (i := 0) rfl)⟩
theorem UVX12_isSpan : UV MX12_isSpan RX12 1 := ⟨by decide +kernel, by decide, inR_26 _ (List.mem_of_getElem? (i := 2) rfl), inR_26 _ (List.mem_of_getElem? (i := 3) rfl), inR_1 _ (List.mem_of_getElem? (i := 5) rfl), inR_26 _ (List.mem_of_getElem? (i := 4) rfl)⟩
theorem UVX12_isYear : UV MX12_isYear RX12 1 := ⟨by decide +kernel, by decide, inR_26 _ (List.mem_of_getElem? (i := 6) rfl), inR_26 _ (List.mem_of_getElem? (i := 7) rfl), inR_1 _ (List.mem_of_getElem? (i := 5) rfl), inR_26 _ (List.mem_of_getElem? (i := 8) rfl)⟩
theorem UVX12_good : UV MX12_good RX12 1 := ⟨by decide +kernel, by decide, inR_26 _ (List.mem_of_getElem? (i := 10) rfl), inR_26 _ (List.mem_of_getElem? (i := 11) rfl), inR_1 _ (List.mem_of_getElem? (i := 5) rfl), inR_26 _ (List.mem_of_getElem? (i := 12) rfl)⟩
theorem UVX12_lay : UV MX12_lay RX12 1 := ⟨by decide +kernel, by decide, inR_26 _ (List.mem_of_getElem? (i := 14) rfl), inR_26 _ (List.mem_of_getElem? (i := 15) rfl), inR_1 _ (List.mem_of_getElem? (i := 5) rfl), inR_26 _ (List.mem_of_getElem? (i := 16) rfl)⟩
theorem UVX12_paintedYears : UV MX12_paintedYears RX12 1 := ⟨by decide +kernel, by decide, inR_26 _ (List.mem_of_getElem? (i := 18) rfl), inR_26 _ (List.mem_of_getElem? (i := 19) rfl), inR_1 _ (List.mem_of_getElem? (i := 5) rfl), inR_26 _ (List.mem_of_getElem? (i := 20) rfl)⟩
theorem UVX12_painter : UV MX12_painter RX12 2 := ⟨by decide +kernel, by decide, inR_26 _ (List.mem_of_getElem? (i := 22) rfl), inR_26 _ (List.mem_of_getElem? (i := 23) rfl), inR_1 _ (List.mem_of_getElem? (i := 5) rfl), inR_27 _ (List.mem_of_getElem? (i := 0) rfl)⟩
theorem UVX12_layBy : UV MX12_layBy RX12 2 := ⟨by decide +kernel, by decide, inR_27 _ (List.mem_of_getElem? (i := 2) rfl), inR_27 _ (List.mem_of_getElem? (i := 3) rfl), inR_1 _ (List.mem_of_getElem? (i := 5) rfl), inR_27 _ (List.mem_of_getElem? (i := 4) rfl)⟩
theorem UVX12_spanOf : UV MX12_spanOf RX12 2 := ⟨by decide +kernel, by decide, inR_27 _ (List.mem_of_getElem? (i := 7) rfl), inR_27 _ (List.mem_of_getElem? (i := 8) rfl), inR_1 _ (List.mem_of_getElem? (i := 5) rfl), inR_27 _ (List.mem_of_getElem? (i := 9) rfl)⟩
theorem UVX11_rustAfter : UV MX11_rustAfter RX11 2 := ⟨by decide +kernel, by decide, inR_27 _ (List.mem_of_getElem? (i := 14) rfl), inR_27 _ (List.mem_of_getElem? (i := 15) rfl), inR_1 _ (List.mem_of_getElem? (i := 2) rfl), inR_27 _ (List.mem_of_getElem? (i := 16) rfl)⟩
theorem UVX6_rustAtEnd : UV MX6_rustAtEnd RX6 2 := ⟨by decide +kernel, by decide, inR_27 _ (List.mem_of_getElem? (i := 18) rfl), inR_27 _ (List.mem_of_getElem? (i := 19) rfl), inR_2 _ (List.mem_of_getElem? (i := 21) rfl), inR_27 _ (List.mem_of_getElem? (i := 20) rfl)⟩
theorem UVX12_rustAfter : UV MX12_rustAfter RX12 2 := ⟨by decide +kernel, by decide, inR_27 _ (List.mem_of_getElem? (i := 22) rfl), inR_27 _ (List.mem_of_getElem? (i := 23) rfl), inR_1 _ (List.mem_of_getElem? (i := 5) rfl), inR_28 _ (List.mem_of_getElem? (i := 0) rfl)⟩
theorem UVX11_guardLeft : UV MX11_guardLeft RX11 2 := ⟨by decide +kernel, by decide, inR_28 _ (List.mem_of_getElem? (i := 5) rfl), inR_28 _ (List.mem_of_getElem? (i := 6) rfl), inR_1 _ (List.mem_of_getElem? (i := 2) rfl), inR_28 _ (List.mem_of_getElem? (i := 7) rfl)⟩
theorem UVX6_guardAtStart : UV MX6_guardAtStart RX6 2 := ⟨by decide +kernel, by decide, inR_28 _ (List.mem_of_getElem? (i := 9) rfl), inR_28 _ (List.mem_of_getElem? (i := 10) rfl), inR_2 _ (List.mem_of_getElem? (i := 21) rfl), inR_28 _ (List.mem_of_getElem? (i := 11) rfl)⟩
theorem UVX12_guardLeft : UV MX12_guardLeft RX12 2 := ⟨by decide +kernel, by decide, inR_28 _ (List.mem_of_getElem? (i := 13) rfl), inR_28 _ (List.mem_of_getElem? (i := 14) rfl), inR_1 _ (List.mem_of_getElem? (i := 5) rfl), inR_28 _ (List.mem_of_getElem? (i := 15) rfl)⟩
theorem UVX11_pastYear : UV MX11_pastYear RX11 1 := ⟨by decide +kernel, by decide, inR_28 _ (List.mem_of_getElem? (i := 20) rfl), inR_28 _ (List.mem_of_getElem? (i := 21) rfl), inR_1 _ (List.mem_of_getElem? (i := 2) rfl), inR_28 _ (List.mem_of_getElem? (i := 22) rfl)⟩
theorem UVX6_firstPast : UV MX6_firstPast RX6 1 := ⟨by decide +kernel, by decide, inR_29 _ (List.mem_of_getElem? (i := 0) rfl), inR_29 _ (List.mem_of_getElem? (i := 1) rfl), inR_2 _ (List.mem_of_getElem? (i := 21) rfl), inR_29 _ (List.mem_of_getElem? (i := 2) rfl)⟩
theorem UVX6_isPast : UV MX6_isPast RX6 2 := ⟨by decide +kernel, by decide, inR_29 _ (List.mem_of_getElem? (i := 5) rfl), inR_29 _ (List.mem_of_getElem? (i := 6) rfl), inR_2 _ (List.mem_of_getElem? (i := 21) rfl), inR_29 _ (List.mem_of_getElem? (i := 7) rfl)⟩
theorem UVX12_pastYear : UV MX12_pastYear RX12 1 := ⟨by decide +kernel, by decide, inR_29 _ (List.mem_of_getElem? (i := 9) rfl), inR_29 _ (List.mem_of_getElem? (i := 10) rfl), inR_1 _ (List.mem_of_getElem? (i := 5) rfl), inR_29 _ (List.mem_of_getElem? (i := 11) rfl)⟩
theorem UVX12_firstPast : UV MX12_firstPast RX12 1 := ⟨by decide +kernel, by decide, inR_29 _ (List.mem_of_getElem? (i := 13) rfl), inR_29 _ (List.mem_of_getElem? (i := 14) rfl), inR_1 _ (List.mem_of_getElem? (i := 5) rfl), inR_29 _ (List.mem_of_getElem? (i := 15) rfl)⟩
theorem UVX12_pastLaid : UV MX12_pastLaid RX12 1 := ⟨by decide +kernel, by decide, inR_29 _ (List.mem_of_getElem? (i := 17) rfl), inR_29 _ (List.mem_of_getElem? (i := 18) rfl), inR_1 _ (List.mem_of_getElem? (i := 5) rfl), inR_29 _ (List.mem_of_getElem? (i := 19) rfl)⟩
theorem UVX11_pastCount : UV MX11_pastCount RX11 0 := ⟨by decide +kernel, by decide, inR_29 _ (List.mem_of_getElem? (i := 21) rfl), inR_29 _ (List.mem_of_getElem? (i := 22) rfl), inR_1 _ (List.mem_of_getElem? (i := 2) rfl), inR_29 _ (List.mem_of_getElem? (i := 23) rfl)⟩
theorem UVX6_countPast : UV MX6_countPast RX6 0 := ⟨by decide +kernel, by decide, inR_30 _ (List.mem_of_getElem? (i := 1) rfl), inR_30 _ (List.mem_of_getElem? (i := 2) rfl), inR_2 _ (List.mem_of_getElem? (i := 21) rfl), inR_30 _ (List.mem_of_getElem? (i := 3) rfl)⟩
theorem UVX12_pastCount : UV MX12_pastCount RX12 0 := ⟨by decide +kernel, by decide, inR_30 _ (List.mem_of_getElem? (i := 6) rfl), inR_30 _ (List.mem_of_getElem? (i := 7) rfl), inR_1 _ (List.mem_of_getElem? (i := 5) rfl), inR_30 _ (List.mem_of_getElem? (i := 8) rfl)⟩
theorem UVX12_countPast : UV MX12_countPast RX12 0 := ⟨by decide +kernel, by decide, inR_30 _ (List.mem_of_getElem? (i := 10) rfl), inR_30 _ (List.mem_of_getElem? (i := 11) rfl), inR_1 _ (List.mem_of_getElem? (i := 5) rfl), inR_30 _ (List.mem_of_getElem? (i := 12) rfl)⟩
theorem UVX11_pastSpans : UV MX11_pastSpans RX11 1 := ⟨by decide +kernel, by decide, inR_30 _ (List.mem_of_getElem? (i := 17) rfl), inR_30 _ (List.mem_of_getElem? (i := 18) rfl), inR_1 _ (List.mem_of_getElem? (i := 2) rfl), inR_30 _ (List.mem_of_getElem? (i := 19) rfl)⟩
theorem UVX12_pastSpans : UV MX12_pastSpans RX12 1 := ⟨by decide +kernel, by decide, inR_30 _ (List.mem_of_getElem? (i := 22) rfl), inR_30 _ (List.mem_of_getElem? (i := 23) rfl), inR_1 _ (List.mem_of_getElem? (i := 5) rfl), inR_31 _ (List.mem_of_getElem? (i := 0) rfl)⟩
theorem UVX11_rustiest : UV MX11_rustiest RX11 1 := ⟨by decide +kernel, by decide, inR_31 _ (List.mem_of_getElem? (i := 5) rfl), inR_31 _ (List.mem_of_getElem? (i := 6) rfl), inR_1 _ (List.mem_of_getElem? (i := 2) rfl), inR_31 _ (List.mem_of_getElem? (i := 7) rfl)⟩
theorem UVX12_rustiest : UV MX12_rustiest RX12 1 := ⟨by decide +kernel, by decide, inR_31 _ (List.mem_of_getElem? (i := 9) rfl), inR_31 _ (List.mem_of_getElem? (i := 10) rfl), inR_1 _ (List.mem_of_getElem? (i := 5) rfl), inR_31 _ (List.mem_of_getElem? (i := 11) rfl)⟩
theorem UVX11_averageRust : UV MX11_averageRust RX11 1 := ⟨by decide +kernel, by decide, inR_31 _ (List.mem_of_getElem? (i := 19) rfl), inR_31 _ (List.mem_of_getElem? (i := 20) rfl), inR_1 _ (List.mem_of_getElem? (i := 2) rfl), inR_31 _ (List.mem_of_getElem? (i := 21) rfl)⟩
theorem UVX12_averageRust : UV MX12_averageRust RX12 1 := ⟨by decide +kernel, by decide, inR_31 _ (List.mem_of_getElem? (i := 23) rfl), inR_32 _ (List.mem_of_getElem? (i := 0) rfl), inR_1 _ (List.mem_of_getElem? (i := 5) rfl), inR_32 _ (List.mem_of_getElem? (i := 1) rfl)⟩
theorem UVX11_urgent : UV MX11_urgent RX11 1 := ⟨by decide +kernel, by decide, inR_32 _ (List.mem_of_getElem? (i := 6) rfl), inR_32 _ (List.mem_of_getElem? (i := 7) rfl), inR_1 _ (List.mem_of_getElem? (i := 2) rfl), inR_32 _ (List.mem_of_getElem? (i := 8) rfl)⟩
theorem UVX7_clear : UV MX7_clear RX7 0 := ⟨by decide +kernel, by decide, inR_32 _ (List.mem_of_getElem? (i := 10) rfl), inR_32 _ (List.mem_of_getElem? (i := 11) rfl), inR_2 _ (List.mem_of_getElem? (i := 0) rfl), inR_32 _ (List.mem_of_getElem? (i := 12) rfl)⟩
theorem UVX7_add : UV MX7_add RX7 3 := ⟨by decide +kernel, by decide, inR_32 _ (List.mem_of_getElem? (i := 15) rfl), inR_32 _ (List.mem_of_getElem? (i := 16) rfl), inR_2 _ (List.mem_of_getElem? (i := 0) rfl), inR_32 _ (List.mem_of_getElem? (i := 17) rfl)⟩
theorem UVX7_spanAt : UV MX7_spanAt RX7 1 := ⟨by decide +kernel, by decide, inR_32 _ (List.mem_of_getElem? (i := 19) rfl), inR_32 _ (List.mem_of_getElem? (i := 20) rfl), inR_2 _ (List.mem_of_getElem? (i := 0) rfl), inR_32 _ (List.mem_of_getElem? (i := 21) rfl)⟩
theorem UVX12_urgent : UV MX12_urgent RX12 1 := ⟨by decide +kernel, by decide, inR_32 _ (List.mem_of_getElem? (i := 23) rfl), inR_33 _ (List.mem_of_getElem? (i := 0) rfl), inR_1 _ (List.mem_of_getElem? (i := 5) rfl), inR_33 _ (List.mem_of_getElem? (i := 1) rfl)⟩
theorem UVX12_ranked : UV MX12_ranked RX12 1 := ⟨by decide +kernel, by decide, inR_33 _ (List.mem_of_getElem? (i := 3) rfl), inR_33 _ (List.mem_of_getElem? (i := 4) rfl), inR_1 _ (List.mem_of_getElem? (i := 5) rfl), inR_33 _ (List.mem_of_getElem? (i := 5) rfl)⟩
theorem UVX12_isAhead : UV MX12_isAhead RX12 2 := ⟨by decide +kernel, by decide, inR_33 _ (List.mem_of_getElem? (i := 7) rfl), inR_33 _ (List.mem_of_getElem? (i := 8) rfl), inR_1 _ (List.mem_of_getElem? (i := 5) rfl), inR_33 _ (List.mem_of_getElem? (i := 9) rfl)⟩
theorem UVX11_unpaintedPast : UV MX11_unpaintedPast RX11 1 := ⟨by decide +kernel, by decide, inR_33 _ (List.mem_of_getElem? (i := 14) rfl), inR_33 _ (List.mem_of_getElem? (i := 15) rfl), inR_1 _ (List.mem_of_getElem? (i := 2) rfl), inR_33 _ (List.mem_of_getElem? (i := 16) rfl)⟩
theorem UVX1_firstPastBare : UV MX1_firstPastBare RX1 2 := ⟨by decide +kernel, by decide, inR_33 _ (List.mem_of_getElem? (i := 18) rfl), inR_33 _ (List.mem_of_getElem? (i := 19) rfl), inR_2 _ (List.mem_of_getElem? (i := 18) rfl), inR_33 _ (List.mem_of_getElem? (i := 20) rfl)⟩
theorem UVX12_unpaintedPast : UV MX12_unpaintedPast RX12 1 := ⟨by decide +kernel, by decide, inR_34 _ (List.mem_of_getElem? (i := 0) rfl), inR_34 _ (List.mem_of_getElem? (i := 1) rfl), inR_1 _ (List.mem_of_getElem? (i := 5) rfl), inR_34 _ (List.mem_of_getElem? (i := 2) rfl)⟩
theorem UVX12_pastBy : UV MX12_pastBy RX12 2 := ⟨by decide +kernel, by decide, inR_34 _ (List.mem_of_getElem? (i := 4) rfl), inR_34 _ (List.mem_of_getElem? (i := 5) rfl), inR_1 _ (List.mem_of_getElem? (i := 5) rfl), inR_34 _ (List.mem_of_getElem? (i := 6) rfl)⟩
theorem UVX11_coatsNeeded : UV MX11_coatsNeeded RX11 1 := ⟨by decide +kernel, by decide, inR_34 _ (List.mem_of_getElem? (i := 11) rfl), inR_34 _ (List.mem_of_getElem? (i := 12) rfl), inR_1 _ (List.mem_of_getElem? (i := 2) rfl), inR_34 _ (List.mem_of_getElem? (i := 13) rfl)⟩
theorem UVX1_latestCoat : UV MX1_latestCoat RX1 2 := ⟨by decide +kernel, by decide, inR_34 _ (List.mem_of_getElem? (i := 15) rfl), inR_34 _ (List.mem_of_getElem? (i := 16) rfl), inR_2 _ (List.mem_of_getElem? (i := 18) rfl), inR_34 _ (List.mem_of_getElem? (i := 17) rfl)⟩
theorem UVX12_coatsNeeded : UV MX12_coatsNeeded RX12 1 := ⟨by decide +kernel, by decide, inR_34 _ (List.mem_of_getElem? (i := 20) rfl), inR_34 _ (List.mem_of_getElem? (i := 21) rfl), inR_1 _ (List.mem_of_getElem? (i := 5) rfl), inR_34 _ (List.mem_of_getElem? (i := 22) rfl)⟩
theorem USX12_bits : US MX12_bits RX12 1 := ⟨by decide +kernel, by decide, inR_35 _ (List.mem_of_getElem? (i := 0) rfl), inR_1 _ (List.mem_of_getElem? (i := 5) rfl), inR_35 _ (List.mem_of_getElem? (i := 1) rfl)⟩
theorem UVX11_latestPainting : UV MX11_latestPainting RX11 2 := ⟨by decide +kernel, by decide, inR_35 _ (List.mem_of_getElem? (i := 6) rfl), inR_35 _ (List.mem_of_getElem? (i := 7) rfl), inR_1 _ (List.mem_of_getElem? (i := 2) rfl), inR_35 _ (List.mem_of_getElem? (i := 8) rfl)⟩
theorem UVX12_latestPainting : UV MX12_latestPainting RX12 2 := ⟨by decide +kernel, by decide, inR_35 _ (List.mem_of_getElem? (i := 10) rfl), inR_35 _ (List.mem_of_getElem? (i := 11) rfl), inR_1 _ (List.mem_of_getElem? (i := 5) rfl), inR_35 _ (List.mem_of_getElem? (i := 12) rfl)⟩
theorem UVX12_latest : UV MX12_latest RX12 1 := ⟨by decide +kernel, by decide, inR_35 _ (List.mem_of_getElem? (i := 14) rfl), inR_35 _ (List.mem_of_getElem? (i := 15) rfl), inR_1 _ (List.mem_of_getElem? (i := 5) rfl), inR_35 _ (List.mem_of_getElem? (i := 16) rfl)⟩
theorem UVX11_harmlessRate : UV MX11_harmlessRate RX11 1 := ⟨by decide +kernel, by decide, inR_35 _ (List.mem_of_getElem? (i := 21) rfl), inR_35 _ (List.mem_of_getElem? (i := 22) rfl), inR_1 _ (List.mem_of_getElem? (i := 2) rfl), inR_35 _ (List.mem_of_getElem? (i := 23) rfl)⟩
theorem UVX12_harmlessRate : UV MX12_harmlessRate RX12 1 := ⟨by decide +kernel, by decide, inR_36 _ (List.mem_of_getElem? (i := 1) rfl), inR_36 _ (List.mem_of_getElem? (i := 2) rfl), inR_1 _ (List.mem_of_getElem? (i := 5) rfl), inR_36 _ (List.mem_of_getElem? (i := 3) rfl)⟩
theorem UVX11_effort : UV MX11_effort RX11 2 := ⟨by decide +kernel, by decide, inR_36 _ (List.mem_of_getElem? (i := 8) rfl), inR_36 _ (List.mem_of_getElem? (i := 9) rfl), inR_1 _ (List.mem_of_getElem? (i := 2) rfl), inR_36 _ (List.mem_of_getElem? (i := 10) rfl)⟩
theorem UVX6_spanEffort : UV MX6_spanEffort RX6 2 := ⟨by decide +kernel, by decide, inR_36 _ (List.mem_of_getElem? (i := 12) rfl), inR_36 _ (List.mem_of_getElem? (i := 13) rfl), inR_2 _ (List.mem_of_getElem? (i := 21) rfl), inR_36 _ (List.mem_of_getElem? (i := 14) rfl)⟩
theorem UVX12_effort : UV MX12_effort RX12 2 := ⟨by decide +kernel, by decide, inR_36 _ (List.mem_of_getElem? (i := 16) rfl), inR_36 _ (List.mem_of_getElem? (i := 17) rfl), inR_1 _ (List.mem_of_getElem? (i := 5) rfl), inR_36 _ (List.mem_of_getElem? (i := 18) rfl)⟩
theorem UVX12_effortOf : UV MX12_effortOf RX12 2 := ⟨by decide +kernel, by decide, inR_36 _ (List.mem_of_getElem? (i := 20) rfl), inR_36 _ (List.mem_of_getElem? (i := 21) rfl), inR_1 _ (List.mem_of_getElem? (i := 5) rfl), inR_36 _ (List.mem_of_getElem? (i := 22) rfl)⟩
theorem UVX11_capacity : UV MX11_capacity RX11 2 := ⟨by decide +kernel, by decide, inR_37 _ (List.mem_of_getElem? (i := 3) rfl), inR_37 _ (List.mem_of_getElem? (i := 4) rfl), inR_1 _ (List.mem_of_getElem? (i := 2) rfl), inR_37 _ (List.mem_of_getElem? (i := 5) rfl)⟩
theorem UVX11_checkGang : UV MX11_checkGang RX11 1 := ⟨by decide +kernel, by decide, inR_37 _ (List.mem_of_getElem? (i := 7) rfl), inR_37 _ (List.mem_of_getElem? (i := 8) rfl), inR_1 _ (List.mem_of_getElem? (i := 2) rfl), inR_37 _ (List.mem_of_getElem? (i := 9) rfl)⟩
theorem UVX1_gangCapacity : UV MX1_gangCapacity RX1 2 := ⟨by decide +kernel, by decide, inR_37 _ (List.mem_of_getElem? (i := 11) rfl), inR_37 _ (List.mem_of_getElem? (i := 12) rfl), inR_2 _ (List.mem_of_getElem? (i := 18) rfl), inR_37 _ (List.mem_of_getElem? (i := 13) rfl)⟩
theorem UVX12_capacity : UV MX12_capacity RX12 2 := ⟨by decide +kernel, by decide, inR_37 _ (List.mem_of_getElem? (i := 15) rfl), inR_37 _ (List.mem_of_getElem? (i := 16) rfl), inR_1 _ (List.mem_of_getElem? (i := 5) rfl), inR_37 _ (List.mem_of_getElem? (i := 17) rfl)⟩
theorem UVX12_goodGang : UV MX12_goodGang RX12 2 := ⟨by decide +kernel, by decide, inR_37 _ (List.mem_of_getElem? (i := 19) rfl), inR_37 _ (List.mem_of_getElem? (i := 20) rfl), inR_1 _ (List.mem_of_getElem? (i := 5) rfl), inR_37 _ (List.mem_of_getElem? (i := 21) rfl)⟩
theorem UVX12_isGang : UV MX12_isGang RX12 1 := ⟨by decide +kernel, by decide, inR_37 _ (List.mem_of_getElem? (i := 23) rfl), inR_38 _ (List.mem_of_getElem? (i := 0) rfl), inR_1 _ (List.mem_of_getElem? (i := 5) rfl), inR_38 _ (List.mem_of_getElem? (i := 1) rfl)⟩
theorem UVX12_capacityOf : UV MX12_capacityOf RX12 2 := ⟨by decide +kernel, by decide, inR_38 _ (List.mem_of_getElem? (i := 3) rfl), inR_38 _ (List.mem_of_getElem? (i := 4) rfl), inR_1 _ (List.mem_of_getElem? (i := 5) rfl), inR_38 _ (List.mem_of_getElem? (i := 5) rfl)⟩
theorem UVX12_propertyOf : UV MX12_propertyOf RX12 2 := ⟨by decide +kernel, by decide, inR_38 _ (List.mem_of_getElem? (i := 7) rfl), inR_38 _ (List.mem_of_getElem? (i := 8) rfl), inR_1 _ (List.mem_of_getElem? (i := 5) rfl), inR_38 _ (List.mem_of_getElem? (i := 9) rfl)⟩
theorem UVX11_loadOf : UV MX11_loadOf RX11 2 := ⟨by decide +kernel, by decide, inR_38 _ (List.mem_of_getElem? (i := 14) rfl), inR_38 _ (List.mem_of_getElem? (i := 15) rfl), inR_1 _ (List.mem_of_getElem? (i := 2) rfl), inR_38 _ (List.mem_of_getElem? (i := 16) rfl)⟩
theorem UVX6_gangLoad : UV MX6_gangLoad RX6 2 := ⟨by decide +kernel, by decide, inR_38 _ (List.mem_of_getElem? (i := 18) rfl), inR_38 _ (List.mem_of_getElem? (i := 19) rfl), inR_2 _ (List.mem_of_getElem? (i := 21) rfl), inR_38 _ (List.mem_of_getElem? (i := 20) rfl)⟩
theorem UVX6_painter : UV MX6_painter RX6 2 := ⟨by decide +kernel, by decide, inR_38 _ (List.mem_of_getElem? (i := 22) rfl), inR_38 _ (List.mem_of_getElem? (i := 23) rfl), inR_2 _ (List.mem_of_getElem? (i := 21) rfl), inR_39 _ (List.mem_of_getElem? (i := 0) rfl)⟩
theorem UVX12_loadOf : UV MX12_loadOf RX12 2 := ⟨by decide +kernel, by decide, inR_39 _ (List.mem_of_getElem? (i := 3) rfl), inR_39 _ (List.mem_of_getElem? (i := 4) rfl), inR_1 _ (List.mem_of_getElem? (i := 5) rfl), inR_39 _ (List.mem_of_getElem? (i := 5) rfl)⟩
theorem UVX12_loadIn : UV MX12_loadIn RX12 2 := ⟨by decide +kernel, by decide, inR_39 _ (List.mem_of_getElem? (i := 7) rfl), inR_39 _ (List.mem_of_getElem? (i := 8) rfl), inR_1 _ (List.mem_of_getElem? (i := 5) rfl), inR_39 _ (List.mem_of_getElem? (i := 9) rfl)⟩
theorem UVX11_gangOf : UV MX11_gangOf RX11 2 := ⟨by decide +kernel, by decide, inR_39 _ (List.mem_of_getElem? (i := 14) rfl), inR_39 _ (List.mem_of_getElem? (i := 15) rfl), inR_1 _ (List.mem_of_getElem? (i := 2) rfl), inR_39 _ (List.mem_of_getElem? (i := 16) rfl)⟩
theorem UVX12_gangOf : UV MX12_gangOf RX12 2 := ⟨by decide +kernel, by decide, inR_39 _ (List.mem_of_getElem? (i := 20) rfl), inR_39 _ (List.mem_of_getElem? (i := 21) rfl), inR_1 _ (List.mem_of_getElem? (i := 5) rfl), inR_39 _ (List.mem_of_getElem? (i := 22) rfl)⟩
theorem USX12_orNotFound : US MX12_orNotFound RX12 1 := ⟨by decide +kernel, by decide, inR_40 _ (List.mem_of_getElem? (i := 0) rfl), inR_1 _ (List.mem_of_getElem? (i := 5) rfl), inR_40 _ (List.mem_of_getElem? (i := 1) rfl)⟩
theorem UVX11_paintedSpans : UV MX11_paintedSpans RX11 1 := ⟨by decide +kernel, by decide, inR_40 _ (List.mem_of_getElem? (i := 6) rfl), inR_40 _ (List.mem_of_getElem? (i := 7) rfl), inR_1 _ (List.mem_of_getElem? (i := 2) rfl), inR_40 _ (List.mem_of_getElem? (i := 8) rfl)⟩
theorem UVX12_paintedSpans : UV MX12_paintedSpans RX12 1 := ⟨by decide +kernel, by decide, inR_40 _ (List.mem_of_getElem? (i := 10) rfl), inR_40 _ (List.mem_of_getElem? (i := 11) rfl), inR_1 _ (List.mem_of_getElem? (i := 5) rfl), inR_40 _ (List.mem_of_getElem? (i := 12) rfl)⟩
theorem UVX11_lanesShut : UV MX11_lanesShut RX11 1 := ⟨by decide +kernel, by decide, inR_40 _ (List.mem_of_getElem? (i := 17) rfl), inR_40 _ (List.mem_of_getElem? (i := 18) rfl), inR_1 _ (List.mem_of_getElem? (i := 2) rfl), inR_40 _ (List.mem_of_getElem? (i := 19) rfl)⟩
theorem UVX6_shutLanes : UV MX6_shutLanes RX6 1 := ⟨by decide +kernel, by decide, inR_40 _ (List.mem_of_getElem? (i := 21) rfl), inR_40 _ (List.mem_of_getElem? (i := 22) rfl), inR_2 _ (List.mem_of_getElem? (i := 21) rfl), inR_40 _ (List.mem_of_getElem? (i := 23) rfl)⟩
theorem UVX12_lanesShut : UV MX12_lanesShut RX12 1 := ⟨by decide +kernel, by decide, inR_41 _ (List.mem_of_getElem? (i := 1) rfl), inR_41 _ (List.mem_of_getElem? (i := 2) rfl), inR_1 _ (List.mem_of_getElem? (i := 5) rfl), inR_41 _ (List.mem_of_getElem? (i := 3) rfl)⟩
theorem UVX12_shutIn : UV MX12_shutIn RX12 1 := ⟨by decide +kernel, by decide, inR_41 _ (List.mem_of_getElem? (i := 5) rfl), inR_41 _ (List.mem_of_getElem? (i := 6) rfl), inR_1 _ (List.mem_of_getElem? (i := 5) rfl), inR_41 _ (List.mem_of_getElem? (i := 7) rfl)⟩
theorem UVX11_paintings : UV MX11_paintings RX11 0 := ⟨by decide +kernel, by decide, inR_41 _ (List.mem_of_getElem? (i := 9) rfl), inR_41 _ (List.mem_of_getElem? (i := 10) rfl), inR_1 _ (List.mem_of_getElem? (i := 2) rfl), inR_41 _ (List.mem_of_getElem? (i := 11) rfl)⟩
theorem UVX6_countPaintings : UV MX6_countPaintings RX6 0 := ⟨by decide +kernel, by decide, inR_41 _ (List.mem_of_getElem? (i := 13) rfl), inR_41 _ (List.mem_of_getElem? (i := 14) rfl), inR_2 _ (List.mem_of_getElem? (i := 21) rfl), inR_41 _ (List.mem_of_getElem? (i := 15) rfl)⟩
theorem UVX12_paintings : UV MX12_paintings RX12 0 := ⟨by decide +kernel, by decide, inR_41 _ (List.mem_of_getElem? (i := 17) rfl), inR_41 _ (List.mem_of_getElem? (i := 18) rfl), inR_1 _ (List.mem_of_getElem? (i := 5) rfl), inR_41 _ (List.mem_of_getElem? (i := 19) rfl)⟩
theorem UVX11_daysUsed : UV MX11_daysUsed RX11 2 := ⟨by decide +kernel, by decide, inR_42 _ (List.mem_of_getElem? (i := 0) rfl), inR_42 _ (List.mem_of_getElem? (i := 1) rfl), inR_1 _ (List.mem_of_getElem? (i := 2) rfl), inR_42 _ (List.mem_of_getElem? (i := 2) rfl)⟩
theorem UVX6_gangDays : UV MX6_gangDays RX6 2 := ⟨by decide +kernel, by decide, inR_42 _ (List.mem_of_getElem? (i := 4) rfl), inR_42 _ (List.mem_of_getElem? (i := 5) rfl), inR_2 _ (List.mem_of_getElem? (i := 21) rfl), inR_42 _ (List.mem_of_getElem? (i := 6) rfl)⟩
theorem UVX1_daysOf : UV MX1_daysOf RX1 2 := ⟨by decide +kernel, by decide, inR_42 _ (List.mem_of_getElem? (i := 8) rfl), inR_42 _ (List.mem_of_getElem? (i := 9) rfl), inR_2 _ (List.mem_of_getElem? (i := 18) rfl), inR_42 _ (List.mem_of_getElem? (i := 10) rfl)⟩
theorem UVX12_daysUsed : UV MX12_daysUsed RX12 2 := ⟨by decide +kernel, by decide, inR_42 _ (List.mem_of_getElem? (i := 12) rfl), inR_42 _ (List.mem_of_getElem? (i := 13) rfl), inR_1 _ (List.mem_of_getElem? (i := 5) rfl), inR_42 _ (List.mem_of_getElem? (i := 14) rfl)⟩
theorem UVX12_daysIn : UV MX12_daysIn RX12 2 := ⟨by decide +kernel, by decide, inR_42 _ (List.mem_of_getElem? (i := 16) rfl), inR_42 _ (List.mem_of_getElem? (i := 17) rfl), inR_1 _ (List.mem_of_getElem? (i := 5) rfl), inR_42 _ (List.mem_of_getElem? (i := 18) rfl)⟩
theorem UVX12_daysOf : UV MX12_daysOf RX12 2 := ⟨by decide +kernel, by decide, inR_42 _ (List.mem_of_getElem? (i := 20) rfl), inR_42 _ (List.mem_of_getElem? (i := 21) rfl), inR_1 _ (List.mem_of_getElem? (i := 5) rfl), inR_42 _ (List.mem_of_getElem? (i := 22) rfl)⟩
theorem UVX11_laneDays : UV MX11_laneDays RX11 2 := ⟨by decide +kernel, by decide, inR_43 _ (List.mem_of_getElem? (i := 3) rfl), inR_43 _ (List.mem_of_getElem? (i := 4) rfl), inR_1 _ (List.mem_of_getElem? (i := 2) rfl), inR_43 _ (List.mem_of_getElem? (i := 5) rfl)⟩
theorem UVX11_checkLane : UV MX11_checkLane RX11 1 := ⟨by decide +kernel, by decide, inR_43 _ (List.mem_of_getElem? (i := 7) rfl), inR_43 _ (List.mem_of_getElem? (i := 8) rfl), inR_1 _ (List.mem_of_getElem? (i := 2) rfl), inR_43 _ (List.mem_of_getElem? (i := 9) rfl)⟩
theorem UVX6_daysOnLane : UV MX6_daysOnLane RX6 2 := ⟨by decide +kernel, by decide, inR_43 _ (List.mem_of_getElem? (i := 11) rfl), inR_43 _ (List.mem_of_getElem? (i := 12) rfl), inR_2 _ (List.mem_of_getElem? (i := 21) rfl), inR_43 _ (List.mem_of_getElem? (i := 13) rfl)⟩
theorem UVX12_laneDays : UV MX12_laneDays RX12 2 := ⟨by decide +kernel, by decide, inR_43 _ (List.mem_of_getElem? (i := 15) rfl), inR_43 _ (List.mem_of_getElem? (i := 16) rfl), inR_1 _ (List.mem_of_getElem? (i := 5) rfl), inR_43 _ (List.mem_of_getElem? (i := 17) rfl)⟩
theorem UVX12_isLane : UV MX12_isLane RX12 1 := ⟨by decide +kernel, by decide, inR_43 _ (List.mem_of_getElem? (i := 19) rfl), inR_43 _ (List.mem_of_getElem? (i := 20) rfl), inR_1 _ (List.mem_of_getElem? (i := 5) rfl), inR_43 _ (List.mem_of_getElem? (i := 21) rfl)⟩
theorem UVX12_laneIn : UV MX12_laneIn RX12 2 := ⟨by decide +kernel, by decide, inR_43 _ (List.mem_of_getElem? (i := 23) rfl), inR_44 _ (List.mem_of_getElem? (i := 0) rfl), inR_1 _ (List.mem_of_getElem? (i := 5) rfl), inR_44 _ (List.mem_of_getElem? (i := 1) rfl)⟩
theorem UVX11_trafficLoss : UV MX11_trafficLoss RX11 1 := ⟨by decide +kernel, by decide, inR_44 _ (List.mem_of_getElem? (i := 6) rfl), inR_44 _ (List.mem_of_getElem? (i := 7) rfl), inR_1 _ (List.mem_of_getElem? (i := 2) rfl), inR_44 _ (List.mem_of_getElem? (i := 8) rfl)⟩
theorem UVX6_lossIn : UV MX6_lossIn RX6 1 := ⟨by decide +kernel, by decide, inR_44 _ (List.mem_of_getElem? (i := 10) rfl), inR_44 _ (List.mem_of_getElem? (i := 11) rfl), inR_2 _ (List.mem_of_getElem? (i := 21) rfl), inR_44 _ (List.mem_of_getElem? (i := 12) rfl)⟩
theorem UVX12_trafficLoss : UV MX12_trafficLoss RX12 1 := ⟨by decide +kernel, by decide, inR_44 _ (List.mem_of_getElem? (i := 15) rfl), inR_44 _ (List.mem_of_getElem? (i := 16) rfl), inR_1 _ (List.mem_of_getElem? (i := 5) rfl), inR_44 _ (List.mem_of_getElem? (i := 17) rfl)⟩
theorem UVX12_lossIn : UV MX12_lossIn RX12 1 := ⟨by decide +kernel, by decide, inR_44 _ (List.mem_of_getElem? (i := 19) rfl), inR_44 _ (List.mem_of_getElem? (i := 20) rfl), inR_1 _ (List.mem_of_getElem? (i := 5) rfl), inR_44 _ (List.mem_of_getElem? (i := 21) rfl)⟩
theorem UVX11_wages : UV MX11_wages RX11 1 := ⟨by decide +kernel, by decide, inR_45 _ (List.mem_of_getElem? (i := 2) rfl), inR_45 _ (List.mem_of_getElem? (i := 3) rfl), inR_1 _ (List.mem_of_getElem? (i := 2) rfl), inR_45 _ (List.mem_of_getElem? (i := 4) rfl)⟩
theorem UVX6_wagesIn : UV MX6_wagesIn RX6 1 := ⟨by decide +kernel, by decide, inR_45 _ (List.mem_of_getElem? (i := 6) rfl), inR_45 _ (List.mem_of_getElem? (i := 7) rfl), inR_2 _ (List.mem_of_getElem? (i := 21) rfl), inR_45 _ (List.mem_of_getElem? (i := 8) rfl)⟩
theorem UVX12_wages : UV MX12_wages RX12 1 := ⟨by decide +kernel, by decide, inR_45 _ (List.mem_of_getElem? (i := 11) rfl), inR_45 _ (List.mem_of_getElem? (i := 12) rfl), inR_1 _ (List.mem_of_getElem? (i := 5) rfl), inR_45 _ (List.mem_of_getElem? (i := 13) rfl)⟩
theorem UVX12_wagesIn : UV MX12_wagesIn RX12 1 := ⟨by decide +kernel, by decide, inR_45 _ (List.mem_of_getElem? (i := 15) rfl), inR_45 _ (List.mem_of_getElem? (i := 16) rfl), inR_1 _ (List.mem_of_getElem? (i := 5) rfl), inR_45 _ (List.mem_of_getElem? (i := 17) rfl)⟩
theorem UVX11_totalWages : UV MX11_totalWages RX11 0 := ⟨by decide +kernel, by decide, inR_45 _ (List.mem_of_getElem? (i := 19) rfl), inR_45 _ (List.mem_of_getElem? (i := 20) rfl), inR_1 _ (List.mem_of_getElem? (i := 2) rfl), inR_45 _ (List.mem_of_getElem? (i := 21) rfl)⟩
theorem UVX12_totalWages : UV MX12_totalWages RX12 0 := ⟨by decide +kernel, by decide, inR_45 _ (List.mem_of_getElem? (i := 23) rfl), inR_46 _ (List.mem_of_getElem? (i := 0) rfl), inR_1 _ (List.mem_of_getElem? (i := 5) rfl), inR_46 _ (List.mem_of_getElem? (i := 1) rfl)⟩
theorem UVX11_totalLoss : UV MX11_totalLoss RX11 0 := ⟨by decide +kernel, by decide, inR_46 _ (List.mem_of_getElem? (i := 3) rfl), inR_46 _ (List.mem_of_getElem? (i := 4) rfl), inR_1 _ (List.mem_of_getElem? (i := 2) rfl), inR_46 _ (List.mem_of_getElem? (i := 5) rfl)⟩
theorem UVX12_totalLoss : UV MX12_totalLoss RX12 0 := ⟨by decide +kernel, by decide, inR_46 _ (List.mem_of_getElem? (i := 7) rfl), inR_46 _ (List.mem_of_getElem? (i := 8) rfl), inR_1 _ (List.mem_of_getElem? (i := 5) rfl), inR_46 _ (List.mem_of_getElem? (i := 9) rfl)⟩
theorem UVX11_busiestYear : UV MX11_busiestYear RX11 0 := ⟨by decide +kernel, by decide, inR_46 _ (List.mem_of_getElem? (i := 11) rfl), inR_46 _ (List.mem_of_getElem? (i := 12) rfl), inR_1 _ (List.mem_of_getElem? (i := 2) rfl), inR_46 _ (List.mem_of_getElem? (i := 13) rfl)⟩
theorem UVX12_busiestYear : UV MX12_busiestYear RX12 0 := ⟨by decide +kernel, by decide, inR_46 _ (List.mem_of_getElem? (i := 15) rfl), inR_46 _ (List.mem_of_getElem? (i := 16) rfl), inR_1 _ (List.mem_of_getElem? (i := 5) rfl), inR_46 _ (List.mem_of_getElem? (i := 17) rfl)⟩
theorem UVX11_idleDays : UV MX11_idleDays RX11 1 := ⟨by decide +kernel, by decide, inR_46 _ (List.mem_of_getElem? (i := 22) rfl), inR_46 _ (List.mem_of_getElem? (i := 23) rfl), inR_1 _ (List.mem_of_getElem? (i := 2) rfl), inR_47 _ (List.mem_of_getElem? (i := 0) rfl)⟩
theorem UVX12_idleDays : UV MX12_idleDays RX12 1 := ⟨by decide +kernel, by decide, inR_47 _ (List.mem_of_getElem? (i := 3) rfl), inR_47 _ (List.mem_of_getElem? (i := 4) rfl), inR_1 _ (List.mem_of_getElem? (i := 5) rfl), inR_47 _ (List.mem_of_getElem? (i := 5) rfl)⟩
theorem UVX11_overloads : UV MX11_overloads RX11 0 := ⟨by decide +kernel, by decide, inR_47 _ (List.mem_of_getElem? (i := 7) rfl), inR_47 _ (List.mem_of_getElem? (i := 8) rfl), inR_1 _ (List.mem_of_getElem? (i := 2) rfl), inR_47 _ (List.mem_of_getElem? (i := 9) rfl)⟩
theorem UVX6_countOverloads : UV MX6_countOverloads RX6 0 := ⟨by decide +kernel, by decide, inR_47 _ (List.mem_of_getElem? (i := 11) rfl), inR_47 _ (List.mem_of_getElem? (i := 12) rfl), inR_2 _ (List.mem_of_getElem? (i := 21) rfl), inR_47 _ (List.mem_of_getElem? (i := 13) rfl)⟩
theorem UVX6_isOverloaded : UV MX6_isOverloaded RX6 2 := ⟨by decide +kernel, by decide, inR_47 _ (List.mem_of_getElem? (i := 15) rfl), inR_47 _ (List.mem_of_getElem? (i := 16) rfl), inR_2 _ (List.mem_of_getElem? (i := 21) rfl), inR_47 _ (List.mem_of_getElem? (i := 17) rfl)⟩
theorem UVX12_overloads : UV MX12_overloads RX12 0 := ⟨by decide +kernel, by decide, inR_47 _ (List.mem_of_getElem? (i := 21) rfl), inR_47 _ (List.mem_of_getElem? (i := 22) rfl), inR_1 _ (List.mem_of_getElem? (i := 5) rfl), inR_47 _ (List.mem_of_getElem? (i := 23) rfl)⟩
theorem UVX12_countOver : UV MX12_countOver RX12 0 := ⟨by decide +kernel, by decide, inR_48 _ (List.mem_of_getElem? (i := 1) rfl), inR_48 _ (List.mem_of_getElem? (i := 2) rfl), inR_1 _ (List.mem_of_getElem? (i := 5) rfl), inR_48 _ (List.mem_of_getElem? (i := 3) rfl)⟩
theorem UVX12_isOver : UV MX12_isOver RX12 2 := ⟨by decide +kernel, by decide, inR_48 _ (List.mem_of_getElem? (i := 5) rfl), inR_48 _ (List.mem_of_getElem? (i := 6) rfl), inR_1 _ (List.mem_of_getElem? (i := 5) rfl), inR_48 _ (List.mem_of_getElem? (i := 7) rfl)⟩
theorem UVX11_firstOverload : UV MX11_firstOverload RX11 0 := ⟨by decide +kernel, by decide, inR_48 _ (List.mem_of_getElem? (i := 9) rfl), inR_48 _ (List.mem_of_getElem? (i := 10) rfl), inR_1 _ (List.mem_of_getElem? (i := 2) rfl), inR_48 _ (List.mem_of_getElem? (i := 11) rfl)⟩
theorem UVX12_firstOverload : UV MX12_firstOverload RX12 0 := ⟨by decide +kernel, by decide, inR_48 _ (List.mem_of_getElem? (i := 14) rfl), inR_48 _ (List.mem_of_getElem? (i := 15) rfl), inR_1 _ (List.mem_of_getElem? (i := 5) rfl), inR_48 _ (List.mem_of_getElem? (i := 16) rfl)⟩
theorem UVX11_refusal : UV MX11_refusal RX11 3 := ⟨by decide +kernel, by decide, inR_48 _ (List.mem_of_getElem? (i := 21) rfl), inR_48 _ (List.mem_of_getElem? (i := 22) rfl), inR_1 _ (List.mem_of_getElem? (i := 2) rfl), inR_48 _ (List.mem_of_getElem? (i := 23) rfl)⟩
theorem UVX6_reasonAgainst : UV MX6_reasonAgainst RX6 3 := ⟨by decide +kernel, by decide, inR_49 _ (List.mem_of_getElem? (i := 1) rfl), inR_49 _ (List.mem_of_getElem? (i := 2) rfl), inR_2 _ (List.mem_of_getElem? (i := 21) rfl), inR_49 _ (List.mem_of_getElem? (i := 3) rfl)⟩
theorem UVX1_isClosed : UV MX1_isClosed RX1 2 := ⟨by decide +kernel, by decide, inR_49 _ (List.mem_of_getElem? (i := 5) rfl), inR_49 _ (List.mem_of_getElem? (i := 6) rfl), inR_2 _ (List.mem_of_getElem? (i := 18) rfl), inR_49 _ (List.mem_of_getElem? (i := 7) rfl)⟩
theorem USJ6_bitCount_0f7a4 : US MJ6_bitCount_0f7a4 RJ6 1 := ⟨by decide +kernel, by decide, inR_49 _ (List.mem_of_getElem? (i := 10) rfl), inR_49 _ (List.mem_of_getElem? (i := 11) rfl), inR_49 _ (List.mem_of_getElem? (i := 12) rfl)⟩
theorem UVX12_refusal : UV MX12_refusal RX12 3 := ⟨by decide +kernel, by decide, inR_49 _ (List.mem_of_getElem? (i := 17) rfl), inR_49 _ (List.mem_of_getElem? (i := 18) rfl), inR_1 _ (List.mem_of_getElem? (i := 5) rfl), inR_49 _ (List.mem_of_getElem? (i := 19) rfl)⟩
theorem UVX12_goodPainting : UV MX12_goodPainting RX12 3 := ⟨by decide +kernel, by decide, inR_49 _ (List.mem_of_getElem? (i := 21) rfl), inR_49 _ (List.mem_of_getElem? (i := 22) rfl), inR_1 _ (List.mem_of_getElem? (i := 5) rfl), inR_49 _ (List.mem_of_getElem? (i := 23) rfl)⟩
theorem UVX12_refusalOf : UV MX12_refusalOf RX12 3 := ⟨by decide +kernel, by decide, inR_50 _ (List.mem_of_getElem? (i := 1) rfl), inR_50 _ (List.mem_of_getElem? (i := 2) rfl), inR_1 _ (List.mem_of_getElem? (i := 5) rfl), inR_50 _ (List.mem_of_getElem? (i := 3) rfl)⟩
theorem UVX11_possibleGangs : UV MX11_possibleGangs RX11 2 := ⟨by decide +kernel, by decide, inR_50 _ (List.mem_of_getElem? (i := 8) rfl), inR_50 _ (List.mem_of_getElem? (i := 9) rfl), inR_1 _ (List.mem_of_getElem? (i := 2) rfl), inR_50 _ (List.mem_of_getElem? (i := 10) rfl)⟩
theorem UVX12_possibleGangs : UV MX12_possibleGangs RX12 2 := ⟨by decide +kernel, by decide, inR_50 _ (List.mem_of_getElem? (i := 12) rfl), inR_50 _ (List.mem_of_getElem? (i := 13) rfl), inR_1 _ (List.mem_of_getElem? (i := 5) rfl), inR_50 _ (List.mem_of_getElem? (i := 14) rfl)⟩
theorem UVX11_firstPossible : UV MX11_firstPossible RX11 1 := ⟨by decide +kernel, by decide, inR_50 _ (List.mem_of_getElem? (i := 19) rfl), inR_50 _ (List.mem_of_getElem? (i := 20) rfl), inR_1 _ (List.mem_of_getElem? (i := 2) rfl), inR_50 _ (List.mem_of_getElem? (i := 21) rfl)⟩
theorem UVX12_firstPossible : UV MX12_firstPossible RX12 1 := ⟨by decide +kernel, by decide, inR_50 _ (List.mem_of_getElem? (i := 23) rfl), inR_51 _ (List.mem_of_getElem? (i := 0) rfl), inR_1 _ (List.mem_of_getElem? (i := 5) rfl), inR_51 _ (List.mem_of_getElem? (i := 1) rfl)⟩
theorem UVX11_bestPainting : UV MX11_bestPainting RX11 1 := ⟨by decide +kernel, by decide, inR_51 _ (List.mem_of_getElem? (i := 6) rfl), inR_51 _ (List.mem_of_getElem? (i := 7) rfl), inR_1 _ (List.mem_of_getElem? (i := 2) rfl), inR_51 _ (List.mem_of_getElem? (i := 8) rfl)⟩
theorem UVX11_pastCountWith : UV MX11_pastCountWith RX11 3 := ⟨by decide +kernel, by decide, inR_51 _ (List.mem_of_getElem? (i := 10) rfl), inR_51 _ (List.mem_of_getElem? (i := 11) rfl), inR_1 _ (List.mem_of_getElem? (i := 2) rfl), inR_51 _ (List.mem_of_getElem? (i := 12) rfl)⟩
theorem UVX12_bestPainting : UV MX12_bestPainting RX12 1 := ⟨by decide +kernel, by decide, inR_51 _ (List.mem_of_getElem? (i := 15) rfl), inR_51 _ (List.mem_of_getElem? (i := 16) rfl), inR_1 _ (List.mem_of_getElem? (i := 5) rfl), inR_51 _ (List.mem_of_getElem? (i := 17) rfl)⟩
theorem UVX12_setPainter : UV MX12_setPainter RX12 3 := ⟨by decide +kernel, by decide, inR_51 _ (List.mem_of_getElem? (i := 19) rfl), inR_51 _ (List.mem_of_getElem? (i := 20) rfl), inR_1 _ (List.mem_of_getElem? (i := 5) rfl), inR_51 _ (List.mem_of_getElem? (i := 21) rfl)⟩
theorem UVX11_shutYears : UV MX11_shutYears RX11 1 := ⟨by decide +kernel, by decide, inR_52 _ (List.mem_of_getElem? (i := 2) rfl), inR_52 _ (List.mem_of_getElem? (i := 3) rfl), inR_1 _ (List.mem_of_getElem? (i := 2) rfl), inR_52 _ (List.mem_of_getElem? (i := 4) rfl)⟩
theorem UVX12_shutYears : UV MX12_shutYears RX12 1 := ⟨by decide +kernel, by decide, inR_52 _ (List.mem_of_getElem? (i := 6) rfl), inR_52 _ (List.mem_of_getElem? (i := 7) rfl), inR_1 _ (List.mem_of_getElem? (i := 5) rfl), inR_52 _ (List.mem_of_getElem? (i := 8) rfl)⟩
theorem UVX11_needlessPaintings : UV MX11_needlessPaintings RX11 1 := ⟨by decide +kernel, by decide, inR_52 _ (List.mem_of_getElem? (i := 13) rfl), inR_52 _ (List.mem_of_getElem? (i := 14) rfl), inR_1 _ (List.mem_of_getElem? (i := 2) rfl), inR_52 _ (List.mem_of_getElem? (i := 15) rfl)⟩
theorem UVX12_needlessPaintings : UV MX12_needlessPaintings RX12 1 := ⟨by decide +kernel, by decide, inR_52 _ (List.mem_of_getElem? (i := 17) rfl), inR_52 _ (List.mem_of_getElem? (i := 18) rfl), inR_1 _ (List.mem_of_getElem? (i := 5) rfl), inR_52 _ (List.mem_of_getElem? (i := 19) rfl)⟩
theorem UVX11_sufficientSpeed : UV MX11_sufficientSpeed RX11 1 := ⟨by decide +kernel, by decide, inR_53 _ (List.mem_of_getElem? (i := 0) rfl), inR_53 _ (List.mem_of_getElem? (i := 1) rfl), inR_1 _ (List.mem_of_getElem? (i := 2) rfl), inR_53 _ (List.mem_of_getElem? (i := 2) rfl)⟩
theorem UVX6_canCopeAt : UV MX6_canCopeAt RX6 2 := ⟨by decide +kernel, by decide, inR_53 _ (List.mem_of_getElem? (i := 4) rfl), inR_53 _ (List.mem_of_getElem? (i := 5) rfl), inR_2 _ (List.mem_of_getElem? (i := 21) rfl), inR_53 _ (List.mem_of_getElem? (i := 6) rfl)⟩
theorem UVX12_sufficientSpeed : UV MX12_sufficientSpeed RX12 1 := ⟨by decide +kernel, by decide, inR_53 _ (List.mem_of_getElem? (i := 8) rfl), inR_53 _ (List.mem_of_getElem? (i := 9) rfl), inR_1 _ (List.mem_of_getElem? (i := 5) rfl), inR_53 _ (List.mem_of_getElem? (i := 10) rfl)⟩
theorem UVX11_paint : UV MX11_paint RX11 3 := ⟨by decide +kernel, by decide, inR_53 _ (List.mem_of_getElem? (i := 15) rfl), inR_53 _ (List.mem_of_getElem? (i := 16) rfl), inR_1 _ (List.mem_of_getElem? (i := 2) rfl), inR_53 _ (List.mem_of_getElem? (i := 17) rfl)⟩
theorem UVX11_remember : UV MX11_remember RX11 0 := ⟨by decide +kernel, by decide, inR_53 _ (List.mem_of_getElem? (i := 20) rfl), inR_53 _ (List.mem_of_getElem? (i := 21) rfl), inR_1 _ (List.mem_of_getElem? (i := 2) rfl), inR_53 _ (List.mem_of_getElem? (i := 22) rfl)⟩
theorem UVX2_keep : UV MX2_keep RX2 2 := ⟨by decide +kernel, by decide, inR_54 _ (List.mem_of_getElem? (i := 0) rfl), inR_54 _ (List.mem_of_getElem? (i := 1) rfl), inR_2 _ (List.mem_of_getElem? (i := 4) rfl), inR_54 _ (List.mem_of_getElem? (i := 2) rfl)⟩
theorem UVX1_saveTo : UV MX1_saveTo RX1 1 := ⟨by decide +kernel, by decide, inR_54 _ (List.mem_of_getElem? (i := 5) rfl), inR_54 _ (List.mem_of_getElem? (i := 6) rfl), inR_2 _ (List.mem_of_getElem? (i := 18) rfl), inR_54 _ (List.mem_of_getElem? (i := 7) rfl)⟩
theorem UVX6_saveTo : UV MX6_saveTo RX6 1 := ⟨by decide +kernel, by decide, inR_54 _ (List.mem_of_getElem? (i := 13) rfl), inR_54 _ (List.mem_of_getElem? (i := 14) rfl), inR_2 _ (List.mem_of_getElem? (i := 21) rfl), inR_54 _ (List.mem_of_getElem? (i := 15) rfl)⟩
theorem UVX12_paint : UV MX12_paint RX12 3 := ⟨by decide +kernel, by decide, inR_54 _ (List.mem_of_getElem? (i := 18) rfl), inR_54 _ (List.mem_of_getElem? (i := 19) rfl), inR_1 _ (List.mem_of_getElem? (i := 5) rfl), inR_54 _ (List.mem_of_getElem? (i := 20) rfl)⟩
theorem UVX12_remember : UV MX12_remember RX12 0 := ⟨by decide +kernel, by decide, inR_54 _ (List.mem_of_getElem? (i := 23) rfl), inR_55 _ (List.mem_of_getElem? (i := 0) rfl), inR_1 _ (List.mem_of_getElem? (i := 5) rfl), inR_55 _ (List.mem_of_getElem? (i := 1) rfl)⟩
theorem UVX11_unpaint : UV MX11_unpaint RX11 2 := ⟨by decide +kernel, by decide, inR_55 _ (List.mem_of_getElem? (i := 6) rfl), inR_55 _ (List.mem_of_getElem? (i := 7) rfl), inR_1 _ (List.mem_of_getElem? (i := 2) rfl), inR_55 _ (List.mem_of_getElem? (i := 8) rfl)⟩
theorem UVX12_unpaint : UV MX12_unpaint RX12 2 := ⟨by decide +kernel, by decide, inR_55 _ (List.mem_of_getElem? (i := 10) rfl), inR_55 _ (List.mem_of_getElem? (i := 11) rfl), inR_1 _ (List.mem_of_getElem? (i := 5) rfl), inR_55 _ (List.mem_of_getElem? (i := 12) rfl)⟩
theorem UVX11_movePainting : UV MX11_movePainting RX11 3 := ⟨by decide +kernel, by decide, inR_55 _ (List.mem_of_getElem? (i := 17) rfl), inR_55 _ (List.mem_of_getElem? (i := 18) rfl), inR_1 _ (List.mem_of_getElem? (i := 2) rfl), inR_55 _ (List.mem_of_getElem? (i := 19) rfl)⟩
theorem UVX12_movePainting : UV MX12_movePainting RX12 3 := ⟨by decide +kernel, by decide, inR_55 _ (List.mem_of_getElem? (i := 22) rfl), inR_55 _ (List.mem_of_getElem? (i := 23) rfl), inR_1 _ (List.mem_of_getElem? (i := 5) rfl), inR_56 _ (List.mem_of_getElem? (i := 0) rfl)⟩
theorem UVX11_exchange : UV MX11_exchange RX11 3 := ⟨by decide +kernel, by decide, inR_56 _ (List.mem_of_getElem? (i := 6) rfl), inR_56 _ (List.mem_of_getElem? (i := 7) rfl), inR_1 _ (List.mem_of_getElem? (i := 2) rfl), inR_56 _ (List.mem_of_getElem? (i := 8) rfl)⟩
theorem UVX12_exchange : UV MX12_exchange RX12 3 := ⟨by decide +kernel, by decide, inR_56 _ (List.mem_of_getElem? (i := 10) rfl), inR_56 _ (List.mem_of_getElem? (i := 11) rfl), inR_1 _ (List.mem_of_getElem? (i := 5) rfl), inR_56 _ (List.mem_of_getElem? (i := 12) rfl)⟩
theorem UVX11_setWeather : UV MX11_setWeather RX11 2 := ⟨by decide +kernel, by decide, inR_56 _ (List.mem_of_getElem? (i := 17) rfl), inR_56 _ (List.mem_of_getElem? (i := 18) rfl), inR_1 _ (List.mem_of_getElem? (i := 2) rfl), inR_56 _ (List.mem_of_getElem? (i := 19) rfl)⟩
theorem USX11_checkRange : US MX11_checkRange RX11 3 := ⟨by decide +kernel, by decide, inR_56 _ (List.mem_of_getElem? (i := 21) rfl), inR_1 _ (List.mem_of_getElem? (i := 2) rfl), inR_56 _ (List.mem_of_getElem? (i := 22) rfl)⟩
theorem UVX12_setWeather : UV MX12_setWeather RX12 2 := ⟨by decide +kernel, by decide, inR_57 _ (List.mem_of_getElem? (i := 0) rfl), inR_57 _ (List.mem_of_getElem? (i := 1) rfl), inR_1 _ (List.mem_of_getElem? (i := 5) rfl), inR_57 _ (List.mem_of_getElem? (i := 2) rfl)⟩
theorem UVX12_good_ : UV MX12_good_ RX12 2 := ⟨by decide +kernel, by decide, inR_57 _ (List.mem_of_getElem? (i := 5) rfl), inR_57 _ (List.mem_of_getElem? (i := 6) rfl), inR_1 _ (List.mem_of_getElem? (i := 5) rfl), inR_57 _ (List.mem_of_getElem? (i := 7) rfl)⟩
theorem UVX12_set : UV MX12_set RX12 2 := ⟨by decide +kernel, by decide, inR_57 _ (List.mem_of_getElem? (i := 9) rfl), inR_57 _ (List.mem_of_getElem? (i := 10) rfl), inR_1 _ (List.mem_of_getElem? (i := 5) rfl), inR_57 _ (List.mem_of_getElem? (i := 11) rfl)⟩
theorem UVX11_setShut : UV MX11_setShut RX11 1 := ⟨by decide +kernel, by decide, inR_57 _ (List.mem_of_getElem? (i := 16) rfl), inR_57 _ (List.mem_of_getElem? (i := 17) rfl), inR_1 _ (List.mem_of_getElem? (i := 2) rfl), inR_57 _ (List.mem_of_getElem? (i := 18) rfl)⟩
theorem UVX12_setShut : UV MX12_setShut RX12 1 := ⟨by decide +kernel, by decide, inR_57 _ (List.mem_of_getElem? (i := 20) rfl), inR_57 _ (List.mem_of_getElem? (i := 21) rfl), inR_1 _ (List.mem_of_getElem? (i := 5) rfl), inR_57 _ (List.mem_of_getElem? (i := 22) rfl)⟩
theorem UVX11_setClosed : UV MX11_setClosed RX11 3 := ⟨by decide +kernel, by decide, inR_58 _ (List.mem_of_getElem? (i := 4) rfl), inR_58 _ (List.mem_of_getElem? (i := 5) rfl), inR_1 _ (List.mem_of_getElem? (i := 2) rfl), inR_58 _ (List.mem_of_getElem? (i := 6) rfl)⟩
theorem UVX12_setClosed : UV MX12_setClosed RX12 3 := ⟨by decide +kernel, by decide, inR_58 _ (List.mem_of_getElem? (i := 9) rfl), inR_58 _ (List.mem_of_getElem? (i := 10) rfl), inR_1 _ (List.mem_of_getElem? (i := 5) rfl), inR_58 _ (List.mem_of_getElem? (i := 11) rfl)⟩
theorem UVX11_setRate : UV MX11_setRate RX11 2 := ⟨by decide +kernel, by decide, inR_58 _ (List.mem_of_getElem? (i := 16) rfl), inR_58 _ (List.mem_of_getElem? (i := 17) rfl), inR_1 _ (List.mem_of_getElem? (i := 2) rfl), inR_58 _ (List.mem_of_getElem? (i := 18) rfl)⟩
theorem UVX12_setRate : UV MX12_setRate RX12 2 := ⟨by decide +kernel, by decide, inR_58 _ (List.mem_of_getElem? (i := 21) rfl), inR_58 _ (List.mem_of_getElem? (i := 22) rfl), inR_1 _ (List.mem_of_getElem? (i := 5) rfl), inR_58 _ (List.mem_of_getElem? (i := 23) rfl)⟩
theorem UVX11_setSpeed : UV MX11_setSpeed RX11 2 := ⟨by decide +kernel, by decide, inR_59 _ (List.mem_of_getElem? (i := 5) rfl), inR_59 _ (List.mem_of_getElem? (i := 6) rfl), inR_1 _ (List.mem_of_getElem? (i := 2) rfl), inR_59 _ (List.mem_of_getElem? (i := 7) rfl)⟩
theorem UVX12_setSpeed : UV MX12_setSpeed RX12 2 := ⟨by decide +kernel, by decide, inR_59 _ (List.mem_of_getElem? (i := 9) rfl), inR_59 _ (List.mem_of_getElem? (i := 10) rfl), inR_1 _ (List.mem_of_getElem? (i := 5) rfl), inR_59 _ (List.mem_of_getElem? (i := 11) rfl)⟩
theorem UVX11_autoPlan : UV MX11_autoPlan RX11 0 := ⟨by decide +kernel, by decide, inR_59 _ (List.mem_of_getElem? (i := 13) rfl), inR_59 _ (List.mem_of_getElem? (i := 14) rfl), inR_1 _ (List.mem_of_getElem? (i := 2) rfl), inR_59 _ (List.mem_of_getElem? (i := 15) rfl)⟩
theorem UVX0_makePlan : UV MX0_makePlan RX0 3 := ⟨by decide +kernel, by decide, inR_59 _ (List.mem_of_getElem? (i := 17) rfl), inR_59 _ (List.mem_of_getElem? (i := 18) rfl), inR_1 _ (List.mem_of_getElem? (i := 16) rfl), inR_59 _ (List.mem_of_getElem? (i := 19) rfl)⟩
theorem UVX0_rankCandidates : UV MX0_rankCandidates RX0 3 := ⟨by decide +kernel, by decide, inR_59 _ (List.mem_of_getElem? (i := 22) rfl), inR_59 _ (List.mem_of_getElem? (i := 23) rfl), inR_1 _ (List.mem_of_getElem? (i := 16) rfl), inR_60 _ (List.mem_of_getElem? (i := 0) rfl)⟩
theorem UVX7_size : UV MX7_size RX7 0 := ⟨by decide +kernel, by decide, inR_60 _ (List.mem_of_getElem? (i := 7) rfl), inR_60 _ (List.mem_of_getElem? (i := 8) rfl), inR_2 _ (List.mem_of_getElem? (i := 0) rfl), inR_60 _ (List.mem_of_getElem? (i := 9) rfl)⟩
theorem UVX0_tightestGang : UV MX0_tightestGang RX0 5 := ⟨by decide +kernel, by decide, inR_60 _ (List.mem_of_getElem? (i := 12) rfl), inR_60 _ (List.mem_of_getElem? (i := 13) rfl), inR_1 _ (List.mem_of_getElem? (i := 16) rfl), inR_60 _ (List.mem_of_getElem? (i := 14) rfl)⟩
theorem UVX6_capacityLeft : UV MX6_capacityLeft RX6 3 := ⟨by decide +kernel, by decide, inR_60 _ (List.mem_of_getElem? (i := 17) rfl), inR_60 _ (List.mem_of_getElem? (i := 18) rfl), inR_2 _ (List.mem_of_getElem? (i := 21) rfl), inR_60 _ (List.mem_of_getElem? (i := 19) rfl)⟩
theorem UVX6_hasPaintingsOf : UV MX6_hasPaintingsOf RX6 1 := ⟨by decide +kernel, by decide, inR_60 _ (List.mem_of_getElem? (i := 22) rfl), inR_60 _ (List.mem_of_getElem? (i := 23) rfl), inR_2 _ (List.mem_of_getElem? (i := 21) rfl), inR_61 _ (List.mem_of_getElem? (i := 0) rfl)⟩
theorem UVX12_autoPlan : UV MX12_autoPlan RX12 0 := ⟨by decide +kernel, by decide, inR_61 _ (List.mem_of_getElem? (i := 2) rfl), inR_61 _ (List.mem_of_getElem? (i := 3) rfl), inR_1 _ (List.mem_of_getElem? (i := 5) rfl), inR_61 _ (List.mem_of_getElem? (i := 4) rfl)⟩
theorem UVX12_putAside : UV MX12_putAside RX12 0 := ⟨by decide +kernel, by decide, inR_61 _ (List.mem_of_getElem? (i := 6) rfl), inR_61 _ (List.mem_of_getElem? (i := 7) rfl), inR_1 _ (List.mem_of_getElem? (i := 5) rfl), inR_61 _ (List.mem_of_getElem? (i := 8) rfl)⟩
theorem UVX12_makePlan : UV MX12_makePlan RX12 1 := ⟨by decide +kernel, by decide, inR_61 _ (List.mem_of_getElem? (i := 10) rfl), inR_61 _ (List.mem_of_getElem? (i := 11) rfl), inR_1 _ (List.mem_of_getElem? (i := 5) rfl), inR_61 _ (List.mem_of_getElem? (i := 12) rfl)⟩
theorem UVX12_clearPlan : UV MX12_clearPlan RX12 0 := ⟨by decide +kernel, by decide, inR_61 _ (List.mem_of_getElem? (i := 14) rfl), inR_61 _ (List.mem_of_getElem? (i := 15) rfl), inR_1 _ (List.mem_of_getElem? (i := 5) rfl), inR_61 _ (List.mem_of_getElem? (i := 16) rfl)⟩
theorem UVX12_startYear : UV MX12_startYear RX12 0 := ⟨by decide +kernel, by decide, inR_61 _ (List.mem_of_getElem? (i := 18) rfl), inR_61 _ (List.mem_of_getElem? (i := 19) rfl), inR_1 _ (List.mem_of_getElem? (i := 5) rfl), inR_61 _ (List.mem_of_getElem? (i := 20) rfl)⟩
theorem UVX12_chooseGang : UV MX12_chooseGang RX12 3 := ⟨by decide +kernel, by decide, inR_61 _ (List.mem_of_getElem? (i := 23) rfl), inR_62 _ (List.mem_of_getElem? (i := 0) rfl), inR_1 _ (List.mem_of_getElem? (i := 5) rfl), inR_62 _ (List.mem_of_getElem? (i := 1) rfl)⟩
theorem UVX12_isLaneFree : UV MX12_isLaneFree RX12 2 := ⟨by decide +kernel, by decide, inR_62 _ (List.mem_of_getElem? (i := 3) rfl), inR_62 _ (List.mem_of_getElem? (i := 4) rfl), inR_1 _ (List.mem_of_getElem? (i := 5) rfl), inR_62 _ (List.mem_of_getElem? (i := 5) rfl)⟩
theorem UVX12_paintNow : UV MX12_paintNow RX12 3 := ⟨by decide +kernel, by decide, inR_62 _ (List.mem_of_getElem? (i := 7) rfl), inR_62 _ (List.mem_of_getElem? (i := 8) rfl), inR_1 _ (List.mem_of_getElem? (i := 5) rfl), inR_62 _ (List.mem_of_getElem? (i := 9) rfl)⟩
theorem UVX12_adopt : UV MX12_adopt RX12 0 := ⟨by decide +kernel, by decide, inR_62 _ (List.mem_of_getElem? (i := 11) rfl), inR_62 _ (List.mem_of_getElem? (i := 12) rfl), inR_1 _ (List.mem_of_getElem? (i := 5) rfl), inR_62 _ (List.mem_of_getElem? (i := 13) rfl)⟩
theorem UVX12_isPlanAside : UV MX12_isPlanAside RX12 0 := ⟨by decide +kernel, by decide, inR_62 _ (List.mem_of_getElem? (i := 15) rfl), inR_62 _ (List.mem_of_getElem? (i := 16) rfl), inR_1 _ (List.mem_of_getElem? (i := 5) rfl), inR_62 _ (List.mem_of_getElem? (i := 17) rfl)⟩
theorem UVX11_applySafePlan : UV MX11_applySafePlan RX11 0 := ⟨by decide +kernel, by decide, inR_62 _ (List.mem_of_getElem? (i := 19) rfl), inR_62 _ (List.mem_of_getElem? (i := 20) rfl), inR_1 _ (List.mem_of_getElem? (i := 2) rfl), inR_62 _ (List.mem_of_getElem? (i := 21) rfl)⟩
theorem UVX8_makePlan : UV MX8_makePlan RX8 2 := ⟨by decide +kernel, by decide, inR_63 _ (List.mem_of_getElem? (i := 0) rfl), inR_63 _ (List.mem_of_getElem? (i := 1) rfl), inR_1 _ (List.mem_of_getElem? (i := 20) rfl), inR_63 _ (List.mem_of_getElem? (i := 2) rfl)⟩
theorem USX8_placeFrom : US MX8_placeFrom RX8 4 := ⟨by decide +kernel, by decide, inR_63 _ (List.mem_of_getElem? (i := 10) rfl), inR_1 _ (List.mem_of_getElem? (i := 20) rfl), inR_63 _ (List.mem_of_getElem? (i := 11) rfl)⟩
theorem UVX7_yearAt : UV MX7_yearAt RX7 1 := ⟨by decide +kernel, by decide, inR_63 _ (List.mem_of_getElem? (i := 16) rfl), inR_63 _ (List.mem_of_getElem? (i := 17) rfl), inR_2 _ (List.mem_of_getElem? (i := 0) rfl), inR_63 _ (List.mem_of_getElem? (i := 18) rfl)⟩
theorem UVX12_applySafePlan : UV MX12_applySafePlan RX12 0 := ⟨by decide +kernel, by decide, inR_63 _ (List.mem_of_getElem? (i := 22) rfl), inR_63 _ (List.mem_of_getElem? (i := 23) rfl), inR_1 _ (List.mem_of_getElem? (i := 5) rfl), inR_64 _ (List.mem_of_getElem? (i := 0) rfl)⟩
theorem UVX12_searchAll : UV MX12_searchAll RX12 0 := ⟨by decide +kernel, by decide, inR_64 _ (List.mem_of_getElem? (i := 5) rfl), inR_64 _ (List.mem_of_getElem? (i := 6) rfl), inR_1 _ (List.mem_of_getElem? (i := 5) rfl), inR_64 _ (List.mem_of_getElem? (i := 7) rfl)⟩
theorem UVX12_findEndangered : UV MX12_findEndangered RX12 0 := ⟨by decide +kernel, by decide, inR_64 _ (List.mem_of_getElem? (i := 10) rfl), inR_64 _ (List.mem_of_getElem? (i := 11) rfl), inR_1 _ (List.mem_of_getElem? (i := 5) rfl), inR_64 _ (List.mem_of_getElem? (i := 12) rfl)⟩
theorem UVX12_search : UV MX12_search RX12 1 := ⟨by decide +kernel, by decide, inR_64 _ (List.mem_of_getElem? (i := 14) rfl), inR_64 _ (List.mem_of_getElem? (i := 15) rfl), inR_1 _ (List.mem_of_getElem? (i := 5) rfl), inR_64 _ (List.mem_of_getElem? (i := 16) rfl)⟩
theorem UVX11_undo : UV MX11_undo RX11 0 := ⟨by decide +kernel, by decide, inR_64 _ (List.mem_of_getElem? (i := 18) rfl), inR_64 _ (List.mem_of_getElem? (i := 19) rfl), inR_1 _ (List.mem_of_getElem? (i := 2) rfl), inR_64 _ (List.mem_of_getElem? (i := 20) rfl)⟩
theorem UVX2_isEmpty : UV MX2_isEmpty RX2 0 := ⟨by decide +kernel, by decide, inR_64 _ (List.mem_of_getElem? (i := 22) rfl), inR_64 _ (List.mem_of_getElem? (i := 23) rfl), inR_2 _ (List.mem_of_getElem? (i := 4) rfl), inR_65 _ (List.mem_of_getElem? (i := 0) rfl)⟩
theorem UVX2_takeBack : UV MX2_takeBack RX2 2 := ⟨by decide +kernel, by decide, inR_65 _ (List.mem_of_getElem? (i := 2) rfl), inR_65 _ (List.mem_of_getElem? (i := 3) rfl), inR_2 _ (List.mem_of_getElem? (i := 4) rfl), inR_65 _ (List.mem_of_getElem? (i := 4) rfl)⟩
theorem UVX1_restoreFrom : UV MX1_restoreFrom RX1 1 := ⟨by decide +kernel, by decide, inR_65 _ (List.mem_of_getElem? (i := 6) rfl), inR_65 _ (List.mem_of_getElem? (i := 7) rfl), inR_2 _ (List.mem_of_getElem? (i := 18) rfl), inR_65 _ (List.mem_of_getElem? (i := 8) rfl)⟩
theorem UVX6_restoreFrom : UV MX6_restoreFrom RX6 1 := ⟨by decide +kernel, by decide, inR_65 _ (List.mem_of_getElem? (i := 10) rfl), inR_65 _ (List.mem_of_getElem? (i := 11) rfl), inR_2 _ (List.mem_of_getElem? (i := 21) rfl), inR_65 _ (List.mem_of_getElem? (i := 12) rfl)⟩
theorem UVX2_size : UV MX2_size RX2 0 := ⟨by decide +kernel, by decide, inR_65 _ (List.mem_of_getElem? (i := 14) rfl), inR_65 _ (List.mem_of_getElem? (i := 15) rfl), inR_2 _ (List.mem_of_getElem? (i := 4) rfl), inR_65 _ (List.mem_of_getElem? (i := 16) rfl)⟩
theorem UVX12_undo : UV MX12_undo RX12 0 := ⟨by decide +kernel, by decide, inR_65 _ (List.mem_of_getElem? (i := 18) rfl), inR_65 _ (List.mem_of_getElem? (i := 19) rfl), inR_1 _ (List.mem_of_getElem? (i := 5) rfl), inR_65 _ (List.mem_of_getElem? (i := 20) rfl)⟩
theorem UVX11_hasSafePlan : UV MX11_hasSafePlan RX11 0 := ⟨by decide +kernel, by decide, inR_65 _ (List.mem_of_getElem? (i := 22) rfl), inR_65 _ (List.mem_of_getElem? (i := 23) rfl), inR_1 _ (List.mem_of_getElem? (i := 2) rfl), inR_66 _ (List.mem_of_getElem? (i := 0) rfl)⟩
theorem UVX12_hasSafePlan : UV MX12_hasSafePlan RX12 0 := ⟨by decide +kernel, by decide, inR_66 _ (List.mem_of_getElem? (i := 2) rfl), inR_66 _ (List.mem_of_getElem? (i := 3) rfl), inR_1 _ (List.mem_of_getElem? (i := 5) rfl), inR_66 _ (List.mem_of_getElem? (i := 4) rfl)⟩
theorem UVX11_searchTries : UV MX11_searchTries RX11 0 := ⟨by decide +kernel, by decide, inR_66 _ (List.mem_of_getElem? (i := 6) rfl), inR_66 _ (List.mem_of_getElem? (i := 7) rfl), inR_1 _ (List.mem_of_getElem? (i := 2) rfl), inR_66 _ (List.mem_of_getElem? (i := 8) rfl)⟩
theorem UVX8_triesMade : UV MX8_triesMade RX8 0 := ⟨by decide +kernel, by decide, inR_66 _ (List.mem_of_getElem? (i := 10) rfl), inR_66 _ (List.mem_of_getElem? (i := 11) rfl), inR_1 _ (List.mem_of_getElem? (i := 20) rfl), inR_66 _ (List.mem_of_getElem? (i := 12) rfl)⟩
theorem UVX12_searchTries : UV MX12_searchTries RX12 0 := ⟨by decide +kernel, by decide, inR_66 _ (List.mem_of_getElem? (i := 14) rfl), inR_66 _ (List.mem_of_getElem? (i := 15) rfl), inR_1 _ (List.mem_of_getElem? (i := 5) rfl), inR_66 _ (List.mem_of_getElem? (i := 16) rfl)⟩
theorem UVX11_autoPast : UV MX11_autoPast RX11 0 := ⟨by decide +kernel, by decide, inR_66 _ (List.mem_of_getElem? (i := 18) rfl), inR_66 _ (List.mem_of_getElem? (i := 19) rfl), inR_1 _ (List.mem_of_getElem? (i := 2) rfl), inR_66 _ (List.mem_of_getElem? (i := 20) rfl)⟩
theorem UVX11_autoPastOf : UV MX11_autoPastOf RX11 2 := ⟨by decide +kernel, by decide, inR_66 _ (List.mem_of_getElem? (i := 22) rfl), inR_66 _ (List.mem_of_getElem? (i := 23) rfl), inR_1 _ (List.mem_of_getElem? (i := 2) rfl), inR_67 _ (List.mem_of_getElem? (i := 0) rfl)⟩
theorem UVX12_autoPast : UV MX12_autoPast RX12 0 := ⟨by decide +kernel, by decide, inR_67 _ (List.mem_of_getElem? (i := 2) rfl), inR_67 _ (List.mem_of_getElem? (i := 3) rfl), inR_1 _ (List.mem_of_getElem? (i := 5) rfl), inR_67 _ (List.mem_of_getElem? (i := 4) rfl)⟩
theorem UVX12_pastWith : UV MX12_pastWith RX12 1 := ⟨by decide +kernel, by decide, inR_67 _ (List.mem_of_getElem? (i := 6) rfl), inR_67 _ (List.mem_of_getElem? (i := 7) rfl), inR_1 _ (List.mem_of_getElem? (i := 5) rfl), inR_67 _ (List.mem_of_getElem? (i := 8) rfl)⟩
theorem UVX11_autoPastWithout : UV MX11_autoPastWithout RX11 1 := ⟨by decide +kernel, by decide, inR_67 _ (List.mem_of_getElem? (i := 13) rfl), inR_67 _ (List.mem_of_getElem? (i := 14) rfl), inR_1 _ (List.mem_of_getElem? (i := 2) rfl), inR_67 _ (List.mem_of_getElem? (i := 15) rfl)⟩
theorem UVX12_autoPastWithout : UV MX12_autoPastWithout RX12 1 := ⟨by decide +kernel, by decide, inR_67 _ (List.mem_of_getElem? (i := 17) rfl), inR_67 _ (List.mem_of_getElem? (i := 18) rfl), inR_1 _ (List.mem_of_getElem? (i := 5) rfl), inR_67 _ (List.mem_of_getElem? (i := 19) rfl)⟩
theorem UVX11_criticalGang : UV MX11_criticalGang RX11 0 := ⟨by decide +kernel, by decide, inR_67 _ (List.mem_of_getElem? (i := 21) rfl), inR_67 _ (List.mem_of_getElem? (i := 22) rfl), inR_1 _ (List.mem_of_getElem? (i := 2) rfl), inR_67 _ (List.mem_of_getElem? (i := 23) rfl)⟩
theorem UVX12_criticalGang : UV MX12_criticalGang RX12 0 := ⟨by decide +kernel, by decide, inR_68 _ (List.mem_of_getElem? (i := 1) rfl), inR_68 _ (List.mem_of_getElem? (i := 2) rfl), inR_1 _ (List.mem_of_getElem? (i := 5) rfl), inR_68 _ (List.mem_of_getElem? (i := 3) rfl)⟩
theorem UVX11_worstYear : UV MX11_worstYear RX11 0 := ⟨by decide +kernel, by decide, inR_68 _ (List.mem_of_getElem? (i := 5) rfl), inR_68 _ (List.mem_of_getElem? (i := 6) rfl), inR_1 _ (List.mem_of_getElem? (i := 2) rfl), inR_68 _ (List.mem_of_getElem? (i := 7) rfl)⟩
theorem UVX1_copyFrom : UV MX1_copyFrom RX1 1 := ⟨by decide +kernel, by decide, inR_68 _ (List.mem_of_getElem? (i := 9) rfl), inR_68 _ (List.mem_of_getElem? (i := 10) rfl), inR_2 _ (List.mem_of_getElem? (i := 18) rfl), inR_68 _ (List.mem_of_getElem? (i := 11) rfl)⟩
theorem UVX12_worstYear : UV MX12_worstYear RX12 0 := ⟨by decide +kernel, by decide, inR_68 _ (List.mem_of_getElem? (i := 13) rfl), inR_68 _ (List.mem_of_getElem? (i := 14) rfl), inR_1 _ (List.mem_of_getElem? (i := 5) rfl), inR_68 _ (List.mem_of_getElem? (i := 15) rfl)⟩
theorem UVX11_smallestShut : UV MX11_smallestShut RX11 0 := ⟨by decide +kernel, by decide, inR_68 _ (List.mem_of_getElem? (i := 17) rfl), inR_68 _ (List.mem_of_getElem? (i := 18) rfl), inR_1 _ (List.mem_of_getElem? (i := 2) rfl), inR_68 _ (List.mem_of_getElem? (i := 19) rfl)⟩
theorem UVX12_smallestShut : UV MX12_smallestShut RX12 0 := ⟨by decide +kernel, by decide, inR_68 _ (List.mem_of_getElem? (i := 21) rfl), inR_68 _ (List.mem_of_getElem? (i := 22) rfl), inR_1 _ (List.mem_of_getElem? (i := 5) rfl), inR_68 _ (List.mem_of_getElem? (i := 23) rfl)⟩
theorem UVX11_fewestGangs : UV MX11_fewestGangs RX11 0 := ⟨by decide +kernel, by decide, inR_69 _ (List.mem_of_getElem? (i := 1) rfl), inR_69 _ (List.mem_of_getElem? (i := 2) rfl), inR_1 _ (List.mem_of_getElem? (i := 2) rfl), inR_69 _ (List.mem_of_getElem? (i := 3) rfl)⟩
theorem UVX12_fewestGangs : UV MX12_fewestGangs RX12 0 := ⟨by decide +kernel, by decide, inR_69 _ (List.mem_of_getElem? (i := 6) rfl), inR_69 _ (List.mem_of_getElem? (i := 7) rfl), inR_1 _ (List.mem_of_getElem? (i := 5) rfl), inR_69 _ (List.mem_of_getElem? (i := 8) rfl)⟩
theorem UVX11_extraDays : UV MX11_extraDays RX11 0 := ⟨by decide +kernel, by decide, inR_69 _ (List.mem_of_getElem? (i := 10) rfl), inR_69 _ (List.mem_of_getElem? (i := 11) rfl), inR_1 _ (List.mem_of_getElem? (i := 2) rfl), inR_69 _ (List.mem_of_getElem? (i := 12) rfl)⟩
theorem UVX12_extraDays : UV MX12_extraDays RX12 0 := ⟨by decide +kernel, by decide, inR_69 _ (List.mem_of_getElem? (i := 15) rfl), inR_69 _ (List.mem_of_getElem? (i := 16) rfl), inR_1 _ (List.mem_of_getElem? (i := 5) rfl), inR_69 _ (List.mem_of_getElem? (i := 17) rfl)⟩
theorem UVX11_write : UV MX11_write RX11 0 := ⟨by decide +kernel, by decide, inR_69 _ (List.mem_of_getElem? (i := 19) rfl), inR_69 _ (List.mem_of_getElem? (i := 20) rfl), inR_1 _ (List.mem_of_getElem? (i := 2) rfl), inR_69 _ (List.mem_of_getElem? (i := 21) rfl)⟩
theorem UVX4_clear : UV MX4_clear RX4 0 := ⟨by decide +kernel, by decide, inR_69 _ (List.mem_of_getElem? (i := 23) rfl), inR_70 _ (List.mem_of_getElem? (i := 0) rfl), inR_2 _ (List.mem_of_getElem? (i := 8) rfl), inR_70 _ (List.mem_of_getElem? (i := 1) rfl)⟩
theorem UVX4_addNumber : UV MX4_addNumber RX4 1 := ⟨by decide +kernel, by decide, inR_70 _ (List.mem_of_getElem? (i := 4) rfl), inR_70 _ (List.mem_of_getElem? (i := 5) rfl), inR_2 _ (List.mem_of_getElem? (i := 8) rfl), inR_70 _ (List.mem_of_getElem? (i := 6) rfl)⟩
theorem UVX4_addSign : UV MX4_addSign RX4 1 := ⟨by decide +kernel, by decide, inR_70 _ (List.mem_of_getElem? (i := 8) rfl), inR_70 _ (List.mem_of_getElem? (i := 9) rfl), inR_2 _ (List.mem_of_getElem? (i := 8) rfl), inR_70 _ (List.mem_of_getElem? (i := 10) rfl)⟩
theorem UVX4_size : UV MX4_size RX4 0 := ⟨by decide +kernel, by decide, inR_70 _ (List.mem_of_getElem? (i := 13) rfl), inR_70 _ (List.mem_of_getElem? (i := 14) rfl), inR_2 _ (List.mem_of_getElem? (i := 8) rfl), inR_70 _ (List.mem_of_getElem? (i := 15) rfl)⟩
theorem UVX12_write : UV MX12_write RX12 0 := ⟨by decide +kernel, by decide, inR_70 _ (List.mem_of_getElem? (i := 17) rfl), inR_70 _ (List.mem_of_getElem? (i := 18) rfl), inR_1 _ (List.mem_of_getElem? (i := 5) rfl), inR_70 _ (List.mem_of_getElem? (i := 19) rfl)⟩
theorem UVX12_putNumber : UV MX12_putNumber RX12 1 := ⟨by decide +kernel, by decide, inR_70 _ (List.mem_of_getElem? (i := 22) rfl), inR_70 _ (List.mem_of_getElem? (i := 23) rfl), inR_1 _ (List.mem_of_getElem? (i := 5) rfl), inR_71 _ (List.mem_of_getElem? (i := 0) rfl)⟩
theorem UVX12_put : UV MX12_put RX12 1 := ⟨by decide +kernel, by decide, inR_71 _ (List.mem_of_getElem? (i := 2) rfl), inR_71 _ (List.mem_of_getElem? (i := 3) rfl), inR_1 _ (List.mem_of_getElem? (i := 5) rfl), inR_71 _ (List.mem_of_getElem? (i := 4) rfl)⟩
theorem UVX11_outputByte : UV MX11_outputByte RX11 1 := ⟨by decide +kernel, by decide, inR_71 _ (List.mem_of_getElem? (i := 9) rfl), inR_71 _ (List.mem_of_getElem? (i := 10) rfl), inR_1 _ (List.mem_of_getElem? (i := 2) rfl), inR_71 _ (List.mem_of_getElem? (i := 11) rfl)⟩
theorem UVX4_byteAt : UV MX4_byteAt RX4 1 := ⟨by decide +kernel, by decide, inR_71 _ (List.mem_of_getElem? (i := 13) rfl), inR_71 _ (List.mem_of_getElem? (i := 14) rfl), inR_2 _ (List.mem_of_getElem? (i := 8) rfl), inR_71 _ (List.mem_of_getElem? (i := 15) rfl)⟩
theorem UVX12_outputByte : UV MX12_outputByte RX12 1 := ⟨by decide +kernel, by decide, inR_71 _ (List.mem_of_getElem? (i := 17) rfl), inR_71 _ (List.mem_of_getElem? (i := 18) rfl), inR_1 _ (List.mem_of_getElem? (i := 5) rfl), inR_71 _ (List.mem_of_getElem? (i := 19) rfl)⟩
theorem LK_L_144 : Cond.methodLink RL 144 yX11_init ∈ wsL_law := inR_1 _ (List.mem_of_getElem? (i := 8) rfl)
theorem LK_X11_3 : Cond.methodLink RX11 3 objectInit ∈ wsL_law := inR_1 _ (List.mem_of_getElem? (i := 11) rfl)
theorem LK_X0_3 : Cond.methodLink RX0 3 objectInit ∈ wsL_law := inR_3 _ (List.mem_of_getElem? (i := 9) rfl)
theorem LK_X7_3 : Cond.methodLink RX7 3 objectInit ∈ wsL_law := inR_3 _ (List.mem_of_getElem? (i := 14) rfl)
theorem LK_X8_3 : Cond.methodLink RX8 3 objectInit ∈ wsL_law := inR_3 _ (List.mem_of_getElem? (i := 19) rfl)
theorem LK_X2_1 : Cond.methodLink RX2 1 objectInit ∈ wsL_law := inR_4 _ (List.mem_of_getElem? (i := 0) rfl)
theorem LK_X4_1 : Cond.methodLink RX4 1 objectInit ∈ wsL_law := inR_4 _ (List.mem_of_getElem? (i := 6) rfl)
theorem LK_X9_3 : Cond.methodLink RX9 3 objectInit ∈ wsL_law := inR_4 _ (List.mem_of_getElem? (i := 11) rfl)
theorem LK_X11_57 : Cond.methodLink RX11 57 yX1_init ∈ wsL_law := inR_4 _ (List.mem_of_getElem? (i := 13) rfl)
theorem LK_X1_5 : Cond.methodLink RX1 5 objectInit ∈ wsL_law := inR_4 _ (List.mem_of_getElem? (i := 16) rfl)
theorem LK_X1_42 : Cond.methodLink RX1 42 yX1_reset ∈ wsL_law := inR_5 _ (List.mem_of_getElem? (i := 3) rfl)
theorem LK_X1_64 : Cond.methodLink RX1 64 yJ7_fill_53178 ∈ wsL_law := inR_5 _ (List.mem_of_getElem? (i := 13) rfl)
theorem LK_X11_60 : Cond.methodLink RX11 60 yX6_init ∈ wsL_law := inR_5 _ (List.mem_of_getElem? (i := 17) rfl)
theorem LK_X6_3 : Cond.methodLink RX6 3 objectInit ∈ wsL_law := inR_5 _ (List.mem_of_getElem? (i := 20) rfl)
theorem LK_X6_25 : Cond.methodLink RX6 25 yJ7_fill_53178 ∈ wsL_law := inR_6 _ (List.mem_of_getElem? (i := 1) rfl)
theorem LK_X11_83 : Cond.methodLink RX11 83 yX5_init ∈ wsL_law := inR_6 _ (List.mem_of_getElem? (i := 2) rfl)
theorem LK_X5_3 : Cond.methodLink RX5 3 objectInit ∈ wsL_law := inR_6 _ (List.mem_of_getElem? (i := 5) rfl)
theorem LK_X3_3 : Cond.methodLink RX3 3 objectInit ∈ wsL_law := inR_6 _ (List.mem_of_getElem? (i := 20) rfl)
theorem LK_X5_25 : Cond.methodLink RX5 25 yX10_init ∈ wsL_law := inR_7 _ (List.mem_of_getElem? (i := 0) rfl)
theorem LK_X10_1 : Cond.methodLink RX10 1 objectInit ∈ wsL_law := inR_7 _ (List.mem_of_getElem? (i := 3) rfl)
theorem LK_L_147 : Cond.methodLink RL 147 yX12_init ∈ wsL_law := inR_7 _ (List.mem_of_getElem? (i := 5) rfl)
theorem LK_X12_1 : Cond.methodLink RX12 1 objectInit ∈ wsL_law := inR_7 _ (List.mem_of_getElem? (i := 8) rfl)
theorem LK_X12_70 : Cond.methodLink RX12 70 yX12_reset ∈ wsL_law := inR_8 _ (List.mem_of_getElem? (i := 5) rfl)
theorem LK_L_148 : Cond.methodLink RL 148 yX11_feed ∈ wsL_law := inR_8 _ (List.mem_of_getElem? (i := 8) rfl)
theorem LK_X11_90 : Cond.methodLink RX11 90 yX9_hasRoomFor ∈ wsL_law := inR_8 _ (List.mem_of_getElem? (i := 13) rfl)
theorem LK_X11_95 : Cond.methodLink RX11 95 yX9_append ∈ wsL_law := inR_8 _ (List.mem_of_getElem? (i := 18) rfl)
theorem LK_X11_99 : Cond.methodLink RX11 99 yX9_size ∈ wsL_law := inR_8 _ (List.mem_of_getElem? (i := 22) rfl)
theorem LK_L_152 : Cond.methodLink RL 152 yX12_feed ∈ wsL_law := inR_9 _ (List.mem_of_getElem? (i := 2) rfl)
theorem LK_X12_103 : Cond.methodLink RX12 103 yX12_append ∈ wsL_law := inR_9 _ (List.mem_of_getElem? (i := 9) rfl)
theorem LK_L_153 : Cond.methodLink RL 153 yL_load ∈ wsL_law := inR_9 _ (List.mem_of_getElem? (i := 13) rfl)
theorem LK_L_7 : Cond.methodLink RL 7 yX11_load ∈ wsL_law := inR_9 _ (List.mem_of_getElem? (i := 18) rfl)
theorem LK_X11_110 : Cond.methodLink RX11 110 yX5_read ∈ wsL_law := inR_10 _ (List.mem_of_getElem? (i := 1) rfl)
theorem LK_X5_43 : Cond.methodLink RX5 43 yX1_reset ∈ wsL_law := inR_10 _ (List.mem_of_getElem? (i := 6) rfl)
theorem LK_X5_48 : Cond.methodLink RX5 48 yX6_start ∈ wsL_law := inR_10 _ (List.mem_of_getElem? (i := 7) rfl)
theorem LK_X6_31 : Cond.methodLink RX6 31 yX6_followAll ∈ wsL_law := inR_10 _ (List.mem_of_getElem? (i := 11) rfl)
theorem LK_X6_34 : Cond.methodLink RX6 34 yX6_follow ∈ wsL_law := inR_10 _ (List.mem_of_getElem? (i := 15) rfl)
theorem LK_X6_66 : Cond.methodLink RX6 66 Lib.Math.min.name ∈ wsL_law := inR_10 _ (List.mem_of_getElem? (i := 19) rfl)
theorem LK_X6_56 : Cond.methodLink RX6 56 yX6_isPainted ∈ wsL_law := inR_10 _ (List.mem_of_getElem? (i := 23) rfl)
theorem LK_X5_54 : Cond.methodLink RX5 54 yX3_clear ∈ wsL_law := inR_11 _ (List.mem_of_getElem? (i := 3) rfl)
theorem LK_X5_57 : Cond.methodLink RX5 57 yX10_begin ∈ wsL_law := inR_11 _ (List.mem_of_getElem? (i := 8) rfl)
theorem LK_X10_19 : Cond.methodLink RX10 19 Lib.Math.min.name ∈ wsL_law := inR_11 _ (List.mem_of_getElem? (i := 12) rfl)
theorem LK_X5_61 : Cond.methodLink RX5 61 yX10_next ∈ wsL_law := inR_11 _ (List.mem_of_getElem? (i := 17) rfl)
theorem LK_X10_41 : Cond.methodLink RX10 41 yX10_takeLetters ∈ wsL_law := inR_11 _ (List.mem_of_getElem? (i := 21) rfl)
theorem LK_X10_44 : Cond.methodLink RX10 44 yX10_takeDigits ∈ wsL_law := inR_12 _ (List.mem_of_getElem? (i := 2) rfl)
theorem LK_X5_67 : Cond.methodLink RX5 67 yX5_readStatement ∈ wsL_law := inR_12 _ (List.mem_of_getElem? (i := 7) rfl)
theorem LK_X5_76 : Cond.methodLink RX5 76 yX5_failOnToken ∈ wsL_law := inR_12 _ (List.mem_of_getElem? (i := 18) rfl)
theorem LK_X5_86 : Cond.methodLink RX5 86 yX5_readBridge ∈ wsL_law := inR_12 _ (List.mem_of_getElem? (i := 22) rfl)
theorem LK_X5_132 : Cond.methodLink RX5 132 yX5_number ∈ wsL_law := inR_13 _ (List.mem_of_getElem? (i := 2) rfl)
theorem LK_X5_89 : Cond.methodLink RX5 89 yX5_fail ∈ wsL_law := inR_13 _ (List.mem_of_getElem? (i := 6) rfl)
theorem LK_X5_136 : Cond.methodLink RX5 136 yX5_semicolon ∈ wsL_law := inR_13 _ (List.mem_of_getElem? (i := 10) rfl)
theorem LK_X5_98 : Cond.methodLink RX5 98 yX5_readLane ∈ wsL_law := inR_13 _ (List.mem_of_getElem? (i := 14) rfl)
theorem LK_X5_148 : Cond.methodLink RX5 148 yX5_newName ∈ wsL_law := inR_13 _ (List.mem_of_getElem? (i := 19) rfl)
theorem LK_X5_194 : Cond.methodLink RX5 194 yX5_isReserved ∈ wsL_law := inR_13 _ (List.mem_of_getElem? (i := 23) rfl)
theorem LK_X5_198 : Cond.methodLink RX5 198 yX3_isDeclared ∈ wsL_law := inR_14 _ (List.mem_of_getElem? (i := 3) rfl)
theorem LK_X5_154 : Cond.methodLink RX5 154 yX3_add ∈ wsL_law := inR_14 _ (List.mem_of_getElem? (i := 7) rfl)
theorem LK_X5_158 : Cond.methodLink RX5 158 yX1_addLane ∈ wsL_law := inR_14 _ (List.mem_of_getElem? (i := 11) rfl)
theorem LK_X5_106 : Cond.methodLink RX5 106 yX5_readSpan ∈ wsL_law := inR_14 _ (List.mem_of_getElem? (i := 15) rfl)
theorem LK_X5_161 : Cond.methodLink RX5 161 yX5_laneOrNone ∈ wsL_law := inR_14 _ (List.mem_of_getElem? (i := 19) rfl)
theorem LK_X5_201 : Cond.methodLink RX5 201 yX5_thisName ∈ wsL_law := inR_14 _ (List.mem_of_getElem? (i := 23) rfl)
theorem LK_X5_206 : Cond.methodLink RX5 206 yX3_numberOf ∈ wsL_law := inR_15 _ (List.mem_of_getElem? (i := 3) rfl)
theorem LK_X5_165 : Cond.methodLink RX5 165 yX1_addSpan ∈ wsL_law := inR_15 _ (List.mem_of_getElem? (i := 7) rfl)
theorem LK_X5_114 : Cond.methodLink RX5 114 yX5_readGang ∈ wsL_law := inR_15 _ (List.mem_of_getElem? (i := 11) rfl)
theorem LK_X5_169 : Cond.methodLink RX5 169 yX1_addGang ∈ wsL_law := inR_15 _ (List.mem_of_getElem? (i := 15) rfl)
theorem LK_X5_119 : Cond.methodLink RX5 119 yX5_readWeather ∈ wsL_law := inR_15 _ (List.mem_of_getElem? (i := 19) rfl)
theorem LK_X5_124 : Cond.methodLink RX5 124 yX5_readClosed ∈ wsL_law := inR_15 _ (List.mem_of_getElem? (i := 23) rfl)
theorem LK_X5_177 : Cond.methodLink RX5 177 yX5_knownName ∈ wsL_law := inR_16 _ (List.mem_of_getElem? (i := 3) rfl)
theorem LK_X5_129 : Cond.methodLink RX5 129 yX5_readPainting ∈ wsL_law := inR_16 _ (List.mem_of_getElem? (i := 7) rfl)
theorem LK_X5_184 : Cond.methodLink RX5 184 yX6_isPainted ∈ wsL_law := inR_16 _ (List.mem_of_getElem? (i := 11) rfl)
theorem LK_X5_188 : Cond.methodLink RX5 188 yX6_put ∈ wsL_law := inR_16 _ (List.mem_of_getElem? (i := 12) rfl)
theorem LK_X5_71 : Cond.methodLink RX5 71 yX6_followAll ∈ wsL_law := inR_16 _ (List.mem_of_getElem? (i := 16) rfl)
theorem LK_X11_114 : Cond.methodLink RX11 114 yX5_failureKind ∈ wsL_law := inR_16 _ (List.mem_of_getElem? (i := 17) rfl)
theorem LK_X11_117 : Cond.methodLink RX11 117 yX5_failurePosition ∈ wsL_law := inR_16 _ (List.mem_of_getElem? (i := 21) rfl)
theorem LK_X11_120 : Cond.methodLink RX11 120 yX9_clear ∈ wsL_law := inR_17 _ (List.mem_of_getElem? (i := 1) rfl)
theorem LK_X11_124 : Cond.methodLink RX11 124 yX11_takeDraft ∈ wsL_law := inR_17 _ (List.mem_of_getElem? (i := 5) rfl)
theorem LK_X11_127 : Cond.methodLink RX11 127 yX2_clear ∈ wsL_law := inR_17 _ (List.mem_of_getElem? (i := 9) rfl)
theorem LK_L_158 : Cond.methodLink RL 158 yX12_load ∈ wsL_law := inR_17 _ (List.mem_of_getElem? (i := 14) rfl)
theorem LK_X12_84 : Cond.methodLink RX12 84 yX12_between ∈ wsL_law := inR_18 _ (List.mem_of_getElem? (i := 2) rfl)
theorem LK_X12_169 : Cond.methodLink RX12 169 yX12_advance ∈ wsL_law := inR_18 _ (List.mem_of_getElem? (i := 5) rfl)
theorem LK_X12_113 : Cond.methodLink RX12 113 yX12_byteAt ∈ wsL_law := inR_18 _ (List.mem_of_getElem? (i := 15) rfl)
theorem LK_X12_126 : Cond.methodLink RX12 126 yX12_isLetter ∈ wsL_law := inR_18 _ (List.mem_of_getElem? (i := 19) rfl)
theorem LK_X12_137 : Cond.methodLink RX12 137 yX12_keywordHere ∈ wsL_law := inR_18 _ (List.mem_of_getElem? (i := 22) rfl)
theorem LK_X12_149 : Cond.methodLink RX12 149 yJ0_length_8abf5 ∈ wsL_law := inR_19 _ (List.mem_of_getElem? (i := 2) rfl)
theorem LK_J0_335 : Cond.methodLink RJ0 335 yJ0_coder_7d493 ∈ wsL_law := inR_19 _ (List.mem_of_getElem? (i := 8) rfl)
theorem LK_X12_153 : Cond.methodLink RX12 153 yJ0_charAt_5068e ∈ wsL_law := inR_19 _ (List.mem_of_getElem? (i := 14) rfl)
theorem LK_J0_492 : Cond.methodLink RJ0 492 yJ0_isLatin1_aae02 ∈ wsL_law := inR_19 _ (List.mem_of_getElem? (i := 18) rfl)
theorem LK_J0_495 : Cond.methodLink RJ0 495 yJ1_charAt_3b067 ∈ wsL_law := inR_19 _ (List.mem_of_getElem? (i := 22) rfl)
theorem LK_J1_9 : Cond.methodLink RJ1 9 yJ0_checkIndex_df160 ∈ wsL_law := inR_20 _ (List.mem_of_getElem? (i := 2) rfl)
theorem LK_J0_1059 : Cond.methodLink RJ0 1059 yJ3_checkIndex_8e157 ∈ wsL_law := inR_20 _ (List.mem_of_getElem? (i := 6) rfl)
theorem LK_J0_498 : Cond.methodLink RJ0 498 yJ2_charAt_3b067 ∈ wsL_law := inR_20 _ (List.mem_of_getElem? (i := 10) rfl)
theorem LK_J2_67 : Cond.methodLink RJ2 67 yJ2_checkIndex_2214a ∈ wsL_law := inR_20 _ (List.mem_of_getElem? (i := 14) rfl)
theorem LK_J2_48 : Cond.methodLink RJ2 48 yJ2_length_9d52b ∈ wsL_law := inR_20 _ (List.mem_of_getElem? (i := 17) rfl)
theorem LK_J2_414 : Cond.methodLink RJ2 414 yJ0_checkIndex_df160 ∈ wsL_law := inR_20 _ (List.mem_of_getElem? (i := 20) rfl)
theorem LK_J2_71 : Cond.methodLink RJ2 71 yJ2_getChar_3b067 ∈ wsL_law := inR_20 _ (List.mem_of_getElem? (i := 21) rfl)
theorem LK_X12_141 : Cond.methodLink RX12 141 yX12_isDigit ∈ wsL_law := inR_21 _ (List.mem_of_getElem? (i := 3) rfl)
theorem LK_X12_217 : Cond.methodLink RX12 217 yX12_statement ∈ wsL_law := inR_21 _ (List.mem_of_getElem? (i := 6) rfl)
theorem LK_X12_163 : Cond.methodLink RX12 163 yX12_fail ∈ wsL_law := inR_21 _ (List.mem_of_getElem? (i := 10) rfl)
theorem LK_X12_196 : Cond.methodLink RX12 196 yX12_bridge ∈ wsL_law := inR_21 _ (List.mem_of_getElem? (i := 14) rfl)
theorem LK_X12_186 : Cond.methodLink RX12 186 yX12_numberTo ∈ wsL_law := inR_21 _ (List.mem_of_getElem? (i := 18) rfl)
theorem LK_X12_173 : Cond.methodLink RX12 173 yX12_number ∈ wsL_law := inR_21 _ (List.mem_of_getElem? (i := 23) rfl)
theorem LK_X12_199 : Cond.methodLink RX12 199 yX12_lane ∈ wsL_law := inR_22 _ (List.mem_of_getElem? (i := 3) rfl)
theorem LK_X12_190 : Cond.methodLink RX12 190 yX12_newName ∈ wsL_law := inR_22 _ (List.mem_of_getElem? (i := 7) rfl)
theorem LK_X12_177 : Cond.methodLink RX12 177 yX12_isName ∈ wsL_law := inR_22 _ (List.mem_of_getElem? (i := 11) rfl)
theorem LK_X12_180 : Cond.methodLink RX12 180 yX12_find ∈ wsL_law := inR_22 _ (List.mem_of_getElem? (i := 15) rfl)
theorem LK_X12_202 : Cond.methodLink RX12 202 yX12_span ∈ wsL_law := inR_22 _ (List.mem_of_getElem? (i := 19) rfl)
theorem LK_X12_193 : Cond.methodLink RX12 193 yX12_oldName ∈ wsL_law := inR_23 _ (List.mem_of_getElem? (i := 0) rfl)
theorem LK_X12_205 : Cond.methodLink RX12 205 yX12_gang ∈ wsL_law := inR_23 _ (List.mem_of_getElem? (i := 4) rfl)
theorem LK_X12_208 : Cond.methodLink RX12 208 yX12_weather ∈ wsL_law := inR_23 _ (List.mem_of_getElem? (i := 8) rfl)
theorem LK_X12_211 : Cond.methodLink RX12 211 yX12_closed ∈ wsL_law := inR_23 _ (List.mem_of_getElem? (i := 12) rfl)
theorem LK_X12_214 : Cond.methodLink RX12 214 yX12_painting ∈ wsL_law := inR_23 _ (List.mem_of_getElem? (i := 16) rfl)
theorem LK_X12_80 : Cond.methodLink RX12 80 yX12_copy ∈ wsL_law := inR_23 _ (List.mem_of_getElem? (i := 20) rfl)
theorem LK_L_159 : Cond.methodLink RL 159 yX12_thrown ∈ wsL_law := inR_23 _ (List.mem_of_getElem? (i := 23) rfl)
theorem LK_L_163 : Cond.methodLink RL 163 yX11_errorKind ∈ wsL_law := inR_24 _ (List.mem_of_getElem? (i := 3) rfl)
theorem LK_L_166 : Cond.methodLink RL 166 yX12_errorKind ∈ wsL_law := inR_24 _ (List.mem_of_getElem? (i := 7) rfl)
theorem LK_L_167 : Cond.methodLink RL 167 yX11_errorPosition ∈ wsL_law := inR_24 _ (List.mem_of_getElem? (i := 11) rfl)
theorem LK_L_170 : Cond.methodLink RL 170 yX12_errorPosition ∈ wsL_law := inR_24 _ (List.mem_of_getElem? (i := 15) rfl)
theorem LK_L_171 : Cond.methodLink RL 171 yL_rustBefore ∈ wsL_law := inR_24 _ (List.mem_of_getElem? (i := 19) rfl)
theorem LK_L_15 : Cond.methodLink RL 15 yX11_rustBefore ∈ wsL_law := inR_24 _ (List.mem_of_getElem? (i := 23) rfl)
theorem LK_X11_131 : Cond.methodLink RX11 131 yX11_checkSpan ∈ wsL_law := inR_25 _ (List.mem_of_getElem? (i := 3) rfl)
theorem LK_X11_134 : Cond.methodLink RX11 134 yX11_checkYear ∈ wsL_law := inR_25 _ (List.mem_of_getElem? (i := 9) rfl)
theorem LK_X11_137 : Cond.methodLink RX11 137 yX6_rustAtStart ∈ wsL_law := inR_25 _ (List.mem_of_getElem? (i := 13) rfl)
theorem LK_L_174 : Cond.methodLink RL 174 yX12_rustBefore ∈ wsL_law := inR_25 _ (List.mem_of_getElem? (i := 17) rfl)
theorem LK_X12_252 : Cond.methodLink RX12 252 yX12_goodSpan ∈ wsL_law := inR_25 _ (List.mem_of_getElem? (i := 21) rfl)
theorem LK_X12_88 : Cond.methodLink RX12 88 yX12_isSpan ∈ wsL_law := inR_26 _ (List.mem_of_getElem? (i := 1) rfl)
theorem LK_X12_92 : Cond.methodLink RX12 92 yX12_isYear ∈ wsL_law := inR_26 _ (List.mem_of_getElem? (i := 5) rfl)
theorem LK_X12_95 : Cond.methodLink RX12 95 yX12_good ∈ wsL_law := inR_26 _ (List.mem_of_getElem? (i := 9) rfl)
theorem LK_X12_243 : Cond.methodLink RX12 243 yX12_lay ∈ wsL_law := inR_26 _ (List.mem_of_getElem? (i := 13) rfl)
theorem LK_X12_236 : Cond.methodLink RX12 236 yX12_paintedYears ∈ wsL_law := inR_26 _ (List.mem_of_getElem? (i := 17) rfl)
theorem LK_X12_233 : Cond.methodLink RX12 233 yX12_painter ∈ wsL_law := inR_26 _ (List.mem_of_getElem? (i := 21) rfl)
theorem LK_X12_239 : Cond.methodLink RX12 239 yX12_layBy ∈ wsL_law := inR_27 _ (List.mem_of_getElem? (i := 1) rfl)
theorem LK_X12_228 : Cond.methodLink RX12 228 Lib.Math.min.name ∈ wsL_law := inR_27 _ (List.mem_of_getElem? (i := 5) rfl)
theorem LK_X12_224 : Cond.methodLink RX12 224 yX12_spanOf ∈ wsL_law := inR_27 _ (List.mem_of_getElem? (i := 6) rfl)
theorem LK_L_175 : Cond.methodLink RL 175 yL_rustAfter ∈ wsL_law := inR_27 _ (List.mem_of_getElem? (i := 10) rfl)
theorem LK_L_21 : Cond.methodLink RL 21 yX11_rustAfter ∈ wsL_law := inR_27 _ (List.mem_of_getElem? (i := 13) rfl)
theorem LK_X11_141 : Cond.methodLink RX11 141 yX6_rustAtEnd ∈ wsL_law := inR_27 _ (List.mem_of_getElem? (i := 17) rfl)
theorem LK_L_177 : Cond.methodLink RL 177 yX12_rustAfter ∈ wsL_law := inR_27 _ (List.mem_of_getElem? (i := 21) rfl)
theorem LK_L_178 : Cond.methodLink RL 178 yL_guardLeft ∈ wsL_law := inR_28 _ (List.mem_of_getElem? (i := 1) rfl)
theorem LK_L_24 : Cond.methodLink RL 24 yX11_guardLeft ∈ wsL_law := inR_28 _ (List.mem_of_getElem? (i := 4) rfl)
theorem LK_X11_144 : Cond.methodLink RX11 144 yX6_guardAtStart ∈ wsL_law := inR_28 _ (List.mem_of_getElem? (i := 8) rfl)
theorem LK_L_180 : Cond.methodLink RL 180 yX12_guardLeft ∈ wsL_law := inR_28 _ (List.mem_of_getElem? (i := 12) rfl)
theorem LK_L_181 : Cond.methodLink RL 181 yL_pastYear ∈ wsL_law := inR_28 _ (List.mem_of_getElem? (i := 16) rfl)
theorem LK_L_27 : Cond.methodLink RL 27 yX11_pastYear ∈ wsL_law := inR_28 _ (List.mem_of_getElem? (i := 19) rfl)
theorem LK_X11_147 : Cond.methodLink RX11 147 yX6_firstPast ∈ wsL_law := inR_28 _ (List.mem_of_getElem? (i := 23) rfl)
theorem LK_X6_75 : Cond.methodLink RX6 75 yX6_isPast ∈ wsL_law := inR_29 _ (List.mem_of_getElem? (i := 4) rfl)
theorem LK_L_183 : Cond.methodLink RL 183 yX12_pastYear ∈ wsL_law := inR_29 _ (List.mem_of_getElem? (i := 8) rfl)
theorem LK_X12_249 : Cond.methodLink RX12 249 yX12_firstPast ∈ wsL_law := inR_29 _ (List.mem_of_getElem? (i := 12) rfl)
theorem LK_X12_246 : Cond.methodLink RX12 246 yX12_pastLaid ∈ wsL_law := inR_29 _ (List.mem_of_getElem? (i := 16) rfl)
theorem LK_L_184 : Cond.methodLink RL 184 yX11_pastCount ∈ wsL_law := inR_29 _ (List.mem_of_getElem? (i := 20) rfl)
theorem LK_X11_151 : Cond.methodLink RX11 151 yX6_countPast ∈ wsL_law := inR_30 _ (List.mem_of_getElem? (i := 0) rfl)
theorem LK_X6_79 : Cond.methodLink RX6 79 yX6_firstPast ∈ wsL_law := inR_30 _ (List.mem_of_getElem? (i := 4) rfl)
theorem LK_L_187 : Cond.methodLink RL 187 yX12_pastCount ∈ wsL_law := inR_30 _ (List.mem_of_getElem? (i := 5) rfl)
theorem LK_X12_255 : Cond.methodLink RX12 255 yX12_countPast ∈ wsL_law := inR_30 _ (List.mem_of_getElem? (i := 9) rfl)
theorem LK_L_188 : Cond.methodLink RL 188 yL_pastSpans ∈ wsL_law := inR_30 _ (List.mem_of_getElem? (i := 13) rfl)
theorem LK_L_30 : Cond.methodLink RL 30 yX11_pastSpans ∈ wsL_law := inR_30 _ (List.mem_of_getElem? (i := 16) rfl)
theorem LK_X11_154 : Cond.methodLink RX11 154 yX6_isPast ∈ wsL_law := inR_30 _ (List.mem_of_getElem? (i := 20) rfl)
theorem LK_L_190 : Cond.methodLink RL 190 yX12_pastSpans ∈ wsL_law := inR_30 _ (List.mem_of_getElem? (i := 21) rfl)
theorem LK_L_191 : Cond.methodLink RL 191 yL_rustiest ∈ wsL_law := inR_31 _ (List.mem_of_getElem? (i := 1) rfl)
theorem LK_L_33 : Cond.methodLink RL 33 yX11_rustiest ∈ wsL_law := inR_31 _ (List.mem_of_getElem? (i := 4) rfl)
theorem LK_L_193 : Cond.methodLink RL 193 yX12_rustiest ∈ wsL_law := inR_31 _ (List.mem_of_getElem? (i := 8) rfl)
theorem LK_X12_258 : Cond.methodLink RX12 258 Lib.Math.max.name ∈ wsL_law := inR_31 _ (List.mem_of_getElem? (i := 12) rfl)
theorem LK_L_194 : Cond.methodLink RL 194 yL_averageRust ∈ wsL_law := inR_31 _ (List.mem_of_getElem? (i := 15) rfl)
theorem LK_L_36 : Cond.methodLink RL 36 yX11_averageRust ∈ wsL_law := inR_31 _ (List.mem_of_getElem? (i := 18) rfl)
theorem LK_L_197 : Cond.methodLink RL 197 yX12_averageRust ∈ wsL_law := inR_31 _ (List.mem_of_getElem? (i := 22) rfl)
theorem LK_L_198 : Cond.methodLink RL 198 yL_urgent ∈ wsL_law := inR_32 _ (List.mem_of_getElem? (i := 2) rfl)
theorem LK_L_40 : Cond.methodLink RL 40 yX11_urgent ∈ wsL_law := inR_32 _ (List.mem_of_getElem? (i := 5) rfl)
theorem LK_X11_167 : Cond.methodLink RX11 167 yX7_clear ∈ wsL_law := inR_32 _ (List.mem_of_getElem? (i := 9) rfl)
theorem LK_X11_171 : Cond.methodLink RX11 171 yX7_add ∈ wsL_law := inR_32 _ (List.mem_of_getElem? (i := 14) rfl)
theorem LK_X11_175 : Cond.methodLink RX11 175 yX7_spanAt ∈ wsL_law := inR_32 _ (List.mem_of_getElem? (i := 18) rfl)
theorem LK_L_200 : Cond.methodLink RL 200 yX12_urgent ∈ wsL_law := inR_32 _ (List.mem_of_getElem? (i := 22) rfl)
theorem LK_X12_261 : Cond.methodLink RX12 261 yX12_ranked ∈ wsL_law := inR_33 _ (List.mem_of_getElem? (i := 2) rfl)
theorem LK_X12_264 : Cond.methodLink RX12 264 yX12_isAhead ∈ wsL_law := inR_33 _ (List.mem_of_getElem? (i := 6) rfl)
theorem LK_L_201 : Cond.methodLink RL 201 yL_unpaintedPast ∈ wsL_law := inR_33 _ (List.mem_of_getElem? (i := 10) rfl)
theorem LK_L_43 : Cond.methodLink RL 43 yX11_unpaintedPast ∈ wsL_law := inR_33 _ (List.mem_of_getElem? (i := 13) rfl)
theorem LK_X11_181 : Cond.methodLink RX11 181 yX1_firstPastBare ∈ wsL_law := inR_33 _ (List.mem_of_getElem? (i := 17) rfl)
theorem LK_X1_76 : Cond.methodLink RX1 76 Lib.Math.min.name ∈ wsL_law := inR_33 _ (List.mem_of_getElem? (i := 21) rfl)
theorem LK_L_203 : Cond.methodLink RL 203 yX12_unpaintedPast ∈ wsL_law := inR_33 _ (List.mem_of_getElem? (i := 23) rfl)
theorem LK_X12_267 : Cond.methodLink RX12 267 yX12_pastBy ∈ wsL_law := inR_34 _ (List.mem_of_getElem? (i := 3) rfl)
theorem LK_L_204 : Cond.methodLink RL 204 yL_coatsNeeded ∈ wsL_law := inR_34 _ (List.mem_of_getElem? (i := 7) rfl)
theorem LK_L_46 : Cond.methodLink RL 46 yX11_coatsNeeded ∈ wsL_law := inR_34 _ (List.mem_of_getElem? (i := 10) rfl)
theorem LK_X11_184 : Cond.methodLink RX11 184 yX1_latestCoat ∈ wsL_law := inR_34 _ (List.mem_of_getElem? (i := 14) rfl)
theorem LK_X1_83 : Cond.methodLink RX1 83 Lib.Math.max.name ∈ wsL_law := inR_34 _ (List.mem_of_getElem? (i := 18) rfl)
theorem LK_L_206 : Cond.methodLink RL 206 yX12_coatsNeeded ∈ wsL_law := inR_34 _ (List.mem_of_getElem? (i := 19) rfl)
theorem LK_X12_270 : Cond.methodLink RX12 270 yX12_bits ∈ wsL_law := inR_34 _ (List.mem_of_getElem? (i := 23) rfl)
theorem LK_L_207 : Cond.methodLink RL 207 yL_latestPainting ∈ wsL_law := inR_35 _ (List.mem_of_getElem? (i := 2) rfl)
theorem LK_L_49 : Cond.methodLink RL 49 yX11_latestPainting ∈ wsL_law := inR_35 _ (List.mem_of_getElem? (i := 5) rfl)
theorem LK_L_209 : Cond.methodLink RL 209 yX12_latestPainting ∈ wsL_law := inR_35 _ (List.mem_of_getElem? (i := 9) rfl)
theorem LK_X12_273 : Cond.methodLink RX12 273 yX12_latest ∈ wsL_law := inR_35 _ (List.mem_of_getElem? (i := 13) rfl)
theorem LK_L_210 : Cond.methodLink RL 210 yL_harmlessRate ∈ wsL_law := inR_35 _ (List.mem_of_getElem? (i := 17) rfl)
theorem LK_L_52 : Cond.methodLink RL 52 yX11_harmlessRate ∈ wsL_law := inR_35 _ (List.mem_of_getElem? (i := 20) rfl)
theorem LK_L_212 : Cond.methodLink RL 212 yX12_harmlessRate ∈ wsL_law := inR_36 _ (List.mem_of_getElem? (i := 0) rfl)
theorem LK_L_213 : Cond.methodLink RL 213 yL_effort ∈ wsL_law := inR_36 _ (List.mem_of_getElem? (i := 4) rfl)
theorem LK_L_55 : Cond.methodLink RL 55 yX11_effort ∈ wsL_law := inR_36 _ (List.mem_of_getElem? (i := 7) rfl)
theorem LK_X11_187 : Cond.methodLink RX11 187 yX6_spanEffort ∈ wsL_law := inR_36 _ (List.mem_of_getElem? (i := 11) rfl)
theorem LK_L_215 : Cond.methodLink RL 215 yX12_effort ∈ wsL_law := inR_36 _ (List.mem_of_getElem? (i := 15) rfl)
theorem LK_X12_279 : Cond.methodLink RX12 279 yX12_effortOf ∈ wsL_law := inR_36 _ (List.mem_of_getElem? (i := 19) rfl)
theorem LK_L_216 : Cond.methodLink RL 216 yL_capacity ∈ wsL_law := inR_36 _ (List.mem_of_getElem? (i := 23) rfl)
theorem LK_L_58 : Cond.methodLink RL 58 yX11_capacity ∈ wsL_law := inR_37 _ (List.mem_of_getElem? (i := 2) rfl)
theorem LK_X11_190 : Cond.methodLink RX11 190 yX11_checkGang ∈ wsL_law := inR_37 _ (List.mem_of_getElem? (i := 6) rfl)
theorem LK_X11_193 : Cond.methodLink RX11 193 yX1_gangCapacity ∈ wsL_law := inR_37 _ (List.mem_of_getElem? (i := 10) rfl)
theorem LK_L_218 : Cond.methodLink RL 218 yX12_capacity ∈ wsL_law := inR_37 _ (List.mem_of_getElem? (i := 14) rfl)
theorem LK_X12_285 : Cond.methodLink RX12 285 yX12_goodGang ∈ wsL_law := inR_37 _ (List.mem_of_getElem? (i := 18) rfl)
theorem LK_X12_282 : Cond.methodLink RX12 282 yX12_isGang ∈ wsL_law := inR_37 _ (List.mem_of_getElem? (i := 22) rfl)
theorem LK_X12_288 : Cond.methodLink RX12 288 yX12_capacityOf ∈ wsL_law := inR_38 _ (List.mem_of_getElem? (i := 2) rfl)
theorem LK_X12_276 : Cond.methodLink RX12 276 yX12_propertyOf ∈ wsL_law := inR_38 _ (List.mem_of_getElem? (i := 6) rfl)
theorem LK_L_219 : Cond.methodLink RL 219 yL_loadOf ∈ wsL_law := inR_38 _ (List.mem_of_getElem? (i := 10) rfl)
theorem LK_L_61 : Cond.methodLink RL 61 yX11_loadOf ∈ wsL_law := inR_38 _ (List.mem_of_getElem? (i := 13) rfl)
theorem LK_X11_196 : Cond.methodLink RX11 196 yX6_gangLoad ∈ wsL_law := inR_38 _ (List.mem_of_getElem? (i := 17) rfl)
theorem LK_X6_86 : Cond.methodLink RX6 86 yX6_painter ∈ wsL_law := inR_38 _ (List.mem_of_getElem? (i := 21) rfl)
theorem LK_X6_89 : Cond.methodLink RX6 89 yX6_spanEffort ∈ wsL_law := inR_39 _ (List.mem_of_getElem? (i := 1) rfl)
theorem LK_L_221 : Cond.methodLink RL 221 yX12_loadOf ∈ wsL_law := inR_39 _ (List.mem_of_getElem? (i := 2) rfl)
theorem LK_X12_291 : Cond.methodLink RX12 291 yX12_loadIn ∈ wsL_law := inR_39 _ (List.mem_of_getElem? (i := 6) rfl)
theorem LK_L_222 : Cond.methodLink RL 222 yL_gangOf ∈ wsL_law := inR_39 _ (List.mem_of_getElem? (i := 10) rfl)
theorem LK_L_64 : Cond.methodLink RL 64 yX11_gangOf ∈ wsL_law := inR_39 _ (List.mem_of_getElem? (i := 13) rfl)
theorem LK_X11_199 : Cond.methodLink RX11 199 yX6_isPainted ∈ wsL_law := inR_39 _ (List.mem_of_getElem? (i := 17) rfl)
theorem LK_X11_202 : Cond.methodLink RX11 202 yX6_painter ∈ wsL_law := inR_39 _ (List.mem_of_getElem? (i := 18) rfl)
theorem LK_L_224 : Cond.methodLink RL 224 yX12_gangOf ∈ wsL_law := inR_39 _ (List.mem_of_getElem? (i := 19) rfl)
theorem LK_X12_294 : Cond.methodLink RX12 294 yX12_orNotFound ∈ wsL_law := inR_39 _ (List.mem_of_getElem? (i := 23) rfl)
theorem LK_L_225 : Cond.methodLink RL 225 yL_paintedSpans ∈ wsL_law := inR_40 _ (List.mem_of_getElem? (i := 2) rfl)
theorem LK_L_67 : Cond.methodLink RL 67 yX11_paintedSpans ∈ wsL_law := inR_40 _ (List.mem_of_getElem? (i := 5) rfl)
theorem LK_L_227 : Cond.methodLink RL 227 yX12_paintedSpans ∈ wsL_law := inR_40 _ (List.mem_of_getElem? (i := 9) rfl)
theorem LK_L_228 : Cond.methodLink RL 228 yL_lanesShut ∈ wsL_law := inR_40 _ (List.mem_of_getElem? (i := 13) rfl)
theorem LK_L_70 : Cond.methodLink RL 70 yX11_lanesShut ∈ wsL_law := inR_40 _ (List.mem_of_getElem? (i := 16) rfl)
theorem LK_X11_205 : Cond.methodLink RX11 205 yX6_shutLanes ∈ wsL_law := inR_40 _ (List.mem_of_getElem? (i := 20) rfl)
theorem LK_L_230 : Cond.methodLink RL 230 yX12_lanesShut ∈ wsL_law := inR_41 _ (List.mem_of_getElem? (i := 0) rfl)
theorem LK_X12_297 : Cond.methodLink RX12 297 yX12_shutIn ∈ wsL_law := inR_41 _ (List.mem_of_getElem? (i := 4) rfl)
theorem LK_L_231 : Cond.methodLink RL 231 yX11_paintings ∈ wsL_law := inR_41 _ (List.mem_of_getElem? (i := 8) rfl)
theorem LK_X11_208 : Cond.methodLink RX11 208 yX6_countPaintings ∈ wsL_law := inR_41 _ (List.mem_of_getElem? (i := 12) rfl)
theorem LK_L_234 : Cond.methodLink RL 234 yX12_paintings ∈ wsL_law := inR_41 _ (List.mem_of_getElem? (i := 16) rfl)
theorem LK_L_235 : Cond.methodLink RL 235 yL_daysUsed ∈ wsL_law := inR_41 _ (List.mem_of_getElem? (i := 20) rfl)
theorem LK_L_73 : Cond.methodLink RL 73 yX11_daysUsed ∈ wsL_law := inR_41 _ (List.mem_of_getElem? (i := 23) rfl)
theorem LK_X11_211 : Cond.methodLink RX11 211 yX6_gangDays ∈ wsL_law := inR_42 _ (List.mem_of_getElem? (i := 3) rfl)
theorem LK_X6_92 : Cond.methodLink RX6 92 yX1_daysOf ∈ wsL_law := inR_42 _ (List.mem_of_getElem? (i := 7) rfl)
theorem LK_L_237 : Cond.methodLink RL 237 yX12_daysUsed ∈ wsL_law := inR_42 _ (List.mem_of_getElem? (i := 11) rfl)
theorem LK_X12_303 : Cond.methodLink RX12 303 yX12_daysIn ∈ wsL_law := inR_42 _ (List.mem_of_getElem? (i := 15) rfl)
theorem LK_X12_300 : Cond.methodLink RX12 300 yX12_daysOf ∈ wsL_law := inR_42 _ (List.mem_of_getElem? (i := 19) rfl)
theorem LK_L_238 : Cond.methodLink RL 238 yL_laneDays ∈ wsL_law := inR_42 _ (List.mem_of_getElem? (i := 23) rfl)
theorem LK_L_76 : Cond.methodLink RL 76 yX11_laneDays ∈ wsL_law := inR_43 _ (List.mem_of_getElem? (i := 2) rfl)
theorem LK_X11_214 : Cond.methodLink RX11 214 yX11_checkLane ∈ wsL_law := inR_43 _ (List.mem_of_getElem? (i := 6) rfl)
theorem LK_X11_217 : Cond.methodLink RX11 217 yX6_daysOnLane ∈ wsL_law := inR_43 _ (List.mem_of_getElem? (i := 10) rfl)
theorem LK_L_240 : Cond.methodLink RL 240 yX12_laneDays ∈ wsL_law := inR_43 _ (List.mem_of_getElem? (i := 14) rfl)
theorem LK_X12_306 : Cond.methodLink RX12 306 yX12_isLane ∈ wsL_law := inR_43 _ (List.mem_of_getElem? (i := 18) rfl)
theorem LK_X12_309 : Cond.methodLink RX12 309 yX12_laneIn ∈ wsL_law := inR_43 _ (List.mem_of_getElem? (i := 22) rfl)
theorem LK_L_241 : Cond.methodLink RL 241 yL_trafficLoss ∈ wsL_law := inR_44 _ (List.mem_of_getElem? (i := 2) rfl)
theorem LK_L_79 : Cond.methodLink RL 79 yX11_trafficLoss ∈ wsL_law := inR_44 _ (List.mem_of_getElem? (i := 5) rfl)
theorem LK_X11_220 : Cond.methodLink RX11 220 yX6_lossIn ∈ wsL_law := inR_44 _ (List.mem_of_getElem? (i := 9) rfl)
theorem LK_X6_104 : Cond.methodLink RX6 104 yX6_daysOnLane ∈ wsL_law := inR_44 _ (List.mem_of_getElem? (i := 13) rfl)
theorem LK_L_243 : Cond.methodLink RL 243 yX12_trafficLoss ∈ wsL_law := inR_44 _ (List.mem_of_getElem? (i := 14) rfl)
theorem LK_X12_312 : Cond.methodLink RX12 312 yX12_lossIn ∈ wsL_law := inR_44 _ (List.mem_of_getElem? (i := 18) rfl)
theorem LK_L_244 : Cond.methodLink RL 244 yL_wages ∈ wsL_law := inR_44 _ (List.mem_of_getElem? (i := 22) rfl)
theorem LK_L_82 : Cond.methodLink RL 82 yX11_wages ∈ wsL_law := inR_45 _ (List.mem_of_getElem? (i := 1) rfl)
theorem LK_X11_223 : Cond.methodLink RX11 223 yX6_wagesIn ∈ wsL_law := inR_45 _ (List.mem_of_getElem? (i := 5) rfl)
theorem LK_X6_113 : Cond.methodLink RX6 113 yX6_gangDays ∈ wsL_law := inR_45 _ (List.mem_of_getElem? (i := 9) rfl)
theorem LK_L_246 : Cond.methodLink RL 246 yX12_wages ∈ wsL_law := inR_45 _ (List.mem_of_getElem? (i := 10) rfl)
theorem LK_X12_315 : Cond.methodLink RX12 315 yX12_wagesIn ∈ wsL_law := inR_45 _ (List.mem_of_getElem? (i := 14) rfl)
theorem LK_L_247 : Cond.methodLink RL 247 yX11_totalWages ∈ wsL_law := inR_45 _ (List.mem_of_getElem? (i := 18) rfl)
theorem LK_L_250 : Cond.methodLink RL 250 yX12_totalWages ∈ wsL_law := inR_45 _ (List.mem_of_getElem? (i := 22) rfl)
theorem LK_L_251 : Cond.methodLink RL 251 yX11_totalLoss ∈ wsL_law := inR_46 _ (List.mem_of_getElem? (i := 2) rfl)
theorem LK_L_254 : Cond.methodLink RL 254 yX12_totalLoss ∈ wsL_law := inR_46 _ (List.mem_of_getElem? (i := 6) rfl)
theorem LK_L_255 : Cond.methodLink RL 255 yX11_busiestYear ∈ wsL_law := inR_46 _ (List.mem_of_getElem? (i := 10) rfl)
theorem LK_L_258 : Cond.methodLink RL 258 yX12_busiestYear ∈ wsL_law := inR_46 _ (List.mem_of_getElem? (i := 14) rfl)
theorem LK_L_259 : Cond.methodLink RL 259 yL_idleDays ∈ wsL_law := inR_46 _ (List.mem_of_getElem? (i := 18) rfl)
theorem LK_L_85 : Cond.methodLink RL 85 yX11_idleDays ∈ wsL_law := inR_46 _ (List.mem_of_getElem? (i := 21) rfl)
theorem LK_X11_232 : Cond.methodLink RX11 232 Lib.Math.max.name ∈ wsL_law := inR_47 _ (List.mem_of_getElem? (i := 1) rfl)
theorem LK_L_261 : Cond.methodLink RL 261 yX12_idleDays ∈ wsL_law := inR_47 _ (List.mem_of_getElem? (i := 2) rfl)
theorem LK_L_262 : Cond.methodLink RL 262 yX11_overloads ∈ wsL_law := inR_47 _ (List.mem_of_getElem? (i := 6) rfl)
theorem LK_X11_237 : Cond.methodLink RX11 237 yX6_countOverloads ∈ wsL_law := inR_47 _ (List.mem_of_getElem? (i := 10) rfl)
theorem LK_X6_122 : Cond.methodLink RX6 122 yX6_isOverloaded ∈ wsL_law := inR_47 _ (List.mem_of_getElem? (i := 14) rfl)
theorem LK_X6_116 : Cond.methodLink RX6 116 yX6_gangLoad ∈ wsL_law := inR_47 _ (List.mem_of_getElem? (i := 18) rfl)
theorem LK_X6_119 : Cond.methodLink RX6 119 yX1_gangCapacity ∈ wsL_law := inR_47 _ (List.mem_of_getElem? (i := 19) rfl)
theorem LK_L_265 : Cond.methodLink RL 265 yX12_overloads ∈ wsL_law := inR_47 _ (List.mem_of_getElem? (i := 20) rfl)
theorem LK_X12_321 : Cond.methodLink RX12 321 yX12_countOver ∈ wsL_law := inR_48 _ (List.mem_of_getElem? (i := 0) rfl)
theorem LK_X12_318 : Cond.methodLink RX12 318 yX12_isOver ∈ wsL_law := inR_48 _ (List.mem_of_getElem? (i := 4) rfl)
theorem LK_L_266 : Cond.methodLink RL 266 yX11_firstOverload ∈ wsL_law := inR_48 _ (List.mem_of_getElem? (i := 8) rfl)
theorem LK_X11_240 : Cond.methodLink RX11 240 yX6_isOverloaded ∈ wsL_law := inR_48 _ (List.mem_of_getElem? (i := 12) rfl)
theorem LK_L_269 : Cond.methodLink RL 269 yX12_firstOverload ∈ wsL_law := inR_48 _ (List.mem_of_getElem? (i := 13) rfl)
theorem LK_L_270 : Cond.methodLink RL 270 yL_refusal ∈ wsL_law := inR_48 _ (List.mem_of_getElem? (i := 17) rfl)
theorem LK_L_88 : Cond.methodLink RL 88 yX11_refusal ∈ wsL_law := inR_48 _ (List.mem_of_getElem? (i := 20) rfl)
theorem LK_X11_243 : Cond.methodLink RX11 243 yX6_reasonAgainst ∈ wsL_law := inR_49 _ (List.mem_of_getElem? (i := 0) rfl)
theorem LK_X6_128 : Cond.methodLink RX6 128 yX1_isClosed ∈ wsL_law := inR_49 _ (List.mem_of_getElem? (i := 4) rfl)
theorem LK_X6_131 : Cond.methodLink RX6 131 yX6_shutLanes ∈ wsL_law := inR_49 _ (List.mem_of_getElem? (i := 8) rfl)
theorem LK_X6_134 : Cond.methodLink RX6 134 yJ6_bitCount_0f7a4 ∈ wsL_law := inR_49 _ (List.mem_of_getElem? (i := 9) rfl)
theorem LK_L_273 : Cond.methodLink RL 273 yX12_refusal ∈ wsL_law := inR_49 _ (List.mem_of_getElem? (i := 16) rfl)
theorem LK_X12_324 : Cond.methodLink RX12 324 yX12_goodPainting ∈ wsL_law := inR_49 _ (List.mem_of_getElem? (i := 20) rfl)
theorem LK_X12_327 : Cond.methodLink RX12 327 yX12_refusalOf ∈ wsL_law := inR_50 _ (List.mem_of_getElem? (i := 0) rfl)
theorem LK_L_274 : Cond.methodLink RL 274 yL_possibleGangs ∈ wsL_law := inR_50 _ (List.mem_of_getElem? (i := 4) rfl)
theorem LK_L_92 : Cond.methodLink RL 92 yX11_possibleGangs ∈ wsL_law := inR_50 _ (List.mem_of_getElem? (i := 7) rfl)
theorem LK_L_276 : Cond.methodLink RL 276 yX12_possibleGangs ∈ wsL_law := inR_50 _ (List.mem_of_getElem? (i := 11) rfl)
theorem LK_L_277 : Cond.methodLink RL 277 yL_firstPossible ∈ wsL_law := inR_50 _ (List.mem_of_getElem? (i := 15) rfl)
theorem LK_L_95 : Cond.methodLink RL 95 yX11_firstPossible ∈ wsL_law := inR_50 _ (List.mem_of_getElem? (i := 18) rfl)
theorem LK_L_279 : Cond.methodLink RL 279 yX12_firstPossible ∈ wsL_law := inR_50 _ (List.mem_of_getElem? (i := 22) rfl)
theorem LK_L_280 : Cond.methodLink RL 280 yL_bestPainting ∈ wsL_law := inR_51 _ (List.mem_of_getElem? (i := 2) rfl)
theorem LK_L_98 : Cond.methodLink RL 98 yX11_bestPainting ∈ wsL_law := inR_51 _ (List.mem_of_getElem? (i := 5) rfl)
theorem LK_X11_247 : Cond.methodLink RX11 247 yX11_pastCountWith ∈ wsL_law := inR_51 _ (List.mem_of_getElem? (i := 9) rfl)
theorem LK_X11_257 : Cond.methodLink RX11 257 yX6_put ∈ wsL_law := inR_51 _ (List.mem_of_getElem? (i := 13) rfl)
theorem LK_L_282 : Cond.methodLink RL 282 yX12_bestPainting ∈ wsL_law := inR_51 _ (List.mem_of_getElem? (i := 14) rfl)
theorem LK_X12_331 : Cond.methodLink RX12 331 yX12_setPainter ∈ wsL_law := inR_51 _ (List.mem_of_getElem? (i := 18) rfl)
theorem LK_L_283 : Cond.methodLink RL 283 yL_shutYears ∈ wsL_law := inR_51 _ (List.mem_of_getElem? (i := 22) rfl)
theorem LK_L_101 : Cond.methodLink RL 101 yX11_shutYears ∈ wsL_law := inR_52 _ (List.mem_of_getElem? (i := 1) rfl)
theorem LK_L_285 : Cond.methodLink RL 285 yX12_shutYears ∈ wsL_law := inR_52 _ (List.mem_of_getElem? (i := 5) rfl)
theorem LK_L_286 : Cond.methodLink RL 286 yL_needlessPaintings ∈ wsL_law := inR_52 _ (List.mem_of_getElem? (i := 9) rfl)
theorem LK_L_104 : Cond.methodLink RL 104 yX11_needlessPaintings ∈ wsL_law := inR_52 _ (List.mem_of_getElem? (i := 12) rfl)
theorem LK_L_288 : Cond.methodLink RL 288 yX12_needlessPaintings ∈ wsL_law := inR_52 _ (List.mem_of_getElem? (i := 16) rfl)
theorem LK_L_289 : Cond.methodLink RL 289 yL_sufficientSpeed ∈ wsL_law := inR_52 _ (List.mem_of_getElem? (i := 20) rfl)
theorem LK_L_107 : Cond.methodLink RL 107 yX11_sufficientSpeed ∈ wsL_law := inR_52 _ (List.mem_of_getElem? (i := 23) rfl)
theorem LK_X11_250 : Cond.methodLink RX11 250 yX6_canCopeAt ∈ wsL_law := inR_53 _ (List.mem_of_getElem? (i := 3) rfl)
theorem LK_L_291 : Cond.methodLink RL 291 yX12_sufficientSpeed ∈ wsL_law := inR_53 _ (List.mem_of_getElem? (i := 7) rfl)
theorem LK_L_292 : Cond.methodLink RL 292 yL_paint ∈ wsL_law := inR_53 _ (List.mem_of_getElem? (i := 11) rfl)
theorem LK_L_110 : Cond.methodLink RL 110 yX11_paint ∈ wsL_law := inR_53 _ (List.mem_of_getElem? (i := 14) rfl)
theorem LK_X11_254 : Cond.methodLink RX11 254 yX11_remember ∈ wsL_law := inR_53 _ (List.mem_of_getElem? (i := 19) rfl)
theorem LK_X11_345 : Cond.methodLink RX11 345 yX2_keep ∈ wsL_law := inR_53 _ (List.mem_of_getElem? (i := 23) rfl)
theorem LK_X2_30 : Cond.methodLink RX2 30 Lib.Math.min.name ∈ wsL_law := inR_54 _ (List.mem_of_getElem? (i := 3) rfl)
theorem LK_X2_25 : Cond.methodLink RX2 25 yX1_saveTo ∈ wsL_law := inR_54 _ (List.mem_of_getElem? (i := 4) rfl)
theorem LK_X1_70 : Cond.methodLink RX1 70 arraycopyName ∈ wsL_law := inR_54 _ (List.mem_of_getElem? (i := 8) rfl)
theorem LK_X2_29 : Cond.methodLink RX2 29 yX6_saveTo ∈ wsL_law := inR_54 _ (List.mem_of_getElem? (i := 12) rfl)
theorem LK_X6_40 : Cond.methodLink RX6 40 arraycopyName ∈ wsL_law := inR_54 _ (List.mem_of_getElem? (i := 16) rfl)
theorem LK_L_294 : Cond.methodLink RL 294 yX12_paint ∈ wsL_law := inR_54 _ (List.mem_of_getElem? (i := 17) rfl)
theorem LK_X12_336 : Cond.methodLink RX12 336 yX12_remember ∈ wsL_law := inR_54 _ (List.mem_of_getElem? (i := 22) rfl)
theorem LK_L_295 : Cond.methodLink RL 295 yL_unpaint ∈ wsL_law := inR_55 _ (List.mem_of_getElem? (i := 2) rfl)
theorem LK_L_113 : Cond.methodLink RL 113 yX11_unpaint ∈ wsL_law := inR_55 _ (List.mem_of_getElem? (i := 5) rfl)
theorem LK_L_297 : Cond.methodLink RL 297 yX12_unpaint ∈ wsL_law := inR_55 _ (List.mem_of_getElem? (i := 9) rfl)
theorem LK_L_298 : Cond.methodLink RL 298 yL_movePainting ∈ wsL_law := inR_55 _ (List.mem_of_getElem? (i := 13) rfl)
theorem LK_L_116 : Cond.methodLink RL 116 yX11_movePainting ∈ wsL_law := inR_55 _ (List.mem_of_getElem? (i := 16) rfl)
theorem LK_L_300 : Cond.methodLink RL 300 yX12_movePainting ∈ wsL_law := inR_55 _ (List.mem_of_getElem? (i := 21) rfl)
theorem LK_L_301 : Cond.methodLink RL 301 yL_exchange ∈ wsL_law := inR_56 _ (List.mem_of_getElem? (i := 2) rfl)
theorem LK_L_119 : Cond.methodLink RL 119 yX11_exchange ∈ wsL_law := inR_56 _ (List.mem_of_getElem? (i := 5) rfl)
theorem LK_L_303 : Cond.methodLink RL 303 yX12_exchange ∈ wsL_law := inR_56 _ (List.mem_of_getElem? (i := 9) rfl)
theorem LK_L_304 : Cond.methodLink RL 304 yL_setWeather ∈ wsL_law := inR_56 _ (List.mem_of_getElem? (i := 13) rfl)
theorem LK_L_122 : Cond.methodLink RL 122 yX11_setWeather ∈ wsL_law := inR_56 _ (List.mem_of_getElem? (i := 16) rfl)
theorem LK_X11_261 : Cond.methodLink RX11 261 yX11_checkRange ∈ wsL_law := inR_56 _ (List.mem_of_getElem? (i := 20) rfl)
theorem LK_L_306 : Cond.methodLink RL 306 yX12_setWeather ∈ wsL_law := inR_56 _ (List.mem_of_getElem? (i := 23) rfl)
theorem LK_X12_342 : Cond.methodLink RX12 342 yX12_good_ ∈ wsL_law := inR_57 _ (List.mem_of_getElem? (i := 4) rfl)
theorem LK_X12_345 : Cond.methodLink RX12 345 yX12_set ∈ wsL_law := inR_57 _ (List.mem_of_getElem? (i := 8) rfl)
theorem LK_L_307 : Cond.methodLink RL 307 yL_setShut ∈ wsL_law := inR_57 _ (List.mem_of_getElem? (i := 12) rfl)
theorem LK_L_125 : Cond.methodLink RL 125 yX11_setShut ∈ wsL_law := inR_57 _ (List.mem_of_getElem? (i := 15) rfl)
theorem LK_L_309 : Cond.methodLink RL 309 yX12_setShut ∈ wsL_law := inR_57 _ (List.mem_of_getElem? (i := 19) rfl)
theorem LK_L_310 : Cond.methodLink RL 310 yL_setClosed ∈ wsL_law := inR_58 _ (List.mem_of_getElem? (i := 0) rfl)
theorem LK_L_128 : Cond.methodLink RL 128 yX11_setClosed ∈ wsL_law := inR_58 _ (List.mem_of_getElem? (i := 3) rfl)
theorem LK_X11_267 : Cond.methodLink RX11 267 yX1_isClosed ∈ wsL_law := inR_58 _ (List.mem_of_getElem? (i := 7) rfl)
theorem LK_L_313 : Cond.methodLink RL 313 yX12_setClosed ∈ wsL_law := inR_58 _ (List.mem_of_getElem? (i := 8) rfl)
theorem LK_L_314 : Cond.methodLink RL 314 yL_setRate ∈ wsL_law := inR_58 _ (List.mem_of_getElem? (i := 12) rfl)
theorem LK_L_132 : Cond.methodLink RL 132 yX11_setRate ∈ wsL_law := inR_58 _ (List.mem_of_getElem? (i := 15) rfl)
theorem LK_X11_273 : Cond.methodLink RX11 273 yX6_follow ∈ wsL_law := inR_58 _ (List.mem_of_getElem? (i := 19) rfl)
theorem LK_L_316 : Cond.methodLink RL 316 yX12_setRate ∈ wsL_law := inR_58 _ (List.mem_of_getElem? (i := 20) rfl)
theorem LK_L_317 : Cond.methodLink RL 317 yL_setSpeed ∈ wsL_law := inR_59 _ (List.mem_of_getElem? (i := 1) rfl)
theorem LK_L_135 : Cond.methodLink RL 135 yX11_setSpeed ∈ wsL_law := inR_59 _ (List.mem_of_getElem? (i := 4) rfl)
theorem LK_L_319 : Cond.methodLink RL 319 yX12_setSpeed ∈ wsL_law := inR_59 _ (List.mem_of_getElem? (i := 8) rfl)
theorem LK_L_320 : Cond.methodLink RL 320 yX11_autoPlan ∈ wsL_law := inR_59 _ (List.mem_of_getElem? (i := 12) rfl)
theorem LK_X11_279 : Cond.methodLink RX11 279 yX0_makePlan ∈ wsL_law := inR_59 _ (List.mem_of_getElem? (i := 16) rfl)
theorem LK_X0_18 : Cond.methodLink RX0 18 yX6_start ∈ wsL_law := inR_59 _ (List.mem_of_getElem? (i := 20) rfl)
theorem LK_X0_30 : Cond.methodLink RX0 30 yX0_rankCandidates ∈ wsL_law := inR_59 _ (List.mem_of_getElem? (i := 21) rfl)
theorem LK_X0_50 : Cond.methodLink RX0 50 yX7_clear ∈ wsL_law := inR_60 _ (List.mem_of_getElem? (i := 2) rfl)
theorem LK_X0_56 : Cond.methodLink RX0 56 yX6_firstPast ∈ wsL_law := inR_60 _ (List.mem_of_getElem? (i := 3) rfl)
theorem LK_X0_60 : Cond.methodLink RX0 60 yX6_rustAtStart ∈ wsL_law := inR_60 _ (List.mem_of_getElem? (i := 4) rfl)
theorem LK_X0_64 : Cond.methodLink RX0 64 yX7_add ∈ wsL_law := inR_60 _ (List.mem_of_getElem? (i := 5) rfl)
theorem LK_X0_34 : Cond.methodLink RX0 34 yX7_size ∈ wsL_law := inR_60 _ (List.mem_of_getElem? (i := 6) rfl)
theorem LK_X0_38 : Cond.methodLink RX0 38 yX7_spanAt ∈ wsL_law := inR_60 _ (List.mem_of_getElem? (i := 10) rfl)
theorem LK_X0_42 : Cond.methodLink RX0 42 yX0_tightestGang ∈ wsL_law := inR_60 _ (List.mem_of_getElem? (i := 11) rfl)
theorem LK_X0_70 : Cond.methodLink RX0 70 yX6_reasonAgainst ∈ wsL_law := inR_60 _ (List.mem_of_getElem? (i := 15) rfl)
theorem LK_X0_74 : Cond.methodLink RX0 74 yX6_capacityLeft ∈ wsL_law := inR_60 _ (List.mem_of_getElem? (i := 16) rfl)
theorem LK_X0_46 : Cond.methodLink RX0 46 yX6_put ∈ wsL_law := inR_60 _ (List.mem_of_getElem? (i := 20) rfl)
theorem LK_X11_283 : Cond.methodLink RX11 283 yX6_hasPaintingsOf ∈ wsL_law := inR_60 _ (List.mem_of_getElem? (i := 21) rfl)
theorem LK_L_323 : Cond.methodLink RL 323 yX12_autoPlan ∈ wsL_law := inR_61 _ (List.mem_of_getElem? (i := 1) rfl)
theorem LK_X12_376 : Cond.methodLink RX12 376 yX12_putAside ∈ wsL_law := inR_61 _ (List.mem_of_getElem? (i := 5) rfl)
theorem LK_X12_370 : Cond.methodLink RX12 370 yX12_makePlan ∈ wsL_law := inR_61 _ (List.mem_of_getElem? (i := 9) rfl)
theorem LK_X12_358 : Cond.methodLink RX12 358 yX12_clearPlan ∈ wsL_law := inR_61 _ (List.mem_of_getElem? (i := 13) rfl)
theorem LK_X12_361 : Cond.methodLink RX12 361 yX12_startYear ∈ wsL_law := inR_61 _ (List.mem_of_getElem? (i := 17) rfl)
theorem LK_X12_364 : Cond.methodLink RX12 364 yX12_chooseGang ∈ wsL_law := inR_61 _ (List.mem_of_getElem? (i := 22) rfl)
theorem LK_X12_355 : Cond.methodLink RX12 355 yX12_isLaneFree ∈ wsL_law := inR_62 _ (List.mem_of_getElem? (i := 2) rfl)
theorem LK_X12_367 : Cond.methodLink RX12 367 yX12_paintNow ∈ wsL_law := inR_62 _ (List.mem_of_getElem? (i := 6) rfl)
theorem LK_X12_379 : Cond.methodLink RX12 379 yX12_adopt ∈ wsL_law := inR_62 _ (List.mem_of_getElem? (i := 10) rfl)
theorem LK_X12_373 : Cond.methodLink RX12 373 yX12_isPlanAside ∈ wsL_law := inR_62 _ (List.mem_of_getElem? (i := 14) rfl)
theorem LK_L_324 : Cond.methodLink RL 324 yX11_applySafePlan ∈ wsL_law := inR_62 _ (List.mem_of_getElem? (i := 18) rfl)
theorem LK_X11_287 : Cond.methodLink RX11 287 yX8_makePlan ∈ wsL_law := inR_62 _ (List.mem_of_getElem? (i := 23) rfl)
theorem LK_X8_22 : Cond.methodLink RX8 22 yX6_start ∈ wsL_law := inR_63 _ (List.mem_of_getElem? (i := 5) rfl)
theorem LK_X8_28 : Cond.methodLink RX8 28 yX7_clear ∈ wsL_law := inR_63 _ (List.mem_of_getElem? (i := 6) rfl)
theorem LK_X8_36 : Cond.methodLink RX8 36 yX6_firstPast ∈ wsL_law := inR_63 _ (List.mem_of_getElem? (i := 7) rfl)
theorem LK_X8_41 : Cond.methodLink RX8 41 yX7_add ∈ wsL_law := inR_63 _ (List.mem_of_getElem? (i := 8) rfl)
theorem LK_X8_45 : Cond.methodLink RX8 45 yX8_placeFrom ∈ wsL_law := inR_63 _ (List.mem_of_getElem? (i := 9) rfl)
theorem LK_X8_49 : Cond.methodLink RX8 49 yX7_size ∈ wsL_law := inR_63 _ (List.mem_of_getElem? (i := 13) rfl)
theorem LK_X8_53 : Cond.methodLink RX8 53 yX7_spanAt ∈ wsL_law := inR_63 _ (List.mem_of_getElem? (i := 14) rfl)
theorem LK_X8_56 : Cond.methodLink RX8 56 yX7_yearAt ∈ wsL_law := inR_63 _ (List.mem_of_getElem? (i := 15) rfl)
theorem LK_X8_63 : Cond.methodLink RX8 63 yX6_reasonAgainst ∈ wsL_law := inR_63 _ (List.mem_of_getElem? (i := 19) rfl)
theorem LK_X8_67 : Cond.methodLink RX8 67 yX6_put ∈ wsL_law := inR_63 _ (List.mem_of_getElem? (i := 20) rfl)
theorem LK_L_327 : Cond.methodLink RL 327 yX12_applySafePlan ∈ wsL_law := inR_63 _ (List.mem_of_getElem? (i := 21) rfl)
theorem LK_X12_401 : Cond.methodLink RX12 401 yX12_searchAll ∈ wsL_law := inR_64 _ (List.mem_of_getElem? (i := 4) rfl)
theorem LK_X12_398 : Cond.methodLink RX12 398 yX12_findEndangered ∈ wsL_law := inR_64 _ (List.mem_of_getElem? (i := 9) rfl)
theorem LK_X12_395 : Cond.methodLink RX12 395 yX12_search ∈ wsL_law := inR_64 _ (List.mem_of_getElem? (i := 13) rfl)
theorem LK_L_328 : Cond.methodLink RL 328 yX11_undo ∈ wsL_law := inR_64 _ (List.mem_of_getElem? (i := 17) rfl)
theorem LK_X11_291 : Cond.methodLink RX11 291 yX2_isEmpty ∈ wsL_law := inR_64 _ (List.mem_of_getElem? (i := 21) rfl)
theorem LK_X11_295 : Cond.methodLink RX11 295 yX2_takeBack ∈ wsL_law := inR_65 _ (List.mem_of_getElem? (i := 1) rfl)
theorem LK_X2_36 : Cond.methodLink RX2 36 yX1_restoreFrom ∈ wsL_law := inR_65 _ (List.mem_of_getElem? (i := 5) rfl)
theorem LK_X2_39 : Cond.methodLink RX2 39 yX6_restoreFrom ∈ wsL_law := inR_65 _ (List.mem_of_getElem? (i := 9) rfl)
theorem LK_X11_299 : Cond.methodLink RX11 299 yX2_size ∈ wsL_law := inR_65 _ (List.mem_of_getElem? (i := 13) rfl)
theorem LK_L_331 : Cond.methodLink RL 331 yX12_undo ∈ wsL_law := inR_65 _ (List.mem_of_getElem? (i := 17) rfl)
theorem LK_L_332 : Cond.methodLink RL 332 yX11_hasSafePlan ∈ wsL_law := inR_65 _ (List.mem_of_getElem? (i := 21) rfl)
theorem LK_L_335 : Cond.methodLink RL 335 yX12_hasSafePlan ∈ wsL_law := inR_66 _ (List.mem_of_getElem? (i := 1) rfl)
theorem LK_L_336 : Cond.methodLink RL 336 yX11_searchTries ∈ wsL_law := inR_66 _ (List.mem_of_getElem? (i := 5) rfl)
theorem LK_X11_300 : Cond.methodLink RX11 300 yX8_triesMade ∈ wsL_law := inR_66 _ (List.mem_of_getElem? (i := 9) rfl)
theorem LK_L_339 : Cond.methodLink RL 339 yX12_searchTries ∈ wsL_law := inR_66 _ (List.mem_of_getElem? (i := 13) rfl)
theorem LK_L_340 : Cond.methodLink RL 340 yX11_autoPast ∈ wsL_law := inR_66 _ (List.mem_of_getElem? (i := 17) rfl)
theorem LK_X11_303 : Cond.methodLink RX11 303 yX11_autoPastOf ∈ wsL_law := inR_66 _ (List.mem_of_getElem? (i := 21) rfl)
theorem LK_L_343 : Cond.methodLink RL 343 yX12_autoPast ∈ wsL_law := inR_67 _ (List.mem_of_getElem? (i := 1) rfl)
theorem LK_X12_382 : Cond.methodLink RX12 382 yX12_pastWith ∈ wsL_law := inR_67 _ (List.mem_of_getElem? (i := 5) rfl)
theorem LK_L_344 : Cond.methodLink RL 344 yL_autoPastWithout ∈ wsL_law := inR_67 _ (List.mem_of_getElem? (i := 9) rfl)
theorem LK_L_138 : Cond.methodLink RL 138 yX11_autoPastWithout ∈ wsL_law := inR_67 _ (List.mem_of_getElem? (i := 12) rfl)
theorem LK_L_346 : Cond.methodLink RL 346 yX12_autoPastWithout ∈ wsL_law := inR_67 _ (List.mem_of_getElem? (i := 16) rfl)
theorem LK_L_347 : Cond.methodLink RL 347 yX11_criticalGang ∈ wsL_law := inR_67 _ (List.mem_of_getElem? (i := 20) rfl)
theorem LK_L_350 : Cond.methodLink RL 350 yX12_criticalGang ∈ wsL_law := inR_68 _ (List.mem_of_getElem? (i := 0) rfl)
theorem LK_L_351 : Cond.methodLink RL 351 yX11_worstYear ∈ wsL_law := inR_68 _ (List.mem_of_getElem? (i := 4) rfl)
theorem LK_X11_307 : Cond.methodLink RX11 307 yX1_copyFrom ∈ wsL_law := inR_68 _ (List.mem_of_getElem? (i := 8) rfl)
theorem LK_L_354 : Cond.methodLink RL 354 yX12_worstYear ∈ wsL_law := inR_68 _ (List.mem_of_getElem? (i := 12) rfl)
theorem LK_L_355 : Cond.methodLink RL 355 yX11_smallestShut ∈ wsL_law := inR_68 _ (List.mem_of_getElem? (i := 16) rfl)
theorem LK_L_358 : Cond.methodLink RL 358 yX12_smallestShut ∈ wsL_law := inR_68 _ (List.mem_of_getElem? (i := 20) rfl)
theorem LK_L_359 : Cond.methodLink RL 359 yX11_fewestGangs ∈ wsL_law := inR_69 _ (List.mem_of_getElem? (i := 0) rfl)
theorem LK_X11_310 : Cond.methodLink RX11 310 yJ6_bitCount_0f7a4 ∈ wsL_law := inR_69 _ (List.mem_of_getElem? (i := 4) rfl)
theorem LK_L_362 : Cond.methodLink RL 362 yX12_fewestGangs ∈ wsL_law := inR_69 _ (List.mem_of_getElem? (i := 5) rfl)
theorem LK_L_363 : Cond.methodLink RL 363 yX11_extraDays ∈ wsL_law := inR_69 _ (List.mem_of_getElem? (i := 9) rfl)
theorem LK_X11_315 : Cond.methodLink RX11 315 Lib.Math.min.name ∈ wsL_law := inR_69 _ (List.mem_of_getElem? (i := 13) rfl)
theorem LK_L_366 : Cond.methodLink RL 366 yX12_extraDays ∈ wsL_law := inR_69 _ (List.mem_of_getElem? (i := 14) rfl)
theorem LK_L_367 : Cond.methodLink RL 367 yX11_write ∈ wsL_law := inR_69 _ (List.mem_of_getElem? (i := 18) rfl)
theorem LK_X11_318 : Cond.methodLink RX11 318 yX4_clear ∈ wsL_law := inR_69 _ (List.mem_of_getElem? (i := 22) rfl)
theorem LK_X11_319 : Cond.methodLink RX11 319 yX4_addNumber ∈ wsL_law := inR_70 _ (List.mem_of_getElem? (i := 3) rfl)
theorem LK_X4_19 : Cond.methodLink RX4 19 yX4_addSign ∈ wsL_law := inR_70 _ (List.mem_of_getElem? (i := 7) rfl)
theorem LK_X11_322 : Cond.methodLink RX11 322 yX4_addSign ∈ wsL_law := inR_70 _ (List.mem_of_getElem? (i := 11) rfl)
theorem LK_X11_326 : Cond.methodLink RX11 326 yX4_size ∈ wsL_law := inR_70 _ (List.mem_of_getElem? (i := 12) rfl)
theorem LK_L_370 : Cond.methodLink RL 370 yX12_write ∈ wsL_law := inR_70 _ (List.mem_of_getElem? (i := 16) rfl)
theorem LK_X12_411 : Cond.methodLink RX12 411 yX12_putNumber ∈ wsL_law := inR_70 _ (List.mem_of_getElem? (i := 21) rfl)
theorem LK_X12_408 : Cond.methodLink RX12 408 yX12_put ∈ wsL_law := inR_71 _ (List.mem_of_getElem? (i := 1) rfl)
theorem LK_L_371 : Cond.methodLink RL 371 yL_outputByte ∈ wsL_law := inR_71 _ (List.mem_of_getElem? (i := 5) rfl)
theorem LK_L_141 : Cond.methodLink RL 141 yX11_outputByte ∈ wsL_law := inR_71 _ (List.mem_of_getElem? (i := 8) rfl)
theorem LK_X11_329 : Cond.methodLink RX11 329 yX4_byteAt ∈ wsL_law := inR_71 _ (List.mem_of_getElem? (i := 12) rfl)
theorem LK_L_373 : Cond.methodLink RL 373 yX12_outputByte ∈ wsL_law := inR_71 _ (List.mem_of_getElem? (i := 16) rfl)
theorem CK_X11_48 : Cond.constant RX11 48 (-1000004) ∈ wsL_law := inR_2 _ (List.mem_of_getElem? (i := 11) rfl)
theorem CK_X5_18 : Cond.constant RX5 18 (-1000004) ∈ wsL_law := inR_6 _ (List.mem_of_getElem? (i := 10) rfl)
theorem CK_X12_28 : Cond.constant RX12 28 (-1000004) ∈ wsL_law := inR_7 _ (List.mem_of_getElem? (i := 15) rfl)
theorem CK_X11_94 : Cond.constant RX11 94 (-1000005) ∈ wsL_law := inR_8 _ (List.mem_of_getElem? (i := 12) rfl)
theorem CK_X12_102 : Cond.constant RX12 102 (-1000005) ∈ wsL_law := inR_9 _ (List.mem_of_getElem? (i := 8) rfl)
theorem CK_X11_123 : Cond.constant RX11 123 (-1000006) ∈ wsL_law := inR_10 _ (List.mem_of_getElem? (i := 0) rfl)
theorem WK_236 : Cond.static Lib.Math.min.name ∈ wsL_law := inR_10 _ (List.mem_of_getElem? (i := 20) rfl)
theorem WK_237 : Cond.initialized "java/lang/Math" ∈ wsL_law := inR_10 _ (List.mem_of_getElem? (i := 21) rfl)
theorem WK_238 : Cond.code Lib.Math.min.name Lib.Math.min.code 2 (some .int) ∈ wsL_law := inR_10 _ (List.mem_of_getElem? (i := 22) rfl)
theorem CK_X5_84 : Cond.constantLong RX5 84 (108243533981541) ∈ wsL_law := inR_12 _ (List.mem_of_getElem? (i := 11) rfl)
theorem CK_X5_93 : Cond.constantLong RX5 93 (1818324581) ∈ wsL_law := inR_12 _ (List.mem_of_getElem? (i := 12) rfl)
theorem CK_X5_101 : Cond.constantLong RX5 101 (1936744814) ∈ wsL_law := inR_12 _ (List.mem_of_getElem? (i := 13) rfl)
theorem CK_X5_109 : Cond.constantLong RX5 109 (1734438503) ∈ wsL_law := inR_12 _ (List.mem_of_getElem? (i := 14) rfl)
theorem CK_X5_117 : Cond.constantLong RX5 117 (33606991467799922) ∈ wsL_law := inR_12 _ (List.mem_of_getElem? (i := 15) rfl)
theorem CK_X5_122 : Cond.constantLong RX5 122 (109317377451364) ∈ wsL_law := inR_12 _ (List.mem_of_getElem? (i := 16) rfl)
theorem CK_X5_127 : Cond.constantLong RX5 127 (482670636660) ∈ wsL_law := inR_12 _ (List.mem_of_getElem? (i := 17) rfl)
theorem CK_X5_152 : Cond.constantLong RX5 152 (-2) ∈ wsL_law := inR_13 _ (List.mem_of_getElem? (i := 18) rfl)
theorem CK_X5_204 : Cond.constantLong RX5 204 (1852796517) ∈ wsL_law := inR_14 _ (List.mem_of_getElem? (i := 2) rfl)
theorem CK_X12_223 : Cond.constant RX12 223 (-1000006) ∈ wsL_law := inR_18 _ (List.mem_of_getElem? (i := 0) rfl)
theorem CK_X12_133 : Cond.constantLong RX12 133 (27) ∈ wsL_law := inR_18 _ (List.mem_of_getElem? (i := 12) rfl)
theorem CK_X12_135 : Cond.constantLong RX12 135 (97) ∈ wsL_law := inR_18 _ (List.mem_of_getElem? (i := 13) rfl)
theorem CK_X6_78 : Cond.constant RX6 78 (-1000004) ∈ wsL_law := inR_29 _ (List.mem_of_getElem? (i := 3) rfl)
theorem WK_733 : Cond.static Lib.Math.max.name ∈ wsL_law := inR_31 _ (List.mem_of_getElem? (i := 13) rfl)
theorem WK_734 : Cond.code Lib.Math.max.name Lib.Math.max.code 2 (some .int) ∈ wsL_law := inR_31 _ (List.mem_of_getElem? (i := 14) rfl)
theorem CK_X1_82 : Cond.constant RX1 82 (-1000004) ∈ wsL_law := inR_33 _ (List.mem_of_getElem? (i := 22) rfl)
theorem CK_J6_265 : Cond.constant RJ6 265 (1431655765) ∈ wsL_law := inR_49 _ (List.mem_of_getElem? (i := 13) rfl)
theorem CK_J6_266 : Cond.constant RJ6 266 (858993459) ∈ wsL_law := inR_49 _ (List.mem_of_getElem? (i := 14) rfl)
theorem CK_J6_267 : Cond.constant RJ6 267 (252645135) ∈ wsL_law := inR_49 _ (List.mem_of_getElem? (i := 15) rfl)
theorem CK_X11_253 : Cond.constant RX11 253 (-1000007) ∈ wsL_law := inR_53 _ (List.mem_of_getElem? (i := 18) rfl)
theorem WK_1281 : Cond.native arraycopyName ∈ wsL_law := inR_54 _ (List.mem_of_getElem? (i := 9) rfl)
theorem WK_1282 : Cond.static arraycopyName ∈ wsL_law := inR_54 _ (List.mem_of_getElem? (i := 10) rfl)
theorem WK_1283 : Cond.initialized "java/lang/System" ∈ wsL_law := inR_54 _ (List.mem_of_getElem? (i := 11) rfl)
theorem CK_X12_335 : Cond.constant RX12 335 (-1000007) ∈ wsL_law := inR_54 _ (List.mem_of_getElem? (i := 21) rfl)
theorem CK_X11_260 : Cond.constant RX11 260 (-1000003) ∈ wsL_law := inR_55 _ (List.mem_of_getElem? (i := 20) rfl)
theorem CK_X12_339 : Cond.constant RX12 339 (-1000003) ∈ wsL_law := inR_56 _ (List.mem_of_getElem? (i := 1) rfl)
theorem CK_X12_340 : Cond.constantLong RX12 340 (200) ∈ wsL_law := inR_57 _ (List.mem_of_getElem? (i := 3) rfl)
theorem CK_X12_348 : Cond.constantLong RX12 348 (4) ∈ wsL_law := inR_57 _ (List.mem_of_getElem? (i := 23) rfl)
theorem CK_X12_350 : Cond.constantLong RX12 350 (50) ∈ wsL_law := inR_59 _ (List.mem_of_getElem? (i := 0) rfl)
theorem CK_X0_59 : Cond.constant RX0 59 (-1000004) ∈ wsL_law := inR_60 _ (List.mem_of_getElem? (i := 1) rfl)
theorem CK_X11_290 : Cond.constant RX11 290 (-1000008) ∈ wsL_law := inR_62 _ (List.mem_of_getElem? (i := 22) rfl)
theorem CK_X8_40 : Cond.constant RX8 40 (-1000004) ∈ wsL_law := inR_63 _ (List.mem_of_getElem? (i := 4) rfl)
theorem CK_X8_62 : Cond.constant RX8 62 (-1000008) ∈ wsL_law := inR_63 _ (List.mem_of_getElem? (i := 12) rfl)
theorem CK_X12_404 : Cond.constant RX12 404 (-1000008) ∈ wsL_law := inR_64 _ (List.mem_of_getElem? (i := 2) rfl)
