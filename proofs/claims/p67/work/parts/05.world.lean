theorem inR_law : ∀ w ∈ wsL_law0, w ∈ wsL_law := fun _ h => List.mem_append_left _ (List.mem_append_left _ h)
theorem inR_1 : ∀ w ∈ wsL_law0_r1, w ∈ wsL_law := fun _ h => inR_law _ (List.mem_append_left _ (List.mem_append_left _ (List.mem_append_left _ (List.mem_append_left _ (List.mem_append_left _ (List.mem_append_left _ (List.mem_append_left _ (List.mem_append_left _ (List.mem_append_left _ (List.mem_append_left _ (List.mem_append_left _ (List.mem_append_left _ (List.mem_append_left _ (List.mem_append_left _ (List.mem_append_left _ (List.mem_append_left _ (List.mem_append_left _ h)))))))))))))))))
theorem inR_2 : ∀ w ∈ wsL_law0_r2, w ∈ wsL_law := fun _ h => inR_law _ (List.mem_append_left _ (List.mem_append_left _ (List.mem_append_left _ (List.mem_append_left _ (List.mem_append_left _ (List.mem_append_left _ (List.mem_append_left _ (List.mem_append_left _ (List.mem_append_left _ (List.mem_append_left _ (List.mem_append_left _ (List.mem_append_left _ (List.mem_append_left _ (List.mem_append_left _ (List.mem_append_left _ (List.mem_append_left _ (List.mem_append_right _ (List.mem_append_left _ h))))))))))))))))))
theorem inR_3 : ∀ w ∈ wsL_law0_r3, w ∈ wsL_law := fun _ h => inR_law _ (List.mem_append_left _ (List.mem_append_left _ (List.mem_append_left _ (List.mem_append_left _ (List.mem_append_left _ (List.mem_append_left _ (List.mem_append_left _ (List.mem_append_left _ (List.mem_append_left _ (List.mem_append_left _ (List.mem_append_left _ (List.mem_append_left _ (List.mem_append_left _ (List.mem_append_left _ (List.mem_append_left _ (List.mem_append_left _ (List.mem_append_right _ (List.mem_append_right _ (List.mem_append_left _ h)))))))))))))))))))
theorem inR_4 : ∀ w ∈ wsL_law0_r4, w ∈ wsL_law := fun _ h => inR_law _ (List.mem_append_left _ (List.mem_append_left _ (List.mem_append_left _ (List.mem_append_left _ (List.mem_append_left _ (List.mem_append_left _ (List.mem_append_left _ (List.mem_append_left _ (List.mem_append_left _ (List.mem_append_left _ (List.mem_append_left _ (List.mem_append_left _ (List.mem_append_left _ (List.mem_append_left _ (List.mem_append_left _ (List.mem_append_left _ (List.mem_append_right _ (List.mem_append_right _ (List.mem_append_right _ (List.mem_append_left _ h))))))))))))))))))))
theorem inR_5 : ∀ w ∈ wsL_law0_r5, w ∈ wsL_law := fun _ h => inR_law _ (List.mem_append_left _ (List.mem_append_left _ (List.mem_append_left _ (List.mem_append_left _ (List.mem_append_left _ (List.mem_append_left _ (List.mem_append_left _ (List.mem_append_left _ (List.mem_append_left _ (List.mem_append_left _ (List.mem_append_left _ (List.mem_append_left _ (List.mem_append_left _ (List.mem_append_left _ (List.mem_append_left _ (List.mem_append_left _ (List.mem_append_right _ (List.mem_append_right _ (List.mem_append_right _ (List.mem_append_right _ (List.mem_append_left _ h)))))))))))))))))))))
theorem inR_6 : ∀ w ∈ wsL_law0_r6, w ∈ wsL_law := fun _ h => inR_law _ (List.mem_append_left _ (List.mem_append_left _ (List.mem_append_left _ (List.mem_append_left _ (List.mem_append_left _ (List.mem_append_left _ (List.mem_append_left _ (List.mem_append_left _ (List.mem_append_left _ (List.mem_append_left _ (List.mem_append_left _ (List.mem_append_left _ (List.mem_append_left _ (List.mem_append_left _ (List.mem_append_left _ (List.mem_append_left _ (List.mem_append_right _ (List.mem_append_right _ (List.mem_append_right _ (List.mem_append_right _ (List.mem_append_right _ (List.mem_append_left _ h))))))))))))))))))))))
theorem inR_7 : ∀ w ∈ wsL_law0_r7, w ∈ wsL_law := fun _ h => inR_law _ (List.mem_append_left _ (List.mem_append_left _ (List.mem_append_left _ (List.mem_append_left _ (List.mem_append_left _ (List.mem_append_left _ (List.mem_append_left _ (List.mem_append_left _ (List.mem_append_left _ (List.mem_append_left _ (List.mem_append_left _ (List.mem_append_left _ (List.mem_append_left _ (List.mem_append_left _ (List.mem_append_left _ (List.mem_append_left _ (List.mem_append_right _ (List.mem_append_right _ (List.mem_append_right _ (List.mem_append_right _ (List.mem_append_right _ (List.mem_append_right _ (List.mem_append_left _ h)))))))))))))))))))))))
theorem inR_8 : ∀ w ∈ wsL_law0_r8, w ∈ wsL_law := fun _ h => inR_law _ (List.mem_append_left _ (List.mem_append_left _ (List.mem_append_left _ (List.mem_append_left _ (List.mem_append_left _ (List.mem_append_left _ (List.mem_append_left _ (List.mem_append_left _ (List.mem_append_left _ (List.mem_append_left _ (List.mem_append_left _ (List.mem_append_left _ (List.mem_append_left _ (List.mem_append_left _ (List.mem_append_left _ (List.mem_append_left _ (List.mem_append_right _ (List.mem_append_right _ (List.mem_append_right _ (List.mem_append_right _ (List.mem_append_right _ (List.mem_append_right _ (List.mem_append_right _ (List.mem_append_left _ h))))))))))))))))))))))))
theorem inR_9 : ∀ w ∈ wsL_law0_r9, w ∈ wsL_law := fun _ h => inR_law _ (List.mem_append_left _ (List.mem_append_left _ (List.mem_append_left _ (List.mem_append_left _ (List.mem_append_left _ (List.mem_append_left _ (List.mem_append_left _ (List.mem_append_left _ (List.mem_append_left _ (List.mem_append_left _ (List.mem_append_left _ (List.mem_append_left _ (List.mem_append_left _ (List.mem_append_left _ (List.mem_append_left _ (List.mem_append_left _ (List.mem_append_right _ (List.mem_append_right _ (List.mem_append_right _ (List.mem_append_right _ (List.mem_append_right _ (List.mem_append_right _ (List.mem_append_right _ (List.mem_append_right _ (List.mem_append_left _ h)))))))))))))))))))))))))
theorem inR_10 : ∀ w ∈ wsL_law0_r10, w ∈ wsL_law := fun _ h => inR_law _ (List.mem_append_left _ (List.mem_append_left _ (List.mem_append_left _ (List.mem_append_left _ (List.mem_append_left _ (List.mem_append_left _ (List.mem_append_left _ (List.mem_append_left _ (List.mem_append_left _ (List.mem_append_left _ (List.mem_append_left _ (List.mem_append_left _ (List.mem_append_left _ (List.mem_append_left _ (List.mem_append_left _ (List.mem_append_left _ (List.mem_append_right _ (List.mem_append_right _ (List.mem_append_right _ (List.mem_append_right _ (List.mem_append_right _ (List.mem_append_right _ (List.mem_append_right _ (List.mem_append_right _ (List.mem_append_right _ (List.mem_append_left _ h))))))))))))))))))))))))))
theorem inR_11 : ∀ w ∈ wsL_law0_r11, w ∈ wsL_law := fun _ h => inR_law _ (List.mem_append_left _ (List.mem_append_left _ (List.mem_append_left _ (List.mem_append_left _ (List.mem_append_left _ (List.mem_append_left _ (List.mem_append_left _ (List.mem_append_left _ (List.mem_append_left _ (List.mem_append_left _ (List.mem_append_left _ (List.mem_append_left _ (List.mem_append_left _ (List.mem_append_left _ (List.mem_append_left _ (List.mem_append_left _ (List.mem_append_right _ (List.mem_append_right _ (List.mem_append_right _ (List.mem_append_right _ (List.mem_append_right _ (List.mem_append_right _ (List.mem_append_right _ (List.mem_append_right _ (List.mem_append_right _ (List.mem_append_right _ (List.mem_append_left _ h)))))))))))))))))))))))))))
theorem inR_12 : ∀ w ∈ wsL_law0_r12, w ∈ wsL_law := fun _ h => inR_law _ (List.mem_append_left _ (List.mem_append_left _ (List.mem_append_left _ (List.mem_append_left _ (List.mem_append_left _ (List.mem_append_left _ (List.mem_append_left _ (List.mem_append_left _ (List.mem_append_left _ (List.mem_append_left _ (List.mem_append_left _ (List.mem_append_left _ (List.mem_append_left _ (List.mem_append_left _ (List.mem_append_left _ (List.mem_append_left _ (List.mem_append_right _ (List.mem_append_right _ (List.mem_append_right _ (List.mem_append_right _ (List.mem_append_right _ (List.mem_append_right _ (List.mem_append_right _ (List.mem_append_right _ (List.mem_append_right _ (List.mem_append_right _ (List.mem_append_right _ (List.mem_append_left _ h))))))))))))))))))))))))))))
theorem inR_13 : ∀ w ∈ wsL_law0_r13, w ∈ wsL_law := fun _ h => inR_law _ (List.mem_append_left _ (List.mem_append_left _ (List.mem_append_left _ (List.mem_append_left _ (List.mem_append_left _ (List.mem_append_left _ (List.mem_append_left _ (List.mem_append_left _ (List.mem_append_left _ (List.mem_append_left _ (List.mem_append_left _ (List.mem_append_left _ (List.mem_append_left _ (List.mem_append_left _ (List.mem_append_left _ (List.mem_append_left _ (List.mem_append_right _ (List.mem_append_right _ (List.mem_append_right _ (List.mem_append_right _ (List.mem_append_right _ (List.mem_append_right _ (List.mem_append_right _ (List.mem_append_right _ (List.mem_append_right _ (List.mem_append_right _ (List.mem_append_right _ (List.mem_append_right _ (List.mem_append_left _ h)))))))))))))))))))))))))))))
theorem inR_14 : ∀ w ∈ wsL_law0_r14, w ∈ wsL_law := fun _ h => inR_law _ (List.mem_append_left _ (List.mem_append_left _ (List.mem_append_left _ (List.mem_append_left _ (List.mem_append_left _ (List.mem_append_left _ (List.mem_append_left _ (List.mem_append_left _ (List.mem_append_left _ (List.mem_append_left _ (List.mem_append_left _ (List.mem_append_left _ (List.mem_append_left _ (List.mem_append_left _ (List.mem_append_left _ (List.mem_append_left _ (List.mem_append_right _ (List.mem_append_right _ (List.mem_append_right _ (List.mem_append_right _ (List.mem_append_right _ (List.mem_append_right _ (List.mem_append_right _ (List.mem_append_right _ (List.mem_append_right _ (List.mem_append_right _ (List.mem_append_right _ (List.mem_append_right _ (List.mem_append_right _ (List.mem_append_left _ h))))))))))))))))))))))))))))))
theorem inR_15 : ∀ w ∈ wsL_law0_r15, w ∈ wsL_law := fun _ h => inR_law _ (List.mem_append_left _ (List.mem_append_left _ (List.mem_append_left _ (List.mem_append_left _ (List.mem_append_left _ (List.mem_append_left _ (List.mem_append_left _ (List.mem_append_left _ (List.mem_append_left _ (List.mem_append_left _ (List.mem_append_left _ (List.mem_append_left _ (List.mem_append_left _ (List.mem_append_left _ (List.mem_append_left _ (List.mem_append_left _ (List.mem_append_right _ (List.mem_append_right _ (List.mem_append_right _ (List.mem_append_right _ (List.mem_append_right _ (List.mem_append_right _ (List.mem_append_right _ (List.mem_append_right _ (List.mem_append_right _ (List.mem_append_right _ (List.mem_append_right _ (List.mem_append_right _ (List.mem_append_right _ (List.mem_append_right _ (List.mem_append_left _ h)))))))))))))))))))))))))))))))
theorem inR_16 : ∀ w ∈ wsL_law0_r16, w ∈ wsL_law := fun _ h => inR_law _ (List.mem_append_left _ (List.mem_append_left _ (List.mem_append_left _ (List.mem_append_left _ (List.mem_append_left _ (List.mem_append_left _ (List.mem_append_left _ (List.mem_append_left _ (List.mem_append_left _ (List.mem_append_left _ (List.mem_append_left _ (List.mem_append_left _ (List.mem_append_left _ (List.mem_append_left _ (List.mem_append_left _ (List.mem_append_left _ (List.mem_append_right _ (List.mem_append_right _ (List.mem_append_right _ (List.mem_append_right _ (List.mem_append_right _ (List.mem_append_right _ (List.mem_append_right _ (List.mem_append_right _ (List.mem_append_right _ (List.mem_append_right _ (List.mem_append_right _ (List.mem_append_right _ (List.mem_append_right _ (List.mem_append_right _ (List.mem_append_right _ (List.mem_append_left _ h))))))))))))))))))))))))))))))))
theorem inR_17 : ∀ w ∈ wsL_law0_r17, w ∈ wsL_law := fun _ h => inR_law _ (List.mem_append_left _ (List.mem_append_left _ (List.mem_append_left _ (List.mem_append_left _ (List.mem_append_left _ (List.mem_append_left _ (List.mem_append_left _ (List.mem_append_left _ (List.mem_append_left _ (List.mem_append_left _ (List.mem_append_left _ (List.mem_append_left _ (List.mem_append_left _ (List.mem_append_left _ (List.mem_append_left _ (List.mem_append_left _ (List.mem_append_right _ (List.mem_append_right _ (List.mem_append_right _ (List.mem_append_right _ (List.mem_append_right _ (List.mem_append_right _ (List.mem_append_right _ (List.mem_append_right _ (List.mem_append_right _ (List.mem_append_right _ (List.mem_append_right _ (List.mem_append_right _ (List.mem_append_right _ (List.mem_append_right _ (List.mem_append_right _ (List.mem_append_right _ (List.mem_append_left _ h)))))))))))))))))))))))))))))))))
theorem inR_18 : ∀ w ∈ wsL_law0_r18, w ∈ wsL_law := fun _ h => inR_law _ (List.mem_append_left _ (List.mem_append_left _ (List.mem_append_left _ (List.mem_append_left _ (List.mem_append_left _ (List.mem_append_left _ (List.mem_append_left _ (List.mem_append_left _ (List.mem_append_left _ (List.mem_append_left _ (List.mem_append_left _ (List.mem_append_left _ (List.mem_append_left _ (List.mem_append_left _ (List.mem_append_left _ (List.mem_append_left _ (List.mem_append_right _ (List.mem_append_right _ (List.mem_append_right _ (List.mem_append_right _ (List.mem_append_right _ (List.mem_append_right _ (List.mem_append_right _ (List.mem_append_right _ (List.mem_append_right _ (List.mem_append_right _ (List.mem_append_right _ (List.mem_append_right _ (List.mem_append_right _ (List.mem_append_right _ (List.mem_append_right _ (List.mem_append_right _ (List.mem_append_right _ (List.mem_append_left _ h))))))))))))))))))))))))))))))))))
theorem inR_19 : ∀ w ∈ wsL_law0_r19, w ∈ wsL_law := fun _ h => inR_law _ (List.mem_append_left _ (List.mem_append_left _ (List.mem_append_left _ (List.mem_append_left _ (List.mem_append_left _ (List.mem_append_left _ (List.mem_append_left _ (List.mem_append_left _ (List.mem_append_left _ (List.mem_append_left _ (List.mem_append_left _ (List.mem_append_left _ (List.mem_append_left _ (List.mem_append_left _ (List.mem_append_left _ (List.mem_append_left _ (List.mem_append_right _ (List.mem_append_right _ (List.mem_append_right _ (List.mem_append_right _ (List.mem_append_right _ (List.mem_append_right _ (List.mem_append_right _ (List.mem_append_right _ (List.mem_append_right _ (List.mem_append_right _ (List.mem_append_right _ (List.mem_append_right _ (List.mem_append_right _ (List.mem_append_right _ (List.mem_append_right _ (List.mem_append_right _ (List.mem_append_right _ (List.mem_append_right _ (List.mem_append_left _ h)))))))))))))))))))))))))))))))))))
theorem inR_20 : ∀ w ∈ wsL_law0_r20, w ∈ wsL_law := fun _ h => inR_law _ (List.mem_append_left _ (List.mem_append_left _ (List.mem_append_left _ (List.mem_append_left _ (List.mem_append_left _ (List.mem_append_left _ (List.mem_append_left _ (List.mem_append_left _ (List.mem_append_left _ (List.mem_append_left _ (List.mem_append_left _ (List.mem_append_left _ (List.mem_append_left _ (List.mem_append_left _ (List.mem_append_left _ (List.mem_append_left _ (List.mem_append_right _ (List.mem_append_right _ (List.mem_append_right _ (List.mem_append_right _ (List.mem_append_right _ (List.mem_append_right _ (List.mem_append_right _ (List.mem_append_right _ (List.mem_append_right _ (List.mem_append_right _ (List.mem_append_right _ (List.mem_append_right _ (List.mem_append_right _ (List.mem_append_right _ (List.mem_append_right _ (List.mem_append_right _ (List.mem_append_right _ (List.mem_append_right _ (List.mem_append_right _ (List.mem_append_left _ h))))))))))))))))))))))))))))))))))))
theorem inR_21 : ∀ w ∈ wsL_law0_r21, w ∈ wsL_law := fun _ h => inR_law _ (List.mem_append_left _ (List.mem_append_left _ (List.mem_append_left _ (List.mem_append_left _ (List.mem_append_left _ (List.mem_append_left _ (List.mem_append_left _ (List.mem_append_left _ (List.mem_append_left _ (List.mem_append_left _ (List.mem_append_left _ (List.mem_append_left _ (List.mem_append_left _ (List.mem_append_left _ (List.mem_append_left _ (List.mem_append_left _ (List.mem_append_right _ (List.mem_append_right _ (List.mem_append_right _ (List.mem_append_right _ (List.mem_append_right _ (List.mem_append_right _ (List.mem_append_right _ (List.mem_append_right _ (List.mem_append_right _ (List.mem_append_right _ (List.mem_append_right _ (List.mem_append_right _ (List.mem_append_right _ (List.mem_append_right _ (List.mem_append_right _ (List.mem_append_right _ (List.mem_append_right _ (List.mem_append_right _ (List.mem_append_right _ (List.mem_append_right _ (List.mem_append_left _ h)))))))))))))))))))))))))))))))))))))
theorem inR_22 : ∀ w ∈ wsL_law0_r22, w ∈ wsL_law := fun _ h => inR_law _ (List.mem_append_left _ (List.mem_append_left _ (List.mem_append_left _ (List.mem_append_left _ (List.mem_append_left _ (List.mem_append_left _ (List.mem_append_left _ (List.mem_append_left _ (List.mem_append_left _ (List.mem_append_left _ (List.mem_append_left _ (List.mem_append_left _ (List.mem_append_left _ (List.mem_append_left _ (List.mem_append_left _ (List.mem_append_left _ (List.mem_append_right _ (List.mem_append_right _ (List.mem_append_right _ (List.mem_append_right _ (List.mem_append_right _ (List.mem_append_right _ (List.mem_append_right _ (List.mem_append_right _ (List.mem_append_right _ (List.mem_append_right _ (List.mem_append_right _ (List.mem_append_right _ (List.mem_append_right _ (List.mem_append_right _ (List.mem_append_right _ (List.mem_append_right _ (List.mem_append_right _ (List.mem_append_right _ (List.mem_append_right _ (List.mem_append_right _ (List.mem_append_right _ (List.mem_append_left _ h))))))))))))))))))))))))))))))))))))))
theorem inR_23 : ∀ w ∈ wsL_law0_r23, w ∈ wsL_law := fun _ h => inR_law _ (List.mem_append_left _ (List.mem_append_left _ (List.mem_append_left _ (List.mem_append_left _ (List.mem_append_left _ (List.mem_append_left _ (List.mem_append_left _ (List.mem_append_left _ (List.mem_append_left _ (List.mem_append_left _ (List.mem_append_left _ (List.mem_append_left _ (List.mem_append_left _ (List.mem_append_left _ (List.mem_append_left _ (List.mem_append_left _ (List.mem_append_right _ (List.mem_append_right _ (List.mem_append_right _ (List.mem_append_right _ (List.mem_append_right _ (List.mem_append_right _ (List.mem_append_right _ (List.mem_append_right _ (List.mem_append_right _ (List.mem_append_right _ (List.mem_append_right _ (List.mem_append_right _ (List.mem_append_right _ (List.mem_append_right _ (List.mem_append_right _ (List.mem_append_right _ (List.mem_append_right _ (List.mem_append_right _ (List.mem_append_right _ (List.mem_append_right _ (List.mem_append_right _ (List.mem_append_right _ (List.mem_append_left _ h)))))))))))))))))))))))))))))))))))))))
theorem inR_24 : ∀ w ∈ wsL_law0_r24, w ∈ wsL_law := fun _ h => inR_law _ (List.mem_append_left _ (List.mem_append_left _ (List.mem_append_left _ (List.mem_append_left _ (List.mem_append_left _ (List.mem_append_left _ (List.mem_append_left _ (List.mem_append_left _ (List.mem_append_left _ (List.mem_append_left _ (List.mem_append_left _ (List.mem_append_left _ (List.mem_append_left _ (List.mem_append_left _ (List.mem_append_left _ (List.mem_append_left _ (List.mem_append_right _ (List.mem_append_right _ (List.mem_append_right _ (List.mem_append_right _ (List.mem_append_right _ (List.mem_append_right _ (List.mem_append_right _ (List.mem_append_right _ (List.mem_append_right _ (List.mem_append_right _ (List.mem_append_right _ (List.mem_append_right _ (List.mem_append_right _ (List.mem_append_right _ (List.mem_append_right _ (List.mem_append_right _ (List.mem_append_right _ (List.mem_append_right _ (List.mem_append_right _ (List.mem_append_right _ (List.mem_append_right _ (List.mem_append_right _ (List.mem_append_right _ (List.mem_append_left _ h))))))))))))))))))))))))))))))))))))))))
theorem inR_25 : ∀ w ∈ wsL_law0_r25, w ∈ wsL_law := fun _ h => inR_law _ (List.mem_append_left _ (List.mem_append_left _ (List.mem_append_left _ (List.mem_append_left _ (List.mem_append_left _ (List.mem_append_left _ (List.mem_append_left _ (List.mem_append_left _ (List.mem_append_left _ (List.mem_append_left _ (List.mem_append_left _ (List.mem_append_left _ (List.mem_append_left _ (List.mem_append_left _ (List.mem_append_left _ (List.mem_append_left _ (List.mem_append_right _ (List.mem_append_right _ (List.mem_append_right _ (List.mem_append_right _ (List.mem_append_right _ (List.mem_append_right _ (List.mem_append_right _ (List.mem_append_right _ (List.mem_append_right _ (List.mem_append_right _ (List.mem_append_right _ (List.mem_append_right _ (List.mem_append_right _ (List.mem_append_right _ (List.mem_append_right _ (List.mem_append_right _ (List.mem_append_right _ (List.mem_append_right _ (List.mem_append_right _ (List.mem_append_right _ (List.mem_append_right _ (List.mem_append_right _ (List.mem_append_right _ (List.mem_append_right _ (List.mem_append_left _ h)))))))))))))))))))))))))))))))))))))))))
theorem inR_26 : ∀ w ∈ wsL_law0_r26, w ∈ wsL_law := fun _ h => inR_law _ (List.mem_append_left _ (List.mem_append_left _ (List.mem_append_left _ (List.mem_append_left _ (List.mem_append_left _ (List.mem_append_left _ (List.mem_append_left _ (List.mem_append_left _ (List.mem_append_left _ (List.mem_append_left _ (List.mem_append_left _ (List.mem_append_left _ (List.mem_append_left _ (List.mem_append_left _ (List.mem_append_left _ (List.mem_append_left _ (List.mem_append_right _ (List.mem_append_right _ (List.mem_append_right _ (List.mem_append_right _ (List.mem_append_right _ (List.mem_append_right _ (List.mem_append_right _ (List.mem_append_right _ (List.mem_append_right _ (List.mem_append_right _ (List.mem_append_right _ (List.mem_append_right _ (List.mem_append_right _ (List.mem_append_right _ (List.mem_append_right _ (List.mem_append_right _ (List.mem_append_right _ (List.mem_append_right _ (List.mem_append_right _ (List.mem_append_right _ (List.mem_append_right _ (List.mem_append_right _ (List.mem_append_right _ (List.mem_append_right _ (List.mem_append_right _ (List.mem_append_left _ h))))))))))))))))))))))))))))))))))))))))))
theorem inR_27 : ∀ w ∈ wsL_law0_r27, w ∈ wsL_law := fun _ h => inR_law _ (List.mem_append_left _ (List.mem_append_left _ (List.mem_append_left _ (List.mem_append_left _ (List.mem_append_left _ (List.mem_append_left _ (List.mem_append_left _ (List.mem_append_left _ (List.mem_append_left _ (List.mem_append_left _ (List.mem_append_left _ (List.mem_append_left _ (List.mem_append_left _ (List.mem_append_left _ (List.mem_append_left _ (List.mem_append_left _ (List.mem_append_right _ (List.mem_append_right _ (List.mem_append_right _ (List.mem_append_right _ (List.mem_append_right _ (List.mem_append_right _ (List.mem_append_right _ (List.mem_append_right _ (List.mem_append_right _ (List.mem_append_right _ (List.mem_append_right _ (List.mem_append_right _ (List.mem_append_right _ (List.mem_append_right _ (List.mem_append_right _ (List.mem_append_right _ (List.mem_append_right _ (List.mem_append_right _ (List.mem_append_right _ (List.mem_append_right _ (List.mem_append_right _ (List.mem_append_right _ (List.mem_append_right _ (List.mem_append_right _ (List.mem_append_right _ (List.mem_append_right _ (List.mem_append_left _ h)))))))))))))))))))))))))))))))))))))))))))
theorem inR_28 : ∀ w ∈ wsL_law0_r28, w ∈ wsL_law := fun _ h => inR_law _ (List.mem_append_left _ (List.mem_append_left _ (List.mem_append_left _ (List.mem_append_left _ (List.mem_append_left _ (List.mem_append_left _ (List.mem_append_left _ (List.mem_append_left _ (List.mem_append_left _ (List.mem_append_left _ (List.mem_append_left _ (List.mem_append_left _ (List.mem_append_left _ (List.mem_append_left _ (List.mem_append_left _ (List.mem_append_left _ (List.mem_append_right _ (List.mem_append_right _ (List.mem_append_right _ (List.mem_append_right _ (List.mem_append_right _ (List.mem_append_right _ (List.mem_append_right _ (List.mem_append_right _ (List.mem_append_right _ (List.mem_append_right _ (List.mem_append_right _ (List.mem_append_right _ (List.mem_append_right _ (List.mem_append_right _ (List.mem_append_right _ (List.mem_append_right _ (List.mem_append_right _ (List.mem_append_right _ (List.mem_append_right _ (List.mem_append_right _ (List.mem_append_right _ (List.mem_append_right _ (List.mem_append_right _ (List.mem_append_right _ (List.mem_append_right _ (List.mem_append_right _ (List.mem_append_right _ (List.mem_append_left _ h))))))))))))))))))))))))))))))))))))))))))))
theorem inR_29 : ∀ w ∈ wsL_law0_r29, w ∈ wsL_law := fun _ h => inR_law _ (List.mem_append_left _ (List.mem_append_left _ (List.mem_append_left _ (List.mem_append_left _ (List.mem_append_left _ (List.mem_append_left _ (List.mem_append_left _ (List.mem_append_left _ (List.mem_append_left _ (List.mem_append_left _ (List.mem_append_left _ (List.mem_append_left _ (List.mem_append_left _ (List.mem_append_left _ (List.mem_append_left _ (List.mem_append_left _ (List.mem_append_right _ (List.mem_append_right _ (List.mem_append_right _ (List.mem_append_right _ (List.mem_append_right _ (List.mem_append_right _ (List.mem_append_right _ (List.mem_append_right _ (List.mem_append_right _ (List.mem_append_right _ (List.mem_append_right _ (List.mem_append_right _ (List.mem_append_right _ (List.mem_append_right _ (List.mem_append_right _ (List.mem_append_right _ (List.mem_append_right _ (List.mem_append_right _ (List.mem_append_right _ (List.mem_append_right _ (List.mem_append_right _ (List.mem_append_right _ (List.mem_append_right _ (List.mem_append_right _ (List.mem_append_right _ (List.mem_append_right _ (List.mem_append_right _ (List.mem_append_right _ (List.mem_append_left _ h)))))))))))))))))))))))))))))))))))))))))))))
theorem inR_30 : ∀ w ∈ wsL_law0_r30, w ∈ wsL_law := fun _ h => inR_law _ (List.mem_append_left _ (List.mem_append_left _ (List.mem_append_left _ (List.mem_append_left _ (List.mem_append_left _ (List.mem_append_left _ (List.mem_append_left _ (List.mem_append_left _ (List.mem_append_left _ (List.mem_append_left _ (List.mem_append_left _ (List.mem_append_left _ (List.mem_append_left _ (List.mem_append_left _ (List.mem_append_left _ (List.mem_append_left _ (List.mem_append_right _ (List.mem_append_right _ (List.mem_append_right _ (List.mem_append_right _ (List.mem_append_right _ (List.mem_append_right _ (List.mem_append_right _ (List.mem_append_right _ (List.mem_append_right _ (List.mem_append_right _ (List.mem_append_right _ (List.mem_append_right _ (List.mem_append_right _ (List.mem_append_right _ (List.mem_append_right _ (List.mem_append_right _ (List.mem_append_right _ (List.mem_append_right _ (List.mem_append_right _ (List.mem_append_right _ (List.mem_append_right _ (List.mem_append_right _ (List.mem_append_right _ (List.mem_append_right _ (List.mem_append_right _ (List.mem_append_right _ (List.mem_append_right _ (List.mem_append_right _ (List.mem_append_right _ (List.mem_append_left _ h))))))))))))))))))))))))))))))))))))))))))))))
theorem inR_31 : ∀ w ∈ wsL_law0_r31, w ∈ wsL_law := fun _ h => inR_law _ (List.mem_append_left _ (List.mem_append_left _ (List.mem_append_left _ (List.mem_append_left _ (List.mem_append_left _ (List.mem_append_left _ (List.mem_append_left _ (List.mem_append_left _ (List.mem_append_left _ (List.mem_append_left _ (List.mem_append_left _ (List.mem_append_left _ (List.mem_append_left _ (List.mem_append_left _ (List.mem_append_left _ (List.mem_append_left _ (List.mem_append_right _ (List.mem_append_right _ (List.mem_append_right _ (List.mem_append_right _ (List.mem_append_right _ (List.mem_append_right _ (List.mem_append_right _ (List.mem_append_right _ (List.mem_append_right _ (List.mem_append_right _ (List.mem_append_right _ (List.mem_append_right _ (List.mem_append_right _ (List.mem_append_right _ (List.mem_append_right _ (List.mem_append_right _ (List.mem_append_right _ (List.mem_append_right _ (List.mem_append_right _ (List.mem_append_right _ (List.mem_append_right _ (List.mem_append_right _ (List.mem_append_right _ (List.mem_append_right _ (List.mem_append_right _ (List.mem_append_right _ (List.mem_append_right _ (List.mem_append_right _ (List.mem_append_right _ (List.mem_append_right _ (List.mem_append_left _ h)))))))))))))))))))))))))))))))))))))))))))))))
theorem inR_32 : ∀ w ∈ wsL_law0_r32, w ∈ wsL_law := fun _ h => inR_law _ (List.mem_append_left _ (List.mem_append_left _ (List.mem_append_left _ (List.mem_append_left _ (List.mem_append_left _ (List.mem_append_left _ (List.mem_append_left _ (List.mem_append_left _ (List.mem_append_left _ (List.mem_append_left _ (List.mem_append_left _ (List.mem_append_left _ (List.mem_append_left _ (List.mem_append_left _ (List.mem_append_left _ (List.mem_append_left _ (List.mem_append_right _ (List.mem_append_right _ (List.mem_append_right _ (List.mem_append_right _ (List.mem_append_right _ (List.mem_append_right _ (List.mem_append_right _ (List.mem_append_right _ (List.mem_append_right _ (List.mem_append_right _ (List.mem_append_right _ (List.mem_append_right _ (List.mem_append_right _ (List.mem_append_right _ (List.mem_append_right _ (List.mem_append_right _ (List.mem_append_right _ (List.mem_append_right _ (List.mem_append_right _ (List.mem_append_right _ (List.mem_append_right _ (List.mem_append_right _ (List.mem_append_right _ (List.mem_append_right _ (List.mem_append_right _ (List.mem_append_right _ (List.mem_append_right _ (List.mem_append_right _ (List.mem_append_right _ (List.mem_append_right _ (List.mem_append_right _ (List.mem_append_left _ h))))))))))))))))))))))))))))))))))))))))))))))))
theorem inR_33 : ∀ w ∈ wsL_law0_r33, w ∈ wsL_law := fun _ h => inR_law _ (List.mem_append_left _ (List.mem_append_left _ (List.mem_append_left _ (List.mem_append_left _ (List.mem_append_left _ (List.mem_append_left _ (List.mem_append_left _ (List.mem_append_left _ (List.mem_append_left _ (List.mem_append_left _ (List.mem_append_left _ (List.mem_append_left _ (List.mem_append_left _ (List.mem_append_left _ (List.mem_append_left _ (List.mem_append_left _ (List.mem_append_right _ (List.mem_append_right _ (List.mem_append_right _ (List.mem_append_right _ (List.mem_append_right _ (List.mem_append_right _ (List.mem_append_right _ (List.mem_append_right _ (List.mem_append_right _ (List.mem_append_right _ (List.mem_append_right _ (List.mem_append_right _ (List.mem_append_right _ (List.mem_append_right _ (List.mem_append_right _ (List.mem_append_right _ (List.mem_append_right _ (List.mem_append_right _ (List.mem_append_right _ (List.mem_append_right _ (List.mem_append_right _ (List.mem_append_right _ (List.mem_append_right _ (List.mem_append_right _ (List.mem_append_right _ (List.mem_append_right _ (List.mem_append_right _ (List.mem_append_right _ (List.mem_append_right _ (List.mem_append_right _ (List.mem_append_right _ (List.mem_append_right _ (List.mem_append_left _ h)))))))))))))))))))))))))))))))))))))))))))))))))
theorem inR_34 : ∀ w ∈ wsL_law0_r34, w ∈ wsL_law := fun _ h => inR_law _ (List.mem_append_left _ (List.mem_append_left _ (List.mem_append_left _ (List.mem_append_left _ (List.mem_append_left _ (List.mem_append_left _ (List.mem_append_left _ (List.mem_append_left _ (List.mem_append_left _ (List.mem_append_left _ (List.mem_append_left _ (List.mem_append_left _ (List.mem_append_left _ (List.mem_append_left _ (List.mem_append_left _ (List.mem_append_left _ (List.mem_append_right _ (List.mem_append_right _ (List.mem_append_right _ (List.mem_append_right _ (List.mem_append_right _ (List.mem_append_right _ (List.mem_append_right _ (List.mem_append_right _ (List.mem_append_right _ (List.mem_append_right _ (List.mem_append_right _ (List.mem_append_right _ (List.mem_append_right _ (List.mem_append_right _ (List.mem_append_right _ (List.mem_append_right _ (List.mem_append_right _ (List.mem_append_right _ (List.mem_append_right _ (List.mem_append_right _ (List.mem_append_right _ (List.mem_append_right _ (List.mem_append_right _ (List.mem_append_right _ (List.mem_append_right _ (List.mem_append_right _ (List.mem_append_right _ (List.mem_append_right _ (List.mem_append_right _ (List.mem_append_right _ (List.mem_append_right _ (List.mem_append_right _ (List.mem_append_right _ (List.mem_append_left _ h))))))))))))))))))))))))))))))))))))))))))))))))))
theorem inR_35 : ∀ w ∈ wsL_law0_r35, w ∈ wsL_law := fun _ h => inR_law _ (List.mem_append_left _ (List.mem_append_left _ (List.mem_append_left _ (List.mem_append_left _ (List.mem_append_left _ (List.mem_append_left _ (List.mem_append_left _ (List.mem_append_left _ (List.mem_append_left _ (List.mem_append_left _ (List.mem_append_left _ (List.mem_append_left _ (List.mem_append_left _ (List.mem_append_left _ (List.mem_append_left _ (List.mem_append_left _ (List.mem_append_right _ (List.mem_append_right _ (List.mem_append_right _ (List.mem_append_right _ (List.mem_append_right _ (List.mem_append_right _ (List.mem_append_right _ (List.mem_append_right _ (List.mem_append_right _ (List.mem_append_right _ (List.mem_append_right _ (List.mem_append_right _ (List.mem_append_right _ (List.mem_append_right _ (List.mem_append_right _ (List.mem_append_right _ (List.mem_append_right _ (List.mem_append_right _ (List.mem_append_right _ (List.mem_append_right _ (List.mem_append_right _ (List.mem_append_right _ (List.mem_append_right _ (List.mem_append_right _ (List.mem_append_right _ (List.mem_append_right _ (List.mem_append_right _ (List.mem_append_right _ (List.mem_append_right _ (List.mem_append_right _ (List.mem_append_right _ (List.mem_append_right _ (List.mem_append_right _ (List.mem_append_right _ (List.mem_append_left _ h)))))))))))))))))))))))))))))))))))))))))))))))))))
theorem inR_36 : ∀ w ∈ wsL_law0_r36, w ∈ wsL_law := fun _ h => inR_law _ (List.mem_append_left _ (List.mem_append_left _ (List.mem_append_left _ (List.mem_append_left _ (List.mem_append_left _ (List.mem_append_left _ (List.mem_append_left _ (List.mem_append_left _ (List.mem_append_left _ (List.mem_append_left _ (List.mem_append_left _ (List.mem_append_left _ (List.mem_append_left _ (List.mem_append_left _ (List.mem_append_left _ (List.mem_append_left _ (List.mem_append_right _ (List.mem_append_right _ (List.mem_append_right _ (List.mem_append_right _ (List.mem_append_right _ (List.mem_append_right _ (List.mem_append_right _ (List.mem_append_right _ (List.mem_append_right _ (List.mem_append_right _ (List.mem_append_right _ (List.mem_append_right _ (List.mem_append_right _ (List.mem_append_right _ (List.mem_append_right _ (List.mem_append_right _ (List.mem_append_right _ (List.mem_append_right _ (List.mem_append_right _ (List.mem_append_right _ (List.mem_append_right _ (List.mem_append_right _ (List.mem_append_right _ (List.mem_append_right _ (List.mem_append_right _ (List.mem_append_right _ (List.mem_append_right _ (List.mem_append_right _ (List.mem_append_right _ (List.mem_append_right _ (List.mem_append_right _ (List.mem_append_right _ (List.mem_append_right _ (List.mem_append_right _ (List.mem_append_right _ (List.mem_append_left _ h))))))))))))))))))))))))))))))))))))))))))))))))))))
theorem inR_37 : ∀ w ∈ wsL_law0_r37, w ∈ wsL_law := fun _ h => inR_law _ (List.mem_append_left _ (List.mem_append_left _ (List.mem_append_left _ (List.mem_append_left _ (List.mem_append_left _ (List.mem_append_left _ (List.mem_append_left _ (List.mem_append_left _ (List.mem_append_left _ (List.mem_append_left _ (List.mem_append_left _ (List.mem_append_left _ (List.mem_append_left _ (List.mem_append_left _ (List.mem_append_left _ (List.mem_append_left _ (List.mem_append_right _ (List.mem_append_right _ (List.mem_append_right _ (List.mem_append_right _ (List.mem_append_right _ (List.mem_append_right _ (List.mem_append_right _ (List.mem_append_right _ (List.mem_append_right _ (List.mem_append_right _ (List.mem_append_right _ (List.mem_append_right _ (List.mem_append_right _ (List.mem_append_right _ (List.mem_append_right _ (List.mem_append_right _ (List.mem_append_right _ (List.mem_append_right _ (List.mem_append_right _ (List.mem_append_right _ (List.mem_append_right _ (List.mem_append_right _ (List.mem_append_right _ (List.mem_append_right _ (List.mem_append_right _ (List.mem_append_right _ (List.mem_append_right _ (List.mem_append_right _ (List.mem_append_right _ (List.mem_append_right _ (List.mem_append_right _ (List.mem_append_right _ (List.mem_append_right _ (List.mem_append_right _ (List.mem_append_right _ (List.mem_append_right _ (h)))))))))))))))))))))))))))))))))))))))))))))))))))))
abbrev Shp : Type := (Nat × List Nat) ⊕ (Nat × Nat)
/-- the shape of each cell from bs on: an object (its class, its fields: 0 int, 1 long, 2 a reference that changes, t + 3 the cell t), or an array (0 int, 1 byte, 2 long, 3 double, 4 rows; its length) -/
def shL : List Shp := [.inl (11, [32, 64, 4, 7, 10, 12, 30, 2, 2, 2, 2, 0, 0]), .inl (0, [5]), .inl (7, [6, 0]), .inr (0, 12), .inl (8, [8, 0]), .inl (7, [9, 0]), .inr (0, 12), .inl (7, [11, 0]), .inr (0, 12), .inl (2, [13, 0, 0]), .inr (4, 16), .inr (0, 186), .inr (0, 186), .inr (0, 186), .inr (0, 186), .inr (0, 186), .inr (0, 186), .inr (0, 186), .inr (0, 186), .inr (0, 186), .inr (0, 186), .inr (0, 186), .inr (0, 186), .inr (0, 186), .inr (0, 186), .inr (0, 186), .inr (0, 186), .inl (4, [31, 0]), .inr (1, 1152), .inl (9, [33, 0]), .inr (1, 900), .inl (1, [0, 0, 0, 0, 0, 0, 35, 36, 37, 38, 39, 40, 41, 42, 43, 44]), .inr (0, 4), .inr (0, 12), .inr (0, 12), .inr (0, 12), .inr (0, 12), .inr (0, 12), .inr (0, 5), .inr (0, 5), .inr (0, 12), .inr (0, 12), .inl (1, [0, 0, 0, 0, 0, 0, 46, 47, 48, 49, 50, 51, 52, 53, 54, 55]), .inr (0, 4), .inr (0, 12), .inr (0, 12), .inr (0, 12), .inr (0, 12), .inr (0, 12), .inr (0, 5), .inr (0, 5), .inr (0, 12), .inr (0, 12), .inl (6, [2, 57, 58, 59]), .inr (0, 144), .inr (0, 156), .inr (0, 156), .inl (6, [2, 61, 62, 63]), .inr (0, 144), .inr (0, 156), .inr (0, 156), .inl (5, [69, 65, 2, 2, 0, 0]), .inl (3, [66, 67, 68, 0]), .inr (2, 21), .inr (0, 21), .inr (0, 21), .inl (10, [32, 0, 0, 0, 0, 0, 1]), .inr (9, 18), .inr (0, 0), .inr (0, 5), .inr (0, 5), .inr (0, 5), .inr (0, 5), .inr (0, 5), .inr (0, 2), .inr (0, 2), .inr (0, 6), .inr (5, 5), .inr (0, 6), .inr (0, 6), .inr (0, 6), .inr (0, 6), .inr (0, 6)]
abbrev NC : Nat := 67
abbrev NT : Nat := 83
def shp (k : Nat) : Shp := shL.getD k (.inr (0, 0))
abbrev CI : Type := Nat → Nat → Int32
abbrev CL : Type := Nat → Nat → Int64
abbrev CR : Type := Nat → Nat → Nat
/-- a field's value: q.1 its kind, q.2 its place -/
def fvV (bs : Nat) (i : Nat → Int32) (l : Nat → Int64) (r : Nat → Nat) (q : Nat × Nat) : Value := match q.1 with
  | 0 => .int (i q.2)
  | 1 => .long (l q.2)
  | 2 => .ref (bs + r q.2)
  | t + 3 => .ref (bs + t)
/-- the law's cells: places 67 to 82, ahead of bs -/
def ad (bs k : Nat) : Nat := bs + k - 83
def adr (bs k : Nat) : Nat := if k < 67 then bs + k else ad bs k
def entA (bs : Nat) (ty : Nat) (i : Nat → Int32) (l : Nat → Int64) : (Nat → Int32) ⊕ (Nat → Int64) ⊕ (Nat → UInt32) ⊕ (Nat → UInt64) ⊕ (Nat → Option Nat) := match ty with
  | 0 => .inl i
  | 1 => .inl i
  | 2 => .inr (.inl l)
  | 3 => .inl i
  | 4 => .inr (.inr (.inr (.inr (fun j => some (bs + 11 + j)))))
  | _ => .inr (.inr (.inr (.inr (fun j => some (ad bs (78 + j))))))
/-- the law's own object -/
def wfs (bs : Nat) (i : Nat → Int32) (r : Nat → Nat) : List Value := [.ref (r 0), .int (i 1), .int (i 2), .int (i 3), .int (i 4), .int (i 5), .int (i 6), .int (i 7), .ref (ad bs 69), .ref (ad bs 70), .ref (ad bs 71), .ref (ad bs 72), .ref (ad bs 73), .ref (ad bs 74), .ref (ad bs 75), .ref (ad bs 76), .ref (ad bs 77), .int (i 17)]
def ent (bs : Nat) (cy : Nat → ClassId) (s : Shp) (i : Nat → Int32) (l : Nat → Int64) (r : Nat → Nat) : va_E := match s with
  | .inl (ci, ks) => .inr (ci, ks.zipIdx.map (fvV bs i l r))
  | .inr (ty, n) => if ty = 9 then .inr (12, wfs bs i r) else .inl (cy ty, n, entA bs ty i l)
def wl (bs : Nat) (cy : Nat → ClassId) (I : CI) (L : CL) (R : CR) : va_W := (List.range NT).map (fun k => (adr bs k, ent bs cy (shp k) (I k) (L k) (R k)))
def Wd (G : va_G) (bs : Nat) (cy : Nat → ClassId) (I : CI) (L : CL) (R : CR) (H : Heap) : Prop := va_P G vwCl (wl bs cy I L R) H
/-- the world's own cells -/
def Aq (bs : Nat) : Nat → Prop := fun q => bs ≤ q + 16 ∧ q < bs + 67
/-- all from the world's first cell on -/
def Ag (bs : Nat) : Nat → Prop := fun q => bs ≤ q + 16
theorem agq {bs q : Nat} (h : Aq bs q) : Ag bs q := h.1
def tyLs (cy : Nat → ClassId) : List (ClassId × FieldType) := [(cy 0, .int), (cy 1, .byte), (cy 2, .long), (cy 3, .boolean), (cy 4, .array .int), (cy 5, .array .int)]
def u2 (I : CI) (k j : Nat) (v : Int32) : CI := fun a => if a = k then upd (I a) j v else I a
def u2L (L : CL) (k j : Nat) (v : Int64) : CL := fun a => if a = k then vp_updL (L a) j v else L a
def u2R (R : CR) (k j v : Nat) : CR := fun a => if a = k then (fun b => if b = j then v else R a b) else R a
theorem wl_at0 {bs : Nat} {cy : Nat → ClassId} {I : CI} {L : CL} {R : CR} {k : Nat} (h : k < NT) : (wl bs cy I L R)[k]? = some (adr bs k, ent bs cy (shp k) (I k) (L k) (R k)) := by
  unfold wl
  rw [List.getElem?_map, List.getElem?_range h]
  rfl
theorem adr_lt {bs k : Nat} (h : k < NC) : adr bs k = bs + k := if_pos h
theorem adr_ge {bs k : Nat} (h : 67 ≤ k) : adr bs k = ad bs k := if_neg (Nat.not_lt.mpr h)
theorem wl_at {bs : Nat} {cy : Nat → ClassId} {I : CI} {L : CL} {R : CR} {k : Nat} (h : k < NC) : (wl bs cy I L R)[k]? = some (bs + k, ent bs cy (shp k) (I k) (L k) (R k)) := by
  rw [wl_at0 (Nat.lt_of_lt_of_le h (by decide)), adr_lt h]
theorem wl_atL {bs : Nat} {cy : Nat → ClassId} {I : CI} {L : CL} {R : CR} {k : Nat} (h : 67 ≤ k ∧ k < NT) : (wl bs cy I L R)[k]? = some (ad bs k, ent bs cy (shp k) (I k) (L k) (R k)) := by
  rw [wl_at0 h.2, adr_ge h.1]
theorem wl_in {bs : Nat} {cy : Nat → ClassId} {I : CI} {L : CL} {R : CR} {k : Nat} {q : Nat × va_E} (h : (wl bs cy I L R)[k]? = some q) : k < NT ∧ q.1 = adr bs k := by
  have hk : k < NT := by
    have h1 := (List.getElem?_eq_some_iff.mp h).1
    unfold wl at h1
    rwa [List.length_map, List.length_range] at h1
  rw [wl_at0 hk] at h
  cases h
  exact ⟨hk, rfl⟩
theorem adr_A {bs k : Nat} (hb : 16 ≤ bs) (hk : k < NT) : Aq bs (adr bs k) := by
  unfold Aq adr ad
  have : NT = 83 := rfl
  split <;> omega
theorem wl_D {bs : Nat} {cy : Nat → ClassId} {I : CI} {L : CL} {R : CR} (hb : 16 ≤ bs) : va_D (Aq bs) (wl bs cy I L R) := by
  refine ⟨fun i j p q hp hq he => ?_, fun k q h => ?_⟩
  · obtain ⟨h1, e1⟩ := wl_in hp
    obtain ⟨h2, e2⟩ := wl_in hq
    rw [e1, e2] at he
    unfold adr ad at he
    have : NT = 83 := rfl
    split at he <;> split at he <;> omega
  · obtain ⟨h1, e1⟩ := wl_in h
    rw [e1]
    exact adr_A hb h1
/-- one cell of the world replaced -/
theorem wl_set0 {bs : Nat} {cy : Nat → ClassId} {I I' : CI} {L L' : CL} {R R' : CR} {k : Nat} {e : va_E} (hI : ∀ a, a ≠ k → I' a = I a) (hL : ∀ a, a ≠ k → L' a = L a) (hR : ∀ a, a ≠ k → R' a = R a) (he : k < NT → e = ent bs cy (shp k) (I' k) (L' k) (R' k)) :
    (wl bs cy I L R).set k (adr bs k, e) = wl bs cy I' L' R' := by
  apply List.ext_getElem?
  intro j
  rw [List.getElem?_set]
  by_cases hj : k = j
  · subst hj
    by_cases hk : k < NT
    · rw [wl_at0 hk]
      simp [wl, hk, he hk]
    · simp [wl, hk]
  · rw [if_neg hj]
    by_cases hk : j < NT
    · rw [wl_at0 hk, wl_at0 hk, hI j (Ne.symm hj), hL j (Ne.symm hj), hR j (Ne.symm hj)]
    · simp [wl, hk]
theorem wl_set {bs : Nat} {cy : Nat → ClassId} {I I' : CI} {L L' : CL} {R R' : CR} {k : Nat} {e : va_E} (hk : k < NC) (hI : ∀ a, a ≠ k → I' a = I a) (hL : ∀ a, a ≠ k → L' a = L a) (hR : ∀ a, a ≠ k → R' a = R a) (he : k < NC → e = ent bs cy (shp k) (I' k) (L' k) (R' k)) :
    (wl bs cy I L R).set k (bs + k, e) = wl bs cy I' L' R' := by
  rw [← adr_lt hk]
  exact wl_set0 hI hL hR (fun _ => he hk)
theorem wl_setL {bs : Nat} {cy : Nat → ClassId} {I I' : CI} {L L' : CL} {R R' : CR} {k : Nat} {e : va_E} (hk : 67 ≤ k ∧ k < NT) (hI : ∀ a, a ≠ k → I' a = I a) (hL : ∀ a, a ≠ k → L' a = L a) (hR : ∀ a, a ≠ k → R' a = R a) (he : e = ent bs cy (shp k) (I' k) (L' k) (R' k)) :
    (wl bs cy I L R).set k (ad bs k, e) = wl bs cy I' L' R' := by
  rw [← adr_ge hk.1]
  exact wl_set0 hI hL hR (fun _ => he)
theorem u2_ne {I : CI} {k j a : Nat} {v : Int32} (h : a ≠ k) : u2 I k j v a = I a := if_neg h
theorem u2_eq {I : CI} {k j : Nat} {v : Int32} : u2 I k j v k = upd (I k) j v := if_pos rfl
theorem u2L_ne {I : CL} {k j a : Nat} {v : Int64} (h : a ≠ k) : u2L I k j v a = I a := if_neg h
theorem u2L_eq {I : CL} {k j : Nat} {v : Int64} : u2L I k j v k = vp_updL (I k) j v := if_pos rfl
theorem u2R_ne {I : CR} {k j a v : Nat} (h : a ≠ k) : u2R I k j v a = I a := if_neg h
theorem ks_at {bs : Nat} {i : Nat → Int32} {l : Nat → Int64} {r : Nat → Nat} {ks : List Nat} {j t : Nat} (h : ks[j]? = some t) : (ks.zipIdx.map (fvV bs i l r))[j]? = some (fvV bs i l r (t, j)) := by
  rw [List.getElem?_map, List.getElem?_zipIdx, h]
  simp
theorem ks_len {bs : Nat} {i : Nat → Int32} {l : Nat → Int64} {r : Nat → Nat} {ks : List Nat} {j t : Nat} (h : ks[j]? = some t) : j < (ks.zipIdx.map (fvV bs i l r)).length := by
  rw [List.length_map, List.length_zipIdx]
  exact (List.getElem?_eq_some_iff.mp h).1
theorem ks_set {bs : Nat} {i i' : Nat → Int32} {l l' : Nat → Int64} {r r' : Nat → Nat} {ks : List Nat} {j t : Nat} {v : Value} (h : ks[j]? = some t) (hv : v = fvV bs i' l' r' (t, j)) (hne : ∀ a, a ≠ j → i' a = i a ∧ l' a = l a ∧ r' a = r a) :
    (ks.zipIdx.map (fvV bs i l r)).set j v = ks.zipIdx.map (fvV bs i' l' r') := by
  apply List.ext_getElem?
  intro a
  rw [List.getElem?_set]
  by_cases ha : j = a
  · subst ha
    rw [if_pos rfl, if_pos (ks_len h), ks_at h, hv]
  · rw [if_neg ha, List.getElem?_map, List.getElem?_map, List.getElem?_zipIdx]
    cases hk : ks[a]? with
    | none => simp
    | some t2 =>
      obtain ⟨e1, e2, e3⟩ := hne a (Ne.symm ha)
      simp only [Option.map_some, Nat.zero_add]
      congr 1
      unfold fvV
      dsimp only
      split <;> simp [e1, e2, e3]
/-- words that a walk carries beside wsL_law: links between nest mates, what a throw and a catch ask -/
def nestL : List Cond := [Cond.fieldLinkNest "SpanPainter$Tokens" 37 "SpanPainter$Text" "bytes" "[B" "SpanPainter", Cond.fieldLinkNest "SpanPainter$Tokens" 13 "SpanPainter$Text" "size" "I" "SpanPainter", Cond.fieldLinkNest "SpanPainter$Parser" 139 "SpanPainter$Bridge" "years" "I" "SpanPainter", Cond.fieldLinkNest "SpanPainter$Plan" 53 "SpanPainter$Bridge" "years" "I" "SpanPainter", Cond.fieldLinkNest "SpanPainter" 168 "SpanPainter$Bridge" "years" "I" "SpanPainter", Cond.fieldLinkNest "SpanPainter$Parser" 142 "SpanPainter$Bridge" "shut" "I" "SpanPainter", Cond.fieldLinkNest "SpanPainter$Plan" 139 "SpanPainter$Bridge" "shut" "I" "SpanPainter", Cond.fieldLinkNest "SpanPainter$Parser" 145 "SpanPainter$Bridge" "guard" "I" "SpanPainter", Cond.fieldLinkNest "SpanPainter$Plan" 60 "SpanPainter$Bridge" "guard" "I" "SpanPainter", Cond.fieldLinkNest "SpanPainter$Parser" 95 "SpanPainter$Bridge" "laneCount" "I" "SpanPainter", Cond.fieldLinkNest "SpanPainter" 128 "SpanPainter$Bridge" "spanCount" "I" "SpanPainter", Cond.fieldLinkNest "SpanPainter$Parser" 103 "SpanPainter$Bridge" "spanCount" "I" "SpanPainter", Cond.fieldLinkNest "SpanPainter$Plan" 46 "SpanPainter$Bridge" "spanCount" "I" "SpanPainter", Cond.fieldLinkNest "SpanPainter$Parser" 111 "SpanPainter$Bridge" "gangCount" "I" "SpanPainter", Cond.fieldLinkNest "SpanPainter" 226 "SpanPainter$Bridge" "gangCount" "I" "SpanPainter", Cond.fieldLinkNest "SpanPainter$Plan" 95 "SpanPainter$Bridge" "laneOf" "[I" "SpanPainter", Cond.fieldLinkNest "SpanPainter$Plan" 83 "SpanPainter$Bridge" "area" "[I" "SpanPainter", Cond.fieldLinkNest "SpanPainter$Plan" 50 "SpanPainter$Bridge" "rust" "[I" "SpanPainter", Cond.fieldLinkNest "SpanPainter$Plan" 63 "SpanPainter$Bridge" "rate" "[I" "SpanPainter", Cond.fieldLinkNest "SpanPainter$Plan" 72 "SpanPainter$Bridge" "limit" "[I" "SpanPainter", Cond.fieldLinkNest "SpanPainter$Parser" 173 "SpanPainter$Bridge" "days" "[I" "SpanPainter", Cond.fieldLinkNest "SpanPainter$Parser" 181 "SpanPainter$Bridge" "closed" "[I" "SpanPainter", Cond.fieldLinkNest "SpanPainter$Parser" 74 "SpanPainter$Tokens" "start" "I" "SpanPainter", Cond.fieldLinkNest "SpanPainter$Parser" 64 "SpanPainter$Tokens" "kind" "I" "SpanPainter", Cond.fieldLinkNest "SpanPainter$Parser" 192 "SpanPainter$Tokens" "number" "I" "SpanPainter", Cond.fieldLinkNest "SpanPainter$Parser" 80 "SpanPainter$Tokens" "word" "J" "SpanPainter", Cond.methodLinkNest "SpanPainter" 11 ({ cls := "SpanPainter$AutoPlanner", name := "<init>", desc := "()V" } : Jvm.MethodName) "SpanPainter", Cond.methodLinkNest "SpanPainter$AutoPlanner" 11 ({ cls := "SpanPainter$Ranking", name := "<init>", desc := "()V" } : Jvm.MethodName) "SpanPainter", Cond.methodLinkNest "SpanPainter" 18 ({ cls := "SpanPainter$SafeSearch", name := "<init>", desc := "()V" } : Jvm.MethodName) "SpanPainter", Cond.methodLinkNest "SpanPainter$SafeSearch" 11 ({ cls := "SpanPainter$Ranking", name := "<init>", desc := "()V" } : Jvm.MethodName) "SpanPainter", Cond.methodLinkNest "SpanPainter" 25 ({ cls := "SpanPainter$Ranking", name := "<init>", desc := "()V" } : Jvm.MethodName) "SpanPainter", Cond.methodLinkNest "SpanPainter" 32 ({ cls := "SpanPainter$History", name := "<init>", desc := "()V" } : Jvm.MethodName) "SpanPainter", Cond.methodLinkNest "SpanPainter" 39 ({ cls := "SpanPainter$Output", name := "<init>", desc := "()V" } : Jvm.MethodName) "SpanPainter", Cond.methodLinkNest "SpanPainter" 54 ({ cls := "SpanPainter$Text", name := "<init>", desc := "()V" } : Jvm.MethodName) "SpanPainter", Cond.methodLinkNest "SpanPainter$Parser" 11 ({ cls := "SpanPainter$Names", name := "<init>", desc := "()V" } : Jvm.MethodName) "SpanPainter", Cond.castable "java/lang/IndexOutOfBoundsException" "java/lang/IndexOutOfBoundsException", Cond.castable "java/lang/IllegalArgumentException" "java/lang/IllegalArgumentException", Cond.declares (Bundle.initS "java/lang/RuntimeException"), Cond.declares (Bundle.initS "java/lang/Exception"), Cond.declares (Bundle.initS Bundle.tN), Cond.castable "[B" "java/lang/Cloneable"]
def okW (w : Cond) : Prop := w.onTables = true ∧ ∀ s U : State, s.WarmedH U.vm → va_Nw w s → va_Nw w U
theorem okW_F {a : String} {i : Nat} {b n d h : String} : okW (.fieldLinkNest a i b n d h) := ⟨rfl, fun _ _ hW hZ => va_Nw.warmF hW hZ⟩
theorem okW_M {a : String} {i : Nat} {x : MethodName} {h : String} : okW (.methodLinkNest a i x h) := ⟨rfl, fun _ _ hW hZ => va_Nw.warmM hW hZ⟩
theorem okW_C {C T : String} : okW (.castable C T) := ⟨rfl, fun _ _ hW hZ => va_Nw.warmC hW hZ⟩
theorem okW_D {x : MethodName} : okW (.declares x) := ⟨rfl, fun s U hW hZ => va_tabs rfl (rfl : (s.setVm U.vm).vm = U.vm) (by rw [Cond.declares_setVm hW.alike]; exact hZ)⟩
theorem nest_ok : ∀ w ∈ nestL, okW w := List.forall_mem_cons.mpr ⟨okW_F, List.forall_mem_cons.mpr ⟨okW_F, List.forall_mem_cons.mpr ⟨okW_F, List.forall_mem_cons.mpr ⟨okW_F, List.forall_mem_cons.mpr ⟨okW_F, List.forall_mem_cons.mpr ⟨okW_F, List.forall_mem_cons.mpr ⟨okW_F, List.forall_mem_cons.mpr ⟨okW_F, List.forall_mem_cons.mpr ⟨okW_F, List.forall_mem_cons.mpr ⟨okW_F, List.forall_mem_cons.mpr ⟨okW_F, List.forall_mem_cons.mpr ⟨okW_F, List.forall_mem_cons.mpr ⟨okW_F, List.forall_mem_cons.mpr ⟨okW_F, List.forall_mem_cons.mpr ⟨okW_F, List.forall_mem_cons.mpr ⟨okW_F, List.forall_mem_cons.mpr ⟨okW_F, List.forall_mem_cons.mpr ⟨okW_F, List.forall_mem_cons.mpr ⟨okW_F, List.forall_mem_cons.mpr ⟨okW_F, List.forall_mem_cons.mpr ⟨okW_F, List.forall_mem_cons.mpr ⟨okW_F, List.forall_mem_cons.mpr ⟨okW_F, List.forall_mem_cons.mpr ⟨okW_F, List.forall_mem_cons.mpr ⟨okW_F, List.forall_mem_cons.mpr ⟨okW_F, List.forall_mem_cons.mpr ⟨okW_M, List.forall_mem_cons.mpr ⟨okW_M, List.forall_mem_cons.mpr ⟨okW_M, List.forall_mem_cons.mpr ⟨okW_M, List.forall_mem_cons.mpr ⟨okW_M, List.forall_mem_cons.mpr ⟨okW_M, List.forall_mem_cons.mpr ⟨okW_M, List.forall_mem_cons.mpr ⟨okW_M, List.forall_mem_cons.mpr ⟨okW_M, List.forall_mem_cons.mpr ⟨okW_C, List.forall_mem_cons.mpr ⟨okW_C, List.forall_mem_cons.mpr ⟨okW_D, List.forall_mem_cons.mpr ⟨okW_D, List.forall_mem_cons.mpr ⟨okW_D, List.forall_mem_cons.mpr ⟨okW_C, fun _ h => absurd h List.not_mem_nil⟩⟩⟩⟩⟩⟩⟩⟩⟩⟩⟩⟩⟩⟩⟩⟩⟩⟩⟩⟩⟩⟩⟩⟩⟩⟩⟩⟩⟩⟩⟩⟩⟩⟩⟩⟩⟩⟩⟩⟩⟩
def strL : List (Nat × String) := [(105, "the buffer does not hold so many bytes"), (334, "there is no such span"), (332, "there is no such year"), (341, "there is no such gang")]
/-- the law's texts: their places in its pool, their words -/
def litL : List (Nat × String) := [(102, "bridge "), (111, " "), (113, ";"), (119, "lane l"), (128, "gang g"), (130, "weather "), (132, "span s"), (134, "none"), (136, "l")]
def litN : List Nat := [7, 1, 1, 6, 6, 8, 6, 4, 1]
def litB : List (List Int32) := [[98, 114, 105, 100, 103, 101, 32], [32], [59], [108, 97, 110, 101, 32, 108], [103, 97, 110, 103, 32, 103], [119, 101, 97, 116, 104, 101, 114, 32], [115, 112, 97, 110, 32, 115], [110, 111, 110, 101], [108]]
def NK (U : State) : Prop := (∀ w ∈ nestL, va_Nw w U) ∧ ∀ q ∈ strL, ∃ a : Nat, vk_R RX11 q.1 q.2 a U
/-- texts and statics of the JDK: cells below the world that nothing changes (cy 20 .. 28 the law's texts, cy 40 .. 48 their bytes, cy 60, cy 61 the digits' tables; cy 70 the script, cy 71 its length, cy (100 + j) its numbers) -/
def ES (bs : Nat) (cy : Nat → ClassId) (U : State) (H : Heap) : Prop := vk_S 9 litN litB (fun i => cy (20 + i)) (fun i => cy (40 + i)) (Ag bs) U H ∧ va_Z "java/lang/String" "COMPACT_STRINGS" "Z" (.int 1) (Ag bs) U H ∧ va_Zq "jdk/internal/util/Preconditions" "SIOOBE_FORMATTER" "Ljava/util/function/BiFunction;" (Ag bs) U H ∧
  va_Z "java/lang/Integer" "DigitOnes" "[B" (.ref (cy 60)) (Ag bs) U H ∧ va_Z "java/lang/Integer" "DigitTens" "[B" (.ref (cy 61)) (Ag bs) U H ∧ va_T .byte (cy 60) 100 (fun j => .int (nI (48 + j % 10))) (Ag bs) U H ∧ va_T .byte (cy 61) 100 (fun j => .int (nI (48 + j / 10))) (Ag bs) U H ∧ va_T .int (cy 70) (cy 71) (fun j => .int (nI (cy (100 + j)))) (Ag bs) U H ∧ cy 71 < 2 ^ 31
def LR (cy : Nat → ClassId) (U : State) : Prop := ∀ i, i < 9 → vk_R RL ((litL.getD i (0, "")).1) ((litL.getD i (0, "")).2) (cy (20 + i)) U
/-- what a walk stands on beside the world -/
def EK (bs : Nat) (cy : Nat → ClassId) (U : State) (H : Heap) : Prop := NK U ∧ vx_Zq Bundle.tN "UNASSIGNED_STACK" Bundle.steD (Ag bs) U H ∧ vx_Zq Bundle.tN "SUPPRESSED_SENTINEL" Bundle.listD (Ag bs) U H ∧ 16 ≤ bs ∧ LR cy U ∧ ES bs cy U H
theorem NK.warm {s U : State} (hW : s.WarmedH U.vm) (h : NK s) : NK U := ⟨fun w hw => (nest_ok w hw).2 s U hW (h.1 w hw), fun q hq => by obtain ⟨a, ha⟩ := h.2 q hq; exact ⟨a, vk_R.warm hW ha⟩⟩
theorem NK.same {s U : State} (hv : U.vm = s.vm) (h : NK s) : NK U := ⟨fun w hw => va_Nw.same (nest_ok w hw).1 hv.symm (h.1 w hw), fun q hq => by obtain ⟨a, ha⟩ := h.2 q hq; exact ⟨a, vk_R.same hv ha⟩⟩
theorem ES.kept {bs : Nat} {cy : Nat → ClassId} {U : State} {H H1 : Heap} (h : ES bs cy U H) (hk : ∀ a : Nat, a < H.size → ¬ Ag bs a → H1[a]? = H[a]?) : ES bs cy U H1 := by
  obtain ⟨h1, h2, h3, h4, h5, h6, h7, h8, h9⟩ := h
  exact ⟨h1.kept hk, h2.kept hk, h3.kept hk, h4.kept hk, h5.kept hk, h6.kept hk, h7.kept hk, h8.kept hk, h9⟩
theorem ES.moved {bs : Nat} {cy : Nat → ClassId} {u U : State} {H : Heap} (hvm : u.vm.Alike U.vm) (h : ES bs cy u H) : ES bs cy U H := by
  obtain ⟨h1, h2, h3, h4, h5, h6, h7, h8, h9⟩ := h
  exact ⟨h1.moved hvm, h2.moved hvm, h3.moved hvm, h4.moved hvm, h5.moved hvm, h6.moved hvm, h7.moved hvm, h8.moved hvm, h9⟩
theorem EK.tog {bs : Nat} {cy : Nat → ClassId} {s U : State} {H : Heap} (hW : s.WarmedH U.vm) (hk : ∀ a : Nat, a < s.heap.size → ¬ Ag bs a → H[a]? = s.heap[a]?) (h : EK bs cy s s.heap) : EK bs cy U H := by
  obtain ⟨h1, h2, h3, h4, h5, h6⟩ := h
  exact ⟨h1.warm hW, (h2.moved hW.alike).kept hk, (h3.moved hW.alike).kept hk, h4, fun i hi => vk_R.warm hW (h5 i hi), (h6.moved hW.alike).kept hk⟩
theorem EK.to {bs : Nat} {cy : Nat → ClassId} {s U : State} {H : Heap} (hW : s.WarmedH U.vm) (hk : ∀ a : Nat, a < s.heap.size → ¬ Aq bs a → H[a]? = s.heap[a]?) (h : EK bs cy s s.heap) : EK bs cy U H := h.tog hW (fun a h1 h2 => hk a h1 (fun z => h2 (agq z)))
theorem EK.same {bs : Nat} {cy : Nat → ClassId} {s U : State} {H : Heap} (hv : U.vm = s.vm) (h : EK bs cy s H) : EK bs cy U H := by
  obtain ⟨h1, h2, h3, h4, h5, h6⟩ := h
  have ha : s.vm.Alike U.vm := by rw [hv]; exact Vm.Alike.refl s.vm
  exact ⟨h1.same hv, h2.moved ha, h3.moved ha, h4, fun i hi => vk_R.same hv (h5 i hi), h6.moved ha⟩
/-- a field's place in the tables: own's pool index, the class's number, the field's number -/
def FI (own : String) (index ci j : Nat) : Prop := ∃ (C : String) (T : u_T) (N : Nat), vwCl[ci]? = some (C, T, N) ∧ (T j).1 = C ∧ j < N ∧ (∀ w ∈ u_ws C T N, w ∈ wsL_law) ∧ Cond.fieldLink own index C (T j).2.1 (T j).2.2.1 ∈ wsL_law
def FN (own : String) (index ci j : Nat) : Prop := ∃ (C : String) (T : u_T) (N : Nat), vwCl[ci]? = some (C, T, N) ∧ (T j).1 = C ∧ j < N ∧ (∀ w ∈ u_ws C T N, w ∈ wsL_law) ∧ Cond.fieldLinkNest own index C (T j).2.1 (T j).2.2.1 "SpanPainter" ∈ nestL
/-- what a method's walk stands on -/
def Cx (p : Program) (s : State) (m : MethodId) (args : Array Value) (c : Code) (cc : ByteArray) (nL : Nat) (own : String) (G : va_G) (bs : Nat) (cy : Nat → ClassId) : Prop :=
  p.tables.exec = Jvm.exec ∧ c.code = cc ∧ c.maxLocals = nL ∧ s.vm.findClass own = some m.cls ∧ (∀ w ∈ wsL_law, w.before args s = true) ∧ va_K G vwCl (tyLs cy) s ∧ EK bs cy s s.heap
theorem dg {cc : ByteArray} {l : List (Nat × Instr × Nat)} (h : ∀ q ∈ l, decode cc q.1 = .ok (q.2.1, q.2.2)) {i pc n : Nat} {x : Instr} (hi : l[i]? = some (pc, x, n)) : decode cc pc = .ok (x, n) := h (pc, x, n) (List.mem_of_getElem? hi)
theorem cls_nm : ∀ k, k < 15 → ∀ a, a < ((vwCl.getD k ("", TX0, 0)).2.2) → ∀ b, b < ((vwCl.getD k ("", TX0, 0)).2.2) → a ≠ b → ((vwCl.getD k ("", TX0, 0)).2.1 a).2.1 ≠ ((vwCl.getD k ("", TX0, 0)).2.1 b).2.1 := by decide +kernel
theorem cls_ty : ∀ k, k < 15 → ∀ a, a < ((vwCl.getD k ("", TX0, 0)).2.2) → (parseFieldDescriptor ((vwCl.getD k ("", TX0, 0)).2.1 a).2.2.1).isSome = true := by decide +kernel
section RR
variable {p : Program} {l : Launch} {e : Env} {Rm : Room} {s : State} {m : MethodId} {args : Array Value} {below : List Frame} {meth : Method} {c : Code} {H : Heap} {locs : List Loc} {cells slots : Nat} {Q : State → Prop}
variable {cc : ByteArray} {pc nL : Nat} {ls : Array Slot} {rest : List Value} {own : String} {G : va_G} {bs : Nat} {cy : Nat → ClassId} {I : CI} {L : CL} {R : CR} {H0 : Heap} {k : Nat}
theorem r_get (X : Cx p s m args c cc nL own G bs cy) (hW : Wd G bs cy I L R H) {index ci j : Nat} (hF : FI own index ci j) {ks : List Nat} {t : Nat} (hk : shp k = .inl (ci, ks)) (hN : k < NC) (ht : ks[j]? = some t) {v : Value} (hv : fvV bs (I k) (L k) (R k) (t, j) = v) (hdg : decode cc pc = .ok (.getfield index, 3))
    (kk : W p l e Rm s m args below meth c H locs cells slots Q (F0 m (pc + 3) ls (v :: rest))) : W p l e Rm s m args below meth c H locs cells slots Q (F0 m pc ls (.ref (bs + k) :: rest)) := by
  obtain ⟨hx, hb, hml, hown, hts, hK, -⟩ := X
  obtain ⟨C, T, N, hc, hC, hj, hin, hl⟩ := hF
  subst hv
  refine va_get hx hb hts hin hown hK hW k (fs := ks.zipIdx.map (fvV bs (I k) (L k) (R k))) ?_ hc j hj (hts _ hl) (fun x hx2 => by rw [hC] at hx2; exact hx2) (ks_at ht) hdg kk
  rw [wl_at hN, hk]
  rfl
theorem r_geti (X : Cx p s m args c cc nL own G bs cy) (hW : Wd G bs cy I L R H) {index ci j : Nat} (hF : FI own index ci j) {ks : List Nat} (hk : shp k = .inl (ci, ks)) (hN : k < NC) (ht : ks[j]? = some 0) {v : Int32} (hv : I k j = v) (hdg : decode cc pc = .ok (.getfield index, 3))
    (kk : W p l e Rm s m args below meth c H locs cells slots Q (F0 m (pc + 3) ls (.int v :: rest))) : W p l e Rm s m args below meth c H locs cells slots Q (F0 m pc ls (.ref (bs + k) :: rest)) := r_get X hW hF hk hN ht (by rw [← hv]; rfl) hdg kk
theorem r_getl (X : Cx p s m args c cc nL own G bs cy) (hW : Wd G bs cy I L R H) {index ci j : Nat} (hF : FI own index ci j) {ks : List Nat} (hk : shp k = .inl (ci, ks)) (hN : k < NC) (ht : ks[j]? = some 1) {v : Int64} (hv : L k j = v) (hdg : decode cc pc = .ok (.getfield index, 3))
    (kk : W p l e Rm s m args below meth c H locs cells slots Q (F0 m (pc + 3) ls (.long v :: rest))) : W p l e Rm s m args below meth c H locs cells slots Q (F0 m pc ls (.ref (bs + k) :: rest)) := r_get X hW hF hk hN ht (by rw [← hv]; rfl) hdg kk
theorem r_getr (X : Cx p s m args c cc nL own G bs cy) (hW : Wd G bs cy I L R H) {index ci j : Nat} (hF : FI own index ci j) {ks : List Nat} (hk : shp k = .inl (ci, ks)) (hN : k < NC) (ht : ks[j]? = some 2) {v : Nat} (hv : R k j = v) (hdg : decode cc pc = .ok (.getfield index, 3))
    (kk : W p l e Rm s m args below meth c H locs cells slots Q (F0 m (pc + 3) ls (.ref (bs + v) :: rest))) : W p l e Rm s m args below meth c H locs cells slots Q (F0 m pc ls (.ref (bs + k) :: rest)) := r_get X hW hF hk hN ht (by rw [← hv]; rfl) hdg kk
theorem r_getc (X : Cx p s m args c cc nL own G bs cy) (hW : Wd G bs cy I L R H) {index ci j : Nat} (hF : FI own index ci j) {ks : List Nat} {t : Nat} (hk : shp k = .inl (ci, ks)) (hN : k < NC) (ht : ks[j]? = some (t + 3)) (hdg : decode cc pc = .ok (.getfield index, 3))
    (kk : W p l e Rm s m args below meth c H locs cells slots Q (F0 m (pc + 3) ls (.ref (bs + t) :: rest))) : W p l e Rm s m args below meth c H locs cells slots Q (F0 m pc ls (.ref (bs + k) :: rest)) := r_get X hW hF hk hN ht rfl hdg kk
theorem r_put (X : Cx p s m args c cc nL own G bs cy) (hW : Wd G bs cy I L R H) (hS : va_S (Aq bs) H0 H locs) {index ci j : Nat} (hF : FI own index ci j) {ks : List Nat} {t : Nat} (hk : shp k = .inl (ci, ks)) (hN : k < NC) (ht : ks[j]? = some t) {v : Value} {ty : FieldType}
    (hfin : (vwCl.getD ci ("", TX0, 0)).2.1 j |>.2.2.2 = false) (hd : parseFieldDescriptor ((vwCl.getD ci ("", TX0, 0)).2.1 j).2.2.1 = some ty) (hn : narrow ty v = v) (hfit : fits ty v = true) {I' : CI} {L' : CL} {R' : CR}
    (hI : ∀ a, a ≠ k → I' a = I a) (hL : ∀ a, a ≠ k → L' a = L a) (hR : ∀ a, a ≠ k → R' a = R a) (hv : v = fvV bs (I' k) (L' k) (R' k) (t, j)) (hne : ∀ a, a ≠ j → I' k a = I k a ∧ L' k a = L k a ∧ R' k a = R k a) (hdg : decode cc pc = .ok (.putfield index, 3))
    (kk : ∀ (H1 : Heap) (locs1 : List Loc), Wd G bs cy I' L' R' H1 → va_S (Aq bs) H0 H1 locs1 → W p l e Rm s m args below meth c H1 locs1 cells slots Q (F0 m (pc + 3) ls rest)) : W p l e Rm s m args below meth c H locs cells slots Q (F0 m pc ls (v :: .ref (bs + k) :: rest)) := by
  obtain ⟨hx, hb, hml, hown, hts, hK, hE⟩ := X
  obtain ⟨C, T, N, hc, hC, hj, hin, hl⟩ := hF
  have hg : vwCl.getD ci ("", TX0, 0) = (C, T, N) := by rw [List.getD_eq_getElem?_getD, hc]; rfl
  have hci : ci < 15 := (List.getElem?_eq_some_iff.mp hc).1
  have hnm := cls_nm ci hci
  have hty := cls_ty ci hci
  rw [hg] at hfin hd hnm hty
  dsimp only at hfin hd hnm hty
  refine va_put hx hb hts hin (fun a => (parseFieldDescriptor (T a).2.2.1).getD .int) (fun a ha => ?_) hnm hown hK hW (wl_D hE.2.2.2.1) hS k (fs := ks.zipIdx.map (fvV bs (I k) (L k) (R k))) ?_ hc j hj (hts _ hl) (fun x hx2 => by rw [hC] at hx2; exact hx2) hfin hd hn hfit (ks_len ht) hdg (fun H1 locs1 hP _ hS1 => kk H1 locs1 ?_ hS1)
  · have h2 := hty a ha
    cases h3 : parseFieldDescriptor (T a).2.2.1 with
    | none => rw [h3] at h2; cases h2
    | some z => rfl
  · rw [wl_at hN, hk]
    rfl
  · rw [ks_set (i' := I' k) (l' := L' k) (r' := R' k) ht hv hne] at hP
    rw [wl_set hN hI hL hR (fun _ => by rw [hk]; rfl)] at hP
    exact hP
theorem r_puti (X : Cx p s m args c cc nL own G bs cy) (hW : Wd G bs cy I L R H) (hS : va_S (Aq bs) H0 H locs) {index ci j : Nat} (hF : FI own index ci j) {ks : List Nat} (hk : shp k = .inl (ci, ks)) (hN : k < NC) (ht : ks[j]? = some 0) {v : Int32} {ty : FieldType}
    (hfin : ((vwCl.getD ci ("", TX0, 0)).2.1 j).2.2.2 = false) (hd : parseFieldDescriptor ((vwCl.getD ci ("", TX0, 0)).2.1 j).2.2.1 = some ty) (hn : narrow ty (.int v) = .int v) (hfit : fits ty (.int v) = true) (hdg : decode cc pc = .ok (.putfield index, 3))
    (kk : ∀ (H1 : Heap) (locs1 : List Loc), Wd G bs cy (u2 I k j v) L R H1 → va_S (Aq bs) H0 H1 locs1 → W p l e Rm s m args below meth c H1 locs1 cells slots Q (F0 m (pc + 3) ls rest)) : W p l e Rm s m args below meth c H locs cells slots Q (F0 m pc ls (.int v :: .ref (bs + k) :: rest)) :=
  r_put X hW hS hF hk hN ht hfin hd hn hfit (I' := u2 I k j v) (L' := L) (R' := R) (fun a h => u2_ne h) (fun _ _ => rfl) (fun _ _ => rfl) (by rw [u2_eq]; simp [fvV, upd]) (fun a h => ⟨by rw [u2_eq]; simp [upd, h], rfl, rfl⟩) hdg kk
theorem r_putl (X : Cx p s m args c cc nL own G bs cy) (hW : Wd G bs cy I L R H) (hS : va_S (Aq bs) H0 H locs) {index ci j : Nat} (hF : FI own index ci j) {ks : List Nat} (hk : shp k = .inl (ci, ks)) (hN : k < NC) (ht : ks[j]? = some 1) {v : Int64}
    (hfin : ((vwCl.getD ci ("", TX0, 0)).2.1 j).2.2.2 = false) (hd : parseFieldDescriptor ((vwCl.getD ci ("", TX0, 0)).2.1 j).2.2.1 = some .long) (hdg : decode cc pc = .ok (.putfield index, 3))
    (kk : ∀ (H1 : Heap) (locs1 : List Loc), Wd G bs cy I (u2L L k j v) R H1 → va_S (Aq bs) H0 H1 locs1 → W p l e Rm s m args below meth c H1 locs1 cells slots Q (F0 m (pc + 3) ls rest)) : W p l e Rm s m args below meth c H locs cells slots Q (F0 m pc ls (.long v :: .ref (bs + k) :: rest)) :=
  r_put X hW hS hF hk hN ht hfin hd rfl rfl (I' := I) (L' := u2L L k j v) (R' := R) (fun _ _ => rfl) (fun a h => u2L_ne h) (fun _ _ => rfl) (by rw [u2L_eq]; simp [fvV, vp_updL]) (fun a h => ⟨rfl, by rw [u2L_eq]; simp [vp_updL, h], rfl⟩) hdg kk
theorem r_putr (X : Cx p s m args c cc nL own G bs cy) (hW : Wd G bs cy I L R H) (hS : va_S (Aq bs) H0 H locs) {index ci j : Nat} (hF : FI own index ci j) {ks : List Nat} (hk : shp k = .inl (ci, ks)) (hN : k < NC) (ht : ks[j]? = some 2) {v : Nat} {C : String}
    (hfin : ((vwCl.getD ci ("", TX0, 0)).2.1 j).2.2.2 = false) (hd : parseFieldDescriptor ((vwCl.getD ci ("", TX0, 0)).2.1 j).2.2.1 = some (.object C)) (hdg : decode cc pc = .ok (.putfield index, 3))
    (kk : ∀ (H1 : Heap) (locs1 : List Loc), Wd G bs cy I L (u2R R k j v) H1 → va_S (Aq bs) H0 H1 locs1 → W p l e Rm s m args below meth c H1 locs1 cells slots Q (F0 m (pc + 3) ls rest)) : W p l e Rm s m args below meth c H locs cells slots Q (F0 m pc ls (.ref (bs + v) :: .ref (bs + k) :: rest)) :=
  r_put X hW hS hF hk hN ht hfin hd rfl rfl (I' := I) (L' := L) (R' := u2R R k j v) (fun _ _ => rfl) (fun _ _ => rfl) (fun a h => u2R_ne h) (by simp [fvV, u2R]) (fun a h => ⟨rfl, rfl, by simp [u2R, h]⟩) hdg kk
theorem rn_get (X : Cx p s m args c cc nL own G bs cy) (hW : Wd G bs cy I L R H) {index ci j : Nat} (hF : FN own index ci j) {ks : List Nat} {t : Nat} (hk : shp k = .inl (ci, ks)) (hN : k < NC) (ht : ks[j]? = some t) {v : Value} (hv : fvV bs (I k) (L k) (R k) (t, j) = v) (hdg : decode cc pc = .ok (.getfield index, 3))
    (kk : W p l e Rm s m args below meth c H locs cells slots Q (F0 m (pc + 3) ls (v :: rest))) : W p l e Rm s m args below meth c H locs cells slots Q (F0 m pc ls (.ref (bs + k) :: rest)) := by
  obtain ⟨hx, hb, hml, hown, hts, hK, hE⟩ := X
  obtain ⟨C, T, N, hc, hC, hj, hin, hl⟩ := hF
  subst hv
  refine va_getN (host := "SpanPainter") hx hb hts hin hown hK hW k (fs := ks.zipIdx.map (fvV bs (I k) (L k) (R k))) ?_ hc j hj (va_Nw.use (nest_ok _ hl).1 (hE.1.1 _ hl)) (fun x hx2 => by rw [hC] at hx2; exact hx2) (ks_at ht) hdg kk
  rw [wl_at hN, hk]
  rfl
theorem rn_geti (X : Cx p s m args c cc nL own G bs cy) (hW : Wd G bs cy I L R H) {index ci j : Nat} (hF : FN own index ci j) {ks : List Nat} (hk : shp k = .inl (ci, ks)) (hN : k < NC) (ht : ks[j]? = some 0) {v : Int32} (hv : I k j = v) (hdg : decode cc pc = .ok (.getfield index, 3))
    (kk : W p l e Rm s m args below meth c H locs cells slots Q (F0 m (pc + 3) ls (.int v :: rest))) : W p l e Rm s m args below meth c H locs cells slots Q (F0 m pc ls (.ref (bs + k) :: rest)) := rn_get X hW hF hk hN ht (by rw [← hv]; rfl) hdg kk
theorem rn_getl (X : Cx p s m args c cc nL own G bs cy) (hW : Wd G bs cy I L R H) {index ci j : Nat} (hF : FN own index ci j) {ks : List Nat} (hk : shp k = .inl (ci, ks)) (hN : k < NC) (ht : ks[j]? = some 1) {v : Int64} (hv : L k j = v) (hdg : decode cc pc = .ok (.getfield index, 3))
    (kk : W p l e Rm s m args below meth c H locs cells slots Q (F0 m (pc + 3) ls (.long v :: rest))) : W p l e Rm s m args below meth c H locs cells slots Q (F0 m pc ls (.ref (bs + k) :: rest)) := rn_get X hW hF hk hN ht (by rw [← hv]; rfl) hdg kk
theorem rn_getr (X : Cx p s m args c cc nL own G bs cy) (hW : Wd G bs cy I L R H) {index ci j : Nat} (hF : FN own index ci j) {ks : List Nat} (hk : shp k = .inl (ci, ks)) (hN : k < NC) (ht : ks[j]? = some 2) {v : Nat} (hv : R k j = v) (hdg : decode cc pc = .ok (.getfield index, 3))
    (kk : W p l e Rm s m args below meth c H locs cells slots Q (F0 m (pc + 3) ls (.ref (bs + v) :: rest))) : W p l e Rm s m args below meth c H locs cells slots Q (F0 m pc ls (.ref (bs + k) :: rest)) := rn_get X hW hF hk hN ht (by rw [← hv]; rfl) hdg kk
theorem rn_getc (X : Cx p s m args c cc nL own G bs cy) (hW : Wd G bs cy I L R H) {index ci j : Nat} (hF : FN own index ci j) {ks : List Nat} {t : Nat} (hk : shp k = .inl (ci, ks)) (hN : k < NC) (ht : ks[j]? = some (t + 3)) (hdg : decode cc pc = .ok (.getfield index, 3))
    (kk : W p l e Rm s m args below meth c H locs cells slots Q (F0 m (pc + 3) ls (.ref (bs + t) :: rest))) : W p l e Rm s m args below meth c H locs cells slots Q (F0 m pc ls (.ref (bs + k) :: rest)) := rn_get X hW hF hk hN ht rfl hdg kk
theorem rn_put (X : Cx p s m args c cc nL own G bs cy) (hW : Wd G bs cy I L R H) (hS : va_S (Aq bs) H0 H locs) {index ci j : Nat} (hF : FN own index ci j) {ks : List Nat} {t : Nat} (hk : shp k = .inl (ci, ks)) (hN : k < NC) (ht : ks[j]? = some t) {v : Value} {ty : FieldType}
    (hfin : (vwCl.getD ci ("", TX0, 0)).2.1 j |>.2.2.2 = false) (hd : parseFieldDescriptor ((vwCl.getD ci ("", TX0, 0)).2.1 j).2.2.1 = some ty) (hn : narrow ty v = v) (hfit : fits ty v = true) {I' : CI} {L' : CL} {R' : CR}
    (hI : ∀ a, a ≠ k → I' a = I a) (hL : ∀ a, a ≠ k → L' a = L a) (hR : ∀ a, a ≠ k → R' a = R a) (hv : v = fvV bs (I' k) (L' k) (R' k) (t, j)) (hne : ∀ a, a ≠ j → I' k a = I k a ∧ L' k a = L k a ∧ R' k a = R k a) (hdg : decode cc pc = .ok (.putfield index, 3))
    (kk : ∀ (H1 : Heap) (locs1 : List Loc), Wd G bs cy I' L' R' H1 → va_S (Aq bs) H0 H1 locs1 → W p l e Rm s m args below meth c H1 locs1 cells slots Q (F0 m (pc + 3) ls rest)) : W p l e Rm s m args below meth c H locs cells slots Q (F0 m pc ls (v :: .ref (bs + k) :: rest)) := by
  obtain ⟨hx, hb, hml, hown, hts, hK, hE⟩ := X
  obtain ⟨C, T, N, hc, hC, hj, hin, hl⟩ := hF
  have hg : vwCl.getD ci ("", TX0, 0) = (C, T, N) := by rw [List.getD_eq_getElem?_getD, hc]; rfl
  have hci : ci < 15 := (List.getElem?_eq_some_iff.mp hc).1
  have hnm := cls_nm ci hci
  have hty := cls_ty ci hci
  rw [hg] at hfin hd hnm hty
  dsimp only at hfin hd hnm hty
  refine va_putN (host := "SpanPainter") hx hb hts hin (fun a => (parseFieldDescriptor (T a).2.2.1).getD .int) (fun a ha => ?_) hnm hown hK hW (wl_D hE.2.2.2.1) hS k (fs := ks.zipIdx.map (fvV bs (I k) (L k) (R k))) ?_ hc j hj (va_Nw.use (nest_ok _ hl).1 (hE.1.1 _ hl)) (fun x hx2 => by rw [hC] at hx2; exact hx2) hfin hd hn hfit (ks_len ht) hdg (fun H1 locs1 hP _ hS1 => kk H1 locs1 ?_ hS1)
  · have h2 := hty a ha
    cases h3 : parseFieldDescriptor (T a).2.2.1 with
    | none => rw [h3] at h2; cases h2
    | some z => rfl
  · rw [wl_at hN, hk]
    rfl
  · rw [ks_set (i' := I' k) (l' := L' k) (r' := R' k) ht hv hne] at hP
    rw [wl_set hN hI hL hR (fun _ => by rw [hk]; rfl)] at hP
    exact hP
theorem rn_puti (X : Cx p s m args c cc nL own G bs cy) (hW : Wd G bs cy I L R H) (hS : va_S (Aq bs) H0 H locs) {index ci j : Nat} (hF : FN own index ci j) {ks : List Nat} (hk : shp k = .inl (ci, ks)) (hN : k < NC) (ht : ks[j]? = some 0) {v : Int32} {ty : FieldType}
    (hfin : ((vwCl.getD ci ("", TX0, 0)).2.1 j).2.2.2 = false) (hd : parseFieldDescriptor ((vwCl.getD ci ("", TX0, 0)).2.1 j).2.2.1 = some ty) (hn : narrow ty (.int v) = .int v) (hfit : fits ty (.int v) = true) (hdg : decode cc pc = .ok (.putfield index, 3))
    (kk : ∀ (H1 : Heap) (locs1 : List Loc), Wd G bs cy (u2 I k j v) L R H1 → va_S (Aq bs) H0 H1 locs1 → W p l e Rm s m args below meth c H1 locs1 cells slots Q (F0 m (pc + 3) ls rest)) : W p l e Rm s m args below meth c H locs cells slots Q (F0 m pc ls (.int v :: .ref (bs + k) :: rest)) :=
  rn_put X hW hS hF hk hN ht hfin hd hn hfit (I' := u2 I k j v) (L' := L) (R' := R) (fun a h => u2_ne h) (fun _ _ => rfl) (fun _ _ => rfl) (by rw [u2_eq]; simp [fvV, upd]) (fun a h => ⟨by rw [u2_eq]; simp [upd, h], rfl, rfl⟩) hdg kk
theorem rn_putl (X : Cx p s m args c cc nL own G bs cy) (hW : Wd G bs cy I L R H) (hS : va_S (Aq bs) H0 H locs) {index ci j : Nat} (hF : FN own index ci j) {ks : List Nat} (hk : shp k = .inl (ci, ks)) (hN : k < NC) (ht : ks[j]? = some 1) {v : Int64}
    (hfin : ((vwCl.getD ci ("", TX0, 0)).2.1 j).2.2.2 = false) (hd : parseFieldDescriptor ((vwCl.getD ci ("", TX0, 0)).2.1 j).2.2.1 = some .long) (hdg : decode cc pc = .ok (.putfield index, 3))
    (kk : ∀ (H1 : Heap) (locs1 : List Loc), Wd G bs cy I (u2L L k j v) R H1 → va_S (Aq bs) H0 H1 locs1 → W p l e Rm s m args below meth c H1 locs1 cells slots Q (F0 m (pc + 3) ls rest)) : W p l e Rm s m args below meth c H locs cells slots Q (F0 m pc ls (.long v :: .ref (bs + k) :: rest)) :=
  rn_put X hW hS hF hk hN ht hfin hd rfl rfl (I' := I) (L' := u2L L k j v) (R' := R) (fun _ _ => rfl) (fun a h => u2L_ne h) (fun _ _ => rfl) (by rw [u2L_eq]; simp [fvV, vp_updL]) (fun a h => ⟨rfl, by rw [u2L_eq]; simp [vp_updL, h], rfl⟩) hdg kk
theorem rn_putr (X : Cx p s m args c cc nL own G bs cy) (hW : Wd G bs cy I L R H) (hS : va_S (Aq bs) H0 H locs) {index ci j : Nat} (hF : FN own index ci j) {ks : List Nat} (hk : shp k = .inl (ci, ks)) (hN : k < NC) (ht : ks[j]? = some 2) {v : Nat} {C : String}
    (hfin : ((vwCl.getD ci ("", TX0, 0)).2.1 j).2.2.2 = false) (hd : parseFieldDescriptor ((vwCl.getD ci ("", TX0, 0)).2.1 j).2.2.1 = some (.object C)) (hdg : decode cc pc = .ok (.putfield index, 3))
    (kk : ∀ (H1 : Heap) (locs1 : List Loc), Wd G bs cy I L (u2R R k j v) H1 → va_S (Aq bs) H0 H1 locs1 → W p l e Rm s m args below meth c H1 locs1 cells slots Q (F0 m (pc + 3) ls rest)) : W p l e Rm s m args below meth c H locs cells slots Q (F0 m pc ls (.ref (bs + v) :: .ref (bs + k) :: rest)) :=
  rn_put X hW hS hF hk hN ht hfin hd rfl rfl (I' := I) (L' := L) (R' := u2R R k j v) (fun _ _ => rfl) (fun _ _ => rfl) (fun a h => u2R_ne h) (by simp [fvV, u2R]) (fun a h => ⟨rfl, rfl, by simp [u2R, h]⟩) hdg kk
theorem wl_arr {ty n : Nat} (hk : shp k = .inr (ty, n)) (hN : k < NC) (hty : ty ≠ 9) : (wl bs cy I L R)[k]? = some (bs + k, .inl (cy ty, n, entA bs ty (I k) (L k))) := by
  rw [wl_at hN, hk]
  show some (bs + k, if ty = 9 then _ else _) = _
  rw [if_neg hty]
theorem r_ald (X : Cx p s m args c cc nL own G bs cy) (hW : Wd G bs cy I L R H) {n : Nat} (hk : shp k = .inr (0, n)) (hN : k < NC) {x : Int32} {j : Nat} (hx : x = nI j) (hj : j < n) (hn : n < 2 ^ 31) {v : Int32} (hv : I k j = v) (hdg : decode cc pc = .ok (.iaload, 1))
    (kk : W p l e Rm s m args below meth c H locs cells slots Q (F0 m (pc + 1) ls (.int v :: rest))) : W p l e Rm s m args below meth c H locs cells slots Q (F0 m pc ls (.int x :: .ref (bs + k) :: rest)) := by
  subst hx; subst hv
  refine va_iald X.1 X.2.1 X.2.2.2.2.2.1 hW k 0 (wl_arr hk hN (by omega)) rfl (vp_in_nI hj hn) hdg ?_
  rw [nI_clamp (by omega)]
  exact kk
theorem r_bald (X : Cx p s m args c cc nL own G bs cy) (hW : Wd G bs cy I L R H) {n : Nat} (hk : shp k = .inr (1, n)) (hN : k < NC) {x : Int32} {j : Nat} (hx : x = nI j) (hj : j < n) (hn : n < 2 ^ 31) {v : Int32} (hv : I k j = v) (hdg : decode cc pc = .ok (.baload, 1))
    (kk : W p l e Rm s m args below meth c H locs cells slots Q (F0 m (pc + 1) ls (.int v :: rest))) : W p l e Rm s m args below meth c H locs cells slots Q (F0 m pc ls (.int x :: .ref (bs + k) :: rest)) := by
  subst hx; subst hv
  refine va_bald X.1 X.2.1 X.2.2.2.2.2.1 hW k 1 (wl_arr hk hN (by omega)) rfl (vp_in_nI hj hn) hdg ?_
  rw [nI_clamp (by omega)]
  exact kk
theorem r_lald (X : Cx p s m args c cc nL own G bs cy) (hW : Wd G bs cy I L R H) {n : Nat} (hk : shp k = .inr (2, n)) (hN : k < NC) {x : Int32} {j : Nat} (hx : x = nI j) (hj : j < n) (hn : n < 2 ^ 31) {v : Int64} (hv : L k j = v) (hdg : decode cc pc = .ok (.laload, 1))
    (kk : W p l e Rm s m args below meth c H locs cells slots Q (F0 m (pc + 1) ls (.long v :: rest))) : W p l e Rm s m args below meth c H locs cells slots Q (F0 m pc ls (.int x :: .ref (bs + k) :: rest)) := by
  subst hx; subst hv
  refine va_lald X.1 X.2.1 X.2.2.2.2.2.1 hW k 2 (wl_arr hk hN (by omega)) rfl (vp_in_nI hj hn) hdg ?_
  rw [nI_clamp (by omega)]
  exact kk
theorem r_ast (X : Cx p s m args c cc nL own G bs cy) (hW : Wd G bs cy I L R H) (hS : va_S (Aq bs) H0 H locs) {n : Nat} (hk : shp k = .inr (0, n)) (hN : k < NC) {x : Int32} {j : Nat} (hx : x = nI j) (hj : j < n) (hn : n < 2 ^ 31) {v : Int32} (hdg : decode cc pc = .ok (.iastore, 1))
    (kk : ∀ (H1 : Heap) (locs1 : List Loc), Wd G bs cy (u2 I k j v) L R H1 → va_S (Aq bs) H0 H1 locs1 → W p l e Rm s m args below meth c H1 locs1 cells slots Q (F0 m (pc + 1) ls rest)) : W p l e Rm s m args below meth c H locs cells slots Q (F0 m pc ls (.int v :: .int x :: .ref (bs + k) :: rest)) := by
  subst hx
  refine va_iast X.1 X.2.1 X.2.2.2.2.2.1 hW (wl_D X.2.2.2.2.2.2.2.2.2.1) hS k 0 (wl_arr hk hN (by omega)) rfl (vp_in_nI hj hn) hdg (fun H1 locs1 hP _ hS1 => kk H1 locs1 ?_ hS1)
  rw [nI_clamp (by omega), wl_set hN (I' := u2 I k j v) (L' := L) (R' := R) (fun a h => u2_ne h) (fun _ _ => rfl) (fun _ _ => rfl) (fun _ => by rw [hk, u2_eq]; rfl)] at hP
  exact hP
theorem r_bast (X : Cx p s m args c cc nL own G bs cy) (hW : Wd G bs cy I L R H) (hS : va_S (Aq bs) H0 H locs) {n : Nat} (hk : shp k = .inr (1, n)) (hN : k < NC) {x : Int32} {j : Nat} (hx : x = nI j) (hj : j < n) (hn : n < 2 ^ 31) {v w : Int32} (hv : vp_nar .byte v = w) (hdg : decode cc pc = .ok (.bastore, 1))
    (kk : ∀ (H1 : Heap) (locs1 : List Loc), Wd G bs cy (u2 I k j w) L R H1 → va_S (Aq bs) H0 H1 locs1 → W p l e Rm s m args below meth c H1 locs1 cells slots Q (F0 m (pc + 1) ls rest)) : W p l e Rm s m args below meth c H locs cells slots Q (F0 m pc ls (.int v :: .int x :: .ref (bs + k) :: rest)) := by
  subst hx; subst hv
  refine va_bast X.1 X.2.1 X.2.2.2.2.2.1 hW (wl_D X.2.2.2.2.2.2.2.2.2.1) hS k 1 (wl_arr hk hN (by omega)) rfl (vp_in_nI hj hn) hdg (fun H1 locs1 hP _ hS1 => kk H1 locs1 ?_ hS1)
  rw [nI_clamp (by omega), wl_set hN (I' := u2 I k j (vp_nar .byte v)) (L' := L) (R' := R) (fun a h => u2_ne h) (fun _ _ => rfl) (fun _ _ => rfl) (fun _ => by rw [hk, u2_eq]; rfl)] at hP
  exact hP
theorem r_last (X : Cx p s m args c cc nL own G bs cy) (hW : Wd G bs cy I L R H) (hS : va_S (Aq bs) H0 H locs) {n : Nat} (hk : shp k = .inr (2, n)) (hN : k < NC) {x : Int32} {j : Nat} (hx : x = nI j) (hj : j < n) (hn : n < 2 ^ 31) {v : Int64} (hdg : decode cc pc = .ok (.lastore, 1))
    (kk : ∀ (H1 : Heap) (locs1 : List Loc), Wd G bs cy I (u2L L k j v) R H1 → va_S (Aq bs) H0 H1 locs1 → W p l e Rm s m args below meth c H1 locs1 cells slots Q (F0 m (pc + 1) ls rest)) : W p l e Rm s m args below meth c H locs cells slots Q (F0 m pc ls (.long v :: .int x :: .ref (bs + k) :: rest)) := by
  subst hx
  refine va_last X.1 X.2.1 X.2.2.2.2.2.1 hW (wl_D X.2.2.2.2.2.2.2.2.2.1) hS k 2 (wl_arr hk hN (by omega)) rfl (vp_in_nI hj hn) hdg (fun H1 locs1 hP _ hS1 => kk H1 locs1 ?_ hS1)
  rw [nI_clamp (by omega), wl_set hN (I' := I) (L' := u2L L k j v) (R' := R) (fun _ _ => rfl) (fun a h => u2L_ne h) (fun _ _ => rfl) (fun _ => by rw [hk, u2L_eq]; rfl)] at hP
  exact hP
theorem r_alen (X : Cx p s m args c cc nL own G bs cy) (hW : Wd G bs cy I L R H) {ty n : Nat} (hk : shp k = .inr (ty, n)) (hty : ty < 5) (hN : k < NC) (hdg : decode cc pc = .ok (.arraylength, 1))
    (kk : W p l e Rm s m args below meth c H locs cells slots Q (F0 m (pc + 1) ls (.int (nI n) :: rest))) : W p l e Rm s m args below meth c H locs cells slots Q (F0 m pc ls (.ref (bs + k) :: rest)) := by
  have h5 : ∃ t, (tyLs cy)[ty]? = some (cy ty, t) := by
    rcases (show ty = 0 ∨ ty = 1 ∨ ty = 2 ∨ ty = 3 ∨ ty = 4 by omega) with rfl | rfl | rfl | rfl | rfl <;> exact ⟨_, rfl⟩
  obtain ⟨t, ht⟩ := h5
  exact va_alen X.1 X.2.1 X.2.2.2.2.2.1 hW k ty (wl_arr hk hN (by omega)) ht rfl hdg kk
end RR
abbrev MI : Type := MethodName × ByteArray × Nat × Option FieldType
def rmL (n mc ms : Nat) : Room := { frames := n, cells := mc, slots := ms, locals := 60 * n }
def mws (μ : MI) : List Cond := .code μ.1 μ.2.1 μ.2.2.1 μ.2.2.2 :: wsL_law
def PcM (G : va_G) (bs : Nat) (cy : Nat → ClassId) (av : List Value) (I : CI) (L : CL) (R : CR) : Array Value → State → Prop := va_Pc av (fun U => Wd G bs cy I L R U.heap ∧ va_K G vwCl (tyLs cy) U ∧ EK bs cy U U.heap)
abbrev Sto : Type := CI × CL × CR
def BM (G : va_G) (bs : Nat) (cy : Nat → ClassId) (u : Sto) (t : State) : Prop := Wd G bs cy u.1 u.2.1 u.2.2 t.heap
/-- the contract of a method that answers an int (at its room's level n): from this store, these arguments, it returns r and leaves a store, as Q says -/
def MTi (l : Launch) (G : va_G) (bs : Nat) (cy : Nat → ClassId) (μ : MI) (n : Nat) (av : List Value) (I : CI) (L : CL) (R : CR) (Q : Int32 → CI → CL → CR → Prop) : Prop :=
  Met l μ.1 (mws μ) (rmL n 0 0) (PcM G bs cy av I L R) (va_Qi (fun (r : Int32) (u : Sto) => Q r u.1 u.2.1 u.2.2) (BM G bs cy) (Aq bs)) 0 0 (Aq bs)
def MTl (l : Launch) (G : va_G) (bs : Nat) (cy : Nat → ClassId) (μ : MI) (n : Nat) (av : List Value) (I : CI) (L : CL) (R : CR) (Q : Int64 → CI → CL → CR → Prop) : Prop :=
  Met l μ.1 (mws μ) (rmL n 0 0) (PcM G bs cy av I L R) (va_Ql (fun (r : Int64) (u : Sto) => Q r u.1 u.2.1 u.2.2) (BM G bs cy) (Aq bs)) 0 0 (Aq bs)
def MTv (l : Launch) (G : va_G) (bs : Nat) (cy : Nat → ClassId) (μ : MI) (n : Nat) (av : List Value) (I : CI) (L : CL) (R : CR) (Q : CI → CL → CR → Prop) : Prop :=
  Met l μ.1 (mws μ) (rmL n 0 0) (PcM G bs cy av I L R) (va_Qv (fun (u : Sto) => Q u.1 u.2.1 u.2.2) (BM G bs cy) (Aq bs)) 0 0 (Aq bs)
def MTd (l : Launch) (G : va_G) (bs : Nat) (cy : Nat → ClassId) (μ : MI) (n : Nat) (av : List Value) (I : CI) (L : CL) (R : CR) (Q : UInt64 → CI → CL → CR → Prop) : Prop :=
  Met l μ.1 (mws μ) (rmL n 0 0) (PcM G bs cy av I L R) (va_Qd (fun (r : UInt64) (u : Sto) => Q r u.1 u.2.1 u.2.2) (BM G bs cy) (Aq bs)) 0 0 (Aq bs)
theorem PcM_blind {G : va_G} {bs : Nat} {cy : Nat → ClassId} {av : List Value} {I : CI} {L : CL} {R : CR} : FrameBlind (PcM G bs cy av I L R) := fun a U g mk q => ⟨q.1, q.2.1, va_K.moved (u := U) (U := U.calling g mk a) (Vm.Alike.refl U.vm) q.2.2.1, EK.same (s := U) (U := U.calling g mk a) rfl q.2.2.2⟩
def noMH (y : MethodName) (n : Nat) : Prop := y.cls ≠ "java/lang/invoke/MethodHandle" ∧ y.cls ≠ "java/lang/invoke/VarHandle" ∧ (parseMethodDescriptor y.desc).map (fun d => d.parameters.length) = some n
/-- what the tables say of a method that is called: by a receiver of its own class; statically; as a constructor -/
def UV (μ : MI) (C : String) (n : Nat) : Prop := (μ.1.cls = C ∧ μ.1.cls ≠ "java/lang/invoke/MethodHandle" ∧ μ.1.cls ≠ "java/lang/invoke/VarHandle" ∧ (parseMethodDescriptor μ.1.desc).map (fun d => d.parameters.length) = some n) ∧ μ.2.2.1 ≤ 41 ∧ Cond.instanceMethod μ.1 ∈ wsL_law ∧ Cond.selects C μ.1 μ.1 ∈ wsL_law ∧ Cond.initialized C ∈ wsL_law ∧ Cond.code μ.1 μ.2.1 μ.2.2.1 μ.2.2.2 ∈ wsL_law
def US (μ : MI) (C : String) (n : Nat) : Prop := (μ.1.cls = C ∧ μ.1.cls ≠ "java/lang/invoke/MethodHandle" ∧ μ.1.cls ≠ "java/lang/invoke/VarHandle" ∧ (parseMethodDescriptor μ.1.desc).map (fun d => d.parameters.length) = some n) ∧ μ.2.2.1 ≤ 41 ∧ Cond.static μ.1 ∈ wsL_law ∧ Cond.initialized C ∈ wsL_law ∧ Cond.code μ.1 μ.2.1 μ.2.2.1 μ.2.2.2 ∈ wsL_law
def UI (μ : MI) (C : String) (n : Nat) : Prop := (μ.1.cls = C ∧ μ.1.cls ≠ "java/lang/invoke/MethodHandle" ∧ μ.1.cls ≠ "java/lang/invoke/VarHandle" ∧ (parseMethodDescriptor μ.1.desc).map (fun d => d.parameters.length) = some n) ∧ μ.2.2.1 ≤ 41 ∧ Cond.instanceMethod μ.1 ∈ wsL_law ∧ Cond.initialized C ∈ wsL_law ∧ Cond.code μ.1 μ.2.1 μ.2.2.1 μ.2.2.2 ∈ wsL_law
theorem wsL_good0 : wsL_law.all goodWord = true := by decide +kernel
theorem wsL_good {w : Cond} (h : w ∈ wsL_law) : (w.onTables && w.keeps) = true ∨ ∃ ty, w = .arrayClass ty := good_of_word (List.all_eq_true.mp wsL_good0 w h)
theorem gIn {ws : List Cond} (h : ∀ w ∈ ws, w ∈ wsL_law) : GoodIn wsL_law ws := fun w hw => ⟨h w hw, wsL_good (h w hw)⟩
abbrev ML_init : MI := (yL_init, cL_init, 1, none)
abbrev MX11_init : MI := (yX11_init, cX11_init, 5, none)
abbrev MX0_init : MI := (yX0_init, cX0_init, 1, none)
abbrev MX7_init : MI := (yX7_init, cX7_init, 1, none)
abbrev MX8_init : MI := (yX8_init, cX8_init, 1, none)
abbrev MX2_init : MI := (yX2_init, cX2_init, 1, none)
abbrev MX4_init : MI := (yX4_init, cX4_init, 1, none)
abbrev MX9_init : MI := (yX9_init, cX9_init, 1, none)
abbrev MX1_init : MI := (yX1_init, cX1_init, 1, none)
abbrev MX1_reset : MI := (yX1_reset, cX1_reset, 1, none)
abbrev MJ7_fill_53178 : MI := (yJ7_fill_53178, cJ7_fill_53178, 4, none)
abbrev MX6_init : MI := (yX6_init, cX6_init, 2, none)
abbrev MX5_init : MI := (yX5_init, cX5_init, 4, none)
abbrev MX3_init : MI := (yX3_init, cX3_init, 1, none)
abbrev MX10_init : MI := (yX10_init, cX10_init, 2, none)
abbrev ML_bridge : MI := (yL_bridge, cL_bridge, 3, (some (.object "java/lang/String")))
abbrev ML_chosen : MI := (yL_chosen, cL_chosen, 3, (some .int))
abbrev ML_cell : MI := (yL_cell, cL_cell, 2, (some .int))
abbrev ML_among : MI := (yL_among, cL_among, 3, (some .int))
abbrev MJ4_init_da8c8 : MI := (yJ4_init_da8c8, cJ4_init_da8c8, 1, none)
abbrev MJ5_init_d00df : MI := (yJ5_init_d00df, cJ5_init_d00df, 2, none)
abbrev MJ2_newBytesFor_77867 : MI := (yJ2_newBytesFor_77867, cJ2_newBytesFor_77867, 1, (some (.array .byte)))
abbrev MJ2_newBytesLength_0f7a4 : MI := (yJ2_newBytesLength_0f7a4, cJ2_newBytesLength_0f7a4, 1, (some .int))
abbrev MJ4_append_15ec4 : MI := (yJ4_append_15ec4, cJ4_append_15ec4, 2, (some (.object "java/lang/StringBuilder")))
abbrev MJ5_append_cf1ce : MI := (yJ5_append_cf1ce, cJ5_append_cf1ce, 3, (some (.object "java/lang/AbstractStringBuilder")))
abbrev MJ5_appendNull_278bc : MI := (yJ5_appendNull_278bc, cJ5_appendNull_278bc, 3, (some (.object "java/lang/AbstractStringBuilder")))
abbrev MJ5_ensureCapacityInternal_d00df : MI := (yJ5_ensureCapacityInternal_d00df, cJ5_ensureCapacityInternal_d00df, 3, none)
abbrev MJ5_newCapacity_0f7a4 : MI := (yJ5_newCapacity_0f7a4, cJ5_newCapacity_0f7a4, 6, (some .int))
abbrev MJ8_newLength_cabcc : MI := (yJ8_newLength_cabcc, cJ8_newLength_cabcc, 4, (some .int))
abbrev MJ8_hugeLength_7cf53 : MI := (yJ8_hugeLength_7cf53, cJ8_hugeLength_7cf53, 3, (some .int))
abbrev MJ7_copyOf_9075b : MI := (yJ7_copyOf_9075b, cJ7_copyOf_9075b, 3, (some (.array .byte)))
abbrev MJ5_isLatin1_aae02 : MI := (yJ5_isLatin1_aae02, cJ5_isLatin1_aae02, 1, (some .boolean))
abbrev MJ2_putCharsAt_cd4e5 : MI := (yJ2_putCharsAt_cd4e5, cJ2_putCharsAt_cd4e5, 7, (some .int))
abbrev MJ2_checkBoundsBeginEnd_d044e : MI := (yJ2_checkBoundsBeginEnd_d044e, cJ2_checkBoundsBeginEnd_d044e, 3, none)
abbrev MJ2_length_9d52b : MI := (yJ2_length_9d52b, cJ2_length_9d52b, 1, (some .int))
abbrev MJ0_checkBoundsBeginEnd_23922 : MI := (yJ0_checkBoundsBeginEnd_23922, cJ0_checkBoundsBeginEnd_23922, 3, none)
abbrev MJ3_checkFromToIndex_8c36e : MI := (yJ3_checkFromToIndex_8c36e, cJ3_checkFromToIndex_8c36e, 4, (some .int))
abbrev MJ2_putChar_b72d1 : MI := (yJ2_putChar_b72d1, cJ2_putChar_b72d1, 3, none)
abbrev MJ0_length_8abf5 : MI := (yJ0_length_8abf5, cJ0_length_8abf5, 1, (some .int))
abbrev MJ0_coder_7d493 : MI := (yJ0_coder_7d493, cJ0_coder_7d493, 1, (some .byte))
abbrev MJ5_putStringAt_47b60 : MI := (yJ5_putStringAt_47b60, cJ5_putStringAt_47b60, 3, none)
abbrev MJ5_inflateIfNeededFor_a7421 : MI := (yJ5_inflateIfNeededFor_a7421, cJ5_inflateIfNeededFor_a7421, 2, none)
abbrev MJ5_inflate_da8c8 : MI := (yJ5_inflate_da8c8, cJ5_inflate_da8c8, 2, none)
abbrev MJ1_inflate_0e8fd : MI := (yJ1_inflate_0e8fd, cJ1_inflate_0e8fd, 5, none)
abbrev MJ2_inflate_0e8fd : MI := (yJ2_inflate_0e8fd, cJ2_inflate_0e8fd, 6, none)
abbrev MJ2_checkBoundsOffCount_d044e : MI := (yJ2_checkBoundsOffCount_d044e, cJ2_checkBoundsOffCount_d044e, 3, none)
abbrev MJ0_checkBoundsOffCount_cabcc : MI := (yJ0_checkBoundsOffCount_cabcc, cJ0_checkBoundsOffCount_cabcc, 3, (some .int))
abbrev MJ3_checkFromIndexSize_8c36e : MI := (yJ3_checkFromIndexSize_8c36e, cJ3_checkFromIndexSize_8c36e, 4, (some .int))
abbrev MJ0_getBytes_840e7 : MI := (yJ0_getBytes_840e7, cJ0_getBytes_840e7, 4, none)
abbrev MJ4_append_bf812 : MI := (yJ4_append_bf812, cJ4_append_bf812, 2, (some (.object "java/lang/StringBuilder")))
abbrev MJ5_append_c97b9 : MI := (yJ5_append_c97b9, cJ5_append_c97b9, 4, (some (.object "java/lang/AbstractStringBuilder")))
abbrev MJ6_stringSize_0f7a4 : MI := (yJ6_stringSize_0f7a4, cJ6_stringSize_0f7a4, 4, (some .int))
abbrev MJ6_getChars_ba4f3 : MI := (yJ6_getChars_ba4f3, cJ6_getChars_ba4f3, 7, (some .int))
abbrev MJ2_getChars_46870 : MI := (yJ2_getChars_46870, cJ2_getChars_46870, 5, (some .int))
abbrev MJ2_getChars_ba4f3 : MI := (yJ2_getChars_ba4f3, cJ2_getChars_ba4f3, 7, (some .int))
abbrev MJ4_toString_0e30d : MI := (yJ4_toString_0e30d, cJ4_toString_0e30d, 1, (some (.object "java/lang/String")))
abbrev MJ0_init_81219 : MI := (yJ0_init_81219, cJ0_init_81219, 2, none)
abbrev MJ0_init_db425 : MI := (yJ0_init_db425, cJ0_init_db425, 5, none)
abbrev MJ5_getValue_6d5f1 : MI := (yJ5_getValue_6d5f1, cJ5_getValue_6d5f1, 1, (some (.array .byte)))
abbrev MJ4_length_8abf5 : MI := (yJ4_length_8abf5, cJ4_length_8abf5, 1, (some .int))
abbrev MJ5_length_8abf5 : MI := (yJ5_length_8abf5, cJ5_length_8abf5, 1, (some .int))
abbrev MJ7_copyOfRange_39247 : MI := (yJ7_copyOfRange_39247, cJ7_copyOfRange_39247, 3, (some (.array .byte)))
abbrev MJ7_copyOfRangeByte_39247 : MI := (yJ7_copyOfRangeByte_39247, cJ7_copyOfRangeByte_39247, 5, (some (.array .byte)))
abbrev MJ7_checkLength_df160 : MI := (yJ7_checkLength_df160, cJ7_checkLength_df160, 2, none)
abbrev MJ2_compress_39247 : MI := (yJ2_compress_39247, cJ2_compress_39247, 6, (some (.array .byte)))
abbrev MJ2_compress_5af95 : MI := (yJ2_compress_5af95, cJ2_compress_5af95, 7, (some .int))
abbrev MJ2_getChar_3b067 : MI := (yJ2_getChar_3b067, cJ2_getChar_3b067, 2, (some .char))
abbrev MJ2_coderFromArrayLen_85cad : MI := (yJ2_coderFromArrayLen_85cad, cJ2_coderFromArrayLen_85cad, 2, (some .byte))
abbrev MJ4_append_cf468 : MI := (yJ4_append_cf468, cJ4_append_cf468, 2, (some (.object "java/lang/StringBuilder")))
abbrev MJ5_append_3fe6f : MI := (yJ5_append_3fe6f, cJ5_append_3fe6f, 2, (some (.object "java/lang/AbstractStringBuilder")))
abbrev MJ1_canEncode_fc78d : MI := (yJ1_canEncode_fc78d, cJ1_canEncode_fc78d, 1, (some .boolean))
abbrev MJ2_putCharSB_b72d1 : MI := (yJ2_putCharSB_b72d1, cJ2_putCharSB_b72d1, 3, none)
abbrev MJ2_checkIndex_2214a : MI := (yJ2_checkIndex_2214a, cJ2_checkIndex_2214a, 2, none)
abbrev MJ0_checkIndex_df160 : MI := (yJ0_checkIndex_df160, cJ0_checkIndex_df160, 2, none)
abbrev MJ3_checkIndex_8e157 : MI := (yJ3_checkIndex_8e157, cJ3_checkIndex_8e157, 3, (some .int))
abbrev ML_span : MI := (yL_span, cL_span, 2, (some (.object "java/lang/String")))
abbrev ML_load : MI := (yL_load, cL_load, 3, (some .int))
abbrev ML_four : MI := (yL_four, cL_four, 4, (some .int))
abbrev MJ0_charAt_5068e : MI := (yJ0_charAt_5068e, cJ0_charAt_5068e, 2, (some .char))
abbrev MJ0_isLatin1_aae02 : MI := (yJ0_isLatin1_aae02, cJ0_isLatin1_aae02, 1, (some .boolean))
abbrev MJ1_charAt_3b067 : MI := (yJ1_charAt_3b067, cJ1_charAt_3b067, 2, (some .char))
abbrev MJ2_charAt_3b067 : MI := (yJ2_charAt_3b067, cJ2_charAt_3b067, 2, (some .char))
abbrev MX11_feed : MI := (yX11_feed, cX11_feed, 6, (some .int))
abbrev MX9_hasRoomFor : MI := (yX9_hasRoomFor, cX9_hasRoomFor, 2, (some .boolean))
abbrev MX9_append : MI := (yX9_append, cX9_append, 3, none)
abbrev MX9_size : MI := (yX9_size, cX9_size, 1, (some .int))
abbrev MX11_load : MI := (yX11_load, cX11_load, 4, (some .int))
abbrev MX5_read : MI := (yX5_read, cX5_read, 6, (some .boolean))
abbrev MX6_start : MI := (yX6_start, cX6_start, 2, none)
abbrev MX6_followAll : MI := (yX6_followAll, cX6_followAll, 2, none)
abbrev MX6_follow : MI := (yX6_follow, cX6_follow, 6, none)
abbrev MX6_isPainted : MI := (yX6_isPainted, cX6_isPainted, 3, (some .boolean))
abbrev MX3_clear : MI := (yX3_clear, cX3_clear, 1, none)
abbrev MX10_begin : MI := (yX10_begin, cX10_begin, 2, none)
abbrev MX10_next : MI := (yX10_next, cX10_next, 1, none)
abbrev MX10_takeLetters : MI := (yX10_takeLetters, cX10_takeLetters, 1, none)
abbrev MX10_takeDigits : MI := (yX10_takeDigits, cX10_takeDigits, 1, none)
abbrev MX5_readStatement : MI := (yX5_readStatement, cX5_readStatement, 4, (some .boolean))
abbrev MX5_failOnToken : MI := (yX5_failOnToken, cX5_failOnToken, 1, (some .boolean))
abbrev MX5_readBridge : MI := (yX5_readBridge, cX5_readBridge, 4, (some .boolean))
abbrev MX5_number : MI := (yX5_number, cX5_number, 3, (some .int))
abbrev MX5_fail : MI := (yX5_fail, cX5_fail, 2, (some .boolean))
abbrev MX5_semicolon : MI := (yX5_semicolon, cX5_semicolon, 1, (some .boolean))
abbrev MX5_readLane : MI := (yX5_readLane, cX5_readLane, 4, (some .boolean))
abbrev MX5_newName : MI := (yX5_newName, cX5_newName, 1, (some .long))
abbrev MX5_isReserved : MI := (yX5_isReserved, cX5_isReserved, 2, (some .boolean))
abbrev MX3_isDeclared : MI := (yX3_isDeclared, cX3_isDeclared, 4, (some .boolean))
abbrev MX3_add : MI := (yX3_add, cX3_add, 5, none)
abbrev MX1_addLane : MI := (yX1_addLane, cX1_addLane, 2, none)
abbrev MX5_readSpan : MI := (yX5_readSpan, cX5_readSpan, 8, (some .boolean))
abbrev MX5_laneOrNone : MI := (yX5_laneOrNone, cX5_laneOrNone, 1, (some .int))
abbrev MX5_thisName : MI := (yX5_thisName, cX5_thisName, 3, (some .int))
abbrev MX3_numberOf : MI := (yX3_numberOf, cX3_numberOf, 5, (some .int))
abbrev MX1_addSpan : MI := (yX1_addSpan, cX1_addSpan, 6, none)
abbrev MX5_readGang : MI := (yX5_readGang, cX5_readGang, 5, (some .boolean))
abbrev MX1_addGang : MI := (yX1_addGang, cX1_addGang, 3, none)
abbrev MX5_readWeather : MI := (yX5_readWeather, cX5_readWeather, 3, (some .boolean))
abbrev MX5_readClosed : MI := (yX5_readClosed, cX5_readClosed, 3, (some .boolean))
abbrev MX5_knownName : MI := (yX5_knownName, cX5_knownName, 2, (some .int))
abbrev MX5_readPainting : MI := (yX5_readPainting, cX5_readPainting, 4, (some .boolean))
abbrev MX6_put : MI := (yX6_put, cX6_put, 4, none)
abbrev MX5_failureKind : MI := (yX5_failureKind, cX5_failureKind, 1, (some .int))
abbrev MX5_failurePosition : MI := (yX5_failurePosition, cX5_failurePosition, 1, (some .int))
abbrev MX9_clear : MI := (yX9_clear, cX9_clear, 1, none)
abbrev MX11_takeDraft : MI := (yX11_takeDraft, cX11_takeDraft, 2, none)
abbrev MX2_clear : MI := (yX2_clear, cX2_clear, 1, none)
abbrev MX11_errorKind : MI := (yX11_errorKind, cX11_errorKind, 1, (some .int))
abbrev MX11_paintings : MI := (yX11_paintings, cX11_paintings, 1, (some .int))
abbrev MX6_countPaintings : MI := (yX6_countPaintings, cX6_countPaintings, 3, (some .int))
abbrev ML_refused : MI := (yL_refused, cL_refused, 7, (some .int))
abbrev ML_load_ : MI := (yL_load_, cL_load_, 5, (some .int))
abbrev ML_effort : MI := (yL_effort, cL_effort, 3, (some .int))
abbrev ML_begin : MI := (yL_begin, cL_begin, 3, (some .int))
abbrev ML_end : MI := (yL_end, cL_end, 5, (some .int))
abbrev MX11_refusal : MI := (yX11_refusal, cX11_refusal, 4, (some .int))
abbrev MX11_checkYear : MI := (yX11_checkYear, cX11_checkYear, 2, none)
abbrev MX11_checkSpan : MI := (yX11_checkSpan, cX11_checkSpan, 2, none)
abbrev MX11_checkGang : MI := (yX11_checkGang, cX11_checkGang, 2, none)
abbrev MX6_reasonAgainst : MI := (yX6_reasonAgainst, cX6_reasonAgainst, 6, (some .int))
abbrev MX1_isClosed : MI := (yX1_isClosed, cX1_isClosed, 3, (some .boolean))
abbrev MX6_shutLanes : MI := (yX6_shutLanes, cX6_shutLanes, 4, (some .int))
abbrev MJ6_bitCount_0f7a4 : MI := (yJ6_bitCount_0f7a4, cJ6_bitCount_0f7a4, 1, (some .int))
abbrev MX6_gangLoad : MI := (yX6_gangLoad, cX6_gangLoad, 5, (some .int))
abbrev MX6_painter : MI := (yX6_painter, cX6_painter, 3, (some .int))
abbrev MX6_spanEffort : MI := (yX6_spanEffort, cX6_spanEffort, 3, (some .int))
abbrev MX1_gangCapacity : MI := (yX1_gangCapacity, cX1_gangCapacity, 3, (some .int))
abbrev MX11_paint : MI := (yX11_paint, cX11_paint, 4, (some .int))
abbrev MX11_remember : MI := (yX11_remember, cX11_remember, 1, none)
abbrev MX2_keep : MI := (yX2_keep, cX2_keep, 3, none)
abbrev MX1_saveTo : MI := (yX1_saveTo, cX1_saveTo, 2, none)
abbrev MX6_saveTo : MI := (yX6_saveTo, cX6_saveTo, 2, none)
abbrev MX6_countPast : MI := (yX6_countPast, cX6_countPast, 3, (some .int))
abbrev MX6_firstPast : MI := (yX6_firstPast, cX6_firstPast, 3, (some .int))
abbrev MX6_isPast : MI := (yX6_isPast, cX6_isPast, 3, (some .boolean))
abbrev ML_isSame : MI := (yL_isSame, cL_isSame, 5, (some .boolean))
abbrev MX11_rustAfter : MI := (yX11_rustAfter, cX11_rustAfter, 3, (some .int))
abbrev MX6_rustAtEnd : MI := (yX6_rustAtEnd, cX6_rustAtEnd, 3, (some .int))
abbrev MX11_rustBefore : MI := (yX11_rustBefore, cX11_rustBefore, 3, (some .int))
abbrev MX6_rustAtStart : MI := (yX6_rustAtStart, cX6_rustAtStart, 3, (some .int))
abbrev MX11_guardLeft : MI := (yX11_guardLeft, cX11_guardLeft, 3, (some .int))
abbrev MX6_guardAtStart : MI := (yX6_guardAtStart, cX6_guardAtStart, 3, (some .int))
abbrev MX11_effort : MI := (yX11_effort, cX11_effort, 3, (some .int))
abbrev MX11_pastYear : MI := (yX11_pastYear, cX11_pastYear, 2, (some .int))
abbrev MX11_loadOf : MI := (yX11_loadOf, cX11_loadOf, 3, (some .int))
abbrev MX11_capacity : MI := (yX11_capacity, cX11_capacity, 3, (some .int))
abbrev MX11_undo : MI := (yX11_undo, cX11_undo, 1, (some .int))
abbrev MX2_isEmpty : MI := (yX2_isEmpty, cX2_isEmpty, 1, (some .boolean))
abbrev MX2_takeBack : MI := (yX2_takeBack, cX2_takeBack, 3, none)
abbrev MX1_restoreFrom : MI := (yX1_restoreFrom, cX1_restoreFrom, 2, none)
abbrev MX6_restoreFrom : MI := (yX6_restoreFrom, cX6_restoreFrom, 2, none)
abbrev MX2_size : MI := (yX2_size, cX2_size, 1, (some .int))
abbrev ML_isRefused : MI := (yL_isRefused, cL_isRefused, 3, (some .boolean))
theorem FI_L_7 : FI RL 7 12 0 := ⟨RL, TL, 18, rfl, rfl, by decide, inlL, inR_1 _ (List.mem_of_getElem? (i := 3) rfl)⟩
theorem FI_L_93 : FI RL 93 12 6 := ⟨RL, TL, 18, rfl, rfl, by decide, inlL, inR_1 _ (List.mem_of_getElem? (i := 7) rfl)⟩
theorem FI_L_39 : FI RL 39 12 16 := ⟨RL, TL, 18, rfl, rfl, by decide, inlL, inR_1 _ (List.mem_of_getElem? (i := 8) rfl)⟩
theorem FI_L_81 : FI RL 81 12 2 := ⟨RL, TL, 18, rfl, rfl, by decide, inlL, inR_1 _ (List.mem_of_getElem? (i := 9) rfl)⟩
theorem FI_L_96 : FI RL 96 12 7 := ⟨RL, TL, 18, rfl, rfl, by decide, inlL, inR_1 _ (List.mem_of_getElem? (i := 10) rfl)⟩
theorem FI_L_13 : FI RL 13 12 8 := ⟨RL, TL, 18, rfl, rfl, by decide, inlL, inR_1 _ (List.mem_of_getElem? (i := 19) rfl)⟩
theorem FI_L_16 : FI RL 16 12 9 := ⟨RL, TL, 18, rfl, rfl, by decide, inlL, inR_1 _ (List.mem_of_getElem? (i := 20) rfl)⟩
theorem FI_L_19 : FI RL 19 12 10 := ⟨RL, TL, 18, rfl, rfl, by decide, inlL, inR_1 _ (List.mem_of_getElem? (i := 21) rfl)⟩
theorem FI_L_22 : FI RL 22 12 11 := ⟨RL, TL, 18, rfl, rfl, by decide, inlL, inR_1 _ (List.mem_of_getElem? (i := 22) rfl)⟩
theorem FI_L_25 : FI RL 25 12 12 := ⟨RL, TL, 18, rfl, rfl, by decide, inlL, inR_1 _ (List.mem_of_getElem? (i := 23) rfl)⟩
theorem FI_L_28 : FI RL 28 12 13 := ⟨RL, TL, 18, rfl, rfl, by decide, inlL, inR_2 _ (List.mem_of_getElem? (i := 0) rfl)⟩
theorem FI_L_31 : FI RL 31 12 14 := ⟨RL, TL, 18, rfl, rfl, by decide, inlL, inR_2 _ (List.mem_of_getElem? (i := 1) rfl)⟩
theorem FI_L_34 : FI RL 34 12 15 := ⟨RL, TL, 18, rfl, rfl, by decide, inlL, inR_2 _ (List.mem_of_getElem? (i := 2) rfl)⟩
theorem FI_X11_12 : FI RX11 12 11 2 := ⟨RX11, TX11, 13, rfl, rfl, by decide, inlX11, inR_2 _ (List.mem_of_getElem? (i := 11) rfl)⟩
theorem FI_X11_19 : FI RX11 19 11 3 := ⟨RX11, TX11, 13, rfl, rfl, by decide, inlX11, inR_2 _ (List.mem_of_getElem? (i := 15) rfl)⟩
theorem FI_X11_26 : FI RX11 26 11 4 := ⟨RX11, TX11, 13, rfl, rfl, by decide, inlX11, inR_2 _ (List.mem_of_getElem? (i := 19) rfl)⟩
theorem FI_X11_33 : FI RX11 33 11 5 := ⟨RX11, TX11, 13, rfl, rfl, by decide, inlX11, inR_2 _ (List.mem_of_getElem? (i := 23) rfl)⟩
theorem FI_X11_40 : FI RX11 40 11 6 := ⟨RX11, TX11, 13, rfl, rfl, by decide, inlX11, inR_3 _ (List.mem_of_getElem? (i := 3) rfl)⟩
theorem FI_X11_44 : FI RX11 44 11 11 := ⟨RX11, TX11, 13, rfl, rfl, by decide, inlX11, inR_3 _ (List.mem_of_getElem? (i := 4) rfl)⟩
theorem FI_X11_49 : FI RX11 49 11 12 := ⟨RX11, TX11, 13, rfl, rfl, by decide, inlX11, inR_3 _ (List.mem_of_getElem? (i := 6) rfl)⟩
theorem FI_X11_63 : FI RX11 63 11 0 := ⟨RX11, TX11, 13, rfl, rfl, by decide, inlX11, inR_3 _ (List.mem_of_getElem? (i := 16) rfl)⟩
theorem FI_X11_67 : FI RX11 67 11 7 := ⟨RX11, TX11, 13, rfl, rfl, by decide, inlX11, inR_3 _ (List.mem_of_getElem? (i := 17) rfl)⟩
theorem FI_X11_71 : FI RX11 71 11 8 := ⟨RX11, TX11, 13, rfl, rfl, by decide, inlX11, inR_3 _ (List.mem_of_getElem? (i := 18) rfl)⟩
theorem FI_X11_75 : FI RX11 75 11 9 := ⟨RX11, TX11, 13, rfl, rfl, by decide, inlX11, inR_3 _ (List.mem_of_getElem? (i := 19) rfl)⟩
theorem FI_X11_78 : FI RX11 78 11 10 := ⟨RX11, TX11, 13, rfl, rfl, by decide, inlX11, inR_3 _ (List.mem_of_getElem? (i := 20) rfl)⟩
theorem FI_X11_86 : FI RX11 86 11 1 := ⟨RX11, TX11, 13, rfl, rfl, by decide, inlX11, inR_4 _ (List.mem_of_getElem? (i := 0) rfl)⟩
theorem FI_X0_12 : FI RX0 12 0 0 := ⟨RX0, TX0, 1, rfl, rfl, by decide, inlX0, inR_4 _ (List.mem_of_getElem? (i := 5) rfl)⟩
theorem FI_X7_9 : FI RX7 9 7 0 := ⟨RX7, TX7, 2, rfl, rfl, by decide, inlX7, inR_4 _ (List.mem_of_getElem? (i := 9) rfl)⟩
theorem FI_X8_12 : FI RX8 12 8 0 := ⟨RX8, TX8, 2, rfl, rfl, by decide, inlX8, inR_4 _ (List.mem_of_getElem? (i := 14) rfl)⟩
theorem FI_X2_15 : FI RX2 15 2 0 := ⟨RX2, TX2, 3, rfl, rfl, by decide, inlX2, inR_4 _ (List.mem_of_getElem? (i := 19) rfl)⟩
theorem FI_X2_18 : FI RX2 18 2 1 := ⟨RX2, TX2, 3, rfl, rfl, by decide, inlX2, inR_4 _ (List.mem_of_getElem? (i := 20) rfl)⟩
theorem FI_X4_11 : FI RX4 11 4 0 := ⟨RX4, TX4, 2, rfl, rfl, by decide, inlX4, inR_5 _ (List.mem_of_getElem? (i := 1) rfl)⟩
theorem FI_X9_9 : FI RX9 9 9 0 := ⟨RX9, TX9, 2, rfl, rfl, by decide, inlX9, inR_5 _ (List.mem_of_getElem? (i := 5) rfl)⟩
theorem FI_X1_11 : FI RX1 11 1 6 := ⟨RX1, TX1, 16, rfl, rfl, by decide, inlX1, inR_5 _ (List.mem_of_getElem? (i := 10) rfl)⟩
theorem FI_X1_15 : FI RX1 15 1 7 := ⟨RX1, TX1, 16, rfl, rfl, by decide, inlX1, inR_5 _ (List.mem_of_getElem? (i := 11) rfl)⟩
theorem FI_X1_18 : FI RX1 18 1 8 := ⟨RX1, TX1, 16, rfl, rfl, by decide, inlX1, inR_5 _ (List.mem_of_getElem? (i := 12) rfl)⟩
theorem FI_X1_21 : FI RX1 21 1 9 := ⟨RX1, TX1, 16, rfl, rfl, by decide, inlX1, inR_5 _ (List.mem_of_getElem? (i := 13) rfl)⟩
theorem FI_X1_24 : FI RX1 24 1 10 := ⟨RX1, TX1, 16, rfl, rfl, by decide, inlX1, inR_5 _ (List.mem_of_getElem? (i := 14) rfl)⟩
theorem FI_X1_27 : FI RX1 27 1 11 := ⟨RX1, TX1, 16, rfl, rfl, by decide, inlX1, inR_5 _ (List.mem_of_getElem? (i := 15) rfl)⟩
theorem FI_X1_30 : FI RX1 30 1 12 := ⟨RX1, TX1, 16, rfl, rfl, by decide, inlX1, inR_5 _ (List.mem_of_getElem? (i := 16) rfl)⟩
theorem FI_X1_33 : FI RX1 33 1 13 := ⟨RX1, TX1, 16, rfl, rfl, by decide, inlX1, inR_5 _ (List.mem_of_getElem? (i := 17) rfl)⟩
theorem FI_X1_36 : FI RX1 36 1 14 := ⟨RX1, TX1, 16, rfl, rfl, by decide, inlX1, inR_5 _ (List.mem_of_getElem? (i := 18) rfl)⟩
theorem FI_X1_39 : FI RX1 39 1 15 := ⟨RX1, TX1, 16, rfl, rfl, by decide, inlX1, inR_5 _ (List.mem_of_getElem? (i := 19) rfl)⟩
theorem FI_X1_45 : FI RX1 45 1 0 := ⟨RX1, TX1, 16, rfl, rfl, by decide, inlX1, inR_6 _ (List.mem_of_getElem? (i := 0) rfl)⟩
theorem FI_X1_49 : FI RX1 49 1 1 := ⟨RX1, TX1, 16, rfl, rfl, by decide, inlX1, inR_6 _ (List.mem_of_getElem? (i := 1) rfl)⟩
theorem FI_X1_52 : FI RX1 52 1 2 := ⟨RX1, TX1, 16, rfl, rfl, by decide, inlX1, inR_6 _ (List.mem_of_getElem? (i := 2) rfl)⟩
theorem FI_X1_55 : FI RX1 55 1 3 := ⟨RX1, TX1, 16, rfl, rfl, by decide, inlX1, inR_6 _ (List.mem_of_getElem? (i := 3) rfl)⟩
theorem FI_X1_58 : FI RX1 58 1 4 := ⟨RX1, TX1, 16, rfl, rfl, by decide, inlX1, inR_6 _ (List.mem_of_getElem? (i := 4) rfl)⟩
theorem FI_X1_61 : FI RX1 61 1 5 := ⟨RX1, TX1, 16, rfl, rfl, by decide, inlX1, inR_6 _ (List.mem_of_getElem? (i := 5) rfl)⟩
theorem FI_X6_11 : FI RX6 11 6 1 := ⟨RX6, TX6, 4, rfl, rfl, by decide, inlX6, inR_6 _ (List.mem_of_getElem? (i := 14) rfl)⟩
theorem FI_X6_15 : FI RX6 15 6 2 := ⟨RX6, TX6, 4, rfl, rfl, by decide, inlX6, inR_6 _ (List.mem_of_getElem? (i := 15) rfl)⟩
theorem FI_X6_18 : FI RX6 18 6 3 := ⟨RX6, TX6, 4, rfl, rfl, by decide, inlX6, inR_6 _ (List.mem_of_getElem? (i := 16) rfl)⟩
theorem FI_X6_21 : FI RX6 21 6 0 := ⟨RX6, TX6, 4, rfl, rfl, by decide, inlX6, inR_6 _ (List.mem_of_getElem? (i := 17) rfl)⟩
theorem FI_X5_12 : FI RX5 12 5 1 := ⟨RX5, TX5, 6, rfl, rfl, by decide, inlX5, inR_7 _ (List.mem_of_getElem? (i := 2) rfl)⟩
theorem FI_X5_19 : FI RX5 19 5 5 := ⟨RX5, TX5, 6, rfl, rfl, by decide, inlX5, inR_7 _ (List.mem_of_getElem? (i := 4) rfl)⟩
theorem FI_X5_28 : FI RX5 28 5 0 := ⟨RX5, TX5, 6, rfl, rfl, by decide, inlX5, inR_7 _ (List.mem_of_getElem? (i := 8) rfl)⟩
theorem FI_X5_32 : FI RX5 32 5 2 := ⟨RX5, TX5, 6, rfl, rfl, by decide, inlX5, inR_7 _ (List.mem_of_getElem? (i := 9) rfl)⟩
theorem FI_X5_36 : FI RX5 36 5 3 := ⟨RX5, TX5, 6, rfl, rfl, by decide, inlX5, inR_7 _ (List.mem_of_getElem? (i := 10) rfl)⟩
theorem FI_X3_11 : FI RX3 11 3 0 := ⟨RX3, TX3, 4, rfl, rfl, by decide, inlX3, inR_7 _ (List.mem_of_getElem? (i := 15) rfl)⟩
theorem FI_X3_15 : FI RX3 15 3 1 := ⟨RX3, TX3, 4, rfl, rfl, by decide, inlX3, inR_7 _ (List.mem_of_getElem? (i := 16) rfl)⟩
theorem FI_X3_19 : FI RX3 19 3 2 := ⟨RX3, TX3, 4, rfl, rfl, by decide, inlX3, inR_7 _ (List.mem_of_getElem? (i := 17) rfl)⟩
theorem FI_X10_7 : FI RX10 7 10 0 := ⟨RX10, TX10, 7, rfl, rfl, by decide, inlX10, inR_7 _ (List.mem_of_getElem? (i := 22) rfl)⟩
theorem FI_L_84 : FI RL 84 12 3 := ⟨RL, TL, 18, rfl, rfl, by decide, inlL, inR_8 _ (List.mem_of_getElem? (i := 3) rfl)⟩
theorem FI_L_87 : FI RL 87 12 4 := ⟨RL, TL, 18, rfl, rfl, by decide, inlL, inR_8 _ (List.mem_of_getElem? (i := 4) rfl)⟩
theorem FI_L_90 : FI RL 90 12 5 := ⟨RL, TL, 18, rfl, rfl, by decide, inlL, inR_8 _ (List.mem_of_getElem? (i := 5) rfl)⟩
theorem FI_L_66 : FI RL 66 12 1 := ⟨RL, TL, 18, rfl, rfl, by decide, inlL, inR_8 _ (List.mem_of_getElem? (i := 13) rfl)⟩
theorem FI_J0_9 : FI RJ0 9 13 0 := ⟨RJ0, TJ0, 4, rfl, rfl, by decide, inlJ0, inR_13 _ (List.mem_of_getElem? (i := 6) rfl)⟩
theorem FI_J0_15 : FI RJ0 15 13 1 := ⟨RJ0, TJ0, 4, rfl, rfl, by decide, inlJ0, inR_13 _ (List.mem_of_getElem? (i := 12) rfl)⟩
theorem FI_X9_15 : FI RX9 15 9 1 := ⟨RX9, TX9, 2, rfl, rfl, by decide, inlX9, inR_20 _ (List.mem_of_getElem? (i := 17) rfl)⟩
theorem FI_X5_40 : FI RX5 40 5 4 := ⟨RX5, TX5, 6, rfl, rfl, by decide, inlX5, inR_21 _ (List.mem_of_getElem? (i := 13) rfl)⟩
theorem FI_X3_22 : FI RX3 22 3 3 := ⟨RX3, TX3, 4, rfl, rfl, by decide, inlX3, inR_22 _ (List.mem_of_getElem? (i := 12) rfl)⟩
theorem FI_X10_25 : FI RX10 25 10 1 := ⟨RX10, TX10, 7, rfl, rfl, by decide, inlX10, inR_22 _ (List.mem_of_getElem? (i := 18) rfl)⟩
theorem FI_X10_28 : FI RX10 28 10 2 := ⟨RX10, TX10, 7, rfl, rfl, by decide, inlX10, inR_22 _ (List.mem_of_getElem? (i := 19) rfl)⟩
theorem FI_X10_31 : FI RX10 31 10 3 := ⟨RX10, TX10, 7, rfl, rfl, by decide, inlX10, inR_22 _ (List.mem_of_getElem? (i := 20) rfl)⟩
theorem FI_X10_34 : FI RX10 34 10 4 := ⟨RX10, TX10, 7, rfl, rfl, by decide, inlX10, inR_22 _ (List.mem_of_getElem? (i := 21) rfl)⟩
theorem FI_X10_47 : FI RX10 47 10 6 := ⟨RX10, TX10, 7, rfl, rfl, by decide, inlX10, inR_23 _ (List.mem_of_getElem? (i := 6) rfl)⟩
theorem FI_X10_51 : FI RX10 51 10 5 := ⟨RX10, TX10, 7, rfl, rfl, by decide, inlX10, inR_23 _ (List.mem_of_getElem? (i := 11) rfl)⟩
theorem FI_X2_22 : FI RX2 22 2 2 := ⟨RX2, TX2, 3, rfl, rfl, by decide, inlX2, inR_28 _ (List.mem_of_getElem? (i := 18) rfl)⟩
theorem FI_L_185 : FI RL 185 12 17 := ⟨RL, TL, 18, rfl, rfl, by decide, inlL, inR_30 _ (List.mem_of_getElem? (i := 1) rfl)⟩
theorem FN_X10_37 : FN RX10 37 9 0 := ⟨RX9, TX9, 2, rfl, rfl, by decide, inlX9, List.mem_of_getElem? (i := 0) rfl⟩
theorem FN_X10_13 : FN RX10 13 9 1 := ⟨RX9, TX9, 2, rfl, rfl, by decide, inlX9, List.mem_of_getElem? (i := 1) rfl⟩
theorem FN_X5_139 : FN RX5 139 1 0 := ⟨RX1, TX1, 16, rfl, rfl, by decide, inlX1, List.mem_of_getElem? (i := 2) rfl⟩
theorem FN_X6_53 : FN RX6 53 1 0 := ⟨RX1, TX1, 16, rfl, rfl, by decide, inlX1, List.mem_of_getElem? (i := 3) rfl⟩
theorem FN_X11_168 : FN RX11 168 1 0 := ⟨RX1, TX1, 16, rfl, rfl, by decide, inlX1, List.mem_of_getElem? (i := 4) rfl⟩
theorem FN_X5_142 : FN RX5 142 1 1 := ⟨RX1, TX1, 16, rfl, rfl, by decide, inlX1, List.mem_of_getElem? (i := 5) rfl⟩
theorem FN_X6_139 : FN RX6 139 1 1 := ⟨RX1, TX1, 16, rfl, rfl, by decide, inlX1, List.mem_of_getElem? (i := 6) rfl⟩
theorem FN_X5_145 : FN RX5 145 1 2 := ⟨RX1, TX1, 16, rfl, rfl, by decide, inlX1, List.mem_of_getElem? (i := 7) rfl⟩
theorem FN_X6_60 : FN RX6 60 1 2 := ⟨RX1, TX1, 16, rfl, rfl, by decide, inlX1, List.mem_of_getElem? (i := 8) rfl⟩
theorem FN_X5_95 : FN RX5 95 1 3 := ⟨RX1, TX1, 16, rfl, rfl, by decide, inlX1, List.mem_of_getElem? (i := 9) rfl⟩
theorem FN_X11_128 : FN RX11 128 1 4 := ⟨RX1, TX1, 16, rfl, rfl, by decide, inlX1, List.mem_of_getElem? (i := 10) rfl⟩
theorem FN_X5_103 : FN RX5 103 1 4 := ⟨RX1, TX1, 16, rfl, rfl, by decide, inlX1, List.mem_of_getElem? (i := 11) rfl⟩
theorem FN_X6_46 : FN RX6 46 1 4 := ⟨RX1, TX1, 16, rfl, rfl, by decide, inlX1, List.mem_of_getElem? (i := 12) rfl⟩
theorem FN_X5_111 : FN RX5 111 1 5 := ⟨RX1, TX1, 16, rfl, rfl, by decide, inlX1, List.mem_of_getElem? (i := 13) rfl⟩
theorem FN_X11_226 : FN RX11 226 1 5 := ⟨RX1, TX1, 16, rfl, rfl, by decide, inlX1, List.mem_of_getElem? (i := 14) rfl⟩
theorem FN_X6_95 : FN RX6 95 1 7 := ⟨RX1, TX1, 16, rfl, rfl, by decide, inlX1, List.mem_of_getElem? (i := 15) rfl⟩
theorem FN_X6_83 : FN RX6 83 1 8 := ⟨RX1, TX1, 16, rfl, rfl, by decide, inlX1, List.mem_of_getElem? (i := 16) rfl⟩
theorem FN_X6_50 : FN RX6 50 1 9 := ⟨RX1, TX1, 16, rfl, rfl, by decide, inlX1, List.mem_of_getElem? (i := 17) rfl⟩
theorem FN_X6_63 : FN RX6 63 1 10 := ⟨RX1, TX1, 16, rfl, rfl, by decide, inlX1, List.mem_of_getElem? (i := 18) rfl⟩
theorem FN_X6_72 : FN RX6 72 1 11 := ⟨RX1, TX1, 16, rfl, rfl, by decide, inlX1, List.mem_of_getElem? (i := 19) rfl⟩
theorem FN_X5_173 : FN RX5 173 1 14 := ⟨RX1, TX1, 16, rfl, rfl, by decide, inlX1, List.mem_of_getElem? (i := 20) rfl⟩
theorem FN_X5_181 : FN RX5 181 1 15 := ⟨RX1, TX1, 16, rfl, rfl, by decide, inlX1, List.mem_of_getElem? (i := 21) rfl⟩
theorem FN_X5_74 : FN RX5 74 10 2 := ⟨RX10, TX10, 7, rfl, rfl, by decide, inlX10, List.mem_of_getElem? (i := 22) rfl⟩
theorem FN_X5_64 : FN RX5 64 10 4 := ⟨RX10, TX10, 7, rfl, rfl, by decide, inlX10, List.mem_of_getElem? (i := 23) rfl⟩
theorem FN_X5_192 : FN RX5 192 10 5 := ⟨RX10, TX10, 7, rfl, rfl, by decide, inlX10, List.mem_of_getElem? (i := 24) rfl⟩
theorem FN_X5_80 : FN RX5 80 10 6 := ⟨RX10, TX10, 7, rfl, rfl, by decide, inlX10, List.mem_of_getElem? (i := 25) rfl⟩
theorem UIL_init : UI ML_init RL 0 := ⟨by decide +kernel, by decide, inR_1 _ (List.mem_of_getElem? (i := 13) rfl), inR_1 _ (List.mem_of_getElem? (i := 2) rfl), inR_1 _ (List.mem_of_getElem? (i := 14) rfl)⟩
theorem UIX11_init : UI MX11_init RX11 0 := ⟨by decide +kernel, by decide, inR_2 _ (List.mem_of_getElem? (i := 5) rfl), inR_1 _ (List.mem_of_getElem? (i := 6) rfl), inR_2 _ (List.mem_of_getElem? (i := 6) rfl)⟩
theorem UIX0_init : UI MX0_init RX0 0 := ⟨by decide +kernel, by decide, inR_4 _ (List.mem_of_getElem? (i := 1) rfl), inR_2 _ (List.mem_of_getElem? (i := 10) rfl), inR_4 _ (List.mem_of_getElem? (i := 2) rfl)⟩
theorem UIX7_init : UI MX7_init RX7 0 := ⟨by decide +kernel, by decide, inR_4 _ (List.mem_of_getElem? (i := 6) rfl), inR_2 _ (List.mem_of_getElem? (i := 18) rfl), inR_4 _ (List.mem_of_getElem? (i := 7) rfl)⟩
theorem UIX8_init : UI MX8_init RX8 0 := ⟨by decide +kernel, by decide, inR_4 _ (List.mem_of_getElem? (i := 10) rfl), inR_2 _ (List.mem_of_getElem? (i := 14) rfl), inR_4 _ (List.mem_of_getElem? (i := 11) rfl)⟩
theorem UIX2_init : UI MX2_init RX2 0 := ⟨by decide +kernel, by decide, inR_4 _ (List.mem_of_getElem? (i := 15) rfl), inR_2 _ (List.mem_of_getElem? (i := 22) rfl), inR_4 _ (List.mem_of_getElem? (i := 16) rfl)⟩
theorem UIX4_init : UI MX4_init RX4 0 := ⟨by decide +kernel, by decide, inR_4 _ (List.mem_of_getElem? (i := 21) rfl), inR_3 _ (List.mem_of_getElem? (i := 2) rfl), inR_4 _ (List.mem_of_getElem? (i := 22) rfl)⟩
theorem UIX9_init : UI MX9_init RX9 0 := ⟨by decide +kernel, by decide, inR_5 _ (List.mem_of_getElem? (i := 2) rfl), inR_3 _ (List.mem_of_getElem? (i := 9) rfl), inR_5 _ (List.mem_of_getElem? (i := 3) rfl)⟩
theorem UIX1_init : UI MX1_init RX1 0 := ⟨by decide +kernel, by decide, inR_5 _ (List.mem_of_getElem? (i := 7) rfl), inR_3 _ (List.mem_of_getElem? (i := 12) rfl), inR_5 _ (List.mem_of_getElem? (i := 8) rfl)⟩
theorem UVX1_reset : UV MX1_reset RX1 0 := ⟨by decide +kernel, by decide, inR_5 _ (List.mem_of_getElem? (i := 21) rfl), inR_5 _ (List.mem_of_getElem? (i := 22) rfl), inR_3 _ (List.mem_of_getElem? (i := 12) rfl), inR_5 _ (List.mem_of_getElem? (i := 23) rfl)⟩
theorem USJ7_fill_53178 : US MJ7_fill_53178 RJ7 2 := ⟨by decide +kernel, by decide, inR_6 _ (List.mem_of_getElem? (i := 7) rfl), inR_6 _ (List.mem_of_getElem? (i := 8) rfl), inR_6 _ (List.mem_of_getElem? (i := 9) rfl)⟩
theorem UIX6_init : UI MX6_init RX6 1 := ⟨by decide +kernel, by decide, inR_6 _ (List.mem_of_getElem? (i := 11) rfl), inR_3 _ (List.mem_of_getElem? (i := 15) rfl), inR_6 _ (List.mem_of_getElem? (i := 12) rfl)⟩
theorem UIX5_init : UI MX5_init RX5 3 := ⟨by decide +kernel, by decide, inR_6 _ (List.mem_of_getElem? (i := 20) rfl), inR_3 _ (List.mem_of_getElem? (i := 23) rfl), inR_6 _ (List.mem_of_getElem? (i := 21) rfl)⟩
theorem UIX3_init : UI MX3_init RX3 0 := ⟨by decide +kernel, by decide, inR_7 _ (List.mem_of_getElem? (i := 11) rfl), inR_7 _ (List.mem_of_getElem? (i := 1) rfl), inR_7 _ (List.mem_of_getElem? (i := 12) rfl)⟩
theorem UIX10_init : UI MX10_init RX10 1 := ⟨by decide +kernel, by decide, inR_7 _ (List.mem_of_getElem? (i := 19) rfl), inR_7 _ (List.mem_of_getElem? (i := 7) rfl), inR_7 _ (List.mem_of_getElem? (i := 20) rfl)⟩
theorem UVL_bridge : UV ML_bridge RL 0 := ⟨by decide +kernel, by decide, inR_8 _ (List.mem_of_getElem? (i := 0) rfl), inR_8 _ (List.mem_of_getElem? (i := 1) rfl), inR_1 _ (List.mem_of_getElem? (i := 2) rfl), inR_8 _ (List.mem_of_getElem? (i := 2) rfl)⟩
theorem UVL_chosen : UV ML_chosen RL 1 := ⟨by decide +kernel, by decide, inR_8 _ (List.mem_of_getElem? (i := 10) rfl), inR_8 _ (List.mem_of_getElem? (i := 11) rfl), inR_1 _ (List.mem_of_getElem? (i := 2) rfl), inR_8 _ (List.mem_of_getElem? (i := 12) rfl)⟩
theorem USL_cell : US ML_cell RL 2 := ⟨by decide +kernel, by decide, inR_8 _ (List.mem_of_getElem? (i := 15) rfl), inR_1 _ (List.mem_of_getElem? (i := 2) rfl), inR_8 _ (List.mem_of_getElem? (i := 16) rfl)⟩
theorem USL_among : US ML_among RL 2 := ⟨by decide +kernel, by decide, inR_8 _ (List.mem_of_getElem? (i := 18) rfl), inR_1 _ (List.mem_of_getElem? (i := 2) rfl), inR_8 _ (List.mem_of_getElem? (i := 19) rfl)⟩
theorem UIJ4_init_da8c8 : UI MJ4_init_da8c8 RJ4 0 := ⟨by decide +kernel, by decide, inR_8 _ (List.mem_of_getElem? (i := 21) rfl), inR_8 _ (List.mem_of_getElem? (i := 8) rfl), inR_8 _ (List.mem_of_getElem? (i := 22) rfl)⟩
theorem UIJ5_init_d00df : UI MJ5_init_d00df RJ5 1 := ⟨by decide +kernel, by decide, inR_9 _ (List.mem_of_getElem? (i := 0) rfl), inR_9 _ (List.mem_of_getElem? (i := 1) rfl), inR_9 _ (List.mem_of_getElem? (i := 2) rfl)⟩
theorem USJ2_newBytesFor_77867 : US MJ2_newBytesFor_77867 RJ2 1 := ⟨by decide +kernel, by decide, inR_9 _ (List.mem_of_getElem? (i := 8) rfl), inR_9 _ (List.mem_of_getElem? (i := 9) rfl), inR_9 _ (List.mem_of_getElem? (i := 10) rfl)⟩
theorem USJ2_newBytesLength_0f7a4 : US MJ2_newBytesLength_0f7a4 RJ2 1 := ⟨by decide +kernel, by decide, inR_9 _ (List.mem_of_getElem? (i := 12) rfl), inR_9 _ (List.mem_of_getElem? (i := 9) rfl), inR_9 _ (List.mem_of_getElem? (i := 13) rfl)⟩
theorem UVJ4_append_15ec4 : UV MJ4_append_15ec4 RJ4 1 := ⟨by decide +kernel, by decide, inR_9 _ (List.mem_of_getElem? (i := 16) rfl), inR_9 _ (List.mem_of_getElem? (i := 17) rfl), inR_8 _ (List.mem_of_getElem? (i := 8) rfl), inR_9 _ (List.mem_of_getElem? (i := 18) rfl)⟩
theorem UIJ5_append_cf1ce : UI MJ5_append_cf1ce RJ5 1 := ⟨by decide +kernel, by decide, inR_9 _ (List.mem_of_getElem? (i := 22) rfl), inR_9 _ (List.mem_of_getElem? (i := 1) rfl), inR_9 _ (List.mem_of_getElem? (i := 23) rfl)⟩
theorem UIJ5_appendNull_278bc : UI MJ5_appendNull_278bc RJ5 0 := ⟨by decide +kernel, by decide, inR_10 _ (List.mem_of_getElem? (i := 4) rfl), inR_9 _ (List.mem_of_getElem? (i := 1) rfl), inR_10 _ (List.mem_of_getElem? (i := 5) rfl)⟩
theorem UIJ5_ensureCapacityInternal_d00df : UI MJ5_ensureCapacityInternal_d00df RJ5 1 := ⟨by decide +kernel, by decide, inR_10 _ (List.mem_of_getElem? (i := 9) rfl), inR_9 _ (List.mem_of_getElem? (i := 1) rfl), inR_10 _ (List.mem_of_getElem? (i := 10) rfl)⟩
theorem UIJ5_newCapacity_0f7a4 : UI MJ5_newCapacity_0f7a4 RJ5 1 := ⟨by decide +kernel, by decide, inR_10 _ (List.mem_of_getElem? (i := 14) rfl), inR_9 _ (List.mem_of_getElem? (i := 1) rfl), inR_10 _ (List.mem_of_getElem? (i := 15) rfl)⟩
theorem USJ8_newLength_cabcc : US MJ8_newLength_cabcc RJ8 3 := ⟨by decide +kernel, by decide, inR_10 _ (List.mem_of_getElem? (i := 18) rfl), inR_10 _ (List.mem_of_getElem? (i := 19) rfl), inR_10 _ (List.mem_of_getElem? (i := 20) rfl)⟩
theorem USJ8_hugeLength_7cf53 : US MJ8_hugeLength_7cf53 RJ8 2 := ⟨by decide +kernel, by decide, inR_11 _ (List.mem_of_getElem? (i := 3) rfl), inR_10 _ (List.mem_of_getElem? (i := 19) rfl), inR_11 _ (List.mem_of_getElem? (i := 4) rfl)⟩
theorem USJ7_copyOf_9075b : US MJ7_copyOf_9075b RJ7 2 := ⟨by decide +kernel, by decide, inR_11 _ (List.mem_of_getElem? (i := 6) rfl), inR_6 _ (List.mem_of_getElem? (i := 8) rfl), inR_11 _ (List.mem_of_getElem? (i := 7) rfl)⟩
theorem UIJ5_isLatin1_aae02 : UI MJ5_isLatin1_aae02 RJ5 0 := ⟨by decide +kernel, by decide, inR_12 _ (List.mem_of_getElem? (i := 0) rfl), inR_9 _ (List.mem_of_getElem? (i := 1) rfl), inR_12 _ (List.mem_of_getElem? (i := 1) rfl)⟩
theorem USJ2_putCharsAt_cd4e5 : US MJ2_putCharsAt_cd4e5 RJ2 6 := ⟨by decide +kernel, by decide, inR_12 _ (List.mem_of_getElem? (i := 3) rfl), inR_9 _ (List.mem_of_getElem? (i := 9) rfl), inR_12 _ (List.mem_of_getElem? (i := 4) rfl)⟩
theorem USJ2_checkBoundsBeginEnd_d044e : US MJ2_checkBoundsBeginEnd_d044e RJ2 3 := ⟨by decide +kernel, by decide, inR_12 _ (List.mem_of_getElem? (i := 7) rfl), inR_9 _ (List.mem_of_getElem? (i := 9) rfl), inR_12 _ (List.mem_of_getElem? (i := 8) rfl)⟩
theorem USJ2_length_9d52b : US MJ2_length_9d52b RJ2 1 := ⟨by decide +kernel, by decide, inR_12 _ (List.mem_of_getElem? (i := 10) rfl), inR_9 _ (List.mem_of_getElem? (i := 9) rfl), inR_12 _ (List.mem_of_getElem? (i := 11) rfl)⟩
theorem USJ0_checkBoundsBeginEnd_23922 : US MJ0_checkBoundsBeginEnd_23922 RJ0 3 := ⟨by decide +kernel, by decide, inR_12 _ (List.mem_of_getElem? (i := 13) rfl), inR_12 _ (List.mem_of_getElem? (i := 14) rfl), inR_12 _ (List.mem_of_getElem? (i := 15) rfl)⟩
theorem USJ3_checkFromToIndex_8c36e : US MJ3_checkFromToIndex_8c36e RJ3 4 := ⟨by decide +kernel, by decide, inR_12 _ (List.mem_of_getElem? (i := 18) rfl), inR_12 _ (List.mem_of_getElem? (i := 19) rfl), inR_12 _ (List.mem_of_getElem? (i := 20) rfl)⟩
theorem USJ2_putChar_b72d1 : US MJ2_putChar_b72d1 RJ2 3 := ⟨by decide +kernel, by decide, inR_12 _ (List.mem_of_getElem? (i := 22) rfl), inR_9 _ (List.mem_of_getElem? (i := 9) rfl), inR_12 _ (List.mem_of_getElem? (i := 23) rfl)⟩
theorem UVJ0_length_8abf5 : UV MJ0_length_8abf5 RJ0 0 := ⟨by decide +kernel, by decide, inR_13 _ (List.mem_of_getElem? (i := 3) rfl), inR_13 _ (List.mem_of_getElem? (i := 4) rfl), inR_12 _ (List.mem_of_getElem? (i := 14) rfl), inR_13 _ (List.mem_of_getElem? (i := 5) rfl)⟩
theorem UVJ0_coder_7d493 : UV MJ0_coder_7d493 RJ0 0 := ⟨by decide +kernel, by decide, inR_13 _ (List.mem_of_getElem? (i := 8) rfl), inR_13 _ (List.mem_of_getElem? (i := 9) rfl), inR_12 _ (List.mem_of_getElem? (i := 14) rfl), inR_13 _ (List.mem_of_getElem? (i := 10) rfl)⟩
theorem UIJ5_putStringAt_47b60 : UI MJ5_putStringAt_47b60 RJ5 2 := ⟨by decide +kernel, by decide, inR_13 _ (List.mem_of_getElem? (i := 16) rfl), inR_9 _ (List.mem_of_getElem? (i := 1) rfl), inR_13 _ (List.mem_of_getElem? (i := 17) rfl)⟩
theorem UIJ5_inflateIfNeededFor_a7421 : UI MJ5_inflateIfNeededFor_a7421 RJ5 1 := ⟨by decide +kernel, by decide, inR_13 _ (List.mem_of_getElem? (i := 21) rfl), inR_9 _ (List.mem_of_getElem? (i := 1) rfl), inR_13 _ (List.mem_of_getElem? (i := 22) rfl)⟩
theorem UIJ5_inflate_da8c8 : UI MJ5_inflate_da8c8 RJ5 0 := ⟨by decide +kernel, by decide, inR_14 _ (List.mem_of_getElem? (i := 3) rfl), inR_9 _ (List.mem_of_getElem? (i := 1) rfl), inR_14 _ (List.mem_of_getElem? (i := 4) rfl)⟩
theorem USJ1_inflate_0e8fd : US MJ1_inflate_0e8fd RJ1 5 := ⟨by decide +kernel, by decide, inR_14 _ (List.mem_of_getElem? (i := 6) rfl), inR_14 _ (List.mem_of_getElem? (i := 7) rfl), inR_14 _ (List.mem_of_getElem? (i := 8) rfl)⟩
theorem USJ2_inflate_0e8fd : US MJ2_inflate_0e8fd RJ2 5 := ⟨by decide +kernel, by decide, inR_14 _ (List.mem_of_getElem? (i := 10) rfl), inR_9 _ (List.mem_of_getElem? (i := 9) rfl), inR_14 _ (List.mem_of_getElem? (i := 11) rfl)⟩
theorem USJ2_checkBoundsOffCount_d044e : US MJ2_checkBoundsOffCount_d044e RJ2 3 := ⟨by decide +kernel, by decide, inR_14 _ (List.mem_of_getElem? (i := 13) rfl), inR_9 _ (List.mem_of_getElem? (i := 9) rfl), inR_14 _ (List.mem_of_getElem? (i := 14) rfl)⟩
theorem USJ0_checkBoundsOffCount_cabcc : US MJ0_checkBoundsOffCount_cabcc RJ0 3 := ⟨by decide +kernel, by decide, inR_14 _ (List.mem_of_getElem? (i := 16) rfl), inR_12 _ (List.mem_of_getElem? (i := 14) rfl), inR_14 _ (List.mem_of_getElem? (i := 17) rfl)⟩
theorem USJ3_checkFromIndexSize_8c36e : US MJ3_checkFromIndexSize_8c36e RJ3 4 := ⟨by decide +kernel, by decide, inR_14 _ (List.mem_of_getElem? (i := 19) rfl), inR_12 _ (List.mem_of_getElem? (i := 19) rfl), inR_14 _ (List.mem_of_getElem? (i := 20) rfl)⟩
theorem UVJ0_getBytes_840e7 : UV MJ0_getBytes_840e7 RJ0 3 := ⟨by decide +kernel, by decide, inR_14 _ (List.mem_of_getElem? (i := 22) rfl), inR_14 _ (List.mem_of_getElem? (i := 23) rfl), inR_12 _ (List.mem_of_getElem? (i := 14) rfl), inR_15 _ (List.mem_of_getElem? (i := 0) rfl)⟩
theorem UVJ4_append_bf812 : UV MJ4_append_bf812 RJ4 1 := ⟨by decide +kernel, by decide, inR_15 _ (List.mem_of_getElem? (i := 4) rfl), inR_15 _ (List.mem_of_getElem? (i := 5) rfl), inR_8 _ (List.mem_of_getElem? (i := 8) rfl), inR_15 _ (List.mem_of_getElem? (i := 6) rfl)⟩
theorem UIJ5_append_c97b9 : UI MJ5_append_c97b9 RJ5 1 := ⟨by decide +kernel, by decide, inR_15 _ (List.mem_of_getElem? (i := 9) rfl), inR_9 _ (List.mem_of_getElem? (i := 1) rfl), inR_15 _ (List.mem_of_getElem? (i := 10) rfl)⟩
theorem USJ6_stringSize_0f7a4 : US MJ6_stringSize_0f7a4 RJ6 1 := ⟨by decide +kernel, by decide, inR_15 _ (List.mem_of_getElem? (i := 12) rfl), inR_15 _ (List.mem_of_getElem? (i := 13) rfl), inR_15 _ (List.mem_of_getElem? (i := 14) rfl)⟩
theorem USJ6_getChars_ba4f3 : US MJ6_getChars_ba4f3 RJ6 3 := ⟨by decide +kernel, by decide, inR_15 _ (List.mem_of_getElem? (i := 16) rfl), inR_15 _ (List.mem_of_getElem? (i := 13) rfl), inR_15 _ (List.mem_of_getElem? (i := 17) rfl)⟩
theorem USJ2_getChars_46870 : US MJ2_getChars_46870 RJ2 4 := ⟨by decide +kernel, by decide, inR_15 _ (List.mem_of_getElem? (i := 21) rfl), inR_9 _ (List.mem_of_getElem? (i := 9) rfl), inR_15 _ (List.mem_of_getElem? (i := 22) rfl)⟩
theorem USJ2_getChars_ba4f3 : US MJ2_getChars_ba4f3 RJ2 3 := ⟨by decide +kernel, by decide, inR_16 _ (List.mem_of_getElem? (i := 0) rfl), inR_9 _ (List.mem_of_getElem? (i := 9) rfl), inR_16 _ (List.mem_of_getElem? (i := 1) rfl)⟩
theorem UVJ4_toString_0e30d : UV MJ4_toString_0e30d RJ4 0 := ⟨by decide +kernel, by decide, inR_16 _ (List.mem_of_getElem? (i := 5) rfl), inR_16 _ (List.mem_of_getElem? (i := 6) rfl), inR_8 _ (List.mem_of_getElem? (i := 8) rfl), inR_16 _ (List.mem_of_getElem? (i := 7) rfl)⟩
theorem UIJ0_init_81219 : UI MJ0_init_81219 RJ0 1 := ⟨by decide +kernel, by decide, inR_16 _ (List.mem_of_getElem? (i := 11) rfl), inR_12 _ (List.mem_of_getElem? (i := 14) rfl), inR_16 _ (List.mem_of_getElem? (i := 12) rfl)⟩
theorem UIJ0_init_db425 : UI MJ0_init_db425 RJ0 2 := ⟨by decide +kernel, by decide, inR_16 _ (List.mem_of_getElem? (i := 14) rfl), inR_12 _ (List.mem_of_getElem? (i := 14) rfl), inR_16 _ (List.mem_of_getElem? (i := 15) rfl)⟩
theorem UIJ5_getValue_6d5f1 : UI MJ5_getValue_6d5f1 RJ5 0 := ⟨by decide +kernel, by decide, inR_16 _ (List.mem_of_getElem? (i := 21) rfl), inR_9 _ (List.mem_of_getElem? (i := 1) rfl), inR_16 _ (List.mem_of_getElem? (i := 22) rfl)⟩
theorem UIJ4_length_8abf5 : UI MJ4_length_8abf5 RJ4 0 := ⟨by decide +kernel, by decide, inR_17 _ (List.mem_of_getElem? (i := 3) rfl), inR_8 _ (List.mem_of_getElem? (i := 8) rfl), inR_17 _ (List.mem_of_getElem? (i := 4) rfl)⟩
theorem UIJ5_length_8abf5 : UI MJ5_length_8abf5 RJ5 0 := ⟨by decide +kernel, by decide, inR_17 _ (List.mem_of_getElem? (i := 6) rfl), inR_9 _ (List.mem_of_getElem? (i := 1) rfl), inR_17 _ (List.mem_of_getElem? (i := 7) rfl)⟩
theorem USJ7_copyOfRange_39247 : US MJ7_copyOfRange_39247 RJ7 3 := ⟨by decide +kernel, by decide, inR_17 _ (List.mem_of_getElem? (i := 10) rfl), inR_6 _ (List.mem_of_getElem? (i := 8) rfl), inR_17 _ (List.mem_of_getElem? (i := 11) rfl)⟩
theorem USJ7_copyOfRangeByte_39247 : US MJ7_copyOfRangeByte_39247 RJ7 3 := ⟨by decide +kernel, by decide, inR_17 _ (List.mem_of_getElem? (i := 13) rfl), inR_6 _ (List.mem_of_getElem? (i := 8) rfl), inR_17 _ (List.mem_of_getElem? (i := 14) rfl)⟩
theorem USJ7_checkLength_df160 : US MJ7_checkLength_df160 RJ7 2 := ⟨by decide +kernel, by decide, inR_17 _ (List.mem_of_getElem? (i := 16) rfl), inR_6 _ (List.mem_of_getElem? (i := 8) rfl), inR_17 _ (List.mem_of_getElem? (i := 17) rfl)⟩
theorem USJ2_compress_39247 : US MJ2_compress_39247 RJ2 3 := ⟨by decide +kernel, by decide, inR_17 _ (List.mem_of_getElem? (i := 19) rfl), inR_9 _ (List.mem_of_getElem? (i := 9) rfl), inR_17 _ (List.mem_of_getElem? (i := 20) rfl)⟩
theorem USJ2_compress_5af95 : US MJ2_compress_5af95 RJ2 5 := ⟨by decide +kernel, by decide, inR_17 _ (List.mem_of_getElem? (i := 22) rfl), inR_9 _ (List.mem_of_getElem? (i := 9) rfl), inR_17 _ (List.mem_of_getElem? (i := 23) rfl)⟩
theorem USJ2_getChar_3b067 : US MJ2_getChar_3b067 RJ2 2 := ⟨by decide +kernel, by decide, inR_18 _ (List.mem_of_getElem? (i := 1) rfl), inR_9 _ (List.mem_of_getElem? (i := 9) rfl), inR_18 _ (List.mem_of_getElem? (i := 2) rfl)⟩
theorem USJ2_coderFromArrayLen_85cad : US MJ2_coderFromArrayLen_85cad RJ2 2 := ⟨by decide +kernel, by decide, inR_18 _ (List.mem_of_getElem? (i := 5) rfl), inR_9 _ (List.mem_of_getElem? (i := 9) rfl), inR_18 _ (List.mem_of_getElem? (i := 6) rfl)⟩
theorem UVJ4_append_cf468 : UV MJ4_append_cf468 RJ4 1 := ⟨by decide +kernel, by decide, inR_18 _ (List.mem_of_getElem? (i := 8) rfl), inR_18 _ (List.mem_of_getElem? (i := 9) rfl), inR_8 _ (List.mem_of_getElem? (i := 8) rfl), inR_18 _ (List.mem_of_getElem? (i := 10) rfl)⟩
theorem UIJ5_append_3fe6f : UI MJ5_append_3fe6f RJ5 1 := ⟨by decide +kernel, by decide, inR_18 _ (List.mem_of_getElem? (i := 13) rfl), inR_9 _ (List.mem_of_getElem? (i := 1) rfl), inR_18 _ (List.mem_of_getElem? (i := 14) rfl)⟩
theorem USJ1_canEncode_fc78d : US MJ1_canEncode_fc78d RJ1 1 := ⟨by decide +kernel, by decide, inR_18 _ (List.mem_of_getElem? (i := 16) rfl), inR_14 _ (List.mem_of_getElem? (i := 7) rfl), inR_18 _ (List.mem_of_getElem? (i := 17) rfl)⟩
theorem USJ2_putCharSB_b72d1 : US MJ2_putCharSB_b72d1 RJ2 3 := ⟨by decide +kernel, by decide, inR_18 _ (List.mem_of_getElem? (i := 19) rfl), inR_9 _ (List.mem_of_getElem? (i := 9) rfl), inR_18 _ (List.mem_of_getElem? (i := 20) rfl)⟩
theorem USJ2_checkIndex_2214a : US MJ2_checkIndex_2214a RJ2 2 := ⟨by decide +kernel, by decide, inR_18 _ (List.mem_of_getElem? (i := 22) rfl), inR_9 _ (List.mem_of_getElem? (i := 9) rfl), inR_18 _ (List.mem_of_getElem? (i := 23) rfl)⟩
theorem USJ0_checkIndex_df160 : US MJ0_checkIndex_df160 RJ0 2 := ⟨by decide +kernel, by decide, inR_19 _ (List.mem_of_getElem? (i := 1) rfl), inR_12 _ (List.mem_of_getElem? (i := 14) rfl), inR_19 _ (List.mem_of_getElem? (i := 2) rfl)⟩
theorem USJ3_checkIndex_8e157 : US MJ3_checkIndex_8e157 RJ3 3 := ⟨by decide +kernel, by decide, inR_19 _ (List.mem_of_getElem? (i := 4) rfl), inR_12 _ (List.mem_of_getElem? (i := 19) rfl), inR_19 _ (List.mem_of_getElem? (i := 5) rfl)⟩
theorem UVL_span : UV ML_span RL 1 := ⟨by decide +kernel, by decide, inR_19 _ (List.mem_of_getElem? (i := 7) rfl), inR_19 _ (List.mem_of_getElem? (i := 8) rfl), inR_1 _ (List.mem_of_getElem? (i := 2) rfl), inR_19 _ (List.mem_of_getElem? (i := 9) rfl)⟩
theorem USL_load : US ML_load RL 2 := ⟨by decide +kernel, by decide, inR_19 _ (List.mem_of_getElem? (i := 11) rfl), inR_1 _ (List.mem_of_getElem? (i := 2) rfl), inR_19 _ (List.mem_of_getElem? (i := 12) rfl)⟩
theorem USL_four : US ML_four RL 2 := ⟨by decide +kernel, by decide, inR_19 _ (List.mem_of_getElem? (i := 15) rfl), inR_1 _ (List.mem_of_getElem? (i := 2) rfl), inR_19 _ (List.mem_of_getElem? (i := 16) rfl)⟩
theorem UVJ0_charAt_5068e : UV MJ0_charAt_5068e RJ0 1 := ⟨by decide +kernel, by decide, inR_19 _ (List.mem_of_getElem? (i := 18) rfl), inR_19 _ (List.mem_of_getElem? (i := 19) rfl), inR_12 _ (List.mem_of_getElem? (i := 14) rfl), inR_19 _ (List.mem_of_getElem? (i := 20) rfl)⟩
theorem UVJ0_isLatin1_aae02 : UV MJ0_isLatin1_aae02 RJ0 0 := ⟨by decide +kernel, by decide, inR_19 _ (List.mem_of_getElem? (i := 22) rfl), inR_19 _ (List.mem_of_getElem? (i := 23) rfl), inR_12 _ (List.mem_of_getElem? (i := 14) rfl), inR_20 _ (List.mem_of_getElem? (i := 0) rfl)⟩
theorem USJ1_charAt_3b067 : US MJ1_charAt_3b067 RJ1 2 := ⟨by decide +kernel, by decide, inR_20 _ (List.mem_of_getElem? (i := 2) rfl), inR_14 _ (List.mem_of_getElem? (i := 7) rfl), inR_20 _ (List.mem_of_getElem? (i := 3) rfl)⟩
theorem USJ2_charAt_3b067 : US MJ2_charAt_3b067 RJ2 2 := ⟨by decide +kernel, by decide, inR_20 _ (List.mem_of_getElem? (i := 6) rfl), inR_9 _ (List.mem_of_getElem? (i := 9) rfl), inR_20 _ (List.mem_of_getElem? (i := 7) rfl)⟩
theorem UVX11_feed : UV MX11_feed RX11 5 := ⟨by decide +kernel, by decide, inR_20 _ (List.mem_of_getElem? (i := 9) rfl), inR_20 _ (List.mem_of_getElem? (i := 10) rfl), inR_1 _ (List.mem_of_getElem? (i := 6) rfl), inR_20 _ (List.mem_of_getElem? (i := 11) rfl)⟩
theorem UVX9_hasRoomFor : UV MX9_hasRoomFor RX9 1 := ⟨by decide +kernel, by decide, inR_20 _ (List.mem_of_getElem? (i := 14) rfl), inR_20 _ (List.mem_of_getElem? (i := 15) rfl), inR_3 _ (List.mem_of_getElem? (i := 9) rfl), inR_20 _ (List.mem_of_getElem? (i := 16) rfl)⟩
theorem UVX9_append : UV MX9_append RX9 1 := ⟨by decide +kernel, by decide, inR_20 _ (List.mem_of_getElem? (i := 19) rfl), inR_20 _ (List.mem_of_getElem? (i := 20) rfl), inR_3 _ (List.mem_of_getElem? (i := 9) rfl), inR_20 _ (List.mem_of_getElem? (i := 21) rfl)⟩
theorem UVX9_size : UV MX9_size RX9 0 := ⟨by decide +kernel, by decide, inR_20 _ (List.mem_of_getElem? (i := 23) rfl), inR_21 _ (List.mem_of_getElem? (i := 0) rfl), inR_3 _ (List.mem_of_getElem? (i := 9) rfl), inR_21 _ (List.mem_of_getElem? (i := 1) rfl)⟩
theorem UVX11_load : UV MX11_load RX11 1 := ⟨by decide +kernel, by decide, inR_21 _ (List.mem_of_getElem? (i := 3) rfl), inR_21 _ (List.mem_of_getElem? (i := 4) rfl), inR_1 _ (List.mem_of_getElem? (i := 6) rfl), inR_21 _ (List.mem_of_getElem? (i := 5) rfl)⟩
theorem UVX5_read : UV MX5_read RX5 3 := ⟨by decide +kernel, by decide, inR_21 _ (List.mem_of_getElem? (i := 10) rfl), inR_21 _ (List.mem_of_getElem? (i := 11) rfl), inR_3 _ (List.mem_of_getElem? (i := 23) rfl), inR_21 _ (List.mem_of_getElem? (i := 12) rfl)⟩
theorem UVX6_start : UV MX6_start RX6 1 := ⟨by decide +kernel, by decide, inR_21 _ (List.mem_of_getElem? (i := 16) rfl), inR_21 _ (List.mem_of_getElem? (i := 17) rfl), inR_3 _ (List.mem_of_getElem? (i := 15) rfl), inR_21 _ (List.mem_of_getElem? (i := 18) rfl)⟩
theorem UVX6_followAll : UV MX6_followAll RX6 0 := ⟨by decide +kernel, by decide, inR_21 _ (List.mem_of_getElem? (i := 20) rfl), inR_21 _ (List.mem_of_getElem? (i := 21) rfl), inR_3 _ (List.mem_of_getElem? (i := 15) rfl), inR_21 _ (List.mem_of_getElem? (i := 22) rfl)⟩
theorem UVX6_follow : UV MX6_follow RX6 1 := ⟨by decide +kernel, by decide, inR_22 _ (List.mem_of_getElem? (i := 0) rfl), inR_22 _ (List.mem_of_getElem? (i := 1) rfl), inR_3 _ (List.mem_of_getElem? (i := 15) rfl), inR_22 _ (List.mem_of_getElem? (i := 2) rfl)⟩
theorem UVX6_isPainted : UV MX6_isPainted RX6 2 := ⟨by decide +kernel, by decide, inR_22 _ (List.mem_of_getElem? (i := 5) rfl), inR_22 _ (List.mem_of_getElem? (i := 6) rfl), inR_3 _ (List.mem_of_getElem? (i := 15) rfl), inR_22 _ (List.mem_of_getElem? (i := 7) rfl)⟩
theorem UVX3_clear : UV MX3_clear RX3 0 := ⟨by decide +kernel, by decide, inR_22 _ (List.mem_of_getElem? (i := 9) rfl), inR_22 _ (List.mem_of_getElem? (i := 10) rfl), inR_7 _ (List.mem_of_getElem? (i := 1) rfl), inR_22 _ (List.mem_of_getElem? (i := 11) rfl)⟩
theorem UVX10_begin : UV MX10_begin RX10 1 := ⟨by decide +kernel, by decide, inR_22 _ (List.mem_of_getElem? (i := 14) rfl), inR_22 _ (List.mem_of_getElem? (i := 15) rfl), inR_7 _ (List.mem_of_getElem? (i := 7) rfl), inR_22 _ (List.mem_of_getElem? (i := 16) rfl)⟩
theorem UVX10_next : UV MX10_next RX10 0 := ⟨by decide +kernel, by decide, inR_22 _ (List.mem_of_getElem? (i := 23) rfl), inR_23 _ (List.mem_of_getElem? (i := 0) rfl), inR_7 _ (List.mem_of_getElem? (i := 7) rfl), inR_23 _ (List.mem_of_getElem? (i := 1) rfl)⟩
theorem UVX10_takeLetters : UV MX10_takeLetters RX10 0 := ⟨by decide +kernel, by decide, inR_23 _ (List.mem_of_getElem? (i := 3) rfl), inR_23 _ (List.mem_of_getElem? (i := 4) rfl), inR_7 _ (List.mem_of_getElem? (i := 7) rfl), inR_23 _ (List.mem_of_getElem? (i := 5) rfl)⟩
theorem UVX10_takeDigits : UV MX10_takeDigits RX10 0 := ⟨by decide +kernel, by decide, inR_23 _ (List.mem_of_getElem? (i := 8) rfl), inR_23 _ (List.mem_of_getElem? (i := 9) rfl), inR_7 _ (List.mem_of_getElem? (i := 7) rfl), inR_23 _ (List.mem_of_getElem? (i := 10) rfl)⟩
theorem UVX5_readStatement : UV MX5_readStatement RX5 1 := ⟨by decide +kernel, by decide, inR_23 _ (List.mem_of_getElem? (i := 13) rfl), inR_23 _ (List.mem_of_getElem? (i := 14) rfl), inR_3 _ (List.mem_of_getElem? (i := 23) rfl), inR_23 _ (List.mem_of_getElem? (i := 15) rfl)⟩
theorem UVX5_failOnToken : UV MX5_failOnToken RX5 0 := ⟨by decide +kernel, by decide, inR_24 _ (List.mem_of_getElem? (i := 0) rfl), inR_24 _ (List.mem_of_getElem? (i := 1) rfl), inR_3 _ (List.mem_of_getElem? (i := 23) rfl), inR_24 _ (List.mem_of_getElem? (i := 2) rfl)⟩
theorem UVX5_readBridge : UV MX5_readBridge RX5 0 := ⟨by decide +kernel, by decide, inR_24 _ (List.mem_of_getElem? (i := 4) rfl), inR_24 _ (List.mem_of_getElem? (i := 5) rfl), inR_3 _ (List.mem_of_getElem? (i := 23) rfl), inR_24 _ (List.mem_of_getElem? (i := 6) rfl)⟩
theorem UVX5_number : UV MX5_number RX5 2 := ⟨by decide +kernel, by decide, inR_24 _ (List.mem_of_getElem? (i := 8) rfl), inR_24 _ (List.mem_of_getElem? (i := 9) rfl), inR_3 _ (List.mem_of_getElem? (i := 23) rfl), inR_24 _ (List.mem_of_getElem? (i := 10) rfl)⟩
theorem UVX5_fail : UV MX5_fail RX5 1 := ⟨by decide +kernel, by decide, inR_24 _ (List.mem_of_getElem? (i := 12) rfl), inR_24 _ (List.mem_of_getElem? (i := 13) rfl), inR_3 _ (List.mem_of_getElem? (i := 23) rfl), inR_24 _ (List.mem_of_getElem? (i := 14) rfl)⟩
theorem UVX5_semicolon : UV MX5_semicolon RX5 0 := ⟨by decide +kernel, by decide, inR_24 _ (List.mem_of_getElem? (i := 16) rfl), inR_24 _ (List.mem_of_getElem? (i := 17) rfl), inR_3 _ (List.mem_of_getElem? (i := 23) rfl), inR_24 _ (List.mem_of_getElem? (i := 18) rfl)⟩
theorem UVX5_readLane : UV MX5_readLane RX5 0 := ⟨by decide +kernel, by decide, inR_24 _ (List.mem_of_getElem? (i := 20) rfl), inR_24 _ (List.mem_of_getElem? (i := 21) rfl), inR_3 _ (List.mem_of_getElem? (i := 23) rfl), inR_24 _ (List.mem_of_getElem? (i := 22) rfl)⟩
theorem UVX5_newName : UV MX5_newName RX5 0 := ⟨by decide +kernel, by decide, inR_25 _ (List.mem_of_getElem? (i := 1) rfl), inR_25 _ (List.mem_of_getElem? (i := 2) rfl), inR_3 _ (List.mem_of_getElem? (i := 23) rfl), inR_25 _ (List.mem_of_getElem? (i := 3) rfl)⟩
theorem USX5_isReserved : US MX5_isReserved RX5 1 := ⟨by decide +kernel, by decide, inR_25 _ (List.mem_of_getElem? (i := 5) rfl), inR_3 _ (List.mem_of_getElem? (i := 23) rfl), inR_25 _ (List.mem_of_getElem? (i := 6) rfl)⟩
theorem UVX3_isDeclared : UV MX3_isDeclared RX3 1 := ⟨by decide +kernel, by decide, inR_25 _ (List.mem_of_getElem? (i := 9) rfl), inR_25 _ (List.mem_of_getElem? (i := 10) rfl), inR_7 _ (List.mem_of_getElem? (i := 1) rfl), inR_25 _ (List.mem_of_getElem? (i := 11) rfl)⟩
theorem UVX3_add : UV MX3_add RX3 3 := ⟨by decide +kernel, by decide, inR_25 _ (List.mem_of_getElem? (i := 13) rfl), inR_25 _ (List.mem_of_getElem? (i := 14) rfl), inR_7 _ (List.mem_of_getElem? (i := 1) rfl), inR_25 _ (List.mem_of_getElem? (i := 15) rfl)⟩
theorem UVX1_addLane : UV MX1_addLane RX1 1 := ⟨by decide +kernel, by decide, inR_25 _ (List.mem_of_getElem? (i := 17) rfl), inR_25 _ (List.mem_of_getElem? (i := 18) rfl), inR_3 _ (List.mem_of_getElem? (i := 12) rfl), inR_25 _ (List.mem_of_getElem? (i := 19) rfl)⟩
theorem UVX5_readSpan : UV MX5_readSpan RX5 0 := ⟨by decide +kernel, by decide, inR_25 _ (List.mem_of_getElem? (i := 21) rfl), inR_25 _ (List.mem_of_getElem? (i := 22) rfl), inR_3 _ (List.mem_of_getElem? (i := 23) rfl), inR_25 _ (List.mem_of_getElem? (i := 23) rfl)⟩
theorem UVX5_laneOrNone : UV MX5_laneOrNone RX5 0 := ⟨by decide +kernel, by decide, inR_26 _ (List.mem_of_getElem? (i := 1) rfl), inR_26 _ (List.mem_of_getElem? (i := 2) rfl), inR_3 _ (List.mem_of_getElem? (i := 23) rfl), inR_26 _ (List.mem_of_getElem? (i := 3) rfl)⟩
theorem UVX5_thisName : UV MX5_thisName RX5 1 := ⟨by decide +kernel, by decide, inR_26 _ (List.mem_of_getElem? (i := 5) rfl), inR_26 _ (List.mem_of_getElem? (i := 6) rfl), inR_3 _ (List.mem_of_getElem? (i := 23) rfl), inR_26 _ (List.mem_of_getElem? (i := 7) rfl)⟩
theorem UVX3_numberOf : UV MX3_numberOf RX3 2 := ⟨by decide +kernel, by decide, inR_26 _ (List.mem_of_getElem? (i := 9) rfl), inR_26 _ (List.mem_of_getElem? (i := 10) rfl), inR_7 _ (List.mem_of_getElem? (i := 1) rfl), inR_26 _ (List.mem_of_getElem? (i := 11) rfl)⟩
theorem UVX1_addSpan : UV MX1_addSpan RX1 5 := ⟨by decide +kernel, by decide, inR_26 _ (List.mem_of_getElem? (i := 13) rfl), inR_26 _ (List.mem_of_getElem? (i := 14) rfl), inR_3 _ (List.mem_of_getElem? (i := 12) rfl), inR_26 _ (List.mem_of_getElem? (i := 15) rfl)⟩
theorem UVX5_readGang : UV MX5_readGang RX5 0 := ⟨by decide +kernel, by decide, inR_26 _ (List.mem_of_getElem? (i := 17) rfl), inR_26 _ (List.mem_of_getElem? (i := 18) rfl), inR_3 _ (List.mem_of_getElem? (i := 23) rfl), inR_26 _ (List.mem_of_getElem? (i := 19) rfl)⟩
theorem UVX1_addGang : UV MX1_addGang RX1 2 := ⟨by decide +kernel, by decide, inR_26 _ (List.mem_of_getElem? (i := 21) rfl), inR_26 _ (List.mem_of_getElem? (i := 22) rfl), inR_3 _ (List.mem_of_getElem? (i := 12) rfl), inR_26 _ (List.mem_of_getElem? (i := 23) rfl)⟩
theorem UVX5_readWeather : UV MX5_readWeather RX5 0 := ⟨by decide +kernel, by decide, inR_27 _ (List.mem_of_getElem? (i := 1) rfl), inR_27 _ (List.mem_of_getElem? (i := 2) rfl), inR_3 _ (List.mem_of_getElem? (i := 23) rfl), inR_27 _ (List.mem_of_getElem? (i := 3) rfl)⟩
theorem UVX5_readClosed : UV MX5_readClosed RX5 0 := ⟨by decide +kernel, by decide, inR_27 _ (List.mem_of_getElem? (i := 5) rfl), inR_27 _ (List.mem_of_getElem? (i := 6) rfl), inR_3 _ (List.mem_of_getElem? (i := 23) rfl), inR_27 _ (List.mem_of_getElem? (i := 7) rfl)⟩
theorem UVX5_knownName : UV MX5_knownName RX5 1 := ⟨by decide +kernel, by decide, inR_27 _ (List.mem_of_getElem? (i := 9) rfl), inR_27 _ (List.mem_of_getElem? (i := 10) rfl), inR_3 _ (List.mem_of_getElem? (i := 23) rfl), inR_27 _ (List.mem_of_getElem? (i := 11) rfl)⟩
theorem UVX5_readPainting : UV MX5_readPainting RX5 0 := ⟨by decide +kernel, by decide, inR_27 _ (List.mem_of_getElem? (i := 13) rfl), inR_27 _ (List.mem_of_getElem? (i := 14) rfl), inR_3 _ (List.mem_of_getElem? (i := 23) rfl), inR_27 _ (List.mem_of_getElem? (i := 15) rfl)⟩
theorem UVX6_put : UV MX6_put RX6 3 := ⟨by decide +kernel, by decide, inR_27 _ (List.mem_of_getElem? (i := 18) rfl), inR_27 _ (List.mem_of_getElem? (i := 19) rfl), inR_3 _ (List.mem_of_getElem? (i := 15) rfl), inR_27 _ (List.mem_of_getElem? (i := 20) rfl)⟩
theorem UVX5_failureKind : UV MX5_failureKind RX5 0 := ⟨by decide +kernel, by decide, inR_27 _ (List.mem_of_getElem? (i := 23) rfl), inR_28 _ (List.mem_of_getElem? (i := 0) rfl), inR_3 _ (List.mem_of_getElem? (i := 23) rfl), inR_28 _ (List.mem_of_getElem? (i := 1) rfl)⟩
theorem UVX5_failurePosition : UV MX5_failurePosition RX5 0 := ⟨by decide +kernel, by decide, inR_28 _ (List.mem_of_getElem? (i := 3) rfl), inR_28 _ (List.mem_of_getElem? (i := 4) rfl), inR_3 _ (List.mem_of_getElem? (i := 23) rfl), inR_28 _ (List.mem_of_getElem? (i := 5) rfl)⟩
theorem UVX9_clear : UV MX9_clear RX9 0 := ⟨by decide +kernel, by decide, inR_28 _ (List.mem_of_getElem? (i := 7) rfl), inR_28 _ (List.mem_of_getElem? (i := 8) rfl), inR_3 _ (List.mem_of_getElem? (i := 9) rfl), inR_28 _ (List.mem_of_getElem? (i := 9) rfl)⟩
theorem UVX11_takeDraft : UV MX11_takeDraft RX11 0 := ⟨by decide +kernel, by decide, inR_28 _ (List.mem_of_getElem? (i := 11) rfl), inR_28 _ (List.mem_of_getElem? (i := 12) rfl), inR_1 _ (List.mem_of_getElem? (i := 6) rfl), inR_28 _ (List.mem_of_getElem? (i := 13) rfl)⟩
theorem UVX2_clear : UV MX2_clear RX2 0 := ⟨by decide +kernel, by decide, inR_28 _ (List.mem_of_getElem? (i := 15) rfl), inR_28 _ (List.mem_of_getElem? (i := 16) rfl), inR_2 _ (List.mem_of_getElem? (i := 22) rfl), inR_28 _ (List.mem_of_getElem? (i := 17) rfl)⟩
theorem UVX11_errorKind : UV MX11_errorKind RX11 0 := ⟨by decide +kernel, by decide, inR_28 _ (List.mem_of_getElem? (i := 20) rfl), inR_28 _ (List.mem_of_getElem? (i := 21) rfl), inR_1 _ (List.mem_of_getElem? (i := 6) rfl), inR_28 _ (List.mem_of_getElem? (i := 22) rfl)⟩
theorem UVX11_paintings : UV MX11_paintings RX11 0 := ⟨by decide +kernel, by decide, inR_29 _ (List.mem_of_getElem? (i := 0) rfl), inR_29 _ (List.mem_of_getElem? (i := 1) rfl), inR_1 _ (List.mem_of_getElem? (i := 6) rfl), inR_29 _ (List.mem_of_getElem? (i := 2) rfl)⟩
theorem UVX6_countPaintings : UV MX6_countPaintings RX6 0 := ⟨by decide +kernel, by decide, inR_29 _ (List.mem_of_getElem? (i := 4) rfl), inR_29 _ (List.mem_of_getElem? (i := 5) rfl), inR_3 _ (List.mem_of_getElem? (i := 15) rfl), inR_29 _ (List.mem_of_getElem? (i := 6) rfl)⟩
theorem UVL_refused : UV ML_refused RL 3 := ⟨by decide +kernel, by decide, inR_29 _ (List.mem_of_getElem? (i := 9) rfl), inR_29 _ (List.mem_of_getElem? (i := 10) rfl), inR_1 _ (List.mem_of_getElem? (i := 2) rfl), inR_29 _ (List.mem_of_getElem? (i := 11) rfl)⟩
theorem UVL_load_ : UV ML_load_ RL 2 := ⟨by decide +kernel, by decide, inR_29 _ (List.mem_of_getElem? (i := 14) rfl), inR_29 _ (List.mem_of_getElem? (i := 15) rfl), inR_1 _ (List.mem_of_getElem? (i := 2) rfl), inR_29 _ (List.mem_of_getElem? (i := 16) rfl)⟩
theorem UVL_effort : UV ML_effort RL 2 := ⟨by decide +kernel, by decide, inR_29 _ (List.mem_of_getElem? (i := 18) rfl), inR_29 _ (List.mem_of_getElem? (i := 19) rfl), inR_1 _ (List.mem_of_getElem? (i := 2) rfl), inR_29 _ (List.mem_of_getElem? (i := 20) rfl)⟩
theorem UVL_begin : UV ML_begin RL 2 := ⟨by decide +kernel, by decide, inR_29 _ (List.mem_of_getElem? (i := 22) rfl), inR_29 _ (List.mem_of_getElem? (i := 23) rfl), inR_1 _ (List.mem_of_getElem? (i := 2) rfl), inR_30 _ (List.mem_of_getElem? (i := 0) rfl)⟩
theorem UVL_end : UV ML_end RL 2 := ⟨by decide +kernel, by decide, inR_30 _ (List.mem_of_getElem? (i := 3) rfl), inR_30 _ (List.mem_of_getElem? (i := 4) rfl), inR_1 _ (List.mem_of_getElem? (i := 2) rfl), inR_30 _ (List.mem_of_getElem? (i := 5) rfl)⟩
theorem UVX11_refusal : UV MX11_refusal RX11 3 := ⟨by decide +kernel, by decide, inR_30 _ (List.mem_of_getElem? (i := 8) rfl), inR_30 _ (List.mem_of_getElem? (i := 9) rfl), inR_1 _ (List.mem_of_getElem? (i := 6) rfl), inR_30 _ (List.mem_of_getElem? (i := 10) rfl)⟩
theorem UVX11_checkYear : UV MX11_checkYear RX11 1 := ⟨by decide +kernel, by decide, inR_30 _ (List.mem_of_getElem? (i := 12) rfl), inR_30 _ (List.mem_of_getElem? (i := 13) rfl), inR_1 _ (List.mem_of_getElem? (i := 6) rfl), inR_30 _ (List.mem_of_getElem? (i := 14) rfl)⟩
theorem UVX11_checkSpan : UV MX11_checkSpan RX11 1 := ⟨by decide +kernel, by decide, inR_30 _ (List.mem_of_getElem? (i := 18) rfl), inR_30 _ (List.mem_of_getElem? (i := 19) rfl), inR_1 _ (List.mem_of_getElem? (i := 6) rfl), inR_30 _ (List.mem_of_getElem? (i := 20) rfl)⟩
theorem UVX11_checkGang : UV MX11_checkGang RX11 1 := ⟨by decide +kernel, by decide, inR_30 _ (List.mem_of_getElem? (i := 22) rfl), inR_30 _ (List.mem_of_getElem? (i := 23) rfl), inR_1 _ (List.mem_of_getElem? (i := 6) rfl), inR_31 _ (List.mem_of_getElem? (i := 0) rfl)⟩
theorem UVX6_reasonAgainst : UV MX6_reasonAgainst RX6 3 := ⟨by decide +kernel, by decide, inR_31 _ (List.mem_of_getElem? (i := 2) rfl), inR_31 _ (List.mem_of_getElem? (i := 3) rfl), inR_3 _ (List.mem_of_getElem? (i := 15) rfl), inR_31 _ (List.mem_of_getElem? (i := 4) rfl)⟩
theorem UVX1_isClosed : UV MX1_isClosed RX1 2 := ⟨by decide +kernel, by decide, inR_31 _ (List.mem_of_getElem? (i := 6) rfl), inR_31 _ (List.mem_of_getElem? (i := 7) rfl), inR_3 _ (List.mem_of_getElem? (i := 12) rfl), inR_31 _ (List.mem_of_getElem? (i := 8) rfl)⟩
theorem UVX6_shutLanes : UV MX6_shutLanes RX6 1 := ⟨by decide +kernel, by decide, inR_31 _ (List.mem_of_getElem? (i := 10) rfl), inR_31 _ (List.mem_of_getElem? (i := 11) rfl), inR_3 _ (List.mem_of_getElem? (i := 15) rfl), inR_31 _ (List.mem_of_getElem? (i := 12) rfl)⟩
theorem USJ6_bitCount_0f7a4 : US MJ6_bitCount_0f7a4 RJ6 1 := ⟨by decide +kernel, by decide, inR_31 _ (List.mem_of_getElem? (i := 14) rfl), inR_15 _ (List.mem_of_getElem? (i := 13) rfl), inR_31 _ (List.mem_of_getElem? (i := 15) rfl)⟩
theorem UVX6_gangLoad : UV MX6_gangLoad RX6 2 := ⟨by decide +kernel, by decide, inR_31 _ (List.mem_of_getElem? (i := 20) rfl), inR_31 _ (List.mem_of_getElem? (i := 21) rfl), inR_3 _ (List.mem_of_getElem? (i := 15) rfl), inR_31 _ (List.mem_of_getElem? (i := 22) rfl)⟩
theorem UVX6_painter : UV MX6_painter RX6 2 := ⟨by decide +kernel, by decide, inR_32 _ (List.mem_of_getElem? (i := 0) rfl), inR_32 _ (List.mem_of_getElem? (i := 1) rfl), inR_3 _ (List.mem_of_getElem? (i := 15) rfl), inR_32 _ (List.mem_of_getElem? (i := 2) rfl)⟩
theorem UVX6_spanEffort : UV MX6_spanEffort RX6 2 := ⟨by decide +kernel, by decide, inR_32 _ (List.mem_of_getElem? (i := 4) rfl), inR_32 _ (List.mem_of_getElem? (i := 5) rfl), inR_3 _ (List.mem_of_getElem? (i := 15) rfl), inR_32 _ (List.mem_of_getElem? (i := 6) rfl)⟩
theorem UVX1_gangCapacity : UV MX1_gangCapacity RX1 2 := ⟨by decide +kernel, by decide, inR_32 _ (List.mem_of_getElem? (i := 8) rfl), inR_32 _ (List.mem_of_getElem? (i := 9) rfl), inR_3 _ (List.mem_of_getElem? (i := 12) rfl), inR_32 _ (List.mem_of_getElem? (i := 10) rfl)⟩
theorem UVX11_paint : UV MX11_paint RX11 3 := ⟨by decide +kernel, by decide, inR_32 _ (List.mem_of_getElem? (i := 12) rfl), inR_32 _ (List.mem_of_getElem? (i := 13) rfl), inR_1 _ (List.mem_of_getElem? (i := 6) rfl), inR_32 _ (List.mem_of_getElem? (i := 14) rfl)⟩
theorem UVX11_remember : UV MX11_remember RX11 0 := ⟨by decide +kernel, by decide, inR_32 _ (List.mem_of_getElem? (i := 17) rfl), inR_32 _ (List.mem_of_getElem? (i := 18) rfl), inR_1 _ (List.mem_of_getElem? (i := 6) rfl), inR_32 _ (List.mem_of_getElem? (i := 19) rfl)⟩
theorem UVX2_keep : UV MX2_keep RX2 2 := ⟨by decide +kernel, by decide, inR_32 _ (List.mem_of_getElem? (i := 21) rfl), inR_32 _ (List.mem_of_getElem? (i := 22) rfl), inR_2 _ (List.mem_of_getElem? (i := 22) rfl), inR_32 _ (List.mem_of_getElem? (i := 23) rfl)⟩
theorem UVX1_saveTo : UV MX1_saveTo RX1 1 := ⟨by decide +kernel, by decide, inR_33 _ (List.mem_of_getElem? (i := 2) rfl), inR_33 _ (List.mem_of_getElem? (i := 3) rfl), inR_3 _ (List.mem_of_getElem? (i := 12) rfl), inR_33 _ (List.mem_of_getElem? (i := 4) rfl)⟩
theorem UVX6_saveTo : UV MX6_saveTo RX6 1 := ⟨by decide +kernel, by decide, inR_33 _ (List.mem_of_getElem? (i := 7) rfl), inR_33 _ (List.mem_of_getElem? (i := 8) rfl), inR_3 _ (List.mem_of_getElem? (i := 15) rfl), inR_33 _ (List.mem_of_getElem? (i := 9) rfl)⟩
theorem UVX6_countPast : UV MX6_countPast RX6 0 := ⟨by decide +kernel, by decide, inR_33 _ (List.mem_of_getElem? (i := 13) rfl), inR_33 _ (List.mem_of_getElem? (i := 14) rfl), inR_3 _ (List.mem_of_getElem? (i := 15) rfl), inR_33 _ (List.mem_of_getElem? (i := 15) rfl)⟩
theorem UVX6_firstPast : UV MX6_firstPast RX6 1 := ⟨by decide +kernel, by decide, inR_33 _ (List.mem_of_getElem? (i := 18) rfl), inR_33 _ (List.mem_of_getElem? (i := 19) rfl), inR_3 _ (List.mem_of_getElem? (i := 15) rfl), inR_33 _ (List.mem_of_getElem? (i := 20) rfl)⟩
theorem UVX6_isPast : UV MX6_isPast RX6 2 := ⟨by decide +kernel, by decide, inR_33 _ (List.mem_of_getElem? (i := 22) rfl), inR_33 _ (List.mem_of_getElem? (i := 23) rfl), inR_3 _ (List.mem_of_getElem? (i := 15) rfl), inR_34 _ (List.mem_of_getElem? (i := 0) rfl)⟩
theorem UVL_isSame : UV ML_isSame RL 1 := ⟨by decide +kernel, by decide, inR_34 _ (List.mem_of_getElem? (i := 2) rfl), inR_34 _ (List.mem_of_getElem? (i := 3) rfl), inR_1 _ (List.mem_of_getElem? (i := 2) rfl), inR_34 _ (List.mem_of_getElem? (i := 4) rfl)⟩
theorem UVX11_rustAfter : UV MX11_rustAfter RX11 2 := ⟨by decide +kernel, by decide, inR_34 _ (List.mem_of_getElem? (i := 6) rfl), inR_34 _ (List.mem_of_getElem? (i := 7) rfl), inR_1 _ (List.mem_of_getElem? (i := 6) rfl), inR_34 _ (List.mem_of_getElem? (i := 8) rfl)⟩
theorem UVX6_rustAtEnd : UV MX6_rustAtEnd RX6 2 := ⟨by decide +kernel, by decide, inR_34 _ (List.mem_of_getElem? (i := 10) rfl), inR_34 _ (List.mem_of_getElem? (i := 11) rfl), inR_3 _ (List.mem_of_getElem? (i := 15) rfl), inR_34 _ (List.mem_of_getElem? (i := 12) rfl)⟩
theorem UVX11_rustBefore : UV MX11_rustBefore RX11 2 := ⟨by decide +kernel, by decide, inR_34 _ (List.mem_of_getElem? (i := 14) rfl), inR_34 _ (List.mem_of_getElem? (i := 15) rfl), inR_1 _ (List.mem_of_getElem? (i := 6) rfl), inR_34 _ (List.mem_of_getElem? (i := 16) rfl)⟩
theorem UVX6_rustAtStart : UV MX6_rustAtStart RX6 2 := ⟨by decide +kernel, by decide, inR_34 _ (List.mem_of_getElem? (i := 18) rfl), inR_34 _ (List.mem_of_getElem? (i := 19) rfl), inR_3 _ (List.mem_of_getElem? (i := 15) rfl), inR_34 _ (List.mem_of_getElem? (i := 20) rfl)⟩
theorem UVX11_guardLeft : UV MX11_guardLeft RX11 2 := ⟨by decide +kernel, by decide, inR_34 _ (List.mem_of_getElem? (i := 22) rfl), inR_34 _ (List.mem_of_getElem? (i := 23) rfl), inR_1 _ (List.mem_of_getElem? (i := 6) rfl), inR_35 _ (List.mem_of_getElem? (i := 0) rfl)⟩
theorem UVX6_guardAtStart : UV MX6_guardAtStart RX6 2 := ⟨by decide +kernel, by decide, inR_35 _ (List.mem_of_getElem? (i := 2) rfl), inR_35 _ (List.mem_of_getElem? (i := 3) rfl), inR_3 _ (List.mem_of_getElem? (i := 15) rfl), inR_35 _ (List.mem_of_getElem? (i := 4) rfl)⟩
theorem UVX11_effort : UV MX11_effort RX11 2 := ⟨by decide +kernel, by decide, inR_35 _ (List.mem_of_getElem? (i := 6) rfl), inR_35 _ (List.mem_of_getElem? (i := 7) rfl), inR_1 _ (List.mem_of_getElem? (i := 6) rfl), inR_35 _ (List.mem_of_getElem? (i := 8) rfl)⟩
theorem UVX11_pastYear : UV MX11_pastYear RX11 1 := ⟨by decide +kernel, by decide, inR_35 _ (List.mem_of_getElem? (i := 11) rfl), inR_35 _ (List.mem_of_getElem? (i := 12) rfl), inR_1 _ (List.mem_of_getElem? (i := 6) rfl), inR_35 _ (List.mem_of_getElem? (i := 13) rfl)⟩
theorem UVX11_loadOf : UV MX11_loadOf RX11 2 := ⟨by decide +kernel, by decide, inR_35 _ (List.mem_of_getElem? (i := 16) rfl), inR_35 _ (List.mem_of_getElem? (i := 17) rfl), inR_1 _ (List.mem_of_getElem? (i := 6) rfl), inR_35 _ (List.mem_of_getElem? (i := 18) rfl)⟩
theorem UVX11_capacity : UV MX11_capacity RX11 2 := ⟨by decide +kernel, by decide, inR_35 _ (List.mem_of_getElem? (i := 21) rfl), inR_35 _ (List.mem_of_getElem? (i := 22) rfl), inR_1 _ (List.mem_of_getElem? (i := 6) rfl), inR_35 _ (List.mem_of_getElem? (i := 23) rfl)⟩
theorem UVX11_undo : UV MX11_undo RX11 0 := ⟨by decide +kernel, by decide, inR_36 _ (List.mem_of_getElem? (i := 2) rfl), inR_36 _ (List.mem_of_getElem? (i := 3) rfl), inR_1 _ (List.mem_of_getElem? (i := 6) rfl), inR_36 _ (List.mem_of_getElem? (i := 4) rfl)⟩
theorem UVX2_isEmpty : UV MX2_isEmpty RX2 0 := ⟨by decide +kernel, by decide, inR_36 _ (List.mem_of_getElem? (i := 6) rfl), inR_36 _ (List.mem_of_getElem? (i := 7) rfl), inR_2 _ (List.mem_of_getElem? (i := 22) rfl), inR_36 _ (List.mem_of_getElem? (i := 8) rfl)⟩
theorem UVX2_takeBack : UV MX2_takeBack RX2 2 := ⟨by decide +kernel, by decide, inR_36 _ (List.mem_of_getElem? (i := 10) rfl), inR_36 _ (List.mem_of_getElem? (i := 11) rfl), inR_2 _ (List.mem_of_getElem? (i := 22) rfl), inR_36 _ (List.mem_of_getElem? (i := 12) rfl)⟩
theorem UVX1_restoreFrom : UV MX1_restoreFrom RX1 1 := ⟨by decide +kernel, by decide, inR_36 _ (List.mem_of_getElem? (i := 14) rfl), inR_36 _ (List.mem_of_getElem? (i := 15) rfl), inR_3 _ (List.mem_of_getElem? (i := 12) rfl), inR_36 _ (List.mem_of_getElem? (i := 16) rfl)⟩
theorem UVX6_restoreFrom : UV MX6_restoreFrom RX6 1 := ⟨by decide +kernel, by decide, inR_36 _ (List.mem_of_getElem? (i := 18) rfl), inR_36 _ (List.mem_of_getElem? (i := 19) rfl), inR_3 _ (List.mem_of_getElem? (i := 15) rfl), inR_36 _ (List.mem_of_getElem? (i := 20) rfl)⟩
theorem UVX2_size : UV MX2_size RX2 0 := ⟨by decide +kernel, by decide, inR_36 _ (List.mem_of_getElem? (i := 22) rfl), inR_36 _ (List.mem_of_getElem? (i := 23) rfl), inR_2 _ (List.mem_of_getElem? (i := 22) rfl), inR_37 _ (List.mem_of_getElem? (i := 0) rfl)⟩
theorem LK_L_138 : Cond.methodLink RL 138 yL_init ∈ wsL_law := inR_1 _ (List.mem_of_getElem? (i := 12) rfl)
theorem LK_L_1 : Cond.methodLink RL 1 objectInit ∈ wsL_law := inR_1 _ (List.mem_of_getElem? (i := 15) rfl)
theorem LK_L_139 : Cond.methodLink RL 139 yX11_init ∈ wsL_law := inR_2 _ (List.mem_of_getElem? (i := 4) rfl)
theorem LK_X11_3 : Cond.methodLink RX11 3 objectInit ∈ wsL_law := inR_2 _ (List.mem_of_getElem? (i := 7) rfl)
theorem LK_X0_3 : Cond.methodLink RX0 3 objectInit ∈ wsL_law := inR_4 _ (List.mem_of_getElem? (i := 3) rfl)
theorem LK_X7_3 : Cond.methodLink RX7 3 objectInit ∈ wsL_law := inR_4 _ (List.mem_of_getElem? (i := 8) rfl)
theorem LK_X8_3 : Cond.methodLink RX8 3 objectInit ∈ wsL_law := inR_4 _ (List.mem_of_getElem? (i := 12) rfl)
theorem LK_X2_1 : Cond.methodLink RX2 1 objectInit ∈ wsL_law := inR_4 _ (List.mem_of_getElem? (i := 17) rfl)
theorem LK_X4_1 : Cond.methodLink RX4 1 objectInit ∈ wsL_law := inR_4 _ (List.mem_of_getElem? (i := 23) rfl)
theorem LK_X9_3 : Cond.methodLink RX9 3 objectInit ∈ wsL_law := inR_5 _ (List.mem_of_getElem? (i := 4) rfl)
theorem LK_X11_57 : Cond.methodLink RX11 57 yX1_init ∈ wsL_law := inR_5 _ (List.mem_of_getElem? (i := 6) rfl)
theorem LK_X1_5 : Cond.methodLink RX1 5 objectInit ∈ wsL_law := inR_5 _ (List.mem_of_getElem? (i := 9) rfl)
theorem LK_X1_42 : Cond.methodLink RX1 42 yX1_reset ∈ wsL_law := inR_5 _ (List.mem_of_getElem? (i := 20) rfl)
theorem LK_X1_64 : Cond.methodLink RX1 64 yJ7_fill_53178 ∈ wsL_law := inR_6 _ (List.mem_of_getElem? (i := 6) rfl)
theorem LK_X11_60 : Cond.methodLink RX11 60 yX6_init ∈ wsL_law := inR_6 _ (List.mem_of_getElem? (i := 10) rfl)
theorem LK_X6_3 : Cond.methodLink RX6 3 objectInit ∈ wsL_law := inR_6 _ (List.mem_of_getElem? (i := 13) rfl)
theorem LK_X6_25 : Cond.methodLink RX6 25 yJ7_fill_53178 ∈ wsL_law := inR_6 _ (List.mem_of_getElem? (i := 18) rfl)
theorem LK_X11_83 : Cond.methodLink RX11 83 yX5_init ∈ wsL_law := inR_6 _ (List.mem_of_getElem? (i := 19) rfl)
theorem LK_X5_3 : Cond.methodLink RX5 3 objectInit ∈ wsL_law := inR_6 _ (List.mem_of_getElem? (i := 22) rfl)
theorem LK_X3_3 : Cond.methodLink RX3 3 objectInit ∈ wsL_law := inR_7 _ (List.mem_of_getElem? (i := 13) rfl)
theorem LK_X5_25 : Cond.methodLink RX5 25 yX10_init ∈ wsL_law := inR_7 _ (List.mem_of_getElem? (i := 18) rfl)
theorem LK_X10_1 : Cond.methodLink RX10 1 objectInit ∈ wsL_law := inR_7 _ (List.mem_of_getElem? (i := 21) rfl)
theorem LK_L_140 : Cond.methodLink RL 140 yL_bridge ∈ wsL_law := inR_7 _ (List.mem_of_getElem? (i := 23) rfl)
theorem LK_L_78 : Cond.methodLink RL 78 yL_chosen ∈ wsL_law := inR_8 _ (List.mem_of_getElem? (i := 9) rfl)
theorem LK_L_70 : Cond.methodLink RL 70 yL_cell ∈ wsL_law := inR_8 _ (List.mem_of_getElem? (i := 14) rfl)
theorem LK_L_74 : Cond.methodLink RL 74 yL_among ∈ wsL_law := inR_8 _ (List.mem_of_getElem? (i := 17) rfl)
theorem LK_L_101 : Cond.methodLink RL 101 yJ4_init_da8c8 ∈ wsL_law := inR_8 _ (List.mem_of_getElem? (i := 20) rfl)
theorem LK_J4_1 : Cond.methodLink RJ4 1 yJ5_init_d00df ∈ wsL_law := inR_8 _ (List.mem_of_getElem? (i := 23) rfl)
theorem LK_J5_3 : Cond.methodLink RJ5 3 objectInit ∈ wsL_law := inR_9 _ (List.mem_of_getElem? (i := 3) rfl)
theorem LK_J5_26 : Cond.methodLink RJ5 26 yJ2_newBytesFor_77867 ∈ wsL_law := inR_9 _ (List.mem_of_getElem? (i := 7) rfl)
theorem LK_J2_11 : Cond.methodLink RJ2 11 yJ2_newBytesLength_0f7a4 ∈ wsL_law := inR_9 _ (List.mem_of_getElem? (i := 11) rfl)
theorem LK_L_104 : Cond.methodLink RL 104 yJ4_append_15ec4 ∈ wsL_law := inR_9 _ (List.mem_of_getElem? (i := 15) rfl)
theorem LK_J4_29 : Cond.methodLink RJ4 29 yJ5_append_cf1ce ∈ wsL_law := inR_9 _ (List.mem_of_getElem? (i := 19) rfl)
theorem LK_J5_204 : Cond.methodLink RJ5 204 ⟨"java/lang/AbstractStringBuilder", "appendNull", "()Ljava/lang/AbstractStringBuilder;"⟩ ∈ wsL_law := inR_10 _ (List.mem_of_getElem? (i := 1) rfl)
theorem LK_J5_100 : Cond.methodLink RJ5 100 ⟨"java/lang/AbstractStringBuilder", "ensureCapacityInternal", "(I)V"⟩ ∈ wsL_law := inR_10 _ (List.mem_of_getElem? (i := 6) rfl)
theorem LK_J5_104 : Cond.methodLink RJ5 104 ⟨"java/lang/AbstractStringBuilder", "newCapacity", "(I)I"⟩ ∈ wsL_law := inR_10 _ (List.mem_of_getElem? (i := 11) rfl)
theorem LK_J5_114 : Cond.methodLink RJ5 114 yJ8_newLength_cabcc ∈ wsL_law := inR_10 _ (List.mem_of_getElem? (i := 17) rfl)
theorem LK_J8_194 : Cond.methodLink RJ8 194 Lib.Math.max.name ∈ wsL_law := inR_10 _ (List.mem_of_getElem? (i := 21) rfl)
theorem LK_J8_201 : Cond.methodLink RJ8 201 yJ8_hugeLength_7cf53 ∈ wsL_law := inR_11 _ (List.mem_of_getElem? (i := 2) rfl)
theorem LK_J5_108 : Cond.methodLink RJ5 108 yJ7_copyOf_9075b ∈ wsL_law := inR_11 _ (List.mem_of_getElem? (i := 5) rfl)
theorem LK_J7_310 : Cond.methodLink RJ7 310 ⟨"[B", "clone", "()Ljava/lang/Object;"⟩ ∈ wsL_law := inR_11 _ (List.mem_of_getElem? (i := 8) rfl)
theorem LK_J7_304 : Cond.methodLink RJ7 304 Lib.Math.min.name ∈ wsL_law := inR_11 _ (List.mem_of_getElem? (i := 14) rfl)
theorem LK_J7_150 : Cond.methodLink RJ7 150 arraycopyName ∈ wsL_law := inR_11 _ (List.mem_of_getElem? (i := 17) rfl)
theorem LK_J5_83 : Cond.methodLink RJ5 83 ⟨"java/lang/AbstractStringBuilder", "isLatin1", "()Z"⟩ ∈ wsL_law := inR_11 _ (List.mem_of_getElem? (i := 21) rfl)
theorem LK_J5_226 : Cond.methodLink RJ5 226 yJ2_putCharsAt_cd4e5 ∈ wsL_law := inR_12 _ (List.mem_of_getElem? (i := 2) rfl)
theorem LK_J2_96 : Cond.methodLink RJ2 96 yJ2_checkBoundsBeginEnd_d044e ∈ wsL_law := inR_12 _ (List.mem_of_getElem? (i := 6) rfl)
theorem LK_J2_48 : Cond.methodLink RJ2 48 yJ2_length_9d52b ∈ wsL_law := inR_12 _ (List.mem_of_getElem? (i := 9) rfl)
theorem LK_J2_241 : Cond.methodLink RJ2 241 yJ0_checkBoundsBeginEnd_23922 ∈ wsL_law := inR_12 _ (List.mem_of_getElem? (i := 12) rfl)
theorem LK_J0_1062 : Cond.methodLink RJ0 1062 yJ3_checkFromToIndex_8c36e ∈ wsL_law := inR_12 _ (List.mem_of_getElem? (i := 17) rfl)
theorem LK_J2_111 : Cond.methodLink RJ2 111 yJ2_putChar_b72d1 ∈ wsL_law := inR_12 _ (List.mem_of_getElem? (i := 21) rfl)
theorem LK_J5_32 : Cond.methodLink RJ5 32 yJ0_length_8abf5 ∈ wsL_law := inR_13 _ (List.mem_of_getElem? (i := 2) rfl)
theorem LK_J0_335 : Cond.methodLink RJ0 335 yJ0_coder_7d493 ∈ wsL_law := inR_13 _ (List.mem_of_getElem? (i := 7) rfl)
theorem LK_J5_208 : Cond.methodLink RJ5 208 ⟨"java/lang/AbstractStringBuilder", "putStringAt", "(ILjava/lang/String;)V"⟩ ∈ wsL_law := inR_13 _ (List.mem_of_getElem? (i := 13) rfl)
theorem LK_J5_397 : Cond.methodLink RJ5 397 ⟨"java/lang/AbstractStringBuilder", "inflateIfNeededFor", "(Ljava/lang/String;)V"⟩ ∈ wsL_law := inR_13 _ (List.mem_of_getElem? (i := 18) rfl)
theorem LK_J5_40 : Cond.methodLink RJ5 40 yJ0_coder_7d493 ∈ wsL_law := inR_13 _ (List.mem_of_getElem? (i := 23) rfl)
theorem LK_J5_195 : Cond.methodLink RJ5 195 ⟨"java/lang/AbstractStringBuilder", "inflate", "()V"⟩ ∈ wsL_law := inR_14 _ (List.mem_of_getElem? (i := 0) rfl)
theorem LK_J5_125 : Cond.methodLink RJ5 125 yJ1_inflate_0e8fd ∈ wsL_law := inR_14 _ (List.mem_of_getElem? (i := 5) rfl)
theorem LK_J1_240 : Cond.methodLink RJ1 240 yJ2_inflate_0e8fd ∈ wsL_law := inR_14 _ (List.mem_of_getElem? (i := 9) rfl)
theorem LK_J2_173 : Cond.methodLink RJ2 173 yJ2_checkBoundsOffCount_d044e ∈ wsL_law := inR_14 _ (List.mem_of_getElem? (i := 12) rfl)
theorem LK_J2_419 : Cond.methodLink RJ2 419 yJ0_checkBoundsOffCount_cabcc ∈ wsL_law := inR_14 _ (List.mem_of_getElem? (i := 15) rfl)
theorem LK_J0_1065 : Cond.methodLink RJ0 1065 yJ3_checkFromIndexSize_8c36e ∈ wsL_law := inR_14 _ (List.mem_of_getElem? (i := 18) rfl)
theorem LK_J5_399 : Cond.methodLink RJ5 399 yJ0_getBytes_840e7 ∈ wsL_law := inR_14 _ (List.mem_of_getElem? (i := 21) rfl)
theorem LK_J0_212 : Cond.methodLink RJ0 212 arraycopyName ∈ wsL_law := inR_15 _ (List.mem_of_getElem? (i := 1) rfl)
theorem LK_J0_106 : Cond.methodLink RJ0 106 yJ1_inflate_0e8fd ∈ wsL_law := inR_15 _ (List.mem_of_getElem? (i := 2) rfl)
theorem LK_L_108 : Cond.methodLink RL 108 yJ4_append_bf812 ∈ wsL_law := inR_15 _ (List.mem_of_getElem? (i := 3) rfl)
theorem LK_J4_53 : Cond.methodLink RJ4 53 yJ5_append_c97b9 ∈ wsL_law := inR_15 _ (List.mem_of_getElem? (i := 7) rfl)
theorem LK_J5_245 : Cond.methodLink RJ5 245 yJ6_stringSize_0f7a4 ∈ wsL_law := inR_15 _ (List.mem_of_getElem? (i := 11) rfl)
theorem LK_J5_248 : Cond.methodLink RJ5 248 yJ6_getChars_ba4f3 ∈ wsL_law := inR_15 _ (List.mem_of_getElem? (i := 15) rfl)
theorem LK_J5_251 : Cond.methodLink RJ5 251 yJ2_getChars_46870 ∈ wsL_law := inR_15 _ (List.mem_of_getElem? (i := 20) rfl)
theorem LK_J2_393 : Cond.methodLink RJ2 393 yJ2_getChars_ba4f3 ∈ wsL_law := inR_15 _ (List.mem_of_getElem? (i := 23) rfl)
theorem LK_L_115 : Cond.methodLink RL 115 yJ4_toString_0e30d ∈ wsL_law := inR_16 _ (List.mem_of_getElem? (i := 4) rfl)
theorem LK_J4_137 : Cond.methodLink RJ4 137 yJ0_init_81219 ∈ wsL_law := inR_16 _ (List.mem_of_getElem? (i := 10) rfl)
theorem LK_J0_489 : Cond.methodLink RJ0 489 yJ0_init_db425 ∈ wsL_law := inR_16 _ (List.mem_of_getElem? (i := 13) rfl)
theorem LK_J0_1 : Cond.methodLink RJ0 1 objectInit ∈ wsL_law := inR_16 _ (List.mem_of_getElem? (i := 16) rfl)
theorem LK_J0_552 : Cond.methodLink RJ0 552 ⟨"java/lang/AbstractStringBuilder", "getValue", "()[B"⟩ ∈ wsL_law := inR_16 _ (List.mem_of_getElem? (i := 18) rfl)
theorem LK_J0_549 : Cond.methodLink RJ0 549 ⟨"java/lang/AbstractStringBuilder", "length", "()I"⟩ ∈ wsL_law := inR_16 _ (List.mem_of_getElem? (i := 23) rfl)
theorem LK_J4_343 : Cond.methodLink RJ4 343 yJ5_length_8abf5 ∈ wsL_law := inR_17 _ (List.mem_of_getElem? (i := 5) rfl)
theorem LK_J0_1047 : Cond.methodLink RJ0 1047 ⟨"java/lang/AbstractStringBuilder", "isLatin1", "()Z"⟩ ∈ wsL_law := inR_17 _ (List.mem_of_getElem? (i := 8) rfl)
theorem LK_J0_54 : Cond.methodLink RJ0 54 yJ7_copyOfRange_39247 ∈ wsL_law := inR_17 _ (List.mem_of_getElem? (i := 9) rfl)
theorem LK_J7_339 : Cond.methodLink RJ7 339 yJ7_copyOfRangeByte_39247 ∈ wsL_law := inR_17 _ (List.mem_of_getElem? (i := 12) rfl)
theorem LK_J7_343 : Cond.methodLink RJ7 343 yJ7_checkLength_df160 ∈ wsL_law := inR_17 _ (List.mem_of_getElem? (i := 15) rfl)
theorem LK_J0_1051 : Cond.methodLink RJ0 1051 yJ2_compress_39247 ∈ wsL_law := inR_17 _ (List.mem_of_getElem? (i := 18) rfl)
theorem LK_J2_123 : Cond.methodLink RJ2 123 yJ2_compress_5af95 ∈ wsL_law := inR_17 _ (List.mem_of_getElem? (i := 21) rfl)
theorem LK_J2_71 : Cond.methodLink RJ2 71 yJ2_getChar_3b067 ∈ wsL_law := inR_18 _ (List.mem_of_getElem? (i := 0) rfl)
theorem LK_J2_126 : Cond.methodLink RJ2 126 yJ7_copyOfRange_39247 ∈ wsL_law := inR_18 _ (List.mem_of_getElem? (i := 3) rfl)
theorem LK_J0_47 : Cond.methodLink RJ0 47 yJ2_coderFromArrayLen_85cad ∈ wsL_law := inR_18 _ (List.mem_of_getElem? (i := 4) rfl)
theorem LK_L_121 : Cond.methodLink RL 121 yJ4_append_cf468 ∈ wsL_law := inR_18 _ (List.mem_of_getElem? (i := 7) rfl)
theorem LK_J4_50 : Cond.methodLink RJ4 50 yJ5_append_3fe6f ∈ wsL_law := inR_18 _ (List.mem_of_getElem? (i := 11) rfl)
theorem LK_J5_191 : Cond.methodLink RJ5 191 yJ1_canEncode_fc78d ∈ wsL_law := inR_18 _ (List.mem_of_getElem? (i := 15) rfl)
theorem LK_J5_197 : Cond.methodLink RJ5 197 yJ2_putCharSB_b72d1 ∈ wsL_law := inR_18 _ (List.mem_of_getElem? (i := 18) rfl)
theorem LK_J2_67 : Cond.methodLink RJ2 67 yJ2_checkIndex_2214a ∈ wsL_law := inR_18 _ (List.mem_of_getElem? (i := 21) rfl)
theorem LK_J2_414 : Cond.methodLink RJ2 414 yJ0_checkIndex_df160 ∈ wsL_law := inR_19 _ (List.mem_of_getElem? (i := 0) rfl)
theorem LK_J0_1059 : Cond.methodLink RJ0 1059 yJ3_checkIndex_8e157 ∈ wsL_law := inR_19 _ (List.mem_of_getElem? (i := 3) rfl)
theorem LK_L_124 : Cond.methodLink RL 124 yL_span ∈ wsL_law := inR_19 _ (List.mem_of_getElem? (i := 6) rfl)
theorem LK_L_143 : Cond.methodLink RL 143 yL_load ∈ wsL_law := inR_19 _ (List.mem_of_getElem? (i := 10) rfl)
theorem LK_L_42 : Cond.methodLink RL 42 yJ0_length_8abf5 ∈ wsL_law := inR_19 _ (List.mem_of_getElem? (i := 13) rfl)
theorem LK_L_52 : Cond.methodLink RL 52 yL_four ∈ wsL_law := inR_19 _ (List.mem_of_getElem? (i := 14) rfl)
theorem LK_L_48 : Cond.methodLink RL 48 yJ0_charAt_5068e ∈ wsL_law := inR_19 _ (List.mem_of_getElem? (i := 17) rfl)
theorem LK_J0_492 : Cond.methodLink RJ0 492 yJ0_isLatin1_aae02 ∈ wsL_law := inR_19 _ (List.mem_of_getElem? (i := 21) rfl)
theorem LK_J0_495 : Cond.methodLink RJ0 495 yJ1_charAt_3b067 ∈ wsL_law := inR_20 _ (List.mem_of_getElem? (i := 1) rfl)
theorem LK_J1_9 : Cond.methodLink RJ1 9 yJ0_checkIndex_df160 ∈ wsL_law := inR_20 _ (List.mem_of_getElem? (i := 4) rfl)
theorem LK_J0_498 : Cond.methodLink RJ0 498 yJ2_charAt_3b067 ∈ wsL_law := inR_20 _ (List.mem_of_getElem? (i := 5) rfl)
theorem LK_L_56 : Cond.methodLink RL 56 yX11_feed ∈ wsL_law := inR_20 _ (List.mem_of_getElem? (i := 8) rfl)
theorem LK_X11_90 : Cond.methodLink RX11 90 yX9_hasRoomFor ∈ wsL_law := inR_20 _ (List.mem_of_getElem? (i := 13) rfl)
theorem LK_X11_95 : Cond.methodLink RX11 95 yX9_append ∈ wsL_law := inR_20 _ (List.mem_of_getElem? (i := 18) rfl)
theorem LK_X11_99 : Cond.methodLink RX11 99 yX9_size ∈ wsL_law := inR_20 _ (List.mem_of_getElem? (i := 22) rfl)
theorem LK_L_62 : Cond.methodLink RL 62 yX11_load ∈ wsL_law := inR_21 _ (List.mem_of_getElem? (i := 2) rfl)
theorem LK_X11_110 : Cond.methodLink RX11 110 yX5_read ∈ wsL_law := inR_21 _ (List.mem_of_getElem? (i := 9) rfl)
theorem LK_X5_43 : Cond.methodLink RX5 43 yX1_reset ∈ wsL_law := inR_21 _ (List.mem_of_getElem? (i := 14) rfl)
theorem LK_X5_48 : Cond.methodLink RX5 48 yX6_start ∈ wsL_law := inR_21 _ (List.mem_of_getElem? (i := 15) rfl)
theorem LK_X6_31 : Cond.methodLink RX6 31 yX6_followAll ∈ wsL_law := inR_21 _ (List.mem_of_getElem? (i := 19) rfl)
theorem LK_X6_34 : Cond.methodLink RX6 34 yX6_follow ∈ wsL_law := inR_21 _ (List.mem_of_getElem? (i := 23) rfl)
theorem LK_X6_66 : Cond.methodLink RX6 66 Lib.Math.min.name ∈ wsL_law := inR_22 _ (List.mem_of_getElem? (i := 3) rfl)
theorem LK_X6_56 : Cond.methodLink RX6 56 yX6_isPainted ∈ wsL_law := inR_22 _ (List.mem_of_getElem? (i := 4) rfl)
theorem LK_X5_54 : Cond.methodLink RX5 54 yX3_clear ∈ wsL_law := inR_22 _ (List.mem_of_getElem? (i := 8) rfl)
theorem LK_X5_57 : Cond.methodLink RX5 57 yX10_begin ∈ wsL_law := inR_22 _ (List.mem_of_getElem? (i := 13) rfl)
theorem LK_X10_19 : Cond.methodLink RX10 19 Lib.Math.min.name ∈ wsL_law := inR_22 _ (List.mem_of_getElem? (i := 17) rfl)
theorem LK_X5_61 : Cond.methodLink RX5 61 yX10_next ∈ wsL_law := inR_22 _ (List.mem_of_getElem? (i := 22) rfl)
theorem LK_X10_41 : Cond.methodLink RX10 41 yX10_takeLetters ∈ wsL_law := inR_23 _ (List.mem_of_getElem? (i := 2) rfl)
theorem LK_X10_44 : Cond.methodLink RX10 44 yX10_takeDigits ∈ wsL_law := inR_23 _ (List.mem_of_getElem? (i := 7) rfl)
theorem LK_X5_67 : Cond.methodLink RX5 67 yX5_readStatement ∈ wsL_law := inR_23 _ (List.mem_of_getElem? (i := 12) rfl)
theorem LK_X5_76 : Cond.methodLink RX5 76 yX5_failOnToken ∈ wsL_law := inR_23 _ (List.mem_of_getElem? (i := 23) rfl)
theorem LK_X5_86 : Cond.methodLink RX5 86 yX5_readBridge ∈ wsL_law := inR_24 _ (List.mem_of_getElem? (i := 3) rfl)
theorem LK_X5_132 : Cond.methodLink RX5 132 yX5_number ∈ wsL_law := inR_24 _ (List.mem_of_getElem? (i := 7) rfl)
theorem LK_X5_89 : Cond.methodLink RX5 89 yX5_fail ∈ wsL_law := inR_24 _ (List.mem_of_getElem? (i := 11) rfl)
theorem LK_X5_136 : Cond.methodLink RX5 136 yX5_semicolon ∈ wsL_law := inR_24 _ (List.mem_of_getElem? (i := 15) rfl)
theorem LK_X5_98 : Cond.methodLink RX5 98 yX5_readLane ∈ wsL_law := inR_24 _ (List.mem_of_getElem? (i := 19) rfl)
theorem LK_X5_148 : Cond.methodLink RX5 148 yX5_newName ∈ wsL_law := inR_25 _ (List.mem_of_getElem? (i := 0) rfl)
theorem LK_X5_194 : Cond.methodLink RX5 194 yX5_isReserved ∈ wsL_law := inR_25 _ (List.mem_of_getElem? (i := 4) rfl)
theorem LK_X5_198 : Cond.methodLink RX5 198 yX3_isDeclared ∈ wsL_law := inR_25 _ (List.mem_of_getElem? (i := 8) rfl)
theorem LK_X5_154 : Cond.methodLink RX5 154 yX3_add ∈ wsL_law := inR_25 _ (List.mem_of_getElem? (i := 12) rfl)
theorem LK_X5_158 : Cond.methodLink RX5 158 yX1_addLane ∈ wsL_law := inR_25 _ (List.mem_of_getElem? (i := 16) rfl)
theorem LK_X5_106 : Cond.methodLink RX5 106 yX5_readSpan ∈ wsL_law := inR_25 _ (List.mem_of_getElem? (i := 20) rfl)
theorem LK_X5_161 : Cond.methodLink RX5 161 yX5_laneOrNone ∈ wsL_law := inR_26 _ (List.mem_of_getElem? (i := 0) rfl)
theorem LK_X5_201 : Cond.methodLink RX5 201 yX5_thisName ∈ wsL_law := inR_26 _ (List.mem_of_getElem? (i := 4) rfl)
theorem LK_X5_206 : Cond.methodLink RX5 206 yX3_numberOf ∈ wsL_law := inR_26 _ (List.mem_of_getElem? (i := 8) rfl)
theorem LK_X5_165 : Cond.methodLink RX5 165 yX1_addSpan ∈ wsL_law := inR_26 _ (List.mem_of_getElem? (i := 12) rfl)
theorem LK_X5_114 : Cond.methodLink RX5 114 yX5_readGang ∈ wsL_law := inR_26 _ (List.mem_of_getElem? (i := 16) rfl)
theorem LK_X5_169 : Cond.methodLink RX5 169 yX1_addGang ∈ wsL_law := inR_26 _ (List.mem_of_getElem? (i := 20) rfl)
theorem LK_X5_119 : Cond.methodLink RX5 119 yX5_readWeather ∈ wsL_law := inR_27 _ (List.mem_of_getElem? (i := 0) rfl)
theorem LK_X5_124 : Cond.methodLink RX5 124 yX5_readClosed ∈ wsL_law := inR_27 _ (List.mem_of_getElem? (i := 4) rfl)
theorem LK_X5_177 : Cond.methodLink RX5 177 yX5_knownName ∈ wsL_law := inR_27 _ (List.mem_of_getElem? (i := 8) rfl)
theorem LK_X5_129 : Cond.methodLink RX5 129 yX5_readPainting ∈ wsL_law := inR_27 _ (List.mem_of_getElem? (i := 12) rfl)
theorem LK_X5_184 : Cond.methodLink RX5 184 yX6_isPainted ∈ wsL_law := inR_27 _ (List.mem_of_getElem? (i := 16) rfl)
theorem LK_X5_188 : Cond.methodLink RX5 188 yX6_put ∈ wsL_law := inR_27 _ (List.mem_of_getElem? (i := 17) rfl)
theorem LK_X5_71 : Cond.methodLink RX5 71 yX6_followAll ∈ wsL_law := inR_27 _ (List.mem_of_getElem? (i := 21) rfl)
theorem LK_X11_114 : Cond.methodLink RX11 114 yX5_failureKind ∈ wsL_law := inR_27 _ (List.mem_of_getElem? (i := 22) rfl)
theorem LK_X11_117 : Cond.methodLink RX11 117 yX5_failurePosition ∈ wsL_law := inR_28 _ (List.mem_of_getElem? (i := 2) rfl)
theorem LK_X11_120 : Cond.methodLink RX11 120 yX9_clear ∈ wsL_law := inR_28 _ (List.mem_of_getElem? (i := 6) rfl)
theorem LK_X11_124 : Cond.methodLink RX11 124 yX11_takeDraft ∈ wsL_law := inR_28 _ (List.mem_of_getElem? (i := 10) rfl)
theorem LK_X11_127 : Cond.methodLink RX11 127 yX2_clear ∈ wsL_law := inR_28 _ (List.mem_of_getElem? (i := 14) rfl)
theorem LK_L_146 : Cond.methodLink RL 146 yX11_errorKind ∈ wsL_law := inR_28 _ (List.mem_of_getElem? (i := 19) rfl)
theorem LK_L_149 : Cond.methodLink RL 149 yX11_paintings ∈ wsL_law := inR_28 _ (List.mem_of_getElem? (i := 23) rfl)
theorem LK_X11_208 : Cond.methodLink RX11 208 yX6_countPaintings ∈ wsL_law := inR_29 _ (List.mem_of_getElem? (i := 3) rfl)
theorem LK_L_152 : Cond.methodLink RL 152 yJ7_fill_53178 ∈ wsL_law := inR_29 _ (List.mem_of_getElem? (i := 7) rfl)
theorem LK_L_158 : Cond.methodLink RL 158 yL_refused ∈ wsL_law := inR_29 _ (List.mem_of_getElem? (i := 8) rfl)
theorem LK_L_202 : Cond.methodLink RL 202 yL_load_ ∈ wsL_law := inR_29 _ (List.mem_of_getElem? (i := 13) rfl)
theorem LK_L_199 : Cond.methodLink RL 199 yL_effort ∈ wsL_law := inR_29 _ (List.mem_of_getElem? (i := 17) rfl)
theorem LK_L_196 : Cond.methodLink RL 196 yL_begin ∈ wsL_law := inR_29 _ (List.mem_of_getElem? (i := 21) rfl)
theorem LK_L_193 : Cond.methodLink RL 193 yL_end ∈ wsL_law := inR_30 _ (List.mem_of_getElem? (i := 2) rfl)
theorem LK_L_188 : Cond.methodLink RL 188 Lib.Math.min.name ∈ wsL_law := inR_30 _ (List.mem_of_getElem? (i := 6) rfl)
theorem LK_L_162 : Cond.methodLink RL 162 yX11_refusal ∈ wsL_law := inR_30 _ (List.mem_of_getElem? (i := 7) rfl)
theorem LK_X11_134 : Cond.methodLink RX11 134 yX11_checkYear ∈ wsL_law := inR_30 _ (List.mem_of_getElem? (i := 11) rfl)
theorem LK_X11_131 : Cond.methodLink RX11 131 yX11_checkSpan ∈ wsL_law := inR_30 _ (List.mem_of_getElem? (i := 17) rfl)
theorem LK_X11_190 : Cond.methodLink RX11 190 yX11_checkGang ∈ wsL_law := inR_30 _ (List.mem_of_getElem? (i := 21) rfl)
theorem LK_X11_243 : Cond.methodLink RX11 243 yX6_reasonAgainst ∈ wsL_law := inR_31 _ (List.mem_of_getElem? (i := 1) rfl)
theorem LK_X6_128 : Cond.methodLink RX6 128 yX1_isClosed ∈ wsL_law := inR_31 _ (List.mem_of_getElem? (i := 5) rfl)
theorem LK_X6_131 : Cond.methodLink RX6 131 yX6_shutLanes ∈ wsL_law := inR_31 _ (List.mem_of_getElem? (i := 9) rfl)
theorem LK_X6_134 : Cond.methodLink RX6 134 yJ6_bitCount_0f7a4 ∈ wsL_law := inR_31 _ (List.mem_of_getElem? (i := 13) rfl)
theorem LK_X6_116 : Cond.methodLink RX6 116 yX6_gangLoad ∈ wsL_law := inR_31 _ (List.mem_of_getElem? (i := 19) rfl)
theorem LK_X6_86 : Cond.methodLink RX6 86 yX6_painter ∈ wsL_law := inR_31 _ (List.mem_of_getElem? (i := 23) rfl)
theorem LK_X6_89 : Cond.methodLink RX6 89 yX6_spanEffort ∈ wsL_law := inR_32 _ (List.mem_of_getElem? (i := 3) rfl)
theorem LK_X6_119 : Cond.methodLink RX6 119 yX1_gangCapacity ∈ wsL_law := inR_32 _ (List.mem_of_getElem? (i := 7) rfl)
theorem LK_L_165 : Cond.methodLink RL 165 yX11_paint ∈ wsL_law := inR_32 _ (List.mem_of_getElem? (i := 11) rfl)
theorem LK_X11_254 : Cond.methodLink RX11 254 yX11_remember ∈ wsL_law := inR_32 _ (List.mem_of_getElem? (i := 16) rfl)
theorem LK_X11_345 : Cond.methodLink RX11 345 yX2_keep ∈ wsL_law := inR_32 _ (List.mem_of_getElem? (i := 20) rfl)
theorem LK_X2_30 : Cond.methodLink RX2 30 Lib.Math.min.name ∈ wsL_law := inR_33 _ (List.mem_of_getElem? (i := 0) rfl)
theorem LK_X2_25 : Cond.methodLink RX2 25 yX1_saveTo ∈ wsL_law := inR_33 _ (List.mem_of_getElem? (i := 1) rfl)
theorem LK_X1_70 : Cond.methodLink RX1 70 arraycopyName ∈ wsL_law := inR_33 _ (List.mem_of_getElem? (i := 5) rfl)
theorem LK_X2_29 : Cond.methodLink RX2 29 yX6_saveTo ∈ wsL_law := inR_33 _ (List.mem_of_getElem? (i := 6) rfl)
theorem LK_X6_40 : Cond.methodLink RX6 40 arraycopyName ∈ wsL_law := inR_33 _ (List.mem_of_getElem? (i := 10) rfl)
theorem LK_X11_257 : Cond.methodLink RX11 257 yX6_put ∈ wsL_law := inR_33 _ (List.mem_of_getElem? (i := 11) rfl)
theorem LK_X11_151 : Cond.methodLink RX11 151 yX6_countPast ∈ wsL_law := inR_33 _ (List.mem_of_getElem? (i := 12) rfl)
theorem LK_X6_79 : Cond.methodLink RX6 79 yX6_firstPast ∈ wsL_law := inR_33 _ (List.mem_of_getElem? (i := 17) rfl)
theorem LK_X6_75 : Cond.methodLink RX6 75 yX6_isPast ∈ wsL_law := inR_33 _ (List.mem_of_getElem? (i := 21) rfl)
theorem LK_L_168 : Cond.methodLink RL 168 yL_isSame ∈ wsL_law := inR_34 _ (List.mem_of_getElem? (i := 1) rfl)
theorem LK_L_204 : Cond.methodLink RL 204 yX11_rustAfter ∈ wsL_law := inR_34 _ (List.mem_of_getElem? (i := 5) rfl)
theorem LK_X11_141 : Cond.methodLink RX11 141 yX6_rustAtEnd ∈ wsL_law := inR_34 _ (List.mem_of_getElem? (i := 9) rfl)
theorem LK_L_207 : Cond.methodLink RL 207 yX11_rustBefore ∈ wsL_law := inR_34 _ (List.mem_of_getElem? (i := 13) rfl)
theorem LK_X11_137 : Cond.methodLink RX11 137 yX6_rustAtStart ∈ wsL_law := inR_34 _ (List.mem_of_getElem? (i := 17) rfl)
theorem LK_L_210 : Cond.methodLink RL 210 yX11_guardLeft ∈ wsL_law := inR_34 _ (List.mem_of_getElem? (i := 21) rfl)
theorem LK_X11_144 : Cond.methodLink RX11 144 yX6_guardAtStart ∈ wsL_law := inR_35 _ (List.mem_of_getElem? (i := 1) rfl)
theorem LK_L_213 : Cond.methodLink RL 213 yX11_effort ∈ wsL_law := inR_35 _ (List.mem_of_getElem? (i := 5) rfl)
theorem LK_X11_187 : Cond.methodLink RX11 187 yX6_spanEffort ∈ wsL_law := inR_35 _ (List.mem_of_getElem? (i := 9) rfl)
theorem LK_L_180 : Cond.methodLink RL 180 yX11_pastYear ∈ wsL_law := inR_35 _ (List.mem_of_getElem? (i := 10) rfl)
theorem LK_X11_147 : Cond.methodLink RX11 147 yX6_firstPast ∈ wsL_law := inR_35 _ (List.mem_of_getElem? (i := 14) rfl)
theorem LK_L_214 : Cond.methodLink RL 214 yX11_loadOf ∈ wsL_law := inR_35 _ (List.mem_of_getElem? (i := 15) rfl)
theorem LK_X11_196 : Cond.methodLink RX11 196 yX6_gangLoad ∈ wsL_law := inR_35 _ (List.mem_of_getElem? (i := 19) rfl)
theorem LK_L_217 : Cond.methodLink RL 217 yX11_capacity ∈ wsL_law := inR_35 _ (List.mem_of_getElem? (i := 20) rfl)
theorem LK_X11_193 : Cond.methodLink RX11 193 yX1_gangCapacity ∈ wsL_law := inR_36 _ (List.mem_of_getElem? (i := 0) rfl)
theorem LK_L_172 : Cond.methodLink RL 172 yX11_undo ∈ wsL_law := inR_36 _ (List.mem_of_getElem? (i := 1) rfl)
theorem LK_X11_291 : Cond.methodLink RX11 291 yX2_isEmpty ∈ wsL_law := inR_36 _ (List.mem_of_getElem? (i := 5) rfl)
theorem LK_X11_295 : Cond.methodLink RX11 295 yX2_takeBack ∈ wsL_law := inR_36 _ (List.mem_of_getElem? (i := 9) rfl)
theorem LK_X2_36 : Cond.methodLink RX2 36 yX1_restoreFrom ∈ wsL_law := inR_36 _ (List.mem_of_getElem? (i := 13) rfl)
theorem LK_X2_39 : Cond.methodLink RX2 39 yX6_restoreFrom ∈ wsL_law := inR_36 _ (List.mem_of_getElem? (i := 17) rfl)
theorem LK_X11_299 : Cond.methodLink RX11 299 yX2_size ∈ wsL_law := inR_36 _ (List.mem_of_getElem? (i := 21) rfl)
theorem LK_L_176 : Cond.methodLink RL 176 yL_isRefused ∈ wsL_law := inR_37 _ (List.mem_of_getElem? (i := 1) rfl)
theorem CK_L_175 : Cond.constant RL 175 (-1000004) ∈ wsL_law := inR_1 _ (List.mem_of_getElem? (i := 11) rfl)
theorem CK_X11_48 : Cond.constant RX11 48 (-1000004) ∈ wsL_law := inR_3 _ (List.mem_of_getElem? (i := 5) rfl)
theorem CK_X5_18 : Cond.constant RX5 18 (-1000004) ∈ wsL_law := inR_7 _ (List.mem_of_getElem? (i := 3) rfl)
theorem CK_J2_20 : Cond.constant RJ2 20 (1073741823) ∈ wsL_law := inR_9 _ (List.mem_of_getElem? (i := 14) rfl)
theorem CK_J5_39 : Cond.constant RJ5 39 (2147483647) ∈ wsL_law := inR_10 _ (List.mem_of_getElem? (i := 16) rfl)
theorem WK_238 : Cond.static Lib.Math.max.name ∈ wsL_law := inR_10 _ (List.mem_of_getElem? (i := 22) rfl)
theorem WK_239 : Cond.initialized "java/lang/Math" ∈ wsL_law := inR_10 _ (List.mem_of_getElem? (i := 23) rfl)
theorem WK_240 : Cond.code Lib.Math.max.name Lib.Math.max.code 2 (some .int) ∈ wsL_law := inR_11 _ (List.mem_of_getElem? (i := 0) rfl)
theorem CK_J8_200 : Cond.constant RJ8 200 (2147483639) ∈ wsL_law := inR_11 _ (List.mem_of_getElem? (i := 1) rfl)
theorem WK_255 : Cond.static Lib.Math.min.name ∈ wsL_law := inR_11 _ (List.mem_of_getElem? (i := 15) rfl)
theorem WK_256 : Cond.code Lib.Math.min.name Lib.Math.min.code 2 (some .int) ∈ wsL_law := inR_11 _ (List.mem_of_getElem? (i := 16) rfl)
theorem WK_258 : Cond.native arraycopyName ∈ wsL_law := inR_11 _ (List.mem_of_getElem? (i := 18) rfl)
theorem WK_259 : Cond.static arraycopyName ∈ wsL_law := inR_11 _ (List.mem_of_getElem? (i := 19) rfl)
theorem WK_260 : Cond.initialized "java/lang/System" ∈ wsL_law := inR_11 _ (List.mem_of_getElem? (i := 20) rfl)
theorem CK_X11_94 : Cond.constant RX11 94 (-1000005) ∈ wsL_law := inR_20 _ (List.mem_of_getElem? (i := 12) rfl)
theorem CK_X11_123 : Cond.constant RX11 123 (-1000006) ∈ wsL_law := inR_21 _ (List.mem_of_getElem? (i := 8) rfl)
theorem CK_X5_84 : Cond.constantLong RX5 84 (108243533981541) ∈ wsL_law := inR_23 _ (List.mem_of_getElem? (i := 16) rfl)
theorem CK_X5_93 : Cond.constantLong RX5 93 (1818324581) ∈ wsL_law := inR_23 _ (List.mem_of_getElem? (i := 17) rfl)
theorem CK_X5_101 : Cond.constantLong RX5 101 (1936744814) ∈ wsL_law := inR_23 _ (List.mem_of_getElem? (i := 18) rfl)
theorem CK_X5_109 : Cond.constantLong RX5 109 (1734438503) ∈ wsL_law := inR_23 _ (List.mem_of_getElem? (i := 19) rfl)
theorem CK_X5_117 : Cond.constantLong RX5 117 (33606991467799922) ∈ wsL_law := inR_23 _ (List.mem_of_getElem? (i := 20) rfl)
theorem CK_X5_122 : Cond.constantLong RX5 122 (109317377451364) ∈ wsL_law := inR_23 _ (List.mem_of_getElem? (i := 21) rfl)
theorem CK_X5_127 : Cond.constantLong RX5 127 (482670636660) ∈ wsL_law := inR_23 _ (List.mem_of_getElem? (i := 22) rfl)
theorem CK_X5_152 : Cond.constantLong RX5 152 (-2) ∈ wsL_law := inR_24 _ (List.mem_of_getElem? (i := 23) rfl)
theorem CK_X5_204 : Cond.constantLong RX5 204 (1852796517) ∈ wsL_law := inR_25 _ (List.mem_of_getElem? (i := 7) rfl)
theorem CK_J6_265 : Cond.constant RJ6 265 (1431655765) ∈ wsL_law := inR_31 _ (List.mem_of_getElem? (i := 16) rfl)
theorem CK_J6_266 : Cond.constant RJ6 266 (858993459) ∈ wsL_law := inR_31 _ (List.mem_of_getElem? (i := 17) rfl)
theorem CK_J6_267 : Cond.constant RJ6 267 (252645135) ∈ wsL_law := inR_31 _ (List.mem_of_getElem? (i := 18) rfl)
theorem CK_X11_253 : Cond.constant RX11 253 (-1000007) ∈ wsL_law := inR_32 _ (List.mem_of_getElem? (i := 15) rfl)
theorem CK_X6_78 : Cond.constant RX6 78 (-1000004) ∈ wsL_law := inR_33 _ (List.mem_of_getElem? (i := 16) rfl)
