/-! one list of words for every method -/
theorem wU_r1 : ∀ w ∈ wsL_law_r1, w ∈ wsL_law := fun _ h => List.mem_append_left _ (List.mem_append_left _ (List.mem_append_left _ (List.mem_append_left _ (List.mem_append_left _ (List.mem_append_left _ (List.mem_append_left _ (List.mem_append_left _ (List.mem_append_left _ (List.mem_append_left _ h)))))))))
theorem wU_r2 : ∀ w ∈ wsL_law_r2, w ∈ wsL_law := fun _ h => List.mem_append_left _ (List.mem_append_left _ (List.mem_append_left _ (List.mem_append_left _ (List.mem_append_left _ (List.mem_append_left _ (List.mem_append_left _ (List.mem_append_left _ (List.mem_append_left _ (List.mem_append_right _ (List.mem_append_left _ h))))))))))
theorem wU_r3 : ∀ w ∈ wsL_law_r3, w ∈ wsL_law := fun _ h => List.mem_append_left _ (List.mem_append_left _ (List.mem_append_left _ (List.mem_append_left _ (List.mem_append_left _ (List.mem_append_left _ (List.mem_append_left _ (List.mem_append_left _ (List.mem_append_left _ (List.mem_append_right _ (List.mem_append_right _ (List.mem_append_left _ h)))))))))))
theorem wU_r4 : ∀ w ∈ wsL_law_r4, w ∈ wsL_law := fun _ h => List.mem_append_left _ (List.mem_append_left _ (List.mem_append_left _ (List.mem_append_left _ (List.mem_append_left _ (List.mem_append_left _ (List.mem_append_left _ (List.mem_append_left _ (List.mem_append_left _ (List.mem_append_right _ (List.mem_append_right _ (List.mem_append_right _ (List.mem_append_left _ h))))))))))))
theorem wU_r5 : ∀ w ∈ wsL_law_r5, w ∈ wsL_law := fun _ h => List.mem_append_left _ (List.mem_append_left _ (List.mem_append_left _ (List.mem_append_left _ (List.mem_append_left _ (List.mem_append_left _ (List.mem_append_left _ (List.mem_append_left _ (List.mem_append_left _ (List.mem_append_right _ (List.mem_append_right _ (List.mem_append_right _ (List.mem_append_right _ (List.mem_append_left _ h)))))))))))))
theorem wU_r6 : ∀ w ∈ wsL_law_r6, w ∈ wsL_law := fun _ h => List.mem_append_left _ (List.mem_append_left _ (List.mem_append_left _ (List.mem_append_left _ (List.mem_append_left _ (List.mem_append_left _ (List.mem_append_left _ (List.mem_append_left _ (List.mem_append_left _ (List.mem_append_right _ (List.mem_append_right _ (List.mem_append_right _ (List.mem_append_right _ (List.mem_append_right _ (List.mem_append_left _ h))))))))))))))
theorem wU_r7 : ∀ w ∈ wsL_law_r7, w ∈ wsL_law := fun _ h => List.mem_append_left _ (List.mem_append_left _ (List.mem_append_left _ (List.mem_append_left _ (List.mem_append_left _ (List.mem_append_left _ (List.mem_append_left _ (List.mem_append_left _ (List.mem_append_left _ (List.mem_append_right _ (List.mem_append_right _ (List.mem_append_right _ (List.mem_append_right _ (List.mem_append_right _ (List.mem_append_right _ (List.mem_append_left _ h)))))))))))))))
theorem wU_r8 : ∀ w ∈ wsL_law_r8, w ∈ wsL_law := fun _ h => List.mem_append_left _ (List.mem_append_left _ (List.mem_append_left _ (List.mem_append_left _ (List.mem_append_left _ (List.mem_append_left _ (List.mem_append_left _ (List.mem_append_left _ (List.mem_append_left _ (List.mem_append_right _ (List.mem_append_right _ (List.mem_append_right _ (List.mem_append_right _ (List.mem_append_right _ (List.mem_append_right _ (List.mem_append_right _ (List.mem_append_left _ h))))))))))))))))
theorem wU_r9 : ∀ w ∈ wsL_law_r9, w ∈ wsL_law := fun _ h => List.mem_append_left _ (List.mem_append_left _ (List.mem_append_left _ (List.mem_append_left _ (List.mem_append_left _ (List.mem_append_left _ (List.mem_append_left _ (List.mem_append_left _ (List.mem_append_left _ (List.mem_append_right _ (List.mem_append_right _ (List.mem_append_right _ (List.mem_append_right _ (List.mem_append_right _ (List.mem_append_right _ (List.mem_append_right _ (List.mem_append_right _ (List.mem_append_left _ h)))))))))))))))))
theorem wU_r10 : ∀ w ∈ wsL_law_r10, w ∈ wsL_law := fun _ h => List.mem_append_left _ (List.mem_append_left _ (List.mem_append_left _ (List.mem_append_left _ (List.mem_append_left _ (List.mem_append_left _ (List.mem_append_left _ (List.mem_append_left _ (List.mem_append_left _ (List.mem_append_right _ (List.mem_append_right _ (List.mem_append_right _ (List.mem_append_right _ (List.mem_append_right _ (List.mem_append_right _ (List.mem_append_right _ (List.mem_append_right _ (List.mem_append_right _ (List.mem_append_left _ h))))))))))))))))))
theorem wU_r11 : ∀ w ∈ wsL_law_r11, w ∈ wsL_law := fun _ h => List.mem_append_left _ (List.mem_append_left _ (List.mem_append_left _ (List.mem_append_left _ (List.mem_append_left _ (List.mem_append_left _ (List.mem_append_left _ (List.mem_append_left _ (List.mem_append_left _ (List.mem_append_right _ (List.mem_append_right _ (List.mem_append_right _ (List.mem_append_right _ (List.mem_append_right _ (List.mem_append_right _ (List.mem_append_right _ (List.mem_append_right _ (List.mem_append_right _ (List.mem_append_right _ (List.mem_append_left _ h)))))))))))))))))))
theorem wU_r12 : ∀ w ∈ wsL_law_r12, w ∈ wsL_law := fun _ h => List.mem_append_left _ (List.mem_append_left _ (List.mem_append_left _ (List.mem_append_left _ (List.mem_append_left _ (List.mem_append_left _ (List.mem_append_left _ (List.mem_append_left _ (List.mem_append_left _ (List.mem_append_right _ (List.mem_append_right _ (List.mem_append_right _ (List.mem_append_right _ (List.mem_append_right _ (List.mem_append_right _ (List.mem_append_right _ (List.mem_append_right _ (List.mem_append_right _ (List.mem_append_right _ (List.mem_append_right _ (List.mem_append_left _ h))))))))))))))))))))
theorem wU_r13 : ∀ w ∈ wsL_law_r13, w ∈ wsL_law := fun _ h => List.mem_append_left _ (List.mem_append_left _ (List.mem_append_left _ (List.mem_append_left _ (List.mem_append_left _ (List.mem_append_left _ (List.mem_append_left _ (List.mem_append_left _ (List.mem_append_left _ (List.mem_append_right _ (List.mem_append_right _ (List.mem_append_right _ (List.mem_append_right _ (List.mem_append_right _ (List.mem_append_right _ (List.mem_append_right _ (List.mem_append_right _ (List.mem_append_right _ (List.mem_append_right _ (List.mem_append_right _ (List.mem_append_right _ (List.mem_append_left _ h)))))))))))))))))))))
theorem wU_r14 : ∀ w ∈ wsL_law_r14, w ∈ wsL_law := fun _ h => List.mem_append_left _ (List.mem_append_left _ (List.mem_append_left _ (List.mem_append_left _ (List.mem_append_left _ (List.mem_append_left _ (List.mem_append_left _ (List.mem_append_left _ (List.mem_append_left _ (List.mem_append_right _ (List.mem_append_right _ (List.mem_append_right _ (List.mem_append_right _ (List.mem_append_right _ (List.mem_append_right _ (List.mem_append_right _ (List.mem_append_right _ (List.mem_append_right _ (List.mem_append_right _ (List.mem_append_right _ (List.mem_append_right _ (List.mem_append_right _ (List.mem_append_left _ h))))))))))))))))))))))
theorem wU_r15 : ∀ w ∈ wsL_law_r15, w ∈ wsL_law := fun _ h => List.mem_append_left _ (List.mem_append_left _ (List.mem_append_left _ (List.mem_append_left _ (List.mem_append_left _ (List.mem_append_left _ (List.mem_append_left _ (List.mem_append_left _ (List.mem_append_left _ (List.mem_append_right _ (List.mem_append_right _ (List.mem_append_right _ (List.mem_append_right _ (List.mem_append_right _ (List.mem_append_right _ (List.mem_append_right _ (List.mem_append_right _ (List.mem_append_right _ (List.mem_append_right _ (List.mem_append_right _ (List.mem_append_right _ (List.mem_append_right _ (List.mem_append_right _ (List.mem_append_left _ h)))))))))))))))))))))))
theorem wU_r16 : ∀ w ∈ wsL_law_r16, w ∈ wsL_law := fun _ h => List.mem_append_left _ (List.mem_append_left _ (List.mem_append_left _ (List.mem_append_left _ (List.mem_append_left _ (List.mem_append_left _ (List.mem_append_left _ (List.mem_append_left _ (List.mem_append_left _ (List.mem_append_right _ (List.mem_append_right _ (List.mem_append_right _ (List.mem_append_right _ (List.mem_append_right _ (List.mem_append_right _ (List.mem_append_right _ (List.mem_append_right _ (List.mem_append_right _ (List.mem_append_right _ (List.mem_append_right _ (List.mem_append_right _ (List.mem_append_right _ (List.mem_append_right _ (List.mem_append_right _ (List.mem_append_left _ h))))))))))))))))))))))))
theorem wU_r17 : ∀ w ∈ wsL_law_r17, w ∈ wsL_law := fun _ h => List.mem_append_left _ (List.mem_append_left _ (List.mem_append_left _ (List.mem_append_left _ (List.mem_append_left _ (List.mem_append_left _ (List.mem_append_left _ (List.mem_append_left _ (List.mem_append_left _ (List.mem_append_right _ (List.mem_append_right _ (List.mem_append_right _ (List.mem_append_right _ (List.mem_append_right _ (List.mem_append_right _ (List.mem_append_right _ (List.mem_append_right _ (List.mem_append_right _ (List.mem_append_right _ (List.mem_append_right _ (List.mem_append_right _ (List.mem_append_right _ (List.mem_append_right _ (List.mem_append_right _ (List.mem_append_right _ (List.mem_append_left _ h)))))))))))))))))))))))))
theorem wU_r18 : ∀ w ∈ wsL_law_r18, w ∈ wsL_law := fun _ h => List.mem_append_left _ (List.mem_append_left _ (List.mem_append_left _ (List.mem_append_left _ (List.mem_append_left _ (List.mem_append_left _ (List.mem_append_left _ (List.mem_append_left _ (List.mem_append_left _ (List.mem_append_right _ (List.mem_append_right _ (List.mem_append_right _ (List.mem_append_right _ (List.mem_append_right _ (List.mem_append_right _ (List.mem_append_right _ (List.mem_append_right _ (List.mem_append_right _ (List.mem_append_right _ (List.mem_append_right _ (List.mem_append_right _ (List.mem_append_right _ (List.mem_append_right _ (List.mem_append_right _ (List.mem_append_right _ (List.mem_append_right _ (List.mem_append_left _ h))))))))))))))))))))))))))
theorem wU_r19 : ∀ w ∈ wsL_law_r19, w ∈ wsL_law := fun _ h => List.mem_append_left _ (List.mem_append_left _ (List.mem_append_left _ (List.mem_append_left _ (List.mem_append_left _ (List.mem_append_left _ (List.mem_append_left _ (List.mem_append_left _ (List.mem_append_left _ (List.mem_append_right _ (List.mem_append_right _ (List.mem_append_right _ (List.mem_append_right _ (List.mem_append_right _ (List.mem_append_right _ (List.mem_append_right _ (List.mem_append_right _ (List.mem_append_right _ (List.mem_append_right _ (List.mem_append_right _ (List.mem_append_right _ (List.mem_append_right _ (List.mem_append_right _ (List.mem_append_right _ (List.mem_append_right _ (List.mem_append_right _ (List.mem_append_right _ (List.mem_append_left _ h)))))))))))))))))))))))))))
theorem wU_r20 : ∀ w ∈ wsL_law_r20, w ∈ wsL_law := fun _ h => List.mem_append_left _ (List.mem_append_left _ (List.mem_append_left _ (List.mem_append_left _ (List.mem_append_left _ (List.mem_append_left _ (List.mem_append_left _ (List.mem_append_left _ (List.mem_append_left _ (List.mem_append_right _ (List.mem_append_right _ (List.mem_append_right _ (List.mem_append_right _ (List.mem_append_right _ (List.mem_append_right _ (List.mem_append_right _ (List.mem_append_right _ (List.mem_append_right _ (List.mem_append_right _ (List.mem_append_right _ (List.mem_append_right _ (List.mem_append_right _ (List.mem_append_right _ (List.mem_append_right _ (List.mem_append_right _ (List.mem_append_right _ (List.mem_append_right _ (List.mem_append_right _ (List.mem_append_left _ h))))))))))))))))))))))))))))
theorem wU_r21 : ∀ w ∈ wsL_law_r21, w ∈ wsL_law := fun _ h => List.mem_append_left _ (List.mem_append_left _ (List.mem_append_left _ (List.mem_append_left _ (List.mem_append_left _ (List.mem_append_left _ (List.mem_append_left _ (List.mem_append_left _ (List.mem_append_left _ (List.mem_append_right _ (List.mem_append_right _ (List.mem_append_right _ (List.mem_append_right _ (List.mem_append_right _ (List.mem_append_right _ (List.mem_append_right _ (List.mem_append_right _ (List.mem_append_right _ (List.mem_append_right _ (List.mem_append_right _ (List.mem_append_right _ (List.mem_append_right _ (List.mem_append_right _ (List.mem_append_right _ (List.mem_append_right _ (List.mem_append_right _ (List.mem_append_right _ (List.mem_append_right _ (List.mem_append_right _ (List.mem_append_left _ h)))))))))))))))))))))))))))))
theorem wU_r22 : ∀ w ∈ wsL_law_r22, w ∈ wsL_law := fun _ h => List.mem_append_left _ (List.mem_append_left _ (List.mem_append_left _ (List.mem_append_left _ (List.mem_append_left _ (List.mem_append_left _ (List.mem_append_left _ (List.mem_append_left _ (List.mem_append_left _ (List.mem_append_right _ (List.mem_append_right _ (List.mem_append_right _ (List.mem_append_right _ (List.mem_append_right _ (List.mem_append_right _ (List.mem_append_right _ (List.mem_append_right _ (List.mem_append_right _ (List.mem_append_right _ (List.mem_append_right _ (List.mem_append_right _ (List.mem_append_right _ (List.mem_append_right _ (List.mem_append_right _ (List.mem_append_right _ (List.mem_append_right _ (List.mem_append_right _ (List.mem_append_right _ (List.mem_append_right _ (List.mem_append_right _ (List.mem_append_left _ h))))))))))))))))))))))))))))))
theorem wU_r23 : ∀ w ∈ wsL_law_r23, w ∈ wsL_law := fun _ h => List.mem_append_left _ (List.mem_append_left _ (List.mem_append_left _ (List.mem_append_left _ (List.mem_append_left _ (List.mem_append_left _ (List.mem_append_left _ (List.mem_append_left _ (List.mem_append_left _ (List.mem_append_right _ (List.mem_append_right _ (List.mem_append_right _ (List.mem_append_right _ (List.mem_append_right _ (List.mem_append_right _ (List.mem_append_right _ (List.mem_append_right _ (List.mem_append_right _ (List.mem_append_right _ (List.mem_append_right _ (List.mem_append_right _ (List.mem_append_right _ (List.mem_append_right _ (List.mem_append_right _ (List.mem_append_right _ (List.mem_append_right _ (List.mem_append_right _ (List.mem_append_right _ (List.mem_append_right _ (List.mem_append_right _ (List.mem_append_right _ (List.mem_append_left _ h)))))))))))))))))))))))))))))))
theorem wU_r24 : ∀ w ∈ wsL_law_r24, w ∈ wsL_law := fun _ h => List.mem_append_left _ (List.mem_append_left _ (List.mem_append_left _ (List.mem_append_left _ (List.mem_append_left _ (List.mem_append_left _ (List.mem_append_left _ (List.mem_append_left _ (List.mem_append_left _ (List.mem_append_right _ (List.mem_append_right _ (List.mem_append_right _ (List.mem_append_right _ (List.mem_append_right _ (List.mem_append_right _ (List.mem_append_right _ (List.mem_append_right _ (List.mem_append_right _ (List.mem_append_right _ (List.mem_append_right _ (List.mem_append_right _ (List.mem_append_right _ (List.mem_append_right _ (List.mem_append_right _ (List.mem_append_right _ (List.mem_append_right _ (List.mem_append_right _ (List.mem_append_right _ (List.mem_append_right _ (List.mem_append_right _ (List.mem_append_right _ (List.mem_append_right _ (List.mem_append_left _ h))))))))))))))))))))))))))))))))
theorem wU_r25 : ∀ w ∈ wsL_law_r25, w ∈ wsL_law := fun _ h => List.mem_append_left _ (List.mem_append_left _ (List.mem_append_left _ (List.mem_append_left _ (List.mem_append_left _ (List.mem_append_left _ (List.mem_append_left _ (List.mem_append_left _ (List.mem_append_left _ (List.mem_append_right _ (List.mem_append_right _ (List.mem_append_right _ (List.mem_append_right _ (List.mem_append_right _ (List.mem_append_right _ (List.mem_append_right _ (List.mem_append_right _ (List.mem_append_right _ (List.mem_append_right _ (List.mem_append_right _ (List.mem_append_right _ (List.mem_append_right _ (List.mem_append_right _ (List.mem_append_right _ (List.mem_append_right _ (List.mem_append_right _ (List.mem_append_right _ (List.mem_append_right _ (List.mem_append_right _ (List.mem_append_right _ (List.mem_append_right _ (List.mem_append_right _ (List.mem_append_right _ (List.mem_append_left _ h)))))))))))))))))))))))))))))))))
theorem wU_r26 : ∀ w ∈ wsL_law_r26, w ∈ wsL_law := fun _ h => List.mem_append_left _ (List.mem_append_left _ (List.mem_append_left _ (List.mem_append_left _ (List.mem_append_left _ (List.mem_append_left _ (List.mem_append_left _ (List.mem_append_left _ (List.mem_append_left _ (List.mem_append_right _ (List.mem_append_right _ (List.mem_append_right _ (List.mem_append_right _ (List.mem_append_right _ (List.mem_append_right _ (List.mem_append_right _ (List.mem_append_right _ (List.mem_append_right _ (List.mem_append_right _ (List.mem_append_right _ (List.mem_append_right _ (List.mem_append_right _ (List.mem_append_right _ (List.mem_append_right _ (List.mem_append_right _ (List.mem_append_right _ (List.mem_append_right _ (List.mem_append_right _ (List.mem_append_right _ (List.mem_append_right _ (List.mem_append_right _ (List.mem_append_right _ (List.mem_append_right _ (List.mem_append_right _ (List.mem_append_left _ h))))))))))))))))))))))))))))))))))
theorem wU_r27 : ∀ w ∈ wsL_law_r27, w ∈ wsL_law := fun _ h => List.mem_append_left _ (List.mem_append_left _ (List.mem_append_left _ (List.mem_append_left _ (List.mem_append_left _ (List.mem_append_left _ (List.mem_append_left _ (List.mem_append_left _ (List.mem_append_left _ (List.mem_append_right _ (List.mem_append_right _ (List.mem_append_right _ (List.mem_append_right _ (List.mem_append_right _ (List.mem_append_right _ (List.mem_append_right _ (List.mem_append_right _ (List.mem_append_right _ (List.mem_append_right _ (List.mem_append_right _ (List.mem_append_right _ (List.mem_append_right _ (List.mem_append_right _ (List.mem_append_right _ (List.mem_append_right _ (List.mem_append_right _ (List.mem_append_right _ (List.mem_append_right _ (List.mem_append_right _ (List.mem_append_right _ (List.mem_append_right _ (List.mem_append_right _ (List.mem_append_right _ (List.mem_append_right _ (List.mem_append_right _ (List.mem_append_left _ h)))))))))))))))))))))))))))))))))))
theorem wU_r28 : ∀ w ∈ wsL_law_r28, w ∈ wsL_law := fun _ h => List.mem_append_left _ (List.mem_append_left _ (List.mem_append_left _ (List.mem_append_left _ (List.mem_append_left _ (List.mem_append_left _ (List.mem_append_left _ (List.mem_append_left _ (List.mem_append_left _ (List.mem_append_right _ (List.mem_append_right _ (List.mem_append_right _ (List.mem_append_right _ (List.mem_append_right _ (List.mem_append_right _ (List.mem_append_right _ (List.mem_append_right _ (List.mem_append_right _ (List.mem_append_right _ (List.mem_append_right _ (List.mem_append_right _ (List.mem_append_right _ (List.mem_append_right _ (List.mem_append_right _ (List.mem_append_right _ (List.mem_append_right _ (List.mem_append_right _ (List.mem_append_right _ (List.mem_append_right _ (List.mem_append_right _ (List.mem_append_right _ (List.mem_append_right _ (List.mem_append_right _ (List.mem_append_right _ (List.mem_append_right _ (List.mem_append_right _ (List.mem_append_left _ h))))))))))))))))))))))))))))))))))))
theorem wU_r29 : ∀ w ∈ wsL_law_r29, w ∈ wsL_law := fun _ h => List.mem_append_left _ (List.mem_append_left _ (List.mem_append_left _ (List.mem_append_left _ (List.mem_append_left _ (List.mem_append_left _ (List.mem_append_left _ (List.mem_append_left _ (List.mem_append_left _ (List.mem_append_right _ (List.mem_append_right _ (List.mem_append_right _ (List.mem_append_right _ (List.mem_append_right _ (List.mem_append_right _ (List.mem_append_right _ (List.mem_append_right _ (List.mem_append_right _ (List.mem_append_right _ (List.mem_append_right _ (List.mem_append_right _ (List.mem_append_right _ (List.mem_append_right _ (List.mem_append_right _ (List.mem_append_right _ (List.mem_append_right _ (List.mem_append_right _ (List.mem_append_right _ (List.mem_append_right _ (List.mem_append_right _ (List.mem_append_right _ (List.mem_append_right _ (List.mem_append_right _ (List.mem_append_right _ (List.mem_append_right _ (List.mem_append_right _ (List.mem_append_right _ (List.mem_append_left _ h)))))))))))))))))))))))))))))))))))))
theorem wU_r30 : ∀ w ∈ wsL_law_r30, w ∈ wsL_law := fun _ h => List.mem_append_left _ (List.mem_append_left _ (List.mem_append_left _ (List.mem_append_left _ (List.mem_append_left _ (List.mem_append_left _ (List.mem_append_left _ (List.mem_append_left _ (List.mem_append_left _ (List.mem_append_right _ (List.mem_append_right _ (List.mem_append_right _ (List.mem_append_right _ (List.mem_append_right _ (List.mem_append_right _ (List.mem_append_right _ (List.mem_append_right _ (List.mem_append_right _ (List.mem_append_right _ (List.mem_append_right _ (List.mem_append_right _ (List.mem_append_right _ (List.mem_append_right _ (List.mem_append_right _ (List.mem_append_right _ (List.mem_append_right _ (List.mem_append_right _ (List.mem_append_right _ (List.mem_append_right _ (List.mem_append_right _ (List.mem_append_right _ (List.mem_append_right _ (List.mem_append_right _ (List.mem_append_right _ (List.mem_append_right _ (List.mem_append_right _ (List.mem_append_right _ (List.mem_append_right _ (List.mem_append_left _ h))))))))))))))))))))))))))))))))))))))
theorem wU_r31 : ∀ w ∈ wsL_law_r31, w ∈ wsL_law := fun _ h => List.mem_append_left _ (List.mem_append_left _ (List.mem_append_left _ (List.mem_append_left _ (List.mem_append_left _ (List.mem_append_left _ (List.mem_append_left _ (List.mem_append_left _ (List.mem_append_left _ (List.mem_append_right _ (List.mem_append_right _ (List.mem_append_right _ (List.mem_append_right _ (List.mem_append_right _ (List.mem_append_right _ (List.mem_append_right _ (List.mem_append_right _ (List.mem_append_right _ (List.mem_append_right _ (List.mem_append_right _ (List.mem_append_right _ (List.mem_append_right _ (List.mem_append_right _ (List.mem_append_right _ (List.mem_append_right _ (List.mem_append_right _ (List.mem_append_right _ (List.mem_append_right _ (List.mem_append_right _ (List.mem_append_right _ (List.mem_append_right _ (List.mem_append_right _ (List.mem_append_right _ (List.mem_append_right _ (List.mem_append_right _ (List.mem_append_right _ (List.mem_append_right _ (List.mem_append_right _ (List.mem_append_right _ (List.mem_append_left _ h)))))))))))))))))))))))))))))))))))))))
theorem wU_r32 : ∀ w ∈ wsL_law_r32, w ∈ wsL_law := fun _ h => List.mem_append_left _ (List.mem_append_left _ (List.mem_append_left _ (List.mem_append_left _ (List.mem_append_left _ (List.mem_append_left _ (List.mem_append_left _ (List.mem_append_left _ (List.mem_append_left _ (List.mem_append_right _ (List.mem_append_right _ (List.mem_append_right _ (List.mem_append_right _ (List.mem_append_right _ (List.mem_append_right _ (List.mem_append_right _ (List.mem_append_right _ (List.mem_append_right _ (List.mem_append_right _ (List.mem_append_right _ (List.mem_append_right _ (List.mem_append_right _ (List.mem_append_right _ (List.mem_append_right _ (List.mem_append_right _ (List.mem_append_right _ (List.mem_append_right _ (List.mem_append_right _ (List.mem_append_right _ (List.mem_append_right _ (List.mem_append_right _ (List.mem_append_right _ (List.mem_append_right _ (List.mem_append_right _ (List.mem_append_right _ (List.mem_append_right _ (List.mem_append_right _ (List.mem_append_right _ (List.mem_append_right _ (List.mem_append_right _ (List.mem_append_left _ h))))))))))))))))))))))))))))))))))))))))
theorem wU_r33 : ∀ w ∈ wsL_law_r33, w ∈ wsL_law := fun _ h => List.mem_append_left _ (List.mem_append_left _ (List.mem_append_left _ (List.mem_append_left _ (List.mem_append_left _ (List.mem_append_left _ (List.mem_append_left _ (List.mem_append_left _ (List.mem_append_left _ (List.mem_append_right _ (List.mem_append_right _ (List.mem_append_right _ (List.mem_append_right _ (List.mem_append_right _ (List.mem_append_right _ (List.mem_append_right _ (List.mem_append_right _ (List.mem_append_right _ (List.mem_append_right _ (List.mem_append_right _ (List.mem_append_right _ (List.mem_append_right _ (List.mem_append_right _ (List.mem_append_right _ (List.mem_append_right _ (List.mem_append_right _ (List.mem_append_right _ (List.mem_append_right _ (List.mem_append_right _ (List.mem_append_right _ (List.mem_append_right _ (List.mem_append_right _ (List.mem_append_right _ (List.mem_append_right _ (List.mem_append_right _ (List.mem_append_right _ (List.mem_append_right _ (List.mem_append_right _ (List.mem_append_right _ (List.mem_append_right _ (List.mem_append_right _ (List.mem_append_left _ h)))))))))))))))))))))))))))))))))))))))))
theorem wU_r34 : ∀ w ∈ wsL_law_r34, w ∈ wsL_law := fun _ h => List.mem_append_left _ (List.mem_append_left _ (List.mem_append_left _ (List.mem_append_left _ (List.mem_append_left _ (List.mem_append_left _ (List.mem_append_left _ (List.mem_append_left _ (List.mem_append_left _ (List.mem_append_right _ (List.mem_append_right _ (List.mem_append_right _ (List.mem_append_right _ (List.mem_append_right _ (List.mem_append_right _ (List.mem_append_right _ (List.mem_append_right _ (List.mem_append_right _ (List.mem_append_right _ (List.mem_append_right _ (List.mem_append_right _ (List.mem_append_right _ (List.mem_append_right _ (List.mem_append_right _ (List.mem_append_right _ (List.mem_append_right _ (List.mem_append_right _ (List.mem_append_right _ (List.mem_append_right _ (List.mem_append_right _ (List.mem_append_right _ (List.mem_append_right _ (List.mem_append_right _ (List.mem_append_right _ (List.mem_append_right _ (List.mem_append_right _ (List.mem_append_right _ (List.mem_append_right _ (List.mem_append_right _ (List.mem_append_right _ (List.mem_append_right _ (List.mem_append_right _ (List.mem_append_left _ h))))))))))))))))))))))))))))))))))))))))))
theorem wU_r35 : ∀ w ∈ wsL_law_r35, w ∈ wsL_law := fun _ h => List.mem_append_left _ (List.mem_append_left _ (List.mem_append_left _ (List.mem_append_left _ (List.mem_append_left _ (List.mem_append_left _ (List.mem_append_left _ (List.mem_append_left _ (List.mem_append_left _ (List.mem_append_right _ (List.mem_append_right _ (List.mem_append_right _ (List.mem_append_right _ (List.mem_append_right _ (List.mem_append_right _ (List.mem_append_right _ (List.mem_append_right _ (List.mem_append_right _ (List.mem_append_right _ (List.mem_append_right _ (List.mem_append_right _ (List.mem_append_right _ (List.mem_append_right _ (List.mem_append_right _ (List.mem_append_right _ (List.mem_append_right _ (List.mem_append_right _ (List.mem_append_right _ (List.mem_append_right _ (List.mem_append_right _ (List.mem_append_right _ (List.mem_append_right _ (List.mem_append_right _ (List.mem_append_right _ (List.mem_append_right _ (List.mem_append_right _ (List.mem_append_right _ (List.mem_append_right _ (List.mem_append_right _ (List.mem_append_right _ (List.mem_append_right _ (List.mem_append_right _ (List.mem_append_right _ (List.mem_append_left _ h)))))))))))))))))))))))))))))))))))))))))))
theorem wU_r36 : ∀ w ∈ wsL_law_r36, w ∈ wsL_law := fun _ h => List.mem_append_left _ (List.mem_append_left _ (List.mem_append_left _ (List.mem_append_left _ (List.mem_append_left _ (List.mem_append_left _ (List.mem_append_left _ (List.mem_append_left _ (List.mem_append_left _ (List.mem_append_right _ (List.mem_append_right _ (List.mem_append_right _ (List.mem_append_right _ (List.mem_append_right _ (List.mem_append_right _ (List.mem_append_right _ (List.mem_append_right _ (List.mem_append_right _ (List.mem_append_right _ (List.mem_append_right _ (List.mem_append_right _ (List.mem_append_right _ (List.mem_append_right _ (List.mem_append_right _ (List.mem_append_right _ (List.mem_append_right _ (List.mem_append_right _ (List.mem_append_right _ (List.mem_append_right _ (List.mem_append_right _ (List.mem_append_right _ (List.mem_append_right _ (List.mem_append_right _ (List.mem_append_right _ (List.mem_append_right _ (List.mem_append_right _ (List.mem_append_right _ (List.mem_append_right _ (List.mem_append_right _ (List.mem_append_right _ (List.mem_append_right _ (List.mem_append_right _ (List.mem_append_right _ (List.mem_append_right _ (List.mem_append_left _ h))))))))))))))))))))))))))))))))))))))))))))
theorem wU_r37 : ∀ w ∈ wsL_law_r37, w ∈ wsL_law := fun _ h => List.mem_append_left _ (List.mem_append_left _ (List.mem_append_left _ (List.mem_append_left _ (List.mem_append_left _ (List.mem_append_left _ (List.mem_append_left _ (List.mem_append_left _ (List.mem_append_left _ (List.mem_append_right _ (List.mem_append_right _ (List.mem_append_right _ (List.mem_append_right _ (List.mem_append_right _ (List.mem_append_right _ (List.mem_append_right _ (List.mem_append_right _ (List.mem_append_right _ (List.mem_append_right _ (List.mem_append_right _ (List.mem_append_right _ (List.mem_append_right _ (List.mem_append_right _ (List.mem_append_right _ (List.mem_append_right _ (List.mem_append_right _ (List.mem_append_right _ (List.mem_append_right _ (List.mem_append_right _ (List.mem_append_right _ (List.mem_append_right _ (List.mem_append_right _ (List.mem_append_right _ (List.mem_append_right _ (List.mem_append_right _ (List.mem_append_right _ (List.mem_append_right _ (List.mem_append_right _ (List.mem_append_right _ (List.mem_append_right _ (List.mem_append_right _ (List.mem_append_right _ (List.mem_append_right _ (List.mem_append_right _ (List.mem_append_right _ (List.mem_append_left _ h)))))))))))))))))))))))))))))))))))))))))))))
theorem wU_r38 : ∀ w ∈ wsL_law_r38, w ∈ wsL_law := fun _ h => List.mem_append_left _ (List.mem_append_left _ (List.mem_append_left _ (List.mem_append_left _ (List.mem_append_left _ (List.mem_append_left _ (List.mem_append_left _ (List.mem_append_left _ (List.mem_append_left _ (List.mem_append_right _ (List.mem_append_right _ (List.mem_append_right _ (List.mem_append_right _ (List.mem_append_right _ (List.mem_append_right _ (List.mem_append_right _ (List.mem_append_right _ (List.mem_append_right _ (List.mem_append_right _ (List.mem_append_right _ (List.mem_append_right _ (List.mem_append_right _ (List.mem_append_right _ (List.mem_append_right _ (List.mem_append_right _ (List.mem_append_right _ (List.mem_append_right _ (List.mem_append_right _ (List.mem_append_right _ (List.mem_append_right _ (List.mem_append_right _ (List.mem_append_right _ (List.mem_append_right _ (List.mem_append_right _ (List.mem_append_right _ (List.mem_append_right _ (List.mem_append_right _ (List.mem_append_right _ (List.mem_append_right _ (List.mem_append_right _ (List.mem_append_right _ (List.mem_append_right _ (List.mem_append_right _ (List.mem_append_right _ (List.mem_append_right _ (List.mem_append_right _ (List.mem_append_left _ h))))))))))))))))))))))))))))))))))))))))))))))
theorem wU_r39 : ∀ w ∈ wsL_law_r39, w ∈ wsL_law := fun _ h => List.mem_append_left _ (List.mem_append_left _ (List.mem_append_left _ (List.mem_append_left _ (List.mem_append_left _ (List.mem_append_left _ (List.mem_append_left _ (List.mem_append_left _ (List.mem_append_left _ (List.mem_append_right _ (List.mem_append_right _ (List.mem_append_right _ (List.mem_append_right _ (List.mem_append_right _ (List.mem_append_right _ (List.mem_append_right _ (List.mem_append_right _ (List.mem_append_right _ (List.mem_append_right _ (List.mem_append_right _ (List.mem_append_right _ (List.mem_append_right _ (List.mem_append_right _ (List.mem_append_right _ (List.mem_append_right _ (List.mem_append_right _ (List.mem_append_right _ (List.mem_append_right _ (List.mem_append_right _ (List.mem_append_right _ (List.mem_append_right _ (List.mem_append_right _ (List.mem_append_right _ (List.mem_append_right _ (List.mem_append_right _ (List.mem_append_right _ (List.mem_append_right _ (List.mem_append_right _ (List.mem_append_right _ (List.mem_append_right _ (List.mem_append_right _ (List.mem_append_right _ (List.mem_append_right _ (List.mem_append_right _ (List.mem_append_right _ (List.mem_append_right _ (List.mem_append_right _ (List.mem_append_left _ h)))))))))))))))))))))))))))))))))))))))))))))))
theorem wU_r40 : ∀ w ∈ wsL_law_r40, w ∈ wsL_law := fun _ h => List.mem_append_left _ (List.mem_append_left _ (List.mem_append_left _ (List.mem_append_left _ (List.mem_append_left _ (List.mem_append_left _ (List.mem_append_left _ (List.mem_append_left _ (List.mem_append_left _ (List.mem_append_right _ (List.mem_append_right _ (List.mem_append_right _ (List.mem_append_right _ (List.mem_append_right _ (List.mem_append_right _ (List.mem_append_right _ (List.mem_append_right _ (List.mem_append_right _ (List.mem_append_right _ (List.mem_append_right _ (List.mem_append_right _ (List.mem_append_right _ (List.mem_append_right _ (List.mem_append_right _ (List.mem_append_right _ (List.mem_append_right _ (List.mem_append_right _ (List.mem_append_right _ (List.mem_append_right _ (List.mem_append_right _ (List.mem_append_right _ (List.mem_append_right _ (List.mem_append_right _ (List.mem_append_right _ (List.mem_append_right _ (List.mem_append_right _ (List.mem_append_right _ (List.mem_append_right _ (List.mem_append_right _ (List.mem_append_right _ (List.mem_append_right _ (List.mem_append_right _ (List.mem_append_right _ (List.mem_append_right _ (List.mem_append_right _ (List.mem_append_right _ (List.mem_append_right _ (List.mem_append_right _ (h))))))))))))))))))))))))))))))))))))))))))))))))
theorem wU_good : wsL_law.all goodWord = true := by decide +kernel
theorem wU_g {w : Cond} (h : w ∈ wsL_law) : (w.onTables && w.keeps) = true ∨ ∃ ty, w = .arrayClass ty := good_of_word (List.all_eq_true.mp wU_good w h)
theorem gU_N {c0 c1 : Cond} (h : c1 ∈ wsL_law) : GoodIn (c0 :: wsL_law) (c1 :: wsL_law) := by
  intro w hw
  rcases List.mem_cons.mp hw with e | e
  · rw [e]; exact ⟨List.mem_cons_of_mem _ h, wU_g h⟩
  · exact ⟨List.mem_cons_of_mem _ e, wU_g e⟩
theorem gU_V {c0 c1 : Cond} {own C : String} {idx : Nat} {y : MethodName} (h1 : Cond.methodLink own idx y ∈ wsL_law) (h2 : Cond.instanceMethod y ∈ wsL_law) (h3 : Cond.selects C y y ∈ wsL_law) (h4 : Cond.initialized C ∈ wsL_law) (h : c1 ∈ wsL_law) : GoodIn (c0 :: wsL_law) (wsV own idx C y (c1 :: wsL_law)) := by
  intro w hw
  rcases List.mem_append.mp hw with e | e
  · have hm : w ∈ wsL_law := by
      simp only [List.mem_cons, List.not_mem_nil, or_false] at e
      rcases e with rfl | rfl | rfl | rfl
      · exact h1
      · exact h2
      · exact h3
      · exact h4
    exact ⟨List.mem_cons_of_mem _ hm, wU_g hm⟩
  · exact gU_N h w e
theorem gU_S {c0 c1 : Cond} {own : String} {idx : Nat} {y : MethodName} (h1 : Cond.methodLink own idx y ∈ wsL_law) (h2 : Cond.static y ∈ wsL_law) (h4 : Cond.initialized y.cls ∈ wsL_law) (h : c1 ∈ wsL_law) : GoodIn (c0 :: wsL_law) (va_wsS own idx y (c1 :: wsL_law)) := by
  intro w hw
  rcases List.mem_append.mp hw with e | e
  · have hm : w ∈ wsL_law := by
      simp only [List.mem_cons, List.not_mem_nil, or_false] at e
      rcases e with rfl | rfl | rfl
      · exact h1
      · exact h2
      · exact h4
    exact ⟨List.mem_cons_of_mem _ hm, wU_g hm⟩
  · exact gU_N h w e
def uX0_init : List Cond := .code yX0_init cX0_init 1 none :: wsL_law
def uX0_begin : List Cond := .code yX0_begin cX0_begin 2 none :: wsL_law
def uX0_run : List Cond := .code yX0_run cX0_run 4 (some .int) :: wsL_law
def uX0_leans : List Cond := .code yX0_leans cX0_leans 4 (some .int) :: wsL_law
def uX0_holds : List Cond := .code yX0_holds cX0_holds 4 (some .int) :: wsL_law
def uX0_tells : List Cond := .code yX0_tells cX0_tells 5 (some .int) :: wsL_law
def uX1_init : List Cond := .code yX1_init cX1_init 1 none :: wsL_law
def uX1_run : List Cond := .code yX1_run cX1_run 4 none :: wsL_law
def uX1_decide : List Cond := .code yX1_decide cX1_decide 4 none :: wsL_law
def uX1_weigh : List Cond := .code yX1_weigh cX1_weigh 4 none :: wsL_law
def uX1_push : List Cond := .code yX1_push cX1_push 9 none :: wsL_law
def uX1_changeByKind : List Cond := .code yX1_changeByKind cX1_changeByKind 3 none :: wsL_law
def uX1_howItGoes : List Cond := .code yX1_howItGoes cX1_howItGoes 2 (some .int) :: wsL_law
def uX1_wayItGoes : List Cond := .code yX1_wayItGoes cX1_wayItGoes 3 (some .int) :: wsL_law
def uX1_lay : List Cond := .code yX1_lay cX1_lay 7 none :: wsL_law
def uX2_init : List Cond := .code yX2_init cX2_init 2 none :: wsL_law
def uX2_copyFrom : List Cond := .code yX2_copyFrom cX2_copyFrom 3 none :: wsL_law
def uX2_find : List Cond := .code yX2_find cX2_find 2 (some (.object "FellTree$Tree")) :: wsL_law
def uX2_isTaken : List Cond := .code yX2_isTaken cX2_isTaken 3 (some .boolean) :: wsL_law
def uX2_standingTrees : List Cond := .code yX2_standingTrees cX2_standingTrees 3 (some .int) :: wsL_law
def uX2_standingPlaces : List Cond := .code yX2_standingPlaces cX2_standingPlaces 4 (some .long) :: wsL_law
def uX2_whichOn : List Cond := .code yX2_whichOn cX2_whichOn 4 (some .int) :: wsL_law
def uX2_weightOf : List Cond := .code yX2_weightOf cX2_weightOf 2 (some .int) :: wsL_law
def uX3_init : List Cond := .code yX3_init cX3_init 1 none :: wsL_law
def uX3_reads : List Cond := .code yX3_reads cX3_reads 4 (some .boolean) :: wsL_law
def uX3_next : List Cond := .code yX3_next cX3_next 1 (some .int) :: wsL_law
def uX3_takes : List Cond := .code yX3_takes cX3_takes 2 (some .boolean) :: wsL_law
def uX3_takesAll : List Cond := .code yX3_takesAll cX3_takesAll 3 (some .boolean) :: wsL_law
def uX3_takesOne : List Cond := .code yX3_takesOne cX3_takesOne 4 (some .int) :: wsL_law
def uX3_clause : List Cond := .code yX3_clause cX3_clause 3 (some .boolean) :: wsL_law
def uX3_word : List Cond := .code yX3_word cX3_word 1 (some .int) :: wsL_law
def uX3_number : List Cond := .code yX3_number cX3_number 3 (some .int) :: wsL_law
def uX3_either : List Cond := .code yX3_either cX3_either 3 (some .boolean) :: wsL_law
def uX3_both : List Cond := .code yX3_both cX3_both 3 (some .boolean) :: wsL_law
def uX3_single : List Cond := .code yX3_single cX3_single 3 (some .boolean) :: wsL_law
def uX3_test : List Cond := .code yX3_test cX3_test 4 (some .boolean) :: wsL_law
def uX4_init : List Cond := .code yX4_init cX4_init 1 none :: wsL_law
def uX4_begin : List Cond := .code yX4_begin cX4_begin 7 none :: wsL_law
def uX4_copyFrom : List Cond := .code yX4_copyFrom cX4_copyFrom 2 none :: wsL_law
def uX5_init : List Cond := .code yX5_init cX5_init 1 none :: wsL_law
def uX5_clear : List Cond := .code yX5_clear cX5_clear 1 none :: wsL_law
def uX5_copyFrom : List Cond := .code yX5_copyFrom cX5_copyFrom 2 none :: wsL_law
def uX5_put : List Cond := .code yX5_put cX5_put 2 none :: wsL_law
def uX5_close : List Cond := .code yX5_close cX5_close 3 none :: wsL_law
def uX5_total : List Cond := .code yX5_total cX5_total 7 (some .int) :: wsL_law
def uX5_isMet : List Cond := .code yX5_isMet cX5_isMet 9 (some .boolean) :: wsL_law
def uX5_result : List Cond := .code yX5_result cX5_result 4 (some .int) :: wsL_law
def uX5_valueOf : List Cond := .code yX5_valueOf cX5_valueOf 3 (some .int) :: wsL_law
def uX6_init : List Cond := .code yX6_init cX6_init 1 none :: wsL_law
def uX6_things : List Cond := .code yX6_things cX6_things 4 (some .int) :: wsL_law
def uX6_feed : List Cond := .code yX6_feed cX6_feed 2 (some .int) :: wsL_law
def uX6_wood : List Cond := .code yX6_wood cX6_wood 2 (some .int) :: wsL_law
def uX6_told : List Cond := .code yX6_told cX6_told 2 (some .int) :: wsL_law
def uX6_tree : List Cond := .code yX6_tree cX6_tree 6 (some .int) :: wsL_law
def uX6_lean : List Cond := .code yX6_lean cX6_lean 7 (some .int) :: wsL_law
def uX6_of : List Cond := .code yX6_of cX6_of 4 (some .int) :: wsL_law
def uX6_plan : List Cond := .code yX6_plan cX6_plan 7 (some .int) :: wsL_law
def uX6_goes : List Cond := .code yX6_goes cX6_goes 4 (some .int) :: wsL_law
def uX6_lies : List Cond := .code yX6_lies cX6_lies 3 (some .long) :: wsL_law
def uX6_fell : List Cond := .code yX6_fell cX6_fell 3 (some .int) :: wsL_law
def uX6_wide : List Cond := .code yX6_wide cX6_wide 6 (some .int) :: wsL_law
def uX6_waysByWedges : List Cond := .code yX6_waysByWedges cX6_waysByWedges 5 (some .int) :: wsL_law
def uX6_waysByStrip : List Cond := .code yX6_waysByStrip cX6_waysByStrip 5 (some .int) :: wsL_law
def uX6_least : List Cond := .code yX6_least cX6_least 6 (some .int) :: wsL_law
def uX6_leastStrip : List Cond := .code yX6_leastStrip cX6_leastStrip 3 (some .int) :: wsL_law
def uX6_gusts : List Cond := .code yX6_gusts cX6_gusts 3 (some .int) :: wsL_law
def uX6_sure : List Cond := .code yX6_sure cX6_sure 10 (some .long) :: wsL_law
def uX6_stand : List Cond := .code yX6_stand cX6_stand 6 (some .long) :: wsL_law
def uX6_order : List Cond := .code yX6_order cX6_order 7 (some .int) :: wsL_law
def uX6_firstFree : List Cond := .code yX6_firstFree cX6_firstFree 3 (some .int) :: wsL_law
def uX6_hung : List Cond := .code yX6_hung cX6_hung 4 (some .int) :: wsL_law
def uX6_blame : List Cond := .code yX6_blame cX6_blame 6 (some .int) :: wsL_law
def uX6_knock : List Cond := .code yX6_knock cX6_knock 6 (some .int) :: wsL_law
def uX6_limbs : List Cond := .code yX6_limbs cX6_limbs 4 (some .int) :: wsL_law
def uX6_book : List Cond := .code yX6_book cX6_book 2 (some .int) :: wsL_law
def uX6_judged : List Cond := .code yX6_judged cX6_judged 7 (some .int) :: wsL_law
def uX6_act : List Cond := .code yX6_act cX6_act 5 (some .int) :: wsL_law
def uX6_trace : List Cond := .code yX6_trace cX6_trace 2 (some .int) :: wsL_law
def uX6_as : List Cond := .code yX6_as cX6_as 6 (some .int) :: wsL_law
def uX6_image : List Cond := .code yX6_image cX6_image 1 (some .int) :: wsL_law
def uX6_undo : List Cond := .code yX6_undo cX6_undo 1 (some .int) :: wsL_law
def uX6_count : List Cond := .code yX6_count cX6_count 2 (some .int) :: wsL_law
def uX6_outside : List Cond := .code yX6_outside cX6_outside 2 (some .boolean) :: wsL_law
def uX6_bitOf : List Cond := .code yX6_bitOf cX6_bitOf 1 (some .int) :: wsL_law
def uX6_commonDivisor : List Cond := .code yX6_commonDivisor cX6_commonDivisor 6 (some .int) :: wsL_law
def uX6_stepsBehind : List Cond := .code yX6_stepsBehind cX6_stepsBehind 2 (some .int) :: wsL_law
def uX6_alongOf : List Cond := .code yX6_alongOf cX6_alongOf 3 (some .int) :: wsL_law
def uX6_sideOf : List Cond := .code yX6_sideOf cX6_sideOf 3 (some .int) :: wsL_law
def uX6_nextPlace : List Cond := .code yX6_nextPlace cX6_nextPlace 4 (some .int) :: wsL_law
def uX6_stepsFrom : List Cond := .code yX6_stepsFrom cX6_stepsFrom 5 (some .long) :: wsL_law
def uX6_kindAbove : List Cond := .code yX6_kindAbove cX6_kindAbove 1 (some .int) :: wsL_law
def uX7_init : List Cond := .code yX7_init cX7_init 1 none :: wsL_law
def uX7_in : List Cond := .code yX7_in cX7_in 3 (some .boolean) :: wsL_law
def uX7_size : List Cond := .code yX7_size cX7_size 1 (some .int) :: wsL_law
def uX7_isTree : List Cond := .code yX7_isTree cX7_isTree 2 (some .boolean) :: wsL_law
def uX7_isStanding : List Cond := .code yX7_isStanding cX7_isStanding 2 (some .boolean) :: wsL_law
def uX7_isWay : List Cond := .code yX7_isWay cX7_isWay 1 (some .boolean) :: wsL_law
def uX7_things : List Cond := .code yX7_things cX7_things 5 (some .int) :: wsL_law
def uX7_feed : List Cond := .code yX7_feed cX7_feed 2 (some .int) :: wsL_law
def uX7_here : List Cond := .code yX7_here cX7_here 1 (some .int) :: wsL_law
def uX7_must : List Cond := .code yX7_must cX7_must 2 none :: wsL_law
def uX7_spells : List Cond := .code yX7_spells cX7_spells 3 none :: wsL_law
def uX7_figures : List Cond := .code yX7_figures cX7_figures 3 (some .int) :: wsL_law
def uX7_among : List Cond := .code yX7_among cX7_among 3 (some .int) :: wsL_law
def uX7_emits : List Cond := .code yX7_emits cX7_emits 2 none :: wsL_law
def uX7_factor : List Cond := .code yX7_factor cX7_factor 5 none :: wsL_law
def uX7_every : List Cond := .code yX7_every cX7_every 1 none :: wsL_law
def uX7_some : List Cond := .code yX7_some cX7_some 1 none :: wsL_law
def uX7_much : List Cond := .code yX7_much cX7_much 4 none :: wsL_law
def uX7_tellsHere : List Cond := .code yX7_tellsHere cX7_tellsHere 4 none :: wsL_law
def uX7_clauseHere : List Cond := .code yX7_clauseHere cX7_clauseHere 1 none :: wsL_law
def uX7_wood : List Cond := .code yX7_wood cX7_wood 2 (some .int) :: wsL_law
def uX7_tellsOf : List Cond := .code yX7_tellsOf cX7_tellsOf 3 (some .int) :: wsL_law
def uX7_told : List Cond := .code yX7_told cX7_told 2 (some .int) :: wsL_law
def uX7_looks : List Cond := .code yX7_looks cX7_looks 11 none :: wsL_law
def uX7_tree : List Cond := .code yX7_tree cX7_tree 7 (some .int) :: wsL_law
def uX7_lean : List Cond := .code yX7_lean cX7_lean 6 (some .int) :: wsL_law
def uX7_of : List Cond := .code yX7_of cX7_of 3 (some .int) :: wsL_law
def uX7_plan : List Cond := .code yX7_plan cX7_plan 5 (some .int) :: wsL_law
def uX7_along : List Cond := .code yX7_along cX7_along 3 (some .int) :: wsL_law
def uX7_side : List Cond := .code yX7_side cX7_side 3 (some .int) :: wsL_law
def uX7_isOf : List Cond := .code yX7_isOf cX7_isOf 4 (some .boolean) :: wsL_law
def uX7_goesIn : List Cond := .code yX7_goesIn cX7_goesIn 8 none :: wsL_law
def uX7_next : List Cond := .code yX7_next cX7_next 4 (some .int) :: wsL_law
def uX7_standingOn : List Cond := .code yX7_standingOn cX7_standingOn 4 (some .int) :: wsL_law
def uX7_lays : List Cond := .code yX7_lays cX7_lays 6 none :: wsL_law
def uX7_doesStrike : List Cond := .code yX7_doesStrike cX7_doesStrike 3 (some .boolean) :: wsL_law
def uX7_goesNow : List Cond := .code yX7_goesNow cX7_goesNow 3 none :: wsL_law
def uX7_goes : List Cond := .code yX7_goes cX7_goes 3 (some .int) :: wsL_law
def uX7_lies : List Cond := .code yX7_lies cX7_lies 2 (some .long) :: wsL_law
def uX7_fell : List Cond := .code yX7_fell cX7_fell 2 (some .int) :: wsL_law
def uX7_keepsPlans : List Cond := .code yX7_keepsPlans cX7_keepsPlans 2 none :: wsL_law
def uX7_putsPlansBack : List Cond := .code yX7_putsPlansBack cX7_putsPlansBack 2 none :: wsL_law
def uX7_plans : List Cond := .code yX7_plans cX7_plans 7 none :: wsL_law
def uX7_wide : List Cond := .code yX7_wide cX7_wide 5 (some .int) :: wsL_law
def uX7_least : List Cond := .code yX7_least cX7_least 5 (some .int) :: wsL_law
def uX7_gusts : List Cond := .code yX7_gusts cX7_gusts 3 (some .int) :: wsL_law
def uX7_divisor : List Cond := .code yX7_divisor cX7_divisor 5 (some .int) :: wsL_law
def uX7_oftenOf : List Cond := .code yX7_oftenOf cX7_oftenOf 2 (some .int) :: wsL_law
def uX7_sure : List Cond := .code yX7_sure cX7_sure 7 (some .long) :: wsL_law
def uX7_stand : List Cond := .code yX7_stand cX7_stand 9 (some .long) :: wsL_law
def uX7_standingMany : List Cond := .code yX7_standingMany cX7_standingMany 3 (some .int) :: wsL_law
def uX7_rowsFrom : List Cond := .code yX7_rowsFrom cX7_rowsFrom 5 (some .boolean) :: wsL_law
def uX7_order : List Cond := .code yX7_order cX7_order 3 (some .int) :: wsL_law
def uX7_hung : List Cond := .code yX7_hung cX7_hung 3 (some .int) :: wsL_law
def uX7_blame : List Cond := .code yX7_blame cX7_blame 5 (some .int) :: wsL_law
def uX7_knock : List Cond := .code yX7_knock cX7_knock 6 (some .int) :: wsL_law
def uX7_limbs : List Cond := .code yX7_limbs cX7_limbs 5 (some .int) :: wsL_law
def uX7_book : List Cond := .code yX7_book cX7_book 2 (some .int) :: wsL_law
def uX7_judged : List Cond := .code yX7_judged cX7_judged 5 (some .int) :: wsL_law
def uX7_runs : List Cond := .code yX7_runs cX7_runs 2 none :: wsL_law
def uX7_isUnder : List Cond := .code yX7_isUnder cX7_isUnder 2 (some .boolean) :: wsL_law
def uX7_plainLeans : List Cond := .code yX7_plainLeans cX7_plainLeans 2 (some .int) :: wsL_law
def uX7_leansActs : List Cond := .code yX7_leansActs cX7_leansActs 2 (some .int) :: wsL_law
def uX7_plainHolds : List Cond := .code yX7_plainHolds cX7_plainHolds 2 (some .int) :: wsL_law
def uX7_holdsActs : List Cond := .code yX7_holdsActs cX7_holdsActs 2 (some .int) :: wsL_law
def uX7_plainTells : List Cond := .code yX7_plainTells cX7_plainTells 2 (some .int) :: wsL_law
def uX7_tellsActs : List Cond := .code yX7_tellsActs cX7_tellsActs 3 (some .int) :: wsL_law
def uX7_act : List Cond := .code yX7_act cX7_act 4 (some .int) :: wsL_law
def uX7_trace : List Cond := .code yX7_trace cX7_trace 2 (some .int) :: wsL_law
def uX7_as : List Cond := .code yX7_as cX7_as 3 (some .int) :: wsL_law
def uX7_image : List Cond := .code yX7_image cX7_image 2 (some .int) :: wsL_law
def uX7_undo : List Cond := .code yX7_undo cX7_undo 2 (some .int) :: wsL_law
def uX7_count : List Cond := .code yX7_count cX7_count 2 (some .int) :: wsL_law
def uJ11_isValidCodePoint_9a6ad : List Cond := .code yJ11_isValidCodePoint_9a6ad cJ11_isValidCodePoint_9a6ad 2 (some .boolean) :: wsL_law
def uJ11_highSurrogate_5068e : List Cond := .code yJ11_highSurrogate_5068e cJ11_highSurrogate_5068e 1 (some .char) :: wsL_law
def uJ11_lowSurrogate_5068e : List Cond := .code yJ11_lowSurrogate_5068e cJ11_lowSurrogate_5068e 1 (some .char) :: wsL_law
def uJ6_bitCount_0f7a4 : List Cond := .code yJ6_bitCount_0f7a4 cJ6_bitCount_0f7a4 1 (some .int) :: wsL_law
def uJ13_bitCount_95d88 : List Cond := .code yJ13_bitCount_95d88 cJ13_bitCount_95d88 2 (some .int) :: wsL_law
def uJ9_abs_0f7a4 : List Cond := .code yJ9_abs_0f7a4 cJ9_abs_0f7a4 1 (some .int) :: wsL_law
def uJ9_max_7cf53 : List Cond := .code yJ9_max_7cf53 cJ9_max_7cf53 2 (some .int) :: wsL_law
def uJ9_min_7cf53 : List Cond := .code yJ9_min_7cf53 cJ9_min_7cf53 2 (some .int) :: wsL_law
def uJ0_length_8abf5 : List Cond := .code yJ0_length_8abf5 cJ0_length_8abf5 1 (some .int) :: wsL_law
def uJ0_charAt_5068e : List Cond := .code yJ0_charAt_5068e cJ0_charAt_5068e 2 (some .char) :: wsL_law
def uJ0_indexOf_0f7a4 : List Cond := .code yJ0_indexOf_0f7a4 cJ0_indexOf_0f7a4 2 (some .int) :: wsL_law
def uJ0_indexOf_7cf53 : List Cond := .code yJ0_indexOf_7cf53 cJ0_indexOf_7cf53 3 (some .int) :: wsL_law
def uJ0_coder_7d493 : List Cond := .code yJ0_coder_7d493 cJ0_coder_7d493 1 (some .byte) :: wsL_law
def uJ0_isLatin1_aae02 : List Cond := .code yJ0_isLatin1_aae02 cJ0_isLatin1_aae02 1 (some .boolean) :: wsL_law
def uJ0_checkIndex_df160 : List Cond := .code yJ0_checkIndex_df160 cJ0_checkIndex_df160 2 none :: wsL_law
def uJ0_checkBoundsBeginEnd_23922 : List Cond := .code yJ0_checkBoundsBeginEnd_23922 cJ0_checkBoundsBeginEnd_23922 3 none :: wsL_law
def uJ1_charAt_3b067 : List Cond := .code yJ1_charAt_3b067 cJ1_charAt_3b067 2 (some .char) :: wsL_law
def uJ1_canEncode_9a6ad : List Cond := .code yJ1_canEncode_9a6ad cJ1_canEncode_9a6ad 1 (some .boolean) :: wsL_law
def uJ1_indexOf_4cfef : List Cond := .code yJ1_indexOf_4cfef cJ1_indexOf_4cfef 4 (some .int) :: wsL_law
def uJ1_indexOfChar_4cfef : List Cond := .code yJ1_indexOfChar_4cfef cJ1_indexOfChar_4cfef 6 (some .int) :: wsL_law
def uJ2_getChar_3b067 : List Cond := .code yJ2_getChar_3b067 cJ2_getChar_3b067 2 (some .char) :: wsL_law
def uJ2_length_9d52b : List Cond := .code yJ2_length_9d52b cJ2_length_9d52b 1 (some .int) :: wsL_law
def uJ2_indexOf_4cfef : List Cond := .code yJ2_indexOf_4cfef cJ2_indexOf_4cfef 4 (some .int) :: wsL_law
def uJ2_indexOfChar_4cfef : List Cond := .code yJ2_indexOfChar_4cfef cJ2_indexOfChar_4cfef 4 (some .int) :: wsL_law
def uJ2_indexOfCharUnsafe_4cfef : List Cond := .code yJ2_indexOfCharUnsafe_4cfef cJ2_indexOfCharUnsafe_4cfef 5 (some .int) :: wsL_law
def uJ2_indexOfSupplementary_4cfef : List Cond := .code yJ2_indexOfSupplementary_4cfef cJ2_indexOfSupplementary_4cfef 7 (some .int) :: wsL_law
def uJ2_charAt_3b067 : List Cond := .code yJ2_charAt_3b067 cJ2_charAt_3b067 2 (some .char) :: wsL_law
def uJ2_checkIndex_2214a : List Cond := .code yJ2_checkIndex_2214a cJ2_checkIndex_2214a 2 none :: wsL_law
def uJ2_checkBoundsBeginEnd_d044e : List Cond := .code yJ2_checkBoundsBeginEnd_d044e cJ2_checkBoundsBeginEnd_d044e 3 none :: wsL_law
def uJ3_checkIndex_8e157 : List Cond := .code yJ3_checkIndex_8e157 cJ3_checkIndex_8e157 3 (some .int) :: wsL_law
def uJ3_checkFromToIndex_8c36e : List Cond := .code yJ3_checkFromToIndex_8c36e cJ3_checkFromToIndex_8c36e 4 (some .int) :: wsL_law
