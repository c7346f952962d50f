theorem q_inp {big : List Cond} (ws : List Cond) (ps : List Nat) (hp : ws = ps.filterMap (fun i => big[i]?)) : ∀ w ∈ ws, w ∈ big := by
  intro w hw
  rw [hp] at hw
  obtain ⟨i, -, hi⟩ := List.mem_filterMap.mp hw
  exact List.mem_of_getElem? hi
set_option maxRecDepth 20000 in
theorem wsL_law_q1 : ∀ w ∈ wsL_law0_r1, w ∈ lw_tbl := q_inp wsL_law0_r1 [50, 51, 33, 500, 501, 40, 570, 686, 197, 198, 32, 199, 52, 53, 54, 55, 56, 57, 144, 145, 146, 91, 147, 148] (by decide +kernel)
set_option maxRecDepth 20000 in
theorem wsL_law_q2 : ∀ w ∈ wsL_law0_r2, w ∈ lw_tbl := q_inp wsL_law0_r2 [92, 149, 67, 68, 35, 150, 93, 94, 36, 151, 125, 126, 38, 152, 153, 154, 155, 58, 59, 60, 61, 62, 34, 63] (by decide +kernel)
set_option maxRecDepth 20000 in
theorem wsL_law_q3 : ∀ w ∈ wsL_law0_r3, w ∈ lw_tbl := q_inp wsL_law0_r3 [64, 65, 66, 70, 71, 72, 73, 75, 77, 79, 96, 97, 98, 99, 100, 37, 119, 118, 102, 103, 104, 105, 107, 109] (by decide +kernel)
set_option maxRecDepth 20000 in
theorem wsL_law_q4 : ∀ w ∈ wsL_law0_r4, w ∈ lw_tbl := q_inp wsL_law0_r4 [128, 129, 130, 133, 140, 131, 141, 142, 39, 143, 502, 503, 504, 505, 510, 511, 512, 514, 515, 516, 521, 522, 523, 526] (by decide +kernel)
set_option maxRecDepth 20000 in
theorem wsL_law_q5 : ∀ w ∈ wsL_law0_r5, w ∈ lw_tbl := q_inp wsL_law0_r5 [507, 508, 509, 519, 200, 201, 202, 203, 204, 205, 206, 207, 208, 210, 1, 211, 212, 44, 280, 281, 282, 283, 284, 285] (by decide +kernel)
set_option maxRecDepth 20000 in
theorem wsL_law_q6 : ∀ w ∈ wsL_law0_r6, w ∈ lw_tbl := q_inp wsL_law0_r6 [286, 287, 288, 289, 290, 293, 3, 294, 295, 297, 4, 298, 575, 576, 577, 578, 513, 506, 579, 580, 581, 582, 583, 584] (by decide +kernel)
set_option maxRecDepth 20000 in
theorem wsL_law_q7 : ∀ w ∈ wsL_law0_r7, w ∈ lw_tbl := q_inp wsL_law0_r7 [586, 21, 587, 571, 572, 573, 574, 299, 300, 301, 302, 303, 304, 305, 306, 307, 45, 325, 5, 326, 588, 589, 590, 591] (by decide +kernel)
set_option maxRecDepth 20000 in
theorem wsL_law_q8 : ∀ w ∈ wsL_law0_r8, w ∈ lw_tbl := q_inp wsL_law0_r8 [327, 328, 329, 330, 331, 332, 333, 334, 336, 6, 337, 338, 339, 340, 592, 593, 594, 595, 599, 596, 597, 598, 341, 342] (by decide +kernel)
set_option maxRecDepth 20000 in
theorem wsL_law_q9 : ∀ w ∈ wsL_law0_r9, w ∈ lw_tbl := q_inp wsL_law0_r9 [343, 344, 345, 369, 370, 371, 372, 373, 374, 375, 376, 49, 392, 394, 7, 395, 396, 346, 47, 401, 8, 402, 403, 406] (by decide +kernel)
set_option maxRecDepth 20000 in
theorem wsL_law_q10 : ∀ w ∈ wsL_law0_r10, w ∈ lw_tbl := q_inp wsL_law0_r10 [9, 407, 408, 410, 10, 411, 412, 413, 34, 414, 415, 417, 11, 418, 419, 421, 12, 422, 423, 425, 13, 426, 427, 428] (by decide +kernel)
set_option maxRecDepth 20000 in
theorem wsL_law_q11 : ∀ w ∈ wsL_law0_r11, w ∈ lw_tbl := q_inp wsL_law0_r11 [429, 431, 14, 432, 435, 15, 436, 437, 438, 439, 440, 442, 16, 443, 444, 445, 446, 187, 0, 188, 600, 601, 602, 603] (by decide +kernel)
set_option maxRecDepth 20000 in
theorem wsL_law_q12 : ∀ w ∈ wsL_law0_r12, w ∈ lw_tbl := q_inp wsL_law0_r12 [518, 517, 524, 604, 606, 22, 607, 608, 609, 520, 621, 610, 612, 23, 613, 614, 616, 24, 617, 618, 619, 620, 622, 624] (by decide +kernel)
set_option maxRecDepth 20000 in
theorem wsL_law_q13 : ∀ w ∈ wsL_law0_r13, w ∈ lw_tbl := q_inp wsL_law0_r13 [25, 625, 626, 628, 26, 629, 630, 631, 633, 27, 634, 635, 636, 637, 447, 448, 449, 450, 451, 452, 453, 454, 456, 17] (by decide +kernel)
set_option maxRecDepth 20000 in
theorem wsL_law_q14 : ∀ w ∈ wsL_law0_r14, w ∈ lw_tbl := q_inp wsL_law0_r14 [457, 638, 639, 640, 641, 181, 182, 183, 184, 642, 643, 644, 645, 458, 459, 460, 461, 462, 463, 464, 465, 467, 18, 468] (by decide +kernel)
set_option maxRecDepth 20000 in
theorem wsL_law_q15 : ∀ w ∈ wsL_law0_r15, w ∈ lw_tbl := q_inp wsL_law0_r15 [646, 647, 648, 649, 650, 652, 28, 653, 470, 471, 472, 473, 474, 475, 476, 654, 655, 656, 657, 189, 190, 191, 192, 658] (by decide +kernel)
set_option maxRecDepth 20000 in
theorem wsL_law_q16 : ∀ w ∈ wsL_law0_r16, w ∈ lw_tbl := q_inp wsL_law0_r16 [659, 660, 661, 193, 194, 195, 196, 662, 663, 664, 665, 477, 478, 479, 480, 481, 482, 483, 486, 19, 487, 488, 490, 20] (by decide +kernel)
set_option maxRecDepth 20000 in
theorem wsL_law_q17 : ∀ w ∈ wsL_law0_r17, w ∈ lw_tbl := q_inp wsL_law0_r17 [491, 666, 667, 668, 669, 525, 670, 672, 29, 673, 674, 676, 30, 677, 678, 680, 31, 681, 493, 494, 495, 496, 497, 498] (by decide +kernel)
set_option maxRecDepth 20000 in
theorem wsL_law_q18 : ∀ w ∈ wsL_law0_r18, w ∈ lw_tbl := q_inp wsL_law0_r18 [499, 682, 683, 684, 685] (by decide +kernel)
set_option maxRecDepth 20000 in
theorem wsL_law_uX4 : ∀ w ∈ wsX40, w ∈ lw_tbl := q_inp wsX40 [156, 158, 160, 162, 164, 166, 168, 170, 172, 174, 176, 178] (by decide +kernel)
set_option maxRecDepth 20000 in
theorem wsL_law_uX5 : ∀ w ∈ wsX50, w ∈ lw_tbl := q_inp wsX50 [527, 529, 531, 533, 535, 537, 539, 541, 543, 545, 547, 549, 551, 553, 555, 557, 559, 561, 563, 565, 567] (by decide +kernel)
set_option maxRecDepth 20000 in
theorem wsL_law_uX2 : ∀ w ∈ wsX20, w ∈ lw_tbl := q_inp wsX20 [82, 84, 86, 88] (by decide +kernel)
set_option maxRecDepth 20000 in
theorem wsL_law_uX3 : ∀ w ∈ wsX30, w ∈ lw_tbl := q_inp wsX30 [120, 122] (by decide +kernel)
set_option maxRecDepth 20000 in
theorem wsL_law_uX1 : ∀ w ∈ wsX10, w ∈ lw_tbl := q_inp wsX10 [135, 137] (by decide +kernel)
set_option maxRecDepth 20000 in
theorem wsL_law_uX0 : ∀ w ∈ wsX00, w ∈ lw_tbl := q_inp wsX00 [111, 113, 115] (by decide +kernel)
set_option maxRecDepth 20000 in
theorem wsL_law_uJx00060 : ∀ w ∈ wsJx000600, w ∈ lw_tbl := q_inp wsJx000600 [353, 354, 355, 356, 357, 358] (by decide +kernel)
theorem wsL_law_in0 : ∀ w ∈ wsL_law0, w ∈ lw_tbl := fun w h => (List.mem_append.mp h).elim (fun h => (List.mem_append.mp h).elim (fun h => (List.mem_append.mp h).elim (fun h => (List.mem_append.mp h).elim (fun h => (List.mem_append.mp h).elim (fun h => (List.mem_append.mp h).elim (fun h => (List.mem_append.mp h).elim (fun h => (List.mem_append.mp h).elim (fun h => (List.mem_append.mp h).elim (wsL_law_q1 w) (fun h => (List.mem_append.mp h).elim (wsL_law_q2 w) (fun h => (List.mem_append.mp h).elim (wsL_law_q3 w) (fun h => (List.mem_append.mp h).elim (wsL_law_q4 w) (fun h => (List.mem_append.mp h).elim (wsL_law_q5 w) (fun h => (List.mem_append.mp h).elim (wsL_law_q6 w) (fun h => (List.mem_append.mp h).elim (wsL_law_q7 w) (fun h => (List.mem_append.mp h).elim (wsL_law_q8 w) (fun h => (List.mem_append.mp h).elim (wsL_law_q9 w) (fun h => (List.mem_append.mp h).elim (wsL_law_q10 w) (fun h => (List.mem_append.mp h).elim (wsL_law_q11 w) (fun h => (List.mem_append.mp h).elim (wsL_law_q12 w) (fun h => (List.mem_append.mp h).elim (wsL_law_q13 w) (fun h => (List.mem_append.mp h).elim (wsL_law_q14 w) (fun h => (List.mem_append.mp h).elim (wsL_law_q15 w) (fun h => (List.mem_append.mp h).elim (wsL_law_q16 w) (fun h => (List.mem_append.mp h).elim (wsL_law_q17 w) (fun h => wsL_law_q18 w h)))))))))))))))))) (wsL_law_uX4 w)) (wsL_law_uX5 w)) (wsL_law_uX2 w)) (wsL_law_uX3 w)) (wsL_law_uX1 w)) (wsL_law_uX0 w)) (wsL_law_uJx00060 w)) (fun h => absurd h List.not_mem_nil)
theorem wsL_law_x0 : ∀ w ∈ (vx_atM "java/lang/ArrayIndexOutOfBoundsException" ["java/lang/IndexOutOfBoundsException", "java/lang/RuntimeException", "java/lang/Exception"]).filter goodWord, w ∈ lw_tbl := by decide +kernel
theorem wsL_law_x1 : ∀ w ∈ (vx_atS RX4 152 "java/lang/UnsupportedOperationException" ["java/lang/RuntimeException", "java/lang/Exception"]).filter goodWord, w ∈ lw_tbl := by decide +kernel
theorem wsL_law_x2 : ∀ w ∈ (vx_atS RX4 90 "java/lang/IllegalStateException" ["java/lang/RuntimeException", "java/lang/Exception"]).filter goodWord, w ∈ lw_tbl := by decide +kernel
theorem wsL_law_x3 : ∀ w ∈ (vx_atS RX4 157 "java/lang/IllegalArgumentException" ["java/lang/RuntimeException", "java/lang/Exception"]).filter goodWord, w ∈ lw_tbl := by decide +kernel
theorem wsL_law_in : ∀ w ∈ wsL_law, w ∈ lw_tbl := fun w h => (List.mem_append.mp h).elim (fun h => (List.mem_append.mp h).elim (fun h => (List.mem_append.mp h).elim (fun h => (List.mem_append.mp h).elim (fun h => wsL_law_in0 w h) (fun h => wsL_law_x0 w h)) (fun h => wsL_law_x1 w h)) (fun h => wsL_law_x2 w h)) (fun h => wsL_law_x3 w h)
theorem inlX0 : ∀ w ∈ wsX00, w ∈ wsL_law := fun _ h => List.mem_append_left _ (List.mem_append_left _ (List.mem_append_left _ (List.mem_append_left _ (List.mem_append_left _ (List.mem_append_left _ (List.mem_append_right _ h))))))
theorem inX0 : ∀ w ∈ wsX00, w ∈ lw_tbl := fun w h => wsL_law_in w (inlX0 w h)
theorem inlX1 : ∀ w ∈ wsX10, w ∈ wsL_law := fun _ h => List.mem_append_left _ (List.mem_append_left _ (List.mem_append_left _ (List.mem_append_left _ (List.mem_append_left _ (List.mem_append_left _ (List.mem_append_left _ (List.mem_append_right _ h)))))))
theorem inX1 : ∀ w ∈ wsX10, w ∈ lw_tbl := fun w h => wsL_law_in w (inlX1 w h)
theorem inlX2 : ∀ w ∈ wsX20, w ∈ wsL_law := fun _ h => List.mem_append_left _ (List.mem_append_left _ (List.mem_append_left _ (List.mem_append_left _ (List.mem_append_left _ (List.mem_append_left _ (List.mem_append_left _ (List.mem_append_left _ (List.mem_append_left _ (List.mem_append_right _ h)))))))))
theorem inX2 : ∀ w ∈ wsX20, w ∈ lw_tbl := fun w h => wsL_law_in w (inlX2 w h)
theorem inlX3 : ∀ w ∈ wsX30, w ∈ wsL_law := fun _ h => List.mem_append_left _ (List.mem_append_left _ (List.mem_append_left _ (List.mem_append_left _ (List.mem_append_left _ (List.mem_append_left _ (List.mem_append_left _ (List.mem_append_left _ (List.mem_append_right _ h))))))))
theorem inX3 : ∀ w ∈ wsX30, w ∈ lw_tbl := fun w h => wsL_law_in w (inlX3 w h)
theorem inlX4 : ∀ w ∈ wsX40, w ∈ wsL_law := fun _ h => List.mem_append_left _ (List.mem_append_left _ (List.mem_append_left _ (List.mem_append_left _ (List.mem_append_left _ (List.mem_append_left _ (List.mem_append_left _ (List.mem_append_left _ (List.mem_append_left _ (List.mem_append_left _ (List.mem_append_left _ (List.mem_append_right _ h)))))))))))
theorem inX4 : ∀ w ∈ wsX40, w ∈ lw_tbl := fun w h => wsL_law_in w (inlX4 w h)
theorem inlX5 : ∀ w ∈ wsX50, w ∈ wsL_law := fun _ h => List.mem_append_left _ (List.mem_append_left _ (List.mem_append_left _ (List.mem_append_left _ (List.mem_append_left _ (List.mem_append_left _ (List.mem_append_left _ (List.mem_append_left _ (List.mem_append_left _ (List.mem_append_left _ (List.mem_append_right _ h))))))))))
theorem inX5 : ∀ w ∈ wsX50, w ∈ lw_tbl := fun w h => wsL_law_in w (inlX5 w h)
theorem inJx145de : ∀ w ∈ wsJx145de0, w ∈ lw_tbl := by decide +kernel
theorem inlJx00060 : ∀ w ∈ wsJx000600, w ∈ wsL_law := fun _ h => List.mem_append_left _ (List.mem_append_left _ (List.mem_append_left _ (List.mem_append_left _ (List.mem_append_left _ (List.mem_append_right _ h)))))
theorem inJx00060 : ∀ w ∈ wsJx000600, w ∈ lw_tbl := fun w h => wsL_law_in w (inlJx00060 w h)
theorem inJ9 : ∀ w ∈ wsJ90, w ∈ lw_tbl := by decide +kernel
theorem inJ0 : ∀ w ∈ wsJ00, w ∈ lw_tbl := by decide +kernel
theorem inJ7 : ∀ w ∈ wsJ70, w ∈ lw_tbl := by decide +kernel
