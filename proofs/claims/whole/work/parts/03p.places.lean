/-! the law's words among the tables', by their places -/
theorem z_mem {ws big : List Cond} (ps : List Nat) (e : ws = ps.filterMap (fun i => big[i]?)) : ∀ w ∈ ws, w ∈ big := by
  intro w h
  rw [e] at h
  obtain ⟨i, -, hi⟩ := List.mem_filterMap.mp h
  exact List.mem_of_getElem? hi
theorem z_mapp {a b big : List Cond} (ha : ∀ w ∈ a, w ∈ big) (hb : ∀ w ∈ b, w ∈ big) : ∀ w ∈ a ++ b, w ∈ big := fun w h => (List.mem_append.mp h).elim (ha w) (hb w)
set_option maxRecDepth 20000 in
theorem zl_wsL_law0_r1 : ∀ w ∈ wsL_law0_r1, w ∈ lw_tbl := z_mem [49, 50, 35, 602, 603, 41, 794, 51, 52, 53, 54, 55, 56, 57, 58, 36, 135, 93, 94, 39, 136, 137, 138, 59] (by decide +kernel)
set_option maxRecDepth 20000 in
theorem zl_wsL_law0_r2 : ∀ w ∈ wsL_law0_r2, w ∈ lw_tbl := z_mem [60, 61, 62, 77, 63, 64, 37, 78, 79, 80, 81, 65, 66, 67, 68, 69, 70, 38, 71, 76, 72, 95, 96, 97] (by decide +kernel)
set_option maxRecDepth 20000 in
theorem zl_wsL_law0_r3 : ∀ w ∈ wsL_law0_r3, w ∈ lw_tbl := z_mem [98, 119, 120, 99, 121, 101, 102, 40, 122, 123, 100, 103, 104, 105, 106, 107, 109, 110, 111, 108, 604, 605, 606, 607] (by decide +kernel)
set_option maxRecDepth 20000 in
theorem zl_wsL_law0_r4 : ∀ w ∈ wsL_law0_r4, w ∈ lw_tbl := z_mem [610, 611, 612, 613, 335, 336, 34, 337, 338, 339, 340, 341, 342, 343, 347, 45, 419, 46, 344, 345, 346, 415, 416, 417] (by decide +kernel)
set_option maxRecDepth 20000 in
theorem zl_wsL_law0_r5 : ∀ w ∈ wsL_law0_r5, w ∈ lw_tbl := z_mem [152, 153, 154, 155, 435, 436, 437, 438, 439, 230, 231, 232, 440, 441, 442, 443, 444, 445, 446, 447, 241, 229, 631, 632] (by decide +kernel)
set_option maxRecDepth 20000 in
theorem zl_wsL_law0_r6 : ∀ w ∈ wsL_law0_r6, w ∈ lw_tbl := z_mem [633, 634, 608, 609, 642, 189, 188, 47, 635, 636, 637, 638, 640, 16, 641, 627, 628, 629, 630, 448, 449, 450, 451, 452] (by decide +kernel)
set_option maxRecDepth 20000 in
theorem zl_wsL_law0_r7 : ∀ w ∈ wsL_law0_r7, w ∈ lw_tbl := z_mem [453, 454, 455, 456, 458, 14, 459, 460, 48, 477, 321, 322, 323, 213, 165, 166, 167, 214, 215, 216, 217, 478, 479, 480] (by decide +kernel)
set_option maxRecDepth 20000 in
theorem zl_wsL_law0_r8 : ∀ w ∈ wsL_law0_r8, w ∈ lw_tbl := z_mem [481, 312, 313, 314, 315, 483, 484, 485, 486, 643, 644, 645, 646, 647, 649, 17, 650, 651, 653, 18, 654, 655, 657, 19] (by decide +kernel)
set_option maxRecDepth 20000 in
theorem zl_wsL_law0_r9 : ∀ w ∈ wsL_law0_r9, w ∈ lw_tbl := z_mem [658, 659, 661, 20, 662, 487, 488, 489, 490, 491, 492, 493, 308, 309, 310, 311, 494, 495, 496, 497, 663, 664, 665, 666] (by decide +kernel)
set_option maxRecDepth 20000 in
theorem zl_wsL_law0_r10 : ∀ w ∈ wsL_law0_r10, w ∈ lw_tbl := z_mem [498, 499, 500, 501, 502, 503, 504, 505, 506, 507, 156, 157, 158, 159, 160, 161, 162, 163, 164, 667, 668, 669, 670, 671] (by decide +kernel)
set_option maxRecDepth 20000 in
theorem zl_wsL_law0_r11 : ∀ w ∈ wsL_law0_r11, w ∈ lw_tbl := z_mem [672, 673, 674, 676, 21, 677, 678, 680, 22, 681, 510, 511, 512, 513, 514, 515, 516, 517, 518, 519, 303, 305, 11, 306] (by decide +kernel)
set_option maxRecDepth 20000 in
theorem zl_wsL_law0_r12 : ∀ w ∈ wsL_law0_r12, w ∈ lw_tbl := z_mem [260, 223, 224, 225, 226, 307, 248, 249, 250, 316, 317, 318, 319, 320, 324, 210, 211, 212, 682, 683, 684, 685, 686, 688] (by decide +kernel)
set_option maxRecDepth 20000 in
theorem zl_wsL_law0_r13 : ∀ w ∈ wsL_law0_r13, w ∈ lw_tbl := z_mem [23, 689, 690, 692, 24, 693, 521, 522, 523, 524, 525, 526, 527, 325, 327, 12, 328, 286, 234, 235, 236, 329, 287, 288] (by decide +kernel)
set_option maxRecDepth 20000 in
theorem zl_wsL_law0_r14 : ∀ w ∈ wsL_law0_r14, w ∈ lw_tbl := z_mem [289, 290, 330, 331, 332, 333, 694, 695, 696, 697, 698, 700, 25, 701, 528, 529, 530, 531, 532, 533, 534, 334, 702, 703] (by decide +kernel)
set_option maxRecDepth 20000 in
theorem zl_wsL_law0_r15 : ∀ w ∈ wsL_law0_r15, w ∈ lw_tbl := z_mem [704, 705, 536, 537, 538, 539, 540, 541, 542, 168, 170, 0, 171, 706, 707, 708, 709, 710, 712, 26, 713, 148, 149, 150] (by decide +kernel)
set_option maxRecDepth 20000 in
theorem zl_wsL_law0_r16 : ∀ w ∈ wsL_law0_r16, w ∈ lw_tbl := z_mem [151, 714, 715, 716, 717, 543, 544, 545, 546, 547, 548, 549, 718, 719, 720, 721, 550, 551, 552, 553, 554, 555, 556, 266] (by decide +kernel)
set_option maxRecDepth 20000 in
theorem zl_wsL_law0_r17 : ∀ w ∈ wsL_law0_r17, w ∈ lw_tbl := z_mem [268, 6, 269, 270, 271, 272, 273, 274, 276, 7, 277, 278, 280, 8, 281, 282, 284, 9, 285, 256, 258, 5, 259, 291] (by decide +kernel)
set_option maxRecDepth 20000 in
theorem zl_wsL_law0_r18 : ∀ w ∈ wsL_law0_r18, w ∈ lw_tbl := z_mem [292, 293, 294, 722, 723, 724, 725, 726, 728, 27, 729, 557, 558, 559, 560, 561, 562, 563, 564, 565, 566, 199, 200, 201] (by decide +kernel)
set_option maxRecDepth 20000 in
theorem zl_wsL_law0_r19 : ∀ w ∈ wsL_law0_r19, w ∈ lw_tbl := z_mem [202, 203, 177, 178, 179, 180, 181, 182, 183, 184, 185, 186, 187, 190, 191, 192, 193, 194, 204, 206, 2, 207, 208, 209] (by decide +kernel)
set_option maxRecDepth 20000 in
theorem zl_wsL_law0_r20 : ∀ w ∈ wsL_law0_r20, w ∈ lw_tbl := z_mem [218, 220, 3, 221, 228, 222, 227, 233, 237, 238, 239, 240, 242, 243, 245, 4, 246, 251, 247, 730, 731, 732, 733, 734] (by decide +kernel)
set_option maxRecDepth 20000 in
theorem zl_wsL_law0_r21 : ∀ w ∈ wsL_law0_r21, w ∈ lw_tbl := z_mem [736, 28, 737, 738, 740, 29, 741, 751, 742, 744, 30, 745, 750, 746, 748, 31, 749, 172, 173, 174, 175, 176, 195, 197] (by decide +kernel)
set_option maxRecDepth 20000 in
theorem zl_wsL_law0_r22 : ∀ w ∈ wsL_law0_r22, w ∈ lw_tbl := z_mem [1, 198, 752, 753, 754, 755, 756, 758, 32, 759, 760, 762, 763, 764, 765, 766, 768, 770, 33, 771, 568, 569, 570, 571] (by decide +kernel)
set_option maxRecDepth 20000 in
theorem zl_wsL_law0_r23 : ∀ w ∈ wsL_law0_r23, w ∈ lw_tbl := z_mem [572, 573, 574, 772, 773, 774, 775, 575, 576, 577, 578, 579, 580, 581, 582, 584, 15, 585, 776, 777, 778, 779, 586, 587] (by decide +kernel)
set_option maxRecDepth 20000 in
theorem zl_wsL_law0_r24 : ∀ w ∈ wsL_law0_r24, w ∈ lw_tbl := z_mem [588, 589, 590, 591, 592, 593, 594, 595, 596, 597, 598, 599, 600, 601, 780, 781, 782, 783, 252, 253, 254, 255, 784, 785] (by decide +kernel)
set_option maxRecDepth 20000 in
theorem zl_wsL_law0_r25 : ∀ w ∈ wsL_law0_r25, w ∈ lw_tbl := z_mem [786, 787, 261, 262, 263, 264, 265, 295, 296, 297, 298, 299, 301, 10, 302, 788, 789, 790, 791, 792, 793] (by decide +kernel)
set_option maxRecDepth 20000 in
theorem zl_wsX40 : ∀ w ∈ wsX40, w ∈ lw_tbl := z_mem [139, 141, 143, 145] (by decide +kernel)
set_option maxRecDepth 20000 in
theorem zl_wsX50 : ∀ w ∈ wsX50, w ∈ lw_tbl := z_mem [614, 616, 618, 620, 622, 624] (by decide +kernel)
set_option maxRecDepth 20000 in
theorem zl_wsX20 : ∀ w ∈ wsX20, w ∈ lw_tbl := z_mem [82, 84, 86, 88, 90] (by decide +kernel)
set_option maxRecDepth 20000 in
theorem zl_wsX30 : ∀ w ∈ wsX30, w ∈ lw_tbl := z_mem [124, 126, 128, 130, 132] (by decide +kernel)
set_option maxRecDepth 20000 in
theorem zl_wsX10 : ∀ w ∈ wsX10, w ∈ lw_tbl := z_mem [73] (by decide +kernel)
set_option maxRecDepth 20000 in
theorem zl_wsX00 : ∀ w ∈ wsX00, w ∈ lw_tbl := z_mem [112, 114, 116] (by decide +kernel)
theorem wsL_law_in0 : ∀ w ∈ wsL_law0, w ∈ lw_tbl := (z_mapp (z_mapp (z_mapp (z_mapp (z_mapp (z_mapp (z_mapp (z_mapp zl_wsL_law0_r1 (z_mapp zl_wsL_law0_r2 (z_mapp zl_wsL_law0_r3 (z_mapp zl_wsL_law0_r4 (z_mapp zl_wsL_law0_r5 (z_mapp zl_wsL_law0_r6 (z_mapp zl_wsL_law0_r7 (z_mapp zl_wsL_law0_r8 (z_mapp zl_wsL_law0_r9 (z_mapp zl_wsL_law0_r10 (z_mapp zl_wsL_law0_r11 (z_mapp zl_wsL_law0_r12 (z_mapp zl_wsL_law0_r13 (z_mapp zl_wsL_law0_r14 (z_mapp zl_wsL_law0_r15 (z_mapp zl_wsL_law0_r16 (z_mapp zl_wsL_law0_r17 (z_mapp zl_wsL_law0_r18 (z_mapp zl_wsL_law0_r19 (z_mapp zl_wsL_law0_r20 (z_mapp zl_wsL_law0_r21 (z_mapp zl_wsL_law0_r22 (z_mapp zl_wsL_law0_r23 (z_mapp zl_wsL_law0_r24 zl_wsL_law0_r25)))))))))))))))))))))))) zl_wsX40) zl_wsX50) zl_wsX20) zl_wsX30) zl_wsX10) zl_wsX00) (fun _ h => absurd h List.not_mem_nil))
theorem wsL_law_x0 : ∀ w ∈ (vx_atS RX4 37 "java/lang/IllegalArgumentException" ["java/lang/RuntimeException", "java/lang/Exception"]).filter goodWord, w ∈ lw_tbl := by decide +kernel
theorem wsL_law_x1 : ∀ w ∈ (vx_atS RX4 52 "java/lang/IllegalStateException" ["java/lang/RuntimeException", "java/lang/Exception"]).filter goodWord, w ∈ lw_tbl := by decide +kernel
theorem wsL_law_x2 : ∀ w ∈ (vx_atS RX4 110 "java/lang/IndexOutOfBoundsException" ["java/lang/RuntimeException", "java/lang/Exception"]).filter goodWord, w ∈ lw_tbl := by decide +kernel
theorem wsL_law_in : ∀ w ∈ wsL_law, w ∈ lw_tbl := fun w h => (List.mem_append.mp h).elim (fun h => (List.mem_append.mp h).elim (fun h => (List.mem_append.mp h).elim (fun h => wsL_law_in0 w h) (fun h => wsL_law_x0 w h)) (fun h => wsL_law_x1 w h)) (fun h => wsL_law_x2 w h)
theorem inlX0 : ∀ w ∈ wsX00, w ∈ wsL_law := fun _ h => List.mem_append_left _ (List.mem_append_left _ (List.mem_append_left _ (List.mem_append_left _ (List.mem_append_right _ h))))
theorem inX0 : ∀ w ∈ wsX00, w ∈ lw_tbl := fun w h => wsL_law_in w (inlX0 w h)
theorem inlX1 : ∀ w ∈ wsX10, w ∈ wsL_law := fun _ h => List.mem_append_left _ (List.mem_append_left _ (List.mem_append_left _ (List.mem_append_left _ (List.mem_append_left _ (List.mem_append_right _ h)))))
theorem inX1 : ∀ w ∈ wsX10, w ∈ lw_tbl := fun w h => wsL_law_in w (inlX1 w h)
theorem inlX2 : ∀ w ∈ wsX20, w ∈ wsL_law := fun _ h => List.mem_append_left _ (List.mem_append_left _ (List.mem_append_left _ (List.mem_append_left _ (List.mem_append_left _ (List.mem_append_left _ (List.mem_append_left _ (List.mem_append_right _ h)))))))
theorem inX2 : ∀ w ∈ wsX20, w ∈ lw_tbl := fun w h => wsL_law_in w (inlX2 w h)
theorem inlX3 : ∀ w ∈ wsX30, w ∈ wsL_law := fun _ h => List.mem_append_left _ (List.mem_append_left _ (List.mem_append_left _ (List.mem_append_left _ (List.mem_append_left _ (List.mem_append_left _ (List.mem_append_right _ h))))))
theorem inX3 : ∀ w ∈ wsX30, w ∈ lw_tbl := fun w h => wsL_law_in w (inlX3 w h)
theorem inlX4 : ∀ w ∈ wsX40, w ∈ wsL_law := fun _ h => List.mem_append_left _ (List.mem_append_left _ (List.mem_append_left _ (List.mem_append_left _ (List.mem_append_left _ (List.mem_append_left _ (List.mem_append_left _ (List.mem_append_left _ (List.mem_append_left _ (List.mem_append_right _ h)))))))))
theorem inX4 : ∀ w ∈ wsX40, w ∈ lw_tbl := fun w h => wsL_law_in w (inlX4 w h)
theorem inlX5 : ∀ w ∈ wsX50, w ∈ wsL_law := fun _ h => List.mem_append_left _ (List.mem_append_left _ (List.mem_append_left _ (List.mem_append_left _ (List.mem_append_left _ (List.mem_append_left _ (List.mem_append_left _ (List.mem_append_left _ (List.mem_append_right _ h))))))))
theorem inX5 : ∀ w ∈ wsX50, w ∈ lw_tbl := fun w h => wsL_law_in w (inlX5 w h)
theorem inJx8e188 : ∀ w ∈ wsJx8e1880, w ∈ lw_tbl := by decide +kernel
theorem inJ9 : ∀ w ∈ wsJ90, w ∈ lw_tbl := by decide +kernel
theorem inJ0 : ∀ w ∈ wsJ00, w ∈ lw_tbl := by decide +kernel
theorem inJ10 : ∀ w ∈ wsJ100, w ∈ lw_tbl := by decide +kernel
set_option maxRecDepth 20000 in
theorem ggX0_init_X1_init : GoodIn wsX0_init wsX1_init := goodIn_r _ [12, 13, 2, 3, 14, 15, 16, 17, 18, 19, 20] (by decide +kernel) (by decide +kernel)
set_option maxRecDepth 20000 in
theorem gX0_init_X1_init : GoodIn wsX0_init (wsX1_init) := ggX0_init_X1_init

