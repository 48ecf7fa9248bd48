/-! the law's words among the tables', by their places -/
theorem z_mem {ws big : List Cond} (ps : List Nat) (e : ws = ps.filterMap (fun i => big[i]?)) : ∀ w ∈ ws, w ∈ big := by
  intro w h
  rw [e] at h
  obtain ⟨i, -, hi⟩ := List.mem_filterMap.mp h
  exact List.mem_of_getElem? hi
theorem z_mapp {a b big : List Cond} (ha : ∀ w ∈ a, w ∈ big) (hb : ∀ w ∈ b, w ∈ big) : ∀ w ∈ a ++ b, w ∈ big := fun w h => (List.mem_append.mp h).elim (ha w) (hb w)
set_option maxRecDepth 20000 in
theorem zl_wsL_law0_r1 : ∀ w ∈ wsL_law0_r1, w ∈ lw_tbl := z_mem [30, 31, 15, 639, 57, 638, 375, 18, 376, 637, 51, 52, 32, 33, 34, 35, 36, 37, 38, 39, 16, 116, 74, 75] (by decide +kernel)
set_option maxRecDepth 20000 in
theorem zl_wsL_law0_r2 : ∀ w ∈ wsL_law0_r2, w ∈ lw_tbl := z_mem [19, 117, 118, 119, 40, 41, 42, 43, 58, 44, 45, 17, 59, 60, 61, 62, 46, 47, 48, 49, 50, 53, 76, 77] (by decide +kernel)
set_option maxRecDepth 20000 in
theorem zl_wsL_law0_r3 : ∀ w ∈ wsL_law0_r3, w ∈ lw_tbl := z_mem [78, 79, 100, 101, 80, 102, 82, 83, 20, 103, 104, 81, 84, 85, 86, 87, 88, 90, 91, 92, 89, 617, 618, 14] (by decide +kernel)
set_option maxRecDepth 20000 in
theorem zl_wsL_law0_r4 : ∀ w ∈ wsL_law0_r4, w ∈ lw_tbl := z_mem [619, 620, 621, 21, 627, 472, 623, 624, 625, 445, 626, 525, 526, 527, 528, 532, 533, 534, 535, 589, 590, 591, 592, 294] (by decide +kernel)
set_option maxRecDepth 20000 in
theorem zl_wsL_law0_r5 : ∀ w ∈ wsL_law0_r5, w ∈ lw_tbl := z_mem [25, 548, 26, 212, 213, 214, 576, 577, 578, 137, 138, 139, 140, 595, 596, 597, 598, 547, 399, 400, 401, 599, 600, 601] (by decide +kernel)
set_option maxRecDepth 20000 in
theorem zl_wsL_law0_r6 : ∀ w ∈ wsL_law0_r6, w ∈ lw_tbl := z_mem [602, 603, 604, 605, 606, 407, 398, 584, 585, 586, 587, 452, 27, 466, 468, 454, 455, 456, 457, 459, 461, 470, 536, 501] (by decide +kernel)
set_option maxRecDepth 20000 in
theorem zl_wsL_law0_r7 : ∀ w ∈ wsL_law0_r7, w ∈ lw_tbl := z_mem [502, 503, 537, 538, 539, 540, 133, 135, 0, 136, 141, 28, 542, 255, 256, 257, 241, 229, 230, 231, 258, 259, 260, 261] (by decide +kernel)
set_option maxRecDepth 20000 in
theorem zl_wsL_law0_r8 : ∀ w ∈ wsL_law0_r8, w ∈ lw_tbl := z_mem [543, 544, 545, 546, 246, 247, 248, 249, 564, 565, 566, 567, 568, 569, 570, 571, 471, 500, 608, 609, 610, 611, 463, 612] (by decide +kernel)
set_option maxRecDepth 20000 in
theorem zl_wsL_law0_r9 : ∀ w ∈ wsL_law0_r9, w ∈ lw_tbl := z_mem [613, 614, 615, 291, 292, 293, 220, 221, 222, 223, 224, 225, 226, 227, 228, 529, 530, 531, 469, 572, 573, 574, 575, 242] (by decide +kernel)
set_option maxRecDepth 20000 in
theorem zl_wsL_law0_r10 : ∀ w ∈ wsL_law0_r10, w ∈ lw_tbl := z_mem [243, 244, 245, 580, 581, 582, 583, 607, 493, 494, 495, 322, 323, 324, 325, 209, 210, 211, 326, 328, 5, 329, 330, 331] (by decide +kernel)
set_option maxRecDepth 20000 in
theorem zl_wsL_law0_r11 : ∀ w ∈ wsL_law0_r11, w ∈ lw_tbl := z_mem [332, 333, 334, 336, 6, 337, 338, 340, 7, 341, 342, 344, 8, 345, 274, 275, 276, 277, 279, 280, 281, 282, 346, 348] (by decide +kernel)
set_option maxRecDepth 20000 in
theorem zl_wsL_law0_r12 : ∀ w ∈ wsL_law0_r12, w ∈ lw_tbl := z_mem [9, 349, 232, 233, 234, 235, 236, 350, 351, 352, 353, 129, 130, 131, 132, 216, 218, 2, 219, 237, 238, 239, 240, 250] (by decide +kernel)
set_option maxRecDepth 20000 in
theorem zl_wsL_law0_r13 : ∀ w ∈ wsL_law0_r13, w ∈ lw_tbl := z_mem [251, 252, 253, 254, 262, 263, 264, 265, 266, 267, 268, 269, 270, 272, 3, 273, 278, 283, 284, 285, 286, 424, 425, 426] (by decide +kernel)
set_option maxRecDepth 20000 in
theorem zl_wsL_law0_r14 : ∀ w ∈ wsL_law0_r14, w ∈ lw_tbl := z_mem [427, 358, 359, 360, 419, 367, 368, 369, 370, 371, 372, 373, 374, 377, 379, 378, 29, 380, 381, 382, 383, 384, 362, 363] (by decide +kernel)
set_option maxRecDepth 20000 in
theorem zl_wsL_law0_r15 : ∀ w ∈ wsL_law0_r15, w ∈ lw_tbl := z_mem [364, 365, 366, 385, 387, 10, 388, 389, 390, 391, 393, 11, 394, 397, 395, 396, 402, 403, 404, 405, 406, 408, 409, 411] (by decide +kernel)
set_option maxRecDepth 20000 in
theorem zl_wsL_law0_r16 : ∀ w ∈ wsL_law0_r16, w ∈ lw_tbl := z_mem [12, 412, 414, 413, 415, 416, 417, 418, 420, 422, 13, 423, 310, 312, 4, 313, 354, 355, 356, 357, 441, 442, 443, 444] (by decide +kernel)
set_option maxRecDepth 20000 in
theorem zl_wsL_law0_r17 : ∀ w ∈ wsL_law0_r17, w ∈ lw_tbl := z_mem [464, 458, 460, 462, 628, 629, 447, 448, 449, 450, 451, 465, 467, 453, 488, 489, 490, 491, 492, 428, 429, 430, 431, 432] (by decide +kernel)
set_option maxRecDepth 20000 in
theorem zl_wsL_law0_r18 : ∀ w ∈ wsL_law0_r18, w ∈ lw_tbl := z_mem [433, 434, 435, 436, 437, 438, 439, 440, 287, 288, 289, 290, 318, 319, 320, 321, 314, 315, 316, 317, 496, 497, 498, 499] (by decide +kernel)
set_option maxRecDepth 20000 in
theorem zl_wsL_law0_r19 : ∀ w ∈ wsL_law0_r19, w ∈ lw_tbl := z_mem [504, 505, 506, 507, 508, 509, 511, 512, 513, 514, 515, 516, 517, 518, 519, 520, 521, 522, 523, 524] (by decide +kernel)
set_option maxRecDepth 20000 in
theorem zl_wsX40 : ∀ w ∈ wsX40, w ∈ lw_tbl := z_mem [120, 122, 124, 126] (by decide +kernel)
set_option maxRecDepth 20000 in
theorem zl_wsX20 : ∀ w ∈ wsX20, w ∈ lw_tbl := z_mem [63, 65, 67, 69, 71] (by decide +kernel)
set_option maxRecDepth 20000 in
theorem zl_wsX30 : ∀ w ∈ wsX30, w ∈ lw_tbl := z_mem [105, 107, 109, 111, 113] (by decide +kernel)
set_option maxRecDepth 20000 in
theorem zl_wsX10 : ∀ w ∈ wsX10, w ∈ lw_tbl := z_mem [54] (by decide +kernel)
set_option maxRecDepth 20000 in
theorem zl_wsX00 : ∀ w ∈ wsX00, w ∈ lw_tbl := z_mem [93, 95, 97] (by decide +kernel)
set_option maxRecDepth 20000 in
theorem zl_wsX60 : ∀ w ∈ wsX60, w ∈ lw_tbl := z_mem [630, 632, 634] (by decide +kernel)
set_option maxRecDepth 20000 in
theorem zl_wsX50 : ∀ w ∈ wsX50, w ∈ lw_tbl := z_mem [473, 475, 477, 479, 481, 483, 485] (by decide +kernel)
theorem wsL_law_in0 : ∀ w ∈ wsL_law0, w ∈ lw_tbl := (z_mapp (z_mapp (z_mapp (z_mapp (z_mapp (z_mapp (z_mapp (z_mapp (z_mapp zl_wsL_law0_r1 (z_mapp zl_wsL_law0_r2 (z_mapp zl_wsL_law0_r3 (z_mapp zl_wsL_law0_r4 (z_mapp zl_wsL_law0_r5 (z_mapp zl_wsL_law0_r6 (z_mapp zl_wsL_law0_r7 (z_mapp zl_wsL_law0_r8 (z_mapp zl_wsL_law0_r9 (z_mapp zl_wsL_law0_r10 (z_mapp zl_wsL_law0_r11 (z_mapp zl_wsL_law0_r12 (z_mapp zl_wsL_law0_r13 (z_mapp zl_wsL_law0_r14 (z_mapp zl_wsL_law0_r15 (z_mapp zl_wsL_law0_r16 (z_mapp zl_wsL_law0_r17 (z_mapp zl_wsL_law0_r18 zl_wsL_law0_r19)))))))))))))))))) zl_wsX40) zl_wsX20) zl_wsX30) zl_wsX10) zl_wsX00) zl_wsX60) zl_wsX50) (fun _ h => absurd h List.not_mem_nil))
theorem wsL_law_x0 : ∀ w ∈ (vx_atS RX4 37 "java/lang/IllegalArgumentException" ["java/lang/RuntimeException", "java/lang/Exception"]).filter goodWord, w ∈ lw_tbl := by decide +kernel
theorem wsL_law_x1 : ∀ w ∈ (vx_atS RX4 52 "java/lang/IllegalStateException" ["java/lang/RuntimeException", "java/lang/Exception"]).filter goodWord, w ∈ lw_tbl := by decide +kernel
theorem wsL_law_x2 : ∀ w ∈ (vx_atS RX4 110 "java/lang/IndexOutOfBoundsException" ["java/lang/RuntimeException", "java/lang/Exception"]).filter goodWord, w ∈ lw_tbl := by decide +kernel
theorem wsL_law_in : ∀ w ∈ wsL_law, w ∈ lw_tbl := fun w h => (List.mem_append.mp h).elim (fun h => (List.mem_append.mp h).elim (fun h => (List.mem_append.mp h).elim (fun h => wsL_law_in0 w h) (fun h => wsL_law_x0 w h)) (fun h => wsL_law_x1 w h)) (fun h => wsL_law_x2 w h)
theorem inlX0 : ∀ w ∈ wsX00, w ∈ wsL_law := fun _ h => List.mem_append_left _ (List.mem_append_left _ (List.mem_append_left _ (List.mem_append_left _ (List.mem_append_left _ (List.mem_append_left _ (List.mem_append_right _ h))))))
theorem inX0 : ∀ w ∈ wsX00, w ∈ lw_tbl := fun w h => wsL_law_in w (inlX0 w h)
theorem inlX1 : ∀ w ∈ wsX10, w ∈ wsL_law := fun _ h => List.mem_append_left _ (List.mem_append_left _ (List.mem_append_left _ (List.mem_append_left _ (List.mem_append_left _ (List.mem_append_left _ (List.mem_append_left _ (List.mem_append_right _ h)))))))
theorem inX1 : ∀ w ∈ wsX10, w ∈ lw_tbl := fun w h => wsL_law_in w (inlX1 w h)
theorem inlX2 : ∀ w ∈ wsX20, w ∈ wsL_law := fun _ h => List.mem_append_left _ (List.mem_append_left _ (List.mem_append_left _ (List.mem_append_left _ (List.mem_append_left _ (List.mem_append_left _ (List.mem_append_left _ (List.mem_append_left _ (List.mem_append_left _ (List.mem_append_right _ h)))))))))
theorem inX2 : ∀ w ∈ wsX20, w ∈ lw_tbl := fun w h => wsL_law_in w (inlX2 w h)
theorem inlX3 : ∀ w ∈ wsX30, w ∈ wsL_law := fun _ h => List.mem_append_left _ (List.mem_append_left _ (List.mem_append_left _ (List.mem_append_left _ (List.mem_append_left _ (List.mem_append_left _ (List.mem_append_left _ (List.mem_append_left _ (List.mem_append_right _ h))))))))
theorem inX3 : ∀ w ∈ wsX30, w ∈ lw_tbl := fun w h => wsL_law_in w (inlX3 w h)
theorem inlX4 : ∀ w ∈ wsX40, w ∈ wsL_law := fun _ h => List.mem_append_left _ (List.mem_append_left _ (List.mem_append_left _ (List.mem_append_left _ (List.mem_append_left _ (List.mem_append_left _ (List.mem_append_left _ (List.mem_append_left _ (List.mem_append_left _ (List.mem_append_left _ (List.mem_append_right _ h))))))))))
theorem inX4 : ∀ w ∈ wsX40, w ∈ lw_tbl := fun w h => wsL_law_in w (inlX4 w h)
theorem inlX5 : ∀ w ∈ wsX50, w ∈ wsL_law := fun _ h => List.mem_append_left _ (List.mem_append_left _ (List.mem_append_left _ (List.mem_append_left _ (List.mem_append_right _ h))))
theorem inX5 : ∀ w ∈ wsX50, w ∈ lw_tbl := fun w h => wsL_law_in w (inlX5 w h)
theorem inlX6 : ∀ w ∈ wsX60, w ∈ wsL_law := fun _ h => List.mem_append_left _ (List.mem_append_left _ (List.mem_append_left _ (List.mem_append_left _ (List.mem_append_left _ (List.mem_append_right _ h)))))
theorem inX6 : ∀ w ∈ wsX60, w ∈ lw_tbl := fun w h => wsL_law_in w (inlX6 w h)
theorem inX7 : ∀ w ∈ wsX70, w ∈ lw_tbl := by decide +kernel
theorem inJ9 : ∀ w ∈ wsJ90, w ∈ lw_tbl := by decide +kernel
theorem inJ0 : ∀ w ∈ wsJ00, w ∈ lw_tbl := by decide +kernel
theorem inJ10 : ∀ w ∈ wsJ100, w ∈ lw_tbl := by decide +kernel
set_option maxRecDepth 20000 in
theorem ggX0_init_X1_init : GoodIn wsX0_init wsX1_init := goodIn_r _ [12, 13, 2, 3, 14, 15, 16, 17, 18, 19, 20] (by decide +kernel) (by decide +kernel)
set_option maxRecDepth 20000 in
theorem gX0_init_X1_init : GoodIn wsX0_init (wsX1_init) := ggX0_init_X1_init
