set_option maxRecDepth 20000 in
theorem ggL_law_X4_init : GoodIn wsL_law wsX4_init := goodIn_r _ [14, 15, 16, 17, 18, 19, 20, 21, 22, 23, 24, 25, 26, 27, 28, 29, 30, 31, 32, 33, 34, 35, 36, 37, 38, 39, 40, 41, 42, 43, 44, 10, 7, 11, 4, 45, 46, 47, 48, 49, 50, 51, 52, 53, 54, 55, 56, 57, 58, 59, 60, 61, 62, 63, 64, 65, 66, 67, 68, 456, 457, 458, 459, 460, 452, 453, 454, 455, 461, 462, 463, 464, 465, 466, 467, 468, 469] (by decide +kernel) (by decide +kernel)
set_option maxRecDepth 20000 in
theorem gL_law_X4_init : GoodIn wsL_law (wsX4_init) := ggL_law_X4_init
set_option maxRecDepth 20000 in
theorem ggL_law_L_build : GoodIn wsL_law wsL_build := goodIn_ca (goodIn_ca (goodIn_ca (goodIn_r _ [72, 73, 74, 75, 76, 77, 78, 79, 80, 16, 17, 81, 82, 83, 84, 71, 85, 86, 87, 88, 89, 90, 91, 92, 93, 2, 94, 95, 96, 97, 98, 21, 25, 99, 100, 101, 102, 103, 104, 105, 106, 107, 20, 108, 32, 109, 110, 111, 112, 36, 37, 113, 114, 115, 35, 116, 45, 117, 118, 119, 24, 120, 57, 58, 53, 121, 122, 123, 56, 124, 65, 66, 67, 125, 126, 127, 128, 129, 130, 131, 132, 133, 134, 135, 136, 137, 4, 138, 139, 140, 141, 142, 143, 144, 145, 146, 147, 148, 149, 150, 151, 152, 153, 154, 155, 156, 157, 158, 159, 38, 160, 161, 162, 163, 164, 165, 166, 167, 39, 168, 169, 170, 171, 172, 173, 174, 175, 176, 177, 178, 179, 180, 181, 182, 183, 184, 185, 186, 187, 188, 189, 190, 191, 192, 193, 194, 195, 196, 197, 198, 199, 200, 201, 202, 203, 204, 205, 206, 470, 471, 472, 473, 474, 475, 476, 477, 478, 479, 452, 453, 454, 455, 456, 457, 458, 459, 460, 466, 461, 462, 463, 464, 465, 467, 468, 469] (by decide +kernel) (by decide +kernel)) (goodIn_sub (fun _ h => List.mem_append_left _ (List.mem_append_left _ (List.mem_append_right _ h))) (by decide +kernel))) (goodIn_sub (fun _ h => List.mem_append_left _ (List.mem_append_right _ h)) (by decide +kernel))) (goodIn_sub (fun _ h => List.mem_append_right _ h) (by decide +kernel))
set_option maxRecDepth 20000 in
theorem gL_law_L_build : GoodIn wsL_law (va_wsS RL 67 yL_build wsL_build) := goodIn_app (goodIn_of _ (by decide +kernel)) ggL_law_L_build
set_option maxRecDepth 20000 in
theorem ggL_law_L_cell : GoodIn wsL_law wsL_cell := goodIn_r _ [85, 86] (by decide +kernel) (by decide +kernel)
set_option maxRecDepth 20000 in
theorem gL_law_L_cell : GoodIn wsL_law (va_wsS RL 62 yL_cell wsL_cell) := goodIn_app (goodIn_of _ (by decide +kernel)) ggL_law_L_cell
set_option maxRecDepth 20000 in
theorem ggL_law_L_act : GoodIn wsL_law wsL_act := goodIn_ca (goodIn_ca (goodIn_ca (goodIn_r _ [209, 76, 77, 210, 87, 88, 71, 89, 90, 142, 143, 144, 132, 145, 141, 146, 147, 148, 2, 149, 95, 96, 97, 98, 21, 150, 151, 152, 153, 154, 155, 105, 106, 107, 20, 108, 32, 156, 157, 158, 159, 38, 160, 161, 162, 35, 163, 45, 164, 165, 166, 167, 39, 168, 169, 170, 171, 113, 114, 115, 116, 172, 173, 174, 175, 176, 177, 178, 179, 180, 181, 182, 75, 183, 82, 184, 4, 185, 211, 212, 213, 214, 102, 103, 104, 99, 100, 101, 215, 216, 217, 218, 37, 219, 220, 221, 222, 127, 128, 129, 130, 81, 131, 133, 134, 135, 136, 137, 16, 17, 138, 139, 140, 91, 92, 93, 94, 25, 109, 110, 111, 112, 36, 117, 118, 119, 24, 120, 57, 58, 53, 121, 122, 123, 56, 124, 65, 66, 67, 125, 126, 223, 224, 225, 226, 186, 187, 188, 189, 190, 191, 192, 193, 194, 195, 196, 197, 198, 199, 200, 201, 202, 203, 204, 205, 206, 470, 471, 472, 473, 474, 475, 476, 477, 478, 479, 452, 453, 454, 455, 456, 457, 458, 459, 460, 466, 461, 462, 463, 464, 465, 467, 468, 469] (by decide +kernel) (by decide +kernel)) (goodIn_sub (fun _ h => List.mem_append_left _ (List.mem_append_left _ (List.mem_append_right _ h))) (by decide +kernel))) (goodIn_sub (fun _ h => List.mem_append_left _ (List.mem_append_right _ h)) (by decide +kernel))) (goodIn_sub (fun _ h => List.mem_append_right _ h) (by decide +kernel))
set_option maxRecDepth 20000 in
theorem gL_law_L_act : GoodIn wsL_law (va_wsS RL 71 yL_act wsL_act) := goodIn_app (goodIn_of _ (by decide +kernel)) ggL_law_L_act
set_option maxRecDepth 20000 in
theorem ggL_law_X4_count : GoodIn wsL_law wsX4_count := goodIn_ca (goodIn_r _ [230, 231, 232, 2, 233, 154, 155, 99, 100, 101, 234, 235, 236, 237, 25, 21, 238, 239, 240, 24, 241, 50, 105, 106, 107, 20, 108, 32, 242, 243, 244, 245, 246, 247, 248, 249, 198, 199, 200, 201, 57, 58, 202, 203, 204, 56, 205, 65, 206, 161, 162, 35, 163, 45, 250, 251, 252, 253, 254, 255, 256, 257, 258, 259, 260, 261, 66, 262, 263, 264, 265, 266, 267, 268, 269, 53, 270, 271, 272, 273, 274, 51, 452, 453, 454, 455, 461, 462, 463, 464, 465, 456, 457, 458, 459, 460, 467, 468, 469, 466] (by decide +kernel) (by decide +kernel)) (goodIn_sub (fun _ h => List.mem_append_right _ h) (by decide +kernel))
set_option maxRecDepth 20000 in
theorem gL_law_X4_count : GoodIn wsL_law (wsV RL 75 RX4 yX4_count wsX4_count) := goodIn_app (goodIn_of _ (by decide +kernel)) ggL_law_X4_count
set_option maxRecDepth 20000 in
theorem ggL_law_X4_parrot : GoodIn wsL_law wsX4_parrot := goodIn_ca (goodIn_r _ [278, 150, 151, 152, 2, 153, 154, 155, 21, 105, 106, 107, 20, 108, 32, 231, 232, 233, 99, 100, 101, 279, 280, 281, 282, 25, 198, 199, 200, 24, 201, 57, 58, 202, 203, 204, 56, 205, 65, 206, 161, 162, 35, 163, 45, 266, 267, 268, 269, 53, 270, 283, 284, 285, 286, 36, 160, 215, 216, 217, 218, 37, 172, 173, 174, 175, 38, 287, 288, 289, 290, 291, 157, 158, 159, 164, 165, 166, 167, 39, 292, 293, 294, 295, 452, 453, 454, 455, 456, 457, 458, 459, 460, 461, 462, 463, 464, 465, 467, 468, 469, 466] (by decide +kernel) (by decide +kernel)) (goodIn_sub (fun _ h => List.mem_append_right _ h) (by decide +kernel))
set_option maxRecDepth 20000 in
theorem gL_law_X4_parrot : GoodIn wsL_law (wsV RL 82 RX4 yX4_parrot wsX4_parrot) := goodIn_app (goodIn_of _ (by decide +kernel)) ggL_law_X4_parrot
set_option maxRecDepth 20000 in
theorem ggL_law_X4_half : GoodIn wsL_law wsX4_half := goodIn_ca (goodIn_r _ [299, 150, 151, 152, 2, 153, 154, 155, 21, 105, 106, 107, 20, 108, 32, 231, 232, 233, 99, 100, 101, 300, 301, 302, 303, 25, 254, 255, 256, 24, 257, 58, 57, 304, 203, 204, 56, 205, 65, 206, 161, 162, 35, 163, 45, 258, 259, 260, 261, 66, 305, 306, 307, 308, 67, 452, 453, 454, 455, 456, 457, 458, 459, 460, 461, 462, 463, 464, 465, 467, 468, 469, 466] (by decide +kernel) (by decide +kernel)) (goodIn_sub (fun _ h => List.mem_append_right _ h) (by decide +kernel))
set_option maxRecDepth 20000 in
theorem gL_law_X4_half : GoodIn wsL_law (wsV RL 85 RX4 yX4_half wsX4_half) := goodIn_app (goodIn_of _ (by decide +kernel)) ggL_law_X4_half
set_option maxRecDepth 20000 in
theorem ggL_law_X4_foresee : GoodIn wsL_law wsX4_foresee := goodIn_ca (goodIn_ca (goodIn_r _ [312, 26, 25, 21, 27, 313, 314, 2, 315, 95, 96, 99, 100, 101, 150, 151, 152, 153, 154, 155, 105, 106, 107, 20, 108, 32, 316, 317, 318, 24, 319, 50, 51, 53, 57, 58, 320, 321, 322, 35, 323, 45, 324, 6, 7, 8, 325, 326, 327, 328, 329, 330, 331, 56, 332, 65, 66, 67, 333, 334, 335, 336, 337, 338, 339, 340, 341, 342, 343, 344, 293, 294, 295, 38, 37, 160, 161, 162, 163, 164, 165, 166, 167, 39, 345, 346, 347, 348, 349, 350, 267, 268, 269, 270, 351, 199, 200, 201, 202, 203, 204, 205, 206, 126, 114, 115, 116, 352, 255, 256, 257, 353, 354, 355, 356, 357, 125, 358, 359, 360, 361, 362, 10, 11, 363, 284, 285, 286, 36, 198, 452, 453, 454, 455, 456, 457, 458, 459, 460, 461, 462, 463, 464, 465, 466, 467, 468, 469] (by decide +kernel) (by decide +kernel)) (goodIn_sub (fun _ h => List.mem_append_left _ (List.mem_append_left _ (List.mem_append_right _ h))) (by decide +kernel))) (goodIn_sub (fun _ h => List.mem_append_right _ h) (by decide +kernel))
set_option maxRecDepth 20000 in
theorem gL_law_X4_foresee : GoodIn wsL_law (wsV RL 89 RX4 yX4_foresee wsX4_foresee) := goodIn_app (goodIn_of _ (by decide +kernel)) ggL_law_X4_foresee
set_option maxRecDepth 20000 in
theorem ggL_law_X4_agrees : GoodIn wsL_law wsX4_agrees := goodIn_r _ [367, 26, 25, 21, 27, 316, 317, 318, 24, 319, 50, 51, 53, 57, 58, 320, 321, 322, 35, 323, 45, 324, 6, 7, 8, 325, 326, 327, 328, 329, 330, 331, 56, 332, 65, 66, 67, 333, 368, 369, 370, 2, 371, 105, 106, 107, 20, 108, 32, 198, 199, 200, 201, 202, 203, 204, 205, 206, 161, 162, 163, 372, 373, 374, 375, 334, 335, 336, 337, 338, 339, 340, 341, 342, 343, 344, 293, 294, 295, 38, 37, 160, 164, 165, 166, 167, 39, 345, 346, 347, 348, 349, 350, 267, 268, 269, 270, 351, 126, 114, 115, 116, 352, 255, 256, 257, 353, 354, 355, 356, 357, 125, 358, 359, 360, 361, 362, 10, 11, 363, 284, 285, 286, 36, 452, 453, 454, 455, 461, 462, 463, 464, 465, 466, 467, 468, 469, 456, 457, 458, 459, 460] (by decide +kernel) (by decide +kernel)
set_option maxRecDepth 20000 in
theorem gL_law_X4_agrees : GoodIn wsL_law (wsV RL 92 RX4 yX4_agrees wsX4_agrees) := goodIn_app (goodIn_of _ (by decide +kernel)) ggL_law_X4_agrees
set_option maxRecDepth 20000 in
theorem ggL_law_X4_pass : GoodIn wsL_law wsX4_pass := goodIn_ca (goodIn_r _ [379, 25, 21, 27, 313, 314, 2, 315, 95, 96, 99, 100, 101, 271, 272, 273, 24, 274, 51, 334, 335, 336, 337, 50, 338, 317, 318, 319, 53, 57, 58, 320, 321, 322, 35, 323, 45, 324, 6, 7, 8, 325, 326, 327, 328, 329, 330, 331, 56, 332, 65, 66, 67, 333, 339, 340, 341, 342, 343, 106, 107, 20, 108, 32, 344, 293, 294, 295, 38, 37, 160, 161, 162, 163, 164, 165, 166, 167, 39, 345, 346, 347, 348, 349, 350, 267, 268, 269, 270, 351, 199, 200, 201, 202, 203, 204, 205, 206, 126, 114, 115, 116, 352, 255, 256, 257, 353, 354, 355, 356, 357, 125, 358, 359, 360, 361, 362, 10, 11, 363, 284, 285, 286, 36, 452, 453, 454, 455, 461, 462, 463, 464, 465, 466, 467, 468, 469, 456, 457, 458, 459, 460] (by decide +kernel) (by decide +kernel)) (goodIn_sub (fun _ h => List.mem_append_left _ (List.mem_append_left _ (List.mem_append_right _ h))) (by decide +kernel))
set_option maxRecDepth 20000 in
theorem gL_law_X4_pass : GoodIn wsL_law (wsV RL 95 RX4 yX4_pass wsX4_pass) := goodIn_app (goodIn_of _ (by decide +kernel)) ggL_law_X4_pass
set_option maxRecDepth 20000 in
theorem ggL_law_X6_pass : GoodIn wsL_law wsX6_pass := goodIn_r _ [383, 82, 81, 384, 385, 386, 387, 388, 133, 389, 390, 391, 392, 132, 393, 394, 131, 138, 139, 140, 190, 395, 396, 141, 397, 135, 136, 137, 16, 17, 4, 398, 399, 400, 75, 401, 184, 134, 402, 224, 225, 226, 470, 471, 472, 473, 474, 475, 476, 477, 478, 479] (by decide +kernel) (by decide +kernel)
set_option maxRecDepth 20000 in
theorem gL_law_X6_pass : GoodIn wsL_law (wsV RL 98 RX6 yX6_pass wsX6_pass) := goodIn_app (goodIn_of _ (by decide +kernel)) ggL_law_X6_pass
set_option maxRecDepth 20000 in
theorem ggL_law_X4_source : GoodIn wsL_law wsX4_source := goodIn_ca (goodIn_r _ [406, 21, 150, 151, 152, 2, 153, 154, 155, 105, 106, 107, 20, 108, 32, 407, 408, 409, 410, 38, 160, 161, 162, 35, 163, 45, 164, 165, 166, 167, 39, 411, 412, 413, 414, 415, 452, 453, 454, 455, 456, 457, 458, 459, 460, 466] (by decide +kernel) (by decide +kernel)) (goodIn_sub (fun _ h => List.mem_append_right _ h) (by decide +kernel))
set_option maxRecDepth 20000 in
theorem gL_law_X4_source : GoodIn wsL_law (wsV RL 108 RX4 yX4_source wsX4_source) := goodIn_app (goodIn_of _ (by decide +kernel)) ggL_law_X4_source
set_option maxRecDepth 20000 in
theorem ggL_law_X4_votes : GoodIn wsL_law wsX4_votes := goodIn_ca (goodIn_r _ [419, 25, 195, 196, 2, 197, 95, 96, 99, 100, 101, 372, 373, 374, 375, 21, 105, 106, 107, 20, 108, 32, 198, 199, 200, 24, 201, 57, 58, 202, 203, 204, 56, 205, 65, 206, 161, 162, 35, 163, 45, 452, 453, 454, 455, 456, 457, 458, 459, 460, 461, 462, 463, 464, 465, 467, 468, 469, 466] (by decide +kernel) (by decide +kernel)) (goodIn_sub (fun _ h => List.mem_append_left _ (List.mem_append_left _ (List.mem_append_right _ h))) (by decide +kernel))
set_option maxRecDepth 20000 in
theorem gL_law_X4_votes : GoodIn wsL_law (wsV RL 111 RX4 yX4_votes wsX4_votes) := goodIn_app (goodIn_of _ (by decide +kernel)) ggL_law_X4_votes
set_option maxRecDepth 20000 in
theorem ggL_law_X4_left : GoodIn wsL_law wsX4_left := goodIn_ca (goodIn_r _ [423, 21, 25, 195, 196, 2, 197, 95, 96, 99, 100, 101, 105, 106, 107, 20, 108, 32, 254, 255, 256, 24, 257, 58, 57, 304, 203, 204, 56, 205, 65, 206, 161, 162, 35, 163, 45, 452, 453, 454, 455, 456, 457, 458, 459, 460, 461, 462, 463, 464, 465, 467, 468, 469, 466] (by decide +kernel) (by decide +kernel)) (goodIn_sub (fun _ h => List.mem_append_left _ (List.mem_append_left _ (List.mem_append_right _ h))) (by decide +kernel))
set_option maxRecDepth 20000 in
theorem gL_law_X4_left : GoodIn wsL_law (wsV RL 114 RX4 yX4_left wsX4_left) := goodIn_app (goodIn_of _ (by decide +kernel)) ggL_law_X4_left
set_option maxRecDepth 20000 in
theorem ggL_law_X4_verdict : GoodIn wsL_law wsX4_verdict := goodIn_r _ [427, 21, 25, 105, 106, 107, 20, 108, 32, 198, 199, 200, 24, 201, 57, 58, 202, 203, 204, 56, 205, 65, 206, 161, 162, 35, 163, 45, 372, 373, 374, 2, 375, 452, 453, 454, 455, 456, 457, 458, 459, 460, 461, 462, 463, 464, 465, 467, 468, 469, 466] (by decide +kernel) (by decide +kernel)
set_option maxRecDepth 20000 in
theorem gL_law_X4_verdict : GoodIn wsL_law (wsV RL 117 RX4 yX4_verdict wsX4_verdict) := goodIn_app (goodIn_of _ (by decide +kernel)) ggL_law_X4_verdict
set_option maxRecDepth 20000 in
theorem ggL_law_X6_isSame : GoodIn wsL_law wsX6_isSame := goodIn_ca (goodIn_r _ [431, 82, 4, 384, 133, 134, 184, 385, 386, 387, 388, 389, 185, 143, 144, 132, 145, 141, 402, 224, 225, 226, 138, 398, 399, 400, 75, 401, 432, 276, 277, 2, 278, 150, 151, 152, 153, 154, 155, 21, 105, 106, 107, 20, 108, 32, 231, 232, 233, 99, 100, 101, 279, 280, 281, 282, 25, 198, 199, 200, 24, 201, 57, 58, 202, 203, 204, 56, 205, 65, 206, 161, 162, 35, 163, 45, 266, 267, 268, 269, 53, 270, 283, 284, 285, 286, 36, 160, 215, 216, 217, 218, 37, 172, 173, 174, 175, 38, 287, 288, 289, 290, 291, 157, 158, 159, 164, 165, 166, 167, 39, 292, 293, 294, 295, 433, 297, 298, 299, 300, 301, 302, 303, 254, 255, 256, 257, 304, 258, 259, 260, 261, 66, 305, 306, 307, 308, 67, 434, 435, 436, 437, 438, 439, 440, 441, 442, 443, 444, 445, 446, 447, 228, 229, 230, 234, 235, 236, 237, 238, 239, 240, 241, 50, 242, 243, 244, 245, 246, 247, 248, 249, 250, 251, 252, 253, 262, 263, 264, 265, 271, 272, 273, 274, 51, 448, 449, 450, 451, 470, 471, 472, 473, 474, 475, 476, 477, 478, 479, 452, 453, 454, 455, 456, 457, 458, 459, 460, 461, 462, 463, 464, 465, 467, 468, 469, 466] (by decide +kernel) (by decide +kernel)) (goodIn_sub (fun _ h => List.mem_append_right _ h) (by decide +kernel))
set_option maxRecDepth 20000 in
theorem gL_law_X6_isSame : GoodIn wsL_law (wsV RL 120 RX6 yX6_isSame wsX6_isSame) := goodIn_app (goodIn_of _ (by decide +kernel)) ggL_law_X6_isSame
theorem dL_law_0 : decode cL_law 0 = .ok (.new 32, 3) := by decide +kernel
theorem dL_law_3 : decode cL_law 3 = .ok (.dup, 1) := by decide +kernel
theorem dL_law_4 : decode cL_law 4 = .ok (.invokespecial 66, 3) := by decide +kernel
theorem dL_law_7 : decode cL_law 7 = .ok (.astore_n 1, 1) := by decide +kernel
theorem dL_law_8 : decode cL_law 8 = .ok (.aload_n 1, 1) := by decide +kernel
theorem dL_law_9 : decode cL_law 9 = .ok (.aload_n 0, 1) := by decide +kernel
theorem dL_law_10 : decode cL_law 10 = .ok (.invokestatic 67, 3) := by decide +kernel
theorem dL_law_13 : decode cL_law 13 = .ok (.astore_n 2, 1) := by decide +kernel
theorem dL_law_14 : decode cL_law 14 = .ok (.aload_n 2, 1) := by decide +kernel
theorem dL_law_15 : decode cL_law 15 = .ok (.ifnonnull 5, 3) := by decide +kernel
theorem dL_law_18 : decode cL_law 18 = .ok (.iconst 0, 1) := by decide +kernel
theorem dL_law_19 : decode cL_law 19 = .ok (.ireturn, 1) := by decide +kernel
theorem dL_law_20 : decode cL_law 20 = .ok (.iconst 0, 1) := by decide +kernel
theorem dL_law_21 : decode cL_law 21 = .ok (.istore_n 3, 1) := by decide +kernel
theorem dL_law_22 : decode cL_law 22 = .ok (.iload_n 3, 1) := by decide +kernel
theorem dL_law_23 : decode cL_law 23 = .ok (.bipush 40, 2) := by decide +kernel
theorem dL_law_25 : decode cL_law 25 = .ok (.if_icmp .ge 1158, 3) := by decide +kernel
theorem dL_law_28 : decode cL_law 28 = .ok (.aload_n 0, 1) := by decide +kernel
theorem dL_law_29 : decode cL_law 29 = .ok (.iload_n 3, 1) := by decide +kernel
theorem dL_law_30 : decode cL_law 30 = .ok (.bipush 16, 2) := by decide +kernel
theorem dL_law_32 : decode cL_law 32 = .ok (.irem, 1) := by decide +kernel
theorem dL_law_33 : decode cL_law 33 = .ok (.invokestatic 62, 3) := by decide +kernel
theorem dL_law_36 : decode cL_law 36 = .ok (.iload_n 3, 1) := by decide +kernel
theorem dL_law_37 : decode cL_law 37 = .ok (.bipush 16, 2) := by decide +kernel
theorem dL_law_39 : decode cL_law 39 = .ok (.idiv, 1) := by decide +kernel
theorem dL_law_40 : decode cL_law 40 = .ok (.iconst 3, 1) := by decide +kernel
theorem dL_law_41 : decode cL_law 41 = .ok (.imul, 1) := by decide +kernel
theorem dL_law_42 : decode cL_law 42 = .ok (.ishr, 1) := by decide +kernel
theorem dL_law_43 : decode cL_law 43 = .ok (.bipush 97, 2) := by decide +kernel
theorem dL_law_45 : decode cL_law 45 = .ok (.iload_n 3, 1) := by decide +kernel
theorem dL_law_46 : decode cL_law 46 = .ok (.imul, 1) := by decide +kernel
theorem dL_law_47 : decode cL_law 47 = .ok (.iadd, 1) := by decide +kernel
theorem dL_law_48 : decode cL_law 48 = .ok (.istore 4, 2) := by decide +kernel
theorem dL_law_50 : decode cL_law 50 = .ok (.aload_n 1, 1) := by decide +kernel
theorem dL_law_51 : decode cL_law 51 = .ok (.aload_n 2, 1) := by decide +kernel
theorem dL_law_52 : decode cL_law 52 = .ok (.iload 4, 2) := by decide +kernel
theorem dL_law_54 : decode cL_law 54 = .ok (.invokestatic 71, 3) := by decide +kernel
theorem dL_law_57 : decode cL_law 57 = .ok (.ifCond .ne 5, 3) := by decide +kernel
theorem dL_law_60 : decode cL_law 60 = .ok (.iconst 0, 1) := by decide +kernel
theorem dL_law_61 : decode cL_law 61 = .ok (.ireturn, 1) := by decide +kernel
theorem dL_law_62 : decode cL_law 62 = .ok (.aload_n 1, 1) := by decide +kernel
theorem dL_law_63 : decode cL_law 63 = .ok (.iconst 1, 1) := by decide +kernel
theorem dL_law_64 : decode cL_law 64 = .ok (.invokevirtual 75, 3) := by decide +kernel
theorem dL_law_67 : decode cL_law 67 = .ok (.istore 5, 2) := by decide +kernel
theorem dL_law_69 : decode cL_law 69 = .ok (.iload 5, 2) := by decide +kernel
theorem dL_law_71 : decode cL_law 71 = .ok (.bipush 7, 2) := by decide +kernel
theorem dL_law_73 : decode cL_law 73 = .ok (.multianewarray 78 2, 4) := by decide +kernel
theorem dL_law_77 : decode cL_law 77 = .ok (.astore 6, 2) := by decide +kernel
theorem dL_law_79 : decode cL_law 79 = .ok (.iload 5, 2) := by decide +kernel
theorem dL_law_81 : decode cL_law 81 = .ok (.iconst 2, 1) := by decide +kernel
theorem dL_law_82 : decode cL_law 82 = .ok (.iconst 3, 1) := by decide +kernel
theorem dL_law_83 : decode cL_law 83 = .ok (.multianewarray 80 3, 4) := by decide +kernel
theorem dL_law_87 : decode cL_law 87 = .ok (.astore 7, 2) := by decide +kernel
theorem dL_law_89 : decode cL_law 89 = .ok (.iload 5, 2) := by decide +kernel
theorem dL_law_91 : decode cL_law 91 = .ok (.newarray .int, 2) := by decide +kernel
theorem dL_law_93 : decode cL_law 93 = .ok (.astore 8, 2) := by decide +kernel
theorem dL_law_95 : decode cL_law 95 = .ok (.iconst 0, 1) := by decide +kernel
theorem dL_law_96 : decode cL_law 96 = .ok (.istore 9, 2) := by decide +kernel
theorem dL_law_98 : decode cL_law 98 = .ok (.iload 9, 2) := by decide +kernel
theorem dL_law_100 : decode cL_law 100 = .ok (.iload 5, 2) := by decide +kernel
theorem dL_law_102 : decode cL_law 102 = .ok (.if_icmp .ge 181, 3) := by decide +kernel
theorem dL_law_105 : decode cL_law 105 = .ok (.iconst 0, 1) := by decide +kernel
theorem dL_law_106 : decode cL_law 106 = .ok (.istore 10, 2) := by decide +kernel
theorem dL_law_108 : decode cL_law 108 = .ok (.iload 10, 2) := by decide +kernel
theorem dL_law_110 : decode cL_law 110 = .ok (.bipush 7, 2) := by decide +kernel
theorem dL_law_112 : decode cL_law 112 = .ok (.if_icmp .ge 25, 3) := by decide +kernel
theorem dL_law_115 : decode cL_law 115 = .ok (.aload 6, 2) := by decide +kernel
theorem dL_law_117 : decode cL_law 117 = .ok (.iload 9, 2) := by decide +kernel
theorem dL_law_119 : decode cL_law 119 = .ok (.aaload, 1) := by decide +kernel
theorem dL_law_120 : decode cL_law 120 = .ok (.iload 10, 2) := by decide +kernel
theorem dL_law_122 : decode cL_law 122 = .ok (.aload_n 1, 1) := by decide +kernel
theorem dL_law_123 : decode cL_law 123 = .ok (.iload 9, 2) := by decide +kernel
theorem dL_law_125 : decode cL_law 125 = .ok (.iload 10, 2) := by decide +kernel
theorem dL_law_127 : decode cL_law 127 = .ok (.invokevirtual 82, 3) := by decide +kernel
theorem dL_law_130 : decode cL_law 130 = .ok (.iastore, 1) := by decide +kernel
theorem dL_law_131 : decode cL_law 131 = .ok (.iinc 10 1, 3) := by decide +kernel
theorem dL_law_134 : decode cL_law 134 = .ok (.goto (-26), 3) := by decide +kernel
theorem dL_law_137 : decode cL_law 137 = .ok (.iconst 0, 1) := by decide +kernel
theorem dL_law_138 : decode cL_law 138 = .ok (.istore 10, 2) := by decide +kernel
theorem dL_law_140 : decode cL_law 140 = .ok (.iload 10, 2) := by decide +kernel
theorem dL_law_142 : decode cL_law 142 = .ok (.iconst 2, 1) := by decide +kernel
theorem dL_law_143 : decode cL_law 143 = .ok (.if_icmp .ge 54, 3) := by decide +kernel
theorem dL_law_146 : decode cL_law 146 = .ok (.iconst 0, 1) := by decide +kernel
theorem dL_law_147 : decode cL_law 147 = .ok (.istore 11, 2) := by decide +kernel
theorem dL_law_149 : decode cL_law 149 = .ok (.iload 11, 2) := by decide +kernel
theorem dL_law_151 : decode cL_law 151 = .ok (.iconst 3, 1) := by decide +kernel
theorem dL_law_152 : decode cL_law 152 = .ok (.if_icmp .ge 39, 3) := by decide +kernel
theorem dL_law_155 : decode cL_law 155 = .ok (.aload 7, 2) := by decide +kernel
theorem dL_law_157 : decode cL_law 157 = .ok (.iload 9, 2) := by decide +kernel
theorem dL_law_159 : decode cL_law 159 = .ok (.aaload, 1) := by decide +kernel
theorem dL_law_160 : decode cL_law 160 = .ok (.iload 10, 2) := by decide +kernel
theorem dL_law_162 : decode cL_law 162 = .ok (.aaload, 1) := by decide +kernel
theorem dL_law_163 : decode cL_law 163 = .ok (.iload 11, 2) := by decide +kernel
theorem dL_law_165 : decode cL_law 165 = .ok (.aload_n 1, 1) := by decide +kernel
theorem dL_law_166 : decode cL_law 166 = .ok (.iload 9, 2) := by decide +kernel
theorem dL_law_168 : decode cL_law 168 = .ok (.iload 10, 2) := by decide +kernel
theorem dL_law_170 : decode cL_law 170 = .ok (.iconst 1, 1) := by decide +kernel
theorem dL_law_171 : decode cL_law 171 = .ok (.if_icmp .ne 7, 3) := by decide +kernel
theorem dL_law_174 : decode cL_law 174 = .ok (.iconst 1, 1) := by decide +kernel
theorem dL_law_175 : decode cL_law 175 = .ok (.goto 4, 3) := by decide +kernel
theorem dL_law_178 : decode cL_law 178 = .ok (.iconst 0, 1) := by decide +kernel
theorem dL_law_179 : decode cL_law 179 = .ok (.iload 11, 2) := by decide +kernel
theorem dL_law_181 : decode cL_law 181 = .ok (.invokevirtual 85, 3) := by decide +kernel
theorem dL_law_184 : decode cL_law 184 = .ok (.iastore, 1) := by decide +kernel
theorem dL_law_185 : decode cL_law 185 = .ok (.iinc 11 1, 3) := by decide +kernel
theorem dL_law_188 : decode cL_law 188 = .ok (.goto (-39), 3) := by decide +kernel
theorem dL_law_191 : decode cL_law 191 = .ok (.iinc 10 1, 3) := by decide +kernel
theorem dL_law_194 : decode cL_law 194 = .ok (.goto (-54), 3) := by decide +kernel
theorem dL_law_197 : decode cL_law 197 = .ok (.aload 8, 2) := by decide +kernel
theorem dL_law_199 : decode cL_law 199 = .ok (.iload 9, 2) := by decide +kernel
theorem dL_law_201 : decode cL_law 201 = .ok (.aload_n 1, 1) := by decide +kernel
theorem dL_law_202 : decode cL_law 202 = .ok (.iconst 1, 1) := by decide +kernel
theorem dL_law_203 : decode cL_law 203 = .ok (.iload 9, 2) := by decide +kernel
theorem dL_law_205 : decode cL_law 205 = .ok (.invokevirtual 89, 3) := by decide +kernel
theorem dL_law_208 : decode cL_law 208 = .ok (.iastore, 1) := by decide +kernel
theorem dL_law_209 : decode cL_law 209 = .ok (.aload 6, 2) := by decide +kernel
theorem dL_law_211 : decode cL_law 211 = .ok (.iload 9, 2) := by decide +kernel
theorem dL_law_213 : decode cL_law 213 = .ok (.aaload, 1) := by decide +kernel
theorem dL_law_214 : decode cL_law 214 = .ok (.iconst 0, 1) := by decide +kernel
theorem dL_law_215 : decode cL_law 215 = .ok (.iaload, 1) := by decide +kernel
theorem dL_law_216 : decode cL_law 216 = .ok (.bipush 100, 2) := by decide +kernel
theorem dL_law_218 : decode cL_law 218 = .ok (.aload 7, 2) := by decide +kernel
theorem dL_law_220 : decode cL_law 220 = .ok (.iload 9, 2) := by decide +kernel
theorem dL_law_222 : decode cL_law 222 = .ok (.aaload, 1) := by decide +kernel
theorem dL_law_223 : decode cL_law 223 = .ok (.iconst 0, 1) := by decide +kernel
theorem dL_law_224 : decode cL_law 224 = .ok (.aaload, 1) := by decide +kernel
theorem dL_law_225 : decode cL_law 225 = .ok (.iconst 0, 1) := by decide +kernel
theorem dL_law_226 : decode cL_law 226 = .ok (.iaload, 1) := by decide +kernel
theorem dL_law_227 : decode cL_law 227 = .ok (.imul, 1) := by decide +kernel
theorem dL_law_228 : decode cL_law 228 = .ok (.aload 7, 2) := by decide +kernel
theorem dL_law_230 : decode cL_law 230 = .ok (.iload 9, 2) := by decide +kernel
theorem dL_law_232 : decode cL_law 232 = .ok (.aaload, 1) := by decide +kernel
theorem dL_law_233 : decode cL_law 233 = .ok (.iconst 1, 1) := by decide +kernel
theorem dL_law_234 : decode cL_law 234 = .ok (.aaload, 1) := by decide +kernel
theorem dL_law_235 : decode cL_law 235 = .ok (.iconst 0, 1) := by decide +kernel
theorem dL_law_236 : decode cL_law 236 = .ok (.iaload, 1) := by decide +kernel
theorem dL_law_237 : decode cL_law 237 = .ok (.iadd, 1) := by decide +kernel
theorem dL_law_238 : decode cL_law 238 = .ok (.if_icmp .ne 37, 3) := by decide +kernel
theorem dL_law_241 : decode cL_law 241 = .ok (.aload 6, 2) := by decide +kernel
theorem dL_law_243 : decode cL_law 243 = .ok (.iload 9, 2) := by decide +kernel
theorem dL_law_245 : decode cL_law 245 = .ok (.aaload, 1) := by decide +kernel
theorem dL_law_246 : decode cL_law 246 = .ok (.bipush 6, 2) := by decide +kernel
theorem dL_law_248 : decode cL_law 248 = .ok (.iaload, 1) := by decide +kernel
theorem dL_law_249 : decode cL_law 249 = .ok (.ifCond .ge 7, 3) := by decide +kernel
theorem dL_law_252 : decode cL_law 252 = .ok (.iconst 1, 1) := by decide +kernel
theorem dL_law_253 : decode cL_law 253 = .ok (.goto 4, 3) := by decide +kernel
theorem dL_law_256 : decode cL_law 256 = .ok (.iconst 0, 1) := by decide +kernel
theorem dL_law_257 : decode cL_law 257 = .ok (.aload 6, 2) := by decide +kernel
theorem dL_law_259 : decode cL_law 259 = .ok (.iload 9, 2) := by decide +kernel
theorem dL_law_261 : decode cL_law 261 = .ok (.aaload, 1) := by decide +kernel
theorem dL_law_262 : decode cL_law 262 = .ok (.iconst 4, 1) := by decide +kernel
theorem dL_law_263 : decode cL_law 263 = .ok (.iaload, 1) := by decide +kernel
theorem dL_law_264 : decode cL_law 264 = .ok (.ifCond .ne 7, 3) := by decide +kernel
theorem dL_law_267 : decode cL_law 267 = .ok (.iconst 1, 1) := by decide +kernel
theorem dL_law_268 : decode cL_law 268 = .ok (.goto 4, 3) := by decide +kernel
theorem dL_law_271 : decode cL_law 271 = .ok (.iconst 0, 1) := by decide +kernel
theorem dL_law_272 : decode cL_law 272 = .ok (.if_icmp .eq 5, 3) := by decide +kernel
theorem dL_law_275 : decode cL_law 275 = .ok (.iconst 0, 1) := by decide +kernel
theorem dL_law_276 : decode cL_law 276 = .ok (.ireturn, 1) := by decide +kernel
theorem dL_law_277 : decode cL_law 277 = .ok (.iinc 9 1, 3) := by decide +kernel
theorem dL_law_280 : decode cL_law 280 = .ok (.goto (-182), 3) := by decide +kernel
theorem dL_law_283 : decode cL_law 283 = .ok (.aload_n 1, 1) := by decide +kernel
theorem dL_law_284 : decode cL_law 284 = .ok (.invokevirtual 92, 3) := by decide +kernel
theorem dL_law_287 : decode cL_law 287 = .ok (.istore 9, 2) := by decide +kernel
theorem dL_law_289 : decode cL_law 289 = .ok (.aload_n 1, 1) := by decide +kernel
theorem dL_law_290 : decode cL_law 290 = .ok (.iconst 0, 1) := by decide +kernel
theorem dL_law_291 : decode cL_law 291 = .ok (.invokevirtual 75, 3) := by decide +kernel
theorem dL_law_294 : decode cL_law 294 = .ok (.istore 10, 2) := by decide +kernel
theorem dL_law_296 : decode cL_law 296 = .ok (.aload_n 1, 1) := by decide +kernel
theorem dL_law_297 : decode cL_law 297 = .ok (.iconst 5, 1) := by decide +kernel
theorem dL_law_298 : decode cL_law 298 = .ok (.invokevirtual 75, 3) := by decide +kernel
theorem dL_law_301 : decode cL_law 301 = .ok (.istore 11, 2) := by decide +kernel
theorem dL_law_303 : decode cL_law 303 = .ok (.aload_n 1, 1) := by decide +kernel
theorem dL_law_304 : decode cL_law 304 = .ok (.iconst 1, 1) := by decide +kernel
theorem dL_law_305 : decode cL_law 305 = .ok (.invokevirtual 95, 3) := by decide +kernel
theorem dL_law_308 : decode cL_law 308 = .ok (.istore 12, 2) := by decide +kernel
theorem dL_law_310 : decode cL_law 310 = .ok (.aload_n 2, 1) := by decide +kernel
theorem dL_law_311 : decode cL_law 311 = .ok (.invokevirtual 98, 3) := by decide +kernel
theorem dL_law_314 : decode cL_law 314 = .ok (.pop, 1) := by decide +kernel
theorem dL_law_315 : decode cL_law 315 = .ok (.aload_n 1, 1) := by decide +kernel
theorem dL_law_316 : decode cL_law 316 = .ok (.iconst 0, 1) := by decide +kernel
theorem dL_law_317 : decode cL_law 317 = .ok (.invokevirtual 75, 3) := by decide +kernel
theorem dL_law_320 : decode cL_law 320 = .ok (.iload 10, 2) := by decide +kernel
theorem dL_law_322 : decode cL_law 322 = .ok (.iconst 1, 1) := by decide +kernel
theorem dL_law_323 : decode cL_law 323 = .ok (.iadd, 1) := by decide +kernel
theorem dL_law_324 : decode cL_law 324 = .ok (.if_icmp .ne 46, 3) := by decide +kernel
theorem dL_law_327 : decode cL_law 327 = .ok (.aload_n 1, 1) := by decide +kernel
theorem dL_law_328 : decode cL_law 328 = .ok (.iconst 5, 1) := by decide +kernel
theorem dL_law_329 : decode cL_law 329 = .ok (.invokevirtual 75, 3) := by decide +kernel
theorem dL_law_332 : decode cL_law 332 = .ok (.iload 11, 2) := by decide +kernel
theorem dL_law_334 : decode cL_law 334 = .ok (.iload 12, 2) := by decide +kernel
theorem dL_law_336 : decode cL_law 336 = .ok (.iadd, 1) := by decide +kernel
theorem dL_law_337 : decode cL_law 337 = .ok (.if_icmp .ne 33, 3) := by decide +kernel
theorem dL_law_340 : decode cL_law 340 = .ok (.iload 9, 2) := by decide +kernel
theorem dL_law_342 : decode cL_law 342 = .ok (.iconst 1, 1) := by decide +kernel
theorem dL_law_343 : decode cL_law 343 = .ok (.if_icmp .le 14, 3) := by decide +kernel
theorem dL_law_346 : decode cL_law 346 = .ok (.aload_n 1, 1) := by decide +kernel
theorem dL_law_347 : decode cL_law 347 = .ok (.invokevirtual 92, 3) := by decide +kernel
theorem dL_law_350 : decode cL_law 350 = .ok (.iload 9, 2) := by decide +kernel
theorem dL_law_352 : decode cL_law 352 = .ok (.iconst 1, 1) := by decide +kernel
theorem dL_law_353 : decode cL_law 353 = .ok (.isub, 1) := by decide +kernel
theorem dL_law_354 : decode cL_law 354 = .ok (.if_icmp .ne 16, 3) := by decide +kernel
theorem dL_law_357 : decode cL_law 357 = .ok (.iload 9, 2) := by decide +kernel
theorem dL_law_359 : decode cL_law 359 = .ok (.iconst 1, 1) := by decide +kernel
theorem dL_law_360 : decode cL_law 360 = .ok (.if_icmp .ne 12, 3) := by decide +kernel
theorem dL_law_363 : decode cL_law 363 = .ok (.aload_n 1, 1) := by decide +kernel
theorem dL_law_364 : decode cL_law 364 = .ok (.invokevirtual 92, 3) := by decide +kernel
theorem dL_law_367 : decode cL_law 367 = .ok (.ifCond .eq 5, 3) := by decide +kernel
theorem dL_law_370 : decode cL_law 370 = .ok (.iconst 0, 1) := by decide +kernel
theorem dL_law_371 : decode cL_law 371 = .ok (.ireturn, 1) := by decide +kernel
theorem dL_law_372 : decode cL_law 372 = .ok (.iconst 0, 1) := by decide +kernel
theorem dL_law_373 : decode cL_law 373 = .ok (.istore 13, 2) := by decide +kernel
theorem dL_law_375 : decode cL_law 375 = .ok (.iconst 0, 1) := by decide +kernel
theorem dL_law_376 : decode cL_law 376 = .ok (.istore 14, 2) := by decide +kernel
theorem dL_law_378 : decode cL_law 378 = .ok (.iconst 0, 1) := by decide +kernel
theorem dL_law_379 : decode cL_law 379 = .ok (.istore 15, 2) := by decide +kernel
theorem dL_law_381 : decode cL_law 381 = .ok (.iconst 0, 1) := by decide +kernel
theorem dL_law_382 : decode cL_law 382 = .ok (.istore 16, 2) := by decide +kernel
theorem dL_law_384 : decode cL_law 384 = .ok (.iconst 0, 1) := by decide +kernel
theorem dL_law_385 : decode cL_law 385 = .ok (.istore 17, 2) := by decide +kernel
theorem dL_law_387 : decode cL_law 387 = .ok (.iload 17, 2) := by decide +kernel
theorem dL_law_389 : decode cL_law 389 = .ok (.iload 5, 2) := by decide +kernel
theorem dL_law_391 : decode cL_law 391 = .ok (.if_icmp .ge 717, 3) := by decide +kernel
theorem dL_law_394 : decode cL_law 394 = .ok (.aload 6, 2) := by decide +kernel
theorem dL_law_396 : decode cL_law 396 = .ok (.iload 17, 2) := by decide +kernel
theorem dL_law_398 : decode cL_law 398 = .ok (.aaload, 1) := by decide +kernel
theorem dL_law_399 : decode cL_law 399 = .ok (.bipush 6, 2) := by decide +kernel
theorem dL_law_401 : decode cL_law 401 = .ok (.iaload, 1) := by decide +kernel
theorem dL_law_402 : decode cL_law 402 = .ok (.istore 18, 2) := by decide +kernel
theorem dL_law_404 : decode cL_law 404 = .ok (.iload 18, 2) := by decide +kernel
theorem dL_law_406 : decode cL_law 406 = .ok (.ifCond .lt 24, 3) := by decide +kernel
theorem dL_law_409 : decode cL_law 409 = .ok (.aload 6, 2) := by decide +kernel
theorem dL_law_411 : decode cL_law 411 = .ok (.iload 18, 2) := by decide +kernel
theorem dL_law_413 : decode cL_law 413 = .ok (.aaload, 1) := by decide +kernel
theorem dL_law_414 : decode cL_law 414 = .ok (.iconst 0, 1) := by decide +kernel
theorem dL_law_415 : decode cL_law 415 = .ok (.iaload, 1) := by decide +kernel
theorem dL_law_416 : decode cL_law 416 = .ok (.aload 6, 2) := by decide +kernel
theorem dL_law_418 : decode cL_law 418 = .ok (.iload 17, 2) := by decide +kernel
theorem dL_law_420 : decode cL_law 420 = .ok (.aaload, 1) := by decide +kernel
theorem dL_law_421 : decode cL_law 421 = .ok (.iconst 0, 1) := by decide +kernel
theorem dL_law_422 : decode cL_law 422 = .ok (.iaload, 1) := by decide +kernel
theorem dL_law_423 : decode cL_law 423 = .ok (.if_icmp .ne 7, 3) := by decide +kernel
theorem dL_law_426 : decode cL_law 426 = .ok (.iconst 1, 1) := by decide +kernel
theorem dL_law_427 : decode cL_law 427 = .ok (.goto 4, 3) := by decide +kernel
theorem dL_law_430 : decode cL_law 430 = .ok (.iconst 0, 1) := by decide +kernel
theorem dL_law_431 : decode cL_law 431 = .ok (.istore 19, 2) := by decide +kernel
theorem dL_law_433 : decode cL_law 433 = .ok (.iload 18, 2) := by decide +kernel
theorem dL_law_435 : decode cL_law 435 = .ok (.ifCond .lt 29, 3) := by decide +kernel
theorem dL_law_438 : decode cL_law 438 = .ok (.iload 19, 2) := by decide +kernel
theorem dL_law_440 : decode cL_law 440 = .ok (.ifCond .ne 24, 3) := by decide +kernel
theorem dL_law_443 : decode cL_law 443 = .ok (.aload 6, 2) := by decide +kernel
theorem dL_law_445 : decode cL_law 445 = .ok (.iload 17, 2) := by decide +kernel
theorem dL_law_447 : decode cL_law 447 = .ok (.aaload, 1) := by decide +kernel
theorem dL_law_448 : decode cL_law 448 = .ok (.iconst 1, 1) := by decide +kernel
theorem dL_law_449 : decode cL_law 449 = .ok (.iaload, 1) := by decide +kernel
theorem dL_law_450 : decode cL_law 450 = .ok (.aload 6, 2) := by decide +kernel
theorem dL_law_452 : decode cL_law 452 = .ok (.iload 18, 2) := by decide +kernel
theorem dL_law_454 : decode cL_law 454 = .ok (.aaload, 1) := by decide +kernel
theorem dL_law_455 : decode cL_law 455 = .ok (.iconst 1, 1) := by decide +kernel
theorem dL_law_456 : decode cL_law 456 = .ok (.iaload, 1) := by decide +kernel
theorem dL_law_457 : decode cL_law 457 = .ok (.if_icmp .gt 7, 3) := by decide +kernel
theorem dL_law_460 : decode cL_law 460 = .ok (.iconst 1, 1) := by decide +kernel
theorem dL_law_461 : decode cL_law 461 = .ok (.goto 4, 3) := by decide +kernel
theorem dL_law_464 : decode cL_law 464 = .ok (.iconst 0, 1) := by decide +kernel
theorem dL_law_465 : decode cL_law 465 = .ok (.istore 20, 2) := by decide +kernel
theorem dL_law_467 : decode cL_law 467 = .ok (.iload 17, 2) := by decide +kernel
theorem dL_law_469 : decode cL_law 469 = .ok (.iconst 2, 1) := by decide +kernel
theorem dL_law_470 : decode cL_law 470 = .ok (.irem, 1) := by decide +kernel
theorem dL_law_471 : decode cL_law 471 = .ok (.istore 21, 2) := by decide +kernel
theorem dL_law_473 : decode cL_law 473 = .ok (.iload 13, 2) := by decide +kernel
theorem dL_law_475 : decode cL_law 475 = .ok (.iload 20, 2) := by decide +kernel
theorem dL_law_477 : decode cL_law 477 = .ok (.ifCond .eq 7, 3) := by decide +kernel
theorem dL_law_480 : decode cL_law 480 = .ok (.iconst 1, 1) := by decide +kernel
theorem dL_law_481 : decode cL_law 481 = .ok (.goto 4, 3) := by decide +kernel
theorem dL_law_484 : decode cL_law 484 = .ok (.iconst 0, 1) := by decide +kernel
theorem dL_law_485 : decode cL_law 485 = .ok (.iadd, 1) := by decide +kernel
theorem dL_law_486 : decode cL_law 486 = .ok (.istore 13, 2) := by decide +kernel
theorem dL_law_488 : decode cL_law 488 = .ok (.aload_n 1, 1) := by decide +kernel
theorem dL_law_489 : decode cL_law 489 = .ok (.iload 17, 2) := by decide +kernel
theorem dL_law_491 : decode cL_law 491 = .ok (.iconst 0, 1) := by decide +kernel
theorem dL_law_492 : decode cL_law 492 = .ok (.invokevirtual 82, 3) := by decide +kernel
theorem dL_law_495 : decode cL_law 495 = .ok (.aload 8, 2) := by decide +kernel
theorem dL_law_497 : decode cL_law 497 = .ok (.iload 17, 2) := by decide +kernel
theorem dL_law_499 : decode cL_law 499 = .ok (.iaload, 1) := by decide +kernel
theorem dL_law_500 : decode cL_law 500 = .ok (.if_icmp .ne 99, 3) := by decide +kernel
theorem dL_law_503 : decode cL_law 503 = .ok (.aload_n 1, 1) := by decide +kernel
theorem dL_law_504 : decode cL_law 504 = .ok (.iload 17, 2) := by decide +kernel
theorem dL_law_506 : decode cL_law 506 = .ok (.iload 21, 2) := by decide +kernel
theorem dL_law_508 : decode cL_law 508 = .ok (.ifCond .ne 7, 3) := by decide +kernel
theorem dL_law_511 : decode cL_law 511 = .ok (.iconst 1, 1) := by decide +kernel
theorem dL_law_512 : decode cL_law 512 = .ok (.goto 4, 3) := by decide +kernel
theorem dL_law_515 : decode cL_law 515 = .ok (.iconst 0, 1) := by decide +kernel
theorem dL_law_516 : decode cL_law 516 = .ok (.iconst 0, 1) := by decide +kernel
theorem dL_law_517 : decode cL_law 517 = .ok (.invokevirtual 85, 3) := by decide +kernel
theorem dL_law_520 : decode cL_law 520 = .ok (.aload 7, 2) := by decide +kernel
theorem dL_law_522 : decode cL_law 522 = .ok (.iload 17, 2) := by decide +kernel
theorem dL_law_524 : decode cL_law 524 = .ok (.aaload, 1) := by decide +kernel
theorem dL_law_525 : decode cL_law 525 = .ok (.iconst 1, 1) := by decide +kernel
theorem dL_law_526 : decode cL_law 526 = .ok (.iload 21, 2) := by decide +kernel
theorem dL_law_528 : decode cL_law 528 = .ok (.isub, 1) := by decide +kernel
theorem dL_law_529 : decode cL_law 529 = .ok (.aaload, 1) := by decide +kernel
theorem dL_law_530 : decode cL_law 530 = .ok (.iconst 0, 1) := by decide +kernel
theorem dL_law_531 : decode cL_law 531 = .ok (.iaload, 1) := by decide +kernel
theorem dL_law_532 : decode cL_law 532 = .ok (.if_icmp .ne 67, 3) := by decide +kernel
theorem dL_law_535 : decode cL_law 535 = .ok (.aload_n 1, 1) := by decide +kernel
theorem dL_law_536 : decode cL_law 536 = .ok (.iload 17, 2) := by decide +kernel
theorem dL_law_538 : decode cL_law 538 = .ok (.iload 21, 2) := by decide +kernel
theorem dL_law_540 : decode cL_law 540 = .ok (.ifCond .ne 7, 3) := by decide +kernel
theorem dL_law_543 : decode cL_law 543 = .ok (.iconst 1, 1) := by decide +kernel
theorem dL_law_544 : decode cL_law 544 = .ok (.goto 4, 3) := by decide +kernel
theorem dL_law_547 : decode cL_law 547 = .ok (.iconst 0, 1) := by decide +kernel
theorem dL_law_548 : decode cL_law 548 = .ok (.iconst 1, 1) := by decide +kernel
theorem dL_law_549 : decode cL_law 549 = .ok (.invokevirtual 85, 3) := by decide +kernel
theorem dL_law_552 : decode cL_law 552 = .ok (.aload 7, 2) := by decide +kernel
theorem dL_law_554 : decode cL_law 554 = .ok (.iload 17, 2) := by decide +kernel
theorem dL_law_556 : decode cL_law 556 = .ok (.aaload, 1) := by decide +kernel
