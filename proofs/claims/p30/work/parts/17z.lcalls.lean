theorem inlX0 : ∀ w ∈ wsX00, w ∈ wsL_law := fun _ h => List.mem_append_left _ (List.mem_append_left _ (List.mem_append_left _ (List.mem_append_left _ (List.mem_append_left _ (List.mem_append_left _ (List.mem_append_right _ h))))))
theorem inlX1 : ∀ w ∈ wsX10, w ∈ wsL_law := fun _ h => List.mem_append_left _ (List.mem_append_left _ (List.mem_append_left _ (List.mem_append_left _ (List.mem_append_left _ (List.mem_append_left _ (List.mem_append_left _ (List.mem_append_right _ h)))))))
theorem inlX3 : ∀ w ∈ wsX30, w ∈ wsL_law := fun _ h => List.mem_append_left _ (List.mem_append_left _ (List.mem_append_left _ (List.mem_append_left _ (List.mem_append_right _ h))))
theorem inlX4 : ∀ w ∈ wsX40, w ∈ wsL_law := fun _ h => List.mem_append_left _ (List.mem_append_left _ (List.mem_append_left _ (List.mem_append_left _ (List.mem_append_left _ (List.mem_append_right _ h)))))
theorem inlX5 : ∀ w ∈ wsX50, w ∈ wsL_law := fun _ h => List.mem_append_left _ (List.mem_append_left _ (List.mem_append_left _ (List.mem_append_left _ (List.mem_append_left _ (List.mem_append_left _ (List.mem_append_left _ (List.mem_append_left _ (List.mem_append_left _ (List.mem_append_right _ h)))))))))
theorem inlX6 : ∀ w ∈ wsX60, w ∈ wsL_law := fun _ h => List.mem_append_left _ (List.mem_append_left _ (List.mem_append_left _ (List.mem_append_left _ (List.mem_append_left _ (List.mem_append_left _ (List.mem_append_left _ (List.mem_append_left _ (List.mem_append_right _ h))))))))
theorem inlX7 : ∀ w ∈ wsX70, w ∈ wsL_law := fun _ h => List.mem_append_left _ (List.mem_append_left _ (List.mem_append_left _ (List.mem_append_left _ (List.mem_append_left _ (List.mem_append_left _ (List.mem_append_left _ (List.mem_append_left _ (List.mem_append_left _ (List.mem_append_left _ (List.mem_append_right _ h))))))))))
theorem goodIn_1 {big : List Cond} {c : Cond} (i : Nat) (h : big[i]? = some c) (hg : goodWord c = true) : GoodIn big [c] := fun w hw => by
  rw [List.mem_singleton.mp hw]
  exact ⟨List.mem_of_getElem? h, good_of_word hg⟩
theorem goodIn_c1 {big a : List Cond} {c : Cond} (ha : GoodIn big [c]) (hb : GoodIn big a) : GoodIn big (c :: a) := fun w h => (List.mem_cons.mp h).elim (fun e => ha w (List.mem_cons.mpr (Or.inl e))) (hb w)
set_option maxRecDepth 20000 in
theorem ggL_law_X7_init : GoodIn wsL_law wsX7_init := goodIn_r _ [6, 7, 8, 9, 10, 11, 12, 13, 14, 15, 16, 17, 18, 19, 20, 21, 22, 23, 24, 25, 26, 27, 28, 29, 30, 31, 32, 33, 34, 35, 36, 37, 38, 39, 40, 41, 42, 43, 44, 45, 46, 47, 48, 49, 50, 51, 52, 53, 54, 55, 56, 57, 58, 59, 60, 61, 62, 63, 64, 65, 3, 66, 67, 68, 69, 70, 71, 72, 73, 74, 75, 76, 77, 78, 79, 80, 81, 82, 83, 84, 85, 86, 87, 88, 89, 90, 91, 92, 93, 94, 95, 96, 97, 98, 99, 100, 101, 102, 103, 104, 105, 106, 107, 108, 109, 110, 111, 112, 113, 114, 115, 116, 117, 118, 119, 120, 121, 122, 123, 124, 125, 126, 127, 128, 129, 130, 131, 132, 133, 134, 135, 136, 137, 138, 139, 140, 141, 142, 561, 562, 563, 564, 565, 566, 567, 568, 556, 557, 558, 559, 560, 569, 570, 571, 572, 573, 574, 575, 576, 577, 578, 579, 580, 581, 582, 583, 584, 585, 586, 587, 588] (by decide +kernel) (by decide +kernel)
set_option maxRecDepth 20000 in
theorem gL_law_X7_init : GoodIn wsL_law (wsX7_init) := ggL_law_X7_init
set_option maxRecDepth 20000 in
theorem ggL_law_L_cell : GoodIn wsL_law wsL_cell := goodIn_r _ [146, 147, 148] (by decide +kernel) (by decide +kernel)
set_option maxRecDepth 20000 in
theorem gL_law_L_cell : GoodIn wsL_law (va_wsS RL 120 yL_cell wsL_cell) := goodIn_app (goodIn_of _ (by decide +kernel)) ggL_law_L_cell
set_option maxRecDepth 20000 in
theorem ggL_law_L_low : GoodIn wsL_law wsL_low := goodIn_r _ [151, 152] (by decide +kernel) (by decide +kernel)
set_option maxRecDepth 20000 in
theorem gL_law_L_low : GoodIn wsL_law (va_wsS RL 124 yL_low wsL_low) := goodIn_app (goodIn_of _ (by decide +kernel)) ggL_law_L_low
set_option maxRecDepth 20000 in
theorem ggL_law_L_letters : GoodIn wsL_law wsL_letters := goodIn_r _ [155] (by decide +kernel) (by decide +kernel)
set_option maxRecDepth 20000 in
theorem gL_law_L_letters : GoodIn wsL_law (va_wsS RL 36 yL_letters wsL_letters) := goodIn_app (goodIn_of _ (by decide +kernel)) ggL_law_L_letters
set_option maxRecDepth 20000 in
theorem ggL_law_L_length : GoodIn wsL_law wsL_length := goodIn_r _ [158] (by decide +kernel) (by decide +kernel)
set_option maxRecDepth 20000 in
theorem gL_law_L_length : GoodIn wsL_law (va_wsS RL 40 yL_length wsL_length) := goodIn_app (goodIn_of _ (by decide +kernel)) ggL_law_L_length
set_option maxRecDepth 20000 in
theorem ggL_law_X7_housesFor : GoodIn wsL_law wsX7_housesFor := goodIn_ca (goodIn_r _ [162, 13, 163, 164, 2, 165, 166, 167, 168, 169, 170, 171, 172, 93, 173, 98, 99, 100, 174, 175, 176, 12, 177, 34, 178, 179, 180, 181, 106, 182, 183, 184, 33, 185, 52, 50, 186, 187, 188, 189, 111, 88, 89, 37, 90, 66, 87, 190, 191, 192, 193, 194, 96, 97, 195, 196, 197, 198, 199, 200, 201, 202, 92, 94, 95, 556, 557, 558, 559, 560, 561, 562, 563, 564, 565, 566, 567, 568, 580, 581, 582, 583, 584, 585, 586, 587, 588] (by decide +kernel) (by decide +kernel)) (goodIn_sub (fun _ h => List.mem_append_left _ (List.mem_append_left _ (List.mem_append_right _ h))) (by decide +kernel))
set_option maxRecDepth 20000 in
theorem gL_law_X7_housesFor : GoodIn wsL_law (wsV RL 127 RX7 yX7_housesFor wsX7_housesFor) := goodIn_app (goodIn_of _ (by decide +kernel)) ggL_law_X7_housesFor
set_option maxRecDepth 20000 in
theorem ggL_law_L_adds : GoodIn wsL_law wsL_adds := goodIn_r _ [205, 206, 207, 145, 208, 209, 210, 211, 212, 213, 214, 215, 216, 217, 153, 154, 155, 156, 157, 158] (by decide +kernel) (by decide +kernel)
set_option maxRecDepth 20000 in
theorem gL_law_L_adds : GoodIn wsL_law (va_wsS RL 130 yL_adds wsL_adds) := goodIn_app (goodIn_of _ (by decide +kernel)) ggL_law_L_adds
set_option maxRecDepth 20000 in
theorem ggL_law_L_add : GoodIn wsL_law wsL_add := goodIn_ca (goodIn_ca (goodIn_r _ [220, 221, 222, 223, 224, 225, 2, 226, 227, 228, 13, 18, 229, 163, 164, 165, 166, 167, 168, 169, 170, 230, 231, 232, 171, 172, 93, 173, 98, 99, 100, 233, 234, 235, 12, 236, 178, 179, 180, 181, 34, 106, 182, 183, 184, 33, 185, 52, 50, 186, 187, 188, 189, 111, 88, 89, 37, 90, 66, 87, 237, 238, 239, 240, 41, 241, 242, 243, 17, 244, 124, 125, 245, 246, 64, 247, 248, 249, 250, 251, 123, 252, 253, 254, 255, 51, 53, 54, 55, 56, 57, 256, 257, 258, 259, 116, 117, 72, 73, 74, 260, 261, 262, 263, 264, 265, 194, 96, 97, 190, 191, 192, 193, 195, 196, 197, 198, 199, 200, 201, 202, 92, 94, 95, 266, 267, 268, 269, 270, 271, 272, 273, 67, 68, 69, 70, 71, 101, 76, 77, 78, 79, 80, 38, 43, 42, 81, 82, 83, 84, 85, 63, 65, 86, 91, 102, 103, 104, 105, 39, 40, 107, 108, 109, 110, 112, 113, 114, 115, 274, 275, 276, 277, 556, 557, 558, 559, 560, 561, 562, 563, 564, 565, 566, 567, 568, 580, 581, 582, 583, 584, 585, 586, 587, 588, 569, 570, 571] (by decide +kernel) (by decide +kernel)) (goodIn_sub (fun _ h => List.mem_append_left _ (List.mem_append_right _ h)) (by decide +kernel))) (goodIn_sub (fun _ h => List.mem_append_left _ (List.mem_append_left _ (List.mem_append_right _ h))) (by decide +kernel))
set_option maxRecDepth 20000 in
theorem gL_law_L_add : GoodIn wsL_law (va_wsS RL 134 yL_add wsL_add) := goodIn_app (goodIn_of _ (by decide +kernel)) ggL_law_L_add
set_option maxRecDepth 20000 in
theorem ggL_law_L_removes : GoodIn wsL_law wsL_removes := goodIn_r _ [280, 281, 282, 145, 283, 284, 285, 286] (by decide +kernel) (by decide +kernel)
set_option maxRecDepth 20000 in
theorem gL_law_L_removes : GoodIn wsL_law (va_wsS RL 137 yL_removes wsL_removes) := goodIn_app (goodIn_of _ (by decide +kernel)) ggL_law_L_removes
set_option maxRecDepth 20000 in
theorem ggL_law_L_remove : GoodIn wsL_law wsL_remove := goodIn_ca (goodIn_ca (goodIn_r _ [289, 221, 222, 290, 291, 292, 2, 293, 18, 13, 229, 163, 164, 165, 166, 167, 168, 169, 170, 171, 172, 93, 173, 98, 99, 100, 294, 295, 296, 297, 227, 228, 298, 179, 180, 12, 181, 34, 106, 182, 183, 184, 33, 185, 52, 50, 186, 187, 188, 189, 111, 88, 89, 37, 90, 66, 87, 241, 242, 243, 17, 244, 124, 125, 245, 246, 64, 247, 248, 249, 250, 251, 123, 252, 253, 254, 255, 51, 53, 54, 55, 56, 57, 256, 257, 258, 259, 116, 117, 72, 73, 74, 299, 300, 301, 302, 303, 38, 39, 101, 304, 305, 306, 307, 107, 108, 109, 110, 308, 309, 310, 311, 312, 313, 314, 315, 112, 113, 114, 115, 76, 77, 78, 79, 80, 43, 41, 42, 81, 82, 83, 84, 85, 63, 65, 86, 91, 92, 94, 95, 96, 97, 102, 103, 104, 105, 40, 556, 557, 558, 559, 560, 561, 562, 563, 564, 565, 566, 567, 568, 580, 581, 582, 583, 584, 585, 586, 587, 588, 569, 570, 571] (by decide +kernel) (by decide +kernel)) (goodIn_sub (fun _ h => List.mem_append_left _ (List.mem_append_left _ (List.mem_append_right _ h))) (by decide +kernel))) (goodIn_sub (fun _ h => List.mem_append_left _ (List.mem_append_right _ h)) (by decide +kernel))
set_option maxRecDepth 20000 in
theorem gL_law_L_remove : GoodIn wsL_law (va_wsS RL 140 yL_remove wsL_remove) := goodIn_app (goodIn_of _ (by decide +kernel)) ggL_law_L_remove
set_option maxRecDepth 20000 in
theorem ggL_law_L_reason : GoodIn wsL_law wsL_reason := goodIn_r _ [318, 281, 282, 145, 283, 284, 285, 286, 319, 320, 321, 156, 157, 158] (by decide +kernel) (by decide +kernel)
set_option maxRecDepth 20000 in
theorem gL_law_L_reason : GoodIn wsL_law (va_wsS RL 83 yL_reason wsL_reason) := goodIn_app (goodIn_of _ (by decide +kernel)) ggL_law_L_reason
set_option maxRecDepth 20000 in
theorem ggL_law_L_child : GoodIn wsL_law wsL_child := goodIn_r _ [321, 284, 285, 145, 286] (by decide +kernel) (by decide +kernel)
set_option maxRecDepth 20000 in
theorem gL_law_L_child : GoodIn wsL_law (va_wsS RL 50 yL_child wsL_child) := goodIn_app (goodIn_of _ (by decide +kernel)) ggL_law_L_child
set_option maxRecDepth 20000 in
theorem ggL_law_L_parent : GoodIn wsL_law wsL_parent := goodIn_r _ [286] (by decide +kernel) (by decide +kernel)
set_option maxRecDepth 20000 in
theorem gL_law_L_parent : GoodIn wsL_law (va_wsS RL 43 yL_parent wsL_parent) := goodIn_app (goodIn_of _ (by decide +kernel)) ggL_law_L_parent
set_option maxRecDepth 20000 in
theorem ggL_law_L_moveIn : GoodIn wsL_law wsL_moveIn := goodIn_ca (goodIn_ca (goodIn_r _ [324, 221, 222, 325, 326, 327, 2, 328, 227, 228, 13, 18, 229, 168, 169, 170, 166, 167, 171, 172, 93, 173, 98, 99, 100, 329, 330, 331, 12, 332, 34, 182, 183, 184, 33, 185, 52, 50, 186, 187, 188, 189, 111, 88, 89, 37, 90, 66, 333, 334, 335, 336, 39, 337, 107, 108, 109, 110, 51, 87, 338, 339, 340, 341, 342, 343, 344, 345, 86, 38, 194, 96, 97, 241, 242, 243, 17, 244, 124, 125, 245, 246, 64, 247, 248, 249, 250, 251, 123, 252, 253, 254, 255, 53, 54, 55, 56, 57, 256, 257, 258, 259, 116, 117, 72, 73, 74, 346, 347, 348, 349, 350, 308, 309, 310, 311, 312, 313, 314, 315, 76, 77, 78, 79, 80, 43, 41, 42, 81, 82, 83, 84, 85, 63, 65, 91, 92, 94, 95, 101, 102, 103, 104, 105, 40, 106, 112, 113, 114, 115, 556, 557, 558, 559, 560, 561, 562, 563, 564, 565, 566, 567, 568, 580, 581, 582, 583, 584, 585, 586, 587, 588, 569, 570, 571] (by decide +kernel) (by decide +kernel)) (goodIn_sub (fun _ h => List.mem_append_left _ (List.mem_append_right _ h)) (by decide +kernel))) (goodIn_sub (fun _ h => List.mem_append_left _ (List.mem_append_left _ (List.mem_append_right _ h))) (by decide +kernel))
set_option maxRecDepth 20000 in
theorem gL_law_L_moveIn : GoodIn wsL_law (va_wsS RL 143 yL_moveIn wsL_moveIn) := goodIn_app (goodIn_of _ (by decide +kernel)) ggL_law_L_moveIn
set_option maxRecDepth 20000 in
theorem ggL_law_L_inTown : GoodIn wsL_law wsL_inTown := goodIn_r _ [208, 209, 210, 145, 211] (by decide +kernel) (by decide +kernel)
set_option maxRecDepth 20000 in
theorem gL_law_L_inTown : GoodIn wsL_law (va_wsS RL 115 yL_inTown wsL_inTown) := goodIn_app (goodIn_of _ (by decide +kernel)) ggL_law_L_inTown
set_option maxRecDepth 20000 in
theorem ggL_law_L_evict : GoodIn wsL_law wsL_evict := goodIn_ca (goodIn_ca (goodIn_r _ [353, 221, 222, 354, 355, 356, 2, 357, 227, 228, 13, 18, 229, 168, 169, 170, 166, 167, 171, 172, 93, 173, 98, 99, 100, 358, 359, 360, 12, 361, 34, 182, 183, 184, 33, 185, 52, 50, 186, 187, 188, 189, 111, 88, 89, 37, 90, 66, 198, 199, 200, 201, 202, 92, 94, 95, 96, 97, 241, 242, 243, 17, 244, 124, 125, 245, 246, 64, 247, 248, 249, 250, 251, 123, 252, 253, 254, 255, 51, 53, 54, 55, 56, 57, 256, 257, 258, 259, 116, 117, 72, 73, 74, 362, 363, 364, 365, 264, 266, 267, 268, 269, 270, 271, 272, 273, 67, 68, 69, 70, 71, 76, 77, 78, 79, 80, 38, 43, 41, 42, 81, 82, 83, 84, 85, 63, 65, 86, 87, 91, 101, 102, 103, 104, 105, 39, 40, 106, 107, 108, 109, 110, 112, 113, 114, 115, 366, 367, 368, 369, 342, 343, 344, 345, 194, 556, 557, 558, 559, 560, 561, 562, 563, 564, 565, 566, 567, 568, 580, 581, 582, 583, 584, 585, 586, 587, 588, 569, 570, 571] (by decide +kernel) (by decide +kernel)) (goodIn_sub (fun _ h => List.mem_append_left _ (List.mem_append_right _ h)) (by decide +kernel))) (goodIn_sub (fun _ h => List.mem_append_left _ (List.mem_append_left _ (List.mem_append_right _ h))) (by decide +kernel))
set_option maxRecDepth 20000 in
theorem gL_law_L_evict : GoodIn wsL_law (va_wsS RL 145 yL_evict wsL_evict) := goodIn_app (goodIn_of _ (by decide +kernel)) ggL_law_L_evict
set_option maxRecDepth 20000 in
theorem ggL_law_L_before : GoodIn wsL_law wsL_before := goodIn_r _ [217, 153, 154, 145, 155, 156, 157, 158] (by decide +kernel) (by decide +kernel)
set_option maxRecDepth 20000 in
theorem gL_law_L_before : GoodIn wsL_law (va_wsS RL 53 yL_before wsL_before) := goodIn_app (goodIn_of _ (by decide +kernel)) ggL_law_L_before
set_option maxRecDepth 20000 in
theorem ggL_law_X7_compress : GoodIn wsL_law wsX7_compress := goodIn_r _ [373, 18, 13, 229, 241, 242, 243, 17, 244, 124, 125, 245, 246, 64, 247, 248, 249, 250, 251, 123, 252, 253, 254, 33, 255, 50, 52, 51, 53, 54, 55, 56, 57, 256, 257, 258, 37, 259, 116, 88, 89, 90, 66, 117, 72, 73, 74, 374, 375, 376, 12, 377, 34, 80, 44, 38, 350, 333, 334, 335, 336, 39, 337, 107, 108, 109, 110, 111, 87, 338, 339, 340, 341, 342, 343, 344, 345, 86, 194, 96, 93, 97, 101, 378, 379, 380, 381, 67, 68, 69, 70, 71, 76, 77, 78, 79, 43, 41, 42, 81, 82, 83, 84, 85, 63, 65, 91, 92, 94, 95, 98, 99, 100, 102, 103, 104, 105, 40, 106, 112, 113, 114, 115, 556, 557, 558, 559, 560, 561, 562, 563, 564, 565, 566, 567, 568, 569, 570, 571, 580, 581, 582, 583, 584, 585, 586, 587, 588] (by decide +kernel) (by decide +kernel)
set_option maxRecDepth 20000 in
theorem gL_law_X7_compress : GoodIn wsL_law (wsV RL 147 RX7 yX7_compress wsX7_compress) := goodIn_app (goodIn_of _ (by decide +kernel)) ggL_law_X7_compress
set_option maxRecDepth 20000 in
theorem ggL_law_X7_expand : GoodIn wsL_law wsX7_expand := goodIn_r _ [385, 18, 13, 229, 241, 242, 243, 17, 244, 124, 125, 245, 246, 64, 247, 248, 249, 250, 251, 123, 252, 253, 254, 33, 255, 50, 52, 51, 53, 54, 55, 56, 57, 256, 257, 258, 37, 259, 116, 88, 89, 90, 66, 117, 72, 73, 74, 386, 387, 388, 12, 389, 34, 80, 264, 390, 391, 392, 393, 366, 367, 368, 369, 342, 343, 344, 345, 86, 38, 87, 194, 96, 93, 97, 394, 395, 396, 397, 106, 398, 68, 69, 70, 71, 195, 196, 197, 98, 99, 100, 76, 77, 78, 79, 43, 41, 42, 81, 82, 83, 84, 85, 63, 65, 91, 92, 94, 95, 101, 102, 103, 104, 105, 39, 40, 107, 108, 109, 110, 111, 112, 113, 114, 115, 556, 557, 558, 559, 560, 561, 562, 563, 564, 565, 566, 567, 568, 569, 570, 571, 580, 581, 582, 583, 584, 585, 586, 587, 588] (by decide +kernel) (by decide +kernel)
set_option maxRecDepth 20000 in
theorem gL_law_X7_expand : GoodIn wsL_law (wsV RL 150 RX7 yX7_expand wsX7_expand) := goodIn_app (goodIn_of _ (by decide +kernel)) ggL_law_X7_expand
set_option maxRecDepth 20000 in
theorem ggL_law_X7_setLimit : GoodIn wsL_law wsX7_setLimit := goodIn_ca (goodIn_r _ [402, 18, 13, 229, 403, 404, 2, 405, 166, 167, 406, 407, 408, 241, 242, 243, 17, 244, 124, 125, 245, 246, 64, 247, 248, 249, 250, 251, 123, 252, 253, 254, 33, 255, 50, 52, 51, 53, 54, 55, 56, 57, 256, 257, 258, 37, 259, 116, 88, 89, 90, 66, 117, 72, 73, 74, 409, 410, 411, 12, 412, 34, 337, 556, 557, 558, 559, 560, 561, 562, 563, 564, 565, 566, 567, 568, 569, 570, 571, 580, 581, 582, 583, 584, 585, 586, 587, 588] (by decide +kernel) (by decide +kernel)) (goodIn_sub (fun _ h => List.mem_append_left _ (List.mem_append_left _ (List.mem_append_right _ h))) (by decide +kernel))
set_option maxRecDepth 20000 in
theorem gL_law_X7_setLimit : GoodIn wsL_law (wsV RL 153 RX7 yX7_setLimit wsX7_setLimit) := goodIn_app (goodIn_of _ (by decide +kernel)) ggL_law_X7_setLimit
set_option maxRecDepth 20000 in
theorem gkL_same_r1 : GoodIn wsL_law wsL_same_r1 := goodIn_r _ [153, 154, 145, 155, 156, 157, 158, 416, 417, 418, 2, 419, 13, 229, 168, 169, 170, 166, 167, 171, 172, 93, 173, 98] (by decide +kernel) (by decide +kernel)
set_option maxRecDepth 20000 in
theorem gkL_same_r2 : GoodIn wsL_law wsL_same_r2 := goodIn_r _ [99, 100, 420, 183, 184, 33, 185, 52, 50, 186, 187, 188, 189, 111, 88, 89, 37, 90, 66, 421, 422, 423, 215, 216] (by decide +kernel) (by decide +kernel)
set_option maxRecDepth 20000 in
theorem gkL_same_r3 : GoodIn wsL_law wsL_same_r3 := goodIn_r _ [217, 424, 425, 426, 427, 428, 429, 430, 12, 431, 34, 41, 198, 199, 200, 201, 202, 92, 94, 95, 96, 97, 87, 432] (by decide +kernel) (by decide +kernel)
set_option maxRecDepth 20000 in
theorem gkL_same_r4 : GoodIn wsL_law wsL_same_r4 := goodIn_r _ [433, 434, 209, 210, 211, 435, 436, 437, 438, 163, 164, 165, 439, 275, 276, 277, 86, 43, 237, 238, 239, 240, 212, 213] (by decide +kernel) (by decide +kernel)
set_option maxRecDepth 20000 in
theorem gkL_same_r5 : GoodIn wsL_law wsL_same_r5 := goodIn_r _ [214, 440, 441, 442, 443, 298, 179, 180, 181, 106, 182, 444, 445, 446, 447, 448, 334, 335, 336, 39, 337, 107, 108, 109] (by decide +kernel) (by decide +kernel)
set_option maxRecDepth 20000 in
theorem gkL_same_r6 : GoodIn wsL_law wsL_same_r6 := goodIn_r _ [110, 51, 338, 339, 340, 341, 342, 343, 344, 345, 38, 194, 316, 317, 318, 281, 282, 283, 284, 285, 286, 319, 320, 321] (by decide +kernel) (by decide +kernel)
set_option maxRecDepth 20000 in
theorem gkL_same_r7 : GoodIn wsL_law wsL_same_r7 := goodIn_r _ [449, 450, 451, 452, 453, 454, 455, 456, 457, 458, 459, 460, 461, 462, 463, 464, 465, 466, 40, 467, 468, 469, 470, 471] (by decide +kernel) (by decide +kernel)
set_option maxRecDepth 20000 in
theorem gkL_same_r8 : GoodIn wsL_law wsL_same_r8 := goodIn_r _ [472, 473, 474, 475, 476, 477, 478, 479, 480, 481, 482, 483, 484, 485, 42, 366, 367, 368, 369, 486, 487, 488, 489, 490] (by decide +kernel) (by decide +kernel)
set_option maxRecDepth 20000 in
theorem gkL_same_r9 : GoodIn wsL_law wsL_same_r9 := goodIn_r _ [491, 492, 493, 494, 495, 496, 497, 333, 498, 499, 500, 501, 22, 502, 503, 504, 21, 505, 132, 506, 507, 508, 509, 80] (by decide +kernel) (by decide +kernel)
set_option maxRecDepth 20000 in
theorem gkL_same_r10 : GoodIn wsL_law wsL_same_r10 := goodIn_r _ [350, 264, 265, 303, 510, 511, 512, 513, 390, 391, 392, 393, 514, 515, 516, 517, 85, 63, 64, 65, 518, 519, 520, 521] (by decide +kernel) (by decide +kernel)
set_option maxRecDepth 20000 in
theorem gkL_same_r11 : GoodIn wsL_law wsL_same_r11 := goodIn_r _ [522, 523, 524, 525, 526, 527, 528, 529, 530, 531, 532, 533] (by decide +kernel) (by decide +kernel)
set_option maxRecDepth 20000 in
theorem ggL_law_L_same : GoodIn wsL_law wsL_same := goodIn_ca (goodIn_ca (goodIn_c1 (goodIn_1 415 rfl rfl) (goodIn_app (goodIn_app (goodIn_app (goodIn_app (goodIn_app (goodIn_app gkL_same_r1 (goodIn_app gkL_same_r2 (goodIn_app gkL_same_r3 (goodIn_app gkL_same_r4 (goodIn_app gkL_same_r5 (goodIn_app gkL_same_r6 (goodIn_app gkL_same_r7 (goodIn_app gkL_same_r8 (goodIn_app gkL_same_r9 (goodIn_app gkL_same_r10 gkL_same_r11)))))))))) (goodIn_sub inlX7 (by decide +kernel))) (goodIn_sub inlX5 (by decide +kernel))) (goodIn_sub inlX4 (by decide +kernel))) (goodIn_sub inlX3 (by decide +kernel))) (goodIn_sub inlX1 (by decide +kernel)))) (goodIn_sub (fun _ h => List.mem_append_left _ (List.mem_append_left _ (List.mem_append_right _ h))) (by decide +kernel))) (goodIn_sub (fun _ h => List.mem_append_right _ h) (by decide +kernel))
set_option maxRecDepth 20000 in
theorem gL_law_L_same : GoodIn wsL_law (va_wsS RL 156 yL_same wsL_same) := goodIn_app (goodIn_of _ (by decide +kernel)) ggL_law_L_same
set_option maxRecDepth 20000 in
theorem gkL_tours_r1 : GoodIn wsL_law wsL_tours_r1 := goodIn_r _ [498, 499, 500, 2, 501, 22, 13, 460, 461, 462, 166, 167, 502, 503, 504, 21, 505, 132, 506, 507, 508, 12, 509, 34] (by decide +kernel) (by decide +kernel)
set_option maxRecDepth 20000 in
theorem gkL_tours_r2 : GoodIn wsL_law wsL_tours_r2 := goodIn_r _ [80, 337, 350, 264, 265, 303, 237, 238, 239, 240, 41, 87, 88, 89, 37, 90, 66, 510, 511, 512, 513, 43, 106, 40] (by decide +kernel) (by decide +kernel)
set_option maxRecDepth 20000 in
theorem gkL_tours_r3 : GoodIn wsL_law wsL_tours_r3 := goodIn_r _ [390, 391, 392, 393, 366, 367, 368, 369, 342, 343, 344, 345, 86, 38, 194, 96, 93, 97, 514, 515, 516, 517, 85, 63] (by decide +kernel) (by decide +kernel)
set_option maxRecDepth 20000 in
theorem gkL_tours_r4 : GoodIn wsL_law wsL_tours_r4 := goodIn_r _ [64, 65, 518, 519, 520, 521, 212, 213, 145, 214, 215, 216, 217, 153, 154, 155, 156, 157, 158, 537, 538, 539, 540, 453] (by decide +kernel) (by decide +kernel)
set_option maxRecDepth 20000 in
theorem gkL_tours_r5 : GoodIn wsL_law wsL_tours_r5 := goodIn_r _ [454, 455, 456, 457, 458, 459, 541, 542, 543, 544, 545, 546, 547, 209, 210, 211, 470, 471, 472, 548, 549, 550, 551, 552] (by decide +kernel) (by decide +kernel)
set_option maxRecDepth 20000 in
theorem gkL_tours_r6 : GoodIn wsL_law wsL_tours_r6 := goodIn_r _ [553, 554, 555] (by decide +kernel) (by decide +kernel)
set_option maxRecDepth 20000 in
theorem ggL_law_L_tours : GoodIn wsL_law wsL_tours := goodIn_ca (goodIn_ca (goodIn_c1 (goodIn_1 536 rfl rfl) (goodIn_app (goodIn_app (goodIn_app (goodIn_app (goodIn_app (goodIn_app gkL_tours_r1 (goodIn_app gkL_tours_r2 (goodIn_app gkL_tours_r3 (goodIn_app gkL_tours_r4 (goodIn_app gkL_tours_r5 gkL_tours_r6))))) (goodIn_sub inlX7 (by decide +kernel))) (goodIn_sub inlX1 (by decide +kernel))) (goodIn_sub inlX5 (by decide +kernel))) (goodIn_sub inlX4 (by decide +kernel))) (goodIn_sub inlX3 (by decide +kernel)))) (goodIn_sub (fun _ h => List.mem_append_left _ (List.mem_append_left _ (List.mem_append_right _ h))) (by decide +kernel))) (goodIn_sub (fun _ h => List.mem_append_right _ h) (by decide +kernel))
set_option maxRecDepth 20000 in
theorem gL_law_L_tours : GoodIn wsL_law (va_wsS RL 160 yL_tours wsL_tours) := goodIn_app (goodIn_of _ (by decide +kernel)) ggL_law_L_tours
