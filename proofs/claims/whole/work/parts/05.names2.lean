theorem memIn_r {big : List Cond} (ws : List Cond) (ps : List Nat) (hp : ws = ps.filterMap (fun i => big[i]?)) : ∀ w ∈ ws, w ∈ big := by
  intro w hw
  rw [hp] at hw
  obtain ⟨i, -, hi⟩ := List.mem_filterMap.mp hw
  exact List.mem_of_getElem? hi
theorem memIn_app {P : Cond → Prop} {a b : List Cond} (ha : ∀ w ∈ a, P w) (hb : ∀ w ∈ b, P w) : ∀ w ∈ a ++ b, P w := List.forall_mem_append.mpr ⟨ha, hb⟩
set_option maxRecDepth 20000 in
theorem wsL_law_p1 : ∀ w ∈ wsL_law0_r1, w ∈ lw_tbl := memIn_r _ [34, 35, 19, 542, 543, 24, 810, 36, 37, 38, 39, 40, 41, 42, 43, 20, 59, 60, 21, 163, 164, 44, 45, 46] (by decide +kernel)
set_option maxRecDepth 20000 in
theorem wsL_law_p2 : ∀ w ∈ wsL_law0_r2, w ∈ lw_tbl := memIn_r _ [47, 58, 48, 50, 61, 62, 63, 64, 65, 66, 22, 148, 105, 106, 23, 150, 152, 146, 68, 69, 70, 71, 74, 76] (by decide +kernel)
set_option maxRecDepth 20000 in
theorem wsL_law_p3 : ∀ w ∈ wsL_law0_r3, w ∈ lw_tbl := memIn_r _ [77, 80, 82, 83, 85, 108, 109, 110, 111, 114, 115, 118, 121, 123, 125, 127, 544, 545, 546, 547, 599, 601, 605, 607] (by decide +kernel)
set_option maxRecDepth 20000 in
theorem wsL_law_p4 : ∀ w ∈ wsL_law0_r4, w ∈ lw_tbl := memIn_r _ [611, 548, 549, 25, 613, 614, 551, 552, 574, 553, 556, 558, 560, 562, 564, 566, 568, 570, 572, 291, 292, 18, 293, 294] (by decide +kernel)
set_option maxRecDepth 20000 in
theorem wsL_law_p5 : ∀ w ∈ wsL_law0_r5, w ∈ lw_tbl := memIn_r _ [295, 296, 297, 298, 299, 300, 324, 31, 147, 153, 49, 51, 184, 185, 186, 187, 29, 301, 302, 303, 304, 30, 320, 321] (by decide +kernel)
set_option maxRecDepth 20000 in
theorem wsL_law_p6 : ∀ w ∈ wsL_law0_r6, w ∈ lw_tbl := memIn_r _ [322, 323, 640, 641, 642, 643, 598, 644, 645, 646, 647, 648, 649, 650, 652, 2, 653, 654, 656, 3, 657, 636, 637, 638] (by decide +kernel)
set_option maxRecDepth 20000 in
theorem wsL_law_p7 : ∀ w ∈ wsL_law0_r7, w ∈ lw_tbl := memIn_r _ [639, 340, 341, 342, 343, 344, 345, 346, 149, 72, 348, 349, 350, 351, 658, 659, 660, 661, 604, 662, 663, 664, 352, 353] (by decide +kernel)
set_option maxRecDepth 20000 in
theorem wsL_law_p8 : ∀ w ∈ wsL_law0_r8, w ∈ lw_tbl := memIn_r _ [354, 355, 356, 357, 358, 359, 151, 113, 361, 362, 363, 364, 665, 666, 667, 668, 609, 669, 670, 671, 672, 365, 366, 367] (by decide +kernel)
set_option maxRecDepth 20000 in
theorem wsL_law_p9 : ∀ w ∈ wsL_law0_r9, w ∈ lw_tbl := memIn_r _ [368, 369, 370, 371, 117, 673, 674, 675, 676, 677, 679, 4, 680, 372, 373, 374, 375, 376, 377, 378, 119, 122, 681, 682] (by decide +kernel)
set_option maxRecDepth 20000 in
theorem wsL_law_p10 : ∀ w ∈ wsL_law0_r10, w ∈ lw_tbl := memIn_r _ [683, 684, 379, 380, 381, 382, 284, 285, 286, 287, 288, 289, 290, 685, 686, 687, 688, 689, 691, 5, 692, 693, 695, 6] (by decide +kernel)
set_option maxRecDepth 20000 in
theorem wsL_law_p11 : ∀ w ∈ wsL_law0_r11, w ∈ lw_tbl := memIn_r _ [696, 383, 384, 385, 386, 276, 277, 278, 279, 280, 281, 282, 697, 698, 699, 700, 701, 703, 7, 704, 387, 388, 389, 390] (by decide +kernel)
set_option maxRecDepth 20000 in
theorem wsL_law_p12 : ∀ w ∈ wsL_law0_r12, w ∈ lw_tbl := memIn_r _ [272, 273, 274, 87, 705, 706, 707, 708, 709, 710, 711, 712, 391, 392, 393, 394, 260, 261, 262, 263, 264, 265, 266, 267] (by decide +kernel)
set_option maxRecDepth 20000 in
theorem wsL_law_p13 : ∀ w ∈ wsL_law0_r13, w ∈ lw_tbl := memIn_r _ [268, 269, 270, 713, 714, 715, 716, 717, 719, 8, 720, 395, 396, 397, 398, 181, 182, 183, 84, 255, 256, 257, 258, 721] (by decide +kernel)
set_option maxRecDepth 20000 in
theorem wsL_law_p14 : ∀ w ∈ wsL_law0_r14, w ∈ lw_tbl := memIn_r _ [722, 723, 724, 725, 727, 9, 728, 729, 730, 731, 732, 399, 400, 401, 402, 403, 404, 405, 406, 407, 408, 409, 410, 411] (by decide +kernel)
set_option maxRecDepth 20000 in
theorem wsL_law_p15 : ∀ w ∈ wsL_law0_r15, w ∈ lw_tbl := memIn_r _ [412, 413, 112, 124, 52, 414, 415, 416, 417, 116, 418, 419, 420, 421, 423, 424, 425, 426, 427, 428, 429, 430, 431, 432] (by decide +kernel)
set_option maxRecDepth 20000 in
theorem wsL_law_p16 : ∀ w ∈ wsL_law0_r16, w ∈ lw_tbl := memIn_r _ [433, 434, 435, 436, 437, 438, 439, 440, 441, 442, 443, 444, 126, 445, 446, 447, 448, 86, 75, 128, 120, 449, 450, 451] (by decide +kernel)
set_option maxRecDepth 20000 in
theorem wsL_law_p17 : ∀ w ∈ wsL_law0_r17, w ∈ lw_tbl := memIn_r _ [452, 453, 454, 455, 456, 457, 458, 459, 460, 461, 73, 462, 463, 464, 465, 466, 468, 469, 470, 471, 472, 473, 474, 475] (by decide +kernel)
set_option maxRecDepth 20000 in
theorem wsL_law_p18 : ∀ w ∈ wsL_law0_r18, w ∈ lw_tbl := memIn_r _ [476, 477, 78, 81, 478, 479, 480, 481, 482, 483, 484, 485, 486, 487, 488, 489, 490, 491, 492, 493, 494, 495, 496, 497] (by decide +kernel)
set_option maxRecDepth 20000 in
theorem wsL_law_p19 : ∀ w ∈ wsL_law0_r19, w ∈ lw_tbl := memIn_r _ [733, 734, 735, 736, 737, 738, 739, 740, 741, 742, 743, 744, 554, 745, 747, 10, 748, 749, 751, 11, 752, 757, 758, 32] (by decide +kernel)
set_option maxRecDepth 20000 in
theorem wsL_law_p20 : ∀ w ∈ wsL_law0_r20, w ∈ lw_tbl := memIn_r _ [759, 753, 755, 12, 756, 760, 761, 763, 13, 764, 765, 766, 768, 14, 769, 770, 772, 15, 773, 774, 776, 16, 777, 498] (by decide +kernel)
set_option maxRecDepth 20000 in
theorem wsL_law_p21 : ∀ w ∈ wsL_law0_r21, w ∈ lw_tbl := memIn_r _ [499, 500, 501, 502, 503, 504, 79, 505, 506, 507, 508, 509, 510, 511, 512, 513, 515, 514, 33, 516, 517, 518, 519, 520] (by decide +kernel)
set_option maxRecDepth 20000 in
theorem wsL_law_p22 : ∀ w ∈ wsL_law0_r22, w ∈ lw_tbl := memIn_r _ [521, 778, 779, 780, 781, 782, 783, 784, 785, 786, 788, 17, 789, 790, 791, 522, 523, 524, 525, 526, 527, 528, 792, 793] (by decide +kernel)
set_option maxRecDepth 20000 in
theorem wsL_law_p23 : ∀ w ∈ wsL_law0_r23, w ∈ lw_tbl := memIn_r _ [794, 795, 530, 531, 532, 533, 534, 535, 536, 537, 539, 1, 540, 541, 796, 797, 798, 799, 170, 171, 172, 173, 800, 801] (by decide +kernel)
set_option maxRecDepth 20000 in
theorem wsL_law_p24 : ∀ w ∈ wsL_law0_r24, w ∈ lw_tbl := memIn_r _ [802, 803, 174, 175, 176, 177, 178, 179, 180, 259, 271, 275, 283, 804, 805, 806, 807, 808, 809] (by decide +kernel)
theorem wsL_law_q0 : ∀ w ∈ wsX00, w ∈ lw_tbl := by decide +kernel
theorem wsL_law_q1 : ∀ w ∈ wsX10, w ∈ lw_tbl := by decide +kernel
theorem wsL_law_q2 : ∀ w ∈ wsX20, w ∈ lw_tbl := by decide +kernel
theorem wsL_law_q3 : ∀ w ∈ wsX30, w ∈ lw_tbl := by decide +kernel
theorem wsL_law_q4 : ∀ w ∈ wsX40, w ∈ lw_tbl := by decide +kernel
theorem wsL_law_q5 : ∀ w ∈ wsX50, w ∈ lw_tbl := by decide +kernel
theorem wsL_law_q6 : ∀ w ∈ wsX60, w ∈ lw_tbl := by decide +kernel
theorem wsL_law_in0 : ∀ w ∈ wsL_law0, w ∈ lw_tbl := (memIn_app (memIn_app (memIn_app (memIn_app (memIn_app (memIn_app (memIn_app (memIn_app (memIn_app wsL_law_p1 (memIn_app wsL_law_p2 (memIn_app wsL_law_p3 (memIn_app wsL_law_p4 (memIn_app wsL_law_p5 (memIn_app wsL_law_p6 (memIn_app wsL_law_p7 (memIn_app wsL_law_p8 (memIn_app wsL_law_p9 (memIn_app wsL_law_p10 (memIn_app wsL_law_p11 (memIn_app wsL_law_p12 (memIn_app wsL_law_p13 (memIn_app wsL_law_p14 (memIn_app wsL_law_p15 (memIn_app wsL_law_p16 (memIn_app wsL_law_p17 (memIn_app wsL_law_p18 (memIn_app wsL_law_p19 (memIn_app wsL_law_p20 (memIn_app wsL_law_p21 (memIn_app wsL_law_p22 (memIn_app wsL_law_p23 wsL_law_p24))))))))))))))))))))))) wsL_law_q4) wsL_law_q6) wsL_law_q1) wsL_law_q3) wsL_law_q2) wsL_law_q0) wsL_law_q5) (fun _ h => absurd h List.not_mem_nil))
theorem wsL_law_x0 : ∀ w ∈ (vx_atS RX4 52 "java/lang/IllegalStateException" ["java/lang/RuntimeException", "java/lang/Exception"]).filter goodWord, w ∈ lw_tbl := by decide +kernel
theorem wsL_law_x1 : ∀ w ∈ (vx_atS RX4 130 "java/lang/IndexOutOfBoundsException" ["java/lang/RuntimeException", "java/lang/Exception"]).filter goodWord, w ∈ lw_tbl := by decide +kernel
theorem wsL_law_x2 : ∀ w ∈ (vx_atS RX4 163 "java/lang/IllegalArgumentException" ["java/lang/RuntimeException", "java/lang/Exception"]).filter goodWord, w ∈ lw_tbl := by decide +kernel
theorem wsL_law_in : ∀ w ∈ wsL_law, w ∈ lw_tbl := fun w h => (List.mem_append.mp h).elim (fun h => (List.mem_append.mp h).elim (fun h => (List.mem_append.mp h).elim (fun h => wsL_law_in0 w h) (fun h => wsL_law_x0 w h)) (fun h => wsL_law_x1 w h)) (fun h => wsL_law_x2 w h)
theorem inlX0 : ∀ w ∈ wsX00, w ∈ wsL_law := fun _ h => List.mem_append_left _ (List.mem_append_left _ (List.mem_append_left _ (List.mem_append_left _ (List.mem_append_left _ (List.mem_append_right _ h)))))
theorem inX0 : ∀ w ∈ wsX00, w ∈ lw_tbl := fun w h => wsL_law_in w (inlX0 w h)
theorem inlX1 : ∀ w ∈ wsX10, w ∈ wsL_law := fun _ h => List.mem_append_left _ (List.mem_append_left _ (List.mem_append_left _ (List.mem_append_left _ (List.mem_append_left _ (List.mem_append_left _ (List.mem_append_left _ (List.mem_append_left _ (List.mem_append_right _ h))))))))
theorem inX1 : ∀ w ∈ wsX10, w ∈ lw_tbl := fun w h => wsL_law_in w (inlX1 w h)
theorem inlX2 : ∀ w ∈ wsX20, w ∈ wsL_law := fun _ h => List.mem_append_left _ (List.mem_append_left _ (List.mem_append_left _ (List.mem_append_left _ (List.mem_append_left _ (List.mem_append_left _ (List.mem_append_right _ h))))))
theorem inX2 : ∀ w ∈ wsX20, w ∈ lw_tbl := fun w h => wsL_law_in w (inlX2 w h)
theorem inlX3 : ∀ w ∈ wsX30, w ∈ wsL_law := fun _ h => List.mem_append_left _ (List.mem_append_left _ (List.mem_append_left _ (List.mem_append_left _ (List.mem_append_left _ (List.mem_append_left _ (List.mem_append_left _ (List.mem_append_right _ h)))))))
theorem inX3 : ∀ w ∈ wsX30, w ∈ lw_tbl := fun w h => wsL_law_in w (inlX3 w h)
theorem inlX4 : ∀ w ∈ wsX40, w ∈ wsL_law := fun _ h => List.mem_append_left _ (List.mem_append_left _ (List.mem_append_left _ (List.mem_append_left _ (List.mem_append_left _ (List.mem_append_left _ (List.mem_append_left _ (List.mem_append_left _ (List.mem_append_left _ (List.mem_append_left _ (List.mem_append_right _ h))))))))))
theorem inX4 : ∀ w ∈ wsX40, w ∈ lw_tbl := fun w h => wsL_law_in w (inlX4 w h)
theorem inlX5 : ∀ w ∈ wsX50, w ∈ wsL_law := fun _ h => List.mem_append_left _ (List.mem_append_left _ (List.mem_append_left _ (List.mem_append_left _ (List.mem_append_right _ h))))
theorem inX5 : ∀ w ∈ wsX50, w ∈ lw_tbl := fun w h => wsL_law_in w (inlX5 w h)
theorem inlX6 : ∀ w ∈ wsX60, w ∈ wsL_law := fun _ h => List.mem_append_left _ (List.mem_append_left _ (List.mem_append_left _ (List.mem_append_left _ (List.mem_append_left _ (List.mem_append_left _ (List.mem_append_left _ (List.mem_append_left _ (List.mem_append_left _ (List.mem_append_right _ h)))))))))
theorem inX6 : ∀ w ∈ wsX60, w ∈ lw_tbl := fun w h => wsL_law_in w (inlX6 w h)
theorem inJ9 : ∀ w ∈ wsJ90, w ∈ lw_tbl := by decide +kernel
theorem inJ0 : ∀ w ∈ wsJ00, w ∈ lw_tbl := by decide +kernel
theorem inJ10 : ∀ w ∈ wsJ100, w ∈ lw_tbl := by decide +kernel
