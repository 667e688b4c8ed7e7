theorem cz_c {big l : List Cond} {a : Cond} (h1 : a ∈ big) (h2 : ∀ w ∈ l, w ∈ big) : ∀ w ∈ a :: l, w ∈ big := List.forall_mem_cons.mpr ⟨h1, h2⟩
theorem cz_n {big : List Cond} : ∀ w ∈ ([] : List Cond), w ∈ big := fun _ h => absurd h List.not_mem_nil
theorem cz_a {big l1 l2 : List Cond} (h1 : ∀ w ∈ l1, w ∈ big) (h2 : ∀ w ∈ l2, w ∈ big) : ∀ w ∈ l1 ++ l2, w ∈ big := List.forall_mem_append.mpr ⟨h1, h2⟩
theorem cz_inr {big : List Cond} (ws : List Cond) (ps : List Nat) (hp : ws = ps.filterMap (fun i => big[i]?)) : ∀ w ∈ ws, w ∈ big := by
  intro w hw
  rw [hp] at hw
  obtain ⟨i, -, hi⟩ := List.mem_filterMap.mp hw
  first | exact List.mem_of_getElem? hi | exact List.getElem?_mem hi
set_option maxRecDepth 20000 in
theorem cz_lr1 : ∀ w ∈ wsL_law_r1, w ∈ lw_tbl := cz_inr _ [47, 48, 35, 550, 551, 43, 49, 50, 51, 52, 53, 54, 55, 56, 36, 209, 70, 71, 37, 210, 176, 211, 179, 212] rfl
set_option maxRecDepth 20000 in
theorem cz_lr2 : ∀ w ∈ wsL_law_r2, w ∈ lw_tbl := cz_inr _ [188, 98, 39, 213, 190, 191, 42, 214, 215, 58, 59, 60, 69, 61, 62, 73, 74, 75, 76, 77, 38, 175, 97, 178] rfl
set_option maxRecDepth 20000 in
theorem cz_lr3 : ∀ w ∈ wsL_law_r3, w ∈ lw_tbl := cz_inr _ [141, 142, 40, 180, 79, 80, 81, 82, 86, 88, 100, 101, 102, 103, 106, 108, 111, 114, 117, 119, 121, 143, 144, 145] rfl
set_option maxRecDepth 20000 in
theorem cz_lr4 : ∀ w ∈ wsL_law_r4, w ∈ lw_tbl := cz_inr _ [146, 168, 169, 147, 148, 41, 149, 150, 152, 0, 153, 155, 156, 160, 162, 157, 158, 159, 166, 167, 193, 194, 195, 196] rfl
set_option maxRecDepth 20000 in
theorem cz_lr5 : ∀ w ∈ wsL_law_r5, w ∈ lw_tbl := cz_inr _ [197, 198, 199, 552, 553, 554, 555, 559, 560, 563, 564, 565, 566, 567, 650, 569, 572, 573, 574, 582, 583, 584, 585, 231] rfl
set_option maxRecDepth 20000 in
theorem cz_lr6 : ∀ w ∈ wsL_law_r6, w ∈ lw_tbl := cz_inr _ [232, 233, 234, 235, 236, 237, 238, 651, 652, 653, 654, 568, 655, 656, 657, 239, 240, 241, 242, 243, 244, 245, 246, 658] rfl
set_option maxRecDepth 20000 in
theorem cz_lr7 : ∀ w ∈ wsL_law_r7, w ∈ lw_tbl := cz_inr _ [659, 660, 661, 247, 248, 249, 250, 251, 252, 253, 254, 255, 257, 1, 258, 259, 260, 261, 262, 662, 663, 664, 665, 570] rfl
set_option maxRecDepth 20000 in
theorem cz_lr8 : ∀ w ∈ wsL_law_r8, w ∈ lw_tbl := cz_inr _ [666, 668, 6, 669, 571, 263, 264, 265, 266, 87, 267, 268, 269, 270, 271, 272, 273, 274, 275, 276, 277, 278, 279, 281] rfl
set_option maxRecDepth 20000 in
theorem cz_lr9 : ∀ w ∈ wsL_law_r9, w ∈ lw_tbl := cz_inr _ [282, 44, 283, 284, 285, 286, 287, 288, 289, 290, 670, 671, 672, 673, 558, 556, 557, 561, 562, 674, 675, 676, 291, 292] rfl
set_option maxRecDepth 20000 in
theorem cz_lr10 : ∀ w ∈ wsL_law_r10, w ∈ lw_tbl := cz_inr _ [293, 294, 85, 105, 295, 296, 297, 298, 299, 300, 301, 302, 303, 304, 305, 306, 307, 308, 309, 677, 678, 679, 680, 681] rfl
set_option maxRecDepth 20000 in
theorem cz_lr11 : ∀ w ∈ wsL_law_r11, w ∈ lw_tbl := cz_inr _ [682, 683, 684, 686, 7, 687, 688, 689, 690, 691, 693, 8, 694, 310, 311, 312, 313, 314, 315, 316, 317, 319, 320, 321] rfl
set_option maxRecDepth 20000 in
theorem cz_lr12 : ∀ w ∈ wsL_law_r12, w ∈ lw_tbl := cz_inr _ [695, 696, 697, 698, 699, 701, 9, 702, 322, 323, 324, 325, 326, 327, 328, 329, 330, 331, 332, 83, 104, 333, 336, 337] rfl
set_option maxRecDepth 20000 in
theorem cz_lr13 : ∀ w ∈ wsL_law_r13, w ∈ lw_tbl := cz_inr _ [338, 339, 703, 704, 705, 706, 707, 709, 10, 710, 340, 341, 342, 343, 113, 116, 118, 120, 344, 345, 346, 347, 348, 349] rfl
set_option maxRecDepth 20000 in
theorem cz_lr14 : ∀ w ∈ wsL_law_r14, w ∈ lw_tbl := cz_inr _ [350, 351, 352, 354, 2, 355, 112, 115, 356, 357, 358, 359, 360, 362, 363, 364, 365, 367, 368, 370, 371, 372, 373, 45] rfl
set_option maxRecDepth 20000 in
theorem cz_lr15 : ∀ w ∈ wsL_law_r15, w ∈ lw_tbl := cz_inr _ [374, 375, 376, 377, 378, 379, 380, 381, 109, 382, 383, 384, 385, 386, 711, 712, 713, 714, 715, 717, 11, 718, 719, 721] rfl
set_option maxRecDepth 20000 in
theorem cz_lr16 : ∀ w ∈ wsL_law_r16, w ∈ lw_tbl := cz_inr _ [12, 722, 723, 725, 13, 726, 727, 728, 729, 730, 731, 732, 733, 734, 735, 736, 737, 738, 739, 741, 14, 742, 743, 745] rfl
set_option maxRecDepth 20000 in
theorem cz_lr17 : ∀ w ∈ wsL_law_r17, w ∈ lw_tbl := cz_inr _ [15, 746, 387, 388, 389, 390, 391, 747, 748, 749, 750, 392, 393, 394, 395, 751, 752, 753, 754, 396, 397, 398, 399, 107] rfl
set_option maxRecDepth 20000 in
theorem cz_lr18 : ∀ w ∈ wsL_law_r18, w ∈ lw_tbl := cz_inr _ [400, 401, 402, 403, 408, 409, 410, 411, 412, 413, 414, 415, 416, 417, 755, 756, 757, 758, 759, 761, 16, 762, 763, 764] rfl
set_option maxRecDepth 20000 in
theorem cz_lr19 : ∀ w ∈ wsL_law_r19, w ∈ lw_tbl := cz_inr _ [765, 766, 768, 17, 769, 770, 772, 18, 773, 418, 419, 420, 421, 774, 775, 776, 777, 422, 423, 424, 425, 426, 427, 428] rfl
set_option maxRecDepth 20000 in
theorem cz_lr20 : ∀ w ∈ wsL_law_r20, w ∈ lw_tbl := cz_inr _ [429, 430, 431, 432, 433, 434, 778, 779, 780, 781, 782, 784, 19, 785, 786, 788, 20, 789, 790, 792, 21, 793, 794, 796] rfl
set_option maxRecDepth 20000 in
theorem cz_lr21 : ∀ w ∈ wsL_law_r21, w ∈ lw_tbl := cz_inr _ [22, 797, 798, 800, 23, 801, 435, 436, 437, 438, 439, 440, 441, 442, 443, 802, 803, 804, 805, 806, 808, 24, 809, 444] rfl
set_option maxRecDepth 20000 in
theorem cz_lr22 : ∀ w ∈ wsL_law_r22, w ∈ lw_tbl := cz_inr _ [445, 446, 447, 448, 449, 450, 451, 177, 84, 452, 453, 455, 3, 456, 457, 458, 459, 461, 462, 463, 464, 465, 466, 467] rfl
set_option maxRecDepth 20000 in
theorem cz_lr23 : ∀ w ∈ wsL_law_r23, w ∈ lw_tbl := cz_inr _ [468, 469, 470, 471, 472, 810, 811, 812, 813, 814, 816, 25, 817, 818, 820, 26, 821, 473, 474, 475, 476, 123, 822, 823] rfl
set_option maxRecDepth 20000 in
theorem cz_lr24 : ∀ w ∈ wsL_law_r24, w ∈ lw_tbl := cz_inr _ [824, 825, 477, 478, 479, 480, 481, 482, 483, 484, 485, 487, 4, 488, 122, 826, 827, 828, 829, 830, 832, 27, 833, 834] rfl
set_option maxRecDepth 20000 in
theorem cz_lr25 : ∀ w ∈ wsL_law_r25, w ∈ lw_tbl := cz_inr _ [836, 28, 837, 838, 839, 840, 489, 490, 491, 492, 493, 494, 495, 496, 503, 497, 498, 499, 500, 501, 502, 504, 841, 842] rfl
set_option maxRecDepth 20000 in
theorem cz_lr26 : ∀ w ∈ wsL_law_r26, w ∈ lw_tbl := cz_inr _ [843, 844, 845, 847, 29, 848, 575, 849, 851, 30, 852, 853, 854, 855, 856, 505, 506, 507, 508, 89, 110, 509, 510, 511] rfl
set_option maxRecDepth 20000 in
theorem cz_lr27 : ∀ w ∈ wsL_law_r27, w ∈ lw_tbl := cz_inr _ [512, 513, 515, 514, 46, 857, 858, 859, 860, 576, 577, 578, 579, 580, 581, 516, 517, 518, 519, 861, 862, 863, 864, 520] rfl
set_option maxRecDepth 20000 in
theorem cz_lr28 : ∀ w ∈ wsL_law_r28, w ∈ lw_tbl := cz_inr _ [521, 522, 523, 63, 524, 525, 526, 527, 528, 865, 866, 867, 868, 869, 871, 31, 872, 873, 875, 32, 876, 529, 530, 531] rfl
set_option maxRecDepth 20000 in
theorem cz_lr29 : ∀ w ∈ wsL_law_r29, w ∈ lw_tbl := cz_inr _ [532, 533, 534, 535, 536, 537, 538, 539, 541, 5, 542, 543, 544, 545, 546, 547, 548, 549, 877, 878, 879, 880, 881, 586] rfl
set_option maxRecDepth 20000 in
theorem cz_lr30 : ∀ w ∈ wsL_law_r30, w ∈ lw_tbl := cz_inr _ [882, 884, 33, 885, 886] rfl
set_option maxRecDepth 20000 in
theorem cz_lx6 : ∀ w ∈ wsX60, w ∈ lw_tbl := cz_inr _ [216, 218, 220, 222, 224, 226, 228] rfl
set_option maxRecDepth 20000 in
theorem cz_lx7 : ∀ w ∈ wsX70, w ∈ lw_tbl := cz_inr _ [587, 589, 591, 593, 595, 597, 599, 601, 603, 605, 607, 609, 611, 613, 615, 617, 619, 621, 623, 625, 627, 629, 631, 633, 635, 637, 639, 641, 643, 645, 647] rfl
set_option maxRecDepth 20000 in
theorem cz_lx2 : ∀ w ∈ wsX20, w ∈ lw_tbl := cz_inr _ [64, 66] rfl
set_option maxRecDepth 20000 in
theorem cz_lx4 : ∀ w ∈ wsX40, w ∈ lw_tbl := cz_inr _ [181, 183, 185] rfl
set_option maxRecDepth 20000 in
theorem cz_lx0 : ∀ w ∈ wsX00, w ∈ lw_tbl := cz_inr _ [124, 126, 128, 130, 132, 134, 136, 138] rfl
set_option maxRecDepth 20000 in
theorem cz_lx3 : ∀ w ∈ wsX30, w ∈ lw_tbl := cz_inr _ [200, 202, 204, 206] rfl
set_option maxRecDepth 20000 in
theorem cz_lx1 : ∀ w ∈ wsX10, w ∈ lw_tbl := cz_inr _ [90, 92, 94] rfl
set_option maxRecDepth 20000 in
theorem cz_lx5 : ∀ w ∈ wsX50, w ∈ lw_tbl := cz_inr _ [170, 172] rfl
theorem wsL_law_in : ∀ w ∈ wsL_law, w ∈ lw_tbl := (List.forall_mem_append.mpr ⟨(List.forall_mem_append.mpr ⟨(List.forall_mem_append.mpr ⟨(List.forall_mem_append.mpr ⟨(List.forall_mem_append.mpr ⟨(List.forall_mem_append.mpr ⟨(List.forall_mem_append.mpr ⟨(List.forall_mem_append.mpr ⟨(List.forall_mem_append.mpr ⟨(List.forall_mem_append.mpr ⟨cz_lr1, (List.forall_mem_append.mpr ⟨cz_lr2, (List.forall_mem_append.mpr ⟨cz_lr3, (List.forall_mem_append.mpr ⟨cz_lr4, (List.forall_mem_append.mpr ⟨cz_lr5, (List.forall_mem_append.mpr ⟨cz_lr6, (List.forall_mem_append.mpr ⟨cz_lr7, (List.forall_mem_append.mpr ⟨cz_lr8, (List.forall_mem_append.mpr ⟨cz_lr9, (List.forall_mem_append.mpr ⟨cz_lr10, (List.forall_mem_append.mpr ⟨cz_lr11, (List.forall_mem_append.mpr ⟨cz_lr12, (List.forall_mem_append.mpr ⟨cz_lr13, (List.forall_mem_append.mpr ⟨cz_lr14, (List.forall_mem_append.mpr ⟨cz_lr15, (List.forall_mem_append.mpr ⟨cz_lr16, (List.forall_mem_append.mpr ⟨cz_lr17, (List.forall_mem_append.mpr ⟨cz_lr18, (List.forall_mem_append.mpr ⟨cz_lr19, (List.forall_mem_append.mpr ⟨cz_lr20, (List.forall_mem_append.mpr ⟨cz_lr21, (List.forall_mem_append.mpr ⟨cz_lr22, (List.forall_mem_append.mpr ⟨cz_lr23, (List.forall_mem_append.mpr ⟨cz_lr24, (List.forall_mem_append.mpr ⟨cz_lr25, (List.forall_mem_append.mpr ⟨cz_lr26, (List.forall_mem_append.mpr ⟨cz_lr27, (List.forall_mem_append.mpr ⟨cz_lr28, (List.forall_mem_append.mpr ⟨cz_lr29, cz_lr30⟩)⟩)⟩)⟩)⟩)⟩)⟩)⟩)⟩)⟩)⟩)⟩)⟩)⟩)⟩)⟩)⟩)⟩)⟩)⟩)⟩)⟩)⟩)⟩)⟩)⟩)⟩)⟩)⟩), cz_lx6⟩), cz_lx7⟩), cz_lx2⟩), cz_lx4⟩), cz_lx0⟩), cz_lx3⟩), cz_lx1⟩), cz_lx5⟩), fun _ h => absurd h List.not_mem_nil⟩)
theorem inlX0 : ∀ w ∈ wsX00, w ∈ wsL_law := fun _ h => List.mem_append_left _ (List.mem_append_left _ (List.mem_append_left _ (List.mem_append_left _ (List.mem_append_right _ h))))
theorem inX0 : ∀ w ∈ wsX00, w ∈ lw_tbl := fun w h => wsL_law_in w (inlX0 w h)
theorem inlX1 : ∀ w ∈ wsX10, w ∈ wsL_law := fun _ h => List.mem_append_left _ (List.mem_append_left _ (List.mem_append_right _ h))
theorem inX1 : ∀ w ∈ wsX10, w ∈ lw_tbl := fun w h => wsL_law_in w (inlX1 w h)
theorem inlX2 : ∀ w ∈ wsX20, w ∈ wsL_law := fun _ h => List.mem_append_left _ (List.mem_append_left _ (List.mem_append_left _ (List.mem_append_left _ (List.mem_append_left _ (List.mem_append_left _ (List.mem_append_right _ h))))))
theorem inX2 : ∀ w ∈ wsX20, w ∈ lw_tbl := fun w h => wsL_law_in w (inlX2 w h)
theorem inlX3 : ∀ w ∈ wsX30, w ∈ wsL_law := fun _ h => List.mem_append_left _ (List.mem_append_left _ (List.mem_append_left _ (List.mem_append_right _ h)))
theorem inX3 : ∀ w ∈ wsX30, w ∈ lw_tbl := fun w h => wsL_law_in w (inlX3 w h)
theorem inlX4 : ∀ w ∈ wsX40, w ∈ wsL_law := fun _ h => List.mem_append_left _ (List.mem_append_left _ (List.mem_append_left _ (List.mem_append_left _ (List.mem_append_left _ (List.mem_append_right _ h)))))
theorem inX4 : ∀ w ∈ wsX40, w ∈ lw_tbl := fun w h => wsL_law_in w (inlX4 w h)
theorem inlX5 : ∀ w ∈ wsX50, w ∈ wsL_law := fun _ h => List.mem_append_left _ (List.mem_append_right _ h)
theorem inX5 : ∀ w ∈ wsX50, w ∈ lw_tbl := fun w h => wsL_law_in w (inlX5 w h)
theorem inlX6 : ∀ w ∈ wsX60, w ∈ wsL_law := fun _ h => List.mem_append_left _ (List.mem_append_left _ (List.mem_append_left _ (List.mem_append_left _ (List.mem_append_left _ (List.mem_append_left _ (List.mem_append_left _ (List.mem_append_left _ (List.mem_append_right _ h))))))))
theorem inX6 : ∀ w ∈ wsX60, w ∈ lw_tbl := fun w h => wsL_law_in w (inlX6 w h)
theorem inlX7 : ∀ w ∈ wsX70, w ∈ wsL_law := fun _ h => List.mem_append_left _ (List.mem_append_left _ (List.mem_append_left _ (List.mem_append_left _ (List.mem_append_left _ (List.mem_append_left _ (List.mem_append_left _ (List.mem_append_right _ h)))))))
theorem inX7 : ∀ w ∈ wsX70, w ∈ lw_tbl := fun w h => wsL_law_in w (inlX7 w h)
theorem inJ6 : ∀ w ∈ wsJ60, w ∈ lw_tbl := by decide +kernel
theorem inJ9 : ∀ w ∈ wsJ90, w ∈ lw_tbl := by decide +kernel
theorem inJ10 : ∀ w ∈ wsJ100, w ∈ lw_tbl := by decide +kernel
theorem inJ7 : ∀ w ∈ wsJ70, w ∈ lw_tbl := by decide +kernel
abbrev vwCl : List vw_C := [(RX0, TX0, 8), (RX1, TX1, 3), (RX2, TX2, 2), (RX3, TX3, 4), (RX4, TX4, 3), (RX5, TX5, 2), (RX6, TX6, 7), (RX7, TX7, 31)]
