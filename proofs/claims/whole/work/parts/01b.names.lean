theorem mem_r {big : List Cond} (ws : List Cond) (ps : List Nat) (hp : ws = ps.filterMap (fun i => big[i]?)) : ∀ w ∈ ws, w ∈ big := by
  intro w hw
  rw [hp] at hw
  obtain ⟨i, -, hi⟩ := List.mem_filterMap.mp hw
  exact List.mem_of_getElem? hi
theorem mem_app {big a b : List Cond} (ha : ∀ w ∈ a, w ∈ big) (hb : ∀ w ∈ b, w ∈ big) : ∀ w ∈ a ++ b, w ∈ big := fun w h => (List.mem_append.mp h).elim (ha w) (hb w)
set_option maxRecDepth 20000 in
theorem lin_wsL_law_r1 : ∀ w ∈ wsL_law_r1, w ∈ lw_tbl := mem_r wsL_law_r1 [45, 46, 34, 521, 522, 40, 47, 48, 49, 50, 51, 52, 53, 174, 55, 56, 35, 175, 96, 97, 36, 176, 116, 117] (by decide +kernel)
set_option maxRecDepth 20000 in
theorem lin_wsL_law_r2 : ∀ w ∈ wsL_law_r2, w ∈ lw_tbl := mem_r wsL_law_r2 [37, 177, 135, 136, 38, 178, 179, 180, 154, 39, 58, 59, 60, 95, 61, 64, 67, 70, 73, 76, 78, 99, 100, 101] (by decide +kernel)
set_option maxRecDepth 20000 in
theorem lin_wsL_law_r3 : ∀ w ∈ wsL_law_r3, w ∈ lw_tbl := mem_r wsL_law_r3 [102, 103, 104, 105, 119, 120, 121, 122, 124, 126, 138, 139, 140, 141, 143, 145, 156, 157, 158, 159, 164, 166, 523, 524] (by decide +kernel)
set_option maxRecDepth 20000 in
theorem lin_wsL_law_r4 : ∀ w ∈ wsL_law_r4, w ∈ lw_tbl := mem_r wsL_law_r4 [525, 526, 529, 530, 531, 535, 536, 537, 538, 543, 544, 545, 546, 547, 549, 550, 552, 553, 554, 196, 197, 198, 199, 106] (by decide +kernel)
set_option maxRecDepth 20000 in
theorem lin_wsL_law_r5 : ∀ w ∈ wsL_law_r5, w ∈ lw_tbl := mem_r wsL_law_r5 [74, 200, 201, 202, 203, 204, 205, 206, 207, 208, 209, 210, 211, 213, 0, 214, 215, 216, 217, 218, 219, 220, 41, 221] (by decide +kernel)
set_option maxRecDepth 20000 in
theorem lin_wsL_law_r6 : ∀ w ∈ wsL_law_r6, w ∈ lw_tbl := mem_r wsL_law_r6 [160, 222, 223, 224, 226, 227, 228, 229, 230, 231, 232, 233, 234, 235, 162, 236, 237, 238, 239, 240, 612, 613, 614, 615] (by decide +kernel)
set_option maxRecDepth 20000 in
theorem lin_wsL_law_r7 : ∀ w ∈ wsL_law_r7, w ∈ lw_tbl := mem_r wsL_law_r7 [527, 539, 540, 533, 541, 534, 542, 532, 551, 616, 617, 618, 619, 620, 621, 622, 623, 624, 625, 627, 10, 628, 629, 631] (by decide +kernel)
set_option maxRecDepth 20000 in
theorem lin_wsL_law_r8 : ∀ w ∈ wsL_law_r8, w ∈ lw_tbl := mem_r wsL_law_r8 [11, 632, 633, 635, 12, 636, 637, 639, 13, 640, 641, 643, 14, 644, 645, 647, 15, 648, 241, 242, 243, 244, 63, 66] (by decide +kernel)
set_option maxRecDepth 20000 in
theorem lin_wsL_law_r9 : ∀ w ∈ wsL_law_r9, w ∈ lw_tbl := mem_r wsL_law_r9 [69, 71, 245, 246, 247, 248, 649, 650, 651, 652, 653, 655, 16, 656, 250, 251, 252, 253, 254, 255, 256, 657, 658, 659] (by decide +kernel)
set_option maxRecDepth 20000 in
theorem lin_wsL_law_r10 : ∀ w ∈ wsL_law_r10, w ∈ lw_tbl := mem_r wsL_law_r10 [660, 661, 662, 663, 257, 258, 259, 260, 664, 665, 666, 667, 668, 669, 670, 261, 262, 263, 264, 671, 672, 673, 674, 265] (by decide +kernel)
set_option maxRecDepth 20000 in
theorem lin_wsL_law_r11 : ∀ w ∈ wsL_law_r11, w ∈ lw_tbl := mem_r wsL_law_r11 [266, 267, 268, 77, 269, 270, 271, 272, 675, 676, 677, 678, 273, 274, 275, 276, 277, 278, 279, 280, 281, 282, 283, 284] (by decide +kernel)
set_option maxRecDepth 20000 in
theorem lin_wsL_law_r12 : ∀ w ∈ wsL_law_r12, w ∈ lw_tbl := mem_r wsL_law_r12 [286, 287, 288, 289, 42, 290, 291, 679, 680, 681, 682, 683, 685, 17, 686, 292, 293, 294, 295, 296, 297, 298, 299, 300] (by decide +kernel)
set_option maxRecDepth 20000 in
theorem lin_wsL_law_r13 : ∀ w ∈ wsL_law_r13, w ∈ lw_tbl := mem_r wsL_law_r13 [302, 1, 303, 304, 305, 306, 307, 687, 688, 689, 690, 691, 693, 18, 694, 695, 697, 19, 698, 699, 700, 701, 308, 309] (by decide +kernel)
set_option maxRecDepth 20000 in
theorem lin_wsL_law_r14 : ∀ w ∈ wsL_law_r14, w ∈ lw_tbl := mem_r wsL_law_r14 [310, 311, 312, 313, 314, 315, 316, 702, 703, 704, 705, 317, 318, 319, 320, 321, 322, 323, 324, 706, 707, 708, 709, 710] (by decide +kernel)
set_option maxRecDepth 20000 in
theorem lin_wsL_law_r15 : ∀ w ∈ wsL_law_r15, w ∈ lw_tbl := mem_r wsL_law_r15 [712, 20, 713, 325, 326, 327, 328, 123, 329, 330, 331, 332, 333, 335, 2, 336, 337, 714, 715, 716, 717, 718, 720, 21] (by decide +kernel)
set_option maxRecDepth 20000 in
theorem lin_wsL_law_r16 : ∀ w ∈ wsL_law_r16, w ∈ lw_tbl := mem_r wsL_law_r16 [721, 338, 339, 340, 341, 342, 343, 344, 345, 346, 347, 348, 68, 349, 351, 350, 43, 161, 354, 352, 355, 357, 3, 358] (by decide +kernel)
set_option maxRecDepth 20000 in
theorem lin_wsL_law_r17 : ∀ w ∈ wsL_law_r17, w ∈ lw_tbl := mem_r wsL_law_r17 [146, 142, 144, 359, 360, 44, 361, 362, 363, 364, 365, 367, 4, 368, 722, 723, 724, 725, 726, 728, 22, 729, 548, 730] (by decide +kernel)
set_option maxRecDepth 20000 in
theorem lin_wsL_law_r18 : ∀ w ∈ wsL_law_r18, w ∈ lw_tbl := mem_r wsL_law_r18 [732, 23, 733, 734, 736, 24, 737, 369, 370, 371, 372, 373, 374, 375, 376, 738, 739, 740, 741, 742, 744, 25, 745, 377] (by decide +kernel)
set_option maxRecDepth 20000 in
theorem lin_wsL_law_r19 : ∀ w ∈ wsL_law_r19, w ∈ lw_tbl := mem_r wsL_law_r19 [378, 379, 380, 381, 382, 383, 384, 746, 747, 748, 749, 750, 752, 26, 753, 385, 386, 387, 388, 389, 390, 391, 392, 754] (by decide +kernel)
set_option maxRecDepth 20000 in
theorem lin_wsL_law_r20 : ∀ w ∈ wsL_law_r20, w ∈ lw_tbl := mem_r wsL_law_r20 [755, 756, 757, 758, 760, 27, 761, 393, 394, 395, 396, 127, 125, 397, 398, 399, 400, 75, 401, 402, 403, 72, 404, 405] (by decide +kernel)
set_option maxRecDepth 20000 in
theorem lin_wsL_law_r21 : ∀ w ∈ wsL_law_r21, w ∈ lw_tbl := mem_r wsL_law_r21 [406, 407, 409, 5, 410, 411, 412, 762, 763, 764, 765, 766, 768, 28, 769, 770, 772, 29, 773, 413, 414, 415, 416, 417] (by decide +kernel)
set_option maxRecDepth 20000 in
theorem lin_wsL_law_r22 : ∀ w ∈ wsL_law_r22, w ∈ lw_tbl := mem_r wsL_law_r22 [418, 419, 420, 774, 775, 776, 777, 421, 422, 423, 424, 778, 779, 780, 781, 425, 426, 427, 428, 429, 430, 431, 432, 62] (by decide +kernel)
set_option maxRecDepth 20000 in
theorem lin_wsL_law_r23 : ∀ w ∈ wsL_law_r23, w ∈ lw_tbl := mem_r wsL_law_r23 [65, 782, 783, 784, 785, 786, 788, 30, 789, 434, 435, 436, 437, 790, 791, 792, 793, 438, 439, 440, 441, 794, 795, 796] (by decide +kernel)
set_option maxRecDepth 20000 in
theorem lin_wsL_law_r24 : ∀ w ∈ wsL_law_r24, w ∈ lw_tbl := mem_r wsL_law_r24 [797, 442, 443, 444, 445, 446, 798, 799, 800, 801, 802, 803, 804, 805, 806, 447, 448, 449, 450, 451, 452, 453, 454, 807] (by decide +kernel)
set_option maxRecDepth 20000 in
theorem lin_wsL_law_r25 : ∀ w ∈ wsL_law_r25, w ∈ lw_tbl := mem_r wsL_law_r25 [808, 809, 810, 455, 456, 457, 458, 459, 460, 461, 462, 463, 811, 812, 813, 814, 464, 465, 466, 467, 468, 469, 470, 471] (by decide +kernel)
set_option maxRecDepth 20000 in
theorem lin_wsL_law_r26 : ∀ w ∈ wsL_law_r26, w ∈ lw_tbl := mem_r wsL_law_r26 [815, 816, 817, 818, 472, 473, 474, 475, 163, 819, 820, 821, 822, 823, 825, 31, 826, 476, 477, 478, 479, 165, 480, 827] (by decide +kernel)
set_option maxRecDepth 20000 in
theorem lin_wsL_law_r27 : ∀ w ∈ wsL_law_r27, w ∈ lw_tbl := mem_r wsL_law_r27 [828, 829, 830, 481, 482, 483, 484, 485, 487, 6, 488, 489, 491, 7, 492, 493, 495, 8, 496, 497, 499, 9, 500, 831] (by decide +kernel)
set_option maxRecDepth 20000 in
theorem lin_wsL_law_r28 : ∀ w ∈ wsL_law_r28, w ∈ lw_tbl := mem_r wsL_law_r28 [832, 833, 834, 835, 837, 32, 838, 528, 501, 502, 503, 504, 839, 840, 841, 842, 505, 506, 507, 508, 843, 844, 845, 846] (by decide +kernel)
set_option maxRecDepth 20000 in
theorem lin_wsL_law_r29 : ∀ w ∈ wsL_law_r29, w ∈ lw_tbl := mem_r wsL_law_r29 [509, 510, 511, 512, 847, 848, 849, 850, 513, 514, 515, 516, 851, 852, 853, 854, 517, 518, 519, 520, 79, 855, 856, 857] (by decide +kernel)
set_option maxRecDepth 20000 in
theorem lin_wsL_law_r30 : ∀ w ∈ wsL_law_r30, w ∈ lw_tbl := mem_r wsL_law_r30 [858] (by decide +kernel)
set_option maxRecDepth 20000 in
theorem lin_wsX60 : ∀ w ∈ wsX60, w ∈ lw_tbl := mem_r wsX60 [181, 183, 185, 187, 189, 191, 193] (by decide +kernel)
set_option maxRecDepth 20000 in
theorem lin_wsX70 : ∀ w ∈ wsX70, w ∈ lw_tbl := mem_r wsX70 [555, 557, 559, 561, 563, 565, 567, 569, 571, 573, 575, 577, 579, 581, 583, 585, 587, 589, 591, 593, 595, 597, 599, 601, 603, 605, 607, 609] (by decide +kernel)
set_option maxRecDepth 20000 in
theorem lin_wsX10 : ∀ w ∈ wsX10, w ∈ lw_tbl := mem_r wsX10 [80, 82, 84, 86, 88, 90, 92] (by decide +kernel)
set_option maxRecDepth 20000 in
theorem lin_wsX20 : ∀ w ∈ wsX20, w ∈ lw_tbl := mem_r wsX20 [107, 109, 111, 113] (by decide +kernel)
set_option maxRecDepth 20000 in
theorem lin_wsX00 : ∀ w ∈ wsX00, w ∈ lw_tbl := mem_r wsX00 [128, 130, 132] (by decide +kernel)
set_option maxRecDepth 20000 in
theorem lin_wsX50 : ∀ w ∈ wsX50, w ∈ lw_tbl := mem_r wsX50 [147, 149, 151] (by decide +kernel)
set_option maxRecDepth 20000 in
theorem lin_wsX30 : ∀ w ∈ wsX30, w ∈ lw_tbl := mem_r wsX30 [167, 169, 171] (by decide +kernel)
theorem wsL_law_in : ∀ w ∈ wsL_law, w ∈ lw_tbl := (mem_app (mem_app (mem_app (mem_app (mem_app (mem_app (mem_app (mem_app (mem_app lin_wsL_law_r1 (mem_app lin_wsL_law_r2 (mem_app lin_wsL_law_r3 (mem_app lin_wsL_law_r4 (mem_app lin_wsL_law_r5 (mem_app lin_wsL_law_r6 (mem_app lin_wsL_law_r7 (mem_app lin_wsL_law_r8 (mem_app lin_wsL_law_r9 (mem_app lin_wsL_law_r10 (mem_app lin_wsL_law_r11 (mem_app lin_wsL_law_r12 (mem_app lin_wsL_law_r13 (mem_app lin_wsL_law_r14 (mem_app lin_wsL_law_r15 (mem_app lin_wsL_law_r16 (mem_app lin_wsL_law_r17 (mem_app lin_wsL_law_r18 (mem_app lin_wsL_law_r19 (mem_app lin_wsL_law_r20 (mem_app lin_wsL_law_r21 (mem_app lin_wsL_law_r22 (mem_app lin_wsL_law_r23 (mem_app lin_wsL_law_r24 (mem_app lin_wsL_law_r25 (mem_app lin_wsL_law_r26 (mem_app lin_wsL_law_r27 (mem_app lin_wsL_law_r28 (mem_app lin_wsL_law_r29 lin_wsL_law_r30))))))))))))))))))))))))))))) lin_wsX60) lin_wsX70) lin_wsX10) lin_wsX20) lin_wsX00) lin_wsX50) lin_wsX30) (fun _ h => absurd h List.not_mem_nil))
