set_option maxRecDepth 20000 in
theorem wl_law_r1 : GoodIn lw_tbl wsL_law_r1 := goodIn_r _ [53, 54, 42, 539, 540, 49, 55, 56, 57, 58, 59, 60, 61, 62, 43, 226, 100, 101, 45, 227, 117, 118, 46, 228] (by decide +kernel) (by decide +kernel)
set_option maxRecDepth 20000 in
theorem wl_law_r2 : GoodIn lw_tbl wsL_law_r2 := goodIn_r _ [132, 133, 47, 229, 161, 162, 48, 230, 64, 65, 66, 67, 68, 44, 86, 99, 88, 90, 70, 71, 72, 73, 77, 103] (by decide +kernel) (by decide +kernel)
set_option maxRecDepth 20000 in
theorem wl_law_r3 : GoodIn lw_tbl wsL_law_r3 := goodIn_r _ [104, 105, 106, 107, 108, 120, 121, 122, 123, 131, 124, 135, 136, 137, 138, 139, 141, 143, 144, 146, 164, 165, 166, 167] (by decide +kernel) (by decide +kernel)
set_option maxRecDepth 20000 in
theorem wl_law_r4 : GoodIn lw_tbl wsL_law_r4 := goodIn_r _ [170, 173, 176, 178, 180, 225, 182, 183, 184, 185, 186, 187, 188, 189, 190, 191, 541, 542, 543, 544, 545, 548, 550, 552] (by decide +kernel) (by decide +kernel)
set_option maxRecDepth 20000 in
theorem wl_law_r5 : GoodIn lw_tbl wsL_law_r5 := goodIn_r _ [554, 555, 556, 557, 561, 242, 243, 244, 245, 249, 246, 247, 248, 250, 251, 252, 253, 254, 255, 256, 257, 258, 260, 259] (by decide +kernel) (by decide +kernel)
set_option maxRecDepth 20000 in
theorem wl_law_r6 : GoodIn lw_tbl wsL_law_r6 := goodIn_r _ [50, 261, 262, 263, 264, 265, 266, 267, 268, 603, 604, 605, 606, 607, 611, 612, 608, 609, 610, 613, 615, 12, 616, 546] (by decide +kernel) (by decide +kernel)
set_option maxRecDepth 20000 in
theorem wl_law_r7 : GoodIn lw_tbl wsL_law_r7 := goodIn_r _ [617, 619, 13, 620, 621, 623, 14, 624, 269, 270, 271, 272, 276, 273, 274, 275, 277, 278, 279, 280, 281, 282, 284, 0] (by decide +kernel) (by decide +kernel)
set_option maxRecDepth 20000 in
theorem wl_law_r8 : GoodIn lw_tbl wsL_law_r8 := goodIn_r _ [285, 286, 287, 289, 1, 290, 291, 292, 293, 294, 295, 296, 297, 51, 298, 299, 301, 2, 302, 303, 625, 626, 627, 628] (by decide +kernel) (by decide +kernel)
set_option maxRecDepth 20000 in
theorem wl_law_r9 : GoodIn lw_tbl wsL_law_r9 := goodIn_r _ [633, 634, 635, 629, 630, 631, 632, 636, 638, 15, 639, 640, 642, 16, 643, 644, 645, 646, 647, 648, 650, 17, 651, 652] (by decide +kernel) (by decide +kernel)
set_option maxRecDepth 20000 in
theorem wl_law_r10 : GoodIn lw_tbl wsL_law_r10 := goodIn_r _ [304, 305, 306, 307, 308, 309, 310, 311, 312, 313, 314, 315, 653, 654, 655, 656, 657, 659, 18, 660, 661, 663, 19, 664] (by decide +kernel) (by decide +kernel)
set_option maxRecDepth 20000 in
theorem wl_law_r11 : GoodIn lw_tbl wsL_law_r11 := goodIn_r _ [665, 667, 20, 668, 669, 316, 317, 318, 319, 320, 326, 327, 321, 322, 323, 324, 325, 670, 671, 672, 673, 674, 675, 676] (by decide +kernel) (by decide +kernel)
set_option maxRecDepth 20000 in
theorem wl_law_r12 : GoodIn lw_tbl wsL_law_r12 := goodIn_r _ [677, 328, 329, 330, 331, 332, 333, 334, 335, 336, 337, 338, 339, 340, 341, 678, 679, 680, 681, 682, 342, 343, 344, 345] (by decide +kernel) (by decide +kernel)
set_option maxRecDepth 20000 in
theorem wl_law_r13 : GoodIn lw_tbl wsL_law_r13 := goodIn_r _ [390, 346, 347, 348, 349, 350, 351, 52, 352, 353, 354, 355, 356, 357, 358, 359, 360, 361, 362, 363, 364, 365, 366, 367] (by decide +kernel) (by decide +kernel)
set_option maxRecDepth 20000 in
theorem wl_law_r14 : GoodIn lw_tbl wsL_law_r14 := goodIn_r _ [368, 369, 370, 371, 372, 373, 374, 375, 376, 377, 378, 379, 380, 381, 382, 383, 384, 385, 386, 387, 388, 391, 393, 3] (by decide +kernel) (by decide +kernel)
set_option maxRecDepth 20000 in
theorem wl_law_r15 : GoodIn lw_tbl wsL_law_r15 := goodIn_r _ [394, 395, 396, 397, 398, 399, 401, 4, 402, 403, 405, 5, 406, 407, 408, 409, 410, 412, 6, 413, 414, 416, 7, 417] (by decide +kernel) (by decide +kernel)
set_option maxRecDepth 20000 in
theorem wl_law_r16 : GoodIn lw_tbl wsL_law_r16 := goodIn_r _ [418, 420, 8, 421, 422, 424, 9, 425, 426, 427, 428, 429, 683, 684, 685, 686, 549, 687, 689, 21, 690, 691, 692, 693] (by decide +kernel) (by decide +kernel)
set_option maxRecDepth 20000 in
theorem wl_law_r17 : GoodIn lw_tbl wsL_law_r17 := goodIn_r _ [694, 695, 696, 697, 699, 22, 700, 701, 703, 23, 704, 705, 707, 24, 708, 709, 711, 25, 712, 713, 715, 26, 716, 717] (by decide +kernel) (by decide +kernel)
set_option maxRecDepth 20000 in
theorem wl_law_r18 : GoodIn lw_tbl wsL_law_r18 := goodIn_r _ [719, 27, 720, 721, 723, 28, 724, 725, 727, 29, 728, 729, 731, 30, 732, 733, 735, 31, 736, 562, 563, 741, 737, 739] (by decide +kernel) (by decide +kernel)
set_option maxRecDepth 20000 in
theorem wl_law_r19 : GoodIn lw_tbl wsL_law_r19 := goodIn_r _ [32, 740, 742, 744, 33, 745, 551, 553, 746, 748, 34, 749, 750, 752, 35, 753, 754, 756, 36, 757, 558, 559, 560, 758] (by decide +kernel) (by decide +kernel)
set_option maxRecDepth 20000 in
theorem wl_law_r20 : GoodIn lw_tbl wsL_law_r20 := goodIn_r _ [760, 37, 761, 430, 431, 432, 433, 434, 436, 10, 437, 438, 440, 11, 441, 762, 763, 764, 765, 766, 767, 769, 38, 770] (by decide +kernel) (by decide +kernel)
set_option maxRecDepth 20000 in
theorem wl_law_r21 : GoodIn lw_tbl wsL_law_r21 := goodIn_r _ [442, 443, 444, 445, 446, 447, 448, 449, 771, 772, 773, 774, 775, 776, 777, 779, 39, 780, 450, 451, 452, 453, 781, 782] (by decide +kernel) (by decide +kernel)
set_option maxRecDepth 20000 in
theorem wl_law_r22 : GoodIn lw_tbl wsL_law_r22 := goodIn_r _ [783, 784, 454, 455, 456, 457, 785, 786, 787, 788, 458, 459, 460, 461, 462, 789, 790, 791, 792, 793, 463, 464, 465, 466] (by decide +kernel) (by decide +kernel)
set_option maxRecDepth 20000 in
theorem wl_law_r23 : GoodIn lw_tbl wsL_law_r23 := goodIn_r _ [467, 468, 469, 470, 471, 472, 473, 474, 475, 794, 795, 796, 797, 798, 799, 476, 477, 478, 479, 480, 481, 482, 483, 800] (by decide +kernel) (by decide +kernel)
set_option maxRecDepth 20000 in
theorem wl_law_r24 : GoodIn lw_tbl wsL_law_r24 := goodIn_r _ [801, 802, 803, 484, 485, 486, 487, 804, 805, 806, 807, 488, 489, 490, 491, 492, 493, 494, 495, 496, 808, 809, 810, 811] (by decide +kernel) (by decide +kernel)
set_option maxRecDepth 20000 in
theorem wl_law_r25 : GoodIn lw_tbl wsL_law_r25 := goodIn_r _ [812, 814, 40, 815, 497, 498, 499, 500, 501, 816, 817, 818, 819, 502, 503, 504, 505, 820, 821, 822, 823, 506, 507, 508] (by decide +kernel) (by decide +kernel)
set_option maxRecDepth 20000 in
theorem wl_law_r26 : GoodIn lw_tbl wsL_law_r26 := goodIn_r _ [509, 510, 511, 512, 513, 514, 515, 516, 824, 825, 826, 827, 517, 518, 519, 520, 521, 522, 523, 524, 525, 526, 527, 528] (by decide +kernel) (by decide +kernel)
set_option maxRecDepth 20000 in
theorem wl_law_r27 : GoodIn lw_tbl wsL_law_r27 := goodIn_r _ [529, 828, 829, 830, 831, 547, 530, 531, 532, 533, 534, 535, 536, 537, 538, 832, 833, 834, 835, 836, 837, 838] (by decide +kernel) (by decide +kernel)
set_option maxRecDepth 20000 in
theorem wl_wsX60 : GoodIn lw_tbl wsX60 := goodIn_r _ [231, 233, 235, 237, 239] (by decide +kernel) (by decide +kernel)
set_option maxRecDepth 20000 in
theorem wl_wsX70 : GoodIn lw_tbl wsX70 := goodIn_r _ [564, 566, 568, 570, 572, 574, 576, 578, 580, 582, 584, 586, 588, 590, 592, 594, 596, 598, 600] (by decide +kernel) (by decide +kernel)
set_option maxRecDepth 20000 in
theorem wl_wsX30 : GoodIn lw_tbl wsX30 := goodIn_r _ [92, 94, 96] (by decide +kernel) (by decide +kernel)
set_option maxRecDepth 20000 in
theorem wl_wsX10 : GoodIn lw_tbl wsX10 := goodIn_r _ [110, 112, 114] (by decide +kernel) (by decide +kernel)
set_option maxRecDepth 20000 in
theorem wl_wsX20 : GoodIn lw_tbl wsX20 := goodIn_r _ [126, 128] (by decide +kernel) (by decide +kernel)
set_option maxRecDepth 20000 in
theorem wl_wsX40 : GoodIn lw_tbl wsX40 := goodIn_r _ [148, 150, 152, 154, 156, 158] (by decide +kernel) (by decide +kernel)
set_option maxRecDepth 20000 in
theorem wl_wsX50 : GoodIn lw_tbl wsX50 := goodIn_r _ [192, 194, 196, 198, 200, 202, 204, 206, 208, 210, 212, 214, 216, 218, 220, 222] (by decide +kernel) (by decide +kernel)
set_option maxRecDepth 20000 in
theorem wl_wsX00 : GoodIn lw_tbl wsX00 := goodIn_r _ [81, 83] (by decide +kernel) (by decide +kernel)
theorem wsL_law_in : ∀ w ∈ wsL_law, w ∈ lw_tbl := fun w h => ((goodIn_app (goodIn_app (goodIn_app (goodIn_app (goodIn_app (goodIn_app (goodIn_app (goodIn_app (goodIn_app (goodIn_app wl_law_r1 (goodIn_app wl_law_r2 (goodIn_app wl_law_r3 (goodIn_app wl_law_r4 (goodIn_app wl_law_r5 (goodIn_app wl_law_r6 (goodIn_app wl_law_r7 (goodIn_app wl_law_r8 (goodIn_app wl_law_r9 (goodIn_app wl_law_r10 (goodIn_app wl_law_r11 (goodIn_app wl_law_r12 (goodIn_app wl_law_r13 (goodIn_app wl_law_r14 (goodIn_app wl_law_r15 (goodIn_app wl_law_r16 (goodIn_app wl_law_r17 (goodIn_app wl_law_r18 (goodIn_app wl_law_r19 (goodIn_app wl_law_r20 (goodIn_app wl_law_r21 (goodIn_app wl_law_r22 (goodIn_app wl_law_r23 (goodIn_app wl_law_r24 (goodIn_app wl_law_r25 (goodIn_app wl_law_r26 wl_law_r27)))))))))))))))))))))))))) wl_wsX60) wl_wsX70) wl_wsX30) wl_wsX10) wl_wsX20) wl_wsX40) wl_wsX50) wl_wsX00) (fun _ h => absurd h List.not_mem_nil)) w h).1
theorem inX6 : ∀ w ∈ wsX60, w ∈ lw_tbl := fun w h => (wl_wsX60 w h).1
theorem inX7 : ∀ w ∈ wsX70, w ∈ lw_tbl := fun w h => (wl_wsX70 w h).1
theorem inX3 : ∀ w ∈ wsX30, w ∈ lw_tbl := fun w h => (wl_wsX30 w h).1
theorem inX1 : ∀ w ∈ wsX10, w ∈ lw_tbl := fun w h => (wl_wsX10 w h).1
theorem inX2 : ∀ w ∈ wsX20, w ∈ lw_tbl := fun w h => (wl_wsX20 w h).1
theorem inX4 : ∀ w ∈ wsX40, w ∈ lw_tbl := fun w h => (wl_wsX40 w h).1
theorem inX5 : ∀ w ∈ wsX50, w ∈ lw_tbl := fun w h => (wl_wsX50 w h).1
theorem inX0 : ∀ w ∈ wsX00, w ∈ lw_tbl := fun w h => (wl_wsX00 w h).1
theorem nw_in : ∀ w ∈ nwL, w ∈ lw_tbl := by
  intro w hw
  have e : nwL = [63, 69, 74, 75, 76, 78, 79, 80, 87, 89, 91, 102, 109, 119, 125, 134, 140, 142, 145, 147, 163, 168, 169, 171, 172, 174, 175, 177, 179, 181, 389].filterMap (fun i => lw_tbl[i]?) := by decide +kernel
  rw [e] at hw
  obtain ⟨i, -, hi⟩ := List.mem_filterMap.mp hw
  exact List.mem_of_getElem? hi
