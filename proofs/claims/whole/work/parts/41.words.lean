set_option maxRecDepth 20000 in
theorem wl_law_r1 : GoodIn lw_tbl wsL_law_r1 := goodIn_r _ [52, 53, 41, 535, 536, 48, 54, 55, 56, 57, 58, 59, 60, 61, 42, 222, 99, 100, 44, 223, 116, 117, 45, 224] (by decide +kernel) (by decide +kernel)
set_option maxRecDepth 20000 in
theorem wl_law_r2 : GoodIn lw_tbl wsL_law_r2 := goodIn_r _ [131, 132, 46, 225, 160, 161, 47, 226, 63, 64, 65, 66, 67, 43, 85, 98, 87, 89, 69, 70, 71, 72, 76, 102] (by decide +kernel) (by decide +kernel)
set_option maxRecDepth 20000 in
theorem wl_law_r3 : GoodIn lw_tbl wsL_law_r3 := goodIn_r _ [103, 104, 105, 106, 107, 119, 120, 121, 122, 130, 123, 134, 135, 136, 137, 138, 140, 142, 143, 145, 163, 164, 165, 166] (by decide +kernel) (by decide +kernel)
set_option maxRecDepth 20000 in
theorem wl_law_r4 : GoodIn lw_tbl wsL_law_r4 := goodIn_r _ [169, 172, 175, 176, 177, 221, 178, 179, 180, 181, 182, 183, 184, 185, 186, 187, 537, 538, 539, 540, 541, 544, 546, 548] (by decide +kernel) (by decide +kernel)
set_option maxRecDepth 20000 in
theorem wl_law_r5 : GoodIn lw_tbl wsL_law_r5 := goodIn_r _ [550, 551, 552, 553, 557, 238, 239, 240, 241, 245, 242, 243, 244, 246, 247, 248, 249, 250, 251, 252, 253, 254, 256, 255] (by decide +kernel) (by decide +kernel)
set_option maxRecDepth 20000 in
theorem wl_law_r6 : GoodIn lw_tbl wsL_law_r6 := goodIn_r _ [49, 257, 258, 259, 260, 261, 262, 263, 264, 599, 600, 601, 602, 603, 607, 608, 604, 605, 606, 609, 611, 11, 612, 542] (by decide +kernel) (by decide +kernel)
set_option maxRecDepth 20000 in
theorem wl_law_r7 : GoodIn lw_tbl wsL_law_r7 := goodIn_r _ [613, 615, 12, 616, 617, 619, 13, 620, 265, 266, 267, 268, 272, 269, 270, 271, 273, 274, 275, 276, 277, 278, 280, 0] (by decide +kernel) (by decide +kernel)
set_option maxRecDepth 20000 in
theorem wl_law_r8 : GoodIn lw_tbl wsL_law_r8 := goodIn_r _ [281, 282, 283, 285, 1, 286, 287, 288, 289, 290, 291, 292, 293, 50, 294, 295, 297, 2, 298, 299, 621, 622, 623, 624] (by decide +kernel) (by decide +kernel)
set_option maxRecDepth 20000 in
theorem wl_law_r9 : GoodIn lw_tbl wsL_law_r9 := goodIn_r _ [629, 630, 631, 625, 626, 627, 628, 632, 634, 14, 635, 636, 638, 15, 639, 640, 641, 642, 643, 644, 646, 16, 647, 648] (by decide +kernel) (by decide +kernel)
set_option maxRecDepth 20000 in
theorem wl_law_r10 : GoodIn lw_tbl wsL_law_r10 := goodIn_r _ [300, 301, 302, 303, 304, 305, 306, 307, 308, 309, 310, 311, 649, 650, 651, 652, 653, 655, 17, 656, 657, 659, 18, 660] (by decide +kernel) (by decide +kernel)
set_option maxRecDepth 20000 in
theorem wl_law_r11 : GoodIn lw_tbl wsL_law_r11 := goodIn_r _ [661, 663, 19, 664, 665, 312, 313, 314, 315, 316, 322, 323, 317, 318, 319, 320, 321, 666, 667, 668, 669, 670, 671, 672] (by decide +kernel) (by decide +kernel)
set_option maxRecDepth 20000 in
theorem wl_law_r12 : GoodIn lw_tbl wsL_law_r12 := goodIn_r _ [673, 324, 325, 326, 327, 328, 329, 330, 331, 332, 333, 334, 335, 336, 337, 674, 675, 676, 677, 678, 338, 339, 340, 341] (by decide +kernel) (by decide +kernel)
set_option maxRecDepth 20000 in
theorem wl_law_r13 : GoodIn lw_tbl wsL_law_r13 := goodIn_r _ [386, 342, 343, 344, 345, 346, 347, 51, 348, 349, 350, 351, 352, 353, 354, 355, 356, 357, 358, 359, 360, 361, 362, 363] (by decide +kernel) (by decide +kernel)
set_option maxRecDepth 20000 in
theorem wl_law_r14 : GoodIn lw_tbl wsL_law_r14 := goodIn_r _ [364, 365, 366, 367, 368, 369, 370, 371, 372, 373, 374, 375, 376, 377, 378, 379, 380, 381, 382, 383, 384, 387, 389, 3] (by decide +kernel) (by decide +kernel)
set_option maxRecDepth 20000 in
theorem wl_law_r15 : GoodIn lw_tbl wsL_law_r15 := goodIn_r _ [390, 391, 392, 393, 394, 395, 397, 4, 398, 399, 400, 401, 402, 404, 5, 405, 406, 408, 6, 409, 410, 412, 7, 413] (by decide +kernel) (by decide +kernel)
set_option maxRecDepth 20000 in
theorem wl_law_r16 : GoodIn lw_tbl wsL_law_r16 := goodIn_r _ [414, 416, 8, 417, 418, 420, 9, 421, 422, 423, 424, 425, 679, 680, 681, 682, 545, 683, 685, 20, 686, 687, 688, 689] (by decide +kernel) (by decide +kernel)
set_option maxRecDepth 20000 in
theorem wl_law_r17 : GoodIn lw_tbl wsL_law_r17 := goodIn_r _ [690, 691, 692, 693, 695, 21, 696, 697, 699, 22, 700, 701, 703, 23, 704, 705, 707, 24, 708, 709, 711, 25, 712, 713] (by decide +kernel) (by decide +kernel)
set_option maxRecDepth 20000 in
theorem wl_law_r18 : GoodIn lw_tbl wsL_law_r18 := goodIn_r _ [715, 26, 716, 717, 719, 27, 720, 721, 723, 28, 724, 725, 727, 29, 728, 729, 731, 30, 732, 558, 559, 737, 733, 735] (by decide +kernel) (by decide +kernel)
set_option maxRecDepth 20000 in
theorem wl_law_r19 : GoodIn lw_tbl wsL_law_r19 := goodIn_r _ [31, 736, 738, 740, 32, 741, 547, 549, 742, 744, 33, 745, 746, 748, 34, 749, 750, 752, 35, 753, 554, 555, 556, 754] (by decide +kernel) (by decide +kernel)
set_option maxRecDepth 20000 in
theorem wl_law_r20 : GoodIn lw_tbl wsL_law_r20 := goodIn_r _ [756, 36, 757, 426, 427, 428, 429, 430, 432, 10, 433, 434, 435, 436, 437, 758, 759, 760, 761, 762, 763, 765, 37, 766] (by decide +kernel) (by decide +kernel)
set_option maxRecDepth 20000 in
theorem wl_law_r21 : GoodIn lw_tbl wsL_law_r21 := goodIn_r _ [438, 439, 440, 441, 442, 443, 444, 445, 767, 768, 769, 770, 771, 772, 773, 775, 38, 776, 446, 447, 448, 449, 777, 778] (by decide +kernel) (by decide +kernel)
set_option maxRecDepth 20000 in
theorem wl_law_r22 : GoodIn lw_tbl wsL_law_r22 := goodIn_r _ [779, 780, 450, 451, 452, 453, 781, 782, 783, 784, 454, 455, 456, 457, 458, 785, 786, 787, 788, 789, 459, 460, 461, 462] (by decide +kernel) (by decide +kernel)
set_option maxRecDepth 20000 in
theorem wl_law_r23 : GoodIn lw_tbl wsL_law_r23 := goodIn_r _ [463, 464, 465, 466, 467, 468, 469, 470, 471, 790, 791, 792, 793, 794, 795, 472, 473, 474, 475, 476, 477, 478, 479, 796] (by decide +kernel) (by decide +kernel)
set_option maxRecDepth 20000 in
theorem wl_law_r24 : GoodIn lw_tbl wsL_law_r24 := goodIn_r _ [797, 798, 799, 480, 481, 482, 483, 800, 801, 802, 803, 484, 485, 486, 487, 488, 489, 490, 491, 492, 804, 805, 806, 807] (by decide +kernel) (by decide +kernel)
set_option maxRecDepth 20000 in
theorem wl_law_r25 : GoodIn lw_tbl wsL_law_r25 := goodIn_r _ [808, 810, 39, 811, 493, 494, 495, 496, 497, 812, 813, 814, 815, 498, 499, 500, 501, 816, 817, 818, 819, 502, 503, 504] (by decide +kernel) (by decide +kernel)
set_option maxRecDepth 20000 in
theorem wl_law_r26 : GoodIn lw_tbl wsL_law_r26 := goodIn_r _ [505, 506, 507, 508, 509, 510, 511, 512, 820, 821, 822, 823, 513, 514, 515, 516, 517, 518, 519, 520, 521, 522, 523, 524] (by decide +kernel) (by decide +kernel)
set_option maxRecDepth 20000 in
theorem wl_law_r27 : GoodIn lw_tbl wsL_law_r27 := goodIn_r _ [525, 824, 825, 826, 827, 543, 526, 527, 528, 529, 530, 531, 532, 533, 534, 828, 829, 830, 831, 832, 833, 834] (by decide +kernel) (by decide +kernel)
set_option maxRecDepth 20000 in
theorem wl_wsX60 : GoodIn lw_tbl wsX60 := goodIn_r _ [227, 229, 231, 233, 235] (by decide +kernel) (by decide +kernel)
set_option maxRecDepth 20000 in
theorem wl_wsX70 : GoodIn lw_tbl wsX70 := goodIn_r _ [560, 562, 564, 566, 568, 570, 572, 574, 576, 578, 580, 582, 584, 586, 588, 590, 592, 594, 596] (by decide +kernel) (by decide +kernel)
set_option maxRecDepth 20000 in
theorem wl_wsX30 : GoodIn lw_tbl wsX30 := goodIn_r _ [91, 93, 95] (by decide +kernel) (by decide +kernel)
set_option maxRecDepth 20000 in
theorem wl_wsX10 : GoodIn lw_tbl wsX10 := goodIn_r _ [109, 111, 113] (by decide +kernel) (by decide +kernel)
set_option maxRecDepth 20000 in
theorem wl_wsX20 : GoodIn lw_tbl wsX20 := goodIn_r _ [125, 127] (by decide +kernel) (by decide +kernel)
set_option maxRecDepth 20000 in
theorem wl_wsX40 : GoodIn lw_tbl wsX40 := goodIn_r _ [147, 149, 151, 153, 155, 157] (by decide +kernel) (by decide +kernel)
set_option maxRecDepth 20000 in
theorem wl_wsX50 : GoodIn lw_tbl wsX50 := goodIn_r _ [188, 190, 192, 194, 196, 198, 200, 202, 204, 206, 208, 210, 212, 214, 216, 218] (by decide +kernel) (by decide +kernel)
set_option maxRecDepth 20000 in
theorem wl_wsX00 : GoodIn lw_tbl wsX00 := goodIn_r _ [80, 82] (by decide +kernel) (by decide +kernel)
theorem wsL_law_in : ∀ w ∈ wsL_law, w ∈ lw_tbl := fun w h => ((goodIn_app (goodIn_app (goodIn_app (goodIn_app (goodIn_app (goodIn_app (goodIn_app (goodIn_app (goodIn_app (goodIn_app wl_law_r1 (goodIn_app wl_law_r2 (goodIn_app wl_law_r3 (goodIn_app wl_law_r4 (goodIn_app wl_law_r5 (goodIn_app wl_law_r6 (goodIn_app wl_law_r7 (goodIn_app wl_law_r8 (goodIn_app wl_law_r9 (goodIn_app wl_law_r10 (goodIn_app wl_law_r11 (goodIn_app wl_law_r12 (goodIn_app wl_law_r13 (goodIn_app wl_law_r14 (goodIn_app wl_law_r15 (goodIn_app wl_law_r16 (goodIn_app wl_law_r17 (goodIn_app wl_law_r18 (goodIn_app wl_law_r19 (goodIn_app wl_law_r20 (goodIn_app wl_law_r21 (goodIn_app wl_law_r22 (goodIn_app wl_law_r23 (goodIn_app wl_law_r24 (goodIn_app wl_law_r25 (goodIn_app wl_law_r26 wl_law_r27)))))))))))))))))))))))))) wl_wsX60) wl_wsX70) wl_wsX30) wl_wsX10) wl_wsX20) wl_wsX40) wl_wsX50) wl_wsX00) (fun _ h => absurd h List.not_mem_nil)) w h).1
theorem inX6 : ∀ w ∈ wsX60, w ∈ lw_tbl := fun w h => (wl_wsX60 w h).1
theorem inX7 : ∀ w ∈ wsX70, w ∈ lw_tbl := fun w h => (wl_wsX70 w h).1
theorem inX3 : ∀ w ∈ wsX30, w ∈ lw_tbl := fun w h => (wl_wsX30 w h).1
theorem inX1 : ∀ w ∈ wsX10, w ∈ lw_tbl := fun w h => (wl_wsX10 w h).1
theorem inX2 : ∀ w ∈ wsX20, w ∈ lw_tbl := fun w h => (wl_wsX20 w h).1
theorem inX4 : ∀ w ∈ wsX40, w ∈ lw_tbl := fun w h => (wl_wsX40 w h).1
theorem inX5 : ∀ w ∈ wsX50, w ∈ lw_tbl := fun w h => (wl_wsX50 w h).1
theorem inX0 : ∀ w ∈ wsX00, w ∈ lw_tbl := fun w h => (wl_wsX00 w h).1
theorem nw_in : ∀ w ∈ nwL, w ∈ lw_tbl := by
  intro w hw
  have e : nwL = [62, 68, 73, 74, 75, 77, 78, 79, 86, 88, 90, 101, 108, 118, 124, 133, 139, 141, 144, 146, 162, 167, 168, 170, 171, 173, 174, 385].filterMap (fun i => lw_tbl[i]?) := by decide +kernel
  rw [e] at hw
  obtain ⟨i, -, hi⟩ := List.mem_filterMap.mp hw
  exact List.mem_of_getElem? hi
