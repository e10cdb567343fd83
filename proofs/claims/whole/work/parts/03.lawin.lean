theorem lw_inr {big : List Cond} (ws : List Cond) (ps : List Nat) (hp : ws = ps.filterMap (fun i => big[i]?)) : ∀ w ∈ ws, w ∈ big := by
  intro w hw
  rw [hp] at hw
  obtain ⟨i, -, hi⟩ := List.mem_filterMap.mp hw
  exact List.mem_of_getElem? hi
theorem lw_ina {big a b : List Cond} (ha : ∀ w ∈ a, w ∈ big) (hb : ∀ w ∈ b, w ∈ big) : ∀ w ∈ a ++ b, w ∈ big := fun w h => (List.mem_append.mp h).elim (ha w) (hb w)
set_option maxRecDepth 20000 in
theorem in_wsL_law_r1 : ∀ w ∈ wsL_law_r1, w ∈ lw_tbl := lw_inr _ [49, 50, 35, 595, 596, 41, 51, 52, 53, 54, 55, 56, 57, 58, 36, 195, 74, 75, 37, 196, 130, 131, 38, 197] (by decide +kernel)
set_option maxRecDepth 20000 in
theorem in_wsL_law_r2 : ∀ w ∈ wsL_law_r2, w ∈ lw_tbl := lw_inr _ [198, 199, 148, 149, 39, 200, 176, 177, 40, 201, 202, 203, 204, 60, 61, 62, 73, 63, 65, 77, 78, 79, 129, 80] (by decide +kernel)
set_option maxRecDepth 20000 in
theorem in_wsL_law_r3 : ∀ w ∈ wsL_law_r3, w ∈ lw_tbl := lw_inr _ [82, 86, 88, 90, 92, 93, 94, 98, 100, 104, 133, 134, 135, 136, 137, 139, 151, 152, 153, 154, 155, 156, 157, 158] (by decide +kernel)
set_option maxRecDepth 20000 in
theorem in_wsL_law_r4 : ∀ w ∈ wsL_law_r4, w ∈ lw_tbl := lw_inr _ [159, 160, 179, 180, 181, 182, 184, 186, 597, 598, 599, 600, 605, 606, 607, 608, 609, 610, 611, 614, 345, 618, 621, 629] (by decide +kernel)
set_option maxRecDepth 20000 in
theorem in_wsL_law_r5 : ∀ w ∈ wsL_law_r5, w ∈ lw_tbl := lw_inr _ [226, 227, 228, 229, 67, 230, 231, 232, 233, 692, 693, 694, 695, 617, 696, 697, 698, 234, 235, 236, 237, 238, 239, 240] (by decide +kernel)
set_option maxRecDepth 20000 in
theorem in_wsL_law_r6 : ∀ w ∈ wsL_law_r6, w ∈ lw_tbl := lw_inr _ [241, 699, 700, 701, 702, 242, 243, 244, 245, 246, 247, 248, 249, 250, 252, 0, 253, 255, 256, 257, 42, 258, 259, 260] (by decide +kernel)
set_option maxRecDepth 20000 in
theorem in_wsL_law_r7 : ∀ w ∈ wsL_law_r7, w ∈ lw_tbl := lw_inr _ [261, 262, 881, 263, 264, 265, 266, 267, 880, 269, 270, 271, 272, 273, 274, 275, 276, 277, 278, 43, 279, 283, 284, 44] (by decide +kernel)
set_option maxRecDepth 20000 in
theorem in_wsL_law_r8 : ∀ w ∈ wsL_law_r8, w ∈ lw_tbl := lw_inr _ [285, 286, 287, 288, 280, 281, 282, 289, 290, 291, 292, 293, 45, 294, 295, 296, 297, 298, 299, 300, 301, 302, 303, 304] (by decide +kernel)
set_option maxRecDepth 20000 in
theorem in_wsL_law_r9 : ∀ w ∈ wsL_law_r9, w ∈ lw_tbl := lw_inr _ [305, 306, 307, 308, 309, 310, 312, 313, 46, 314, 315, 316, 317, 318, 319, 320, 321, 323, 325, 327, 328, 329, 330, 331] (by decide +kernel)
set_option maxRecDepth 20000 in
theorem in_wsL_law_r10 : ∀ w ∈ wsL_law_r10, w ∈ lw_tbl := lw_inr _ [47, 332, 333, 334, 335, 336, 337, 338, 339, 340, 341, 343, 1, 344, 703, 704, 705, 706, 707, 709, 12, 710, 619, 620] (by decide +kernel)
set_option maxRecDepth 20000 in
theorem in_wsL_law_r11 : ∀ w ∈ wsL_law_r11, w ∈ lw_tbl := lw_inr _ [711, 713, 13, 714, 715, 716, 717, 718, 720, 14, 721, 346, 347, 348, 349, 97, 350, 351, 352, 353, 354, 355, 356, 357] (by decide +kernel)
set_option maxRecDepth 20000 in
theorem in_wsL_law_r12 : ∀ w ∈ wsL_law_r12, w ∈ lw_tbl := lw_inr _ [358, 66, 359, 360, 361, 362, 363, 364, 365, 366, 367, 368, 369, 370, 371, 372, 373, 374, 722, 723, 724, 725, 602, 603] (by decide +kernel)
set_option maxRecDepth 20000 in
theorem in_wsL_law_r13 : ∀ w ∈ wsL_law_r13, w ∈ lw_tbl := lw_inr _ [601, 604, 612, 613, 615, 375, 376, 377, 378, 379, 380, 381, 382, 383, 384, 385, 386, 726, 727, 728, 729, 730, 732, 15] (by decide +kernel)
set_option maxRecDepth 20000 in
theorem in_wsL_law_r14 : ∀ w ∈ wsL_law_r14, w ∈ lw_tbl := lw_inr _ [733, 734, 736, 16, 737, 387, 388, 389, 390, 81, 392, 393, 394, 395, 738, 739, 740, 741, 396, 397, 398, 399, 85, 103] (by decide +kernel)
set_option maxRecDepth 20000 in
theorem in_wsL_law_r15 : ∀ w ∈ wsL_law_r15, w ∈ lw_tbl := lw_inr _ [400, 402, 2, 403, 404, 405, 406, 407, 408, 742, 743, 744, 745, 746, 748, 17, 749, 750, 752, 18, 753, 409, 410, 411] (by decide +kernel)
set_option maxRecDepth 20000 in
theorem in_wsL_law_r16 : ∀ w ∈ wsL_law_r16, w ∈ lw_tbl := lw_inr _ [412, 105, 413, 414, 415, 416, 417, 418, 419, 420, 421, 754, 755, 756, 757, 758, 760, 19, 761, 422, 423, 424, 425, 426] (by decide +kernel)
set_option maxRecDepth 20000 in
theorem in_wsL_law_r17 : ∀ w ∈ wsL_law_r17, w ∈ lw_tbl := lw_inr _ [427, 428, 429, 762, 763, 764, 765, 430, 431, 432, 433, 434, 435, 436, 437, 438, 439, 440, 83, 442, 443, 444, 446, 445] (by decide +kernel)
set_option maxRecDepth 20000 in
theorem in_wsL_law_r18 : ∀ w ∈ wsL_law_r18, w ∈ lw_tbl := lw_inr _ [48, 447, 449, 3, 450, 96, 451, 453, 4, 454, 102, 87, 455, 456, 458, 5, 459, 460, 461, 462, 463, 464, 465, 766] (by decide +kernel)
set_option maxRecDepth 20000 in
theorem in_wsL_law_r19 : ∀ w ∈ wsL_law_r19, w ∈ lw_tbl := lw_inr _ [767, 768, 769, 616, 770, 772, 20, 773, 778, 774, 776, 21, 777, 779, 781, 22, 782, 783, 785, 23, 786, 466, 467, 468] (by decide +kernel)
set_option maxRecDepth 20000 in
theorem in_wsL_law_r20 : ∀ w ∈ wsL_law_r20, w ∈ lw_tbl := lw_inr _ [469, 470, 471, 472, 473, 787, 788, 789, 790, 791, 793, 24, 794, 474, 475, 476, 477, 138, 478, 479, 480, 481, 795, 796] (by decide +kernel)
set_option maxRecDepth 20000 in
theorem in_wsL_law_r21 : ∀ w ∈ wsL_law_r21, w ∈ lw_tbl := lw_inr _ [797, 798, 482, 483, 484, 485, 140, 799, 800, 801, 802, 486, 487, 488, 489, 803, 804, 805, 806, 490, 491, 492, 493, 494] (by decide +kernel)
set_option maxRecDepth 20000 in
theorem in_wsL_law_r22 : ∀ w ∈ wsL_law_r22, w ∈ lw_tbl := lw_inr _ [495, 496, 497, 498, 500, 6, 501, 502, 504, 7, 505, 506, 507, 508, 509, 510, 511, 512, 513, 807, 808, 809, 810, 811] (by decide +kernel)
set_option maxRecDepth 20000 in
theorem in_wsL_law_r23 : ∀ w ∈ wsL_law_r23, w ∈ lw_tbl := lw_inr _ [813, 25, 814, 815, 817, 26, 818, 819, 820, 821, 514, 515, 516, 517, 518, 519, 520, 521, 523, 522, 822, 823, 824, 825] (by decide +kernel)
set_option maxRecDepth 20000 in
theorem in_wsL_law_r24 : ∀ w ∈ wsL_law_r24, w ∈ lw_tbl := lw_inr _ [826, 828, 27, 829, 524, 525, 526, 527, 187, 183, 185, 528, 529, 530, 531, 84, 101, 533, 535, 8, 536, 95, 537, 539] (by decide +kernel)
set_option maxRecDepth 20000 in
theorem in_wsL_law_r25 : ∀ w ∈ wsL_law_r25, w ∈ lw_tbl := lw_inr _ [9, 540, 541, 542, 543, 544, 545, 546, 547, 548, 549, 550, 830, 831, 832, 833, 834, 836, 28, 837, 622, 838, 840, 29] (by decide +kernel)
set_option maxRecDepth 20000 in
theorem in_wsL_law_r26 : ∀ w ∈ wsL_law_r26, w ∈ lw_tbl := lw_inr _ [841, 842, 843, 844, 845, 846, 848, 30, 849, 551, 552, 553, 554, 555, 556, 557, 558, 560, 561, 562, 563, 850, 851, 852] (by decide +kernel)
set_option maxRecDepth 20000 in
theorem in_wsL_law_r27 : ∀ w ∈ wsL_law_r27, w ∈ lw_tbl := lw_inr _ [853, 623, 624, 625, 626, 627, 628, 565, 566, 567, 568, 854, 855, 856, 857, 569, 570, 571, 572, 99, 89, 91, 858, 859] (by decide +kernel)
set_option maxRecDepth 20000 in
theorem in_wsL_law_r28 : ∀ w ∈ wsL_law_r28, w ∈ lw_tbl := lw_inr _ [860, 861, 862, 864, 31, 865, 866, 868, 32, 869, 573, 574, 575, 576, 577, 64, 578, 580, 10, 581, 582, 583, 584, 585] (by decide +kernel)
set_option maxRecDepth 20000 in
theorem in_wsL_law_r29 : ∀ w ∈ wsL_law_r29, w ∈ lw_tbl := lw_inr _ [586, 587, 588, 590, 11, 591, 592, 593, 594, 870, 871, 872, 873, 874, 630, 875, 877, 33, 878, 879] (by decide +kernel)
set_option maxRecDepth 20000 in
theorem in_wsX50 : ∀ w ∈ wsX50, w ∈ lw_tbl := lw_inr _ [205, 207, 209, 211, 213, 215, 217, 219, 221, 223] (by decide +kernel)
set_option maxRecDepth 20000 in
theorem in_wsX60 : ∀ w ∈ wsX60, w ∈ lw_tbl := lw_inr _ [631, 633, 635, 637, 639, 641, 643, 645, 647, 649, 651, 653, 655, 657, 659, 661, 663, 665, 667, 669, 671, 673, 675, 677, 679, 681, 683, 685, 687, 689] (by decide +kernel)
set_option maxRecDepth 20000 in
theorem in_wsX30 : ∀ w ∈ wsX30, w ∈ lw_tbl := lw_inr _ [68, 70] (by decide +kernel)
set_option maxRecDepth 20000 in
theorem in_wsX20 : ∀ w ∈ wsX20, w ∈ lw_tbl := lw_inr _ [106, 108, 110, 112, 114, 116, 118, 120, 122, 124, 126] (by decide +kernel)
set_option maxRecDepth 20000 in
theorem in_wsX10 : ∀ w ∈ wsX10, w ∈ lw_tbl := lw_inr _ [141, 143, 145] (by decide +kernel)
set_option maxRecDepth 20000 in
theorem in_wsX40 : ∀ w ∈ wsX40, w ∈ lw_tbl := lw_inr _ [161, 163, 165, 167, 169, 171, 173] (by decide +kernel)
set_option maxRecDepth 20000 in
theorem in_wsX00 : ∀ w ∈ wsX00, w ∈ lw_tbl := lw_inr _ [188, 190, 192] (by decide +kernel)
theorem wsL_law_in : ∀ w ∈ wsL_law, w ∈ lw_tbl := (lw_ina (lw_ina (lw_ina (lw_ina (lw_ina (lw_ina (lw_ina (lw_ina (lw_ina in_wsL_law_r1 (lw_ina in_wsL_law_r2 (lw_ina in_wsL_law_r3 (lw_ina in_wsL_law_r4 (lw_ina in_wsL_law_r5 (lw_ina in_wsL_law_r6 (lw_ina in_wsL_law_r7 (lw_ina in_wsL_law_r8 (lw_ina in_wsL_law_r9 (lw_ina in_wsL_law_r10 (lw_ina in_wsL_law_r11 (lw_ina in_wsL_law_r12 (lw_ina in_wsL_law_r13 (lw_ina in_wsL_law_r14 (lw_ina in_wsL_law_r15 (lw_ina in_wsL_law_r16 (lw_ina in_wsL_law_r17 (lw_ina in_wsL_law_r18 (lw_ina in_wsL_law_r19 (lw_ina in_wsL_law_r20 (lw_ina in_wsL_law_r21 (lw_ina in_wsL_law_r22 (lw_ina in_wsL_law_r23 (lw_ina in_wsL_law_r24 (lw_ina in_wsL_law_r25 (lw_ina in_wsL_law_r26 (lw_ina in_wsL_law_r27 (lw_ina in_wsL_law_r28 in_wsL_law_r29)))))))))))))))))))))))))))) in_wsX50) in_wsX60) in_wsX30) in_wsX20) in_wsX10) in_wsX40) in_wsX00) (fun _ h => absurd h List.not_mem_nil))
