theorem mem_pl {big ws : List Cond} (ps : List Nat) (hp : ws = ps.filterMap (fun i => big[i]?)) : ∀ w ∈ ws, w ∈ big := fun w hw => by
  rw [hp] at hw
  obtain ⟨i, -, hi⟩ := List.mem_filterMap.mp hw
  exact List.mem_of_getElem? hi
set_option maxRecDepth 20000 in
theorem wsL_law_r1_in : ∀ w ∈ wsL_law_r1, w ∈ lw_tbl := mem_pl [43, 44, 31, 559, 560, 40, 45, 46, 47, 48, 49, 50, 51, 52, 32, 231, 232, 153, 154, 37, 234, 209, 210, 39] (by decide +kernel)
set_option maxRecDepth 20000 in
theorem wsL_law_r2_in : ∀ w ∈ wsL_law_r2, w ∈ lw_tbl := mem_pl [235, 54, 55, 56, 57, 58, 33, 135, 80, 81, 34, 137, 97, 98, 35, 139, 113, 114, 36, 141, 60, 61, 62, 63] (by decide +kernel)
set_option maxRecDepth 20000 in
theorem wsL_law_r3_in : ∀ w ∈ wsL_law_r3, w ∈ lw_tbl := mem_pl [67, 71, 83, 84, 85, 96, 86, 100, 101, 102, 103, 116, 117, 118, 119, 122, 125, 156, 157, 158, 186, 188, 190, 159] (by decide +kernel)
set_option maxRecDepth 20000 in
theorem wsL_law_r4_in : ∀ w ∈ wsL_law_r4, w ∈ lw_tbl := mem_pl [192, 161, 162, 38, 194, 164, 165, 166, 167, 212, 213, 214, 215, 219, 217, 221, 561, 562, 563, 564, 565, 566, 602, 567] (by decide +kernel)
set_option maxRecDepth 20000 in
theorem wsL_law_r5_in : ∀ w ∈ wsL_law_r5, w ∈ lw_tbl := mem_pl [568, 569, 571, 572, 247, 248, 249, 250, 138, 136, 251, 252, 253, 254, 88, 255, 256, 41, 257, 258, 259, 260, 261, 262] (by decide +kernel)
set_option maxRecDepth 20000 in
theorem wsL_law_r6_in : ∀ w ∈ wsL_law_r6, w ∈ lw_tbl := mem_pl [263, 264, 265, 266, 267, 268, 269, 270, 271, 272, 195, 105, 603, 604, 605, 606, 607, 608, 609, 610, 612, 3, 613, 614] (by decide +kernel)
set_option maxRecDepth 20000 in
theorem wsL_law_r7_in : ∀ w ∈ wsL_law_r7, w ∈ lw_tbl := mem_pl [616, 4, 617, 273, 274, 275, 276, 90, 277, 278, 279, 280, 282, 283, 284, 285, 287, 288, 289, 290, 291, 292, 618, 619] (by decide +kernel)
set_option maxRecDepth 20000 in
theorem wsL_law_r8_in : ∀ w ∈ wsL_law_r8, w ∈ lw_tbl := mem_pl [620, 621, 622, 624, 5, 625, 293, 294, 295, 296, 626, 627, 628, 629, 297, 298, 299, 300, 301, 302, 303, 304, 630, 631] (by decide +kernel)
set_option maxRecDepth 20000 in
theorem wsL_law_r9_in : ∀ w ∈ wsL_law_r9, w ∈ lw_tbl := mem_pl [632, 633, 305, 306, 307, 308, 309, 310, 311, 312, 313, 314, 315, 316, 317, 318, 319, 320, 321, 322, 66, 323, 324, 325] (by decide +kernel)
set_option maxRecDepth 20000 in
theorem wsL_law_r10_in : ∀ w ∈ wsL_law_r10, w ∈ lw_tbl := mem_pl [326, 327, 328, 329, 330, 331, 332, 634, 635, 636, 637, 638, 640, 6, 641, 642, 644, 7, 645, 646, 648, 8, 649, 650] (by decide +kernel)
set_option maxRecDepth 20000 in
theorem wsL_law_r11_in : ∀ w ∈ wsL_law_r11, w ∈ lw_tbl := mem_pl [652, 9, 653, 654, 656, 10, 657, 658, 660, 11, 661, 333, 334, 335, 336, 337, 339, 0, 340, 341, 343, 1, 344, 70] (by decide +kernel)
set_option maxRecDepth 20000 in
theorem wsL_law_r12_in : ∀ w ∈ wsL_law_r12, w ∈ lw_tbl := mem_pl [345, 346, 347, 348, 349, 350, 351, 352, 353, 354, 355, 356, 68, 89, 169, 64, 170, 171, 172, 168, 357, 358, 359, 360] (by decide +kernel)
set_option maxRecDepth 20000 in
theorem wsL_law_r13_in : ∀ w ∈ wsL_law_r13, w ∈ lw_tbl := mem_pl [361, 362, 363, 365, 367, 368, 369, 370, 372, 373, 374, 375, 376, 377, 662, 663, 664, 665, 666, 668, 12, 669, 670, 672] (by decide +kernel)
set_option maxRecDepth 20000 in
theorem wsL_law_r14_in : ∀ w ∈ wsL_law_r14, w ∈ lw_tbl := mem_pl [13, 673, 674, 676, 14, 677, 678, 680, 15, 681, 682, 684, 16, 685, 686, 688, 17, 689, 690, 691, 692, 693, 695, 18] (by decide +kernel)
set_option maxRecDepth 20000 in
theorem wsL_law_r15_in : ∀ w ∈ wsL_law_r15, w ∈ lw_tbl := mem_pl [696, 378, 379, 380, 381, 187, 189, 191, 72, 382, 383, 384, 385, 386, 387, 388, 389, 390, 391, 392, 393, 394, 395, 396] (by decide +kernel)
set_option maxRecDepth 20000 in
theorem wsL_law_r16_in : ∀ w ∈ wsL_law_r16, w ∈ lw_tbl := mem_pl [397, 398, 399, 400, 401, 402, 104, 403, 404, 405, 406, 407, 408, 697, 698, 699, 700, 701, 703, 19, 704, 570, 705, 707] (by decide +kernel)
set_option maxRecDepth 20000 in
theorem wsL_law_r17_in : ∀ w ∈ wsL_law_r17, w ∈ lw_tbl := mem_pl [20, 708, 709, 711, 21, 712, 713, 715, 22, 716, 409, 410, 411, 412, 193, 107, 413, 415, 2, 416, 417, 418, 419, 420] (by decide +kernel)
set_option maxRecDepth 20000 in
theorem wsL_law_r18_in : ∀ w ∈ wsL_law_r18, w ∈ lw_tbl := mem_pl [717, 718, 719, 720, 421, 422, 423, 424, 425, 426, 427, 428, 721, 722, 723, 724, 429, 430, 431, 432, 140, 433, 434, 435] (by decide +kernel)
set_option maxRecDepth 20000 in
theorem wsL_law_r19_in : ∀ w ∈ wsL_law_r19, w ∈ lw_tbl := mem_pl [436, 437, 439, 438, 42, 725, 726, 727, 728, 440, 441, 442, 443, 444, 729, 730, 731, 732, 445, 446, 447, 448, 449, 450] (by decide +kernel)
set_option maxRecDepth 20000 in
theorem wsL_law_r20_in : ∀ w ∈ wsL_law_r20, w ∈ lw_tbl := mem_pl [451, 452, 453, 454, 455, 456, 457, 733, 734, 735, 736, 458, 459, 460, 461, 737, 738, 739, 740, 462, 463, 464, 465, 741] (by decide +kernel)
set_option maxRecDepth 20000 in
theorem wsL_law_r21_in : ∀ w ∈ wsL_law_r21, w ∈ lw_tbl := mem_pl [742, 743, 744, 466, 467, 468, 469, 142, 222, 220, 470, 471, 472, 473, 87, 223, 69, 106, 474, 475, 476, 477, 479, 480] (by decide +kernel)
set_option maxRecDepth 20000 in
theorem wsL_law_r22_in : ∀ w ∈ wsL_law_r22, w ∈ lw_tbl := mem_pl [481, 482, 483, 484, 485, 486, 487, 65, 488, 489, 490, 491, 492, 493, 494, 495, 120, 123, 126, 496, 499, 500, 501, 502] (by decide +kernel)
set_option maxRecDepth 20000 in
theorem wsL_law_r23_in : ∀ w ∈ wsL_law_r23, w ∈ lw_tbl := mem_pl [503, 504, 505, 506, 507, 508, 510, 512, 513, 514, 515, 516, 517, 518, 519, 520, 521, 522, 523, 524, 745, 746, 747, 748] (by decide +kernel)
set_option maxRecDepth 20000 in
theorem wsL_law_r24_in : ∀ w ∈ wsL_law_r24, w ∈ lw_tbl := mem_pl [573, 574, 576, 575, 749, 751, 23, 752, 753, 755, 24, 756, 757, 759, 25, 760, 761, 763, 26, 764, 765, 767, 27, 768] (by decide +kernel)
set_option maxRecDepth 20000 in
theorem wsL_law_r25_in : ∀ w ∈ wsL_law_r25, w ∈ lw_tbl := mem_pl [769, 771, 28, 772, 525, 526, 527, 528, 121, 124, 127, 773, 774, 775, 776, 529, 530, 531, 532, 233, 533, 534, 535, 536] (by decide +kernel)
set_option maxRecDepth 20000 in
theorem wsL_law_r26_in : ∀ w ∈ wsL_law_r26, w ∈ lw_tbl := mem_pl [537, 538, 539, 540, 541, 542, 543, 544, 545, 546, 777, 778, 779, 780, 547, 548, 549, 550, 781, 782, 783, 784, 551, 552] (by decide +kernel)
set_option maxRecDepth 20000 in
theorem wsL_law_r27_in : ∀ w ∈ wsL_law_r27, w ∈ lw_tbl := mem_pl [553, 554, 555, 556, 557, 558, 785, 786, 787, 788, 789, 790, 792, 29, 793] (by decide +kernel)
theorem inX0 : ∀ w ∈ wsX00, w ∈ lw_tbl := by decide +kernel
theorem inX1 : ∀ w ∈ wsX10, w ∈ lw_tbl := by decide +kernel
theorem inX2 : ∀ w ∈ wsX20, w ∈ lw_tbl := by decide +kernel
theorem inX3 : ∀ w ∈ wsX30, w ∈ lw_tbl := by decide +kernel
theorem inX4 : ∀ w ∈ wsX40, w ∈ lw_tbl := by decide +kernel
theorem inX5 : ∀ w ∈ wsX50, w ∈ lw_tbl := by decide +kernel
theorem inX6 : ∀ w ∈ wsX60, w ∈ lw_tbl := by decide +kernel
theorem inX7 : ∀ w ∈ wsX70, w ∈ lw_tbl := by decide +kernel
theorem inX8 : ∀ w ∈ wsX80, w ∈ lw_tbl := by decide +kernel
theorem inX9 : ∀ w ∈ wsX90, w ∈ lw_tbl := by decide +kernel
