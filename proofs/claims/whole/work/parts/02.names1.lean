theorem mem_pl {big ws : List Cond} (ps : List Nat) (h : ws = ps.filterMap (fun i => big[i]?)) : ∀ w ∈ ws, w ∈ big := by
  intro w hw
  rw [h] at hw
  obtain ⟨i, -, hi⟩ := List.mem_filterMap.mp hw
  exact List.mem_of_getElem? hi
set_option maxRecDepth 20000 in
theorem in_wsL_law_r1 : ∀ w ∈ wsL_law_r1, w ∈ lw_tbl := mem_pl [44, 45, 34, 514, 515, 40, 821, 46, 47, 48, 49, 50, 51, 92, 187, 52, 53, 35, 189, 144, 59, 36, 190, 146] (by decide +kernel)
set_option maxRecDepth 20000 in
theorem in_wsL_law_r2 : ∀ w ∈ wsL_law_r2, w ∈ lw_tbl := mem_pl [94, 37, 191, 192, 148, 149, 38, 193, 171, 172, 39, 194, 195, 55, 56, 57, 58, 129, 93, 131, 61, 62, 63, 64] (by decide +kernel)
set_option maxRecDepth 20000 in
theorem in_wsL_law_r3 : ∀ w ∈ wsL_law_r3, w ∈ lw_tbl := mem_pl [74, 77, 96, 97, 98, 99, 102, 114, 151, 152, 153, 156, 158, 160, 174, 175, 176, 177, 179, 516, 517, 518, 519, 523] (by decide +kernel)
set_option maxRecDepth 20000 in
theorem in_wsL_law_r4 : ∀ w ∈ wsL_law_r4, w ∈ lw_tbl := mem_pl [524, 525, 526, 527, 532, 538, 540, 593, 542, 543, 520, 218, 219, 220, 221, 188, 222, 223, 224, 594, 595, 596, 597, 598] (by decide +kernel)
set_option maxRecDepth 20000 in
theorem in_wsL_law_r5 : ∀ w ∈ wsL_law_r5, w ∈ lw_tbl := mem_pl [533, 599, 600, 601, 225, 226, 227, 228, 602, 603, 604, 605, 229, 230, 231, 232, 233, 234, 235, 236, 133, 237, 239, 0] (by decide +kernel)
set_option maxRecDepth 20000 in
theorem in_wsL_law_r6 : ∀ w ∈ wsL_law_r6, w ∈ lw_tbl := mem_pl [240, 65, 68, 71, 103, 106, 109, 112, 241, 243, 1, 244, 75, 134, 100, 78, 245, 246, 247, 248, 250, 2, 251, 606] (by decide +kernel)
set_option maxRecDepth 20000 in
theorem in_wsL_law_r7 : ∀ w ∈ wsL_law_r7, w ∈ lw_tbl := mem_pl [607, 608, 609, 610, 612, 10, 613, 534, 535, 529, 530, 531, 528, 614, 616, 11, 617, 618, 619, 620, 621, 622, 624, 12] (by decide +kernel)
set_option maxRecDepth 20000 in
theorem in_wsL_law_r8 : ∀ w ∈ wsL_law_r8, w ∈ lw_tbl := mem_pl [625, 253, 254, 255, 256, 130, 132, 155, 181, 69, 72, 257, 258, 259, 260, 67, 70, 262, 263, 264, 265, 266, 267, 105] (by decide +kernel)
set_option maxRecDepth 20000 in
theorem in_wsL_law_r9 : ∀ w ∈ wsL_law_r9, w ∈ lw_tbl := mem_pl [108, 111, 626, 627, 628, 629, 521, 522, 536, 269, 270, 271, 272, 76, 101, 107, 273, 274, 275, 276, 277, 278, 279, 280] (by decide +kernel)
set_option maxRecDepth 20000 in
theorem in_wsL_law_r10 : ∀ w ∈ wsL_law_r10, w ∈ lw_tbl := mem_pl [281, 282, 283, 285, 286, 287, 66, 292, 289, 290, 291, 294, 295, 296, 301, 303, 297, 298, 299, 300, 305, 306, 307, 308] (by decide +kernel)
set_option maxRecDepth 20000 in
theorem in_wsL_law_r11 : ∀ w ∈ wsL_law_r11, w ∈ lw_tbl := mem_pl [309, 310, 311, 312, 41, 313, 314, 315, 316, 630, 631, 632, 633, 634, 636, 13, 637, 638, 640, 14, 641, 642, 644, 15] (by decide +kernel)
set_option maxRecDepth 20000 in
theorem in_wsL_law_r12 : ∀ w ∈ wsL_law_r12, w ∈ lw_tbl := mem_pl [645, 646, 648, 16, 649, 650, 651, 652, 653, 655, 17, 656, 317, 318, 319, 320, 80, 110, 115, 321, 322, 323, 324, 325] (by decide +kernel)
set_option maxRecDepth 20000 in
theorem in_wsL_law_r13 : ∀ w ∈ wsL_law_r13, w ∈ lw_tbl := mem_pl [326, 327, 328, 329, 331, 3, 332, 333, 334, 335, 336, 337, 338, 657, 658, 659, 660, 661, 663, 18, 664, 665, 667, 19] (by decide +kernel)
set_option maxRecDepth 20000 in
theorem in_wsL_law_r14 : ∀ w ∈ wsL_law_r14, w ∈ lw_tbl := mem_pl [668, 669, 671, 20, 672, 673, 675, 21, 676, 339, 340, 341, 342, 343, 344, 345, 346, 73, 347, 348, 349, 350, 154, 351] (by decide +kernel)
set_option maxRecDepth 20000 in
theorem in_wsL_law_r15 : ∀ w ∈ wsL_law_r15, w ∈ lw_tbl := mem_pl [352, 353, 355, 356, 357, 358, 79, 360, 361, 677, 678, 679, 680, 681, 683, 22, 684, 685, 687, 23, 688, 537, 689, 691] (by decide +kernel)
set_option maxRecDepth 20000 in
theorem in_wsL_law_r16 : ∀ w ∈ wsL_law_r16, w ∈ lw_tbl := mem_pl [24, 692, 363, 364, 365, 366, 367, 368, 369, 693, 694, 695, 696, 697, 698, 370, 371, 372, 373, 104, 699, 700, 701, 702] (by decide +kernel)
set_option maxRecDepth 20000 in
theorem in_wsL_law_r17 : ∀ w ∈ wsL_law_r17, w ∈ lw_tbl := mem_pl [374, 375, 376, 377, 378, 379, 380, 381, 703, 704, 705, 706, 382, 383, 384, 385, 157, 159, 161, 386, 387, 388, 389, 390] (by decide +kernel)
set_option maxRecDepth 20000 in
theorem in_wsL_law_r18 : ∀ w ∈ wsL_law_r18, w ∈ lw_tbl := mem_pl [391, 42, 392, 393, 707, 708, 709, 710, 394, 395, 396, 397, 711, 712, 713, 714, 398, 399, 400, 401, 402, 404, 4, 405] (by decide +kernel)
set_option maxRecDepth 20000 in
theorem in_wsL_law_r19 : ∀ w ∈ wsL_law_r19, w ∈ lw_tbl := mem_pl [406, 408, 5, 409, 410, 411, 412, 414, 6, 415, 715, 716, 717, 718, 719, 539, 720, 722, 25, 723, 724, 726, 26, 727] (by decide +kernel)
set_option maxRecDepth 20000 in
theorem in_wsL_law_r20 : ∀ w ∈ wsL_law_r20, w ∈ lw_tbl := mem_pl [728, 730, 27, 731, 732, 734, 28, 735, 736, 737, 738, 416, 417, 418, 419, 420, 421, 43, 422, 423, 424, 425, 739, 740] (by decide +kernel)
set_option maxRecDepth 20000 in
theorem in_wsL_law_r21 : ∀ w ∈ wsL_law_r21, w ∈ lw_tbl := mem_pl [741, 742, 426, 427, 428, 429, 743, 744, 745, 746, 430, 431, 432, 433, 434, 436, 7, 437, 438, 439, 440, 441, 442, 443] (by decide +kernel)
set_option maxRecDepth 20000 in
theorem in_wsL_law_r22 : ∀ w ∈ wsL_law_r22, w ∈ lw_tbl := mem_pl [444, 445, 446, 450, 447, 448, 449, 747, 748, 749, 750, 751, 753, 29, 754, 755, 756, 757, 758, 759, 760, 451, 452, 453] (by decide +kernel)
set_option maxRecDepth 20000 in
theorem in_wsL_law_r23 : ∀ w ∈ wsL_law_r23, w ∈ lw_tbl := mem_pl [454, 455, 456, 457, 458, 459, 460, 461, 761, 762, 763, 764, 765, 766, 767, 768, 769, 771, 30, 772, 462, 463, 464, 465] (by decide +kernel)
set_option maxRecDepth 20000 in
theorem in_wsL_law_r24 : ∀ w ∈ wsL_law_r24, w ∈ lw_tbl := mem_pl [466, 468, 469, 470, 471, 773, 774, 775, 776, 777, 778, 779, 472, 473, 474, 475, 476, 478, 8, 479, 480, 481, 482, 780] (by decide +kernel)
set_option maxRecDepth 20000 in
theorem in_wsL_law_r25 : ∀ w ∈ wsL_law_r25, w ∈ lw_tbl := mem_pl [781, 782, 783, 784, 786, 31, 787, 788, 790, 32, 791, 483, 484, 485, 486, 792, 793, 794, 795, 796, 487, 488, 489, 490] (by decide +kernel)
set_option maxRecDepth 20000 in
theorem in_wsL_law_r26 : ∀ w ∈ wsL_law_r26, w ∈ lw_tbl := mem_pl [196, 797, 798, 799, 800, 541, 491, 492, 493, 494, 495, 496, 497, 801, 802, 803, 804, 805, 806, 807, 808, 498, 499, 500] (by decide +kernel)
set_option maxRecDepth 20000 in
theorem in_wsL_law_r27 : ∀ w ∈ wsL_law_r27, w ∈ lw_tbl := mem_pl [501, 180, 502, 504, 9, 505, 809, 810, 811, 812, 506, 507, 508, 509, 813, 814, 815, 816, 510, 511, 512, 513, 113, 817] (by decide +kernel)
set_option maxRecDepth 20000 in
theorem in_wsL_law_r28 : ∀ w ∈ wsL_law_r28, w ∈ lw_tbl := mem_pl [818, 819, 820] (by decide +kernel)
set_option maxRecDepth 20000 in
theorem inX0 : ∀ w ∈ wsX00, w ∈ lw_tbl := mem_pl [162, 164, 166, 168] (by decide +kernel)
set_option maxRecDepth 20000 in
theorem inX1 : ∀ w ∈ wsX10, w ∈ lw_tbl := mem_pl [81, 83, 85, 87, 89] (by decide +kernel)
set_option maxRecDepth 20000 in
theorem inX2 : ∀ w ∈ wsX20, w ∈ lw_tbl := mem_pl [135, 137, 139, 141] (by decide +kernel)
set_option maxRecDepth 20000 in
theorem inX3 : ∀ w ∈ wsX30, w ∈ lw_tbl := mem_pl [182, 184] (by decide +kernel)
set_option maxRecDepth 20000 in
theorem inX4 : ∀ w ∈ wsX40, w ∈ lw_tbl := mem_pl [116, 118, 120, 122, 124, 126] (by decide +kernel)
set_option maxRecDepth 20000 in
theorem inX5 : ∀ w ∈ wsX50, w ∈ lw_tbl := mem_pl [197, 199, 201, 203, 205, 207, 209, 211, 213, 215] (by decide +kernel)
set_option maxRecDepth 20000 in
theorem inX6 : ∀ w ∈ wsX60, w ∈ lw_tbl := mem_pl [544, 546, 548, 550, 552, 554, 556, 558, 560, 562, 564, 566, 568, 570, 572, 574, 576, 578, 580, 582, 584, 586, 588, 590] (by decide +kernel)
theorem wsL_law_in : ∀ w ∈ wsL_law, w ∈ lw_tbl := (List.forall_mem_append.mpr ⟨(List.forall_mem_append.mpr ⟨(List.forall_mem_append.mpr ⟨(List.forall_mem_append.mpr ⟨(List.forall_mem_append.mpr ⟨(List.forall_mem_append.mpr ⟨(List.forall_mem_append.mpr ⟨(List.forall_mem_append.mpr ⟨(List.forall_mem_append.mpr ⟨in_wsL_law_r1, List.forall_mem_append.mpr ⟨in_wsL_law_r2, List.forall_mem_append.mpr ⟨in_wsL_law_r3, List.forall_mem_append.mpr ⟨in_wsL_law_r4, List.forall_mem_append.mpr ⟨in_wsL_law_r5, List.forall_mem_append.mpr ⟨in_wsL_law_r6, List.forall_mem_append.mpr ⟨in_wsL_law_r7, List.forall_mem_append.mpr ⟨in_wsL_law_r8, List.forall_mem_append.mpr ⟨in_wsL_law_r9, List.forall_mem_append.mpr ⟨in_wsL_law_r10, List.forall_mem_append.mpr ⟨in_wsL_law_r11, List.forall_mem_append.mpr ⟨in_wsL_law_r12, List.forall_mem_append.mpr ⟨in_wsL_law_r13, List.forall_mem_append.mpr ⟨in_wsL_law_r14, List.forall_mem_append.mpr ⟨in_wsL_law_r15, List.forall_mem_append.mpr ⟨in_wsL_law_r16, List.forall_mem_append.mpr ⟨in_wsL_law_r17, List.forall_mem_append.mpr ⟨in_wsL_law_r18, List.forall_mem_append.mpr ⟨in_wsL_law_r19, List.forall_mem_append.mpr ⟨in_wsL_law_r20, List.forall_mem_append.mpr ⟨in_wsL_law_r21, List.forall_mem_append.mpr ⟨in_wsL_law_r22, List.forall_mem_append.mpr ⟨in_wsL_law_r23, List.forall_mem_append.mpr ⟨in_wsL_law_r24, List.forall_mem_append.mpr ⟨in_wsL_law_r25, List.forall_mem_append.mpr ⟨in_wsL_law_r26, List.forall_mem_append.mpr ⟨in_wsL_law_r27, in_wsL_law_r28⟩⟩⟩⟩⟩⟩⟩⟩⟩⟩⟩⟩⟩⟩⟩⟩⟩⟩⟩⟩⟩⟩⟩⟩⟩⟩⟩), inX5⟩), inX6⟩), inX2⟩), inX1⟩), inX4⟩), inX0⟩), inX3⟩), fun _ h => absurd h List.not_mem_nil⟩)
theorem inJ6 : ∀ w ∈ wsJ60, w ∈ lw_tbl := by decide +kernel
theorem inJ13 : ∀ w ∈ wsJ130, w ∈ lw_tbl := by decide +kernel
theorem inJ9 : ∀ w ∈ wsJ90, w ∈ lw_tbl := by decide +kernel
