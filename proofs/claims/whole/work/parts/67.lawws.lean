theorem mem_pl {big ws : List Cond} (ps : List Nat) (hp : ws = ps.filterMap (fun i => big[i]?)) : ∀ w ∈ ws, w ∈ big := by
  intro w hw
  rw [hp] at hw
  obtain ⟨i, -, hi⟩ := List.mem_filterMap.mp hw
  exact List.mem_of_getElem? hi
set_option maxRecDepth 20000 in
theorem lwin_r1 : ∀ w ∈ wsL_law_r1, w ∈ lw_tbl := mem_pl [54, 55, 47, 596, 597, 52, 56, 57, 58, 59, 60, 61, 62, 63, 48, 235, 123, 124, 49, 236, 197, 198, 51, 237] rfl
set_option maxRecDepth 20000 in
theorem lwin_r2 : ∀ w ∈ wsL_law_r2, w ∈ lw_tbl := mem_pl [65, 66, 67, 121, 70, 74, 78, 82, 83, 68, 87, 122, 91, 125, 126, 127, 128, 129, 130, 50, 167, 168, 165, 169] rfl
set_option maxRecDepth 20000 in
theorem lwin_r3 : ∀ w ∈ wsL_law_r3, w ∈ lw_tbl := mem_pl [170, 166, 132, 133, 134, 135, 137, 138, 139, 140, 141, 142, 143, 199, 200, 201, 202, 205, 206, 207, 203, 208, 209, 210] rfl
set_option maxRecDepth 20000 in
theorem lwin_r4 : ∀ w ∈ wsL_law_r4, w ∈ lw_tbl := mem_pl [204, 598, 599, 600, 601, 604, 605, 606, 607, 608, 609, 610, 615, 617, 618, 619, 620, 621, 622, 623, 624, 627, 628, 245] rfl
set_option maxRecDepth 20000 in
theorem lwin_r5 : ∀ w ∈ wsL_law_r5, w ∈ lw_tbl := mem_pl [246, 247, 248, 249, 250, 251, 252, 253, 254, 255, 257, 0, 258, 259, 260, 261, 262, 171, 173, 174, 263, 264, 265, 266] rfl
set_option maxRecDepth 20000 in
theorem lwin_r6 : ∀ w ∈ wsL_law_r6, w ∈ lw_tbl := mem_pl [213, 267, 268, 269, 270, 94, 687, 688, 689, 690, 602, 611, 691, 692, 693, 271, 272, 273, 274, 71, 75, 275, 276, 277] rfl
set_option maxRecDepth 20000 in
theorem lwin_r7 : ∀ w ∈ wsL_law_r7, w ∈ lw_tbl := mem_pl [278, 694, 695, 696, 697, 698, 700, 31, 701, 279, 280, 281, 282, 80, 702, 703, 704, 705, 283, 284, 285, 286, 287, 288] rfl
set_option maxRecDepth 20000 in
theorem lwin_r8 : ∀ w ∈ wsL_law_r8, w ∈ lw_tbl := mem_pl [289, 290, 98, 706, 707, 708, 709, 603, 291, 292, 293, 294, 84, 295, 296, 297, 298, 710, 711, 712, 713, 714, 716, 32] rfl
set_option maxRecDepth 20000 in
theorem lwin_r9 : ∀ w ∈ wsL_law_r9, w ∈ lw_tbl := mem_pl [717, 299, 300, 301, 302, 90, 718, 719, 720, 721, 303, 304, 305, 306, 92, 307, 308, 309, 310, 722, 723, 724, 725, 726] rfl
set_option maxRecDepth 20000 in
theorem lwin_r10 : ∀ w ∈ wsL_law_r10, w ∈ lw_tbl := mem_pl [728, 33, 729, 311, 312, 313, 314, 97, 101, 730, 731, 732, 733, 315, 316, 317, 318, 319, 320, 321, 322, 172, 323, 325] rfl
set_option maxRecDepth 20000 in
theorem lwin_r11 : ∀ w ∈ wsL_law_r11, w ∈ lw_tbl := mem_pl [1, 326, 100, 93, 327, 329, 2, 330, 96, 77, 73, 331, 332, 333, 334, 335, 336, 53, 337, 145, 144, 338, 339, 340] rfl
set_option maxRecDepth 20000 in
theorem lwin_r12 : ∀ w ∈ wsL_law_r12, w ∈ lw_tbl := mem_pl [341, 342, 344, 3, 345, 346, 347, 348, 349, 350, 352, 4, 353, 88, 85, 354, 355, 356, 357, 358, 359, 360, 361, 362] rfl
set_option maxRecDepth 20000 in
theorem lwin_r13 : ∀ w ∈ wsL_law_r13, w ∈ lw_tbl := mem_pl [363, 364, 365, 366, 367, 369, 5, 370, 371, 373, 6, 374, 375, 377, 7, 378, 387, 388, 389, 379, 381, 8, 382, 383] rfl
set_option maxRecDepth 20000 in
theorem lwin_r14 : ∀ w ∈ wsL_law_r14, w ∈ lw_tbl := mem_pl [385, 9, 386, 734, 735, 736, 737, 612, 738, 740, 34, 741, 626, 742, 744, 35, 745, 746, 748, 36, 749, 625, 750, 752] rfl
set_option maxRecDepth 20000 in
theorem lwin_r15 : ∀ w ∈ wsL_law_r15, w ∈ lw_tbl := mem_pl [37, 753, 754, 756, 38, 757, 613, 614, 616, 758, 759, 760, 761, 763, 39, 764, 765, 767, 40, 768, 769, 771, 41, 772] rfl
set_option maxRecDepth 20000 in
theorem lwin_r16 : ∀ w ∈ wsL_law_r16, w ∈ lw_tbl := mem_pl [773, 775, 42, 776, 390, 391, 392, 393, 397, 398, 394, 395, 396, 399, 400, 401, 402, 79, 403, 405, 10, 406, 407, 408] rfl
set_option maxRecDepth 20000 in
theorem lwin_r17 : ∀ w ∈ wsL_law_r17, w ∈ lw_tbl := mem_pl [410, 11, 411, 412, 413, 414, 415, 416, 418, 12, 419, 420, 422, 13, 423, 424, 426, 14, 427, 428, 430, 15, 431, 432] rfl
set_option maxRecDepth 20000 in
theorem lwin_r18 : ∀ w ∈ wsL_law_r18, w ∈ lw_tbl := mem_pl [433, 434, 435, 436, 438, 16, 439, 440, 441, 442, 443, 444, 445, 446, 447, 448, 449, 450, 451, 452, 453, 454, 777, 778] rfl
set_option maxRecDepth 20000 in
theorem lwin_r19 : ∀ w ∈ wsL_law_r19, w ∈ lw_tbl := mem_pl [779, 780, 784, 788, 781, 782, 783, 785, 786, 787, 455, 456, 457, 458, 459, 460, 461, 462, 463, 789, 790, 791, 792, 793] rfl
set_option maxRecDepth 20000 in
theorem lwin_r20 : ∀ w ∈ wsL_law_r20, w ∈ lw_tbl := mem_pl [464, 465, 466, 467, 468, 469, 470, 471, 794, 795, 796, 797, 472, 473, 474, 475, 476, 478, 17, 479, 480, 481, 482, 483] rfl
set_option maxRecDepth 20000 in
theorem lwin_r21 : ∀ w ∈ wsL_law_r21, w ∈ lw_tbl := mem_pl [484, 486, 18, 487, 798, 799, 800, 801, 488, 489, 490, 491, 492, 493, 494, 495, 802, 803, 804, 805, 496, 497, 498, 499] rfl
set_option maxRecDepth 20000 in
theorem lwin_r22 : ∀ w ∈ wsL_law_r22, w ∈ lw_tbl := mem_pl [500, 501, 502, 503, 175, 504, 506, 19, 507, 806, 807, 808, 809, 508, 509, 510, 511, 512, 514, 20, 515, 520, 516, 517] rfl
set_option maxRecDepth 20000 in
theorem lwin_r23 : ∀ w ∈ wsL_law_r23, w ∈ lw_tbl := mem_pl [518, 519, 521, 522, 523, 524, 212, 559, 95, 525, 527, 21, 528, 72, 76, 533, 534, 535, 536, 529, 531, 22, 532, 81] rfl
set_option maxRecDepth 20000 in
theorem lwin_r24 : ∀ w ∈ wsL_law_r24, w ∈ lw_tbl := mem_pl [89, 537, 539, 23, 540, 99, 211, 541, 542, 544, 24, 545, 86, 546, 547, 549, 25, 550, 551, 552, 53, 553, 554, 555] rfl
set_option maxRecDepth 20000 in
theorem lwin_r25 : ∀ w ∈ wsL_law_r25, w ∈ lw_tbl := mem_pl [557, 26, 558, 560, 562, 27, 563, 564, 566, 28, 567, 568, 570, 29, 571, 572, 574, 30, 575, 576, 577, 578, 579, 810] rfl
set_option maxRecDepth 20000 in
theorem lwin_r26 : ∀ w ∈ wsL_law_r26, w ∈ lw_tbl := mem_pl [811, 812, 813, 629, 814, 816, 43, 817, 818, 819, 821, 44, 822, 823, 825, 45, 826, 580, 581, 582, 583, 584, 585, 586] rfl
set_option maxRecDepth 20000 in
theorem lwin_r27 : ∀ w ∈ wsL_law_r27, w ∈ lw_tbl := mem_pl [587, 827, 828, 829, 830, 588, 589, 590, 591, 831, 832, 833, 834, 592, 593, 594, 595, 835, 836, 837, 838] rfl
set_option maxRecDepth 20000 in
theorem inX0 : ∀ w ∈ wsX00, w ∈ lw_tbl := mem_pl [146, 148, 150, 152, 154, 156, 158, 160, 162] rfl
set_option maxRecDepth 20000 in
theorem inX1 : ∀ w ∈ wsX10, w ∈ lw_tbl := mem_pl [102, 104, 106, 108, 110, 112, 114, 116, 118] rfl
set_option maxRecDepth 20000 in
theorem inX2 : ∀ w ∈ wsX20, w ∈ lw_tbl := mem_pl [176, 178, 180, 182, 184, 186, 188, 190, 192, 194] rfl
set_option maxRecDepth 20000 in
theorem inX3 : ∀ w ∈ wsX30, w ∈ lw_tbl := mem_pl [214, 216, 218, 220, 222, 224, 226, 228, 230, 232] rfl
set_option maxRecDepth 20000 in
theorem inX4 : ∀ w ∈ wsX40, w ∈ lw_tbl := mem_pl [238, 240, 242] rfl
set_option maxRecDepth 20000 in
theorem inX5 : ∀ w ∈ wsX50, w ∈ lw_tbl := mem_pl [630, 632, 634, 636, 638, 640, 642, 644, 646, 648, 650, 652, 654, 656, 658, 660, 662, 664, 666, 668, 670, 672, 674, 676, 678, 680, 682, 684] rfl
theorem wsL_law_in : ∀ w ∈ wsL_law, w ∈ lw_tbl := List.forall_mem_append.mpr ⟨List.forall_mem_append.mpr ⟨List.forall_mem_append.mpr ⟨List.forall_mem_append.mpr ⟨List.forall_mem_append.mpr ⟨List.forall_mem_append.mpr ⟨List.forall_mem_append.mpr ⟨List.forall_mem_append.mpr ⟨lwin_r1, List.forall_mem_append.mpr ⟨lwin_r2, List.forall_mem_append.mpr ⟨lwin_r3, List.forall_mem_append.mpr ⟨lwin_r4, List.forall_mem_append.mpr ⟨lwin_r5, List.forall_mem_append.mpr ⟨lwin_r6, List.forall_mem_append.mpr ⟨lwin_r7, List.forall_mem_append.mpr ⟨lwin_r8, List.forall_mem_append.mpr ⟨lwin_r9, List.forall_mem_append.mpr ⟨lwin_r10, List.forall_mem_append.mpr ⟨lwin_r11, List.forall_mem_append.mpr ⟨lwin_r12, List.forall_mem_append.mpr ⟨lwin_r13, List.forall_mem_append.mpr ⟨lwin_r14, List.forall_mem_append.mpr ⟨lwin_r15, List.forall_mem_append.mpr ⟨lwin_r16, List.forall_mem_append.mpr ⟨lwin_r17, List.forall_mem_append.mpr ⟨lwin_r18, List.forall_mem_append.mpr ⟨lwin_r19, List.forall_mem_append.mpr ⟨lwin_r20, List.forall_mem_append.mpr ⟨lwin_r21, List.forall_mem_append.mpr ⟨lwin_r22, List.forall_mem_append.mpr ⟨lwin_r23, List.forall_mem_append.mpr ⟨lwin_r24, List.forall_mem_append.mpr ⟨lwin_r25, List.forall_mem_append.mpr ⟨lwin_r26, lwin_r27⟩⟩⟩⟩⟩⟩⟩⟩⟩⟩⟩⟩⟩⟩⟩⟩⟩⟩⟩⟩⟩⟩⟩⟩⟩⟩, inX4⟩, inX5⟩, inX1⟩, inX2⟩, inX3⟩, inX0⟩, fun _ h => absurd h List.not_mem_nil⟩
