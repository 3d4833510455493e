/-- words of one list among another's: the code words by their places (compared as they are named), the others by theirs -/
theorem mem_c {big ws : List Cond} (qc qn : List Nat) (hc : ws.filter k2_isCode = qc.filterMap (fun i => big[i]?)) (hn : ws.filter (fun w => !k2_isCode w) = qn.filterMap (fun i => big[i]?)) : ∀ w ∈ ws, w ∈ big := by
  intro w hw
  have key : ∀ ps : List Nat, w ∈ ps.filterMap (fun i => big[i]?) → w ∈ big := fun ps h => by
    obtain ⟨i, -, hi⟩ := List.mem_filterMap.mp h
    exact List.mem_of_getElem? hi
  by_cases h : k2_isCode w = true
  · exact key qc (hc ▸ List.mem_filter.mpr ⟨hw, h⟩)
  · exact key qn (hn ▸ List.mem_filter.mpr ⟨hw, by simpa using h⟩)
theorem mem_a {big a b : List Cond} (ha : ∀ w ∈ a, w ∈ big) (hb : ∀ w ∈ b, w ∈ big) : ∀ w ∈ a ++ b, w ∈ big := fun w h => (List.mem_append.mp h).elim (ha w) (hb w)
set_option maxRecDepth 20000 in
theorem in_wsL_law_r1 : ∀ w ∈ wsL_law_r1, w ∈ lw_tbl := mem_c [69, 72] [65, 66, 51, 631, 632, 64, 67, 68, 70, 71, 86, 378, 73, 74, 52, 379, 87, 88, 53, 380, 381, 142] rfl (by decide +kernel)
set_option maxRecDepth 20000 in
theorem in_wsL_law_r2 : ∀ w ∈ wsL_law_r2, w ∈ lw_tbl := mem_c [77, 91] [143, 54, 382, 383, 190, 191, 55, 384, 385, 210, 211, 56, 386, 387, 76, 78, 79, 90, 92, 104, 106, 108] rfl (by decide +kernel)
set_option maxRecDepth 20000 in
theorem in_wsL_law_r3 : ∀ w ∈ wsL_law_r3, w ∈ lw_tbl := mem_c [146, 194] [109, 111, 113, 115, 144, 145, 147, 153, 154, 156, 159, 148, 161, 163, 165, 167, 150, 192, 193, 195, 196, 199] rfl (by decide +kernel)
set_option maxRecDepth 20000 in
theorem in_wsL_law_r4 : ∀ w ∈ wsL_law_r4, w ∈ lw_tbl := mem_c [214, 233, 247, 238] [198, 213, 215, 216, 217, 218, 230, 232, 0, 245, 246, 58, 235, 236, 237, 57, 933, 239, 240, 241] rfl (by decide +kernel)
set_option maxRecDepth 20000 in
theorem in_wsL_law_r5 : ∀ w ∈ wsL_law_r5, w ∈ lw_tbl := mem_c [242, 251, 255, 258, 261, 266] [243, 934, 248, 249, 250, 252, 253, 254, 256, 257, 59, 259, 260, 262, 264, 265, 60, 267] rfl (by decide +kernel)
set_option maxRecDepth 20000 in
theorem in_wsL_law_r6 : ∀ w ∈ wsL_law_r6, w ∈ lw_tbl := mem_c [269, 272, 275, 279, 289] [268, 61, 270, 271, 273, 274, 276, 277, 278, 280, 282, 284, 286, 288, 1, 202, 388, 220, 290] rfl (by decide +kernel)
set_option maxRecDepth 20000 in
theorem in_wsL_law_r7 : ∀ w ∈ wsL_law_r7, w ∈ lw_tbl := mem_c [293, 297, 301, 305, 308] [291, 292, 80, 294, 295, 296, 93, 96, 99, 101, 103, 298, 300, 2, 302, 304, 3, 306, 307] rfl (by decide +kernel)
set_option maxRecDepth 20000 in
theorem in_wsL_law_r8 : ∀ w ∈ wsL_law_r8, w ∈ lw_tbl := mem_c [312, 315, 319, 323, 327, 331] [309, 311, 4, 313, 314, 316, 317, 318, 320, 322, 5, 324, 326, 6, 328, 330, 7, 332] rfl (by decide +kernel)
set_option maxRecDepth 20000 in
theorem in_wsL_law_r9 : ∀ w ∈ wsL_law_r9, w ∈ lw_tbl := mem_c [335, 339, 343, 347, 351] [333, 334, 336, 337, 338, 340, 342, 8, 344, 346, 9, 348, 349, 350, 151, 107, 352, 354, 353] rfl (by decide +kernel)
set_option maxRecDepth 20000 in
theorem in_wsL_law_r10 : ∀ w ∈ wsL_law_r10, w ∈ lw_tbl := mem_c [357, 361, 365, 369] [62, 355, 356, 63, 358, 360, 10, 100, 116, 110, 112, 114, 362, 363, 364, 366, 367, 368, 370, 371] rfl (by decide +kernel)
set_option maxRecDepth 20000 in
theorem in_wsL_law_r11 : ∀ w ∈ wsL_law_r11, w ∈ lw_tbl := mem_c [373, 377, 635, 640] [372, 374, 375, 376, 633, 634, 636, 661, 663, 664, 665, 666, 668, 670, 673, 674, 637, 639, 16, 641] rfl (by decide +kernel)
set_option maxRecDepth 20000 in
theorem in_wsL_law_r12 : ∀ w ∈ wsL_law_r12, w ∈ lw_tbl := mem_c [644, 648, 652, 656, 660] [643, 17, 645, 647, 18, 649, 651, 19, 653, 655, 20, 667, 669, 671, 657, 659, 21, 413, 414] rfl (by decide +kernel)
set_option maxRecDepth 20000 in
theorem in_wsL_law_r13 : ∀ w ∈ wsL_law_r13, w ∈ lw_tbl := mem_c [416, 707, 710, 420, 714, 424] [415, 704, 705, 706, 662, 708, 709, 417, 418, 419, 711, 712, 713, 421, 422, 423, 715, 716] rfl (by decide +kernel)
set_option maxRecDepth 20000 in
theorem in_wsL_law_r14 : ∀ w ∈ wsL_law_r14, w ∈ lw_tbl := mem_c [718, 722, 726, 730, 734, 737] [717, 719, 721, 22, 672, 723, 725, 23, 727, 729, 24, 731, 733, 25, 735, 736, 425, 426] rfl (by decide +kernel)
set_option maxRecDepth 20000 in
theorem in_wsL_law_r15 : ∀ w ∈ wsL_law_r15, w ∈ lw_tbl := mem_c [428, 432, 741, 436, 441] [427, 97, 429, 430, 431, 738, 739, 740, 433, 434, 435, 105, 155, 437, 438, 439, 440, 98, 442] rfl (by decide +kernel)
set_option maxRecDepth 20000 in
theorem in_wsL_law_r16 : ∀ w ∈ wsL_law_r16, w ∈ lw_tbl := mem_c [445, 745, 749, 753, 757, 450] [443, 444, 446, 742, 743, 744, 746, 748, 26, 750, 752, 27, 754, 756, 28, 447, 448, 449] rfl (by decide +kernel)
set_option maxRecDepth 20000 in
theorem in_wsL_law_r17 : ∀ w ∈ wsL_law_r17, w ∈ lw_tbl := mem_c [456, 460, 761, 765] [152, 158, 160, 451, 452, 453, 454, 455, 457, 458, 459, 94, 758, 759, 760, 762, 764, 29, 766, 768] rfl (by decide +kernel)
set_option maxRecDepth 20000 in
theorem in_wsL_law_r18 : ∀ w ∈ wsL_law_r18, w ∈ lw_tbl := mem_c [769, 773, 777, 780, 784, 464] [30, 770, 772, 31, 774, 776, 32, 778, 779, 781, 783, 33, 461, 462, 463, 162, 166, 164] rfl (by decide +kernel)
set_option maxRecDepth 20000 in
theorem in_wsL_law_r19 : ∀ w ∈ wsL_law_r19, w ∈ lw_tbl := mem_c [788, 792, 796, 468, 472] [168, 785, 786, 787, 789, 791, 34, 793, 795, 35, 465, 466, 467, 469, 470, 471, 200, 201, 477] rfl (by decide +kernel)
set_option maxRecDepth 20000 in
theorem in_wsL_law_r20 : ∀ w ∈ wsL_law_r20, w ∈ lw_tbl := mem_c [476, 800, 804, 808, 482] [473, 474, 475, 478, 797, 798, 799, 801, 803, 36, 805, 807, 37, 479, 480, 481, 483, 484, 485] rfl (by decide +kernel)
set_option maxRecDepth 20000 in
theorem in_wsL_law_r21 : ∀ w ∈ wsL_law_r21, w ∈ lw_tbl := mem_c [486, 491, 497, 501, 812] [102, 493, 487, 488, 490, 11, 492, 494, 496, 12, 498, 500, 13, 809, 810, 811, 813, 815, 38] rfl (by decide +kernel)
set_option maxRecDepth 20000 in
theorem in_wsL_law_r22 : ∀ w ∈ wsL_law_r22, w ∈ lw_tbl := mem_c [816, 820, 824, 828, 505, 832] [817, 819, 39, 821, 823, 40, 825, 827, 41, 502, 503, 504, 829, 830, 831, 506, 507, 508] rfl (by decide +kernel)
set_option maxRecDepth 20000 in
theorem in_wsL_law_r23 : ∀ w ∈ wsL_law_r23, w ∈ lw_tbl := mem_c [509, 513, 836, 518, 523, 840] [510, 511, 512, 514, 833, 834, 835, 515, 516, 517, 519, 520, 521, 522, 524, 837, 838, 839] rfl (by decide +kernel)
set_option maxRecDepth 20000 in
theorem in_wsL_law_r24 : ∀ w ∈ wsL_law_r24, w ∈ lw_tbl := mem_c [844, 848, 852, 528, 532, 856] [841, 843, 42, 845, 847, 43, 849, 851, 44, 525, 526, 527, 529, 530, 531, 853, 854, 855] rfl (by decide +kernel)
set_option maxRecDepth 20000 in
theorem in_wsL_law_r25 : ∀ w ∈ wsL_law_r25, w ∈ lw_tbl := mem_c [860, 536, 864, 540, 869] [857, 859, 45, 533, 534, 535, 861, 862, 863, 865, 537, 538, 539, 866, 867, 868, 541, 542, 543] rfl (by decide +kernel)
set_option maxRecDepth 20000 in
theorem in_wsL_law_r26 : ∀ w ∈ wsL_law_r26, w ∈ lw_tbl := mem_c [544, 548, 873, 552, 556, 877] [545, 546, 547, 870, 871, 872, 549, 550, 551, 553, 554, 555, 874, 875, 876, 878, 880, 46] rfl (by decide +kernel)
set_option maxRecDepth 20000 in
theorem in_wsL_law_r27 : ∀ w ∈ wsL_law_r27, w ∈ lw_tbl := mem_c [881, 560, 564, 885, 568, 889] [557, 558, 559, 561, 562, 563, 219, 882, 883, 884, 565, 566, 567, 886, 887, 888, 569, 570] rfl (by decide +kernel)
set_option maxRecDepth 20000 in
theorem in_wsL_law_r28 : ∀ w ∈ wsL_law_r28, w ∈ lw_tbl := mem_c [572, 576, 893, 897, 582] [571, 95, 573, 574, 575, 157, 577, 578, 890, 891, 892, 894, 896, 47, 579, 580, 581, 591, 583] rfl (by decide +kernel)
set_option maxRecDepth 20000 in
theorem in_wsL_law_r29 : ∀ w ∈ wsL_law_r29, w ∈ lw_tbl := mem_c [586, 590, 901, 595, 905, 599] [585, 14, 587, 588, 589, 898, 899, 900, 592, 593, 594, 902, 903, 904, 596, 597, 598, 600] rfl (by decide +kernel)
set_option maxRecDepth 20000 in
theorem in_wsL_law_r30 : ∀ w ∈ wsL_law_r30, w ∈ lw_tbl := mem_c [602, 610, 614, 618, 909] [601, 603, 604, 605, 606, 607, 609, 15, 611, 612, 613, 615, 616, 617, 906, 907, 908, 910, 911] rfl (by decide +kernel)
set_option maxRecDepth 20000 in
theorem in_wsL_law_r31 : ∀ w ∈ wsL_law_r31, w ∈ lw_tbl := mem_c [916, 920, 622, 924, 626] [912, 913, 915, 48, 917, 919, 49, 619, 620, 621, 921, 922, 923, 623, 624, 625, 925, 926, 927] rfl (by decide +kernel)
set_option maxRecDepth 20000 in
theorem in_wsL_law_r32 : ∀ w ∈ wsL_law_r32, w ∈ lw_tbl := mem_c [928, 630, 932] [627, 628, 629, 929, 930, 931] rfl (by decide +kernel)
theorem inX0 : ∀ w ∈ wsX00, w ∈ lw_tbl := mem_c [] [203, 205, 207] rfl (by decide +kernel)
theorem inX1 : ∀ w ∈ wsX10, w ∈ lw_tbl := mem_c [] [169, 171, 173, 175, 177, 179, 181, 183, 185, 187] rfl (by decide +kernel)
theorem inX2 : ∀ w ∈ wsX20, w ∈ lw_tbl := mem_c [] [81, 83] rfl (by decide +kernel)
theorem inX3 : ∀ w ∈ wsX30, w ∈ lw_tbl := mem_c [] [221, 223, 225, 227] rfl (by decide +kernel)
theorem inX4 : ∀ w ∈ wsX40, w ∈ lw_tbl := mem_c [] [117, 119, 121, 123, 125, 127, 129, 131, 133, 135, 137, 139] rfl (by decide +kernel)
theorem inX5 : ∀ w ∈ wsX50, w ∈ lw_tbl := mem_c [] [389, 391, 393, 395, 397, 399, 401, 403, 405, 407, 409] rfl (by decide +kernel)
theorem inX6 : ∀ w ∈ wsX60, w ∈ lw_tbl := mem_c [] [675, 677, 679, 681, 683, 685, 687, 689, 691, 693, 695, 697, 699, 701] rfl (by decide +kernel)
theorem wsL_law_in : ∀ w ∈ wsL_law, w ∈ lw_tbl := (mem_a (mem_a (mem_a (mem_a (mem_a (mem_a (mem_a (mem_a (mem_a in_wsL_law_r1 (mem_a in_wsL_law_r2 (mem_a in_wsL_law_r3 (mem_a in_wsL_law_r4 (mem_a in_wsL_law_r5 (mem_a in_wsL_law_r6 (mem_a in_wsL_law_r7 (mem_a in_wsL_law_r8 (mem_a in_wsL_law_r9 (mem_a in_wsL_law_r10 (mem_a in_wsL_law_r11 (mem_a in_wsL_law_r12 (mem_a in_wsL_law_r13 (mem_a in_wsL_law_r14 (mem_a in_wsL_law_r15 (mem_a in_wsL_law_r16 (mem_a in_wsL_law_r17 (mem_a in_wsL_law_r18 (mem_a in_wsL_law_r19 (mem_a in_wsL_law_r20 (mem_a in_wsL_law_r21 (mem_a in_wsL_law_r22 (mem_a in_wsL_law_r23 (mem_a in_wsL_law_r24 (mem_a in_wsL_law_r25 (mem_a in_wsL_law_r26 (mem_a in_wsL_law_r27 (mem_a in_wsL_law_r28 (mem_a in_wsL_law_r29 (mem_a in_wsL_law_r30 (mem_a in_wsL_law_r31 in_wsL_law_r32))))))))))))))))))))))))))))))) inX5) inX6) inX2) inX4) inX1) inX0) inX3) (fun _ h => absurd h List.not_mem_nil))
theorem inlX0 : ∀ w ∈ wsX00, w ∈ wsL_law := fun _ h => List.mem_append_left _ (List.mem_append_left _ (List.mem_append_right _ h))
theorem inlX1 : ∀ w ∈ wsX10, w ∈ wsL_law := fun _ h => List.mem_append_left _ (List.mem_append_left _ (List.mem_append_left _ (List.mem_append_right _ h)))
theorem inlX2 : ∀ w ∈ wsX20, w ∈ wsL_law := fun _ h => List.mem_append_left _ (List.mem_append_left _ (List.mem_append_left _ (List.mem_append_left _ (List.mem_append_left _ (List.mem_append_right _ h)))))
theorem inlX3 : ∀ w ∈ wsX30, w ∈ wsL_law := fun _ h => List.mem_append_left _ (List.mem_append_right _ h)
theorem inlX4 : ∀ w ∈ wsX40, w ∈ wsL_law := fun _ h => List.mem_append_left _ (List.mem_append_left _ (List.mem_append_left _ (List.mem_append_left _ (List.mem_append_right _ h))))
theorem inlX5 : ∀ w ∈ wsX50, w ∈ wsL_law := fun _ h => List.mem_append_left _ (List.mem_append_left _ (List.mem_append_left _ (List.mem_append_left _ (List.mem_append_left _ (List.mem_append_left _ (List.mem_append_left _ (List.mem_append_right _ h)))))))
theorem inlX6 : ∀ w ∈ wsX60, w ∈ wsL_law := fun _ h => List.mem_append_left _ (List.mem_append_left _ (List.mem_append_left _ (List.mem_append_left _ (List.mem_append_left _ (List.mem_append_left _ (List.mem_append_right _ h))))))
theorem inJx145de : ∀ w ∈ wsJx145de0, w ∈ lw_tbl := by decide +kernel
theorem inJx9f9b0 : ∀ w ∈ wsJx9f9b00, w ∈ lw_tbl := by decide +kernel
theorem inJxb160c : ∀ w ∈ wsJxb160c0, w ∈ lw_tbl := by decide +kernel
theorem inJ9 : ∀ w ∈ wsJ90, w ∈ lw_tbl := by decide +kernel
theorem inJ0 : ∀ w ∈ wsJ00, w ∈ lw_tbl := by decide +kernel
theorem inJ1 : ∀ w ∈ wsJ10, w ∈ lw_tbl := by decide +kernel
theorem inJ2 : ∀ w ∈ wsJ20, w ∈ lw_tbl := by decide +kernel
theorem inJ10 : ∀ w ∈ wsJ100, w ∈ lw_tbl := by decide +kernel
theorem inJxfd54e : ∀ w ∈ wsJxfd54e0, w ∈ lw_tbl := by decide +kernel
theorem inJx3cf43 : ∀ w ∈ wsJx3cf430, w ∈ lw_tbl := by decide +kernel
theorem inJ7 : ∀ w ∈ wsJ70, w ∈ lw_tbl := by decide +kernel
theorem inJ3 : ∀ w ∈ wsJ30, w ∈ lw_tbl := by decide +kernel
set_option maxRecDepth 20000 in
theorem ggX0_init_X1_init : GoodIn wsX0_init wsX1_init := goodIn_r _ [10, 11, 2, 3, 12, 13, 14, 15, 16, 17, 18, 19, 20, 21, 22, 26, 27, 28, 29, 30, 31, 32, 33, 34, 35] (by decide +kernel) (by decide +kernel)
set_option maxRecDepth 20000 in
theorem gX0_init_X1_init : GoodIn wsX0_init (wsX1_init) := ggX0_init_X1_init
abbrev vwCl : List vw_C := [(RX0, TX0, 3), (RX1, TX1, 10), (RX2, TX2, 2), (RX3, TX3, 4), (RX4, TX4, 12), (RX5, TX5, 11), (RX6, TX6, 14)]

