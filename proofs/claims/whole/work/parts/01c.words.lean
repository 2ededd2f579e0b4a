theorem nm_inP {big ws : List Cond} (ps : List Nat) (h : ws.map some = ps.map (fun i => big[i]?)) : ∀ w ∈ ws, w ∈ big := by
  intro w hw
  have h1 : some w ∈ ws.map some := List.mem_map.mpr ⟨w, hw, rfl⟩
  rw [h] at h1
  obtain ⟨i, -, hi⟩ := List.mem_map.mp h1
  first | exact List.mem_of_getElem? hi | exact List.getElem?_mem hi
theorem nm_inA {big a b : List Cond} (ha : ∀ w ∈ a, w ∈ big) (hb : ∀ w ∈ b, w ∈ big) : ∀ w ∈ a ++ b, w ∈ big := fun w h => (List.mem_append.mp h).elim (ha w) (hb w)
theorem nm_in0 {big : List Cond} : ∀ w ∈ ([] : List Cond), w ∈ big := fun _ h => absurd h List.not_mem_nil
set_option maxRecDepth 20000 in
theorem wsL_law_r1_in : ∀ w ∈ wsL_law_r1, w ∈ lw_tbl := nm_inP [49, 50, 33, 732, 733, 42, 51, 52, 53, 54, 55, 56, 57, 58, 34, 256, 93, 94, 35, 257, 120, 121, 36, 258] (by decide +kernel)
set_option maxRecDepth 20000 in
theorem wsL_law_r2_in : ∀ w ∈ wsL_law_r2, w ∈ lw_tbl := nm_inP [157, 158, 37, 259, 170, 171, 38, 260, 195, 196, 39, 261, 217, 218, 40, 262, 234, 236, 41, 263, 60, 61, 62, 63] (by decide +kernel)
set_option maxRecDepth 20000 in
theorem wsL_law_r3_in : ∀ w ∈ wsL_law_r3, w ∈ lw_tbl := nm_inP [68, 71, 92, 74, 76, 96, 97, 98, 101, 105, 107, 123, 124, 125, 126, 128, 160, 161, 162, 173, 174, 175, 179, 181] (by decide +kernel)
set_option maxRecDepth 20000 in
theorem wsL_law_r4_in : ∀ w ∈ wsL_law_r4, w ∈ lw_tbl := nm_inP [194, 183, 198, 199, 200, 207, 220, 221, 222, 223, 225, 238, 239, 240, 241, 247, 243, 248, 734, 735, 736, 737, 741, 742] (by decide +kernel)
set_option maxRecDepth 20000 in
theorem wsL_law_r5_in : ∀ w ∈ wsL_law_r5, w ∈ lw_tbl := nm_inP [738, 743, 744, 746, 748, 750, 756, 757, 739, 281, 282, 283, 284, 69, 65, 285, 286, 287, 288, 289, 290, 291, 292, 293] (by decide +kernel)
set_option maxRecDepth 20000 in
theorem wsL_law_r6_in : ∀ w ∈ wsL_law_r6, w ∈ lw_tbl := nm_inP [294, 64, 66, 295, 296, 43, 297, 298, 299, 300, 797, 798, 799, 800, 740, 801, 802, 803, 804, 805, 806, 301, 302, 303] (by decide +kernel)
set_option maxRecDepth 20000 in
theorem wsL_law_r7_in : ∀ w ∈ wsL_law_r7, w ∈ lw_tbl := nm_inP [304, 305, 306, 307, 308, 309, 310, 311, 312, 807, 808, 809, 810, 811, 813, 11, 814, 815, 816, 817, 313, 314, 315, 316] (by decide +kernel)
set_option maxRecDepth 20000 in
theorem wsL_law_r8_in : ∀ w ∈ wsL_law_r8, w ∈ lw_tbl := nm_inP [317, 319, 0, 320, 321, 322, 323, 324, 325, 326, 327, 44, 328, 329, 331, 1, 332, 73, 818, 819, 820, 821, 333, 334] (by decide +kernel)
set_option maxRecDepth 20000 in
theorem wsL_law_r9_in : ∀ w ∈ wsL_law_r9, w ∈ lw_tbl := nm_inP [335, 336, 100, 337, 338, 339, 340, 99, 822, 823, 824, 825, 747, 341, 342, 343, 344, 826, 827, 828, 829, 345, 346, 347] (by decide +kernel)
set_option maxRecDepth 20000 in
theorem wsL_law_r10_in : ∀ w ∈ wsL_law_r10, w ∈ lw_tbl := nm_inP [348, 349, 350, 351, 352, 103, 353, 354, 355, 356, 358, 2, 359, 360, 361, 362, 364, 365, 366, 830, 831, 832, 833, 834] (by decide +kernel)
set_option maxRecDepth 20000 in
theorem wsL_law_r11_in : ∀ w ∈ wsL_law_r11, w ∈ lw_tbl := nm_inP [836, 12, 837, 838, 839, 840, 367, 368, 369, 370, 131, 133, 135, 371, 372, 373, 374, 130, 102, 132, 106, 108, 375, 376] (by decide +kernel)
set_option maxRecDepth 20000 in
theorem wsL_law_r12_in : ∀ w ∈ wsL_law_r12, w ∈ lw_tbl := nm_inP [378, 3, 379, 134, 136, 138, 140, 380, 381, 382, 383, 384, 386, 385, 45, 387, 388, 389, 390, 391, 392, 394, 4, 395] (by decide +kernel)
set_option maxRecDepth 20000 in
theorem wsL_law_r13_in : ∀ w ∈ wsL_law_r13, w ∈ lw_tbl := nm_inP [72, 396, 397, 398, 399, 400, 401, 403, 5, 404, 405, 406, 407, 408, 409, 411, 6, 412, 413, 414, 415, 416, 417, 418] (by decide +kernel)
set_option maxRecDepth 20000 in
theorem wsL_law_r14_in : ∀ w ∈ wsL_law_r14, w ∈ lw_tbl := nm_inP [419, 420, 421, 422, 423, 424, 430, 431, 432, 425, 426, 428, 7, 429, 433, 435, 8, 436, 437, 438, 439, 440, 441, 442] (by decide +kernel)
set_option maxRecDepth 20000 in
theorem wsL_law_r15_in : ∀ w ∈ wsL_law_r15, w ∈ lw_tbl := nm_inP [443, 444, 445, 446, 447, 448, 449, 451, 9, 452, 453, 454, 455, 456, 457, 841, 842, 843, 844, 751, 845, 847, 13, 848] (by decide +kernel)
set_option maxRecDepth 20000 in
theorem wsL_law_r16_in : ∀ w ∈ wsL_law_r16, w ∈ lw_tbl := nm_inP [752, 753, 754, 755, 749, 849, 851, 14, 852, 853, 855, 15, 856, 857, 859, 16, 860, 861, 863, 17, 864, 865, 867, 18] (by decide +kernel)
set_option maxRecDepth 20000 in
theorem wsL_law_r17_in : ∀ w ∈ wsL_law_r17, w ∈ lw_tbl := nm_inP [868, 869, 871, 19, 872, 873, 875, 20, 876, 877, 879, 21, 880, 881, 882, 884, 22, 885, 886, 888, 23, 889, 890, 892] (by decide +kernel)
set_option maxRecDepth 20000 in
theorem wsL_law_r18_in : ∀ w ∈ wsL_law_r18, w ∈ lw_tbl := nm_inP [24, 893, 894, 896, 25, 897, 458, 459, 460, 461, 129, 104, 462, 898, 899, 900, 901, 902, 904, 26, 905, 463, 464, 465] (by decide +kernel)
set_option maxRecDepth 20000 in
theorem wsL_law_r19_in : ∀ w ∈ wsL_law_r19, w ∈ lw_tbl := nm_inP [466, 467, 468, 469, 470, 906, 907, 908, 909, 471, 472, 473, 474, 910, 911, 912, 913, 475, 476, 477, 478, 137, 139, 914] (by decide +kernel)
set_option maxRecDepth 20000 in
theorem wsL_law_r20_in : ∀ w ∈ wsL_law_r20, w ∈ lw_tbl := nm_inP [915, 916, 917, 479, 480, 481, 482, 141, 918, 919, 920, 921, 483, 484, 485, 486, 487, 922, 923, 924, 925, 488, 489, 490] (by decide +kernel)
set_option maxRecDepth 20000 in
theorem wsL_law_r21_in : ∀ w ∈ wsL_law_r21, w ∈ lw_tbl := nm_inP [491, 492, 926, 927, 928, 929, 493, 494, 495, 496, 497, 498, 499, 500, 930, 931, 932, 933, 501, 502, 503, 504, 67, 505] (by decide +kernel)
set_option maxRecDepth 20000 in
theorem wsL_law_r22_in : ∀ w ∈ wsL_law_r22, w ∈ lw_tbl := nm_inP [506, 507, 508, 934, 935, 936, 937, 938, 940, 27, 941, 509, 510, 511, 512, 513, 514, 515, 516, 517, 942, 943, 944, 945] (by decide +kernel)
set_option maxRecDepth 20000 in
theorem wsL_law_r23_in : ∀ w ∈ wsL_law_r23, w ∈ lw_tbl := nm_inP [946, 948, 28, 949, 518, 519, 520, 521, 525, 522, 523, 524, 526, 527, 528, 529, 163, 164, 530, 531, 532, 571, 533, 537] (by decide +kernel)
set_option maxRecDepth 20000 in
theorem wsL_law_r24_in : ∀ w ∈ wsL_law_r24, w ∈ lw_tbl := nm_inP [538, 539, 534, 535, 46, 536, 540, 541, 542, 543, 544, 47, 545, 546, 547, 548, 549, 550, 551, 552, 553, 554, 555, 556] (by decide +kernel)
set_option maxRecDepth 20000 in
theorem wsL_law_r25_in : ∀ w ∈ wsL_law_r25, w ∈ lw_tbl := nm_inP [557, 559, 560, 561, 562, 563, 564, 565, 566, 567, 568, 569, 570, 950, 951, 952, 953, 954, 955, 956, 957, 958, 959, 960] (by decide +kernel)
set_option maxRecDepth 20000 in
theorem wsL_law_r26_in : ∀ w ∈ wsL_law_r26, w ∈ lw_tbl := nm_inP [961, 962, 963, 964, 965, 966, 967, 968, 969, 572, 573, 574, 575, 576, 577, 578, 579, 580, 581, 582, 583, 584, 585, 586] (by decide +kernel)
set_option maxRecDepth 20000 in
theorem wsL_law_r27_in : ∀ w ∈ wsL_law_r27, w ∈ lw_tbl := nm_inP [587, 588, 589, 590, 591, 970, 971, 972, 973, 592, 593, 594, 595, 596, 597, 974, 975, 976, 977, 598, 599, 600, 601, 602] (by decide +kernel)
set_option maxRecDepth 20000 in
theorem wsL_law_r28_in : ∀ w ∈ wsL_law_r28, w ∈ lw_tbl := nm_inP [603, 604, 978, 979, 980, 981, 605, 606, 607, 608, 609, 982, 983, 984, 985, 610, 611, 612, 613, 178, 614, 615, 616, 617] (by decide +kernel)
set_option maxRecDepth 20000 in
theorem wsL_law_r29_in : ∀ w ∈ wsL_law_r29, w ∈ lw_tbl := nm_inP [176, 986, 987, 988, 989, 745, 618, 619, 620, 621, 990, 991, 992, 993, 622, 623, 624, 625, 202, 204, 206, 626, 627, 628] (by decide +kernel)
set_option maxRecDepth 20000 in
theorem wsL_law_r30_in : ∀ w ∈ wsL_law_r30, w ∈ lw_tbl := nm_inP [629, 205, 201, 203, 630, 631, 632, 177, 180, 633, 634, 635, 182, 184, 636, 637, 638, 639, 640, 641, 642, 643, 644, 645] (by decide +kernel)
set_option maxRecDepth 20000 in
theorem wsL_law_r31_in : ∀ w ∈ wsL_law_r31, w ∈ lw_tbl := nm_inP [994, 995, 996, 997, 998, 1000, 29, 1001, 1002, 1004, 30, 1005, 646, 647, 648, 649, 650, 651, 652, 653, 654, 1006, 1007, 1008] (by decide +kernel)
set_option maxRecDepth 20000 in
theorem wsL_law_r32_in : ∀ w ∈ wsL_law_r32, w ∈ lw_tbl := nm_inP [1009, 655, 656, 657, 658, 659, 660, 661, 662, 48, 663, 664, 665, 666, 667, 77, 70, 75, 668, 669, 670, 671, 672, 673] (by decide +kernel)
set_option maxRecDepth 20000 in
theorem wsL_law_r33_in : ∀ w ∈ wsL_law_r33, w ∈ lw_tbl := nm_inP [674, 675, 676, 677, 678, 1010, 1011, 1012, 1013, 1014, 1015, 1016, 679, 680, 681, 682, 226, 228, 683, 684, 685, 686, 227, 688] (by decide +kernel)
set_option maxRecDepth 20000 in
theorem wsL_law_r34_in : ∀ w ∈ wsL_law_r34, w ∈ lw_tbl := nm_inP [687, 689, 690, 691, 692, 694, 695, 696, 697, 699, 10, 700, 701, 702, 703, 704, 705, 706, 1017, 1018, 1019, 1020, 1021, 1022] (by decide +kernel)
set_option maxRecDepth 20000 in
theorem wsL_law_r35_in : ∀ w ∈ wsL_law_r35, w ∈ lw_tbl := nm_inP [1024, 31, 1025, 707, 708, 709, 710, 711, 712, 713, 714, 245, 715, 716, 717, 718, 719, 1026, 1027, 1028, 1029, 720, 721, 722] (by decide +kernel)
set_option maxRecDepth 20000 in
theorem wsL_law_r36_in : ∀ w ∈ wsL_law_r36, w ∈ lw_tbl := nm_inP [723, 246, 724, 725, 726, 727, 1030, 1031, 1032, 1033, 728, 729, 730, 731, 78, 1034, 1035, 1036, 1037] (by decide +kernel)
set_option maxRecDepth 20000 in
theorem nmi_wsX90 : ∀ w ∈ wsX90, w ∈ lw_tbl := nm_inP [264, 266, 268, 270, 272, 274, 276, 278] (by decide +kernel)
set_option maxRecDepth 20000 in
theorem nmi_wsX100 : ∀ w ∈ wsX100, w ∈ lw_tbl := nm_inP [758, 760, 762, 764, 766, 768, 770, 772, 774, 776, 778, 780, 782, 784, 786, 788, 790, 792, 794] (by decide +kernel)
set_option maxRecDepth 20000 in
theorem nmi_wsX20 : ∀ w ∈ wsX20, w ∈ lw_tbl := nm_inP [79, 81, 83, 85, 87, 89] (by decide +kernel)
set_option maxRecDepth 20000 in
theorem nmi_wsX50 : ∀ w ∈ wsX50, w ∈ lw_tbl := nm_inP [109, 111, 113, 115, 117] (by decide +kernel)
set_option maxRecDepth 20000 in
theorem nmi_wsX10 : ∀ w ∈ wsX10, w ∈ lw_tbl := nm_inP [142, 144, 146, 148, 150, 152, 154] (by decide +kernel)
set_option maxRecDepth 20000 in
theorem nmi_wsX40 : ∀ w ∈ wsX40, w ∈ lw_tbl := nm_inP [165, 167] (by decide +kernel)
set_option maxRecDepth 20000 in
theorem nmi_wsX60 : ∀ w ∈ wsX60, w ∈ lw_tbl := nm_inP [185, 187, 189, 191] (by decide +kernel)
set_option maxRecDepth 20000 in
theorem nmi_wsX70 : ∀ w ∈ wsX70, w ∈ lw_tbl := nm_inP [208, 210, 212, 214] (by decide +kernel)
set_option maxRecDepth 20000 in
theorem nmi_wsX80 : ∀ w ∈ wsX80, w ∈ lw_tbl := nm_inP [229, 231] (by decide +kernel)
set_option maxRecDepth 20000 in
theorem nmi_wsX30 : ∀ w ∈ wsX30, w ∈ lw_tbl := nm_inP [249, 251, 253] (by decide +kernel)
theorem wsL_law_in : ∀ w ∈ wsL_law, w ∈ lw_tbl := (nm_inA (nm_inA (nm_inA (nm_inA (nm_inA (nm_inA (nm_inA (nm_inA (nm_inA (nm_inA (nm_inA (nm_inA wsL_law_r1_in (nm_inA wsL_law_r2_in (nm_inA wsL_law_r3_in (nm_inA wsL_law_r4_in (nm_inA wsL_law_r5_in (nm_inA wsL_law_r6_in (nm_inA wsL_law_r7_in (nm_inA wsL_law_r8_in (nm_inA wsL_law_r9_in (nm_inA wsL_law_r10_in (nm_inA wsL_law_r11_in (nm_inA wsL_law_r12_in (nm_inA wsL_law_r13_in (nm_inA wsL_law_r14_in (nm_inA wsL_law_r15_in (nm_inA wsL_law_r16_in (nm_inA wsL_law_r17_in (nm_inA wsL_law_r18_in (nm_inA wsL_law_r19_in (nm_inA wsL_law_r20_in (nm_inA wsL_law_r21_in (nm_inA wsL_law_r22_in (nm_inA wsL_law_r23_in (nm_inA wsL_law_r24_in (nm_inA wsL_law_r25_in (nm_inA wsL_law_r26_in (nm_inA wsL_law_r27_in (nm_inA wsL_law_r28_in (nm_inA wsL_law_r29_in (nm_inA wsL_law_r30_in (nm_inA wsL_law_r31_in (nm_inA wsL_law_r32_in (nm_inA wsL_law_r33_in (nm_inA wsL_law_r34_in (nm_inA wsL_law_r35_in (wsL_law_r36_in)))))))))))))))))))))))))))))))))))) nmi_wsX90) nmi_wsX100) nmi_wsX20) nmi_wsX50) nmi_wsX10) nmi_wsX40) nmi_wsX60) nmi_wsX70) nmi_wsX80) nmi_wsX30) nm_in0)
theorem inX0 : ∀ w ∈ wsX00, w ∈ lw_tbl := by decide +kernel
theorem inlX1 : ∀ w ∈ wsX10, w ∈ wsL_law := fun _ h => List.mem_append_left _ (List.mem_append_left _ (List.mem_append_left _ (List.mem_append_left _ (List.mem_append_left _ (List.mem_append_left _ (List.mem_append_right _ h))))))
theorem inX1 : ∀ w ∈ wsX10, w ∈ lw_tbl := fun w h => wsL_law_in w (inlX1 w h)
theorem inlX2 : ∀ w ∈ wsX20, w ∈ wsL_law := fun _ h => List.mem_append_left _ (List.mem_append_left _ (List.mem_append_left _ (List.mem_append_left _ (List.mem_append_left _ (List.mem_append_left _ (List.mem_append_left _ (List.mem_append_left _ (List.mem_append_right _ h))))))))
theorem inX2 : ∀ w ∈ wsX20, w ∈ lw_tbl := fun w h => wsL_law_in w (inlX2 w h)
theorem inlX3 : ∀ w ∈ wsX30, w ∈ wsL_law := fun _ h => List.mem_append_left _ (List.mem_append_right _ h)
theorem inX3 : ∀ w ∈ wsX30, w ∈ lw_tbl := fun w h => wsL_law_in w (inlX3 w h)
theorem inlX4 : ∀ w ∈ wsX40, w ∈ wsL_law := fun _ h => List.mem_append_left _ (List.mem_append_left _ (List.mem_append_left _ (List.mem_append_left _ (List.mem_append_left _ (List.mem_append_right _ h)))))
theorem inX4 : ∀ w ∈ wsX40, w ∈ lw_tbl := fun w h => wsL_law_in w (inlX4 w h)
theorem inlX5 : ∀ w ∈ wsX50, w ∈ wsL_law := fun _ h => List.mem_append_left _ (List.mem_append_left _ (List.mem_append_left _ (List.mem_append_left _ (List.mem_append_left _ (List.mem_append_left _ (List.mem_append_left _ (List.mem_append_right _ h)))))))
theorem inX5 : ∀ w ∈ wsX50, w ∈ lw_tbl := fun w h => wsL_law_in w (inlX5 w h)
theorem inlX6 : ∀ w ∈ wsX60, w ∈ wsL_law := fun _ h => List.mem_append_left _ (List.mem_append_left _ (List.mem_append_left _ (List.mem_append_left _ (List.mem_append_right _ h))))
theorem inX6 : ∀ w ∈ wsX60, w ∈ lw_tbl := fun w h => wsL_law_in w (inlX6 w h)
theorem inlX7 : ∀ w ∈ wsX70, w ∈ wsL_law := fun _ h => List.mem_append_left _ (List.mem_append_left _ (List.mem_append_left _ (List.mem_append_right _ h)))
theorem inX7 : ∀ w ∈ wsX70, w ∈ lw_tbl := fun w h => wsL_law_in w (inlX7 w h)
theorem inlX8 : ∀ w ∈ wsX80, w ∈ wsL_law := fun _ h => List.mem_append_left _ (List.mem_append_left _ (List.mem_append_right _ h))
theorem inX8 : ∀ w ∈ wsX80, w ∈ lw_tbl := fun w h => wsL_law_in w (inlX8 w h)
theorem inlX9 : ∀ w ∈ wsX90, w ∈ wsL_law := fun _ h => List.mem_append_left _ (List.mem_append_left _ (List.mem_append_left _ (List.mem_append_left _ (List.mem_append_left _ (List.mem_append_left _ (List.mem_append_left _ (List.mem_append_left _ (List.mem_append_left _ (List.mem_append_left _ (List.mem_append_right _ h))))))))))
theorem inX9 : ∀ w ∈ wsX90, w ∈ lw_tbl := fun w h => wsL_law_in w (inlX9 w h)
theorem inlX10 : ∀ w ∈ wsX100, w ∈ wsL_law := fun _ h => List.mem_append_left _ (List.mem_append_left _ (List.mem_append_left _ (List.mem_append_left _ (List.mem_append_left _ (List.mem_append_left _ (List.mem_append_left _ (List.mem_append_left _ (List.mem_append_left _ (List.mem_append_right _ h)))))))))
theorem inX10 : ∀ w ∈ wsX100, w ∈ lw_tbl := fun w h => wsL_law_in w (inlX10 w h)
theorem inJ6 : ∀ w ∈ wsJ60, w ∈ lw_tbl := by decide +kernel
theorem inJ13 : ∀ w ∈ wsJ130, w ∈ lw_tbl := by decide +kernel
theorem inJ9 : ∀ w ∈ wsJ90, w ∈ lw_tbl := by decide +kernel
theorem inJ10 : ∀ w ∈ wsJ100, w ∈ lw_tbl := by decide +kernel
theorem inJ7 : ∀ w ∈ wsJ70, w ∈ lw_tbl := by decide +kernel
