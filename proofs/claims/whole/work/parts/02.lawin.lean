theorem tk_places {big ws : List Cond} (ps : List Nat) (h : ws = ps.filterMap (fun i => big[i]?)) : ∀ w ∈ ws, w ∈ big := by
  intro w hw
  rw [h] at hw
  obtain ⟨i, -, hi⟩ := List.mem_filterMap.mp hw
  exact List.mem_of_getElem? hi
theorem tk_app {big a b : List Cond} (ha : ∀ w ∈ a, w ∈ big) (hb : ∀ w ∈ b, w ∈ big) : ∀ w ∈ a ++ b, w ∈ big := fun w h => (List.mem_append.mp h).elim (ha w) (hb w)
theorem tk_nil {big : List Cond} : ∀ w ∈ ([] : List Cond), w ∈ big := fun _ h => nomatch h
set_option maxRecDepth 20000 in
theorem wsL_law0_r1_in : ∀ w ∈ wsL_law0_r1, w ∈ lw_tbl := tk_places [55, 56, 39, 750, 751, 47, 156, 57, 58, 59, 60, 61, 62, 63, 64, 40, 157, 87, 88, 43, 158, 105, 106, 44] rfl
set_option maxRecDepth 20000 in
theorem wsL_law0_r2_in : ∀ w ∈ wsL_law0_r2, w ∈ lw_tbl := tk_places [159, 124, 125, 45, 160, 145, 146, 46, 161, 162, 163, 164, 165, 166, 167, 168, 169, 65, 66, 67, 68, 69, 70, 41] rfl
set_option maxRecDepth 20000 in
theorem wsL_law0_r3_in : ∀ w ∈ wsL_law0_r3, w ∈ lw_tbl := tk_places [83, 71, 72, 73, 74, 75, 76, 42, 77, 82, 78, 89, 90, 91, 92, 96, 107, 108, 109, 110, 111, 113, 112, 126] rfl
set_option maxRecDepth 20000 in
theorem wsL_law0_r4_in : ∀ w ∈ wsL_law0_r4, w ∈ lw_tbl := tk_places [127, 128, 129, 130, 132, 134, 131, 147, 148, 149, 150, 151, 152, 752, 753, 754, 755, 757, 760, 761, 762, 844, 763, 766] rfl
set_option maxRecDepth 20000 in
theorem wsL_law0_r5_in : ∀ w ∈ wsL_law0_r5, w ∈ lw_tbl := tk_places [767, 768, 769, 770, 776, 777, 781, 782, 783, 248, 249, 38, 250, 251, 252, 253, 254, 255, 256, 258, 51, 326, 52, 257] rfl
set_option maxRecDepth 20000 in
theorem wsL_law0_r6_in : ∀ w ∈ wsL_law0_r6, w ∈ lw_tbl := tk_places [342, 343, 344, 345, 347, 1, 348, 170, 171, 173, 174, 349, 350, 351, 352, 93, 94, 353, 354, 355, 356, 114, 115, 357] rfl
set_option maxRecDepth 20000 in
theorem wsL_law0_r7_in : ∀ w ∈ wsL_law0_r7, w ∈ lw_tbl := tk_places [358, 359, 360, 361, 362, 363, 364, 369, 365, 366, 367, 368, 370, 372, 2, 373, 374, 375, 376, 377, 378, 380, 3, 381] rfl
set_option maxRecDepth 20000 in
theorem wsL_law0_r8_in : ∀ w ∈ wsL_law0_r8, w ∈ lw_tbl := tk_places [172, 382, 383, 384, 385, 387, 388, 849, 850, 851, 852, 853, 861, 758, 759, 764, 765, 771, 773, 774, 775, 778, 780, 854] rfl
set_option maxRecDepth 20000 in
theorem wsL_law0_r9_in : ∀ w ∈ wsL_law0_r9, w ∈ lw_tbl := tk_places [855, 856, 857, 859, 22, 860, 756, 862, 863, 864, 845, 846, 847, 848, 389, 390, 391, 392, 393, 394, 395, 399, 400, 401] rfl
set_option maxRecDepth 20000 in
theorem wsL_law0_r10_in : ∀ w ∈ wsL_law0_r10, w ∈ lw_tbl := tk_places [402, 403, 404, 405, 406, 407, 408, 53, 409, 410, 411, 412, 413, 415, 4, 416, 417, 418, 419, 420, 421, 423, 5, 424] rfl
set_option maxRecDepth 20000 in
theorem wsL_law0_r11_in : ∀ w ∈ wsL_law0_r11, w ∈ lw_tbl := tk_places [425, 427, 6, 428, 429, 430, 431, 432, 434, 436, 7, 437, 865, 866, 867, 868, 869, 871, 23, 872, 873, 875, 24, 876] rfl
set_option maxRecDepth 20000 in
theorem wsL_law0_r12_in : ∀ w ∈ wsL_law0_r12, w ∈ lw_tbl := tk_places [877, 879, 25, 880, 779, 438, 439, 440, 441, 442, 443, 444, 445, 446, 54, 463, 465, 8, 466, 467, 469, 9, 470, 471] rfl
set_option maxRecDepth 20000 in
theorem wsL_law0_r13_in : ∀ w ∈ wsL_law0_r13, w ∈ lw_tbl := tk_places [472, 473, 474, 475, 476, 477, 881, 882, 883, 884, 885, 887, 26, 888, 889, 890, 891, 478, 479, 480, 481, 482, 483, 484] rfl
set_option maxRecDepth 20000 in
theorem wsL_law0_r14_in : ∀ w ∈ wsL_law0_r14, w ∈ lw_tbl := tk_places [497, 485, 487, 10, 488, 489, 490, 491, 494, 495, 496, 892, 893, 894, 895, 772, 498, 499, 500, 501, 502, 503, 504, 505] rfl
set_option maxRecDepth 20000 in
theorem wsL_law0_r15_in : ∀ w ∈ wsL_law0_r15, w ∈ lw_tbl := tk_places [506, 507, 510, 511, 512, 513, 514, 515, 516, 517, 518, 520, 896, 897, 898, 899, 900, 901, 902, 903, 904, 905, 521, 522] rfl
set_option maxRecDepth 20000 in
theorem wsL_law0_r16_in : ∀ w ∈ wsL_law0_r16, w ∈ lw_tbl := tk_places [523, 524, 525, 526, 527, 530, 532, 11, 533, 536, 906, 907, 908, 909, 537, 538, 539, 540, 541, 542, 543, 544, 546, 12] rfl
set_option maxRecDepth 20000 in
theorem wsL_law0_r17_in : ∀ w ∈ wsL_law0_r17, w ∈ lw_tbl := tk_places [547, 548, 549, 550, 551, 552, 554, 555, 556, 557, 558, 559, 560, 561, 563, 565, 13, 566, 567, 568, 569, 570, 571, 572] rfl
set_option maxRecDepth 20000 in
theorem wsL_law0_r18_in : ∀ w ∈ wsL_law0_r18, w ∈ lw_tbl := tk_places [573, 574, 575, 576, 577, 578, 579, 581, 14, 582, 583, 585, 15, 586, 587, 589, 16, 590, 591, 592, 593, 594, 596, 598] rfl
set_option maxRecDepth 20000 in
theorem wsL_law0_r19_in : ∀ w ∈ wsL_law0_r19, w ∈ lw_tbl := tk_places [17, 599, 600, 601, 602, 603, 604, 605, 609, 610, 611, 606, 607, 608, 612, 613, 614, 615, 617, 18, 618, 619, 620, 621] rfl
set_option maxRecDepth 20000 in
theorem wsL_law0_r20_in : ∀ w ∈ wsL_law0_r20, w ∈ lw_tbl := tk_places [622, 623, 625, 19, 626, 627, 628, 629, 630, 136, 631, 632, 633, 635, 20, 636, 637, 638, 639, 640, 910, 911, 912, 913] rfl
set_option maxRecDepth 20000 in
theorem wsL_law0_r21_in : ∀ w ∈ wsL_law0_r21, w ∈ lw_tbl := tk_places [914, 916, 27, 917, 918, 919, 920, 921, 922, 923, 924, 926, 28, 927, 928, 930, 29, 931, 932, 934, 30, 935, 936, 938] rfl
set_option maxRecDepth 20000 in
theorem wsL_law0_r22_in : ∀ w ∈ wsL_law0_r22, w ∈ lw_tbl := tk_places [31, 939, 940, 942, 32, 943, 944, 946, 33, 947, 948, 950, 34, 951, 784, 952, 954, 35, 955, 956, 958, 36, 959, 960] rfl
set_option maxRecDepth 20000 in
theorem wsL_law0_r23_in : ∀ w ∈ wsL_law0_r23, w ∈ lw_tbl := tk_places [962, 37, 963, 641, 642, 643, 644, 645, 646, 647, 650, 651, 652, 964, 965, 966, 967, 212, 213, 214, 215, 968, 969, 970] rfl
set_option maxRecDepth 20000 in
theorem wsL_law0_r24_in : ∀ w ∈ wsL_law0_r24, w ∈ lw_tbl := tk_places [971, 216, 217, 218, 219, 972, 973, 974, 975, 220, 221, 222, 223, 976, 977, 978, 979, 224, 225, 226, 227, 980, 981, 982] rfl
set_option maxRecDepth 20000 in
theorem wsL_law0_r25_in : ∀ w ∈ wsL_law0_r25, w ∈ lw_tbl := tk_places [983, 228, 229, 230, 231, 984, 985, 986, 987, 232, 233, 234, 235, 988, 989, 990, 991, 653, 654, 655, 656, 657, 658, 659] rfl
set_option maxRecDepth 20000 in
theorem wsL_law0_r26_in : ∀ w ∈ wsL_law0_r26, w ∈ lw_tbl := tk_places [660, 661, 662, 992, 993, 994, 995, 996, 997, 998, 664, 665, 666, 667, 668, 669, 670, 673, 674, 675, 676, 999, 1000, 1001] rfl
set_option maxRecDepth 20000 in
theorem wsL_law0_r27_in : ∀ w ∈ wsL_law0_r27, w ∈ lw_tbl := tk_places [1002, 236, 237, 238, 239, 1003, 1004, 1005, 1006, 677, 678, 679, 680, 681, 682, 683, 685, 686, 687, 688, 1007, 1008, 1009, 1010] rfl
set_option maxRecDepth 20000 in
theorem wsL_law0_r28_in : ∀ w ∈ wsL_law0_r28, w ∈ lw_tbl := tk_places [689, 690, 691, 692, 693, 694, 695, 1011, 1012, 1013, 1014, 240, 241, 242, 243, 1015, 1016, 1017, 1018, 696, 697, 698, 699, 700] rfl
set_option maxRecDepth 20000 in
theorem wsL_law0_r29_in : ∀ w ∈ wsL_law0_r29, w ∈ lw_tbl := tk_places [701, 702, 1019, 1020, 1021, 1022, 703, 704, 705, 706, 707, 708, 709, 710, 711, 712, 1023, 1024, 1025, 1026, 714, 715, 716, 717] rfl
set_option maxRecDepth 20000 in
theorem wsL_law0_r30_in : ∀ w ∈ wsL_law0_r30, w ∈ lw_tbl := tk_places [718, 719, 720, 721, 722, 723, 1027, 1028, 1029, 1030, 724, 725, 726, 727, 728, 729, 730, 731, 1031, 1032, 1033, 1034, 732, 733] rfl
set_option maxRecDepth 20000 in
theorem wsL_law0_r31_in : ∀ w ∈ wsL_law0_r31, w ∈ lw_tbl := tk_places [734, 735, 736, 737, 738, 1035, 1036, 1037, 1038, 244, 245, 246, 247, 1039, 1040, 1041, 1042, 739, 740, 741, 742, 743, 744, 745] rfl
set_option maxRecDepth 20000 in
theorem wsL_law0_r32_in : ∀ w ∈ wsL_law0_r32, w ∈ lw_tbl := tk_places [746, 748, 21, 749, 1043, 1044, 1045, 1046] rfl
set_option maxRecDepth 20000 in
theorem wsX60_in : ∀ w ∈ wsX60, w ∈ lw_tbl := tk_places [175, 177, 179, 181, 183, 185, 187, 189, 191, 193, 195, 197, 199, 201, 203, 205, 207, 209] rfl
set_option maxRecDepth 20000 in
theorem wsX70_in : ∀ w ∈ wsX70, w ∈ lw_tbl := tk_places [785, 787, 789, 791, 793, 795, 797, 799, 801, 803, 805, 807, 809, 811, 813, 815, 817, 819, 821, 823, 825, 827, 829, 831, 833, 835, 837, 839, 841] rfl
set_option maxRecDepth 20000 in
theorem wsX10_in : ∀ w ∈ wsX10, w ∈ lw_tbl := tk_places [84] rfl
set_option maxRecDepth 20000 in
theorem wsX00_in : ∀ w ∈ wsX00, w ∈ lw_tbl := tk_places [98, 100, 102] rfl
set_option maxRecDepth 20000 in
theorem wsX50_in : ∀ w ∈ wsX50, w ∈ lw_tbl := tk_places [117, 119, 121] rfl
set_option maxRecDepth 20000 in
theorem wsX40_in : ∀ w ∈ wsX40, w ∈ lw_tbl := tk_places [138, 140, 142] rfl
set_option maxRecDepth 20000 in
theorem wsX30_in : ∀ w ∈ wsX30, w ∈ lw_tbl := tk_places [153] rfl
set_option maxRecDepth 20000 in
theorem wsX20_in : ∀ w ∈ wsX20, w ∈ lw_tbl := tk_places [79] rfl
theorem wsL_law_in0 : ∀ w ∈ wsL_law0, w ∈ lw_tbl := (tk_app (tk_app (tk_app (tk_app (tk_app (tk_app (tk_app (tk_app (tk_app (tk_app wsL_law0_r1_in (tk_app wsL_law0_r2_in (tk_app wsL_law0_r3_in (tk_app wsL_law0_r4_in (tk_app wsL_law0_r5_in (tk_app wsL_law0_r6_in (tk_app wsL_law0_r7_in (tk_app wsL_law0_r8_in (tk_app wsL_law0_r9_in (tk_app wsL_law0_r10_in (tk_app wsL_law0_r11_in (tk_app wsL_law0_r12_in (tk_app wsL_law0_r13_in (tk_app wsL_law0_r14_in (tk_app wsL_law0_r15_in (tk_app wsL_law0_r16_in (tk_app wsL_law0_r17_in (tk_app wsL_law0_r18_in (tk_app wsL_law0_r19_in (tk_app wsL_law0_r20_in (tk_app wsL_law0_r21_in (tk_app wsL_law0_r22_in (tk_app wsL_law0_r23_in (tk_app wsL_law0_r24_in (tk_app wsL_law0_r25_in (tk_app wsL_law0_r26_in (tk_app wsL_law0_r27_in (tk_app wsL_law0_r28_in (tk_app wsL_law0_r29_in (tk_app wsL_law0_r30_in (tk_app wsL_law0_r31_in wsL_law0_r32_in))))))))))))))))))))))))))))))) wsX60_in) wsX70_in) wsX10_in) wsX00_in) wsX50_in) wsX40_in) wsX30_in) wsX20_in) tk_nil)
