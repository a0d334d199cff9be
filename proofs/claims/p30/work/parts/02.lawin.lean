theorem tk_places {big ws : List Cond} (ps : List Nat) (h : ws = ps.filterMap (fun i => big[i]?)) : ∀ w ∈ ws, w ∈ big := by
  intro w hw
  rw [h] at hw
  obtain ⟨i, -, hi⟩ := List.mem_filterMap.mp hw
  exact List.mem_of_getElem? hi
theorem tk_app {big a b : List Cond} (ha : ∀ w ∈ a, w ∈ big) (hb : ∀ w ∈ b, w ∈ big) : ∀ w ∈ a ++ b, w ∈ big := fun w h => (List.mem_append.mp h).elim (ha w) (hb w)
theorem tk_nil {big : List Cond} : ∀ w ∈ ([] : List Cond), w ∈ big := fun _ h => nomatch h
set_option maxRecDepth 20000 in
theorem wsL_law0_r1_in : ∀ w ∈ wsL_law0_r1, w ∈ lw_tbl := tk_places [38, 39, 23, 65, 716, 717, 718, 40, 41, 42, 43, 44, 45, 46, 47, 24, 140, 70, 71, 27, 141, 88, 89, 28] rfl
set_option maxRecDepth 20000 in
theorem wsL_law0_r2_in : ∀ w ∈ wsL_law0_r2, w ∈ lw_tbl := tk_places [142, 107, 108, 29, 143, 128, 129, 30, 144, 145, 146, 147, 148, 149, 150, 151, 152, 48, 49, 50, 51, 52, 53, 25] rfl
set_option maxRecDepth 20000 in
theorem wsL_law0_r3_in : ∀ w ∈ wsL_law0_r3, w ∈ lw_tbl := tk_places [66, 54, 55, 56, 57, 58, 59, 26, 60, 61, 72, 73, 74, 75, 79, 90, 91, 92, 93, 94, 96, 95, 109, 110] rfl
set_option maxRecDepth 20000 in
theorem wsL_law0_r4_in : ∀ w ∈ wsL_law0_r4, w ∈ lw_tbl := tk_places [111, 112, 113, 115, 117, 114, 130, 131, 132, 133, 134, 139, 135, 655, 656, 22, 657, 528, 529, 530, 531, 335, 34, 532] rfl
set_option maxRecDepth 20000 in
theorem wsL_law0_r5_in : ∀ w ∈ wsL_law0_r5, w ∈ lw_tbl := tk_places [533, 534, 360, 361, 362, 363, 649, 650, 651, 504, 505, 506, 507, 658, 659, 660, 661, 558, 559, 560, 390, 392, 7, 393] rfl
set_option maxRecDepth 20000 in
theorem wsL_law0_r6_in : ∀ w ∈ wsL_law0_r6, w ∈ lw_tbl := tk_places [394, 395, 396, 397, 98, 398, 317, 318, 319, 400, 401, 402, 403, 404, 405, 406, 407, 408, 409, 364, 365, 366, 546, 547] rfl
set_option maxRecDepth 20000 in
theorem wsL_law0_r7_in : ∀ w ∈ wsL_law0_r7, w ∈ lw_tbl := tk_places [548, 549, 508, 509, 510, 511, 662, 663, 664, 665, 667, 668, 669, 670, 671, 672, 673, 652, 653, 654, 550, 551, 552, 553] rfl
set_option maxRecDepth 20000 in
theorem wsL_law0_r8_in : ∀ w ∈ wsL_law0_r8, w ∈ lw_tbl := tk_places [157, 674, 675, 676, 562, 563, 564, 565, 566, 567, 568, 451, 452, 453, 454, 455, 456, 457, 677, 678, 679, 680, 681, 682] rfl
set_option maxRecDepth 20000 in
theorem wsL_law0_r9_in : ∀ w ∈ wsL_law0_r9, w ∈ lw_tbl := tk_places [683, 684, 685, 686, 687, 688, 690, 21, 691, 352, 354, 4, 355, 438, 440, 11, 441, 512, 513, 514, 515, 524, 525, 526] rfl
set_option maxRecDepth 20000 in
theorem wsL_law0_r10_in : ∀ w ∈ wsL_law0_r10, w ∈ lw_tbl := tk_places [527, 520, 521, 522, 523, 516, 517, 518, 519, 570, 571, 572, 573, 574, 575, 576, 577, 578, 195, 196, 197, 198, 200, 35] rfl
set_option maxRecDepth 20000 in
theorem wsL_law0_r11_in : ∀ w ∈ wsL_law0_r11, w ∈ lw_tbl := tk_places [268, 36, 199, 284, 285, 286, 287, 289, 1, 290, 153, 154, 156, 291, 292, 293, 294, 76, 77, 295, 296, 297, 298, 97] rfl
set_option maxRecDepth 20000 in
theorem wsL_law0_r12_in : ∀ w ∈ wsL_law0_r12, w ∈ lw_tbl := tk_places [299, 300, 301, 302, 303, 304, 305, 306, 311, 307, 308, 309, 310, 312, 314, 2, 315, 316, 320, 322, 3, 323, 155, 324] rfl
set_option maxRecDepth 20000 in
theorem wsL_law0_r13_in : ∀ w ∈ wsL_law0_r13, w ∈ lw_tbl := tk_places [325, 326, 327, 329, 330, 536, 537, 538, 539, 542, 543, 544, 545, 579, 580, 581, 582, 583, 584, 585, 586, 590, 591, 592] rfl
set_option maxRecDepth 20000 in
theorem wsL_law0_r14_in : ∀ w ∈ wsL_law0_r14, w ∈ lw_tbl := tk_places [593, 594, 595, 596, 597, 598, 599, 37, 600, 601, 602, 603, 500, 502, 17, 503, 604, 605, 606, 607, 608, 610, 18, 611] rfl
set_option maxRecDepth 20000 in
theorem wsL_law0_r15_in : ∀ w ∈ wsL_law0_r15, w ∈ lw_tbl := tk_places [612, 614, 19, 615, 616, 617, 618, 619, 621, 623, 20, 624, 331, 332, 333, 334, 356, 358, 5, 359, 367, 368, 369, 370] rfl
set_option maxRecDepth 20000 in
theorem wsL_law0_r16_in : ∀ w ∈ wsL_law0_r16, w ∈ lw_tbl := tk_places [383, 371, 373, 6, 374, 375, 376, 377, 380, 381, 382, 692, 693, 694, 625, 626, 627, 628, 629, 630, 631, 633, 634, 635] rfl
set_option maxRecDepth 20000 in
theorem wsL_law0_r17_in : ∀ w ∈ wsL_law0_r17, w ∈ lw_tbl := tk_places [417, 554, 555, 556, 557, 637, 638, 639, 640, 641, 642, 643, 478, 480, 14, 481, 648, 384, 385, 386, 387, 410, 411, 412] rfl
set_option maxRecDepth 20000 in
theorem wsL_law0_r18_in : ∀ w ∈ wsL_law0_r18, w ∈ lw_tbl := tk_places [413, 415, 8, 416, 418, 419, 420, 421, 422, 423, 424, 425, 426, 427, 428, 429, 430, 432, 9, 433, 434, 436, 10, 437] rfl
set_option maxRecDepth 20000 in
theorem wsL_law0_r19_in : ∀ w ∈ wsL_law0_r19, w ∈ lw_tbl := tk_places [442, 443, 444, 445, 447, 449, 12, 450, 458, 459, 460, 464, 465, 466, 461, 462, 463, 467, 468, 469, 470, 472, 13, 473] rfl
set_option maxRecDepth 20000 in
theorem wsL_law0_r20_in : ∀ w ∈ wsL_law0_r20, w ∈ lw_tbl := tk_places [474, 475, 476, 477, 482, 484, 15, 485, 486, 487, 488, 489, 119, 490, 491, 492, 494, 16, 495, 496, 497, 498, 499, 695] rfl
set_option maxRecDepth 20000 in
theorem wsL_law0_r21_in : ∀ w ∈ wsL_law0_r21, w ∈ lw_tbl := tk_places [696, 697, 698, 699, 700, 701, 702, 703, 704, 706, 707, 708, 709, 710, 711, 712, 713, 714, 715] rfl
set_option maxRecDepth 20000 in
theorem wsX60_in : ∀ w ∈ wsX60, w ∈ lw_tbl := tk_places [158, 160, 162, 164, 166, 168, 170, 172, 174, 176, 178, 180, 182, 184, 186, 188, 190, 192] rfl
set_option maxRecDepth 20000 in
theorem wsX10_in : ∀ w ∈ wsX10, w ∈ lw_tbl := tk_places [67] rfl
set_option maxRecDepth 20000 in
theorem wsX00_in : ∀ w ∈ wsX00, w ∈ lw_tbl := tk_places [81, 83, 85] rfl
set_option maxRecDepth 20000 in
theorem wsX50_in : ∀ w ∈ wsX50, w ∈ lw_tbl := tk_places [100, 102, 104] rfl
set_option maxRecDepth 20000 in
theorem wsX40_in : ∀ w ∈ wsX40, w ∈ lw_tbl := tk_places [121, 123, 125] rfl
set_option maxRecDepth 20000 in
theorem wsX30_in : ∀ w ∈ wsX30, w ∈ lw_tbl := tk_places [136] rfl
set_option maxRecDepth 20000 in
theorem wsX20_in : ∀ w ∈ wsX20, w ∈ lw_tbl := tk_places [62] rfl
theorem wsL_law_in0 : ∀ w ∈ wsL_law0, w ∈ lw_tbl := (tk_app (tk_app (tk_app (tk_app (tk_app (tk_app (tk_app (tk_app (tk_app wsL_law0_r1_in (tk_app wsL_law0_r2_in (tk_app wsL_law0_r3_in (tk_app wsL_law0_r4_in (tk_app wsL_law0_r5_in (tk_app wsL_law0_r6_in (tk_app wsL_law0_r7_in (tk_app wsL_law0_r8_in (tk_app wsL_law0_r9_in (tk_app wsL_law0_r10_in (tk_app wsL_law0_r11_in (tk_app wsL_law0_r12_in (tk_app wsL_law0_r13_in (tk_app wsL_law0_r14_in (tk_app wsL_law0_r15_in (tk_app wsL_law0_r16_in (tk_app wsL_law0_r17_in (tk_app wsL_law0_r18_in (tk_app wsL_law0_r19_in (tk_app wsL_law0_r20_in wsL_law0_r21_in)))))))))))))))))))) wsX60_in) wsX10_in) wsX00_in) wsX50_in) wsX40_in) wsX30_in) wsX20_in) tk_nil)
