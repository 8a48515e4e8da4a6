theorem mem_places {big : List Cond} (ws : List Cond) (ps : List Nat) (hp : ws = ps.filterMap (fun i => big[i]?)) : ∀ w ∈ ws, w ∈ big := by
  intro w hw
  rw [hp] at hw
  obtain ⟨i, -, hi⟩ := List.mem_filterMap.mp hw
  exact List.mem_of_getElem? hi
theorem lin_r1 : ∀ w ∈ wsL_law_r1, w ∈ lw_tbl := mem_places _ [49, 50, 41, 515, 516, 46, 51, 52, 53, 54, 55, 56, 57, 58, 42, 211, 212, 213, 210, 214, 183, 184, 45, 215] (by decide +kernel)
theorem lin_r2 : ∀ w ∈ wsL_law_r2, w ∈ lw_tbl := mem_places _ [110, 216, 59, 60, 61, 62, 63, 64, 43, 133, 111, 135, 137, 139, 141, 145, 113, 44, 66, 67, 68, 69, 72, 75] (by decide +kernel)
theorem lin_r3 : ∀ w ∈ wsL_law_r3, w ∈ lw_tbl := mem_places _ [78, 81, 84, 87, 115, 116, 117, 118, 119, 120, 186, 187, 188, 189, 191, 193, 195, 517, 518, 519, 520, 521, 522, 524] (by decide +kernel)
theorem lin_r4 : ∀ w ∈ wsL_law_r4, w ∈ lw_tbl := mem_places _ [526, 230, 231, 232, 233, 237, 147, 234, 235, 236, 238, 239, 240, 241, 91, 122, 143, 148, 149, 151, 153, 155, 242, 243] (by decide +kernel)
theorem lin_r5 : ∀ w ∈ wsL_law_r5, w ∈ lw_tbl := mem_places _ [244, 245, 197, 540, 541, 542, 543, 544, 548, 523, 545, 546, 547, 246, 247, 248, 249, 258, 134, 267, 92, 268, 250, 252] (by decide +kernel)
theorem lin_r6 : ∀ w ∈ wsL_law_r6, w ∈ lw_tbl := mem_places _ [0, 253, 254, 256, 1, 257, 144, 259, 260, 261, 262, 90, 263, 264, 265, 266, 269, 270, 271, 272, 549, 550, 551, 552] (by decide +kernel)
theorem lin_r7 : ∀ w ∈ wsL_law_r7, w ∈ lw_tbl := mem_places _ [557, 558, 566, 567, 553, 555, 12, 556, 559, 561, 13, 562, 563, 564, 565, 273, 274, 275, 276, 277, 279, 2, 280, 156] (by decide +kernel)
theorem lin_r8 : ∀ w ∈ wsL_law_r8, w ∈ lw_tbl := mem_places _ [281, 282, 283, 284, 285, 286, 287, 288, 289, 290, 291, 292, 293, 294, 295, 296, 121, 297, 299, 3, 300, 568, 569, 570] (by decide +kernel)
theorem lin_r9 : ∀ w ∈ wsL_law_r9, w ∈ lw_tbl := mem_places _ [571, 572, 573, 575, 14, 576, 577, 579, 15, 580, 581, 583, 16, 584, 301, 302, 303, 304, 146, 585, 586, 587, 588, 589] (by decide +kernel)
theorem lin_r10 : ∀ w ∈ wsL_law_r10, w ∈ lw_tbl := mem_places _ [305, 306, 307, 308, 309, 142, 315, 316, 310, 311, 312, 313, 314, 590, 591, 592, 593, 594, 595, 525, 596, 598, 17, 599] (by decide +kernel)
theorem lin_r11 : ∀ w ∈ wsL_law_r11, w ∈ lw_tbl := mem_places _ [600, 601, 602, 317, 318, 319, 320, 321, 323, 4, 324, 325, 326, 327, 328, 329, 331, 5, 332, 333, 334, 335, 336, 337] (by decide +kernel)
theorem lin_r12 : ∀ w ∈ wsL_law_r12, w ∈ lw_tbl := mem_places _ [339, 6, 340, 150, 152, 341, 342, 343, 344, 345, 346, 347, 348, 349, 350, 351, 352, 353, 358, 82, 354, 355, 356, 357] (by decide +kernel)
theorem lin_r13 : ∀ w ∈ wsL_law_r13, w ∈ lw_tbl := mem_places _ [359, 361, 7, 362, 136, 363, 364, 365, 366, 367, 368, 369, 370, 371, 372, 373, 374, 375, 384, 376, 377, 378, 379, 380] (by decide +kernel)
theorem lin_r14 : ∀ w ∈ wsL_law_r14, w ∈ lw_tbl := mem_places _ [381, 383, 382, 47, 385, 387, 8, 388, 80, 74, 86, 397, 398, 48, 399, 389, 390, 391, 392, 393, 394, 395, 396, 400] (by decide +kernel)
theorem lin_r15 : ∀ w ∈ wsL_law_r15, w ∈ lw_tbl := mem_places _ [401, 402, 403, 404, 405, 406, 77, 71, 89, 407, 409, 9, 410, 411, 412, 413, 414, 603, 604, 605, 606, 607, 608, 610] (by decide +kernel)
theorem lin_r16 : ∀ w ∈ wsL_law_r16, w ∈ lw_tbl := mem_places _ [18, 611, 612, 614, 19, 615, 616, 618, 20, 619, 620, 621, 623, 21, 624, 625, 627, 22, 628, 629, 631, 23, 632, 633] (by decide +kernel)
theorem lin_r17 : ∀ w ∈ wsL_law_r17, w ∈ lw_tbl := mem_places _ [635, 24, 636, 637, 639, 25, 640, 641, 643, 26, 644, 645, 647, 27, 648, 649, 651, 28, 652, 653, 654, 656, 29, 657] (by decide +kernel)
theorem lin_r18 : ∀ w ∈ wsL_law_r18, w ∈ lw_tbl := mem_places _ [658, 660, 30, 661, 662, 664, 31, 665, 415, 416, 417, 418, 419, 420, 421, 422, 423, 424, 426, 10, 427, 154, 428, 429] (by decide +kernel)
theorem lin_r19 : ∀ w ∈ wsL_law_r19, w ∈ lw_tbl := mem_places _ [430, 431, 432, 433, 434, 435, 436, 437, 438, 439, 440, 666, 667, 668, 669, 670, 672, 32, 673, 674, 676, 33, 677, 678] (by decide +kernel)
theorem lin_r20 : ∀ w ∈ wsL_law_r20, w ∈ lw_tbl := mem_places _ [680, 34, 681, 441, 442, 443, 444, 682, 683, 684, 685, 445, 446, 447, 448, 198, 686, 687, 688, 689, 449, 450, 451, 452] (by decide +kernel)
theorem lin_r21 : ∀ w ∈ wsL_law_r21, w ∈ lw_tbl := mem_places _ [138, 140, 123, 453, 454, 455, 456, 457, 458, 459, 690, 691, 692, 693, 694, 696, 35, 697, 698, 700, 36, 701, 702, 704] (by decide +kernel)
theorem lin_r22 : ∀ w ∈ wsL_law_r22, w ∈ lw_tbl := mem_places _ [37, 705, 460, 461, 462, 463, 70, 73, 76, 79, 83, 85, 88, 706, 707, 708, 709, 710, 712, 38, 713, 464, 465, 466] (by decide +kernel)
theorem lin_r23 : ∀ w ∈ wsL_law_r23, w ∈ lw_tbl := mem_places _ [467, 714, 715, 716, 717, 468, 469, 470, 471, 190, 192, 194, 196, 718, 719, 720, 721, 722, 472, 473, 474, 475, 480, 476] (by decide +kernel)
theorem lin_r24 : ∀ w ∈ wsL_law_r24, w ∈ lw_tbl := mem_places _ [478, 11, 479, 481, 723, 724, 725, 726, 482, 483, 484, 485, 727, 728, 729, 730, 731, 732, 733, 486, 487, 488, 489, 490] (by decide +kernel)
theorem lin_r25 : ∀ w ∈ wsL_law_r25, w ∈ lw_tbl := mem_places _ [491, 492, 493, 494, 495, 496, 497, 498, 499, 500, 501, 502, 503, 734, 735, 736, 737, 738, 740, 39, 741, 504, 505, 506] (by decide +kernel)
theorem lin_r26 : ∀ w ∈ wsL_law_r26, w ∈ lw_tbl := mem_places _ [507, 508, 509, 510, 742, 743, 744, 745, 511, 512, 513, 514, 746, 747, 748, 749] (by decide +kernel)
theorem lin_X4 : ∀ w ∈ wsX40, w ∈ lw_tbl := mem_places _ [217, 219, 221, 223, 225, 227] (by decide +kernel)
theorem lin_X5 : ∀ w ∈ wsX50, w ∈ lw_tbl := mem_places _ [527, 529, 531, 533, 535, 537] (by decide +kernel)
theorem lin_X3 : ∀ w ∈ wsX30, w ∈ lw_tbl := mem_places _ [157, 159, 161, 163, 165, 167, 169, 171, 173, 175, 177, 179] (by decide +kernel)
theorem lin_X1 : ∀ w ∈ wsX10, w ∈ lw_tbl := mem_places _ [199, 201, 203, 205, 207] (by decide +kernel)
theorem lin_X0 : ∀ w ∈ wsX00, w ∈ lw_tbl := mem_places _ [93, 95, 97, 99, 101, 103, 105, 107] (by decide +kernel)
theorem lin_X2 : ∀ w ∈ wsX20, w ∈ lw_tbl := mem_places _ [124, 126, 128, 130] (by decide +kernel)
theorem lin_all : ∀ w ∈ wsL_law, w ∈ lw_tbl := by
  intro w h
  rcases List.mem_append.mp h with h | h
  rotate_left
  · cases h
  rcases List.mem_append.mp h with h | h
  rotate_left
  · exact lin_X2 w h
  rcases List.mem_append.mp h with h | h
  rotate_left
  · exact lin_X0 w h
  rcases List.mem_append.mp h with h | h
  rotate_left
  · exact lin_X1 w h
  rcases List.mem_append.mp h with h | h
  rotate_left
  · exact lin_X3 w h
  rcases List.mem_append.mp h with h | h
  rotate_left
  · exact lin_X5 w h
  rcases List.mem_append.mp h with h | h
  rotate_left
  · exact lin_X4 w h
  rcases List.mem_append.mp h with h | h
  · exact lin_r1 w h
  rcases List.mem_append.mp h with h | h
  · exact lin_r2 w h
  rcases List.mem_append.mp h with h | h
  · exact lin_r3 w h
  rcases List.mem_append.mp h with h | h
  · exact lin_r4 w h
  rcases List.mem_append.mp h with h | h
  · exact lin_r5 w h
  rcases List.mem_append.mp h with h | h
  · exact lin_r6 w h
  rcases List.mem_append.mp h with h | h
  · exact lin_r7 w h
  rcases List.mem_append.mp h with h | h
  · exact lin_r8 w h
  rcases List.mem_append.mp h with h | h
  · exact lin_r9 w h
  rcases List.mem_append.mp h with h | h
  · exact lin_r10 w h
  rcases List.mem_append.mp h with h | h
  · exact lin_r11 w h
  rcases List.mem_append.mp h with h | h
  · exact lin_r12 w h
  rcases List.mem_append.mp h with h | h
  · exact lin_r13 w h
  rcases List.mem_append.mp h with h | h
  · exact lin_r14 w h
  rcases List.mem_append.mp h with h | h
  · exact lin_r15 w h
  rcases List.mem_append.mp h with h | h
  · exact lin_r16 w h
  rcases List.mem_append.mp h with h | h
  · exact lin_r17 w h
  rcases List.mem_append.mp h with h | h
  · exact lin_r18 w h
  rcases List.mem_append.mp h with h | h
  · exact lin_r19 w h
  rcases List.mem_append.mp h with h | h
  · exact lin_r20 w h
  rcases List.mem_append.mp h with h | h
  · exact lin_r21 w h
  rcases List.mem_append.mp h with h | h
  · exact lin_r22 w h
  rcases List.mem_append.mp h with h | h
  · exact lin_r23 w h
  rcases List.mem_append.mp h with h | h
  · exact lin_r24 w h
  rcases List.mem_append.mp h with h | h
  · exact lin_r25 w h
  exact lin_r26 w h
theorem lin_ao2 : Cond.arrayOver (.object "SafeParts$Waiting") ∈ lw_tbl := List.mem_of_getElem? (i := 112) (by decide +kernel)
theorem lin_ao3 : Cond.arrayOver (.object "SafeParts$World") ∈ lw_tbl := List.mem_of_getElem? (i := 182) (by decide +kernel)
theorem lin_nX3_11 : Cond.methodLinkNest RX3 11 yX0_init "SafeParts" ∈ lw_tbl := List.mem_of_getElem? (i := 65) (by decide +kernel)
theorem lin_nX3_38 : Cond.methodLinkNest RX3 38 yX2_init "SafeParts" ∈ lw_tbl := List.mem_of_getElem? (i := 114) (by decide +kernel)
theorem lin_nX4_29 : Cond.methodLinkNest RX4 29 yX1_init "SafeParts" ∈ lw_tbl := List.mem_of_getElem? (i := 185) (by decide +kernel)
