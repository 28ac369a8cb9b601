/-! own rows: the words of the law stand in the tables, by their places -/
theorem mem_ps {big : List Cond} (ws : List Cond) (ps : List Nat) (hp : ws = ps.filterMap (fun i => big[i]?)) : ∀ w ∈ ws, w ∈ big := by
  intro w hw
  rw [hp] at hw
  obtain ⟨i, -, hi⟩ := List.mem_filterMap.mp hw
  exact List.mem_of_getElem? hi
set_option maxRecDepth 20000 in
theorem in_wsL_law_r1 : ∀ w ∈ wsL_law_r1, w ∈ lw_tbl := mem_ps wsL_law_r1 [43, 44, 34, 486, 487, 38, 45, 46, 47, 48, 49, 50, 51, 52, 35, 111, 72, 73, 36, 112, 91, 92, 37, 113] (by decide +kernel)
set_option maxRecDepth 20000 in
theorem in_wsL_law_r2 : ∀ w ∈ wsL_law_r2, w ∈ lw_tbl := mem_ps wsL_law_r2 [71, 114, 115, 116, 54, 55, 56, 70, 57, 58, 59, 60, 75, 76, 77, 78, 79, 80, 81, 94, 95, 96, 97, 98] (by decide +kernel)
set_option maxRecDepth 20000 in
theorem in_wsL_law_r3 : ∀ w ∈ wsL_law_r3, w ∈ lw_tbl := mem_ps wsL_law_r3 [110, 99, 100, 488, 489, 490, 491, 493, 495, 496, 497, 499, 501, 503, 504, 505, 507, 492, 130, 131, 132, 133, 134, 135] (by decide +kernel)
set_option maxRecDepth 20000 in
theorem in_wsL_law_r4 : ∀ w ∈ wsL_law_r4, w ∈ lw_tbl := mem_ps wsL_law_r4 [39, 136, 137, 138, 139, 140, 141, 142, 143, 144, 145, 146, 147, 148, 541, 542, 543, 544, 494, 545, 546, 547, 149, 150] (by decide +kernel)
set_option maxRecDepth 20000 in
theorem in_wsL_law_r5 : ∀ w ∈ wsL_law_r5, w ∈ lw_tbl := mem_ps wsL_law_r5 [151, 152, 548, 549, 550, 551, 153, 154, 155, 156, 157, 158, 159, 160, 161, 162, 163, 164, 552, 553, 554, 555, 498, 502] (by decide +kernel)
set_option maxRecDepth 20000 in
theorem in_wsL_law_r6 : ∀ w ∈ wsL_law_r6, w ∈ lw_tbl := mem_ps wsL_law_r6 [165, 166, 167, 168, 169, 170, 171, 172, 173, 174, 175, 176, 177, 178, 179, 180, 181, 183, 0, 184, 185, 186, 187, 188] (by decide +kernel)
set_option maxRecDepth 20000 in
theorem in_wsL_law_r7 : ∀ w ∈ wsL_law_r7, w ∈ lw_tbl := mem_ps wsL_law_r7 [189, 190, 191, 192, 200, 201, 40, 202, 203, 204, 205, 193, 194, 195, 196, 197, 198, 199, 206, 207, 208, 209, 210, 212] (by decide +kernel)
set_option maxRecDepth 20000 in
theorem in_wsL_law_r8 : ∀ w ∈ wsL_law_r8, w ∈ lw_tbl := mem_ps wsL_law_r8 [1, 213, 214, 216, 215, 41, 217, 218, 219, 220, 221, 223, 2, 224, 226, 225, 227, 229, 3, 230, 231, 232, 233, 234] (by decide +kernel)
set_option maxRecDepth 20000 in
theorem in_wsL_law_r9 : ∀ w ∈ wsL_law_r9, w ∈ lw_tbl := mem_ps wsL_law_r9 [235, 236, 237, 238, 239, 240, 241, 242, 243, 556, 557, 558, 559, 560, 562, 12, 563, 564, 565, 567, 13, 568, 569, 571] (by decide +kernel)
set_option maxRecDepth 20000 in
theorem in_wsL_law_r10 : ∀ w ∈ wsL_law_r10, w ∈ lw_tbl := mem_ps wsL_law_r10 [14, 572, 500, 573, 575, 15, 576, 577, 579, 16, 580, 581, 582, 583, 584, 585, 586, 587, 588, 589, 590, 591, 592, 593] (by decide +kernel)
set_option maxRecDepth 20000 in
theorem in_wsL_law_r11 : ∀ w ∈ wsL_law_r11, w ∈ lw_tbl := mem_ps wsL_law_r11 [595, 17, 596, 597, 599, 18, 600, 601, 602, 603, 244, 245, 246, 247, 248, 249, 250, 251, 604, 605, 606, 607, 608, 610] (by decide +kernel)
set_option maxRecDepth 20000 in
theorem in_wsL_law_r12 : ∀ w ∈ wsL_law_r12, w ∈ lw_tbl := mem_ps wsL_law_r12 [19, 611, 612, 614, 20, 615, 252, 253, 254, 255, 256, 257, 258, 259, 260, 261, 262, 263, 264, 266, 4, 267, 268, 269] (by decide +kernel)
set_option maxRecDepth 20000 in
theorem in_wsL_law_r13 : ∀ w ∈ wsL_law_r13, w ∈ lw_tbl := mem_ps wsL_law_r13 [270, 271, 272, 273, 274, 275, 276, 277, 278, 279, 616, 617, 618, 619, 280, 281, 282, 283, 620, 621, 622, 623, 284, 285] (by decide +kernel)
set_option maxRecDepth 20000 in
theorem in_wsL_law_r14 : ∀ w ∈ wsL_law_r14, w ∈ lw_tbl := mem_ps wsL_law_r14 [286, 287, 288, 289, 290, 291, 292, 624, 625, 626, 627, 293, 294, 295, 296, 297, 298, 299, 300, 301, 302, 303, 304, 305] (by decide +kernel)
set_option maxRecDepth 20000 in
theorem in_wsL_law_r15 : ∀ w ∈ wsL_law_r15, w ∈ lw_tbl := mem_ps wsL_law_r15 [628, 629, 630, 631, 632, 634, 21, 635, 306, 307, 308, 309, 636, 637, 638, 639, 640, 642, 22, 643, 310, 311, 312, 313] (by decide +kernel)
set_option maxRecDepth 20000 in
theorem in_wsL_law_r16 : ∀ w ∈ wsL_law_r16, w ∈ lw_tbl := mem_ps wsL_law_r16 [314, 315, 316, 317, 644, 645, 646, 647, 318, 319, 320, 321, 322, 323, 324, 325, 648, 649, 650, 651, 326, 327, 328, 329] (by decide +kernel)
set_option maxRecDepth 20000 in
theorem in_wsL_law_r17 : ∀ w ∈ wsL_law_r17, w ∈ lw_tbl := mem_ps wsL_law_r17 [330, 331, 332, 333, 652, 653, 654, 655, 334, 335, 336, 337, 338, 339, 340, 341, 342, 343, 344, 656, 657, 658, 659, 345] (by decide +kernel)
set_option maxRecDepth 20000 in
theorem in_wsL_law_r18 : ∀ w ∈ wsL_law_r18, w ∈ lw_tbl := mem_ps wsL_law_r18 [346, 347, 348, 349, 350, 351, 660, 661, 662, 663, 664, 666, 23, 667, 668, 669, 670, 352, 353, 354, 355, 356, 357, 358] (by decide +kernel)
set_option maxRecDepth 20000 in
theorem in_wsL_law_r19 : ∀ w ∈ wsL_law_r19, w ∈ lw_tbl := mem_ps wsL_law_r19 [359, 360, 361, 362, 363, 365, 5, 366, 367, 368, 671, 672, 673, 674, 675, 676, 677, 678, 680, 24, 681, 369, 370, 371] (by decide +kernel)
set_option maxRecDepth 20000 in
theorem in_wsL_law_r20 : ∀ w ∈ wsL_law_r20, w ∈ lw_tbl := mem_ps wsL_law_r20 [372, 682, 683, 684, 685, 373, 374, 375, 376, 686, 687, 688, 689, 377, 378, 379, 380, 381, 382, 383, 384, 385, 387, 6] (by decide +kernel)
set_option maxRecDepth 20000 in
theorem in_wsL_law_r21 : ∀ w ∈ wsL_law_r21, w ∈ lw_tbl := mem_ps wsL_law_r21 [388, 690, 691, 692, 693, 389, 390, 391, 392, 393, 394, 395, 396, 397, 398, 399, 400, 694, 695, 696, 697, 506, 401, 402] (by decide +kernel)
set_option maxRecDepth 20000 in
theorem in_wsL_law_r22 : ∀ w ∈ wsL_law_r22, w ∈ lw_tbl := mem_ps wsL_law_r22 [403, 404, 405, 406, 407, 408, 698, 699, 700, 701, 409, 410, 411, 412, 413, 414, 415, 416, 417, 702, 703, 704, 705, 706] (by decide +kernel)
set_option maxRecDepth 20000 in
theorem in_wsL_law_r23 : ∀ w ∈ wsL_law_r23, w ∈ lw_tbl := mem_ps wsL_law_r23 [708, 25, 709, 710, 712, 26, 713, 418, 419, 420, 421, 433, 422, 424, 7, 425, 426, 427, 42, 428, 429, 431, 8, 432] (by decide +kernel)
set_option maxRecDepth 20000 in
theorem in_wsL_law_r24 : ∀ w ∈ wsL_law_r24, w ∈ lw_tbl := mem_ps wsL_law_r24 [714, 715, 716, 717, 434, 435, 436, 437, 438, 439, 440, 441, 442, 444, 9, 445, 446, 447, 448, 449, 450, 452, 10, 453] (by decide +kernel)
set_option maxRecDepth 20000 in
theorem in_wsL_law_r25 : ∀ w ∈ wsL_law_r25, w ∈ lw_tbl := mem_ps wsL_law_r25 [454, 456, 11, 457, 458, 459, 460, 461, 462, 463, 464, 465, 466, 467, 468, 469, 470, 471, 472, 473, 474, 475, 476, 477] (by decide +kernel)
set_option maxRecDepth 20000 in
theorem in_wsL_law_r26 : ∀ w ∈ wsL_law_r26, w ∈ lw_tbl := mem_ps wsL_law_r26 [718, 719, 720, 721, 722, 724, 27, 725, 726, 728, 28, 729, 730, 732, 29, 733, 734, 736, 30, 737, 738, 740, 31, 741] (by decide +kernel)
set_option maxRecDepth 20000 in
theorem in_wsL_law_r27 : ∀ w ∈ wsL_law_r27, w ∈ lw_tbl := mem_ps wsL_law_r27 [742, 744, 32, 745, 478, 479, 480, 481, 482, 483, 484, 485, 746, 747, 748, 749, 750, 751, 752] (by decide +kernel)
set_option maxRecDepth 20000 in
theorem in_wsX40 : ∀ w ∈ wsX40, w ∈ lw_tbl := mem_ps wsX40 [117, 119, 121, 123, 125, 127] (by decide +kernel)
set_option maxRecDepth 20000 in
theorem in_wsX50 : ∀ w ∈ wsX50, w ∈ lw_tbl := mem_ps wsX50 [508, 510, 512, 514, 516, 518, 520, 522, 524, 526, 528, 530, 532, 534, 536, 538] (by decide +kernel)
set_option maxRecDepth 20000 in
theorem in_wsX00 : ∀ w ∈ wsX00, w ∈ lw_tbl := mem_ps wsX00 [61, 63, 65, 67] (by decide +kernel)
set_option maxRecDepth 20000 in
theorem in_wsX10 : ∀ w ∈ wsX10, w ∈ lw_tbl := mem_ps wsX10 [82, 84, 86, 88] (by decide +kernel)
set_option maxRecDepth 20000 in
theorem in_wsX20 : ∀ w ∈ wsX20, w ∈ lw_tbl := mem_ps wsX20 [101, 103, 105, 107] (by decide +kernel)
theorem mem_app {big a b : List Cond} (ha : ∀ w ∈ a, w ∈ big) (hb : ∀ w ∈ b, w ∈ big) : ∀ w ∈ a ++ b, w ∈ big := fun w h => (List.mem_append.mp h).elim (ha w) (hb w)
theorem wsL_law_in : ∀ w ∈ wsL_law, w ∈ lw_tbl := mem_app (mem_app (mem_app (mem_app (mem_app (mem_app (mem_app in_wsL_law_r1 (mem_app in_wsL_law_r2 (mem_app in_wsL_law_r3 (mem_app in_wsL_law_r4 (mem_app in_wsL_law_r5 (mem_app in_wsL_law_r6 (mem_app in_wsL_law_r7 (mem_app in_wsL_law_r8 (mem_app in_wsL_law_r9 (mem_app in_wsL_law_r10 (mem_app in_wsL_law_r11 (mem_app in_wsL_law_r12 (mem_app in_wsL_law_r13 (mem_app in_wsL_law_r14 (mem_app in_wsL_law_r15 (mem_app in_wsL_law_r16 (mem_app in_wsL_law_r17 (mem_app in_wsL_law_r18 (mem_app in_wsL_law_r19 (mem_app in_wsL_law_r20 (mem_app in_wsL_law_r21 (mem_app in_wsL_law_r22 (mem_app in_wsL_law_r23 (mem_app in_wsL_law_r24 (mem_app in_wsL_law_r25 (mem_app in_wsL_law_r26 (in_wsL_law_r27))))))))))))))))))))))))))) in_wsX40) in_wsX50) in_wsX00) in_wsX10) in_wsX20) (fun _ h => absurd h List.not_mem_nil)
theorem nW1_in : nW1 ∈ lw_tbl := List.mem_of_getElem? (i := 53) (by decide +kernel)
theorem nW2_in : nW2 ∈ lw_tbl := List.mem_of_getElem? (i := 74) (by decide +kernel)
theorem nW3_in : nW3 ∈ lw_tbl := List.mem_of_getElem? (i := 93) (by decide +kernel)
theorem iX0_in : Cond.instantiable RX0 4 ∈ lw_tbl := List.mem_of_getElem? (i := 52) (by decide +kernel)
theorem iX1_in : Cond.instantiable RX1 4 ∈ lw_tbl := List.mem_of_getElem? (i := 73) (by decide +kernel)
theorem iX2_in : Cond.instantiable RX2 4 ∈ lw_tbl := List.mem_of_getElem? (i := 92) (by decide +kernel)
theorem iX4_in : Cond.instantiable RX4 6 ∈ lw_tbl := List.mem_of_getElem? (i := 44) (by decide +kernel)
theorem iX5_in : Cond.instantiable RX5 16 ∈ lw_tbl := List.mem_of_getElem? (i := 487) (by decide +kernel)
theorem ar_int_in : Cond.arrayClass .int ∈ lw_tbl := List.mem_of_getElem? (i := 71) (by decide +kernel)
theorem ar_long_in : Cond.arrayClass .long ∈ lw_tbl := List.mem_of_getElem? (i := 70) (by decide +kernel)
theorem ar_boolean_in : Cond.arrayClass .boolean ∈ lw_tbl := List.mem_of_getElem? (i := 110) (by decide +kernel)
