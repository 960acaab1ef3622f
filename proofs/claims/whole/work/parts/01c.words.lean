theorem mem_pos {big : List Cond} (ws : List Cond) (ps : List Nat) (hp : ws = ps.filterMap (fun i => big[i]?)) : ∀ w ∈ ws, w ∈ big := by
  intro w hw
  rw [hp] at hw
  obtain ⟨i, -, hi⟩ := List.mem_filterMap.mp hw
  exact List.mem_of_getElem? hi
set_option maxRecDepth 20000 in
theorem in_wsL_law_r1 : ∀ w ∈ wsL_law_r1, w ∈ lw_tbl := mem_pos _ [34, 35, 27, 440, 441, 31, 729, 36, 37, 38, 39, 40, 41, 42, 43, 28, 115, 58, 59, 29, 116, 95, 96, 30] (by decide +kernel)
set_option maxRecDepth 20000 in
theorem in_wsL_law_r2 : ∀ w ∈ wsL_law_r2, w ∈ lw_tbl := mem_pos _ [117, 118, 120, 45, 46, 47, 57, 48, 60, 61, 62, 63, 64, 97, 98, 99, 100, 101, 104, 103, 112, 113, 114, 442] (by decide +kernel)
set_option maxRecDepth 20000 in
theorem in_wsL_law_r3 : ∀ w ∈ wsL_law_r3, w ∈ lw_tbl := mem_pos _ [443, 444, 445, 447, 450, 452, 454, 455, 456, 457, 459, 522, 460, 462, 463, 469, 470, 137, 138, 139, 140, 50, 141, 142] (by decide +kernel)
set_option maxRecDepth 20000 in
theorem in_wsL_law_r4 : ∀ w ∈ wsL_law_r4, w ∈ lw_tbl := mem_pos _ [143, 144, 49, 523, 524, 525, 526, 446, 527, 448, 528, 529, 530, 145, 146, 147, 148, 531, 532, 533, 534, 149, 150, 151] (by decide +kernel)
set_option maxRecDepth 20000 in
theorem in_wsL_law_r5 : ∀ w ∈ wsL_law_r5, w ∈ lw_tbl := mem_pos _ [152, 153, 154, 155, 156, 157, 159, 0, 160, 161, 162, 163, 164, 165, 167, 1, 168, 535, 536, 537, 538, 539, 541, 12] (by decide +kernel)
set_option maxRecDepth 20000 in
theorem in_wsL_law_r6 : ∀ w ∈ wsL_law_r6, w ∈ lw_tbl := mem_pos _ [542, 449, 453, 543, 545, 13, 546, 451, 547, 549, 14, 550, 551, 553, 15, 554, 555, 556, 557, 558, 169, 170, 171, 172] (by decide +kernel)
set_option maxRecDepth 20000 in
theorem in_wsL_law_r7 : ∀ w ∈ wsL_law_r7, w ∈ lw_tbl := mem_pos _ [106, 119, 173, 174, 175, 176, 66, 67, 68, 70, 72, 74, 76, 51, 177, 178, 179, 180, 181, 182, 183, 184, 185, 186] (by decide +kernel)
set_option maxRecDepth 20000 in
theorem in_wsL_law_r8 : ∀ w ∈ wsL_law_r8, w ∈ lw_tbl := mem_pos _ [187, 188, 189, 190, 191, 192, 193, 194, 195, 196, 197, 32, 198, 199, 200, 201, 559, 560, 561, 562, 458, 202, 203, 204] (by decide +kernel)
set_option maxRecDepth 20000 in
theorem in_wsL_law_r9 : ∀ w ∈ wsL_law_r9, w ∈ lw_tbl := mem_pos _ [205, 69, 71, 73, 75, 77, 206, 207, 208, 209, 210, 211, 212, 213, 214, 215, 216, 217, 563, 564, 565, 566, 567, 568] (by decide +kernel)
set_option maxRecDepth 20000 in
theorem in_wsL_law_r10 : ∀ w ∈ wsL_law_r10, w ∈ lw_tbl := mem_pos _ [569, 570, 572, 16, 573, 218, 219, 220, 221, 222, 223, 224, 225, 226, 227, 228, 229, 230, 574, 575, 576, 577, 578, 580] (by decide +kernel)
set_option maxRecDepth 20000 in
theorem in_wsL_law_r11 : ∀ w ∈ wsL_law_r11, w ∈ lw_tbl := mem_pos _ [17, 581, 231, 232, 233, 234, 235, 237, 2, 238, 239, 240, 241, 242, 243, 244, 245, 246, 248, 249, 250, 251, 252, 253] (by decide +kernel)
set_option maxRecDepth 20000 in
theorem in_wsL_law_r12 : ∀ w ∈ wsL_law_r12, w ∈ lw_tbl := mem_pos _ [254, 256, 3, 257, 259, 260, 261, 262, 263, 264, 265, 105, 266, 268, 4, 269, 270, 272, 5, 273, 274, 582, 583, 584] (by decide +kernel)
set_option maxRecDepth 20000 in
theorem in_wsL_law_r13 : ∀ w ∈ wsL_law_r13, w ∈ lw_tbl := mem_pos _ [585, 586, 587, 588, 589, 590, 591, 592, 593, 594, 595, 596, 598, 18, 599, 600, 602, 19, 603, 604, 605, 606, 275, 276] (by decide +kernel)
set_option maxRecDepth 20000 in
theorem in_wsL_law_r14 : ∀ w ∈ wsL_law_r14, w ∈ lw_tbl := mem_pos _ [277, 278, 607, 608, 609, 610, 279, 280, 281, 282, 283, 611, 612, 613, 614, 615, 284, 285, 286, 287, 616, 617, 618, 619] (by decide +kernel)
set_option maxRecDepth 20000 in
theorem in_wsL_law_r15 : ∀ w ∈ wsL_law_r15, w ∈ lw_tbl := mem_pos _ [288, 289, 290, 291, 292, 293, 294, 295, 620, 621, 622, 623, 296, 297, 298, 299, 300, 301, 302, 303, 304, 305, 306, 307] (by decide +kernel)
set_option maxRecDepth 20000 in
theorem in_wsL_law_r16 : ∀ w ∈ wsL_law_r16, w ∈ lw_tbl := mem_pos _ [308, 309, 310, 311, 312, 313, 314, 624, 625, 626, 627, 628, 630, 20, 631, 315, 316, 317, 318, 319, 320, 321, 65, 322] (by decide +kernel)
set_option maxRecDepth 20000 in
theorem in_wsL_law_r17 : ∀ w ∈ wsL_law_r17, w ∈ lw_tbl := mem_pos _ [323, 33, 324, 325, 327, 6, 328, 632, 633, 634, 635, 636, 465, 464, 637, 638, 639, 640, 642, 21, 643, 644, 645, 646] (by decide +kernel)
set_option maxRecDepth 20000 in
theorem in_wsL_law_r18 : ∀ w ∈ wsL_law_r18, w ∈ lw_tbl := mem_pos _ [329, 330, 331, 332, 333, 335, 7, 336, 647, 648, 649, 650, 651, 653, 22, 654, 337, 338, 339, 340, 341, 342, 343, 344] (by decide +kernel)
set_option maxRecDepth 20000 in
theorem in_wsL_law_r19 : ∀ w ∈ wsL_law_r19, w ∈ lw_tbl := mem_pos _ [655, 656, 657, 658, 345, 346, 347, 348, 349, 350, 351, 352, 353, 354, 659, 660, 661, 662, 663, 664, 665, 355, 356, 357] (by decide +kernel)
set_option maxRecDepth 20000 in
theorem in_wsL_law_r20 : ∀ w ∈ wsL_law_r20, w ∈ lw_tbl := mem_pos _ [358, 359, 361, 8, 362, 666, 667, 668, 669, 670, 671, 673, 23, 674, 468, 363, 364, 365, 366, 367, 368, 369, 371, 9] (by decide +kernel)
set_option maxRecDepth 20000 in
theorem in_wsL_law_r21 : ∀ w ∈ wsL_law_r21, w ∈ lw_tbl := mem_pos _ [372, 373, 374, 375, 376, 377, 378, 379, 380, 381, 382, 383, 384, 385, 675, 676, 677, 678, 679, 681, 24, 682, 683, 684] (by decide +kernel)
set_option maxRecDepth 20000 in
theorem in_wsL_law_r22 : ∀ w ∈ wsL_law_r22, w ∈ lw_tbl := mem_pos _ [685, 686, 687, 688, 689, 690, 691, 692, 693, 694, 386, 387, 388, 389, 390, 391, 392, 393, 394, 395, 396, 397, 398, 399] (by decide +kernel)
set_option maxRecDepth 20000 in
theorem in_wsL_law_r23 : ∀ w ∈ wsL_law_r23, w ∈ lw_tbl := mem_pos _ [400, 401, 695, 696, 697, 698, 466, 467, 699, 701, 25, 702, 703, 704, 705, 402, 403, 404, 405, 406, 408, 10, 409, 410] (by decide +kernel)
set_option maxRecDepth 20000 in
theorem in_wsL_law_r24 : ∀ w ∈ wsL_law_r24, w ∈ lw_tbl := mem_pos _ [411, 412, 413, 414, 415, 416, 706, 707, 708, 709, 710, 417, 418, 419, 420, 121, 711, 712, 713, 714, 461, 421, 422, 423] (by decide +kernel)
set_option maxRecDepth 20000 in
theorem in_wsL_law_r25 : ∀ w ∈ wsL_law_r25, w ∈ lw_tbl := mem_pos _ [424, 425, 426, 427, 715, 716, 717, 718, 719, 720, 428, 429, 430, 431, 432, 434, 11, 435, 721, 722, 723, 724, 436, 437] (by decide +kernel)
set_option maxRecDepth 20000 in
theorem in_wsL_law_r26 : ∀ w ∈ wsL_law_r26, w ∈ lw_tbl := mem_pos _ [438, 439, 725, 726, 727, 728] (by decide +kernel)
set_option maxRecDepth 20000 in
theorem in_wsX30 : ∀ w ∈ wsX30, w ∈ lw_tbl := mem_pos _ [122, 124, 126, 128, 130, 132, 134] (by decide +kernel)
set_option maxRecDepth 20000 in
theorem in_wsX40 : ∀ w ∈ wsX40, w ∈ lw_tbl := mem_pos _ [471, 473, 475, 477, 479, 481, 483, 485, 487, 489, 491, 493, 495, 497, 499, 501, 503, 505, 507, 509, 511, 513, 515, 517, 519] (by decide +kernel)
set_option maxRecDepth 20000 in
theorem in_wsX20 : ∀ w ∈ wsX20, w ∈ lw_tbl := mem_pos _ [52, 54] (by decide +kernel)
set_option maxRecDepth 20000 in
theorem in_wsX10 : ∀ w ∈ wsX10, w ∈ lw_tbl := mem_pos _ [78, 80, 82, 84, 86, 88, 90, 92] (by decide +kernel)
set_option maxRecDepth 20000 in
theorem in_wsX00 : ∀ w ∈ wsX00, w ∈ lw_tbl := mem_pos _ [107, 109] (by decide +kernel)
theorem in_wsL_r : ∀ w ∈ (wsL_law_r1 ++ (wsL_law_r2 ++ (wsL_law_r3 ++ (wsL_law_r4 ++ (wsL_law_r5 ++ (wsL_law_r6 ++ (wsL_law_r7 ++ (wsL_law_r8 ++ (wsL_law_r9 ++ (wsL_law_r10 ++ (wsL_law_r11 ++ (wsL_law_r12 ++ (wsL_law_r13 ++ (wsL_law_r14 ++ (wsL_law_r15 ++ (wsL_law_r16 ++ (wsL_law_r17 ++ (wsL_law_r18 ++ (wsL_law_r19 ++ (wsL_law_r20 ++ (wsL_law_r21 ++ (wsL_law_r22 ++ (wsL_law_r23 ++ (wsL_law_r24 ++ (wsL_law_r25 ++ wsL_law_r26))))))))))))))))))))))))), w ∈ lw_tbl :=
  List.forall_mem_append.mpr ⟨in_wsL_law_r1, List.forall_mem_append.mpr ⟨in_wsL_law_r2, List.forall_mem_append.mpr ⟨in_wsL_law_r3, List.forall_mem_append.mpr ⟨in_wsL_law_r4, List.forall_mem_append.mpr ⟨in_wsL_law_r5, List.forall_mem_append.mpr ⟨in_wsL_law_r6, List.forall_mem_append.mpr ⟨in_wsL_law_r7, List.forall_mem_append.mpr ⟨in_wsL_law_r8, List.forall_mem_append.mpr ⟨in_wsL_law_r9, List.forall_mem_append.mpr ⟨in_wsL_law_r10, List.forall_mem_append.mpr ⟨in_wsL_law_r11, List.forall_mem_append.mpr ⟨in_wsL_law_r12, List.forall_mem_append.mpr ⟨in_wsL_law_r13, List.forall_mem_append.mpr ⟨in_wsL_law_r14, List.forall_mem_append.mpr ⟨in_wsL_law_r15, List.forall_mem_append.mpr ⟨in_wsL_law_r16, List.forall_mem_append.mpr ⟨in_wsL_law_r17, List.forall_mem_append.mpr ⟨in_wsL_law_r18, List.forall_mem_append.mpr ⟨in_wsL_law_r19, List.forall_mem_append.mpr ⟨in_wsL_law_r20, List.forall_mem_append.mpr ⟨in_wsL_law_r21, List.forall_mem_append.mpr ⟨in_wsL_law_r22, List.forall_mem_append.mpr ⟨in_wsL_law_r23, List.forall_mem_append.mpr ⟨in_wsL_law_r24, List.forall_mem_append.mpr ⟨in_wsL_law_r25, in_wsL_law_r26⟩⟩⟩⟩⟩⟩⟩⟩⟩⟩⟩⟩⟩⟩⟩⟩⟩⟩⟩⟩⟩⟩⟩⟩⟩
theorem wsL_law_in : ∀ w ∈ wsL_law, w ∈ lw_tbl := List.forall_mem_append.mpr ⟨List.forall_mem_append.mpr ⟨List.forall_mem_append.mpr ⟨List.forall_mem_append.mpr ⟨List.forall_mem_append.mpr ⟨List.forall_mem_append.mpr ⟨in_wsL_r, in_wsX30⟩, in_wsX40⟩, in_wsX20⟩, in_wsX10⟩, in_wsX00⟩, fun _ h => absurd h List.not_mem_nil⟩
