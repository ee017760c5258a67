/-! ===== the law: the words of its callees ===== -/
set_option maxHeartbeats 4000000 in
set_option maxRecDepth 20000 in
theorem gdL_0 : GoodIn wsL_law [Cond.code yX6_digest cX6_digest 4 (some .long)] := goodIn_r _ [902] (by decide +kernel) (by decide +kernel)
set_option maxHeartbeats 4000000 in
set_option maxRecDepth 20000 in
theorem gdL_1 : GoodIn wsL_law wsX6_digest_r1 := goodIn_r _ [903, 18, 904, 702, 703, 2, 704, 106, 107, 16, 30, 38, 22, 705, 706, 707, 15, 708, 136, 263, 182, 183, 184, 47] (by decide +kernel) (by decide +kernel)
set_option maxHeartbeats 4000000 in
set_option maxRecDepth 20000 in
theorem gdL_2 : GoodIn wsL_law wsX6_digest_r2 := goodIn_r _ [239, 240, 241, 242, 243, 244, 245, 246, 247, 248, 249, 250, 251, 252, 253, 254, 45, 255, 256, 257, 258, 46, 119, 120] (by decide +kernel) (by decide +kernel)
set_option maxHeartbeats 4000000 in
set_option maxRecDepth 20000 in
theorem gdL_3 : GoodIn wsL_law wsX6_digest_r3 := goodIn_r _ [259, 260, 261, 262, 231, 232, 233, 234, 44, 709, 710, 711, 29, 712, 713, 714, 715, 716, 717, 718, 719, 720, 721, 722] (by decide +kernel) (by decide +kernel)
set_option maxHeartbeats 4000000 in
set_option maxRecDepth 20000 in
theorem gdL_4 : GoodIn wsL_law wsX6_digest_r4 := goodIn_r _ [723, 724, 725, 726, 60, 61, 727, 728, 729, 730, 62, 731, 304, 305, 306, 732, 733, 734, 735, 736, 683, 684, 685, 737] (by decide +kernel) (by decide +kernel)
set_option maxHeartbeats 4000000 in
set_option maxRecDepth 20000 in
theorem gdL_5 : GoodIn wsL_law wsX6_digest_r5 := goodIn_r _ [738, 739, 740, 428, 429, 430, 431, 432, 433, 434, 435, 436, 312, 313, 314, 437, 438, 439, 440, 741, 742, 743, 37, 744] (by decide +kernel) (by decide +kernel)
set_option maxHeartbeats 4000000 in
set_option maxRecDepth 20000 in
theorem gdL_6 : GoodIn wsL_law wsX6_digest_r6 := goodIn_r _ [74, 745, 746, 747, 748, 749, 750, 75, 76, 751, 752, 753, 754, 755, 756, 757, 758, 759, 760, 761, 762, 116, 117, 763] (by decide +kernel) (by decide +kernel)
set_option maxHeartbeats 4000000 in
set_option maxRecDepth 20000 in
theorem gdL_7 : GoodIn wsL_law wsX6_digest_r7 := goodIn_r _ [764, 765, 766, 767, 768, 769, 770, 771, 772, 773, 774, 775, 776, 178, 179, 180, 777, 778, 779, 780, 781, 782, 783, 784] (by decide +kernel) (by decide +kernel)
set_option maxHeartbeats 4000000 in
set_option maxRecDepth 20000 in
theorem gdL_8 : GoodIn wsL_law wsX6_digest_r8 := goodIn_r _ [785, 77, 78, 79, 786, 787, 788, 789, 790, 791, 792, 905, 906, 907, 908, 909, 910, 911, 912, 878, 630, 631, 632, 633] (by decide +kernel) (by decide +kernel)
set_option maxHeartbeats 4000000 in
set_option maxRecDepth 20000 in
theorem gdL_9 : GoodIn wsL_law wsX6_digest_r9 := goodIn_r _ [634, 635, 110, 111, 112, 113, 114, 115, 636, 637, 638, 639, 640, 641, 642, 643, 644, 645, 646, 647, 648, 649, 650, 418] (by decide +kernel) (by decide +kernel)
set_option maxHeartbeats 4000000 in
set_option maxRecDepth 20000 in
theorem gdL_10 : GoodIn wsL_law wsX6_digest_r10 := goodIn_r _ [419, 420, 651, 913, 914, 915, 916, 917, 676, 677, 678, 173, 174, 175, 176, 177, 679, 680, 181, 681, 682, 918, 828, 829] (by decide +kernel) (by decide +kernel)
set_option maxHeartbeats 4000000 in
set_option maxRecDepth 20000 in
theorem gdL_11 : GoodIn wsL_law wsX6_digest_r11 := goodIn_r _ [830, 34, 353, 354, 355, 356, 357, 358, 33, 359, 360, 68, 69, 361, 133, 134, 135, 362, 363, 364, 365, 70, 303, 366] (by decide +kernel) (by decide +kernel)
set_option maxHeartbeats 4000000 in
set_option maxRecDepth 20000 in
theorem gdL_12 : GoodIn wsL_law wsX6_digest_r12 := goodIn_r _ [367, 368, 369, 370, 315, 307, 371, 372, 316, 373, 374, 375, 376, 308, 309, 310, 377, 378, 379, 380, 831, 832, 833, 834] (by decide +kernel) (by decide +kernel)
set_option maxHeartbeats 4000000 in
set_option maxRecDepth 20000 in
theorem gdL_13 : GoodIn wsL_law wsX6_digest_r13 := goodIn_r _ [919, 875, 876, 877, 920, 813, 814, 815, 17, 224, 225, 226, 118, 595, 129, 130, 131, 132, 137, 227, 228, 229, 230, 235] (by decide +kernel) (by decide +kernel)
set_option maxHeartbeats 4000000 in
set_option maxRecDepth 20000 in
theorem gdL_14 : GoodIn wsL_law wsX6_digest_r14 := goodIn_r _ [236, 237, 238, 921, 840, 841, 842, 473, 474, 475, 476, 477, 478, 422, 423, 424, 425, 426, 427, 441, 442, 443, 444, 445] (by decide +kernel) (by decide +kernel)
set_option maxHeartbeats 4000000 in
set_option maxRecDepth 20000 in
theorem gdL_15 : GoodIn wsL_law wsX6_digest_r15 := goodIn_r _ [186, 187, 188, 189, 922, 852, 853, 854, 855, 856, 857, 858, 80, 859, 860, 861, 862, 923, 888, 889, 890, 924, 925, 926] (by decide +kernel) (by decide +kernel)
set_option maxHeartbeats 4000000 in
set_option maxRecDepth 20000 in
theorem gdL_16 : GoodIn wsL_law wsX6_digest_r16 := goodIn_r _ [927, 928, 929, 930, 931, 932, 933, 26, 934, 529, 530, 25, 531, 498, 56] (by decide +kernel) (by decide +kernel)
set_option maxHeartbeats 4000000 in
set_option maxRecDepth 20000 in
theorem gdL_wsX60 : GoodIn wsL_law wsX60 := goodIn_r _ [953, 954, 955, 956, 957, 958, 959, 960] (by decide +kernel) (by decide +kernel)
set_option maxHeartbeats 4000000 in
set_option maxRecDepth 20000 in
theorem gdL_wsX10 : GoodIn wsL_law wsX10 := goodIn_r _ [974, 975, 976, 977, 978, 979] (by decide +kernel) (by decide +kernel)
set_option maxHeartbeats 4000000 in
set_option maxRecDepth 20000 in
theorem gdL_wsX30 : GoodIn wsL_law wsX30 := goodIn_r _ [980, 981, 982] (by decide +kernel) (by decide +kernel)
set_option maxHeartbeats 4000000 in
set_option maxRecDepth 20000 in
theorem gdL_wsX00 : GoodIn wsL_law wsX00 := goodIn_r _ [985, 986, 987, 988] (by decide +kernel) (by decide +kernel)
set_option maxHeartbeats 4000000 in
set_option maxRecDepth 20000 in
theorem gdL_wsX50 : GoodIn wsL_law wsX50 := goodIn_r _ [994, 995, 996, 997, 998, 999, 1000, 1001] (by decide +kernel) (by decide +kernel)
set_option maxHeartbeats 4000000 in
set_option maxRecDepth 20000 in
theorem gdL_wsX20 : GoodIn wsL_law wsX20 := goodIn_r _ [989, 990, 991, 992, 993] (by decide +kernel) (by decide +kernel)
set_option maxHeartbeats 4000000 in
set_option maxRecDepth 20000 in
theorem gdL_wsX40 : GoodIn wsL_law wsX40 := goodIn_r _ [983, 984] (by decide +kernel) (by decide +kernel)
set_option maxRecDepth 20000 in
theorem ggL_law_X6_digest : GoodIn wsL_law wsX6_digest := goodIn_ca (goodIn_ca (goodIn_app gdL_0 (goodIn_app (goodIn_app (goodIn_app (goodIn_app (goodIn_app (goodIn_app (goodIn_app (goodIn_app gdL_1 (goodIn_app gdL_2 (goodIn_app gdL_3 (goodIn_app gdL_4 (goodIn_app gdL_5 (goodIn_app gdL_6 (goodIn_app gdL_7 (goodIn_app gdL_8 (goodIn_app gdL_9 (goodIn_app gdL_10 (goodIn_app gdL_11 (goodIn_app gdL_12 (goodIn_app gdL_13 (goodIn_app gdL_14 (goodIn_app gdL_15 (gdL_16)))))))))))))))) gdL_wsX60) gdL_wsX10) gdL_wsX30) gdL_wsX00) gdL_wsX50) gdL_wsX20) gdL_wsX40)) (goodIn_sub (fun _ h => List.mem_append_left _ (List.mem_append_left _ (List.mem_append_right _ h))) (by decide +kernel))) (goodIn_sub (fun _ h => List.mem_append_right _ h) (by decide +kernel))
set_option maxRecDepth 20000 in
theorem gL_law_X6_digest : GoodIn wsL_law (wsV RL 163 RX6 yX6_digest wsX6_digest) := goodIn_app (goodIn_of _ (by decide +kernel)) ggL_law_X6_digest
