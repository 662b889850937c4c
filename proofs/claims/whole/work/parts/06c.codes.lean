set_option maxRecDepth 100000 in
theorem am_wc_0 : am_wc 0 ∈ lw_tbl := List.mem_of_getElem? (i := 120) rfl
set_option maxRecDepth 100000 in
theorem am_wc_1 : am_wc 1 ∈ lw_tbl := List.mem_of_getElem? (i := 718) rfl
set_option maxRecDepth 100000 in
theorem am_wc_2 : am_wc 2 ∈ lw_tbl := List.mem_of_getElem? (i := 451) rfl
set_option maxRecDepth 100000 in
theorem am_wc_3 : am_wc 3 ∈ lw_tbl := List.mem_of_getElem? (i := 463) rfl
set_option maxRecDepth 100000 in
theorem am_wc_4 : am_wc 4 ∈ lw_tbl := List.mem_of_getElem? (i := 495) rfl
set_option maxRecDepth 100000 in
theorem am_wc_5 : am_wc 5 ∈ lw_tbl := List.mem_of_getElem? (i := 475) rfl
set_option maxRecDepth 100000 in
theorem am_wc_6 : am_wc 6 ∈ lw_tbl := List.mem_of_getElem? (i := 526) rfl
set_option maxRecDepth 100000 in
theorem am_wc_7 : am_wc 7 ∈ lw_tbl := List.mem_of_getElem? (i := 522) rfl
set_option maxRecDepth 100000 in
theorem am_wc_8 : am_wc 8 ∈ lw_tbl := List.mem_of_getElem? (i := 535) rfl
set_option maxRecDepth 100000 in
theorem am_wc_9 : am_wc 9 ∈ lw_tbl := List.mem_of_getElem? (i := 640) rfl
set_option maxRecDepth 100000 in
theorem am_wc_10 : am_wc 10 ∈ lw_tbl := List.mem_of_getElem? (i := 531) rfl
set_option maxRecDepth 100000 in
theorem am_wc_11 : am_wc 11 ∈ lw_tbl := List.mem_of_getElem? (i := 210) rfl
set_option maxRecDepth 100000 in
theorem am_wc_12 : am_wc 12 ∈ lw_tbl := List.mem_of_getElem? (i := 722) rfl
set_option maxRecDepth 100000 in
theorem am_wc_13 : am_wc 13 ∈ lw_tbl := List.mem_of_getElem? (i := 499) rfl
set_option maxRecDepth 100000 in
theorem am_wc_14 : am_wc 14 ∈ lw_tbl := List.mem_of_getElem? (i := 594) rfl
set_option maxRecDepth 100000 in
theorem am_wc_15 : am_wc 15 ∈ lw_tbl := List.mem_of_getElem? (i := 968) rfl
set_option maxRecDepth 100000 in
theorem am_wc_16 : am_wc 16 ∈ lw_tbl := List.mem_of_getElem? (i := 600) rfl
set_option maxRecDepth 100000 in
theorem am_wc_17 : am_wc 17 ∈ lw_tbl := List.mem_of_getElem? (i := 597) rfl
set_option maxRecDepth 100000 in
theorem am_wc_18 : am_wc 18 ∈ lw_tbl := List.mem_of_getElem? (i := 971) rfl
set_option maxRecDepth 100000 in
theorem am_wc_19 : am_wc 19 ∈ lw_tbl := List.mem_of_getElem? (i := 603) rfl
set_option maxRecDepth 100000 in
theorem am_wc_20 : am_wc 20 ∈ lw_tbl := List.mem_of_getElem? (i := 314) rfl
set_option maxRecDepth 100000 in
theorem am_wc_21 : am_wc 21 ∈ lw_tbl := List.mem_of_getElem? (i := 707) rfl
set_option maxRecDepth 100000 in
theorem am_wc_22 : am_wc 22 ∈ lw_tbl := List.mem_of_getElem? (i := 734) rfl
set_option maxRecDepth 100000 in
theorem am_wc_23 : am_wc 23 ∈ lw_tbl := List.mem_of_getElem? (i := 815) rfl
set_option maxRecDepth 100000 in
theorem am_wc_24 : am_wc 24 ∈ lw_tbl := List.mem_of_getElem? (i := 730) rfl
set_option maxRecDepth 100000 in
theorem am_wc_25 : am_wc 25 ∈ lw_tbl := List.mem_of_getElem? (i := 957) rfl
set_option maxRecDepth 100000 in
theorem am_wc_26 : am_wc 26 ∈ lw_tbl := List.mem_of_getElem? (i := 810) rfl
set_option maxRecDepth 100000 in
theorem am_wc_27 : am_wc 27 ∈ lw_tbl := List.mem_of_getElem? (i := 806) rfl
set_option maxRecDepth 100000 in
theorem am_wc_28 : am_wc 28 ∈ lw_tbl := List.mem_of_getElem? (i := 837) rfl
set_option maxRecDepth 100000 in
theorem am_wc_29 : am_wc 29 ∈ lw_tbl := List.mem_of_getElem? (i := 833) rfl
set_option maxRecDepth 100000 in
theorem am_wc_30 : am_wc 30 ∈ lw_tbl := List.mem_of_getElem? (i := 913) rfl
set_option maxRecDepth 100000 in
theorem am_wc_31 : am_wc 31 ∈ lw_tbl := List.mem_of_getElem? (i := 401) rfl
set_option maxRecDepth 100000 in
theorem am_wc_32 : am_wc 32 ∈ lw_tbl := List.mem_of_getElem? (i := 899) rfl
set_option maxRecDepth 100000 in
theorem am_wc_33 : am_wc 33 ∈ lw_tbl := List.mem_of_getElem? (i := 908) rfl
set_option maxRecDepth 100000 in
theorem am_wc_34 : am_wc 34 ∈ lw_tbl := List.mem_of_getElem? (i := 918) rfl
set_option maxRecDepth 100000 in
theorem am_wc_35 : am_wc 35 ∈ lw_tbl := List.mem_of_getElem? (i := 923) rfl
set_option maxRecDepth 100000 in
theorem am_wc_36 : am_wc 36 ∈ lw_tbl := List.mem_of_getElem? (i := 927) rfl
set_option maxRecDepth 100000 in
theorem am_wc_37 : am_wc 37 ∈ lw_tbl := List.mem_of_getElem? (i := 931) rfl
set_option maxRecDepth 100000 in
theorem am_wc_38 : am_wc 38 ∈ lw_tbl := List.mem_of_getElem? (i := 937) rfl
set_option maxRecDepth 100000 in
theorem am_wc_39 : am_wc 39 ∈ lw_tbl := List.mem_of_getElem? (i := 943) rfl
set_option maxRecDepth 100000 in
theorem am_wc_40 : am_wc 40 ∈ lw_tbl := List.mem_of_getElem? (i := 947) rfl
set_option maxRecDepth 100000 in
theorem am_wc_41 : am_wc 41 ∈ lw_tbl := List.mem_of_getElem? (i := 951) rfl
set_option maxRecDepth 100000 in
theorem am_wc_42 : am_wc 42 ∈ lw_tbl := List.mem_of_getElem? (i := 129) rfl
set_option maxRecDepth 100000 in
theorem am_wc_43 : am_wc 43 ∈ lw_tbl := List.mem_of_getElem? (i := 455) rfl
set_option maxRecDepth 100000 in
theorem am_wc_44 : am_wc 44 ∈ lw_tbl := List.mem_of_getElem? (i := 467) rfl
set_option maxRecDepth 100000 in
theorem am_wc_45 : am_wc 45 ∈ lw_tbl := List.mem_of_getElem? (i := 510) rfl
set_option maxRecDepth 100000 in
theorem am_wc_46 : am_wc 46 ∈ lw_tbl := List.mem_of_getElem? (i := 514) rfl
set_option maxRecDepth 100000 in
theorem am_wc_47 : am_wc 47 ∈ lw_tbl := List.mem_of_getElem? (i := 479) rfl
set_option maxRecDepth 100000 in
theorem am_wc_48 : am_wc 48 ∈ lw_tbl := List.mem_of_getElem? (i := 979) rfl
set_option maxRecDepth 100000 in
theorem am_wc_49 : am_wc 49 ∈ lw_tbl := List.mem_of_getElem? (i := 483) rfl
set_option maxRecDepth 100000 in
theorem am_wc_50 : am_wc 50 ∈ lw_tbl := List.mem_of_getElem? (i := 343) rfl
set_option maxRecDepth 100000 in
theorem am_wc_51 : am_wc 51 ∈ lw_tbl := List.mem_of_getElem? (i := 714) rfl
set_option maxRecDepth 100000 in
theorem am_wc_52 : am_wc 52 ∈ lw_tbl := List.mem_of_getElem? (i := 828) rfl
set_option maxRecDepth 100000 in
theorem am_wc_53 : am_wc 53 ∈ lw_tbl := List.mem_of_getElem? (i := 844) rfl
set_option maxRecDepth 100000 in
theorem am_wc_54 : am_wc 54 ∈ lw_tbl := List.mem_of_getElem? (i := 869) rfl
set_option maxRecDepth 100000 in
theorem am_wc_55 : am_wc 55 ∈ lw_tbl := List.mem_of_getElem? (i := 849) rfl
set_option maxRecDepth 100000 in
theorem am_wc_56 : am_wc 56 ∈ lw_tbl := List.mem_of_getElem? (i := 855) rfl
set_option maxRecDepth 100000 in
theorem am_wc_57 : am_wc 57 ∈ lw_tbl := List.mem_of_getElem? (i := 861) rfl
set_option maxRecDepth 100000 in
theorem am_wc_58 : am_wc 58 ∈ lw_tbl := List.mem_of_getElem? (i := 865) rfl
set_option maxRecDepth 100000 in
theorem am_wc_59 : am_wc 59 ∈ lw_tbl := List.mem_of_getElem? (i := 873) rfl
set_option maxRecDepth 100000 in
theorem am_wc_60 : am_wc 60 ∈ lw_tbl := List.mem_of_getElem? (i := 878) rfl
set_option maxRecDepth 100000 in
theorem am_wc_61 : am_wc 61 ∈ lw_tbl := List.mem_of_getElem? (i := 882) rfl
set_option maxRecDepth 100000 in
theorem am_wc_62 : am_wc 62 ∈ lw_tbl := List.mem_of_getElem? (i := 886) rfl
set_option maxRecDepth 100000 in
theorem am_wc_63 : am_wc 63 ∈ lw_tbl := List.mem_of_getElem? (i := 890) rfl
set_option maxRecDepth 100000 in
theorem am_wc_64 : am_wc 64 ∈ lw_tbl := List.mem_of_getElem? (i := 894) rfl
set_option maxRecDepth 100000 in
theorem am_wc_65 : am_wc 65 ∈ lw_tbl := List.mem_of_getElem? (i := 260) rfl
set_option maxRecDepth 100000 in
theorem am_wc_66 : am_wc 66 ∈ lw_tbl := List.mem_of_getElem? (i := 543) rfl
set_option maxRecDepth 100000 in
theorem am_wc_67 : am_wc 67 ∈ lw_tbl := List.mem_of_getElem? (i := 573) rfl
set_option maxRecDepth 100000 in
theorem am_wc_68 : am_wc 68 ∈ lw_tbl := List.mem_of_getElem? (i := 549) rfl
set_option maxRecDepth 100000 in
theorem am_wc_69 : am_wc 69 ∈ lw_tbl := List.mem_of_getElem? (i := 589) rfl
set_option maxRecDepth 100000 in
theorem am_wc_70 : am_wc 70 ∈ lw_tbl := List.mem_of_getElem? (i := 649) rfl
set_option maxRecDepth 100000 in
theorem am_wc_71 : am_wc 71 ∈ lw_tbl := List.mem_of_getElem? (i := 611) rfl
set_option maxRecDepth 100000 in
theorem am_wc_72 : am_wc 72 ∈ lw_tbl := List.mem_of_getElem? (i := 672) rfl
set_option maxRecDepth 100000 in
theorem am_wc_73 : am_wc 73 ∈ lw_tbl := List.mem_of_getElem? (i := 569) rfl
set_option maxRecDepth 100000 in
theorem am_wc_74 : am_wc 74 ∈ lw_tbl := List.mem_of_getElem? (i := 693) rfl
set_option maxRecDepth 100000 in
theorem am_wc_75 : am_wc 75 ∈ lw_tbl := List.mem_of_getElem? (i := 822) rfl
set_option maxRecDepth 100000 in
theorem am_wc_76 : am_wc 76 ∈ lw_tbl := List.mem_of_getElem? (i := 557) rfl
set_option maxRecDepth 100000 in
theorem am_wc_77 : am_wc 77 ∈ lw_tbl := List.mem_of_getElem? (i := 689) rfl
set_option maxRecDepth 100000 in
theorem am_wc_78 : am_wc 78 ∈ lw_tbl := List.mem_of_getElem? (i := 553) rfl
set_option maxRecDepth 100000 in
theorem am_wc_79 : am_wc 79 ∈ lw_tbl := List.mem_of_getElem? (i := 685) rfl
set_option maxRecDepth 100000 in
theorem am_wc_80 : am_wc 80 ∈ lw_tbl := List.mem_of_getElem? (i := 412) rfl
set_option maxRecDepth 100000 in
theorem am_wc_81 : am_wc 81 ∈ lw_tbl := List.mem_of_getElem? (i := 703) rfl
set_option maxRecDepth 100000 in
theorem am_wc_82 : am_wc 82 ∈ lw_tbl := List.mem_of_getElem? (i := 726) rfl
set_option maxRecDepth 100000 in
theorem am_wc_83 : am_wc 83 ∈ lw_tbl := List.mem_of_getElem? (i := 961) rfl
set_option maxRecDepth 100000 in
theorem am_wc_84 : am_wc 84 ∈ lw_tbl := List.mem_of_getElem? (i := 975) rfl
set_option maxRecDepth 100000 in
theorem am_wc_85 : am_wc 85 ∈ lw_tbl := List.mem_of_getElem? (i := 284) rfl
set_option maxRecDepth 100000 in
theorem am_wc_86 : am_wc 86 ∈ lw_tbl := List.mem_of_getElem? (i := 539) rfl
set_option maxRecDepth 100000 in
theorem am_wc_87 : am_wc 87 ∈ lw_tbl := List.mem_of_getElem? (i := 577) rfl
set_option maxRecDepth 100000 in
theorem am_wc_88 : am_wc 88 ∈ lw_tbl := List.mem_of_getElem? (i := 581) rfl
set_option maxRecDepth 100000 in
theorem am_wc_89 : am_wc 89 ∈ lw_tbl := List.mem_of_getElem? (i := 585) rfl
set_option maxRecDepth 100000 in
theorem am_wc_90 : am_wc 90 ∈ lw_tbl := List.mem_of_getElem? (i := 607) rfl
set_option maxRecDepth 100000 in
theorem am_wc_91 : am_wc 91 ∈ lw_tbl := List.mem_of_getElem? (i := 617) rfl
set_option maxRecDepth 100000 in
theorem am_wc_92 : am_wc 92 ∈ lw_tbl := List.mem_of_getElem? (i := 621) rfl
set_option maxRecDepth 100000 in
theorem am_wc_93 : am_wc 93 ∈ lw_tbl := List.mem_of_getElem? (i := 626) rfl
set_option maxRecDepth 100000 in
theorem am_wc_94 : am_wc 94 ∈ lw_tbl := List.mem_of_getElem? (i := 632) rfl
set_option maxRecDepth 100000 in
theorem am_wc_95 : am_wc 95 ∈ lw_tbl := List.mem_of_getElem? (i := 636) rfl
set_option maxRecDepth 100000 in
theorem am_wc_96 : am_wc 96 ∈ lw_tbl := List.mem_of_getElem? (i := 644) rfl
set_option maxRecDepth 100000 in
theorem am_wc_97 : am_wc 97 ∈ lw_tbl := List.mem_of_getElem? (i := 653) rfl
set_option maxRecDepth 100000 in
theorem am_wc_98 : am_wc 98 ∈ lw_tbl := List.mem_of_getElem? (i := 657) rfl
set_option maxRecDepth 100000 in
theorem am_wc_99 : am_wc 99 ∈ lw_tbl := List.mem_of_getElem? (i := 661) rfl
set_option maxRecDepth 100000 in
theorem am_wc_100 : am_wc 100 ∈ lw_tbl := List.mem_of_getElem? (i := 665) rfl
set_option maxRecDepth 100000 in
theorem am_wc_101 : am_wc 101 ∈ lw_tbl := List.mem_of_getElem? (i := 676) rfl
set_option maxRecDepth 100000 in
theorem am_wc_102 : am_wc 102 ∈ lw_tbl := List.mem_of_getElem? (i := 680) rfl
set_option maxRecDepth 100000 in
theorem am_wc_103 : am_wc 103 ∈ lw_tbl := List.mem_of_getElem? (i := 112) rfl
set_option maxRecDepth 100000 in
theorem am_wc_104 : am_wc 104 ∈ lw_tbl := List.mem_of_getElem? (i := 447) rfl
set_option maxRecDepth 100000 in
theorem am_wc_105 : am_wc 105 ∈ lw_tbl := List.mem_of_getElem? (i := 459) rfl
set_option maxRecDepth 100000 in
theorem am_wc_106 : am_wc 106 ∈ lw_tbl := List.mem_of_getElem? (i := 471) rfl
set_option maxRecDepth 100000 in
theorem am_wc_107 : am_wc 107 ∈ lw_tbl := List.mem_of_getElem? (i := 487) rfl
set_option maxRecDepth 100000 in
theorem am_wc_108 : am_wc 108 ∈ lw_tbl := List.mem_of_getElem? (i := 491) rfl
set_option maxRecDepth 100000 in
theorem am_wc_109 : am_wc 109 ∈ lw_tbl := List.mem_of_getElem? (i := 503) rfl
set_option maxRecDepth 100000 in
theorem am_wc_110 : am_wc 110 ∈ lw_tbl := List.mem_of_getElem? (i := 506) rfl
set_option maxRecDepth 100000 in
theorem am_wc_111 : am_wc 111 ∈ lw_tbl := List.mem_of_getElem? (i := 518) rfl
set_option maxRecDepth 100000 in
theorem am_wc_112 : am_wc 112 ∈ lw_tbl := List.mem_of_getElem? (i := 698) rfl
set_option maxRecDepth 100000 in
theorem am_wc_113 : am_wc 113 ∈ lw_tbl := List.mem_of_getElem? (i := 984) rfl
set_option maxRecDepth 100000 in
theorem am_wc_114 : am_wc 114 ∈ lw_tbl := List.mem_of_getElem? (i := 988) rfl
set_option maxRecDepth 100000 in
theorem am_wc_115 : am_wc 115 ∈ lw_tbl := List.mem_of_getElem? (i := 991) rfl
set_option maxRecDepth 100000 in
theorem am_wc_116 : am_wc 116 ∈ lw_tbl := List.mem_of_getElem? (i := 996) rfl
set_option maxRecDepth 100000 in
theorem am_wc_117 : am_wc 117 ∈ lw_tbl := List.mem_of_getElem? (i := 1002) rfl
set_option maxRecDepth 100000 in
theorem am_wc_118 : am_wc 118 ∈ lw_tbl := List.mem_of_getElem? (i := 1006) rfl
set_option maxRecDepth 100000 in
theorem am_wc_119 : am_wc 119 ∈ lw_tbl := List.mem_of_getElem? (i := 1063) rfl
set_option maxRecDepth 100000 in
theorem am_wc_120 : am_wc 120 ∈ lw_tbl := List.mem_of_getElem? (i := 1075) rfl
set_option maxRecDepth 100000 in
theorem am_wc_121 : am_wc 121 ∈ lw_tbl := List.mem_of_getElem? (i := 1010) rfl
set_option maxRecDepth 100000 in
theorem am_wc_122 : am_wc 122 ∈ lw_tbl := List.mem_of_getElem? (i := 1016) rfl
set_option maxRecDepth 100000 in
theorem am_wc_123 : am_wc 123 ∈ lw_tbl := List.mem_of_getElem? (i := 1020) rfl
set_option maxRecDepth 100000 in
theorem am_wc_124 : am_wc 124 ∈ lw_tbl := List.mem_of_getElem? (i := 1027) rfl
set_option maxRecDepth 100000 in
theorem am_wc_125 : am_wc 125 ∈ lw_tbl := List.mem_of_getElem? (i := 1031) rfl
set_option maxRecDepth 100000 in
theorem am_wc_126 : am_wc 126 ∈ lw_tbl := List.mem_of_getElem? (i := 560) rfl
set_option maxRecDepth 100000 in
theorem am_wc_127 : am_wc 127 ∈ lw_tbl := List.mem_of_getElem? (i := 668) rfl
set_option maxRecDepth 100000 in
theorem am_wc_128 : am_wc 128 ∈ lw_tbl := List.mem_of_getElem? (i := 1096) rfl
set_option maxRecDepth 100000 in
theorem am_wc_129 : am_wc 129 ∈ lw_tbl := List.mem_of_getElem? (i := 1293) rfl
set_option maxRecDepth 100000 in
theorem am_wc_130 : am_wc 130 ∈ lw_tbl := List.mem_of_getElem? (i := 1300) rfl
set_option maxRecDepth 100000 in
theorem am_wc_131 : am_wc 131 ∈ lw_tbl := List.mem_of_getElem? (i := 1349) rfl
set_option maxRecDepth 100000 in
theorem am_wc_132 : am_wc 132 ∈ lw_tbl := List.mem_of_getElem? (i := 1442) rfl
set_option maxRecDepth 100000 in
theorem am_wc_133 : am_wc 133 ∈ lw_tbl := List.mem_of_getElem? (i := 1438) rfl
set_option maxRecDepth 100000 in
theorem am_wc_134 : am_wc 134 ∈ lw_tbl := List.mem_of_getElem? (i := 1312) rfl
set_option maxRecDepth 100000 in
theorem am_wc_135 : am_wc 135 ∈ lw_tbl := List.mem_of_getElem? (i := 1297) rfl
set_option maxRecDepth 100000 in
theorem am_wc_136 : am_wc 136 ∈ lw_tbl := List.mem_of_getElem? (i := 1304) rfl
set_option maxRecDepth 100000 in
theorem am_wc_137 : am_wc 137 ∈ lw_tbl := List.mem_of_getElem? (i := 1308) rfl
set_option maxRecDepth 100000 in
theorem am_wc_138 : am_wc 138 ∈ lw_tbl := List.mem_of_getElem? (i := 1316) rfl
set_option maxRecDepth 100000 in
theorem am_wc_139 : am_wc 139 ∈ lw_tbl := List.mem_of_getElem? (i := 1321) rfl
set_option maxRecDepth 100000 in
theorem am_wc_140 : am_wc 140 ∈ lw_tbl := List.mem_of_getElem? (i := 1326) rfl
set_option maxRecDepth 100000 in
theorem am_wc_141 : am_wc 141 ∈ lw_tbl := List.mem_of_getElem? (i := 1332) rfl
set_option maxRecDepth 100000 in
theorem am_wc_142 : am_wc 142 ∈ lw_tbl := List.mem_of_getElem? (i := 1337) rfl
set_option maxRecDepth 100000 in
theorem am_wc_143 : am_wc 143 ∈ lw_tbl := List.mem_of_getElem? (i := 1341) rfl
set_option maxRecDepth 100000 in
theorem am_wc_144 : am_wc 144 ∈ lw_tbl := List.mem_of_getElem? (i := 1345) rfl
set_option maxRecDepth 100000 in
theorem am_wc_145 : am_wc 145 ∈ lw_tbl := List.mem_of_getElem? (i := 1355) rfl
set_option maxRecDepth 100000 in
theorem am_wc_146 : am_wc 146 ∈ lw_tbl := List.mem_of_getElem? (i := 1359) rfl
set_option maxRecDepth 100000 in
theorem am_wc_147 : am_wc 147 ∈ lw_tbl := List.mem_of_getElem? (i := 1363) rfl
set_option maxRecDepth 100000 in
theorem am_wc_148 : am_wc 148 ∈ lw_tbl := List.mem_of_getElem? (i := 1371) rfl
set_option maxRecDepth 100000 in
theorem am_wc_149 : am_wc 149 ∈ lw_tbl := List.mem_of_getElem? (i := 1367) rfl
set_option maxRecDepth 100000 in
theorem am_wc_150 : am_wc 150 ∈ lw_tbl := List.mem_of_getElem? (i := 1375) rfl
set_option maxRecDepth 100000 in
theorem am_wc_151 : am_wc 151 ∈ lw_tbl := List.mem_of_getElem? (i := 1380) rfl
set_option maxRecDepth 100000 in
theorem am_wc_152 : am_wc 152 ∈ lw_tbl := List.mem_of_getElem? (i := 1384) rfl
set_option maxRecDepth 100000 in
theorem am_wc_153 : am_wc 153 ∈ lw_tbl := List.mem_of_getElem? (i := 1396) rfl
set_option maxRecDepth 100000 in
theorem am_wc_154 : am_wc 154 ∈ lw_tbl := List.mem_of_getElem? (i := 1402) rfl
set_option maxRecDepth 100000 in
theorem am_wc_155 : am_wc 155 ∈ lw_tbl := List.mem_of_getElem? (i := 1392) rfl
set_option maxRecDepth 100000 in
theorem am_wc_156 : am_wc 156 ∈ lw_tbl := List.mem_of_getElem? (i := 1388) rfl
set_option maxRecDepth 100000 in
theorem am_wc_157 : am_wc 157 ∈ lw_tbl := List.mem_of_getElem? (i := 1406) rfl
set_option maxRecDepth 100000 in
theorem am_wc_158 : am_wc 158 ∈ lw_tbl := List.mem_of_getElem? (i := 1410) rfl
set_option maxRecDepth 100000 in
theorem am_wc_159 : am_wc 159 ∈ lw_tbl := List.mem_of_getElem? (i := 1430) rfl
set_option maxRecDepth 100000 in
theorem am_wc_160 : am_wc 160 ∈ lw_tbl := List.mem_of_getElem? (i := 1450) rfl
set_option maxRecDepth 100000 in
theorem am_wc_161 : am_wc 161 ∈ lw_tbl := List.mem_of_getElem? (i := 1462) rfl
set_option maxRecDepth 100000 in
theorem am_wc_162 : am_wc 162 ∈ lw_tbl := List.mem_of_getElem? (i := 1474) rfl
set_option maxRecDepth 100000 in
theorem am_wc_163 : am_wc 163 ∈ lw_tbl := List.mem_of_getElem? (i := 1478) rfl
set_option maxRecDepth 100000 in
theorem am_wc_164 : am_wc 164 ∈ lw_tbl := List.mem_of_getElem? (i := 1422) rfl
set_option maxRecDepth 100000 in
theorem am_wc_165 : am_wc 165 ∈ lw_tbl := List.mem_of_getElem? (i := 1418) rfl
set_option maxRecDepth 100000 in
theorem am_wc_166 : am_wc 166 ∈ lw_tbl := List.mem_of_getElem? (i := 1426) rfl
set_option maxRecDepth 100000 in
theorem am_wc_167 : am_wc 167 ∈ lw_tbl := List.mem_of_getElem? (i := 1434) rfl
set_option maxRecDepth 100000 in
theorem am_wc_168 : am_wc 168 ∈ lw_tbl := List.mem_of_getElem? (i := 1458) rfl
set_option maxRecDepth 100000 in
theorem am_wc_169 : am_wc 169 ∈ lw_tbl := List.mem_of_getElem? (i := 1454) rfl
set_option maxRecDepth 100000 in
theorem am_wc_170 : am_wc 170 ∈ lw_tbl := List.mem_of_getElem? (i := 1446) rfl
set_option maxRecDepth 100000 in
theorem am_wc_171 : am_wc 171 ∈ lw_tbl := List.mem_of_getElem? (i := 1482) rfl
set_option maxRecDepth 100000 in
theorem am_wc_172 : am_wc 172 ∈ lw_tbl := List.mem_of_getElem? (i := 1470) rfl
set_option maxRecDepth 100000 in
theorem am_wc_173 : am_wc 173 ∈ lw_tbl := List.mem_of_getElem? (i := 1466) rfl
set_option maxRecDepth 100000 in
theorem am_wc_174 : am_wc 174 ∈ lw_tbl := List.mem_of_getElem? (i := 1414) rfl
set_option maxRecDepth 100000 in
theorem am_wc_175 : am_wc 175 ∈ lw_tbl := List.mem_of_getElem? (i := 1485) rfl
set_option maxRecDepth 100000 in
theorem am_wc_176 : am_wc 176 ∈ lw_tbl := List.mem_of_getElem? (i := 1502) rfl
set_option maxRecDepth 100000 in
theorem am_wc_177 : am_wc 177 ∈ lw_tbl := List.mem_of_getElem? (i := 1498) rfl
set_option maxRecDepth 100000 in
theorem am_wc_178 : am_wc 178 ∈ lw_tbl := List.mem_of_getElem? (i := 1510) rfl
set_option maxRecDepth 100000 in
theorem am_wc_179 : am_wc 179 ∈ lw_tbl := List.mem_of_getElem? (i := 1526) rfl
set_option maxRecDepth 100000 in
theorem am_wc_180 : am_wc 180 ∈ lw_tbl := List.mem_of_getElem? (i := 1506) rfl
set_option maxRecDepth 100000 in
theorem am_wc_181 : am_wc 181 ∈ lw_tbl := List.mem_of_getElem? (i := 1522) rfl
set_option maxRecDepth 100000 in
theorem am_wc_182 : am_wc 182 ∈ lw_tbl := List.mem_of_getElem? (i := 1518) rfl
set_option maxRecDepth 100000 in
theorem am_wc_183 : am_wc 183 ∈ lw_tbl := List.mem_of_getElem? (i := 1552) rfl
set_option maxRecDepth 100000 in
theorem am_wc_184 : am_wc 184 ∈ lw_tbl := List.mem_of_getElem? (i := 1573) rfl
set_option maxRecDepth 100000 in
theorem am_wc_185 : am_wc 185 ∈ lw_tbl := List.mem_of_getElem? (i := 1532) rfl
set_option maxRecDepth 100000 in
theorem am_wc_186 : am_wc 186 ∈ lw_tbl := List.mem_of_getElem? (i := 1536) rfl
set_option maxRecDepth 100000 in
theorem am_wc_187 : am_wc 187 ∈ lw_tbl := List.mem_of_getElem? (i := 1540) rfl
set_option maxRecDepth 100000 in
theorem am_wc_188 : am_wc 188 ∈ lw_tbl := List.mem_of_getElem? (i := 1544) rfl
set_option maxRecDepth 100000 in
theorem am_wc_189 : am_wc 189 ∈ lw_tbl := List.mem_of_getElem? (i := 1514) rfl
set_option maxRecDepth 100000 in
theorem am_wc_190 : am_wc 190 ∈ lw_tbl := List.mem_of_getElem? (i := 1548) rfl
set_option maxRecDepth 100000 in
theorem am_wc_191 : am_wc 191 ∈ lw_tbl := List.mem_of_getElem? (i := 1565) rfl
set_option maxRecDepth 100000 in
theorem am_wc_192 : am_wc 192 ∈ lw_tbl := List.mem_of_getElem? (i := 1569) rfl
set_option maxRecDepth 100000 in
theorem am_wc_193 : am_wc 193 ∈ lw_tbl := List.mem_of_getElem? (i := 1577) rfl
set_option maxRecDepth 100000 in
theorem am_wc_194 : am_wc 194 ∈ lw_tbl := List.mem_of_getElem? (i := 1561) rfl
set_option maxRecDepth 100000 in
theorem am_wc_195 : am_wc 195 ∈ lw_tbl := List.mem_of_getElem? (i := 1581) rfl
set_option maxRecDepth 100000 in
theorem am_wc_196 : am_wc 196 ∈ lw_tbl := List.mem_of_getElem? (i := 1585) rfl
set_option maxRecDepth 100000 in
theorem am_wc_197 : am_wc 197 ∈ lw_tbl := List.mem_of_getElem? (i := 1589) rfl
set_option maxRecDepth 100000 in
theorem am_wc_198 : am_wc 198 ∈ lw_tbl := List.mem_of_getElem? (i := 1556) rfl
set_option maxRecDepth 100000 in
theorem am_wc_199 : am_wc 199 ∈ lw_tbl := List.mem_of_getElem? (i := 1494) rfl
set_option maxRecDepth 100000 in
theorem am_wc_200 : am_wc 200 ∈ lw_tbl := List.mem_of_getElem? (i := 1490) rfl
set_option maxRecDepth 100000 in
theorem am_wc_201 : am_wc 201 ∈ lw_tbl := List.mem_of_getElem? (i := 1598) rfl
set_option maxRecDepth 100000 in
theorem am_wc_202 : am_wc 202 ∈ lw_tbl := List.mem_of_getElem? (i := 1593) rfl
set_option maxRecDepth 100000 in
theorem am_wc_203 : am_wc 203 ∈ lw_tbl := List.mem_of_getElem? (i := 1035) rfl
set_option maxRecDepth 100000 in
theorem am_wc_204 : am_wc 204 ∈ lw_tbl := List.mem_of_getElem? (i := 1070) rfl
theorem am_wc_in : ∀ y : Nat, y < 205 → am_wc y ∈ lw_tbl
  | 0, _ => am_wc_0
  | 1, _ => am_wc_1
  | 2, _ => am_wc_2
  | 3, _ => am_wc_3
  | 4, _ => am_wc_4
  | 5, _ => am_wc_5
  | 6, _ => am_wc_6
  | 7, _ => am_wc_7
  | 8, _ => am_wc_8
  | 9, _ => am_wc_9
  | 10, _ => am_wc_10
  | 11, _ => am_wc_11
  | 12, _ => am_wc_12
  | 13, _ => am_wc_13
  | 14, _ => am_wc_14
  | 15, _ => am_wc_15
  | 16, _ => am_wc_16
  | 17, _ => am_wc_17
  | 18, _ => am_wc_18
  | 19, _ => am_wc_19
  | 20, _ => am_wc_20
  | 21, _ => am_wc_21
  | 22, _ => am_wc_22
  | 23, _ => am_wc_23
  | 24, _ => am_wc_24
  | 25, _ => am_wc_25
  | 26, _ => am_wc_26
  | 27, _ => am_wc_27
  | 28, _ => am_wc_28
  | 29, _ => am_wc_29
  | 30, _ => am_wc_30
  | 31, _ => am_wc_31
  | 32, _ => am_wc_32
  | 33, _ => am_wc_33
  | 34, _ => am_wc_34
  | 35, _ => am_wc_35
  | 36, _ => am_wc_36
  | 37, _ => am_wc_37
  | 38, _ => am_wc_38
  | 39, _ => am_wc_39
  | 40, _ => am_wc_40
  | 41, _ => am_wc_41
  | 42, _ => am_wc_42
  | 43, _ => am_wc_43
  | 44, _ => am_wc_44
  | 45, _ => am_wc_45
  | 46, _ => am_wc_46
  | 47, _ => am_wc_47
  | 48, _ => am_wc_48
  | 49, _ => am_wc_49
  | 50, _ => am_wc_50
  | 51, _ => am_wc_51
  | 52, _ => am_wc_52
  | 53, _ => am_wc_53
  | 54, _ => am_wc_54
  | 55, _ => am_wc_55
  | 56, _ => am_wc_56
  | 57, _ => am_wc_57
  | 58, _ => am_wc_58
  | 59, _ => am_wc_59
  | 60, _ => am_wc_60
  | 61, _ => am_wc_61
  | 62, _ => am_wc_62
  | 63, _ => am_wc_63
  | 64, _ => am_wc_64
  | 65, _ => am_wc_65
  | 66, _ => am_wc_66
  | 67, _ => am_wc_67
  | 68, _ => am_wc_68
  | 69, _ => am_wc_69
  | 70, _ => am_wc_70
  | 71, _ => am_wc_71
  | 72, _ => am_wc_72
  | 73, _ => am_wc_73
  | 74, _ => am_wc_74
  | 75, _ => am_wc_75
  | 76, _ => am_wc_76
  | 77, _ => am_wc_77
  | 78, _ => am_wc_78
  | 79, _ => am_wc_79
  | 80, _ => am_wc_80
  | 81, _ => am_wc_81
  | 82, _ => am_wc_82
  | 83, _ => am_wc_83
  | 84, _ => am_wc_84
  | 85, _ => am_wc_85
  | 86, _ => am_wc_86
  | 87, _ => am_wc_87
  | 88, _ => am_wc_88
  | 89, _ => am_wc_89
  | 90, _ => am_wc_90
  | 91, _ => am_wc_91
  | 92, _ => am_wc_92
  | 93, _ => am_wc_93
  | 94, _ => am_wc_94
  | 95, _ => am_wc_95
  | 96, _ => am_wc_96
  | 97, _ => am_wc_97
  | 98, _ => am_wc_98
  | 99, _ => am_wc_99
  | 100, _ => am_wc_100
  | 101, _ => am_wc_101
  | 102, _ => am_wc_102
  | 103, _ => am_wc_103
  | 104, _ => am_wc_104
  | 105, _ => am_wc_105
  | 106, _ => am_wc_106
  | 107, _ => am_wc_107
  | 108, _ => am_wc_108
  | 109, _ => am_wc_109
  | 110, _ => am_wc_110
  | 111, _ => am_wc_111
  | 112, _ => am_wc_112
  | 113, _ => am_wc_113
  | 114, _ => am_wc_114
  | 115, _ => am_wc_115
  | 116, _ => am_wc_116
  | 117, _ => am_wc_117
  | 118, _ => am_wc_118
  | 119, _ => am_wc_119
  | 120, _ => am_wc_120
  | 121, _ => am_wc_121
  | 122, _ => am_wc_122
  | 123, _ => am_wc_123
  | 124, _ => am_wc_124
  | 125, _ => am_wc_125
  | 126, _ => am_wc_126
  | 127, _ => am_wc_127
  | 128, _ => am_wc_128
  | 129, _ => am_wc_129
  | 130, _ => am_wc_130
  | 131, _ => am_wc_131
  | 132, _ => am_wc_132
  | 133, _ => am_wc_133
  | 134, _ => am_wc_134
  | 135, _ => am_wc_135
  | 136, _ => am_wc_136
  | 137, _ => am_wc_137
  | 138, _ => am_wc_138
  | 139, _ => am_wc_139
  | 140, _ => am_wc_140
  | 141, _ => am_wc_141
  | 142, _ => am_wc_142
  | 143, _ => am_wc_143
  | 144, _ => am_wc_144
  | 145, _ => am_wc_145
  | 146, _ => am_wc_146
  | 147, _ => am_wc_147
  | 148, _ => am_wc_148
  | 149, _ => am_wc_149
  | 150, _ => am_wc_150
  | 151, _ => am_wc_151
  | 152, _ => am_wc_152
  | 153, _ => am_wc_153
  | 154, _ => am_wc_154
  | 155, _ => am_wc_155
  | 156, _ => am_wc_156
  | 157, _ => am_wc_157
  | 158, _ => am_wc_158
  | 159, _ => am_wc_159
  | 160, _ => am_wc_160
  | 161, _ => am_wc_161
  | 162, _ => am_wc_162
  | 163, _ => am_wc_163
  | 164, _ => am_wc_164
  | 165, _ => am_wc_165
  | 166, _ => am_wc_166
  | 167, _ => am_wc_167
  | 168, _ => am_wc_168
  | 169, _ => am_wc_169
  | 170, _ => am_wc_170
  | 171, _ => am_wc_171
  | 172, _ => am_wc_172
  | 173, _ => am_wc_173
  | 174, _ => am_wc_174
  | 175, _ => am_wc_175
  | 176, _ => am_wc_176
  | 177, _ => am_wc_177
  | 178, _ => am_wc_178
  | 179, _ => am_wc_179
  | 180, _ => am_wc_180
  | 181, _ => am_wc_181
  | 182, _ => am_wc_182
  | 183, _ => am_wc_183
  | 184, _ => am_wc_184
  | 185, _ => am_wc_185
  | 186, _ => am_wc_186
  | 187, _ => am_wc_187
  | 188, _ => am_wc_188
  | 189, _ => am_wc_189
  | 190, _ => am_wc_190
  | 191, _ => am_wc_191
  | 192, _ => am_wc_192
  | 193, _ => am_wc_193
  | 194, _ => am_wc_194
  | 195, _ => am_wc_195
  | 196, _ => am_wc_196
  | 197, _ => am_wc_197
  | 198, _ => am_wc_198
  | 199, _ => am_wc_199
  | 200, _ => am_wc_200
  | 201, _ => am_wc_201
  | 202, _ => am_wc_202
  | 203, _ => am_wc_203
  | 204, _ => am_wc_204
  | n + 205, h => absurd h (by omega)
theorem am_wc_good (y : Nat) : goodWord (am_wc y) = true := by
  unfold am_wc
  split <;> rfl
theorem am_wc_G {y : Nat} (h : y < 205) : am_wc y ∈ am_wG := List.mem_filter.mpr ⟨am_wc_in y h, am_wc_good y⟩
