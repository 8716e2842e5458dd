theorem t_559 : (.codeWith y_Law_symbol c_Law_symbol 5 (some .int) [((0), (10), (13), (13)), ((0), (10), (17), (15))] : Cond) ∈ tb := List.mem_filter.mpr ⟨List.mem_of_getElem? (i := 559) (by decide +kernel), by decide +kernel⟩
theorem t_53 : (.initialized R_Law : Cond) ∈ tb := List.mem_filter.mpr ⟨List.mem_of_getElem? (i := 53) (by decide +kernel), by decide +kernel⟩
theorem t_557 : (.methodLink R_Law 76 y_Law_symbol : Cond) ∈ tb := List.mem_filter.mpr ⟨List.mem_of_getElem? (i := 557) (by decide +kernel), by decide +kernel⟩
theorem t_558 : (.static y_Law_symbol : Cond) ∈ tb := List.mem_filter.mpr ⟨List.mem_of_getElem? (i := 558) (by decide +kernel), by decide +kernel⟩
theorem t_910 : (.methodLink R_Law 79 y_Model_symbol : Cond) ∈ tb := List.mem_filter.mpr ⟨List.mem_of_getElem? (i := 910) (by decide +kernel), by decide +kernel⟩
theorem t_911 : (.instanceMethod y_Model_symbol : Cond) ∈ tb := List.mem_filter.mpr ⟨List.mem_of_getElem? (i := 911) (by decide +kernel), by decide +kernel⟩
theorem t_912 : (.selects R_Model y_Model_symbol y_Model_symbol : Cond) ∈ tb := List.mem_filter.mpr ⟨List.mem_of_getElem? (i := 912) (by decide +kernel), by decide +kernel⟩
theorem t_913 : (.code y_Model_symbol c_Model_symbol 5 (some .int) : Cond) ∈ tb := List.mem_filter.mpr ⟨List.mem_of_getElem? (i := 913) (by decide +kernel), by decide +kernel⟩
theorem t_906 : (.methodLink R_Law 80 y_Model_thrown : Cond) ∈ tb := List.mem_filter.mpr ⟨List.mem_of_getElem? (i := 906) (by decide +kernel), by decide +kernel⟩
theorem t_907 : (.instanceMethod y_Model_thrown : Cond) ∈ tb := List.mem_filter.mpr ⟨List.mem_of_getElem? (i := 907) (by decide +kernel), by decide +kernel⟩
theorem t_908 : (.selects R_Model y_Model_thrown y_Model_thrown : Cond) ∈ tb := List.mem_filter.mpr ⟨List.mem_of_getElem? (i := 908) (by decide +kernel), by decide +kernel⟩
theorem t_909 : (.code y_Model_thrown c_Model_thrown 1 (some .int) : Cond) ∈ tb := List.mem_filter.mpr ⟨List.mem_of_getElem? (i := 909) (by decide +kernel), by decide +kernel⟩
theorem t_654 : (.codeWith y_Law_put c_Law_put 7 (some .int) [((0), (21), (24), (21))] : Cond) ∈ tb := List.mem_filter.mpr ⟨List.mem_of_getElem? (i := 654) (by decide +kernel), by decide +kernel⟩
theorem t_652 : (.methodLink R_Law 83 y_Law_put : Cond) ∈ tb := List.mem_filter.mpr ⟨List.mem_of_getElem? (i := 652) (by decide +kernel), by decide +kernel⟩
theorem t_653 : (.static y_Law_put : Cond) ∈ tb := List.mem_filter.mpr ⟨List.mem_of_getElem? (i := 653) (by decide +kernel), by decide +kernel⟩
theorem t_918 : (.methodLink R_Law 86 y_Model_put : Cond) ∈ tb := List.mem_filter.mpr ⟨List.mem_of_getElem? (i := 918) (by decide +kernel), by decide +kernel⟩
theorem t_919 : (.instanceMethod y_Model_put : Cond) ∈ tb := List.mem_filter.mpr ⟨List.mem_of_getElem? (i := 919) (by decide +kernel), by decide +kernel⟩
theorem t_920 : (.selects R_Model y_Model_put y_Model_put : Cond) ∈ tb := List.mem_filter.mpr ⟨List.mem_of_getElem? (i := 920) (by decide +kernel), by decide +kernel⟩
theorem t_921 : (.code y_Model_put c_Model_put 6 (some .boolean) : Cond) ∈ tb := List.mem_filter.mpr ⟨List.mem_of_getElem? (i := 921) (by decide +kernel), by decide +kernel⟩
theorem t_692 : (.codeWith y_Law_row c_Law_row 6 (some .int) [((0), (12), (15), (21))] : Cond) ∈ tb := List.mem_filter.mpr ⟨List.mem_of_getElem? (i := 692) (by decide +kernel), by decide +kernel⟩
theorem t_690 : (.methodLink R_Law 87 y_Law_row : Cond) ∈ tb := List.mem_filter.mpr ⟨List.mem_of_getElem? (i := 690) (by decide +kernel), by decide +kernel⟩
theorem t_691 : (.static y_Law_row : Cond) ∈ tb := List.mem_filter.mpr ⟨List.mem_of_getElem? (i := 691) (by decide +kernel), by decide +kernel⟩
theorem t_934 : (.methodLink R_Law 90 y_Model_row : Cond) ∈ tb := List.mem_filter.mpr ⟨List.mem_of_getElem? (i := 934) (by decide +kernel), by decide +kernel⟩
theorem t_935 : (.instanceMethod y_Model_row : Cond) ∈ tb := List.mem_filter.mpr ⟨List.mem_of_getElem? (i := 935) (by decide +kernel), by decide +kernel⟩
theorem t_936 : (.selects R_Model y_Model_row y_Model_row : Cond) ∈ tb := List.mem_filter.mpr ⟨List.mem_of_getElem? (i := 936) (by decide +kernel), by decide +kernel⟩
theorem t_937 : (.code y_Model_row c_Model_row 4 (some .int) : Cond) ∈ tb := List.mem_filter.mpr ⟨List.mem_of_getElem? (i := 937) (by decide +kernel), by decide +kernel⟩
theorem t_700 : (.codeWith y_Law_at c_Law_at 6 (some .int) [((0), (19), (22), (21))] : Cond) ∈ tb := List.mem_filter.mpr ⟨List.mem_of_getElem? (i := 700) (by decide +kernel), by decide +kernel⟩
theorem t_698 : (.methodLink R_Law 91 y_Law_at : Cond) ∈ tb := List.mem_filter.mpr ⟨List.mem_of_getElem? (i := 698) (by decide +kernel), by decide +kernel⟩
theorem t_699 : (.static y_Law_at : Cond) ∈ tb := List.mem_filter.mpr ⟨List.mem_of_getElem? (i := 699) (by decide +kernel), by decide +kernel⟩
theorem t_941 : (.methodLink R_Law 93 y_Model_at : Cond) ∈ tb := List.mem_filter.mpr ⟨List.mem_of_getElem? (i := 941) (by decide +kernel), by decide +kernel⟩
theorem t_942 : (.instanceMethod y_Model_at : Cond) ∈ tb := List.mem_filter.mpr ⟨List.mem_of_getElem? (i := 942) (by decide +kernel), by decide +kernel⟩
theorem t_943 : (.selects R_Model y_Model_at y_Model_at : Cond) ∈ tb := List.mem_filter.mpr ⟨List.mem_of_getElem? (i := 943) (by decide +kernel), by decide +kernel⟩
theorem t_944 : (.code y_Model_at c_Model_at 4 (some .boolean) : Cond) ∈ tb := List.mem_filter.mpr ⟨List.mem_of_getElem? (i := 944) (by decide +kernel), by decide +kernel⟩
theorem t_707 : (.codeWith y_Law_refined c_Law_refined 7 (some .int) [((0), (14), (17), (21)), ((0), (14), (21), (13)), ((0), (14), (25), (35))] : Cond) ∈ tb := List.mem_filter.mpr ⟨List.mem_of_getElem? (i := 707) (by decide +kernel), by decide +kernel⟩
theorem t_705 : (.methodLink R_Law 94 y_Law_refined : Cond) ∈ tb := List.mem_filter.mpr ⟨List.mem_of_getElem? (i := 705) (by decide +kernel), by decide +kernel⟩
theorem t_706 : (.static y_Law_refined : Cond) ∈ tb := List.mem_filter.mpr ⟨List.mem_of_getElem? (i := 706) (by decide +kernel), by decide +kernel⟩
theorem t_945 : (.methodLink R_Law 97 y_Model_refined : Cond) ∈ tb := List.mem_filter.mpr ⟨List.mem_of_getElem? (i := 945) (by decide +kernel), by decide +kernel⟩
theorem t_946 : (.instanceMethod y_Model_refined : Cond) ∈ tb := List.mem_filter.mpr ⟨List.mem_of_getElem? (i := 946) (by decide +kernel), by decide +kernel⟩
theorem t_947 : (.selects R_Model y_Model_refined y_Model_refined : Cond) ∈ tb := List.mem_filter.mpr ⟨List.mem_of_getElem? (i := 947) (by decide +kernel), by decide +kernel⟩
theorem t_948 : (.code y_Model_refined c_Model_refined 8 (some .int) : Cond) ∈ tb := List.mem_filter.mpr ⟨List.mem_of_getElem? (i := 948) (by decide +kernel), by decide +kernel⟩
theorem t_734 : (.codeWith y_Law_export c_Law_export 5 (some .int) [((0), (17), (20), (21))] : Cond) ∈ tb := List.mem_filter.mpr ⟨List.mem_of_getElem? (i := 734) (by decide +kernel), by decide +kernel⟩
theorem t_732 : (.methodLink R_Law 98 y_Law_export : Cond) ∈ tb := List.mem_filter.mpr ⟨List.mem_of_getElem? (i := 732) (by decide +kernel), by decide +kernel⟩
theorem t_733 : (.static y_Law_export : Cond) ∈ tb := List.mem_filter.mpr ⟨List.mem_of_getElem? (i := 733) (by decide +kernel), by decide +kernel⟩
theorem t_956 : (.methodLink R_Law 101 y_Model_export : Cond) ∈ tb := List.mem_filter.mpr ⟨List.mem_of_getElem? (i := 956) (by decide +kernel), by decide +kernel⟩
theorem t_957 : (.instanceMethod y_Model_export : Cond) ∈ tb := List.mem_filter.mpr ⟨List.mem_of_getElem? (i := 957) (by decide +kernel), by decide +kernel⟩
theorem t_958 : (.selects R_Model y_Model_export y_Model_export : Cond) ∈ tb := List.mem_filter.mpr ⟨List.mem_of_getElem? (i := 958) (by decide +kernel), by decide +kernel⟩
theorem t_959 : (.code y_Model_export c_Model_export 4 (some .boolean) : Cond) ∈ tb := List.mem_filter.mpr ⟨List.mem_of_getElem? (i := 959) (by decide +kernel), by decide +kernel⟩
theorem t_280 : (.methodLink R_Law 102 y_SD_write : Cond) ∈ tb := List.mem_filter.mpr ⟨List.mem_of_getElem? (i := 280) (by decide +kernel), by decide +kernel⟩
theorem t_281 : (.instanceMethod y_SD_write : Cond) ∈ tb := List.mem_filter.mpr ⟨List.mem_of_getElem? (i := 281) (by decide +kernel), by decide +kernel⟩
theorem t_282 : (.selects R_SD y_SD_write y_SD_write : Cond) ∈ tb := List.mem_filter.mpr ⟨List.mem_of_getElem? (i := 282) (by decide +kernel), by decide +kernel⟩
theorem t_283 : (.code y_SD_write c_SD_write 1 (some .int) : Cond) ∈ tb := List.mem_filter.mpr ⟨List.mem_of_getElem? (i := 283) (by decide +kernel), by decide +kernel⟩
theorem t_960 : (.methodLink R_Law 105 y_Model_write : Cond) ∈ tb := List.mem_filter.mpr ⟨List.mem_of_getElem? (i := 960) (by decide +kernel), by decide +kernel⟩
theorem t_961 : (.instanceMethod y_Model_write : Cond) ∈ tb := List.mem_filter.mpr ⟨List.mem_of_getElem? (i := 961) (by decide +kernel), by decide +kernel⟩
theorem t_962 : (.selects R_Model y_Model_write y_Model_write : Cond) ∈ tb := List.mem_filter.mpr ⟨List.mem_of_getElem? (i := 962) (by decide +kernel), by decide +kernel⟩
theorem t_963 : (.code y_Model_write c_Model_write 5 (some .int) : Cond) ∈ tb := List.mem_filter.mpr ⟨List.mem_of_getElem? (i := 963) (by decide +kernel), by decide +kernel⟩
theorem t_741 : (.codeWith y_Law_byteAt c_Law_byteAt 4 (some .int) [((0), (9), (12), (21))] : Cond) ∈ tb := List.mem_filter.mpr ⟨List.mem_of_getElem? (i := 741) (by decide +kernel), by decide +kernel⟩
theorem t_739 : (.methodLink R_Law 106 y_Law_byteAt : Cond) ∈ tb := List.mem_filter.mpr ⟨List.mem_of_getElem? (i := 739) (by decide +kernel), by decide +kernel⟩
theorem t_740 : (.static y_Law_byteAt : Cond) ∈ tb := List.mem_filter.mpr ⟨List.mem_of_getElem? (i := 740) (by decide +kernel), by decide +kernel⟩
theorem t_1035 : (.methodLink R_Law 109 y_Model_byteAt : Cond) ∈ tb := List.mem_filter.mpr ⟨List.mem_of_getElem? (i := 1035) (by decide +kernel), by decide +kernel⟩
theorem t_1036 : (.instanceMethod y_Model_byteAt : Cond) ∈ tb := List.mem_filter.mpr ⟨List.mem_of_getElem? (i := 1036) (by decide +kernel), by decide +kernel⟩
theorem t_1037 : (.selects R_Model y_Model_byteAt y_Model_byteAt : Cond) ∈ tb := List.mem_filter.mpr ⟨List.mem_of_getElem? (i := 1037) (by decide +kernel), by decide +kernel⟩
theorem t_1038 : (.code y_Model_byteAt c_Model_byteAt 2 (some .int) : Cond) ∈ tb := List.mem_filter.mpr ⟨List.mem_of_getElem? (i := 1038) (by decide +kernel), by decide +kernel⟩
theorem t_749 : (.codeWith y_Law_feed c_Law_feed 4 (some .int) [((0), (9), (12), (13)), ((0), (9), (15), (15))] : Cond) ∈ tb := List.mem_filter.mpr ⟨List.mem_of_getElem? (i := 749) (by decide +kernel), by decide +kernel⟩
theorem t_747 : (.methodLink R_Law 110 y_Law_feed : Cond) ∈ tb := List.mem_filter.mpr ⟨List.mem_of_getElem? (i := 747) (by decide +kernel), by decide +kernel⟩
theorem t_748 : (.static y_Law_feed : Cond) ∈ tb := List.mem_filter.mpr ⟨List.mem_of_getElem? (i := 748) (by decide +kernel), by decide +kernel⟩
theorem t_1039 : (.methodLink R_Law 112 y_Model_feed : Cond) ∈ tb := List.mem_filter.mpr ⟨List.mem_of_getElem? (i := 1039) (by decide +kernel), by decide +kernel⟩
theorem t_1040 : (.instanceMethod y_Model_feed : Cond) ∈ tb := List.mem_filter.mpr ⟨List.mem_of_getElem? (i := 1040) (by decide +kernel), by decide +kernel⟩
theorem t_1041 : (.selects R_Model y_Model_feed y_Model_feed : Cond) ∈ tb := List.mem_filter.mpr ⟨List.mem_of_getElem? (i := 1041) (by decide +kernel), by decide +kernel⟩
theorem t_1042 : (.code y_Model_feed c_Model_feed 2 (some .int) : Cond) ∈ tb := List.mem_filter.mpr ⟨List.mem_of_getElem? (i := 1042) (by decide +kernel), by decide +kernel⟩
theorem t_759 : (.codeWith y_Law_pass c_Law_pass 3 (some .int) [((0), (8), (11), (15))] : Cond) ∈ tb := List.mem_filter.mpr ⟨List.mem_of_getElem? (i := 759) (by decide +kernel), by decide +kernel⟩
theorem t_757 : (.methodLink R_Law 113 y_Law_pass : Cond) ∈ tb := List.mem_filter.mpr ⟨List.mem_of_getElem? (i := 757) (by decide +kernel), by decide +kernel⟩
theorem t_758 : (.static y_Law_pass : Cond) ∈ tb := List.mem_filter.mpr ⟨List.mem_of_getElem? (i := 758) (by decide +kernel), by decide +kernel⟩
theorem t_1043 : (.methodLink R_Law 116 y_Model_pass : Cond) ∈ tb := List.mem_filter.mpr ⟨List.mem_of_getElem? (i := 1043) (by decide +kernel), by decide +kernel⟩
theorem t_1044 : (.instanceMethod y_Model_pass : Cond) ∈ tb := List.mem_filter.mpr ⟨List.mem_of_getElem? (i := 1044) (by decide +kernel), by decide +kernel⟩
theorem t_1045 : (.selects R_Model y_Model_pass y_Model_pass : Cond) ∈ tb := List.mem_filter.mpr ⟨List.mem_of_getElem? (i := 1045) (by decide +kernel), by decide +kernel⟩
theorem t_1046 : (.code y_Model_pass c_Model_pass 2 (some .int) : Cond) ∈ tb := List.mem_filter.mpr ⟨List.mem_of_getElem? (i := 1046) (by decide +kernel), by decide +kernel⟩
theorem t_433 : (.methodLink R_Law 117 y_SD_read : Cond) ∈ tb := List.mem_filter.mpr ⟨List.mem_of_getElem? (i := 433) (by decide +kernel), by decide +kernel⟩
theorem t_434 : (.instanceMethod y_SD_read : Cond) ∈ tb := List.mem_filter.mpr ⟨List.mem_of_getElem? (i := 434) (by decide +kernel), by decide +kernel⟩
theorem t_435 : (.selects R_SD y_SD_read y_SD_read : Cond) ∈ tb := List.mem_filter.mpr ⟨List.mem_of_getElem? (i := 435) (by decide +kernel), by decide +kernel⟩
theorem t_436 : (.code y_SD_read c_SD_read 3 (some .int) : Cond) ∈ tb := List.mem_filter.mpr ⟨List.mem_of_getElem? (i := 436) (by decide +kernel), by decide +kernel⟩
theorem t_1047 : (.methodLink R_Law 120 y_Model_read : Cond) ∈ tb := List.mem_filter.mpr ⟨List.mem_of_getElem? (i := 1047) (by decide +kernel), by decide +kernel⟩
theorem t_1048 : (.instanceMethod y_Model_read : Cond) ∈ tb := List.mem_filter.mpr ⟨List.mem_of_getElem? (i := 1048) (by decide +kernel), by decide +kernel⟩
theorem t_1049 : (.selects R_Model y_Model_read y_Model_read : Cond) ∈ tb := List.mem_filter.mpr ⟨List.mem_of_getElem? (i := 1049) (by decide +kernel), by decide +kernel⟩
theorem t_1050 : (.code y_Model_read c_Model_read 5 (some .int) : Cond) ∈ tb := List.mem_filter.mpr ⟨List.mem_of_getElem? (i := 1050) (by decide +kernel), by decide +kernel⟩
theorem t_772 : (.codeWith y_Law_told c_Law_told 5 (some .int) [((0), (10), (13), (21)), ((0), (10), (17), (13))] : Cond) ∈ tb := List.mem_filter.mpr ⟨List.mem_of_getElem? (i := 772) (by decide +kernel), by decide +kernel⟩
theorem t_770 : (.methodLink R_Law 121 y_Law_told : Cond) ∈ tb := List.mem_filter.mpr ⟨List.mem_of_getElem? (i := 770) (by decide +kernel), by decide +kernel⟩
theorem t_771 : (.static y_Law_told : Cond) ∈ tb := List.mem_filter.mpr ⟨List.mem_of_getElem? (i := 771) (by decide +kernel), by decide +kernel⟩
theorem t_1083 : (.methodLink R_Law 123 y_Model_told : Cond) ∈ tb := List.mem_filter.mpr ⟨List.mem_of_getElem? (i := 1083) (by decide +kernel), by decide +kernel⟩
theorem t_1084 : (.instanceMethod y_Model_told : Cond) ∈ tb := List.mem_filter.mpr ⟨List.mem_of_getElem? (i := 1084) (by decide +kernel), by decide +kernel⟩
theorem t_1085 : (.selects R_Model y_Model_told y_Model_told : Cond) ∈ tb := List.mem_filter.mpr ⟨List.mem_of_getElem? (i := 1085) (by decide +kernel), by decide +kernel⟩
theorem t_1086 : (.code y_Model_told c_Model_told 5 (some .int) : Cond) ∈ tb := List.mem_filter.mpr ⟨List.mem_of_getElem? (i := 1086) (by decide +kernel), by decide +kernel⟩
theorem t_785 : (.codeWith y_Law_likeness c_Law_likeness 5 (some .int) [((0), (10), (13), (21))] : Cond) ∈ tb := List.mem_filter.mpr ⟨List.mem_of_getElem? (i := 785) (by decide +kernel), by decide +kernel⟩
theorem t_783 : (.methodLink R_Law 124 y_Law_likeness : Cond) ∈ tb := List.mem_filter.mpr ⟨List.mem_of_getElem? (i := 783) (by decide +kernel), by decide +kernel⟩
theorem t_784 : (.static y_Law_likeness : Cond) ∈ tb := List.mem_filter.mpr ⟨List.mem_of_getElem? (i := 784) (by decide +kernel), by decide +kernel⟩
theorem t_1087 : (.methodLink R_Law 126 y_Model_likeness : Cond) ∈ tb := List.mem_filter.mpr ⟨List.mem_of_getElem? (i := 1087) (by decide +kernel), by decide +kernel⟩
theorem t_1088 : (.instanceMethod y_Model_likeness : Cond) ∈ tb := List.mem_filter.mpr ⟨List.mem_of_getElem? (i := 1088) (by decide +kernel), by decide +kernel⟩
theorem t_1089 : (.selects R_Model y_Model_likeness y_Model_likeness : Cond) ∈ tb := List.mem_filter.mpr ⟨List.mem_of_getElem? (i := 1089) (by decide +kernel), by decide +kernel⟩
theorem t_1090 : (.code y_Model_likeness c_Model_likeness 3 (some .int) : Cond) ∈ tb := List.mem_filter.mpr ⟨List.mem_of_getElem? (i := 1090) (by decide +kernel), by decide +kernel⟩
theorem t_796 : (.codeWith y_Law_classes c_Law_classes 4 (some .int) [((0), (9), (12), (13))] : Cond) ∈ tb := List.mem_filter.mpr ⟨List.mem_of_getElem? (i := 796) (by decide +kernel), by decide +kernel⟩
theorem t_794 : (.methodLink R_Law 127 y_Law_classes : Cond) ∈ tb := List.mem_filter.mpr ⟨List.mem_of_getElem? (i := 794) (by decide +kernel), by decide +kernel⟩
theorem t_795 : (.static y_Law_classes : Cond) ∈ tb := List.mem_filter.mpr ⟨List.mem_of_getElem? (i := 795) (by decide +kernel), by decide +kernel⟩
theorem t_1095 : (.methodLink R_Law 129 y_Model_classes : Cond) ∈ tb := List.mem_filter.mpr ⟨List.mem_of_getElem? (i := 1095) (by decide +kernel), by decide +kernel⟩
theorem t_1096 : (.instanceMethod y_Model_classes : Cond) ∈ tb := List.mem_filter.mpr ⟨List.mem_of_getElem? (i := 1096) (by decide +kernel), by decide +kernel⟩
theorem t_1097 : (.selects R_Model y_Model_classes y_Model_classes : Cond) ∈ tb := List.mem_filter.mpr ⟨List.mem_of_getElem? (i := 1097) (by decide +kernel), by decide +kernel⟩
theorem t_1098 : (.code y_Model_classes c_Model_classes 5 (some .int) : Cond) ∈ tb := List.mem_filter.mpr ⟨List.mem_of_getElem? (i := 1098) (by decide +kernel), by decide +kernel⟩
theorem t_813 : (.codeWith y_Law_cls c_Law_cls 4 (some .int) [((0), (9), (12), (21))] : Cond) ∈ tb := List.mem_filter.mpr ⟨List.mem_of_getElem? (i := 813) (by decide +kernel), by decide +kernel⟩
theorem t_811 : (.methodLink R_Law 130 y_Law_cls : Cond) ∈ tb := List.mem_filter.mpr ⟨List.mem_of_getElem? (i := 811) (by decide +kernel), by decide +kernel⟩
theorem t_812 : (.static y_Law_cls : Cond) ∈ tb := List.mem_filter.mpr ⟨List.mem_of_getElem? (i := 812) (by decide +kernel), by decide +kernel⟩
theorem t_1099 : (.methodLink R_Law 132 y_Model_cls : Cond) ∈ tb := List.mem_filter.mpr ⟨List.mem_of_getElem? (i := 1099) (by decide +kernel), by decide +kernel⟩
theorem t_1100 : (.instanceMethod y_Model_cls : Cond) ∈ tb := List.mem_filter.mpr ⟨List.mem_of_getElem? (i := 1100) (by decide +kernel), by decide +kernel⟩
theorem t_1101 : (.selects R_Model y_Model_cls y_Model_cls : Cond) ∈ tb := List.mem_filter.mpr ⟨List.mem_of_getElem? (i := 1101) (by decide +kernel), by decide +kernel⟩
theorem t_1102 : (.code y_Model_cls c_Model_cls 2 (some .int) : Cond) ∈ tb := List.mem_filter.mpr ⟨List.mem_of_getElem? (i := 1102) (by decide +kernel), by decide +kernel⟩
theorem t_546 : (.methodLink R_Law 133 y_SD_count : Cond) ∈ tb := List.mem_filter.mpr ⟨List.mem_of_getElem? (i := 546) (by decide +kernel), by decide +kernel⟩
theorem t_547 : (.instanceMethod y_SD_count : Cond) ∈ tb := List.mem_filter.mpr ⟨List.mem_of_getElem? (i := 547) (by decide +kernel), by decide +kernel⟩
theorem t_548 : (.selects R_SD y_SD_count y_SD_count : Cond) ∈ tb := List.mem_filter.mpr ⟨List.mem_of_getElem? (i := 548) (by decide +kernel), by decide +kernel⟩
theorem t_549 : (.code y_SD_count c_SD_count 2 (some .int) : Cond) ∈ tb := List.mem_filter.mpr ⟨List.mem_of_getElem? (i := 549) (by decide +kernel), by decide +kernel⟩
theorem t_1103 : (.methodLink R_Law 136 y_Model_count : Cond) ∈ tb := List.mem_filter.mpr ⟨List.mem_of_getElem? (i := 1103) (by decide +kernel), by decide +kernel⟩
theorem t_1104 : (.instanceMethod y_Model_count : Cond) ∈ tb := List.mem_filter.mpr ⟨List.mem_of_getElem? (i := 1104) (by decide +kernel), by decide +kernel⟩
theorem t_1105 : (.selects R_Model y_Model_count y_Model_count : Cond) ∈ tb := List.mem_filter.mpr ⟨List.mem_of_getElem? (i := 1105) (by decide +kernel), by decide +kernel⟩
theorem t_1106 : (.code y_Model_count c_Model_count 2 (some .int) : Cond) ∈ tb := List.mem_filter.mpr ⟨List.mem_of_getElem? (i := 1106) (by decide +kernel), by decide +kernel⟩
theorem t_550 : (.methodLink R_Law 137 y_SD_clear : Cond) ∈ tb := List.mem_filter.mpr ⟨List.mem_of_getElem? (i := 550) (by decide +kernel), by decide +kernel⟩
theorem t_551 : (.instanceMethod y_SD_clear : Cond) ∈ tb := List.mem_filter.mpr ⟨List.mem_of_getElem? (i := 551) (by decide +kernel), by decide +kernel⟩
theorem t_552 : (.selects R_SD y_SD_clear y_SD_clear : Cond) ∈ tb := List.mem_filter.mpr ⟨List.mem_of_getElem? (i := 552) (by decide +kernel), by decide +kernel⟩
theorem t_553 : (.code y_SD_clear c_SD_clear 1 none : Cond) ∈ tb := List.mem_filter.mpr ⟨List.mem_of_getElem? (i := 553) (by decide +kernel), by decide +kernel⟩
theorem t_1107 : (.methodLink R_Law 140 y_Model_clear : Cond) ∈ tb := List.mem_filter.mpr ⟨List.mem_of_getElem? (i := 1107) (by decide +kernel), by decide +kernel⟩
theorem t_1108 : (.instanceMethod y_Model_clear : Cond) ∈ tb := List.mem_filter.mpr ⟨List.mem_of_getElem? (i := 1108) (by decide +kernel), by decide +kernel⟩
theorem t_1109 : (.selects R_Model y_Model_clear y_Model_clear : Cond) ∈ tb := List.mem_filter.mpr ⟨List.mem_of_getElem? (i := 1109) (by decide +kernel), by decide +kernel⟩
theorem t_1110 : (.code y_Model_clear c_Model_clear 1 none : Cond) ∈ tb := List.mem_filter.mpr ⟨List.mem_of_getElem? (i := 1110) (by decide +kernel), by decide +kernel⟩
/-! The law: its own words -/
def zb (x : Int32) : Int32 := if x = 0 then 0 else 1
def zl (x : Int32) : Int64 := if x = 0 then 0 else 1
theorem cmp_self (x : Int64) : lg_cmp x x = 0 := by
  unfold lg_cmp
  rw [if_neg (by exact Int64.lt_irrefl), if_pos rfl]
theorem updL_at (f : Nat → Int64) (k : Nat) (x : Int64) : vp_updL f k x k = x := by unfold vp_updL; rw [if_pos rfl]
section LawRows
variable {p : Program} {l : Launch} {e : Env} {R : Room} {s : State} {m : MethodId} {args : Array Value} {below : List Frame} {meth : Method} {c : Code} {H : Heap} {locs : List Loc} {cells slots : Nat} {Q : State → Prop} {cc : ByteArray} {pc : Nat} {ls : Array Slot} {rest : List Value}
/-- x != 0, as a number -/
theorem lw_zb (hx : p.tables.exec = Jvm.exec) (hb : c.code = cc) {x : Int32} (d1 : decode cc pc = .ok (.ifCond .eq 7, 3)) (d2 : decode cc (pc + 3) = .ok (.iconst 1, 1)) (d3 : decode cc (pc + 4) = .ok (.goto 4, 3)) (d4 : decode cc (pc + 7) = .ok (.iconst 0, 1))
    (k : W p l e R s m args below meth c H locs cells slots Q (F0 m (pc + 8) ls (.int (zb x) :: rest))) : W p l e R s m args below meth c H locs cells slots Q (F0 m pc ls (.int x :: rest)) := by
  refine lv_if_eq (tgt := pc + 7) hx hb d1 (by omega) (fun h => ?_) (fun h => ?_)
  · exact lv_iconst (v := zb x) hx hb d4 (by rw [zb, if_pos h]; decide) k
  · refine lv_iconst (v := zb x) hx hb d2 (by rw [zb, if_neg h]; decide) ?_
    exact lv_goto (tgt := pc + 8) hx hb d3 (by omega) k
theorem lw_zl (hx : p.tables.exec = Jvm.exec) (hb : c.code = cc) {x : Int32} (d1 : decode cc pc = .ok (.ifCond .eq 7, 3)) (d2 : decode cc (pc + 3) = .ok (.lconst 1, 1)) (d3 : decode cc (pc + 4) = .ok (.goto 4, 3)) (d4 : decode cc (pc + 7) = .ok (.lconst 0, 1))
    (k : W p l e R s m args below meth c H locs cells slots Q (F0 m (pc + 8) ls (.long (zl x) :: rest))) : W p l e R s m args below meth c H locs cells slots Q (F0 m pc ls (.int x :: rest)) := by
  refine lv_if_eq (tgt := pc + 7) hx hb d1 (by omega) (fun h => ?_) (fun h => ?_)
  · exact lv_lconst (v := zl x) hx hb d4 (by rw [zl, if_pos h]; decide) k
  · refine lv_lconst (v := zl x) hx hb d2 (by rw [zl, if_neg h]; decide) ?_
    exact lv_goto (tgt := pc + 8) hx hb d3 (by omega) k
end LawRows
/-- what holds at every row of the law's body -/
def lcx (p : Program) (c : Code) (m : MethodId) (s : State) (args : Array Value) (R : Room) (D : va_G) (tys : List (ClassId × FieldType)) (A : Nat → Prop) (b L : Nat) (xs : Nat → Int32) (i : Int32) (j : Nat) : Prop :=
  p.tables.exec = Jvm.exec ∧ c.code = code ∧ c.maxLocals = 7 ∧ s.vm.findClass R_Law = some m.cls ∧ (∀ w ∈ tb, w.before args s = true) ∧ va_K D vwCl tys s ∧ (∀ q : Nat, s.heap.size ≤ q → A q) ∧ (∀ q : Nat, A q → s.heap.size ≤ q) ∧ 12 ≤ R.frames ∧ 438 ≤ R.locals ∧ kN s ∧ kT s ∧ kX s ∧ va_X b L xs s s.heap ∧ b < s.heap.size ∧ (∀ k : Int32, 0 ≤ k → k < 5 → vp_in (i + k) L) ∧ j ≤ 20000 ∧ 200000 ≤ R.cells ∧ 400000 ≤ R.slots

theorem d_law_0 : decode code 0 = .ok (.new 8, 3) := by decide +kernel
theorem d_law_3 : decode code 3 = .ok (.dup, 1) := by decide +kernel
theorem d_law_4 : decode code 4 = .ok (.aload_n 0, 1) := by decide +kernel
theorem d_law_5 : decode code 5 = .ok (.iconst 0, 1) := by decide +kernel
theorem d_law_6 : decode code 6 = .ok (.invokestatic 64, 3) := by decide +kernel
theorem d_law_9 : decode code 9 = .ok (.invokespecial 70, 3) := by decide +kernel
theorem d_law_12 : decode code 12 = .ok (.astore_n 1, 1) := by decide +kernel
theorem d_law_13 : decode code 13 = .ok (.new 73, 3) := by decide +kernel
theorem d_law_16 : decode code 16 = .ok (.dup, 1) := by decide +kernel
theorem d_law_17 : decode code 17 = .ok (.aload_n 0, 1) := by decide +kernel
theorem d_law_18 : decode code 18 = .ok (.iconst 0, 1) := by decide +kernel
theorem d_law_19 : decode code 19 = .ok (.invokestatic 64, 3) := by decide +kernel
theorem d_law_22 : decode code 22 = .ok (.invokespecial 75, 3) := by decide +kernel
theorem d_law_25 : decode code 25 = .ok (.astore_n 2, 1) := by decide +kernel
theorem d_law_26 : decode code 26 = .ok (.iconst 1, 1) := by decide +kernel
theorem d_law_27 : decode code 27 = .ok (.newarray .long, 2) := by decide +kernel
theorem d_law_29 : decode code 29 = .ok (.astore_n 3, 1) := by decide +kernel
theorem d_law_30 : decode code 30 = .ok (.iconst 1, 1) := by decide +kernel
theorem d_law_31 : decode code 31 = .ok (.istore 4, 2) := by decide +kernel
theorem d_law_33 : decode code 33 = .ok (.iload 4, 2) := by decide +kernel
theorem d_law_35 : decode code 35 = .ok (.aload_n 0, 1) := by decide +kernel
theorem d_law_36 : decode code 36 = .ok (.arraylength, 1) := by decide +kernel
theorem d_law_37 : decode code 37 = .ok (.iconst 5, 1) := by decide +kernel
theorem d_law_38 : decode code 38 = .ok (.isub, 1) := by decide +kernel
theorem d_law_39 : decode code 39 = .ok (.if_icmp .gt 1098, 3) := by decide +kernel
theorem d_law_42 : decode code 42 = .ok (.aload_n 0, 1) := by decide +kernel
theorem d_law_43 : decode code 43 = .ok (.iload 4, 2) := by decide +kernel
theorem d_law_45 : decode code 45 = .ok (.iaload, 1) := by decide +kernel
theorem d_law_46 : decode code 46 = .ok (.bipush 31, 2) := by decide +kernel
theorem d_law_48 : decode code 48 = .ok (.iand, 1) := by decide +kernel
theorem d_law_49 : decode code 49 = .ok (.tableswitch 1082 0 16 #[83, 151, 266, 346, 433, 525, 616, 629, 685, 741, 785, 798, 866, 934, 990, 1046, 1071], 83) := by decide +kernel
theorem d_law_132 : decode code 132 = .ok (.aload_n 1, 1) := by decide +kernel
theorem d_law_133 : decode code 133 = .ok (.aload_n 0, 1) := by decide +kernel
theorem d_law_134 : decode code 134 = .ok (.iload 4, 2) := by decide +kernel
theorem d_law_136 : decode code 136 = .ok (.iconst 1, 1) := by decide +kernel
theorem d_law_137 : decode code 137 = .ok (.iadd, 1) := by decide +kernel
theorem d_law_138 : decode code 138 = .ok (.iaload, 1) := by decide +kernel
theorem d_law_139 : decode code 139 = .ok (.aload_n 0, 1) := by decide +kernel
theorem d_law_140 : decode code 140 = .ok (.iload 4, 2) := by decide +kernel
theorem d_law_142 : decode code 142 = .ok (.iconst 2, 1) := by decide +kernel
theorem d_law_143 : decode code 143 = .ok (.iadd, 1) := by decide +kernel
theorem d_law_144 : decode code 144 = .ok (.iaload, 1) := by decide +kernel
theorem d_law_145 : decode code 145 = .ok (.aload_n 3, 1) := by decide +kernel
theorem d_law_146 : decode code 146 = .ok (.invokestatic 76, 3) := by decide +kernel
theorem d_law_149 : decode code 149 = .ok (.istore 5, 2) := by decide +kernel
theorem d_law_151 : decode code 151 = .ok (.aload_n 2, 1) := by decide +kernel
theorem d_law_152 : decode code 152 = .ok (.aload_n 0, 1) := by decide +kernel
theorem d_law_153 : decode code 153 = .ok (.iload 4, 2) := by decide +kernel
theorem d_law_155 : decode code 155 = .ok (.iconst 1, 1) := by decide +kernel
theorem d_law_156 : decode code 156 = .ok (.iadd, 1) := by decide +kernel
theorem d_law_157 : decode code 157 = .ok (.iaload, 1) := by decide +kernel
theorem d_law_158 : decode code 158 = .ok (.aload_n 0, 1) := by decide +kernel
theorem d_law_159 : decode code 159 = .ok (.iload 4, 2) := by decide +kernel
theorem d_law_161 : decode code 161 = .ok (.iconst 2, 1) := by decide +kernel
theorem d_law_162 : decode code 162 = .ok (.iadd, 1) := by decide +kernel
theorem d_law_163 : decode code 163 = .ok (.iaload, 1) := by decide +kernel
theorem d_law_164 : decode code 164 = .ok (.invokevirtual 79, 3) := by decide +kernel
theorem d_law_167 : decode code 167 = .ok (.istore 6, 2) := by decide +kernel
theorem d_law_169 : decode code 169 = .ok (.aload_n 2, 1) := by decide +kernel
theorem d_law_170 : decode code 170 = .ok (.invokevirtual 80, 3) := by decide +kernel
theorem d_law_173 : decode code 173 = .ok (.iload 5, 2) := by decide +kernel
theorem d_law_175 : decode code 175 = .ok (.if_icmp .eq 5, 3) := by decide +kernel
theorem d_law_178 : decode code 178 = .ok (.iconst 0, 1) := by decide +kernel
theorem d_law_179 : decode code 179 = .ok (.ireturn, 1) := by decide +kernel
theorem d_law_180 : decode code 180 = .ok (.iload 5, 2) := by decide +kernel
theorem d_law_182 : decode code 182 = .ok (.ifCond .ne 15, 3) := by decide +kernel
theorem d_law_185 : decode code 185 = .ok (.aload_n 3, 1) := by decide +kernel
theorem d_law_186 : decode code 186 = .ok (.iconst 0, 1) := by decide +kernel
theorem d_law_187 : decode code 187 = .ok (.laload, 1) := by decide +kernel
theorem d_law_188 : decode code 188 = .ok (.iload 6, 2) := by decide +kernel
theorem d_law_190 : decode code 190 = .ok (.i2l, 1) := by decide +kernel
theorem d_law_191 : decode code 191 = .ok (.lcmp, 1) := by decide +kernel
theorem d_law_192 : decode code 192 = .ok (.ifCond .eq 5, 3) := by decide +kernel
theorem d_law_195 : decode code 195 = .ok (.iconst 0, 1) := by decide +kernel
theorem d_law_196 : decode code 196 = .ok (.ireturn, 1) := by decide +kernel
theorem d_law_197 : decode code 197 = .ok (.goto 934, 3) := by decide +kernel
theorem d_law_200 : decode code 200 = .ok (.aload_n 1, 1) := by decide +kernel
theorem d_law_201 : decode code 201 = .ok (.aload_n 0, 1) := by decide +kernel
theorem d_law_202 : decode code 202 = .ok (.iload 4, 2) := by decide +kernel
theorem d_law_204 : decode code 204 = .ok (.iconst 1, 1) := by decide +kernel
theorem d_law_205 : decode code 205 = .ok (.iadd, 1) := by decide +kernel
theorem d_law_206 : decode code 206 = .ok (.iaload, 1) := by decide +kernel
theorem d_law_207 : decode code 207 = .ok (.aload_n 0, 1) := by decide +kernel
theorem d_law_208 : decode code 208 = .ok (.iload 4, 2) := by decide +kernel
theorem d_law_210 : decode code 210 = .ok (.iconst 2, 1) := by decide +kernel
theorem d_law_211 : decode code 211 = .ok (.iadd, 1) := by decide +kernel
theorem d_law_212 : decode code 212 = .ok (.iaload, 1) := by decide +kernel
theorem d_law_213 : decode code 213 = .ok (.aload_n 0, 1) := by decide +kernel
theorem d_law_214 : decode code 214 = .ok (.iload 4, 2) := by decide +kernel
theorem d_law_216 : decode code 216 = .ok (.iconst 3, 1) := by decide +kernel
theorem d_law_217 : decode code 217 = .ok (.iadd, 1) := by decide +kernel
theorem d_law_218 : decode code 218 = .ok (.iaload, 1) := by decide +kernel
theorem d_law_219 : decode code 219 = .ok (.aload_n 0, 1) := by decide +kernel
theorem d_law_220 : decode code 220 = .ok (.iload 4, 2) := by decide +kernel
theorem d_law_222 : decode code 222 = .ok (.iconst 4, 1) := by decide +kernel
theorem d_law_223 : decode code 223 = .ok (.iadd, 1) := by decide +kernel
theorem d_law_224 : decode code 224 = .ok (.iaload, 1) := by decide +kernel
theorem d_law_225 : decode code 225 = .ok (.ifCond .eq 7, 3) := by decide +kernel
theorem d_law_228 : decode code 228 = .ok (.iconst 1, 1) := by decide +kernel
theorem d_law_229 : decode code 229 = .ok (.goto 4, 3) := by decide +kernel
theorem d_law_232 : decode code 232 = .ok (.iconst 0, 1) := by decide +kernel
theorem d_law_233 : decode code 233 = .ok (.aload_n 3, 1) := by decide +kernel
theorem d_law_234 : decode code 234 = .ok (.invokestatic 83, 3) := by decide +kernel
theorem d_law_237 : decode code 237 = .ok (.istore 5, 2) := by decide +kernel
theorem d_law_239 : decode code 239 = .ok (.aload_n 2, 1) := by decide +kernel
theorem d_law_240 : decode code 240 = .ok (.aload_n 0, 1) := by decide +kernel
theorem d_law_241 : decode code 241 = .ok (.iload 4, 2) := by decide +kernel
theorem d_law_243 : decode code 243 = .ok (.iconst 1, 1) := by decide +kernel
theorem d_law_244 : decode code 244 = .ok (.iadd, 1) := by decide +kernel
theorem d_law_245 : decode code 245 = .ok (.iaload, 1) := by decide +kernel
theorem d_law_246 : decode code 246 = .ok (.aload_n 0, 1) := by decide +kernel
theorem d_law_247 : decode code 247 = .ok (.iload 4, 2) := by decide +kernel
theorem d_law_249 : decode code 249 = .ok (.iconst 2, 1) := by decide +kernel
theorem d_law_250 : decode code 250 = .ok (.iadd, 1) := by decide +kernel
theorem d_law_251 : decode code 251 = .ok (.iaload, 1) := by decide +kernel
theorem d_law_252 : decode code 252 = .ok (.aload_n 0, 1) := by decide +kernel
theorem d_law_253 : decode code 253 = .ok (.iload 4, 2) := by decide +kernel
theorem d_law_255 : decode code 255 = .ok (.iconst 3, 1) := by decide +kernel
theorem d_law_256 : decode code 256 = .ok (.iadd, 1) := by decide +kernel
theorem d_law_257 : decode code 257 = .ok (.iaload, 1) := by decide +kernel
theorem d_law_258 : decode code 258 = .ok (.aload_n 0, 1) := by decide +kernel
theorem d_law_259 : decode code 259 = .ok (.iload 4, 2) := by decide +kernel
theorem d_law_261 : decode code 261 = .ok (.iconst 4, 1) := by decide +kernel
theorem d_law_262 : decode code 262 = .ok (.iadd, 1) := by decide +kernel
theorem d_law_263 : decode code 263 = .ok (.iaload, 1) := by decide +kernel
theorem d_law_264 : decode code 264 = .ok (.ifCond .eq 7, 3) := by decide +kernel
theorem d_law_267 : decode code 267 = .ok (.iconst 1, 1) := by decide +kernel
theorem d_law_268 : decode code 268 = .ok (.goto 4, 3) := by decide +kernel
theorem d_law_271 : decode code 271 = .ok (.iconst 0, 1) := by decide +kernel
theorem d_law_272 : decode code 272 = .ok (.invokevirtual 86, 3) := by decide +kernel
theorem d_law_275 : decode code 275 = .ok (.istore 6, 2) := by decide +kernel
theorem d_law_277 : decode code 277 = .ok (.aload_n 2, 1) := by decide +kernel
theorem d_law_278 : decode code 278 = .ok (.invokevirtual 80, 3) := by decide +kernel
theorem d_law_281 : decode code 281 = .ok (.iload 5, 2) := by decide +kernel
theorem d_law_283 : decode code 283 = .ok (.if_icmp .eq 5, 3) := by decide +kernel
theorem d_law_286 : decode code 286 = .ok (.iconst 0, 1) := by decide +kernel
theorem d_law_287 : decode code 287 = .ok (.ireturn, 1) := by decide +kernel
theorem d_law_288 : decode code 288 = .ok (.iload 5, 2) := by decide +kernel
theorem d_law_290 : decode code 290 = .ok (.ifCond .ne 22, 3) := by decide +kernel
theorem d_law_293 : decode code 293 = .ok (.aload_n 3, 1) := by decide +kernel
theorem d_law_294 : decode code 294 = .ok (.iconst 0, 1) := by decide +kernel
theorem d_law_295 : decode code 295 = .ok (.laload, 1) := by decide +kernel
theorem d_law_296 : decode code 296 = .ok (.iload 6, 2) := by decide +kernel
theorem d_law_298 : decode code 298 = .ok (.ifCond .eq 7, 3) := by decide +kernel
theorem d_law_301 : decode code 301 = .ok (.lconst 1, 1) := by decide +kernel
theorem d_law_302 : decode code 302 = .ok (.goto 4, 3) := by decide +kernel
theorem d_law_305 : decode code 305 = .ok (.lconst 0, 1) := by decide +kernel
theorem d_law_306 : decode code 306 = .ok (.lcmp, 1) := by decide +kernel
theorem d_law_307 : decode code 307 = .ok (.ifCond .eq 5, 3) := by decide +kernel
theorem d_law_310 : decode code 310 = .ok (.iconst 0, 1) := by decide +kernel
theorem d_law_311 : decode code 311 = .ok (.ireturn, 1) := by decide +kernel
theorem d_law_312 : decode code 312 = .ok (.goto 819, 3) := by decide +kernel
theorem d_law_315 : decode code 315 = .ok (.aload_n 1, 1) := by decide +kernel
theorem d_law_316 : decode code 316 = .ok (.aload_n 0, 1) := by decide +kernel
theorem d_law_317 : decode code 317 = .ok (.iload 4, 2) := by decide +kernel
theorem d_law_319 : decode code 319 = .ok (.iconst 1, 1) := by decide +kernel
theorem d_law_320 : decode code 320 = .ok (.iadd, 1) := by decide +kernel
theorem d_law_321 : decode code 321 = .ok (.iaload, 1) := by decide +kernel
theorem d_law_322 : decode code 322 = .ok (.aload_n 0, 1) := by decide +kernel
theorem d_law_323 : decode code 323 = .ok (.iload 4, 2) := by decide +kernel
theorem d_law_325 : decode code 325 = .ok (.iconst 2, 1) := by decide +kernel
theorem d_law_326 : decode code 326 = .ok (.iadd, 1) := by decide +kernel
theorem d_law_327 : decode code 327 = .ok (.iaload, 1) := by decide +kernel
theorem d_law_328 : decode code 328 = .ok (.aload_n 0, 1) := by decide +kernel
theorem d_law_329 : decode code 329 = .ok (.iload 4, 2) := by decide +kernel
theorem d_law_331 : decode code 331 = .ok (.iconst 3, 1) := by decide +kernel
theorem d_law_332 : decode code 332 = .ok (.iadd, 1) := by decide +kernel
theorem d_law_333 : decode code 333 = .ok (.iaload, 1) := by decide +kernel
theorem d_law_334 : decode code 334 = .ok (.aload_n 3, 1) := by decide +kernel
theorem d_law_335 : decode code 335 = .ok (.invokestatic 87, 3) := by decide +kernel
theorem d_law_338 : decode code 338 = .ok (.istore 5, 2) := by decide +kernel
theorem d_law_340 : decode code 340 = .ok (.aload_n 2, 1) := by decide +kernel
theorem d_law_341 : decode code 341 = .ok (.aload_n 0, 1) := by decide +kernel
theorem d_law_342 : decode code 342 = .ok (.iload 4, 2) := by decide +kernel
theorem d_law_344 : decode code 344 = .ok (.iconst 1, 1) := by decide +kernel
theorem d_law_345 : decode code 345 = .ok (.iadd, 1) := by decide +kernel
theorem d_law_346 : decode code 346 = .ok (.iaload, 1) := by decide +kernel
theorem d_law_347 : decode code 347 = .ok (.aload_n 0, 1) := by decide +kernel
theorem d_law_348 : decode code 348 = .ok (.iload 4, 2) := by decide +kernel
theorem d_law_350 : decode code 350 = .ok (.iconst 2, 1) := by decide +kernel
theorem d_law_351 : decode code 351 = .ok (.iadd, 1) := by decide +kernel
theorem d_law_352 : decode code 352 = .ok (.iaload, 1) := by decide +kernel
theorem d_law_353 : decode code 353 = .ok (.aload_n 0, 1) := by decide +kernel
theorem d_law_354 : decode code 354 = .ok (.iload 4, 2) := by decide +kernel
theorem d_law_356 : decode code 356 = .ok (.iconst 3, 1) := by decide +kernel
theorem d_law_357 : decode code 357 = .ok (.iadd, 1) := by decide +kernel
theorem d_law_358 : decode code 358 = .ok (.iaload, 1) := by decide +kernel
theorem d_law_359 : decode code 359 = .ok (.invokevirtual 90, 3) := by decide +kernel
theorem d_law_362 : decode code 362 = .ok (.istore 6, 2) := by decide +kernel
theorem d_law_364 : decode code 364 = .ok (.aload_n 2, 1) := by decide +kernel
theorem d_law_365 : decode code 365 = .ok (.invokevirtual 80, 3) := by decide +kernel
theorem d_law_368 : decode code 368 = .ok (.iload 5, 2) := by decide +kernel
theorem d_law_370 : decode code 370 = .ok (.if_icmp .eq 5, 3) := by decide +kernel
theorem d_law_373 : decode code 373 = .ok (.iconst 0, 1) := by decide +kernel
theorem d_law_374 : decode code 374 = .ok (.ireturn, 1) := by decide +kernel
theorem d_law_375 : decode code 375 = .ok (.iload 5, 2) := by decide +kernel
theorem d_law_377 : decode code 377 = .ok (.ifCond .ne 15, 3) := by decide +kernel
theorem d_law_380 : decode code 380 = .ok (.aload_n 3, 1) := by decide +kernel
theorem d_law_381 : decode code 381 = .ok (.iconst 0, 1) := by decide +kernel
theorem d_law_382 : decode code 382 = .ok (.laload, 1) := by decide +kernel
theorem d_law_383 : decode code 383 = .ok (.iload 6, 2) := by decide +kernel
theorem d_law_385 : decode code 385 = .ok (.i2l, 1) := by decide +kernel
theorem d_law_386 : decode code 386 = .ok (.lcmp, 1) := by decide +kernel
theorem d_law_387 : decode code 387 = .ok (.ifCond .eq 5, 3) := by decide +kernel
theorem d_law_390 : decode code 390 = .ok (.iconst 0, 1) := by decide +kernel
theorem d_law_391 : decode code 391 = .ok (.ireturn, 1) := by decide +kernel
theorem d_law_392 : decode code 392 = .ok (.goto 739, 3) := by decide +kernel
theorem d_law_395 : decode code 395 = .ok (.aload_n 1, 1) := by decide +kernel
theorem d_law_396 : decode code 396 = .ok (.aload_n 0, 1) := by decide +kernel
theorem d_law_397 : decode code 397 = .ok (.iload 4, 2) := by decide +kernel
theorem d_law_399 : decode code 399 = .ok (.iconst 1, 1) := by decide +kernel
theorem d_law_400 : decode code 400 = .ok (.iadd, 1) := by decide +kernel
theorem d_law_401 : decode code 401 = .ok (.iaload, 1) := by decide +kernel
theorem d_law_402 : decode code 402 = .ok (.aload_n 0, 1) := by decide +kernel
theorem d_law_403 : decode code 403 = .ok (.iload 4, 2) := by decide +kernel
theorem d_law_405 : decode code 405 = .ok (.iconst 2, 1) := by decide +kernel
theorem d_law_406 : decode code 406 = .ok (.iadd, 1) := by decide +kernel
theorem d_law_407 : decode code 407 = .ok (.iaload, 1) := by decide +kernel
theorem d_law_408 : decode code 408 = .ok (.aload_n 0, 1) := by decide +kernel
theorem d_law_409 : decode code 409 = .ok (.iload 4, 2) := by decide +kernel
theorem d_law_411 : decode code 411 = .ok (.iconst 3, 1) := by decide +kernel
theorem d_law_412 : decode code 412 = .ok (.iadd, 1) := by decide +kernel
theorem d_law_413 : decode code 413 = .ok (.iaload, 1) := by decide +kernel
theorem d_law_414 : decode code 414 = .ok (.aload_n 3, 1) := by decide +kernel
theorem d_law_415 : decode code 415 = .ok (.invokestatic 91, 3) := by decide +kernel
theorem d_law_418 : decode code 418 = .ok (.istore 5, 2) := by decide +kernel
theorem d_law_420 : decode code 420 = .ok (.aload_n 2, 1) := by decide +kernel
theorem d_law_421 : decode code 421 = .ok (.aload_n 0, 1) := by decide +kernel
theorem d_law_422 : decode code 422 = .ok (.iload 4, 2) := by decide +kernel
theorem d_law_424 : decode code 424 = .ok (.iconst 1, 1) := by decide +kernel
theorem d_law_425 : decode code 425 = .ok (.iadd, 1) := by decide +kernel
theorem d_law_426 : decode code 426 = .ok (.iaload, 1) := by decide +kernel
theorem d_law_427 : decode code 427 = .ok (.aload_n 0, 1) := by decide +kernel
theorem d_law_428 : decode code 428 = .ok (.iload 4, 2) := by decide +kernel
theorem d_law_430 : decode code 430 = .ok (.iconst 2, 1) := by decide +kernel
theorem d_law_431 : decode code 431 = .ok (.iadd, 1) := by decide +kernel
theorem d_law_432 : decode code 432 = .ok (.iaload, 1) := by decide +kernel
theorem d_law_433 : decode code 433 = .ok (.aload_n 0, 1) := by decide +kernel
theorem d_law_434 : decode code 434 = .ok (.iload 4, 2) := by decide +kernel
theorem d_law_436 : decode code 436 = .ok (.iconst 3, 1) := by decide +kernel
theorem d_law_437 : decode code 437 = .ok (.iadd, 1) := by decide +kernel
theorem d_law_438 : decode code 438 = .ok (.iaload, 1) := by decide +kernel
theorem d_law_439 : decode code 439 = .ok (.invokevirtual 93, 3) := by decide +kernel
theorem d_law_442 : decode code 442 = .ok (.istore 6, 2) := by decide +kernel
theorem d_law_444 : decode code 444 = .ok (.aload_n 2, 1) := by decide +kernel
theorem d_law_445 : decode code 445 = .ok (.invokevirtual 80, 3) := by decide +kernel
theorem d_law_448 : decode code 448 = .ok (.iload 5, 2) := by decide +kernel
theorem d_law_450 : decode code 450 = .ok (.if_icmp .eq 5, 3) := by decide +kernel
theorem d_law_453 : decode code 453 = .ok (.iconst 0, 1) := by decide +kernel
theorem d_law_454 : decode code 454 = .ok (.ireturn, 1) := by decide +kernel
theorem d_law_455 : decode code 455 = .ok (.iload 5, 2) := by decide +kernel
theorem d_law_457 : decode code 457 = .ok (.ifCond .ne 22, 3) := by decide +kernel
theorem d_law_460 : decode code 460 = .ok (.aload_n 3, 1) := by decide +kernel
theorem d_law_461 : decode code 461 = .ok (.iconst 0, 1) := by decide +kernel
theorem d_law_462 : decode code 462 = .ok (.laload, 1) := by decide +kernel
theorem d_law_463 : decode code 463 = .ok (.iload 6, 2) := by decide +kernel
theorem d_law_465 : decode code 465 = .ok (.ifCond .eq 7, 3) := by decide +kernel
theorem d_law_468 : decode code 468 = .ok (.lconst 1, 1) := by decide +kernel
theorem d_law_469 : decode code 469 = .ok (.goto 4, 3) := by decide +kernel
theorem d_law_472 : decode code 472 = .ok (.lconst 0, 1) := by decide +kernel
theorem d_law_473 : decode code 473 = .ok (.lcmp, 1) := by decide +kernel
theorem d_law_474 : decode code 474 = .ok (.ifCond .eq 5, 3) := by decide +kernel
theorem d_law_477 : decode code 477 = .ok (.iconst 0, 1) := by decide +kernel
theorem d_law_478 : decode code 478 = .ok (.ireturn, 1) := by decide +kernel
theorem d_law_479 : decode code 479 = .ok (.goto 652, 3) := by decide +kernel
theorem d_law_482 : decode code 482 = .ok (.aload_n 1, 1) := by decide +kernel
theorem d_law_483 : decode code 483 = .ok (.aload_n 0, 1) := by decide +kernel
theorem d_law_484 : decode code 484 = .ok (.iload 4, 2) := by decide +kernel
theorem d_law_486 : decode code 486 = .ok (.iconst 1, 1) := by decide +kernel
theorem d_law_487 : decode code 487 = .ok (.iadd, 1) := by decide +kernel
theorem d_law_488 : decode code 488 = .ok (.iaload, 1) := by decide +kernel
theorem d_law_489 : decode code 489 = .ok (.aload_n 0, 1) := by decide +kernel
theorem d_law_490 : decode code 490 = .ok (.iload 4, 2) := by decide +kernel
theorem d_law_492 : decode code 492 = .ok (.iconst 2, 1) := by decide +kernel
theorem d_law_493 : decode code 493 = .ok (.iadd, 1) := by decide +kernel
theorem d_law_494 : decode code 494 = .ok (.iaload, 1) := by decide +kernel
theorem d_law_495 : decode code 495 = .ok (.aload_n 0, 1) := by decide +kernel
theorem d_law_496 : decode code 496 = .ok (.iload 4, 2) := by decide +kernel
theorem d_law_498 : decode code 498 = .ok (.iconst 3, 1) := by decide +kernel
theorem d_law_499 : decode code 499 = .ok (.iadd, 1) := by decide +kernel
theorem d_law_500 : decode code 500 = .ok (.iaload, 1) := by decide +kernel
theorem d_law_501 : decode code 501 = .ok (.aload_n 0, 1) := by decide +kernel
theorem d_law_502 : decode code 502 = .ok (.iload 4, 2) := by decide +kernel
theorem d_law_504 : decode code 504 = .ok (.iconst 4, 1) := by decide +kernel
theorem d_law_505 : decode code 505 = .ok (.iadd, 1) := by decide +kernel
theorem d_law_506 : decode code 506 = .ok (.iaload, 1) := by decide +kernel
theorem d_law_507 : decode code 507 = .ok (.aload_n 3, 1) := by decide +kernel
theorem d_law_508 : decode code 508 = .ok (.invokestatic 94, 3) := by decide +kernel
theorem d_law_511 : decode code 511 = .ok (.istore 5, 2) := by decide +kernel
theorem d_law_513 : decode code 513 = .ok (.aload_n 2, 1) := by decide +kernel
theorem d_law_514 : decode code 514 = .ok (.aload_n 0, 1) := by decide +kernel
theorem d_law_515 : decode code 515 = .ok (.iload 4, 2) := by decide +kernel
theorem d_law_517 : decode code 517 = .ok (.iconst 1, 1) := by decide +kernel
theorem d_law_518 : decode code 518 = .ok (.iadd, 1) := by decide +kernel
theorem d_law_519 : decode code 519 = .ok (.iaload, 1) := by decide +kernel
theorem d_law_520 : decode code 520 = .ok (.aload_n 0, 1) := by decide +kernel
theorem d_law_521 : decode code 521 = .ok (.iload 4, 2) := by decide +kernel
theorem d_law_523 : decode code 523 = .ok (.iconst 2, 1) := by decide +kernel
theorem d_law_524 : decode code 524 = .ok (.iadd, 1) := by decide +kernel
theorem d_law_525 : decode code 525 = .ok (.iaload, 1) := by decide +kernel
theorem d_law_526 : decode code 526 = .ok (.aload_n 0, 1) := by decide +kernel
theorem d_law_527 : decode code 527 = .ok (.iload 4, 2) := by decide +kernel
theorem d_law_529 : decode code 529 = .ok (.iconst 3, 1) := by decide +kernel
theorem d_law_530 : decode code 530 = .ok (.iadd, 1) := by decide +kernel
theorem d_law_531 : decode code 531 = .ok (.iaload, 1) := by decide +kernel
theorem d_law_532 : decode code 532 = .ok (.aload_n 0, 1) := by decide +kernel
theorem d_law_533 : decode code 533 = .ok (.iload 4, 2) := by decide +kernel
theorem d_law_535 : decode code 535 = .ok (.iconst 4, 1) := by decide +kernel
theorem d_law_536 : decode code 536 = .ok (.iadd, 1) := by decide +kernel
theorem d_law_537 : decode code 537 = .ok (.iaload, 1) := by decide +kernel
theorem d_law_538 : decode code 538 = .ok (.invokevirtual 97, 3) := by decide +kernel
theorem d_law_541 : decode code 541 = .ok (.istore 6, 2) := by decide +kernel
theorem d_law_543 : decode code 543 = .ok (.aload_n 2, 1) := by decide +kernel
theorem d_law_544 : decode code 544 = .ok (.invokevirtual 80, 3) := by decide +kernel
theorem d_law_547 : decode code 547 = .ok (.iload 5, 2) := by decide +kernel
theorem d_law_549 : decode code 549 = .ok (.if_icmp .eq 5, 3) := by decide +kernel
theorem d_law_552 : decode code 552 = .ok (.iconst 0, 1) := by decide +kernel
theorem d_law_553 : decode code 553 = .ok (.ireturn, 1) := by decide +kernel
theorem d_law_554 : decode code 554 = .ok (.iload 5, 2) := by decide +kernel
theorem d_law_556 : decode code 556 = .ok (.ifCond .ne 15, 3) := by decide +kernel
theorem d_law_559 : decode code 559 = .ok (.aload_n 3, 1) := by decide +kernel
theorem d_law_560 : decode code 560 = .ok (.iconst 0, 1) := by decide +kernel
theorem d_law_561 : decode code 561 = .ok (.laload, 1) := by decide +kernel
theorem d_law_562 : decode code 562 = .ok (.iload 6, 2) := by decide +kernel
theorem d_law_564 : decode code 564 = .ok (.i2l, 1) := by decide +kernel
theorem d_law_565 : decode code 565 = .ok (.lcmp, 1) := by decide +kernel
theorem d_law_566 : decode code 566 = .ok (.ifCond .eq 5, 3) := by decide +kernel
theorem d_law_569 : decode code 569 = .ok (.iconst 0, 1) := by decide +kernel
theorem d_law_570 : decode code 570 = .ok (.ireturn, 1) := by decide +kernel
theorem d_law_571 : decode code 571 = .ok (.goto 560, 3) := by decide +kernel
theorem d_law_574 : decode code 574 = .ok (.aload_n 1, 1) := by decide +kernel
theorem d_law_575 : decode code 575 = .ok (.aload_n 0, 1) := by decide +kernel
theorem d_law_576 : decode code 576 = .ok (.iload 4, 2) := by decide +kernel
theorem d_law_578 : decode code 578 = .ok (.iconst 1, 1) := by decide +kernel
theorem d_law_579 : decode code 579 = .ok (.iadd, 1) := by decide +kernel
theorem d_law_580 : decode code 580 = .ok (.iaload, 1) := by decide +kernel
theorem d_law_581 : decode code 581 = .ok (.aload_n 0, 1) := by decide +kernel
theorem d_law_582 : decode code 582 = .ok (.iload 4, 2) := by decide +kernel
theorem d_law_584 : decode code 584 = .ok (.iconst 2, 1) := by decide +kernel
theorem d_law_585 : decode code 585 = .ok (.iadd, 1) := by decide +kernel
theorem d_law_586 : decode code 586 = .ok (.iaload, 1) := by decide +kernel
theorem d_law_587 : decode code 587 = .ok (.ifCond .eq 7, 3) := by decide +kernel
theorem d_law_590 : decode code 590 = .ok (.iconst 1, 1) := by decide +kernel
theorem d_law_591 : decode code 591 = .ok (.goto 4, 3) := by decide +kernel
theorem d_law_594 : decode code 594 = .ok (.iconst 0, 1) := by decide +kernel
theorem d_law_595 : decode code 595 = .ok (.aload_n 3, 1) := by decide +kernel
theorem d_law_596 : decode code 596 = .ok (.invokestatic 98, 3) := by decide +kernel
theorem d_law_599 : decode code 599 = .ok (.istore 5, 2) := by decide +kernel
theorem d_law_601 : decode code 601 = .ok (.aload_n 2, 1) := by decide +kernel
theorem d_law_602 : decode code 602 = .ok (.aload_n 0, 1) := by decide +kernel
theorem d_law_603 : decode code 603 = .ok (.iload 4, 2) := by decide +kernel
theorem d_law_605 : decode code 605 = .ok (.iconst 1, 1) := by decide +kernel
theorem d_law_606 : decode code 606 = .ok (.iadd, 1) := by decide +kernel
theorem d_law_607 : decode code 607 = .ok (.iaload, 1) := by decide +kernel
theorem d_law_608 : decode code 608 = .ok (.aload_n 0, 1) := by decide +kernel
theorem d_law_609 : decode code 609 = .ok (.iload 4, 2) := by decide +kernel
theorem d_law_611 : decode code 611 = .ok (.iconst 2, 1) := by decide +kernel
theorem d_law_612 : decode code 612 = .ok (.iadd, 1) := by decide +kernel
theorem d_law_613 : decode code 613 = .ok (.iaload, 1) := by decide +kernel
theorem d_law_614 : decode code 614 = .ok (.ifCond .eq 7, 3) := by decide +kernel
theorem d_law_617 : decode code 617 = .ok (.iconst 1, 1) := by decide +kernel
theorem d_law_618 : decode code 618 = .ok (.goto 4, 3) := by decide +kernel
theorem d_law_621 : decode code 621 = .ok (.iconst 0, 1) := by decide +kernel
theorem d_law_622 : decode code 622 = .ok (.invokevirtual 101, 3) := by decide +kernel
theorem d_law_625 : decode code 625 = .ok (.istore 6, 2) := by decide +kernel
theorem d_law_627 : decode code 627 = .ok (.aload_n 2, 1) := by decide +kernel
theorem d_law_628 : decode code 628 = .ok (.invokevirtual 80, 3) := by decide +kernel
theorem d_law_631 : decode code 631 = .ok (.iload 5, 2) := by decide +kernel
theorem d_law_633 : decode code 633 = .ok (.if_icmp .eq 5, 3) := by decide +kernel
theorem d_law_636 : decode code 636 = .ok (.iconst 0, 1) := by decide +kernel
theorem d_law_637 : decode code 637 = .ok (.ireturn, 1) := by decide +kernel
theorem d_law_638 : decode code 638 = .ok (.iload 5, 2) := by decide +kernel
theorem d_law_640 : decode code 640 = .ok (.ifCond .ne 22, 3) := by decide +kernel
theorem d_law_643 : decode code 643 = .ok (.aload_n 3, 1) := by decide +kernel
theorem d_law_644 : decode code 644 = .ok (.iconst 0, 1) := by decide +kernel
theorem d_law_645 : decode code 645 = .ok (.laload, 1) := by decide +kernel
theorem d_law_646 : decode code 646 = .ok (.iload 6, 2) := by decide +kernel
theorem d_law_648 : decode code 648 = .ok (.ifCond .eq 7, 3) := by decide +kernel
theorem d_law_651 : decode code 651 = .ok (.lconst 1, 1) := by decide +kernel
theorem d_law_652 : decode code 652 = .ok (.goto 4, 3) := by decide +kernel
theorem d_law_655 : decode code 655 = .ok (.lconst 0, 1) := by decide +kernel
theorem d_law_656 : decode code 656 = .ok (.lcmp, 1) := by decide +kernel
theorem d_law_657 : decode code 657 = .ok (.ifCond .eq 5, 3) := by decide +kernel
theorem d_law_660 : decode code 660 = .ok (.iconst 0, 1) := by decide +kernel
theorem d_law_661 : decode code 661 = .ok (.ireturn, 1) := by decide +kernel
theorem d_law_662 : decode code 662 = .ok (.goto 469, 3) := by decide +kernel
theorem d_law_665 : decode code 665 = .ok (.aload_n 1, 1) := by decide +kernel
theorem d_law_666 : decode code 666 = .ok (.invokevirtual 102, 3) := by decide +kernel
theorem d_law_669 : decode code 669 = .ok (.aload_n 2, 1) := by decide +kernel
theorem d_law_670 : decode code 670 = .ok (.invokevirtual 105, 3) := by decide +kernel
theorem d_law_673 : decode code 673 = .ok (.if_icmp .eq 458, 3) := by decide +kernel
theorem d_law_676 : decode code 676 = .ok (.iconst 0, 1) := by decide +kernel
theorem d_law_677 : decode code 677 = .ok (.ireturn, 1) := by decide +kernel
theorem d_law_678 : decode code 678 = .ok (.aload_n 1, 1) := by decide +kernel
theorem d_law_679 : decode code 679 = .ok (.aload_n 0, 1) := by decide +kernel
theorem d_law_680 : decode code 680 = .ok (.iload 4, 2) := by decide +kernel
theorem d_law_682 : decode code 682 = .ok (.iconst 1, 1) := by decide +kernel
theorem d_law_683 : decode code 683 = .ok (.iadd, 1) := by decide +kernel
theorem d_law_684 : decode code 684 = .ok (.iaload, 1) := by decide +kernel
theorem d_law_685 : decode code 685 = .ok (.aload_n 3, 1) := by decide +kernel
theorem d_law_686 : decode code 686 = .ok (.invokestatic 106, 3) := by decide +kernel
theorem d_law_689 : decode code 689 = .ok (.istore 5, 2) := by decide +kernel
theorem d_law_691 : decode code 691 = .ok (.aload_n 2, 1) := by decide +kernel
theorem d_law_692 : decode code 692 = .ok (.aload_n 0, 1) := by decide +kernel
theorem d_law_693 : decode code 693 = .ok (.iload 4, 2) := by decide +kernel
theorem d_law_695 : decode code 695 = .ok (.iconst 1, 1) := by decide +kernel
theorem d_law_696 : decode code 696 = .ok (.iadd, 1) := by decide +kernel
theorem d_law_697 : decode code 697 = .ok (.iaload, 1) := by decide +kernel
theorem d_law_698 : decode code 698 = .ok (.invokevirtual 109, 3) := by decide +kernel
theorem d_law_701 : decode code 701 = .ok (.istore 6, 2) := by decide +kernel
theorem d_law_703 : decode code 703 = .ok (.aload_n 2, 1) := by decide +kernel
theorem d_law_704 : decode code 704 = .ok (.invokevirtual 80, 3) := by decide +kernel
theorem d_law_707 : decode code 707 = .ok (.iload 5, 2) := by decide +kernel
theorem d_law_709 : decode code 709 = .ok (.if_icmp .eq 5, 3) := by decide +kernel
theorem d_law_712 : decode code 712 = .ok (.iconst 0, 1) := by decide +kernel
theorem d_law_713 : decode code 713 = .ok (.ireturn, 1) := by decide +kernel
theorem d_law_714 : decode code 714 = .ok (.iload 5, 2) := by decide +kernel
theorem d_law_716 : decode code 716 = .ok (.ifCond .ne 15, 3) := by decide +kernel
theorem d_law_719 : decode code 719 = .ok (.aload_n 3, 1) := by decide +kernel
theorem d_law_720 : decode code 720 = .ok (.iconst 0, 1) := by decide +kernel
theorem d_law_721 : decode code 721 = .ok (.laload, 1) := by decide +kernel
theorem d_law_722 : decode code 722 = .ok (.iload 6, 2) := by decide +kernel
theorem d_law_724 : decode code 724 = .ok (.i2l, 1) := by decide +kernel
theorem d_law_725 : decode code 725 = .ok (.lcmp, 1) := by decide +kernel
theorem d_law_726 : decode code 726 = .ok (.ifCond .eq 5, 3) := by decide +kernel
theorem d_law_729 : decode code 729 = .ok (.iconst 0, 1) := by decide +kernel
theorem d_law_730 : decode code 730 = .ok (.ireturn, 1) := by decide +kernel
theorem d_law_731 : decode code 731 = .ok (.goto 400, 3) := by decide +kernel
theorem d_law_734 : decode code 734 = .ok (.aload_n 1, 1) := by decide +kernel
theorem d_law_735 : decode code 735 = .ok (.aload_n 0, 1) := by decide +kernel
theorem d_law_736 : decode code 736 = .ok (.iload 4, 2) := by decide +kernel
theorem d_law_738 : decode code 738 = .ok (.iconst 1, 1) := by decide +kernel
theorem d_law_739 : decode code 739 = .ok (.iadd, 1) := by decide +kernel
theorem d_law_740 : decode code 740 = .ok (.iaload, 1) := by decide +kernel
theorem d_law_741 : decode code 741 = .ok (.aload_n 3, 1) := by decide +kernel
theorem d_law_742 : decode code 742 = .ok (.invokestatic 110, 3) := by decide +kernel
theorem d_law_745 : decode code 745 = .ok (.istore 5, 2) := by decide +kernel
theorem d_law_747 : decode code 747 = .ok (.aload_n 2, 1) := by decide +kernel
theorem d_law_748 : decode code 748 = .ok (.aload_n 0, 1) := by decide +kernel
theorem d_law_749 : decode code 749 = .ok (.iload 4, 2) := by decide +kernel
theorem d_law_751 : decode code 751 = .ok (.iconst 1, 1) := by decide +kernel
theorem d_law_752 : decode code 752 = .ok (.iadd, 1) := by decide +kernel
theorem d_law_753 : decode code 753 = .ok (.iaload, 1) := by decide +kernel
theorem d_law_754 : decode code 754 = .ok (.invokevirtual 112, 3) := by decide +kernel
theorem d_law_757 : decode code 757 = .ok (.istore 6, 2) := by decide +kernel
theorem d_law_759 : decode code 759 = .ok (.aload_n 2, 1) := by decide +kernel
theorem d_law_760 : decode code 760 = .ok (.invokevirtual 80, 3) := by decide +kernel
theorem d_law_763 : decode code 763 = .ok (.iload 5, 2) := by decide +kernel
theorem d_law_765 : decode code 765 = .ok (.if_icmp .eq 5, 3) := by decide +kernel
theorem d_law_768 : decode code 768 = .ok (.iconst 0, 1) := by decide +kernel
theorem d_law_769 : decode code 769 = .ok (.ireturn, 1) := by decide +kernel
theorem d_law_770 : decode code 770 = .ok (.iload 5, 2) := by decide +kernel
theorem d_law_772 : decode code 772 = .ok (.ifCond .ne 15, 3) := by decide +kernel
theorem d_law_775 : decode code 775 = .ok (.aload_n 3, 1) := by decide +kernel
theorem d_law_776 : decode code 776 = .ok (.iconst 0, 1) := by decide +kernel
theorem d_law_777 : decode code 777 = .ok (.laload, 1) := by decide +kernel
theorem d_law_778 : decode code 778 = .ok (.iload 6, 2) := by decide +kernel
theorem d_law_780 : decode code 780 = .ok (.i2l, 1) := by decide +kernel
theorem d_law_781 : decode code 781 = .ok (.lcmp, 1) := by decide +kernel
theorem d_law_782 : decode code 782 = .ok (.ifCond .eq 5, 3) := by decide +kernel
theorem d_law_785 : decode code 785 = .ok (.iconst 0, 1) := by decide +kernel
theorem d_law_786 : decode code 786 = .ok (.ireturn, 1) := by decide +kernel
theorem d_law_787 : decode code 787 = .ok (.goto 344, 3) := by decide +kernel
theorem d_law_790 : decode code 790 = .ok (.aload_n 1, 1) := by decide +kernel
theorem d_law_791 : decode code 791 = .ok (.aload_n 3, 1) := by decide +kernel
theorem d_law_792 : decode code 792 = .ok (.invokestatic 113, 3) := by decide +kernel
theorem d_law_795 : decode code 795 = .ok (.istore 5, 2) := by decide +kernel
theorem d_law_797 : decode code 797 = .ok (.aload_n 2, 1) := by decide +kernel
theorem d_law_798 : decode code 798 = .ok (.invokevirtual 116, 3) := by decide +kernel
theorem d_law_801 : decode code 801 = .ok (.istore 6, 2) := by decide +kernel
theorem d_law_803 : decode code 803 = .ok (.aload_n 2, 1) := by decide +kernel
theorem d_law_804 : decode code 804 = .ok (.invokevirtual 80, 3) := by decide +kernel
theorem d_law_807 : decode code 807 = .ok (.iload 5, 2) := by decide +kernel
theorem d_law_809 : decode code 809 = .ok (.if_icmp .eq 5, 3) := by decide +kernel
theorem d_law_812 : decode code 812 = .ok (.iconst 0, 1) := by decide +kernel
theorem d_law_813 : decode code 813 = .ok (.ireturn, 1) := by decide +kernel
theorem d_law_814 : decode code 814 = .ok (.iload 5, 2) := by decide +kernel
theorem d_law_816 : decode code 816 = .ok (.ifCond .ne 15, 3) := by decide +kernel
theorem d_law_819 : decode code 819 = .ok (.aload_n 3, 1) := by decide +kernel
theorem d_law_820 : decode code 820 = .ok (.iconst 0, 1) := by decide +kernel
theorem d_law_821 : decode code 821 = .ok (.laload, 1) := by decide +kernel
theorem d_law_822 : decode code 822 = .ok (.iload 6, 2) := by decide +kernel
theorem d_law_824 : decode code 824 = .ok (.i2l, 1) := by decide +kernel
theorem d_law_825 : decode code 825 = .ok (.lcmp, 1) := by decide +kernel
theorem d_law_826 : decode code 826 = .ok (.ifCond .eq 5, 3) := by decide +kernel
theorem d_law_829 : decode code 829 = .ok (.iconst 0, 1) := by decide +kernel
theorem d_law_830 : decode code 830 = .ok (.ireturn, 1) := by decide +kernel
theorem d_law_831 : decode code 831 = .ok (.goto 300, 3) := by decide +kernel
theorem d_law_834 : decode code 834 = .ok (.aload_n 1, 1) := by decide +kernel
theorem d_law_835 : decode code 835 = .ok (.invokevirtual 117, 3) := by decide +kernel
theorem d_law_838 : decode code 838 = .ok (.aload_n 2, 1) := by decide +kernel
theorem d_law_839 : decode code 839 = .ok (.invokevirtual 120, 3) := by decide +kernel
theorem d_law_842 : decode code 842 = .ok (.if_icmp .eq 289, 3) := by decide +kernel
theorem d_law_845 : decode code 845 = .ok (.iconst 0, 1) := by decide +kernel
theorem d_law_846 : decode code 846 = .ok (.ireturn, 1) := by decide +kernel
theorem d_law_847 : decode code 847 = .ok (.aload_n 1, 1) := by decide +kernel
theorem d_law_848 : decode code 848 = .ok (.aload_n 0, 1) := by decide +kernel
theorem d_law_849 : decode code 849 = .ok (.iload 4, 2) := by decide +kernel
theorem d_law_851 : decode code 851 = .ok (.iconst 1, 1) := by decide +kernel
theorem d_law_852 : decode code 852 = .ok (.iadd, 1) := by decide +kernel
theorem d_law_853 : decode code 853 = .ok (.iaload, 1) := by decide +kernel
theorem d_law_854 : decode code 854 = .ok (.aload_n 0, 1) := by decide +kernel
theorem d_law_855 : decode code 855 = .ok (.iload 4, 2) := by decide +kernel
theorem d_law_857 : decode code 857 = .ok (.iconst 2, 1) := by decide +kernel
theorem d_law_858 : decode code 858 = .ok (.iadd, 1) := by decide +kernel
theorem d_law_859 : decode code 859 = .ok (.iaload, 1) := by decide +kernel
theorem d_law_860 : decode code 860 = .ok (.aload_n 3, 1) := by decide +kernel
theorem d_law_861 : decode code 861 = .ok (.invokestatic 121, 3) := by decide +kernel
theorem d_law_864 : decode code 864 = .ok (.istore 5, 2) := by decide +kernel
theorem d_law_866 : decode code 866 = .ok (.aload_n 2, 1) := by decide +kernel
theorem d_law_867 : decode code 867 = .ok (.aload_n 0, 1) := by decide +kernel
theorem d_law_868 : decode code 868 = .ok (.iload 4, 2) := by decide +kernel
theorem d_law_870 : decode code 870 = .ok (.iconst 1, 1) := by decide +kernel
theorem d_law_871 : decode code 871 = .ok (.iadd, 1) := by decide +kernel
theorem d_law_872 : decode code 872 = .ok (.iaload, 1) := by decide +kernel
theorem d_law_873 : decode code 873 = .ok (.aload_n 0, 1) := by decide +kernel
theorem d_law_874 : decode code 874 = .ok (.iload 4, 2) := by decide +kernel
theorem d_law_876 : decode code 876 = .ok (.iconst 2, 1) := by decide +kernel
theorem d_law_877 : decode code 877 = .ok (.iadd, 1) := by decide +kernel
theorem d_law_878 : decode code 878 = .ok (.iaload, 1) := by decide +kernel
theorem d_law_879 : decode code 879 = .ok (.invokevirtual 123, 3) := by decide +kernel
theorem d_law_882 : decode code 882 = .ok (.istore 6, 2) := by decide +kernel
theorem d_law_884 : decode code 884 = .ok (.aload_n 2, 1) := by decide +kernel
theorem d_law_885 : decode code 885 = .ok (.invokevirtual 80, 3) := by decide +kernel
theorem d_law_888 : decode code 888 = .ok (.iload 5, 2) := by decide +kernel
theorem d_law_890 : decode code 890 = .ok (.if_icmp .eq 5, 3) := by decide +kernel
theorem d_law_893 : decode code 893 = .ok (.iconst 0, 1) := by decide +kernel
theorem d_law_894 : decode code 894 = .ok (.ireturn, 1) := by decide +kernel
theorem d_law_895 : decode code 895 = .ok (.iload 5, 2) := by decide +kernel
theorem d_law_897 : decode code 897 = .ok (.ifCond .ne 15, 3) := by decide +kernel
theorem d_law_900 : decode code 900 = .ok (.aload_n 3, 1) := by decide +kernel
theorem d_law_901 : decode code 901 = .ok (.iconst 0, 1) := by decide +kernel
theorem d_law_902 : decode code 902 = .ok (.laload, 1) := by decide +kernel
theorem d_law_903 : decode code 903 = .ok (.iload 6, 2) := by decide +kernel
theorem d_law_905 : decode code 905 = .ok (.i2l, 1) := by decide +kernel
theorem d_law_906 : decode code 906 = .ok (.lcmp, 1) := by decide +kernel
theorem d_law_907 : decode code 907 = .ok (.ifCond .eq 5, 3) := by decide +kernel
theorem d_law_910 : decode code 910 = .ok (.iconst 0, 1) := by decide +kernel
theorem d_law_911 : decode code 911 = .ok (.ireturn, 1) := by decide +kernel
theorem d_law_912 : decode code 912 = .ok (.goto 219, 3) := by decide +kernel
theorem d_law_915 : decode code 915 = .ok (.aload_n 1, 1) := by decide +kernel
theorem d_law_916 : decode code 916 = .ok (.aload_n 0, 1) := by decide +kernel
theorem d_law_917 : decode code 917 = .ok (.iload 4, 2) := by decide +kernel
theorem d_law_919 : decode code 919 = .ok (.iconst 1, 1) := by decide +kernel
theorem d_law_920 : decode code 920 = .ok (.iadd, 1) := by decide +kernel
theorem d_law_921 : decode code 921 = .ok (.iaload, 1) := by decide +kernel
theorem d_law_922 : decode code 922 = .ok (.aload_n 0, 1) := by decide +kernel
theorem d_law_923 : decode code 923 = .ok (.iload 4, 2) := by decide +kernel
theorem d_law_925 : decode code 925 = .ok (.iconst 2, 1) := by decide +kernel
theorem d_law_926 : decode code 926 = .ok (.iadd, 1) := by decide +kernel
theorem d_law_927 : decode code 927 = .ok (.iaload, 1) := by decide +kernel
theorem d_law_928 : decode code 928 = .ok (.aload_n 3, 1) := by decide +kernel
theorem d_law_929 : decode code 929 = .ok (.invokestatic 124, 3) := by decide +kernel
theorem d_law_932 : decode code 932 = .ok (.istore 5, 2) := by decide +kernel
theorem d_law_934 : decode code 934 = .ok (.aload_n 2, 1) := by decide +kernel
theorem d_law_935 : decode code 935 = .ok (.aload_n 0, 1) := by decide +kernel
theorem d_law_936 : decode code 936 = .ok (.iload 4, 2) := by decide +kernel
theorem d_law_938 : decode code 938 = .ok (.iconst 1, 1) := by decide +kernel
theorem d_law_939 : decode code 939 = .ok (.iadd, 1) := by decide +kernel
theorem d_law_940 : decode code 940 = .ok (.iaload, 1) := by decide +kernel
theorem d_law_941 : decode code 941 = .ok (.aload_n 0, 1) := by decide +kernel
theorem d_law_942 : decode code 942 = .ok (.iload 4, 2) := by decide +kernel
theorem d_law_944 : decode code 944 = .ok (.iconst 2, 1) := by decide +kernel
theorem d_law_945 : decode code 945 = .ok (.iadd, 1) := by decide +kernel
theorem d_law_946 : decode code 946 = .ok (.iaload, 1) := by decide +kernel
theorem d_law_947 : decode code 947 = .ok (.invokevirtual 126, 3) := by decide +kernel
theorem d_law_950 : decode code 950 = .ok (.istore 6, 2) := by decide +kernel
theorem d_law_952 : decode code 952 = .ok (.aload_n 2, 1) := by decide +kernel
theorem d_law_953 : decode code 953 = .ok (.invokevirtual 80, 3) := by decide +kernel
theorem d_law_956 : decode code 956 = .ok (.iload 5, 2) := by decide +kernel
theorem d_law_958 : decode code 958 = .ok (.if_icmp .eq 5, 3) := by decide +kernel
theorem d_law_961 : decode code 961 = .ok (.iconst 0, 1) := by decide +kernel
theorem d_law_962 : decode code 962 = .ok (.ireturn, 1) := by decide +kernel
theorem d_law_963 : decode code 963 = .ok (.iload 5, 2) := by decide +kernel
theorem d_law_965 : decode code 965 = .ok (.ifCond .ne 15, 3) := by decide +kernel
theorem d_law_968 : decode code 968 = .ok (.aload_n 3, 1) := by decide +kernel
theorem d_law_969 : decode code 969 = .ok (.iconst 0, 1) := by decide +kernel
theorem d_law_970 : decode code 970 = .ok (.laload, 1) := by decide +kernel
theorem d_law_971 : decode code 971 = .ok (.iload 6, 2) := by decide +kernel
theorem d_law_973 : decode code 973 = .ok (.i2l, 1) := by decide +kernel
theorem d_law_974 : decode code 974 = .ok (.lcmp, 1) := by decide +kernel
theorem d_law_975 : decode code 975 = .ok (.ifCond .eq 5, 3) := by decide +kernel
theorem d_law_978 : decode code 978 = .ok (.iconst 0, 1) := by decide +kernel
theorem d_law_979 : decode code 979 = .ok (.ireturn, 1) := by decide +kernel
theorem d_law_980 : decode code 980 = .ok (.goto 151, 3) := by decide +kernel
theorem d_law_983 : decode code 983 = .ok (.aload_n 1, 1) := by decide +kernel
theorem d_law_984 : decode code 984 = .ok (.aload_n 0, 1) := by decide +kernel
theorem d_law_985 : decode code 985 = .ok (.iload 4, 2) := by decide +kernel
theorem d_law_987 : decode code 987 = .ok (.iconst 1, 1) := by decide +kernel
theorem d_law_988 : decode code 988 = .ok (.iadd, 1) := by decide +kernel
theorem d_law_989 : decode code 989 = .ok (.iaload, 1) := by decide +kernel
theorem d_law_990 : decode code 990 = .ok (.aload_n 3, 1) := by decide +kernel
theorem d_law_991 : decode code 991 = .ok (.invokestatic 127, 3) := by decide +kernel
theorem d_law_994 : decode code 994 = .ok (.istore 5, 2) := by decide +kernel
theorem d_law_996 : decode code 996 = .ok (.aload_n 2, 1) := by decide +kernel
theorem d_law_997 : decode code 997 = .ok (.aload_n 0, 1) := by decide +kernel
theorem d_law_998 : decode code 998 = .ok (.iload 4, 2) := by decide +kernel
theorem d_law_1000 : decode code 1000 = .ok (.iconst 1, 1) := by decide +kernel
theorem d_law_1001 : decode code 1001 = .ok (.iadd, 1) := by decide +kernel
theorem d_law_1002 : decode code 1002 = .ok (.iaload, 1) := by decide +kernel
theorem d_law_1003 : decode code 1003 = .ok (.invokevirtual 129, 3) := by decide +kernel
theorem d_law_1006 : decode code 1006 = .ok (.istore 6, 2) := by decide +kernel
theorem d_law_1008 : decode code 1008 = .ok (.aload_n 2, 1) := by decide +kernel
theorem d_law_1009 : decode code 1009 = .ok (.invokevirtual 80, 3) := by decide +kernel
theorem d_law_1012 : decode code 1012 = .ok (.iload 5, 2) := by decide +kernel
theorem d_law_1014 : decode code 1014 = .ok (.if_icmp .eq 5, 3) := by decide +kernel
theorem d_law_1017 : decode code 1017 = .ok (.iconst 0, 1) := by decide +kernel
theorem d_law_1018 : decode code 1018 = .ok (.ireturn, 1) := by decide +kernel
theorem d_law_1019 : decode code 1019 = .ok (.iload 5, 2) := by decide +kernel
theorem d_law_1021 : decode code 1021 = .ok (.ifCond .ne 15, 3) := by decide +kernel
theorem d_law_1024 : decode code 1024 = .ok (.aload_n 3, 1) := by decide +kernel
theorem d_law_1025 : decode code 1025 = .ok (.iconst 0, 1) := by decide +kernel
theorem d_law_1026 : decode code 1026 = .ok (.laload, 1) := by decide +kernel
theorem d_law_1027 : decode code 1027 = .ok (.iload 6, 2) := by decide +kernel
theorem d_law_1029 : decode code 1029 = .ok (.i2l, 1) := by decide +kernel
theorem d_law_1030 : decode code 1030 = .ok (.lcmp, 1) := by decide +kernel
theorem d_law_1031 : decode code 1031 = .ok (.ifCond .eq 5, 3) := by decide +kernel
theorem d_law_1034 : decode code 1034 = .ok (.iconst 0, 1) := by decide +kernel
theorem d_law_1035 : decode code 1035 = .ok (.ireturn, 1) := by decide +kernel
theorem d_law_1036 : decode code 1036 = .ok (.goto 95, 3) := by decide +kernel
theorem d_law_1039 : decode code 1039 = .ok (.aload_n 1, 1) := by decide +kernel
theorem d_law_1040 : decode code 1040 = .ok (.aload_n 0, 1) := by decide +kernel
theorem d_law_1041 : decode code 1041 = .ok (.iload 4, 2) := by decide +kernel
theorem d_law_1043 : decode code 1043 = .ok (.iconst 1, 1) := by decide +kernel
theorem d_law_1044 : decode code 1044 = .ok (.iadd, 1) := by decide +kernel
theorem d_law_1045 : decode code 1045 = .ok (.iaload, 1) := by decide +kernel
theorem d_law_1046 : decode code 1046 = .ok (.aload_n 3, 1) := by decide +kernel
theorem d_law_1047 : decode code 1047 = .ok (.invokestatic 130, 3) := by decide +kernel
theorem d_law_1050 : decode code 1050 = .ok (.istore 5, 2) := by decide +kernel
theorem d_law_1052 : decode code 1052 = .ok (.aload_n 2, 1) := by decide +kernel
theorem d_law_1053 : decode code 1053 = .ok (.aload_n 0, 1) := by decide +kernel
theorem d_law_1054 : decode code 1054 = .ok (.iload 4, 2) := by decide +kernel
theorem d_law_1056 : decode code 1056 = .ok (.iconst 1, 1) := by decide +kernel
theorem d_law_1057 : decode code 1057 = .ok (.iadd, 1) := by decide +kernel
theorem d_law_1058 : decode code 1058 = .ok (.iaload, 1) := by decide +kernel
theorem d_law_1059 : decode code 1059 = .ok (.invokevirtual 132, 3) := by decide +kernel
theorem d_law_1062 : decode code 1062 = .ok (.istore 6, 2) := by decide +kernel
theorem d_law_1064 : decode code 1064 = .ok (.aload_n 2, 1) := by decide +kernel
theorem d_law_1065 : decode code 1065 = .ok (.invokevirtual 80, 3) := by decide +kernel
theorem d_law_1068 : decode code 1068 = .ok (.iload 5, 2) := by decide +kernel
theorem d_law_1070 : decode code 1070 = .ok (.if_icmp .eq 5, 3) := by decide +kernel
theorem d_law_1073 : decode code 1073 = .ok (.iconst 0, 1) := by decide +kernel
theorem d_law_1074 : decode code 1074 = .ok (.ireturn, 1) := by decide +kernel
theorem d_law_1075 : decode code 1075 = .ok (.iload 5, 2) := by decide +kernel
theorem d_law_1077 : decode code 1077 = .ok (.ifCond .ne 15, 3) := by decide +kernel
theorem d_law_1080 : decode code 1080 = .ok (.aload_n 3, 1) := by decide +kernel
theorem d_law_1081 : decode code 1081 = .ok (.iconst 0, 1) := by decide +kernel
theorem d_law_1082 : decode code 1082 = .ok (.laload, 1) := by decide +kernel
theorem d_law_1083 : decode code 1083 = .ok (.iload 6, 2) := by decide +kernel
theorem d_law_1085 : decode code 1085 = .ok (.i2l, 1) := by decide +kernel
theorem d_law_1086 : decode code 1086 = .ok (.lcmp, 1) := by decide +kernel
theorem d_law_1087 : decode code 1087 = .ok (.ifCond .eq 5, 3) := by decide +kernel
theorem d_law_1090 : decode code 1090 = .ok (.iconst 0, 1) := by decide +kernel
theorem d_law_1091 : decode code 1091 = .ok (.ireturn, 1) := by decide +kernel
theorem d_law_1092 : decode code 1092 = .ok (.goto 39, 3) := by decide +kernel
theorem d_law_1095 : decode code 1095 = .ok (.aload_n 1, 1) := by decide +kernel
theorem d_law_1096 : decode code 1096 = .ok (.aload_n 0, 1) := by decide +kernel
theorem d_law_1097 : decode code 1097 = .ok (.iload 4, 2) := by decide +kernel
theorem d_law_1099 : decode code 1099 = .ok (.iconst 1, 1) := by decide +kernel
theorem d_law_1100 : decode code 1100 = .ok (.iadd, 1) := by decide +kernel
theorem d_law_1101 : decode code 1101 = .ok (.iaload, 1) := by decide +kernel
theorem d_law_1102 : decode code 1102 = .ok (.invokevirtual 133, 3) := by decide +kernel
theorem d_law_1105 : decode code 1105 = .ok (.aload_n 2, 1) := by decide +kernel
theorem d_law_1106 : decode code 1106 = .ok (.aload_n 0, 1) := by decide +kernel
theorem d_law_1107 : decode code 1107 = .ok (.iload 4, 2) := by decide +kernel
theorem d_law_1109 : decode code 1109 = .ok (.iconst 1, 1) := by decide +kernel
theorem d_law_1110 : decode code 1110 = .ok (.iadd, 1) := by decide +kernel
theorem d_law_1111 : decode code 1111 = .ok (.iaload, 1) := by decide +kernel
theorem d_law_1112 : decode code 1112 = .ok (.invokevirtual 136, 3) := by decide +kernel
theorem d_law_1115 : decode code 1115 = .ok (.if_icmp .eq 16, 3) := by decide +kernel
theorem d_law_1118 : decode code 1118 = .ok (.iconst 0, 1) := by decide +kernel
theorem d_law_1119 : decode code 1119 = .ok (.ireturn, 1) := by decide +kernel
theorem d_law_1120 : decode code 1120 = .ok (.aload_n 1, 1) := by decide +kernel
theorem d_law_1121 : decode code 1121 = .ok (.invokevirtual 137, 3) := by decide +kernel
theorem d_law_1124 : decode code 1124 = .ok (.aload_n 2, 1) := by decide +kernel
theorem d_law_1125 : decode code 1125 = .ok (.invokevirtual 140, 3) := by decide +kernel
theorem d_law_1128 : decode code 1128 = .ok (.goto 3, 3) := by decide +kernel
theorem d_law_1131 : decode code 1131 = .ok (.iinc 4 5, 3) := by decide +kernel
theorem d_law_1134 : decode code 1134 = .ok (.goto (-1101), 3) := by decide +kernel
theorem d_law_1137 : decode code 1137 = .ok (.iconst 1, 1) := by decide +kernel
theorem d_law_1138 : decode code 1138 = .ok (.ireturn, 1) := by decide +kernel
def T_P_symbol (Rl : Sd → Sy → Sy → Br → Br → Wr → Rd → Pb → Mo → Prop) (sd : Sd) (cu sp : Sy) (w v : Br) (wr : Wr) (rd : Rd) (pb : Pb) (mo : Mo) (x1 : Int32) (x2 : Int32) : Prop := (∃ (r : Int32) (cu' : Sy) (mo' : Mo), f_SD_symbol sd cu x1 x2 = some (r, cu') ∧ f_Model_symbol mo x1 x2 = some (r, mo') ∧ Mo_code mo' = 0 ∧ Rl sd cu' sp w v wr rd pb mo') ∨ (e_SD_symbol sd cu x1 x2 = some 1 ∧ ∃ (q : Int32) (mo' : Mo), f_Model_symbol mo x1 x2 = some (q, mo') ∧ Mo_code mo' = 1 ∧ Rl sd cu sp w v wr rd pb mo') ∨ (e_SD_symbol sd cu x1 x2 = some 4 ∧ ∃ (q : Int32) (mo' : Mo), f_Model_symbol mo x1 x2 = some (q, mo') ∧ Mo_code mo' = 2 ∧ Rl sd cu sp w v wr rd pb mo')
def T_P_put (Rl : Sd → Sy → Sy → Br → Br → Wr → Rd → Pb → Mo → Prop) (sd : Sd) (cu sp : Sy) (w v : Br) (wr : Wr) (rd : Rd) (pb : Pb) (mo : Mo) (x1 : Int32) (x2 : Int32) (x3 : Int32) (x4 : Int32) : Prop := (∃ (r : Int32) (cu' : Sy) (mo' : Mo), f_SD_put sd cu x1 x2 x3 x4 = some (r, cu') ∧ f_Model_put mo x1 x2 x3 x4 = some (r, mo') ∧ Mo_code mo' = 0 ∧ Rl sd cu' sp w v wr rd pb mo') ∨ (e_SD_put sd cu x1 x2 x3 x4 = some 3 ∧ ∃ (q : Int32) (mo' : Mo), f_Model_put mo x1 x2 x3 x4 = some (q, mo') ∧ Mo_code mo' = 1 ∧ Rl sd cu sp w v wr rd pb mo')
def T_P_row (Rl : Sd → Sy → Sy → Br → Br → Wr → Rd → Pb → Mo → Prop) (sd : Sd) (cu sp : Sy) (w v : Br) (wr : Wr) (rd : Rd) (pb : Pb) (mo : Mo) (x1 : Int32) (x2 : Int32) (x3 : Int32) : Prop := (∃ (r : Int32) (cu' : Sy) (mo' : Mo), f_SD_row sd cu x1 x2 x3 = some (r, cu') ∧ f_Model_row mo x1 x2 x3 = some (r, mo') ∧ Mo_code mo' = 0 ∧ Rl sd cu' sp w v wr rd pb mo') ∨ (e_SD_row sd cu x1 x2 x3 = some 3 ∧ ∃ (q : Int32) (mo' : Mo), f_Model_row mo x1 x2 x3 = some (q, mo') ∧ Mo_code mo' = 1 ∧ Rl sd cu sp w v wr rd pb mo')
def T_P_at (Rl : Sd → Sy → Sy → Br → Br → Wr → Rd → Pb → Mo → Prop) (sd : Sd) (cu sp : Sy) (w v : Br) (wr : Wr) (rd : Rd) (pb : Pb) (mo : Mo) (x1 : Int32) (x2 : Int32) (x3 : Int32) : Prop := (∃ (r : Int32) (mo' : Mo), f_SD_at sd cu x1 x2 x3 = some r ∧ f_Model_at mo x1 x2 x3 = some (r, mo') ∧ Mo_code mo' = 0 ∧ Rl sd cu sp w v wr rd pb mo') ∨ (e_SD_at sd cu x1 x2 x3 = some 3 ∧ ∃ (q : Int32) (mo' : Mo), f_Model_at mo x1 x2 x3 = some (q, mo') ∧ Mo_code mo' = 1 ∧ Rl sd cu sp w v wr rd pb mo')
def T_P_refined (Rl : Sd → Sy → Sy → Br → Br → Wr → Rd → Pb → Mo → Prop) (sd : Sd) (cu sp : Sy) (w v : Br) (wr : Wr) (rd : Rd) (pb : Pb) (mo : Mo) (x1 : Int32) (x2 : Int32) (x3 : Int32) (x4 : Int32) : Prop := (∃ (r : Int32) (cu' : Sy) (mo' : Mo), f_SD_refined sd cu x1 x2 x3 x4 = some (r, cu') ∧ f_Model_refined mo x1 x2 x3 x4 = some (r, mo') ∧ Mo_code mo' = 0 ∧ Rl sd cu' sp w v wr rd pb mo') ∨ (e_SD_refined sd cu x1 x2 x3 x4 = some 3 ∧ ∃ (q : Int32) (mo' : Mo), f_Model_refined mo x1 x2 x3 x4 = some (q, mo') ∧ Mo_code mo' = 1 ∧ Rl sd cu sp w v wr rd pb mo') ∨ (e_SD_refined sd cu x1 x2 x3 x4 = some 1 ∧ ∃ (q : Int32) (mo' : Mo), f_Model_refined mo x1 x2 x3 x4 = some (q, mo') ∧ Mo_code mo' = 2 ∧ Rl sd cu sp w v wr rd pb mo') ∨ (e_SD_refined sd cu x1 x2 x3 x4 = some 2 ∧ ∃ (q : Int32) (mo' : Mo), f_Model_refined mo x1 x2 x3 x4 = some (q, mo') ∧ Mo_code mo' = 3 ∧ Rl sd cu sp w v wr rd pb mo')
def T_P_export (Rl : Sd → Sy → Sy → Br → Br → Wr → Rd → Pb → Mo → Prop) (sd : Sd) (cu sp : Sy) (w v : Br) (wr : Wr) (rd : Rd) (pb : Pb) (mo : Mo) (x1 : Int32) (x2 : Int32) : Prop := (∃ (r : Int32) (cu' : Sy) (mo' : Mo), f_SD_export sd cu x1 x2 = some (r, cu') ∧ f_Model_export mo x1 x2 = some (r, mo') ∧ Mo_code mo' = 0 ∧ Rl sd cu' sp w v wr rd pb mo') ∨ (e_SD_export sd cu x1 x2 = some 3 ∧ ∃ (q : Int32) (mo' : Mo), f_Model_export mo x1 x2 = some (q, mo') ∧ Mo_code mo' = 1 ∧ Rl sd cu sp w v wr rd pb mo')
def T_P_write (Rl : Sd → Sy → Sy → Br → Br → Wr → Rd → Pb → Mo → Prop) (sd : Sd) (cu sp : Sy) (w v : Br) (wr : Wr) (rd : Rd) (pb : Pb) (mo : Mo) : Prop := ∃ (r : Int32) (wr' : Wr) (pb' : Pb) (w' : Br) (mo' : Mo), f_P_SD_write sd wr pb w cu = some (r, wr', pb', w') ∧ f_Model_write mo = some (r, mo') ∧ Rl sd cu sp w' v wr' rd pb' mo'
def T_P_byteAt (Rl : Sd → Sy → Sy → Br → Br → Wr → Rd → Pb → Mo → Prop) (sd : Sd) (cu sp : Sy) (w v : Br) (wr : Wr) (rd : Rd) (pb : Pb) (mo : Mo) (x1 : Int32) : Prop := (∃ (r : Int32) (mo' : Mo), f_SD_byteAt sd w x1 = some r ∧ f_Model_byteAt mo x1 = some (r, mo') ∧ Mo_code mo' = 0 ∧ Rl sd cu sp w v wr rd pb mo') ∨ (e_SD_byteAt sd w x1 = some 3 ∧ ∃ (q : Int32) (mo' : Mo), f_Model_byteAt mo x1 = some (q, mo') ∧ Mo_code mo' = 1 ∧ Rl sd cu sp w v wr rd pb mo')
def T_P_feed (Rl : Sd → Sy → Sy → Br → Br → Wr → Rd → Pb → Mo → Prop) (sd : Sd) (cu sp : Sy) (w v : Br) (wr : Wr) (rd : Rd) (pb : Pb) (mo : Mo) (x1 : Int32) : Prop := (∃ (r : Int32) (v' : Br) (mo' : Mo), f_SD_feed sd v x1 = some (r, v') ∧ f_Model_feed mo x1 = some (r, mo') ∧ Mo_code mo' = 0 ∧ Rl sd cu sp w v' wr rd pb mo') ∨ (e_SD_feed sd v x1 = some 1 ∧ ∃ (q : Int32) (mo' : Mo), f_Model_feed mo x1 = some (q, mo') ∧ Mo_code mo' = 1 ∧ Rl sd cu sp w v wr rd pb mo') ∨ (e_SD_feed sd v x1 = some 4 ∧ ∃ (q : Int32) (mo' : Mo), f_Model_feed mo x1 = some (q, mo') ∧ Mo_code mo' = 2 ∧ Rl sd cu sp w v wr rd pb mo')
def T_P_pass (Rl : Sd → Sy → Sy → Br → Br → Wr → Rd → Pb → Mo → Prop) (sd : Sd) (cu sp : Sy) (w v : Br) (wr : Wr) (rd : Rd) (pb : Pb) (mo : Mo) : Prop := (∃ (r : Int32) (v' : Br) (mo' : Mo), f_SD_pass sd w v = some (r, v') ∧ f_Model_pass mo = some (r, mo') ∧ Mo_code mo' = 0 ∧ Rl sd cu sp w v' wr rd pb mo') ∨ (e_SD_pass sd w v = some 4 ∧ ∃ (q : Int32) (mo' : Mo), f_Model_pass mo = some (q, mo') ∧ Mo_code mo' = 1 ∧ Rl sd cu sp w v wr rd pb mo')
def T_P_read (Rl : Sd → Sy → Sy → Br → Br → Wr → Rd → Pb → Mo → Prop) (sd : Sd) (cu sp : Sy) (w v : Br) (wr : Wr) (rd : Rd) (pb : Pb) (mo : Mo) : Prop := (∃ (r : Int32) (rd' : Rd) (pb' : Pb) (v' : Br) (sp' : Sy) (mo' : Mo), f_P_SD_readN sd rd pb v cu sp = some (r, rd', pb', v', sp') ∧ f_Model_read mo = some (r, mo') ∧ Br_byL v' = Br_byL v ∧ Rl sd cu sp' w v' wr rd' pb' mo') ∨ (∃ (r : Int32) (rd' : Rd) (pb' : Pb) (v' : Br) (sp' : Sy) (mo' : Mo), f_P_SD_readY sd rd pb v cu sp = some (r, rd', pb', v', sp') ∧ f_Model_read mo = some (r, mo') ∧ Br_byL v' = Br_byL v ∧ Rl sd sp' cu w v' wr rd' pb' mo')
def T_P_told (Rl : Sd → Sy → Sy → Br → Br → Wr → Rd → Pb → Mo → Prop) (sd : Sd) (cu sp : Sy) (w v : Br) (wr : Wr) (rd : Rd) (pb : Pb) (mo : Mo) (x1 : Int32) (x2 : Int32) : Prop := (∃ (r : Int32) (mo' : Mo), f_SD_told sd cu x1 x2 = some r ∧ f_Model_told mo x1 x2 = some (r, mo') ∧ Mo_code mo' = 0 ∧ Rl sd cu sp w v wr rd pb mo') ∨ (e_SD_told sd cu x1 x2 = some 3 ∧ ∃ (q : Int32) (mo' : Mo), f_Model_told mo x1 x2 = some (q, mo') ∧ Mo_code mo' = 1 ∧ Rl sd cu sp w v wr rd pb mo') ∨ (e_SD_told sd cu x1 x2 = some 1 ∧ ∃ (q : Int32) (mo' : Mo), f_Model_told mo x1 x2 = some (q, mo') ∧ Mo_code mo' = 2 ∧ Rl sd cu sp w v wr rd pb mo')
def T_P_likeness (Rl : Sd → Sy → Sy → Br → Br → Wr → Rd → Pb → Mo → Prop) (sd : Sd) (cu sp : Sy) (w v : Br) (wr : Wr) (rd : Rd) (pb : Pb) (mo : Mo) (x1 : Int32) (x2 : Int32) : Prop := (∃ (r : Int32) (mo' : Mo), f_SD_likeness sd cu x1 x2 = some r ∧ f_Model_likeness mo x1 x2 = some (r, mo') ∧ Mo_code mo' = 0 ∧ Rl sd cu sp w v wr rd pb mo') ∨ (e_SD_likeness sd cu x1 x2 = some 3 ∧ ∃ (q : Int32) (mo' : Mo), f_Model_likeness mo x1 x2 = some (q, mo') ∧ Mo_code mo' = 1 ∧ Rl sd cu sp w v wr rd pb mo')
def T_P_classes (Rl : Sd → Sy → Sy → Br → Br → Wr → Rd → Pb → Mo → Prop) (sd : Sd) (cu sp : Sy) (w v : Br) (wr : Wr) (rd : Rd) (pb : Pb) (mo : Mo) (x1 : Int32) : Prop := (∃ (r : Int32) (cu' : Sy) (mo' : Mo), f_SD_classes sd cu x1 = some (r, cu') ∧ f_Model_classes mo x1 = some (r, mo') ∧ Mo_code mo' = 0 ∧ Rl sd cu' sp w v wr rd pb mo') ∨ (e_SD_classes sd cu x1 = some 1 ∧ ∃ (q : Int32) (mo' : Mo), f_Model_classes mo x1 = some (q, mo') ∧ Mo_code mo' = 1 ∧ Rl sd cu sp w v wr rd pb mo')
def T_P_cls (Rl : Sd → Sy → Sy → Br → Br → Wr → Rd → Pb → Mo → Prop) (sd : Sd) (cu sp : Sy) (w v : Br) (wr : Wr) (rd : Rd) (pb : Pb) (mo : Mo) (x1 : Int32) : Prop := (∃ (r : Int32) (mo' : Mo), f_SD_cls sd cu x1 = some r ∧ f_Model_cls mo x1 = some (r, mo') ∧ Mo_code mo' = 0 ∧ Rl sd cu sp w v wr rd pb mo') ∨ (e_SD_cls sd cu x1 = some 3 ∧ ∃ (q : Int32) (mo' : Mo), f_Model_cls mo x1 = some (q, mo') ∧ Mo_code mo' = 1 ∧ Rl sd cu sp w v wr rd pb mo')
def T_P_count (Rl : Sd → Sy → Sy → Br → Br → Wr → Rd → Pb → Mo → Prop) (sd : Sd) (cu sp : Sy) (w v : Br) (wr : Wr) (rd : Rd) (pb : Pb) (mo : Mo) (x1 : Int32) : Prop := ∃ (r : Int32) (mo' : Mo), f_SD_count sd cu w v x1 = some r ∧ f_Model_count mo x1 = some (r, mo') ∧ Rl sd cu sp w v wr rd pb mo'
def T_P_clear (Rl : Sd → Sy → Sy → Br → Br → Wr → Rd → Pb → Mo → Prop) (sd : Sd) (cu sp : Sy) (w v : Br) (wr : Wr) (rd : Rd) (pb : Pb) (mo : Mo) : Prop := ∃ (cu' : Sy) (w' v' : Br) (mo' : Mo), f_SD_clear sd cu w v = some (cu', w', v') ∧ f_Model_clear mo = some mo' ∧ Br_byL w' = Br_byL w ∧ Br_byL v' = Br_byL v ∧ Rl sd cu' sp w' v' wr rd pb mo'
set_option maxHeartbeats 8000000 in
set_option maxRecDepth 100000 in
theorem L_P_symbol {p : Program} {l : Launch} {e : Env} {R : Room} {s : State} {m : MethodId} {args : Array Value} {below : List Frame} {meth : Method} {c : Code} {Q : State → Prop} {A : Nat → Prop} {dC : Nat → ClassId} {dI : Nat → Nat → Nat} {cI cZ cJ : ClassId} {sd_a cu_a sp_a : Nat → Nat} {w_a w_b v_a v_b : Nat} {wr_a rd_a pb_a mo_a ou_a : Nat → Nat} {sd : Sd} {cu sp : Sy} {w v : Br} {wr : Wr} {rd : Rd} {pb : Pb} {mo : Mo} {ou : Ou} {b L : Nat} {xs : Nat → Int32} {i : Int32} {j : Nat} {Rl : Sd → Sy → Sy → Br → Br → Wr → Rd → Pb → Mo → Prop} (hl9 : l.stackTraces = false) (C0 : lcx p c m s args R (dC, dI) (TYS cI cZ cJ) A b L xs i j) (hRb : ∀ sd cu sp w v wr rd pb mo, Rl sd cu sp w v wr rd pb mo → Br_byL w ≤ 40000 ∧ Br_byL v ≤ 40000) (hR0 : Rl sd cu sp w v wr rd pb mo) (hT0 : T_P_symbol Rl sd cu sp w v wr rd pb mo (xs (i + 1).toNatClampNeg) (xs (i + 2).toNatClampNeg))
    (hk : ∀ (H : Heap) (locs : List Loc) (ls : Array Slot) (cu_a sp_a : Nat → Nat) (w_b v_b : Nat) (cu sp : Sy) (w v : Br) (wr : Wr) (rd : Rd) (pb : Pb) (mo : Mo) (ou : Ou), Rl sd cu sp w v wr rd pb mo → va_P (dC, dI) vwCl (wSd cI cZ cJ sd_a w_a v_a (wr_a 0) (rd_a 0) (cu_a 0) (sp_a 0) sd ++ wSy cI cZ cJ cu_a cu ++ wSy cI cZ cJ sp_a sp ++ wBr cI cZ cJ w_a w_b w ++ wBr cI cZ cJ v_a v_b v ++ wWr cI cZ cJ wr_a (pb_a 0) wr ++ wRd cI cZ cJ rd_a (pb_a 0) rd ++ wPb cI cZ cJ pb_a w_a v_a pb ++ wMo cI cZ cJ mo_a mo ++ wOu cI cZ cJ ou_a ou) H → va_D A (wSd cI cZ cJ sd_a w_a v_a (wr_a 0) (rd_a 0) (cu_a 0) (sp_a 0) sd ++ wSy cI cZ cJ cu_a cu ++ wSy cI cZ cJ sp_a sp ++ wBr cI cZ cJ w_a w_b w ++ wBr cI cZ cJ v_a v_b v ++ wWr cI cZ cJ wr_a (pb_a 0) wr ++ wRd cI cZ cJ rd_a (pb_a 0) rd ++ wPb cI cZ cJ pb_a w_a v_a pb ++ wMo cI cZ cJ mo_a mo ++ wOu cI cZ cJ ou_a ou) → va_S A s.heap H locs → lv_has ls 7 [(0, .ref b), (1, .ref (sd_a 0)), (2, .ref (mo_a 0)), (3, .ref (ou_a 0)), (4, .int i)] → W p l e R s m args below meth c H locs (j + 1 + Br_byL w + Br_byL v) (6 * (j + 1) + 2 * Br_byL w + 2 * Br_byL v) Q (F0 m 1131 ls []))
    {H : Heap} {locs : List Loc} {ls : Array Slot} (hP : va_P (dC, dI) vwCl (wSd cI cZ cJ sd_a w_a v_a (wr_a 0) (rd_a 0) (cu_a 0) (sp_a 0) sd ++ wSy cI cZ cJ cu_a cu ++ wSy cI cZ cJ sp_a sp ++ wBr cI cZ cJ w_a w_b w ++ wBr cI cZ cJ v_a v_b v ++ wWr cI cZ cJ wr_a (pb_a 0) wr ++ wRd cI cZ cJ rd_a (pb_a 0) rd ++ wPb cI cZ cJ pb_a w_a v_a pb ++ wMo cI cZ cJ mo_a mo ++ wOu cI cZ cJ ou_a ou) H) (hD : va_D A (wSd cI cZ cJ sd_a w_a v_a (wr_a 0) (rd_a 0) (cu_a 0) (sp_a 0) sd ++ wSy cI cZ cJ cu_a cu ++ wSy cI cZ cJ sp_a sp ++ wBr cI cZ cJ w_a w_b w ++ wBr cI cZ cJ v_a v_b v ++ wWr cI cZ cJ wr_a (pb_a 0) wr ++ wRd cI cZ cJ rd_a (pb_a 0) rd ++ wPb cI cZ cJ pb_a w_a v_a pb ++ wMo cI cZ cJ mo_a mo ++ wOu cI cZ cJ ou_a ou)) (hS : va_S A s.heap H locs) (hl : lv_has ls 7 [(0, .ref b), (1, .ref (sd_a 0)), (2, .ref (mo_a 0)), (3, .ref (ou_a 0)), (4, .int i)]) : W p l e R s m args below meth c H locs (j + Br_byL w + Br_byL v) (6 * j + 2 * Br_byL w + 2 * Br_byL v) Q (F0 m 132 ls []) := by
  obtain ⟨hx, hb, hml, hown, hts, hK, hA, hA2, hRf, hRl, hN, hT, hX, hX0, hbl, hin, hj, hRc, hRs⟩ := C0
  have hbA : ¬ A b := fun h => absurd (hA2 b h) (Nat.not_le.mpr hbl)
  obtain ⟨hw0, hv0⟩ := hRb _ _ _ _ _ _ _ _ _ hR0
  unfold T_P_symbol at hT0
  rcases hT0 with ⟨r, cu', mo', hf, hg, hcode, hrel⟩ | ⟨hf, q, mo', hg, hcode, hrel⟩ | ⟨hf, q, mo', hg, hcode, hrel⟩
  · obtain ⟨ou', heou⟩ : ∃ z : Ou, z = (vp_updL (Ou_f ou) 0 r.toInt64) := ⟨_, rfl⟩
    have hf1 : f_Law_symbol sd cu ou (xs (i + 1).toNatClampNeg) (xs (i + 2).toNatClampNeg) = some (0, cu', ou') := by
      rw [f_Law_symbol, hf, bd_s, heou]
      rfl
    have hou : Ou_f ou' (0 : Int32).toNatClampNeg = r.toInt64 := by rw [heou]; exact updL_at _ _ _
    refine lv_aload_n hx hb d_law_132 rfl (lv_at hl 1 rfl) ?_
    refine lv_aload_n hx hb d_law_133 rfl (lv_at hl 0 rfl) ?_
    refine lv_iload hx hb d_law_134 (lv_at hl 4 rfl) ?_
    refine lv_iconst (v := 1) hx hb d_law_136 (by decide) ?_
    refine lv_iadd hx hb d_law_137 ?_
    refine va_sld hx hb hX0 hbl hbA hS (hin 1 (by decide) (by decide)) d_law_138 ?_
    refine lv_aload_n hx hb d_law_139 rfl (lv_at hl 0 rfl) ?_
    refine lv_iload hx hb d_law_140 (lv_at hl 4 rfl) ?_
    refine lv_iconst (v := 2) hx hb d_law_142 (by decide) ?_
    refine lv_iadd hx hb d_law_143 ?_
    refine va_sld hx hb hX0 hbl hbA hS (hin 2 (by decide) (by decide)) d_law_144 ?_
    refine lv_aload_n hx hb d_law_145 rfl (lv_at hl 3 rfl) ?_
    have hPc := hP.sub (ws' := (wSd cI cZ cJ sd_a w_a v_a (wr_a 0) (rd_a 0) (cu_a 0) (sp_a 0) sd ++ wSy cI cZ cJ cu_a cu ++ wOu cI cZ cJ ou_a ou)) [0, 1, 2, 3, 4, 5, 6, 7, 8, 9, 10, 45] rfl
    have hDc := hD.sub (ws' := (wSd cI cZ cJ sd_a w_a v_a (wr_a 0) (rd_a 0) (cu_a 0) (sp_a 0) sd ++ wSy cI cZ cJ cu_a cu ++ wOu cI cZ cJ ou_a ou)) [0, 1, 2, 3, 4, 5, 6, 7, 8, 9, 10, 45] (by decide) rfl
    have hFc := va_free (wc := (wSd cI cZ cJ sd_a w_a v_a (wr_a 0) (rd_a 0) (cu_a 0) (sp_a 0) sd ++ wSy cI cZ cJ cu_a cu ++ wOu cI cZ cJ ou_a ou)) hD hS hA [0, 1, 2, 3, 4, 5, 6, 7, 8, 9, 10, 45] rfl
    refine va_calli (w_runS (As := [.ref (sd_a 0), .int (xs (i + 1).toNatClampNeg), .int (xs (i + 2).toNatClampNeg), .ref (ou_a 0)]) (rest := []) ⟨hx, hb, hml, hown, hts⟩ (k_Law_symbol l dC dI cI cZ cJ sd_a cu_a ou_a w_a v_a (wr_a 0) (rd_a 0) (sp_a 0) H.size hf1) (cwH_of 4 hts t_559 rfl rfl t_53 t_557 t_558 hd_Law_symbol.2 ⟨Nat.le_trans (Nat.le_of_ble_eq_true rfl) hRf, Nat.le_trans (Nat.le_of_ble_eq_true rfl) hRl⟩) ⟨kP_blind, kP_at hPc hK hDc hN⟩ rfl rfl hl.1 rfl (lv_room (Nat.le_of_ble_eq_true rfl)) d_law_146 ⟨by omega, by omega⟩) hS (fun q _ h => hFc q h) hFc (fun r9 u t H1 locs ht hvm hw hB hz1 hk1 hS => ?_)
    rw [hw]
    obtain ⟨hP, hD⟩ := kQ_join (wr := (wSy cI cZ cJ sp_a sp ++ wBr cI cZ cJ w_a w_b w ++ wBr cI cZ cJ v_a v_b v ++ wWr cI cZ cJ wr_a (pb_a 0) wr ++ wRd cI cZ cJ rd_a (pb_a 0) rd ++ wPb cI cZ cJ pb_a w_a v_a pb ++ wMo cI cZ cJ mo_a mo)) (w1 := (wSd cI cZ cJ sd_a w_a v_a (wr_a 0) (rd_a 0) (cu_a 0) (sp_a 0) sd ++ wSy cI cZ cJ cu_a cu' ++ wOu cI cZ cJ ou_a ou')) hP hD [0, 1, 2, 3, 4, 5, 6, 7, 8, 9, 10, 45] [11, 12, 13, 14, 15, 16, 17, 18, 19, 20, 21, 22, 23, 24, 25, 26, 27, 28, 29, 30, 31, 32, 33, 34, 35, 36, 37, 38, 39, 40, 41, 42, 43, 44, 46] rfl rfl (by decide) (by decide) ht hk1 hFc hB
    generalize H1 = H at hP hS ⊢
    have hP : va_P (dC, dI) vwCl (wSd cI cZ cJ sd_a w_a v_a (wr_a 0) (rd_a 0) (cu_a 0) (sp_a 0) sd ++ wSy cI cZ cJ cu_a cu' ++ wSy cI cZ cJ sp_a sp ++ wBr cI cZ cJ w_a w_b w ++ wBr cI cZ cJ v_a v_b v ++ wWr cI cZ cJ wr_a (pb_a 0) wr ++ wRd cI cZ cJ rd_a (pb_a 0) rd ++ wPb cI cZ cJ pb_a w_a v_a pb ++ wMo cI cZ cJ mo_a mo ++ wOu cI cZ cJ ou_a ou') H := hP.sub [35, 36, 37, 38, 39, 40, 41, 42, 43, 44, 45, 0, 1, 2, 3, 4, 5, 6, 7, 8, 9, 10, 11, 12, 13, 14, 15, 16, 17, 18, 19, 20, 21, 22, 23, 24, 25, 26, 27, 28, 29, 30, 31, 32, 33, 34, 46] rfl
    have hD : va_D A (wSd cI cZ cJ sd_a w_a v_a (wr_a 0) (rd_a 0) (cu_a 0) (sp_a 0) sd ++ wSy cI cZ cJ cu_a cu' ++ wSy cI cZ cJ sp_a sp ++ wBr cI cZ cJ w_a w_b w ++ wBr cI cZ cJ v_a v_b v ++ wWr cI cZ cJ wr_a (pb_a 0) wr ++ wRd cI cZ cJ rd_a (pb_a 0) rd ++ wPb cI cZ cJ pb_a w_a v_a pb ++ wMo cI cZ cJ mo_a mo ++ wOu cI cZ cJ ou_a ou') := hD.sub [35, 36, 37, 38, 39, 40, 41, 42, 43, 44, 45, 0, 1, 2, 3, 4, 5, 6, 7, 8, 9, 10, 11, 12, 13, 14, 15, 16, 17, 18, 19, 20, 21, 22, 23, 24, 25, 26, 27, 28, 29, 30, 31, 32, 33, 34, 46] (by decide) rfl
    refine lv_istore (lv' := [(5, .int 0), (0, .ref b), (1, .ref (sd_a 0)), (2, .ref (mo_a 0)), (3, .ref (ou_a 0)), (4, .int i)]) hx hb d_law_149 hl (by decide) rfl (fun ls hl => ?_)
    refine lv_aload_n hx hb d_law_151 rfl (lv_at hl 3 rfl) ?_
    refine lv_aload_n hx hb d_law_152 rfl (lv_at hl 1 rfl) ?_
    refine lv_iload hx hb d_law_153 (lv_at hl 5 rfl) ?_
    refine lv_iconst (v := 1) hx hb d_law_155 (by decide) ?_
    refine lv_iadd hx hb d_law_156 ?_
    refine va_sld hx hb hX0 hbl hbA hS (hin 1 (by decide) (by decide)) d_law_157 ?_
    refine lv_aload_n hx hb d_law_158 rfl (lv_at hl 1 rfl) ?_
    refine lv_iload hx hb d_law_159 (lv_at hl 5 rfl) ?_
    refine lv_iconst (v := 2) hx hb d_law_161 (by decide) ?_
    refine lv_iadd hx hb d_law_162 ?_
    refine va_sld hx hb hX0 hbl hbA hS (hin 2 (by decide) (by decide)) d_law_163 ?_
    have hPc := hP.sub (ws' := (wMo cI cZ cJ mo_a mo)) [30, 31, 32, 33, 34, 35, 36, 37, 38, 39, 40, 41, 42, 43, 44, 45] rfl
    have hDc := hD.sub (ws' := (wMo cI cZ cJ mo_a mo)) [30, 31, 32, 33, 34, 35, 36, 37, 38, 39, 40, 41, 42, 43, 44, 45] (by decide) rfl
    have hFc := va_free (wc := (wMo cI cZ cJ mo_a mo)) hD hS hA [30, 31, 32, 33, 34, 35, 36, 37, 38, 39, 40, 41, 42, 43, 44, 45] rfl
    refine va_calli (va_runV (As := [.int (xs (i + 1).toNatClampNeg), .int (xs (i + 2).toNatClampNeg)]) (rest := []) ⟨hx, hb, hml, hown, hts⟩ (k_Model_symbol l dC dI cI cZ cJ mo_a H.size hg) (cwV 2 hts (gV t_910 t_911 t_912 t_63 t_913) rfl rfl rfl hd_Model_symbol ⟨Nat.le_trans (Nat.le_of_ble_eq_true rfl) hRf, Nat.le_trans (Nat.le_of_ble_eq_true rfl) hRl⟩) ⟨kP_blind, va_recv hK hP (ci := 7) (q0 := 30) rfl rfl, kP_at hPc hK hDc hN⟩ rfl rfl hl.1 rfl (lv_room (Nat.le_of_ble_eq_true rfl)) d_law_164 ⟨by omega, by omega⟩) hS (fun q _ h => hFc q h) hFc (fun r9 u t H1 locs ht hvm hw hB hz1 hk1 hS => ?_)
    rw [hw]
    obtain ⟨hP, hD⟩ := kQ_join (wr := (wSd cI cZ cJ sd_a w_a v_a (wr_a 0) (rd_a 0) (cu_a 0) (sp_a 0) sd ++ wSy cI cZ cJ cu_a cu' ++ wSy cI cZ cJ sp_a sp ++ wBr cI cZ cJ w_a w_b w ++ wBr cI cZ cJ v_a v_b v ++ wWr cI cZ cJ wr_a (pb_a 0) wr ++ wRd cI cZ cJ rd_a (pb_a 0) rd ++ wPb cI cZ cJ pb_a w_a v_a pb ++ wOu cI cZ cJ ou_a ou')) (w1 := (wMo cI cZ cJ mo_a mo')) hP hD [30, 31, 32, 33, 34, 35, 36, 37, 38, 39, 40, 41, 42, 43, 44, 45] [0, 1, 2, 3, 4, 5, 6, 7, 8, 9, 10, 11, 12, 13, 14, 15, 16, 17, 18, 19, 20, 21, 22, 23, 24, 25, 26, 27, 28, 29, 46] rfl rfl (by decide) (by decide) ht hk1 hFc hB
    generalize H1 = H at hP hS ⊢
    have hP : va_P (dC, dI) vwCl (wSd cI cZ cJ sd_a w_a v_a (wr_a 0) (rd_a 0) (cu_a 0) (sp_a 0) sd ++ wSy cI cZ cJ cu_a cu' ++ wSy cI cZ cJ sp_a sp ++ wBr cI cZ cJ w_a w_b w ++ wBr cI cZ cJ v_a v_b v ++ wWr cI cZ cJ wr_a (pb_a 0) wr ++ wRd cI cZ cJ rd_a (pb_a 0) rd ++ wPb cI cZ cJ pb_a w_a v_a pb ++ wMo cI cZ cJ mo_a mo' ++ wOu cI cZ cJ ou_a ou') H := hP.sub [0, 1, 2, 3, 4, 5, 6, 7, 8, 9, 10, 11, 12, 13, 14, 15, 16, 17, 18, 19, 20, 21, 22, 23, 24, 25, 26, 27, 28, 29, 31, 32, 33, 34, 35, 36, 37, 38, 39, 40, 41, 42, 43, 44, 45, 46, 30] rfl
    have hD : va_D A (wSd cI cZ cJ sd_a w_a v_a (wr_a 0) (rd_a 0) (cu_a 0) (sp_a 0) sd ++ wSy cI cZ cJ cu_a cu' ++ wSy cI cZ cJ sp_a sp ++ wBr cI cZ cJ w_a w_b w ++ wBr cI cZ cJ v_a v_b v ++ wWr cI cZ cJ wr_a (pb_a 0) wr ++ wRd cI cZ cJ rd_a (pb_a 0) rd ++ wPb cI cZ cJ pb_a w_a v_a pb ++ wMo cI cZ cJ mo_a mo' ++ wOu cI cZ cJ ou_a ou') := hD.sub [0, 1, 2, 3, 4, 5, 6, 7, 8, 9, 10, 11, 12, 13, 14, 15, 16, 17, 18, 19, 20, 21, 22, 23, 24, 25, 26, 27, 28, 29, 31, 32, 33, 34, 35, 36, 37, 38, 39, 40, 41, 42, 43, 44, 45, 46, 30] (by decide) rfl
    refine lv_istore (lv' := [(6, .int r), (5, .int 0), (0, .ref b), (1, .ref (sd_a 0)), (2, .ref (mo_a 0)), (3, .ref (ou_a 0)), (4, .int i)]) hx hb d_law_167 hl (by decide) rfl (fun ls hl => ?_)
    refine lv_aload_n hx hb d_law_169 rfl (lv_at hl 4 rfl) ?_
    have hth : f_Model_thrown mo' = some (Mo_code mo') := rfl
    have hPc := hP.sub (ws' := (wMo cI cZ cJ mo_a mo')) [30, 31, 32, 33, 34, 35, 36, 37, 38, 39, 40, 41, 42, 43, 44, 45] rfl
    have hDc := hD.sub (ws' := (wMo cI cZ cJ mo_a mo')) [30, 31, 32, 33, 34, 35, 36, 37, 38, 39, 40, 41, 42, 43, 44, 45] (by decide) rfl
    have hFc := va_free (wc := (wMo cI cZ cJ mo_a mo')) hD hS hA [30, 31, 32, 33, 34, 35, 36, 37, 38, 39, 40, 41, 42, 43, 44, 45] rfl
    refine va_calli (va_runV (As := []) (rest := []) ⟨hx, hb, hml, hown, hts⟩ (k_Model_thrown l dC dI cI cZ cJ mo_a H.size hth) (cwV 0 hts (gV t_906 t_907 t_908 t_63 t_909) rfl rfl rfl hd_Model_thrown ⟨Nat.le_trans (Nat.le_of_ble_eq_true rfl) hRf, Nat.le_trans (Nat.le_of_ble_eq_true rfl) hRl⟩) ⟨kP_blind, va_recv hK hP (ci := 7) (q0 := 30) rfl rfl, kP_at hPc hK hDc hN⟩ rfl rfl hl.1 rfl (lv_room (Nat.le_of_ble_eq_true rfl)) d_law_170 ⟨by omega, by omega⟩) hS (fun q _ h => hFc q h) hFc (fun r9 u t H1 locs ht hvm hw hB hz1 hk1 hS => ?_)
    rw [hw]
    obtain ⟨hP, hD⟩ := kQ_join (wr := (wSd cI cZ cJ sd_a w_a v_a (wr_a 0) (rd_a 0) (cu_a 0) (sp_a 0) sd ++ wSy cI cZ cJ cu_a cu' ++ wSy cI cZ cJ sp_a sp ++ wBr cI cZ cJ w_a w_b w ++ wBr cI cZ cJ v_a v_b v ++ wWr cI cZ cJ wr_a (pb_a 0) wr ++ wRd cI cZ cJ rd_a (pb_a 0) rd ++ wPb cI cZ cJ pb_a w_a v_a pb ++ wOu cI cZ cJ ou_a ou')) (w1 := (wMo cI cZ cJ mo_a mo')) hP hD [30, 31, 32, 33, 34, 35, 36, 37, 38, 39, 40, 41, 42, 43, 44, 45] [0, 1, 2, 3, 4, 5, 6, 7, 8, 9, 10, 11, 12, 13, 14, 15, 16, 17, 18, 19, 20, 21, 22, 23, 24, 25, 26, 27, 28, 29, 46] rfl rfl (by decide) (by decide) ht hk1 hFc hB
    generalize H1 = H at hP hS ⊢
    have hP : va_P (dC, dI) vwCl (wSd cI cZ cJ sd_a w_a v_a (wr_a 0) (rd_a 0) (cu_a 0) (sp_a 0) sd ++ wSy cI cZ cJ cu_a cu' ++ wSy cI cZ cJ sp_a sp ++ wBr cI cZ cJ w_a w_b w ++ wBr cI cZ cJ v_a v_b v ++ wWr cI cZ cJ wr_a (pb_a 0) wr ++ wRd cI cZ cJ rd_a (pb_a 0) rd ++ wPb cI cZ cJ pb_a w_a v_a pb ++ wMo cI cZ cJ mo_a mo' ++ wOu cI cZ cJ ou_a ou') H := hP.sub [0, 1, 2, 3, 4, 5, 6, 7, 8, 9, 10, 11, 12, 13, 14, 15, 16, 17, 18, 19, 20, 21, 22, 23, 24, 25, 26, 27, 28, 29, 31, 32, 33, 34, 35, 36, 37, 38, 39, 40, 41, 42, 43, 44, 45, 46, 30] rfl
    have hD : va_D A (wSd cI cZ cJ sd_a w_a v_a (wr_a 0) (rd_a 0) (cu_a 0) (sp_a 0) sd ++ wSy cI cZ cJ cu_a cu' ++ wSy cI cZ cJ sp_a sp ++ wBr cI cZ cJ w_a w_b w ++ wBr cI cZ cJ v_a v_b v ++ wWr cI cZ cJ wr_a (pb_a 0) wr ++ wRd cI cZ cJ rd_a (pb_a 0) rd ++ wPb cI cZ cJ pb_a w_a v_a pb ++ wMo cI cZ cJ mo_a mo' ++ wOu cI cZ cJ ou_a ou') := hD.sub [0, 1, 2, 3, 4, 5, 6, 7, 8, 9, 10, 11, 12, 13, 14, 15, 16, 17, 18, 19, 20, 21, 22, 23, 24, 25, 26, 27, 28, 29, 31, 32, 33, 34, 35, 36, 37, 38, 39, 40, 41, 42, 43, 44, 45, 46, 30] (by decide) rfl
    refine lv_iload hx hb d_law_173 (lv_at hl 1 rfl) ?_
    refine lv_icmp_eq (tgt := 180) hx hb d_law_175 (by decide) (fun _ => ?_) (fun h9 => absurd hcode h9)
    refine lv_iload hx hb d_law_180 (lv_at hl 1 rfl) ?_
    refine lv_if_ne (tgt := 197) hx hb d_law_182 (by decide) (fun h9 => absurd rfl h9) (fun _ => ?_)
    refine lv_aload_n hx hb d_law_185 rfl (lv_at hl 5 rfl) ?_
    refine lv_iconst (v := 0) hx hb d_law_186 (by decide) ?_
    refine va_lald (f := Ou_f ou') hx hb hK hP 46 2 rfl rfl (inb_in (by decide)) d_law_187 ?_
    refine lv_iload hx hb d_law_188 (lv_at hl 0 rfl) ?_
    refine lv_i2l (v := r.toInt64) hx hb d_law_190 rfl ?_
    refine W.lcmp hx hb d_law_191 ?_
    refine lv_if_eq (tgt := 197) hx hb d_law_192 (by decide) (fun _ => ?_) (fun h9 => absurd (by rw [hou]; exact cmp_self _) h9)
    refine lv_goto (tgt := 1131) hx hb d_law_197 (by decide) ?_
    have hl := lv_sub (l' := [(0, .ref b), (1, .ref (sd_a 0)), (2, .ref (mo_a 0)), (3, .ref (ou_a 0)), (4, .int i)]) hl [2, 3, 4, 5, 6] rfl
    refine W.widen (k := j + 1 + Br_byL w + Br_byL v) (n := 6 * (j + 1) + 2 * Br_byL w + 2 * Br_byL v) (by omega) (by omega) ?_
    exact hk _ _ _ cu_a sp_a w_b v_b cu' sp w v wr rd pb mo' ou' hrel hP hD hS hl
  · refine lv_aload_n hx hb d_law_132 rfl (lv_at hl 1 rfl) ?_
    refine lv_aload_n hx hb d_law_133 rfl (lv_at hl 0 rfl) ?_
    refine lv_iload hx hb d_law_134 (lv_at hl 4 rfl) ?_
    refine lv_iconst (v := 1) hx hb d_law_136 (by decide) ?_
    refine lv_iadd hx hb d_law_137 ?_
    refine va_sld hx hb hX0 hbl hbA hS (hin 1 (by decide) (by decide)) d_law_138 ?_
    refine lv_aload_n hx hb d_law_139 rfl (lv_at hl 0 rfl) ?_
    refine lv_iload hx hb d_law_140 (lv_at hl 4 rfl) ?_
    refine lv_iconst (v := 2) hx hb d_law_142 (by decide) ?_
    refine lv_iadd hx hb d_law_143 ?_
    refine va_sld hx hb hX0 hbl hbA hS (hin 2 (by decide) (by decide)) d_law_144 ?_
    refine lv_aload_n hx hb d_law_145 rfl (lv_at hl 3 rfl) ?_
    have hPc := hP.sub (ws' := (wSd cI cZ cJ sd_a w_a v_a (wr_a 0) (rd_a 0) (cu_a 0) (sp_a 0) sd ++ wSy cI cZ cJ cu_a cu ++ wOu cI cZ cJ ou_a ou)) [0, 1, 2, 3, 4, 5, 6, 7, 8, 9, 10, 45] rfl
    have hDc := hD.sub (ws' := (wSd cI cZ cJ sd_a w_a v_a (wr_a 0) (rd_a 0) (cu_a 0) (sp_a 0) sd ++ wSy cI cZ cJ cu_a cu ++ wOu cI cZ cJ ou_a ou)) [0, 1, 2, 3, 4, 5, 6, 7, 8, 9, 10, 45] (by decide) rfl
    have hFc := va_free (wc := (wSd cI cZ cJ sd_a w_a v_a (wr_a 0) (rd_a 0) (cu_a 0) (sp_a 0) sd ++ wSy cI cZ cJ cu_a cu ++ wOu cI cZ cJ ou_a ou)) hD hS hA [0, 1, 2, 3, 4, 5, 6, 7, 8, 9, 10, 45] rfl
    refine va_calli (w_runS (As := [.ref (sd_a 0), .int (xs (i + 1).toNatClampNeg), .int (xs (i + 2).toNatClampNeg), .ref (ou_a 0)]) (rest := []) ⟨hx, hb, hml, hown, hts⟩ (kx_Law_symbol_1 l hl9 dC dI cI cZ cJ sd_a cu_a ou_a w_a v_a (wr_a 0) (rd_a 0) (sp_a 0) H.size hf) (cwH_of 4 hts t_559 rfl rfl t_53 t_557 t_558 hd_Law_symbol.2 ⟨Nat.le_trans (Nat.le_of_ble_eq_true rfl) hRf, Nat.le_trans (Nat.le_of_ble_eq_true rfl) hRl⟩) ⟨kPX_blind, kPX_at hPc hK hDc hN (fun q hq => hS.2.1 q hq (fun h9 => absurd (hA2 q h9) (Nat.not_le.mpr hq))) hT hX⟩ rfl rfl hl.1 rfl (lv_room (Nat.le_of_ble_eq_true rfl)) d_law_146 ⟨by omega, by omega⟩) hS (fun q _ h => hFc q h) hFc (fun r9 u t H1 locs ht hvm hw hB hz1 hk1 hS => ?_)
    rw [hw]
    obtain ⟨hP, hD⟩ := kQ_join (wr := (wSy cI cZ cJ sp_a sp ++ wBr cI cZ cJ w_a w_b w ++ wBr cI cZ cJ v_a v_b v ++ wWr cI cZ cJ wr_a (pb_a 0) wr ++ wRd cI cZ cJ rd_a (pb_a 0) rd ++ wPb cI cZ cJ pb_a w_a v_a pb ++ wMo cI cZ cJ mo_a mo)) (w1 := (wSd cI cZ cJ sd_a w_a v_a (wr_a 0) (rd_a 0) (cu_a 0) (sp_a 0) sd ++ wSy cI cZ cJ cu_a cu ++ wOu cI cZ cJ ou_a ou)) hP hD [0, 1, 2, 3, 4, 5, 6, 7, 8, 9, 10, 45] [11, 12, 13, 14, 15, 16, 17, 18, 19, 20, 21, 22, 23, 24, 25, 26, 27, 28, 29, 30, 31, 32, 33, 34, 35, 36, 37, 38, 39, 40, 41, 42, 43, 44, 46] rfl rfl (by decide) (by decide) ht hk1 hFc hB
    generalize H1 = H at hP hS ⊢
    have hP : va_P (dC, dI) vwCl (wSd cI cZ cJ sd_a w_a v_a (wr_a 0) (rd_a 0) (cu_a 0) (sp_a 0) sd ++ wSy cI cZ cJ cu_a cu ++ wSy cI cZ cJ sp_a sp ++ wBr cI cZ cJ w_a w_b w ++ wBr cI cZ cJ v_a v_b v ++ wWr cI cZ cJ wr_a (pb_a 0) wr ++ wRd cI cZ cJ rd_a (pb_a 0) rd ++ wPb cI cZ cJ pb_a w_a v_a pb ++ wMo cI cZ cJ mo_a mo ++ wOu cI cZ cJ ou_a ou) H := hP.sub [35, 36, 37, 38, 39, 40, 41, 42, 43, 44, 45, 0, 1, 2, 3, 4, 5, 6, 7, 8, 9, 10, 11, 12, 13, 14, 15, 16, 17, 18, 19, 20, 21, 22, 23, 24, 25, 26, 27, 28, 29, 30, 31, 32, 33, 34, 46] rfl
    have hD : va_D A (wSd cI cZ cJ sd_a w_a v_a (wr_a 0) (rd_a 0) (cu_a 0) (sp_a 0) sd ++ wSy cI cZ cJ cu_a cu ++ wSy cI cZ cJ sp_a sp ++ wBr cI cZ cJ w_a w_b w ++ wBr cI cZ cJ v_a v_b v ++ wWr cI cZ cJ wr_a (pb_a 0) wr ++ wRd cI cZ cJ rd_a (pb_a 0) rd ++ wPb cI cZ cJ pb_a w_a v_a pb ++ wMo cI cZ cJ mo_a mo ++ wOu cI cZ cJ ou_a ou) := hD.sub [35, 36, 37, 38, 39, 40, 41, 42, 43, 44, 45, 0, 1, 2, 3, 4, 5, 6, 7, 8, 9, 10, 11, 12, 13, 14, 15, 16, 17, 18, 19, 20, 21, 22, 23, 24, 25, 26, 27, 28, 29, 30, 31, 32, 33, 34, 46] (by decide) rfl
    refine lv_istore (lv' := [(5, .int 1), (0, .ref b), (1, .ref (sd_a 0)), (2, .ref (mo_a 0)), (3, .ref (ou_a 0)), (4, .int i)]) hx hb d_law_149 hl (by decide) rfl (fun ls hl => ?_)
    refine lv_aload_n hx hb d_law_151 rfl (lv_at hl 3 rfl) ?_
    refine lv_aload_n hx hb d_law_152 rfl (lv_at hl 1 rfl) ?_
    refine lv_iload hx hb d_law_153 (lv_at hl 5 rfl) ?_
    refine lv_iconst (v := 1) hx hb d_law_155 (by decide) ?_
    refine lv_iadd hx hb d_law_156 ?_
    refine va_sld hx hb hX0 hbl hbA hS (hin 1 (by decide) (by decide)) d_law_157 ?_
    refine lv_aload_n hx hb d_law_158 rfl (lv_at hl 1 rfl) ?_
    refine lv_iload hx hb d_law_159 (lv_at hl 5 rfl) ?_
    refine lv_iconst (v := 2) hx hb d_law_161 (by decide) ?_
    refine lv_iadd hx hb d_law_162 ?_
    refine va_sld hx hb hX0 hbl hbA hS (hin 2 (by decide) (by decide)) d_law_163 ?_
    have hPc := hP.sub (ws' := (wMo cI cZ cJ mo_a mo)) [30, 31, 32, 33, 34, 35, 36, 37, 38, 39, 40, 41, 42, 43, 44, 45] rfl
    have hDc := hD.sub (ws' := (wMo cI cZ cJ mo_a mo)) [30, 31, 32, 33, 34, 35, 36, 37, 38, 39, 40, 41, 42, 43, 44, 45] (by decide) rfl
    have hFc := va_free (wc := (wMo cI cZ cJ mo_a mo)) hD hS hA [30, 31, 32, 33, 34, 35, 36, 37, 38, 39, 40, 41, 42, 43, 44, 45] rfl
    refine va_calli (va_runV (As := [.int (xs (i + 1).toNatClampNeg), .int (xs (i + 2).toNatClampNeg)]) (rest := []) ⟨hx, hb, hml, hown, hts⟩ (k_Model_symbol l dC dI cI cZ cJ mo_a H.size hg) (cwV 2 hts (gV t_910 t_911 t_912 t_63 t_913) rfl rfl rfl hd_Model_symbol ⟨Nat.le_trans (Nat.le_of_ble_eq_true rfl) hRf, Nat.le_trans (Nat.le_of_ble_eq_true rfl) hRl⟩) ⟨kP_blind, va_recv hK hP (ci := 7) (q0 := 30) rfl rfl, kP_at hPc hK hDc hN⟩ rfl rfl hl.1 rfl (lv_room (Nat.le_of_ble_eq_true rfl)) d_law_164 ⟨by omega, by omega⟩) hS (fun q _ h => hFc q h) hFc (fun r9 u t H1 locs ht hvm hw hB hz1 hk1 hS => ?_)
    rw [hw]
    obtain ⟨hP, hD⟩ := kQ_join (wr := (wSd cI cZ cJ sd_a w_a v_a (wr_a 0) (rd_a 0) (cu_a 0) (sp_a 0) sd ++ wSy cI cZ cJ cu_a cu ++ wSy cI cZ cJ sp_a sp ++ wBr cI cZ cJ w_a w_b w ++ wBr cI cZ cJ v_a v_b v ++ wWr cI cZ cJ wr_a (pb_a 0) wr ++ wRd cI cZ cJ rd_a (pb_a 0) rd ++ wPb cI cZ cJ pb_a w_a v_a pb ++ wOu cI cZ cJ ou_a ou)) (w1 := (wMo cI cZ cJ mo_a mo')) hP hD [30, 31, 32, 33, 34, 35, 36, 37, 38, 39, 40, 41, 42, 43, 44, 45] [0, 1, 2, 3, 4, 5, 6, 7, 8, 9, 10, 11, 12, 13, 14, 15, 16, 17, 18, 19, 20, 21, 22, 23, 24, 25, 26, 27, 28, 29, 46] rfl rfl (by decide) (by decide) ht hk1 hFc hB
    generalize H1 = H at hP hS ⊢
    have hP : va_P (dC, dI) vwCl (wSd cI cZ cJ sd_a w_a v_a (wr_a 0) (rd_a 0) (cu_a 0) (sp_a 0) sd ++ wSy cI cZ cJ cu_a cu ++ wSy cI cZ cJ sp_a sp ++ wBr cI cZ cJ w_a w_b w ++ wBr cI cZ cJ v_a v_b v ++ wWr cI cZ cJ wr_a (pb_a 0) wr ++ wRd cI cZ cJ rd_a (pb_a 0) rd ++ wPb cI cZ cJ pb_a w_a v_a pb ++ wMo cI cZ cJ mo_a mo' ++ wOu cI cZ cJ ou_a ou) H := hP.sub [0, 1, 2, 3, 4, 5, 6, 7, 8, 9, 10, 11, 12, 13, 14, 15, 16, 17, 18, 19, 20, 21, 22, 23, 24, 25, 26, 27, 28, 29, 31, 32, 33, 34, 35, 36, 37, 38, 39, 40, 41, 42, 43, 44, 45, 46, 30] rfl
    have hD : va_D A (wSd cI cZ cJ sd_a w_a v_a (wr_a 0) (rd_a 0) (cu_a 0) (sp_a 0) sd ++ wSy cI cZ cJ cu_a cu ++ wSy cI cZ cJ sp_a sp ++ wBr cI cZ cJ w_a w_b w ++ wBr cI cZ cJ v_a v_b v ++ wWr cI cZ cJ wr_a (pb_a 0) wr ++ wRd cI cZ cJ rd_a (pb_a 0) rd ++ wPb cI cZ cJ pb_a w_a v_a pb ++ wMo cI cZ cJ mo_a mo' ++ wOu cI cZ cJ ou_a ou) := hD.sub [0, 1, 2, 3, 4, 5, 6, 7, 8, 9, 10, 11, 12, 13, 14, 15, 16, 17, 18, 19, 20, 21, 22, 23, 24, 25, 26, 27, 28, 29, 31, 32, 33, 34, 35, 36, 37, 38, 39, 40, 41, 42, 43, 44, 45, 46, 30] (by decide) rfl
    refine lv_istore (lv' := [(6, .int q), (5, .int 1), (0, .ref b), (1, .ref (sd_a 0)), (2, .ref (mo_a 0)), (3, .ref (ou_a 0)), (4, .int i)]) hx hb d_law_167 hl (by decide) rfl (fun ls hl => ?_)
    refine lv_aload_n hx hb d_law_169 rfl (lv_at hl 4 rfl) ?_
    have hth : f_Model_thrown mo' = some (Mo_code mo') := rfl
    have hPc := hP.sub (ws' := (wMo cI cZ cJ mo_a mo')) [30, 31, 32, 33, 34, 35, 36, 37, 38, 39, 40, 41, 42, 43, 44, 45] rfl
    have hDc := hD.sub (ws' := (wMo cI cZ cJ mo_a mo')) [30, 31, 32, 33, 34, 35, 36, 37, 38, 39, 40, 41, 42, 43, 44, 45] (by decide) rfl
    have hFc := va_free (wc := (wMo cI cZ cJ mo_a mo')) hD hS hA [30, 31, 32, 33, 34, 35, 36, 37, 38, 39, 40, 41, 42, 43, 44, 45] rfl
    refine va_calli (va_runV (As := []) (rest := []) ⟨hx, hb, hml, hown, hts⟩ (k_Model_thrown l dC dI cI cZ cJ mo_a H.size hth) (cwV 0 hts (gV t_906 t_907 t_908 t_63 t_909) rfl rfl rfl hd_Model_thrown ⟨Nat.le_trans (Nat.le_of_ble_eq_true rfl) hRf, Nat.le_trans (Nat.le_of_ble_eq_true rfl) hRl⟩) ⟨kP_blind, va_recv hK hP (ci := 7) (q0 := 30) rfl rfl, kP_at hPc hK hDc hN⟩ rfl rfl hl.1 rfl (lv_room (Nat.le_of_ble_eq_true rfl)) d_law_170 ⟨by omega, by omega⟩) hS (fun q _ h => hFc q h) hFc (fun r9 u t H1 locs ht hvm hw hB hz1 hk1 hS => ?_)
    rw [hw]
    obtain ⟨hP, hD⟩ := kQ_join (wr := (wSd cI cZ cJ sd_a w_a v_a (wr_a 0) (rd_a 0) (cu_a 0) (sp_a 0) sd ++ wSy cI cZ cJ cu_a cu ++ wSy cI cZ cJ sp_a sp ++ wBr cI cZ cJ w_a w_b w ++ wBr cI cZ cJ v_a v_b v ++ wWr cI cZ cJ wr_a (pb_a 0) wr ++ wRd cI cZ cJ rd_a (pb_a 0) rd ++ wPb cI cZ cJ pb_a w_a v_a pb ++ wOu cI cZ cJ ou_a ou)) (w1 := (wMo cI cZ cJ mo_a mo')) hP hD [30, 31, 32, 33, 34, 35, 36, 37, 38, 39, 40, 41, 42, 43, 44, 45] [0, 1, 2, 3, 4, 5, 6, 7, 8, 9, 10, 11, 12, 13, 14, 15, 16, 17, 18, 19, 20, 21, 22, 23, 24, 25, 26, 27, 28, 29, 46] rfl rfl (by decide) (by decide) ht hk1 hFc hB
    generalize H1 = H at hP hS ⊢
    have hP : va_P (dC, dI) vwCl (wSd cI cZ cJ sd_a w_a v_a (wr_a 0) (rd_a 0) (cu_a 0) (sp_a 0) sd ++ wSy cI cZ cJ cu_a cu ++ wSy cI cZ cJ sp_a sp ++ wBr cI cZ cJ w_a w_b w ++ wBr cI cZ cJ v_a v_b v ++ wWr cI cZ cJ wr_a (pb_a 0) wr ++ wRd cI cZ cJ rd_a (pb_a 0) rd ++ wPb cI cZ cJ pb_a w_a v_a pb ++ wMo cI cZ cJ mo_a mo' ++ wOu cI cZ cJ ou_a ou) H := hP.sub [0, 1, 2, 3, 4, 5, 6, 7, 8, 9, 10, 11, 12, 13, 14, 15, 16, 17, 18, 19, 20, 21, 22, 23, 24, 25, 26, 27, 28, 29, 31, 32, 33, 34, 35, 36, 37, 38, 39, 40, 41, 42, 43, 44, 45, 46, 30] rfl
    have hD : va_D A (wSd cI cZ cJ sd_a w_a v_a (wr_a 0) (rd_a 0) (cu_a 0) (sp_a 0) sd ++ wSy cI cZ cJ cu_a cu ++ wSy cI cZ cJ sp_a sp ++ wBr cI cZ cJ w_a w_b w ++ wBr cI cZ cJ v_a v_b v ++ wWr cI cZ cJ wr_a (pb_a 0) wr ++ wRd cI cZ cJ rd_a (pb_a 0) rd ++ wPb cI cZ cJ pb_a w_a v_a pb ++ wMo cI cZ cJ mo_a mo' ++ wOu cI cZ cJ ou_a ou) := hD.sub [0, 1, 2, 3, 4, 5, 6, 7, 8, 9, 10, 11, 12, 13, 14, 15, 16, 17, 18, 19, 20, 21, 22, 23, 24, 25, 26, 27, 28, 29, 31, 32, 33, 34, 35, 36, 37, 38, 39, 40, 41, 42, 43, 44, 45, 46, 30] (by decide) rfl
    refine lv_iload hx hb d_law_173 (lv_at hl 1 rfl) ?_
    refine lv_icmp_eq (tgt := 180) hx hb d_law_175 (by decide) (fun _ => ?_) (fun h9 => absurd hcode h9)
    refine lv_iload hx hb d_law_180 (lv_at hl 1 rfl) ?_
    refine lv_if_ne (tgt := 197) hx hb d_law_182 (by decide) (fun _ => ?_) (fun h9 => absurd h9 (by decide))
    refine lv_goto (tgt := 1131) hx hb d_law_197 (by decide) ?_
    have hl := lv_sub (l' := [(0, .ref b), (1, .ref (sd_a 0)), (2, .ref (mo_a 0)), (3, .ref (ou_a 0)), (4, .int i)]) hl [2, 3, 4, 5, 6] rfl
    refine W.widen (k := j + 1 + Br_byL w + Br_byL v) (n := 6 * (j + 1) + 2 * Br_byL w + 2 * Br_byL v) (by omega) (by omega) ?_
    exact hk _ _ _ cu_a sp_a w_b v_b cu sp w v wr rd pb mo' ou hrel hP hD hS hl
  · refine lv_aload_n hx hb d_law_132 rfl (lv_at hl 1 rfl) ?_
    refine lv_aload_n hx hb d_law_133 rfl (lv_at hl 0 rfl) ?_
    refine lv_iload hx hb d_law_134 (lv_at hl 4 rfl) ?_
    refine lv_iconst (v := 1) hx hb d_law_136 (by decide) ?_
    refine lv_iadd hx hb d_law_137 ?_
    refine va_sld hx hb hX0 hbl hbA hS (hin 1 (by decide) (by decide)) d_law_138 ?_
    refine lv_aload_n hx hb d_law_139 rfl (lv_at hl 0 rfl) ?_
    refine lv_iload hx hb d_law_140 (lv_at hl 4 rfl) ?_
    refine lv_iconst (v := 2) hx hb d_law_142 (by decide) ?_
    refine lv_iadd hx hb d_law_143 ?_
    refine va_sld hx hb hX0 hbl hbA hS (hin 2 (by decide) (by decide)) d_law_144 ?_
    refine lv_aload_n hx hb d_law_145 rfl (lv_at hl 3 rfl) ?_
    have hPc := hP.sub (ws' := (wSd cI cZ cJ sd_a w_a v_a (wr_a 0) (rd_a 0) (cu_a 0) (sp_a 0) sd ++ wSy cI cZ cJ cu_a cu ++ wOu cI cZ cJ ou_a ou)) [0, 1, 2, 3, 4, 5, 6, 7, 8, 9, 10, 45] rfl
    have hDc := hD.sub (ws' := (wSd cI cZ cJ sd_a w_a v_a (wr_a 0) (rd_a 0) (cu_a 0) (sp_a 0) sd ++ wSy cI cZ cJ cu_a cu ++ wOu cI cZ cJ ou_a ou)) [0, 1, 2, 3, 4, 5, 6, 7, 8, 9, 10, 45] (by decide) rfl
    have hFc := va_free (wc := (wSd cI cZ cJ sd_a w_a v_a (wr_a 0) (rd_a 0) (cu_a 0) (sp_a 0) sd ++ wSy cI cZ cJ cu_a cu ++ wOu cI cZ cJ ou_a ou)) hD hS hA [0, 1, 2, 3, 4, 5, 6, 7, 8, 9, 10, 45] rfl
    refine va_calli (w_runS (As := [.ref (sd_a 0), .int (xs (i + 1).toNatClampNeg), .int (xs (i + 2).toNatClampNeg), .ref (ou_a 0)]) (rest := []) ⟨hx, hb, hml, hown, hts⟩ (kx_Law_symbol_4 l hl9 dC dI cI cZ cJ sd_a cu_a ou_a w_a v_a (wr_a 0) (rd_a 0) (sp_a 0) H.size hf) (cwH_of 4 hts t_559 rfl rfl t_53 t_557 t_558 hd_Law_symbol.2 ⟨Nat.le_trans (Nat.le_of_ble_eq_true rfl) hRf, Nat.le_trans (Nat.le_of_ble_eq_true rfl) hRl⟩) ⟨kPX_blind, kPX_at hPc hK hDc hN (fun q hq => hS.2.1 q hq (fun h9 => absurd (hA2 q h9) (Nat.not_le.mpr hq))) hT hX⟩ rfl rfl hl.1 rfl (lv_room (Nat.le_of_ble_eq_true rfl)) d_law_146 ⟨by omega, by omega⟩) hS (fun q _ h => hFc q h) hFc (fun r9 u t H1 locs ht hvm hw hB hz1 hk1 hS => ?_)
    rw [hw]
    obtain ⟨hP, hD⟩ := kQ_join (wr := (wSy cI cZ cJ sp_a sp ++ wBr cI cZ cJ w_a w_b w ++ wBr cI cZ cJ v_a v_b v ++ wWr cI cZ cJ wr_a (pb_a 0) wr ++ wRd cI cZ cJ rd_a (pb_a 0) rd ++ wPb cI cZ cJ pb_a w_a v_a pb ++ wMo cI cZ cJ mo_a mo)) (w1 := (wSd cI cZ cJ sd_a w_a v_a (wr_a 0) (rd_a 0) (cu_a 0) (sp_a 0) sd ++ wSy cI cZ cJ cu_a cu ++ wOu cI cZ cJ ou_a ou)) hP hD [0, 1, 2, 3, 4, 5, 6, 7, 8, 9, 10, 45] [11, 12, 13, 14, 15, 16, 17, 18, 19, 20, 21, 22, 23, 24, 25, 26, 27, 28, 29, 30, 31, 32, 33, 34, 35, 36, 37, 38, 39, 40, 41, 42, 43, 44, 46] rfl rfl (by decide) (by decide) ht hk1 hFc hB
    generalize H1 = H at hP hS ⊢
    have hP : va_P (dC, dI) vwCl (wSd cI cZ cJ sd_a w_a v_a (wr_a 0) (rd_a 0) (cu_a 0) (sp_a 0) sd ++ wSy cI cZ cJ cu_a cu ++ wSy cI cZ cJ sp_a sp ++ wBr cI cZ cJ w_a w_b w ++ wBr cI cZ cJ v_a v_b v ++ wWr cI cZ cJ wr_a (pb_a 0) wr ++ wRd cI cZ cJ rd_a (pb_a 0) rd ++ wPb cI cZ cJ pb_a w_a v_a pb ++ wMo cI cZ cJ mo_a mo ++ wOu cI cZ cJ ou_a ou) H := hP.sub [35, 36, 37, 38, 39, 40, 41, 42, 43, 44, 45, 0, 1, 2, 3, 4, 5, 6, 7, 8, 9, 10, 11, 12, 13, 14, 15, 16, 17, 18, 19, 20, 21, 22, 23, 24, 25, 26, 27, 28, 29, 30, 31, 32, 33, 34, 46] rfl
    have hD : va_D A (wSd cI cZ cJ sd_a w_a v_a (wr_a 0) (rd_a 0) (cu_a 0) (sp_a 0) sd ++ wSy cI cZ cJ cu_a cu ++ wSy cI cZ cJ sp_a sp ++ wBr cI cZ cJ w_a w_b w ++ wBr cI cZ cJ v_a v_b v ++ wWr cI cZ cJ wr_a (pb_a 0) wr ++ wRd cI cZ cJ rd_a (pb_a 0) rd ++ wPb cI cZ cJ pb_a w_a v_a pb ++ wMo cI cZ cJ mo_a mo ++ wOu cI cZ cJ ou_a ou) := hD.sub [35, 36, 37, 38, 39, 40, 41, 42, 43, 44, 45, 0, 1, 2, 3, 4, 5, 6, 7, 8, 9, 10, 11, 12, 13, 14, 15, 16, 17, 18, 19, 20, 21, 22, 23, 24, 25, 26, 27, 28, 29, 30, 31, 32, 33, 34, 46] (by decide) rfl
    refine lv_istore (lv' := [(5, .int 2), (0, .ref b), (1, .ref (sd_a 0)), (2, .ref (mo_a 0)), (3, .ref (ou_a 0)), (4, .int i)]) hx hb d_law_149 hl (by decide) rfl (fun ls hl => ?_)
    refine lv_aload_n hx hb d_law_151 rfl (lv_at hl 3 rfl) ?_
    refine lv_aload_n hx hb d_law_152 rfl (lv_at hl 1 rfl) ?_
    refine lv_iload hx hb d_law_153 (lv_at hl 5 rfl) ?_
    refine lv_iconst (v := 1) hx hb d_law_155 (by decide) ?_
    refine lv_iadd hx hb d_law_156 ?_
    refine va_sld hx hb hX0 hbl hbA hS (hin 1 (by decide) (by decide)) d_law_157 ?_
    refine lv_aload_n hx hb d_law_158 rfl (lv_at hl 1 rfl) ?_
    refine lv_iload hx hb d_law_159 (lv_at hl 5 rfl) ?_
    refine lv_iconst (v := 2) hx hb d_law_161 (by decide) ?_
    refine lv_iadd hx hb d_law_162 ?_
    refine va_sld hx hb hX0 hbl hbA hS (hin 2 (by decide) (by decide)) d_law_163 ?_
    have hPc := hP.sub (ws' := (wMo cI cZ cJ mo_a mo)) [30, 31, 32, 33, 34, 35, 36, 37, 38, 39, 40, 41, 42, 43, 44, 45] rfl
    have hDc := hD.sub (ws' := (wMo cI cZ cJ mo_a mo)) [30, 31, 32, 33, 34, 35, 36, 37, 38, 39, 40, 41, 42, 43, 44, 45] (by decide) rfl
    have hFc := va_free (wc := (wMo cI cZ cJ mo_a mo)) hD hS hA [30, 31, 32, 33, 34, 35, 36, 37, 38, 39, 40, 41, 42, 43, 44, 45] rfl
    refine va_calli (va_runV (As := [.int (xs (i + 1).toNatClampNeg), .int (xs (i + 2).toNatClampNeg)]) (rest := []) ⟨hx, hb, hml, hown, hts⟩ (k_Model_symbol l dC dI cI cZ cJ mo_a H.size hg) (cwV 2 hts (gV t_910 t_911 t_912 t_63 t_913) rfl rfl rfl hd_Model_symbol ⟨Nat.le_trans (Nat.le_of_ble_eq_true rfl) hRf, Nat.le_trans (Nat.le_of_ble_eq_true rfl) hRl⟩) ⟨kP_blind, va_recv hK hP (ci := 7) (q0 := 30) rfl rfl, kP_at hPc hK hDc hN⟩ rfl rfl hl.1 rfl (lv_room (Nat.le_of_ble_eq_true rfl)) d_law_164 ⟨by omega, by omega⟩) hS (fun q _ h => hFc q h) hFc (fun r9 u t H1 locs ht hvm hw hB hz1 hk1 hS => ?_)
    rw [hw]
    obtain ⟨hP, hD⟩ := kQ_join (wr := (wSd cI cZ cJ sd_a w_a v_a (wr_a 0) (rd_a 0) (cu_a 0) (sp_a 0) sd ++ wSy cI cZ cJ cu_a cu ++ wSy cI cZ cJ sp_a sp ++ wBr cI cZ cJ w_a w_b w ++ wBr cI cZ cJ v_a v_b v ++ wWr cI cZ cJ wr_a (pb_a 0) wr ++ wRd cI cZ cJ rd_a (pb_a 0) rd ++ wPb cI cZ cJ pb_a w_a v_a pb ++ wOu cI cZ cJ ou_a ou)) (w1 := (wMo cI cZ cJ mo_a mo')) hP hD [30, 31, 32, 33, 34, 35, 36, 37, 38, 39, 40, 41, 42, 43, 44, 45] [0, 1, 2, 3, 4, 5, 6, 7, 8, 9, 10, 11, 12, 13, 14, 15, 16, 17, 18, 19, 20, 21, 22, 23, 24, 25, 26, 27, 28, 29, 46] rfl rfl (by decide) (by decide) ht hk1 hFc hB
    generalize H1 = H at hP hS ⊢
    have hP : va_P (dC, dI) vwCl (wSd cI cZ cJ sd_a w_a v_a (wr_a 0) (rd_a 0) (cu_a 0) (sp_a 0) sd ++ wSy cI cZ cJ cu_a cu ++ wSy cI cZ cJ sp_a sp ++ wBr cI cZ cJ w_a w_b w ++ wBr cI cZ cJ v_a v_b v ++ wWr cI cZ cJ wr_a (pb_a 0) wr ++ wRd cI cZ cJ rd_a (pb_a 0) rd ++ wPb cI cZ cJ pb_a w_a v_a pb ++ wMo cI cZ cJ mo_a mo' ++ wOu cI cZ cJ ou_a ou) H := hP.sub [0, 1, 2, 3, 4, 5, 6, 7, 8, 9, 10, 11, 12, 13, 14, 15, 16, 17, 18, 19, 20, 21, 22, 23, 24, 25, 26, 27, 28, 29, 31, 32, 33, 34, 35, 36, 37, 38, 39, 40, 41, 42, 43, 44, 45, 46, 30] rfl
    have hD : va_D A (wSd cI cZ cJ sd_a w_a v_a (wr_a 0) (rd_a 0) (cu_a 0) (sp_a 0) sd ++ wSy cI cZ cJ cu_a cu ++ wSy cI cZ cJ sp_a sp ++ wBr cI cZ cJ w_a w_b w ++ wBr cI cZ cJ v_a v_b v ++ wWr cI cZ cJ wr_a (pb_a 0) wr ++ wRd cI cZ cJ rd_a (pb_a 0) rd ++ wPb cI cZ cJ pb_a w_a v_a pb ++ wMo cI cZ cJ mo_a mo' ++ wOu cI cZ cJ ou_a ou) := hD.sub [0, 1, 2, 3, 4, 5, 6, 7, 8, 9, 10, 11, 12, 13, 14, 15, 16, 17, 18, 19, 20, 21, 22, 23, 24, 25, 26, 27, 28, 29, 31, 32, 33, 34, 35, 36, 37, 38, 39, 40, 41, 42, 43, 44, 45, 46, 30] (by decide) rfl
    refine lv_istore (lv' := [(6, .int q), (5, .int 2), (0, .ref b), (1, .ref (sd_a 0)), (2, .ref (mo_a 0)), (3, .ref (ou_a 0)), (4, .int i)]) hx hb d_law_167 hl (by decide) rfl (fun ls hl => ?_)
    refine lv_aload_n hx hb d_law_169 rfl (lv_at hl 4 rfl) ?_
    have hth : f_Model_thrown mo' = some (Mo_code mo') := rfl
    have hPc := hP.sub (ws' := (wMo cI cZ cJ mo_a mo')) [30, 31, 32, 33, 34, 35, 36, 37, 38, 39, 40, 41, 42, 43, 44, 45] rfl
    have hDc := hD.sub (ws' := (wMo cI cZ cJ mo_a mo')) [30, 31, 32, 33, 34, 35, 36, 37, 38, 39, 40, 41, 42, 43, 44, 45] (by decide) rfl
    have hFc := va_free (wc := (wMo cI cZ cJ mo_a mo')) hD hS hA [30, 31, 32, 33, 34, 35, 36, 37, 38, 39, 40, 41, 42, 43, 44, 45] rfl
    refine va_calli (va_runV (As := []) (rest := []) ⟨hx, hb, hml, hown, hts⟩ (k_Model_thrown l dC dI cI cZ cJ mo_a H.size hth) (cwV 0 hts (gV t_906 t_907 t_908 t_63 t_909) rfl rfl rfl hd_Model_thrown ⟨Nat.le_trans (Nat.le_of_ble_eq_true rfl) hRf, Nat.le_trans (Nat.le_of_ble_eq_true rfl) hRl⟩) ⟨kP_blind, va_recv hK hP (ci := 7) (q0 := 30) rfl rfl, kP_at hPc hK hDc hN⟩ rfl rfl hl.1 rfl (lv_room (Nat.le_of_ble_eq_true rfl)) d_law_170 ⟨by omega, by omega⟩) hS (fun q _ h => hFc q h) hFc (fun r9 u t H1 locs ht hvm hw hB hz1 hk1 hS => ?_)
    rw [hw]
    obtain ⟨hP, hD⟩ := kQ_join (wr := (wSd cI cZ cJ sd_a w_a v_a (wr_a 0) (rd_a 0) (cu_a 0) (sp_a 0) sd ++ wSy cI cZ cJ cu_a cu ++ wSy cI cZ cJ sp_a sp ++ wBr cI cZ cJ w_a w_b w ++ wBr cI cZ cJ v_a v_b v ++ wWr cI cZ cJ wr_a (pb_a 0) wr ++ wRd cI cZ cJ rd_a (pb_a 0) rd ++ wPb cI cZ cJ pb_a w_a v_a pb ++ wOu cI cZ cJ ou_a ou)) (w1 := (wMo cI cZ cJ mo_a mo')) hP hD [30, 31, 32, 33, 34, 35, 36, 37, 38, 39, 40, 41, 42, 43, 44, 45] [0, 1, 2, 3, 4, 5, 6, 7, 8, 9, 10, 11, 12, 13, 14, 15, 16, 17, 18, 19, 20, 21, 22, 23, 24, 25, 26, 27, 28, 29, 46] rfl rfl (by decide) (by decide) ht hk1 hFc hB
    generalize H1 = H at hP hS ⊢
    have hP : va_P (dC, dI) vwCl (wSd cI cZ cJ sd_a w_a v_a (wr_a 0) (rd_a 0) (cu_a 0) (sp_a 0) sd ++ wSy cI cZ cJ cu_a cu ++ wSy cI cZ cJ sp_a sp ++ wBr cI cZ cJ w_a w_b w ++ wBr cI cZ cJ v_a v_b v ++ wWr cI cZ cJ wr_a (pb_a 0) wr ++ wRd cI cZ cJ rd_a (pb_a 0) rd ++ wPb cI cZ cJ pb_a w_a v_a pb ++ wMo cI cZ cJ mo_a mo' ++ wOu cI cZ cJ ou_a ou) H := hP.sub [0, 1, 2, 3, 4, 5, 6, 7, 8, 9, 10, 11, 12, 13, 14, 15, 16, 17, 18, 19, 20, 21, 22, 23, 24, 25, 26, 27, 28, 29, 31, 32, 33, 34, 35, 36, 37, 38, 39, 40, 41, 42, 43, 44, 45, 46, 30] rfl
    have hD : va_D A (wSd cI cZ cJ sd_a w_a v_a (wr_a 0) (rd_a 0) (cu_a 0) (sp_a 0) sd ++ wSy cI cZ cJ cu_a cu ++ wSy cI cZ cJ sp_a sp ++ wBr cI cZ cJ w_a w_b w ++ wBr cI cZ cJ v_a v_b v ++ wWr cI cZ cJ wr_a (pb_a 0) wr ++ wRd cI cZ cJ rd_a (pb_a 0) rd ++ wPb cI cZ cJ pb_a w_a v_a pb ++ wMo cI cZ cJ mo_a mo' ++ wOu cI cZ cJ ou_a ou) := hD.sub [0, 1, 2, 3, 4, 5, 6, 7, 8, 9, 10, 11, 12, 13, 14, 15, 16, 17, 18, 19, 20, 21, 22, 23, 24, 25, 26, 27, 28, 29, 31, 32, 33, 34, 35, 36, 37, 38, 39, 40, 41, 42, 43, 44, 45, 46, 30] (by decide) rfl
    refine lv_iload hx hb d_law_173 (lv_at hl 1 rfl) ?_
    refine lv_icmp_eq (tgt := 180) hx hb d_law_175 (by decide) (fun _ => ?_) (fun h9 => absurd hcode h9)
    refine lv_iload hx hb d_law_180 (lv_at hl 1 rfl) ?_
    refine lv_if_ne (tgt := 197) hx hb d_law_182 (by decide) (fun _ => ?_) (fun h9 => absurd h9 (by decide))
    refine lv_goto (tgt := 1131) hx hb d_law_197 (by decide) ?_
    have hl := lv_sub (l' := [(0, .ref b), (1, .ref (sd_a 0)), (2, .ref (mo_a 0)), (3, .ref (ou_a 0)), (4, .int i)]) hl [2, 3, 4, 5, 6] rfl
    refine W.widen (k := j + 1 + Br_byL w + Br_byL v) (n := 6 * (j + 1) + 2 * Br_byL w + 2 * Br_byL v) (by omega) (by omega) ?_
    exact hk _ _ _ cu_a sp_a w_b v_b cu sp w v wr rd pb mo' ou hrel hP hD hS hl

set_option maxHeartbeats 8000000 in
set_option maxRecDepth 100000 in
theorem L_P_put {p : Program} {l : Launch} {e : Env} {R : Room} {s : State} {m : MethodId} {args : Array Value} {below : List Frame} {meth : Method} {c : Code} {Q : State → Prop} {A : Nat → Prop} {dC : Nat → ClassId} {dI : Nat → Nat → Nat} {cI cZ cJ : ClassId} {sd_a cu_a sp_a : Nat → Nat} {w_a w_b v_a v_b : Nat} {wr_a rd_a pb_a mo_a ou_a : Nat → Nat} {sd : Sd} {cu sp : Sy} {w v : Br} {wr : Wr} {rd : Rd} {pb : Pb} {mo : Mo} {ou : Ou} {b L : Nat} {xs : Nat → Int32} {i : Int32} {j : Nat} {Rl : Sd → Sy → Sy → Br → Br → Wr → Rd → Pb → Mo → Prop} (hl9 : l.stackTraces = false) (C0 : lcx p c m s args R (dC, dI) (TYS cI cZ cJ) A b L xs i j) (hRb : ∀ sd cu sp w v wr rd pb mo, Rl sd cu sp w v wr rd pb mo → Br_byL w ≤ 40000 ∧ Br_byL v ≤ 40000) (hR0 : Rl sd cu sp w v wr rd pb mo) (hT0 : T_P_put Rl sd cu sp w v wr rd pb mo (xs (i + 1).toNatClampNeg) (xs (i + 2).toNatClampNeg) (xs (i + 3).toNatClampNeg) (zb (xs (i + 4).toNatClampNeg)))
    (hk : ∀ (H : Heap) (locs : List Loc) (ls : Array Slot) (cu_a sp_a : Nat → Nat) (w_b v_b : Nat) (cu sp : Sy) (w v : Br) (wr : Wr) (rd : Rd) (pb : Pb) (mo : Mo) (ou : Ou), Rl sd cu sp w v wr rd pb mo → va_P (dC, dI) vwCl (wSd cI cZ cJ sd_a w_a v_a (wr_a 0) (rd_a 0) (cu_a 0) (sp_a 0) sd ++ wSy cI cZ cJ cu_a cu ++ wSy cI cZ cJ sp_a sp ++ wBr cI cZ cJ w_a w_b w ++ wBr cI cZ cJ v_a v_b v ++ wWr cI cZ cJ wr_a (pb_a 0) wr ++ wRd cI cZ cJ rd_a (pb_a 0) rd ++ wPb cI cZ cJ pb_a w_a v_a pb ++ wMo cI cZ cJ mo_a mo ++ wOu cI cZ cJ ou_a ou) H → va_D A (wSd cI cZ cJ sd_a w_a v_a (wr_a 0) (rd_a 0) (cu_a 0) (sp_a 0) sd ++ wSy cI cZ cJ cu_a cu ++ wSy cI cZ cJ sp_a sp ++ wBr cI cZ cJ w_a w_b w ++ wBr cI cZ cJ v_a v_b v ++ wWr cI cZ cJ wr_a (pb_a 0) wr ++ wRd cI cZ cJ rd_a (pb_a 0) rd ++ wPb cI cZ cJ pb_a w_a v_a pb ++ wMo cI cZ cJ mo_a mo ++ wOu cI cZ cJ ou_a ou) → va_S A s.heap H locs → lv_has ls 7 [(0, .ref b), (1, .ref (sd_a 0)), (2, .ref (mo_a 0)), (3, .ref (ou_a 0)), (4, .int i)] → W p l e R s m args below meth c H locs (j + 1 + Br_byL w + Br_byL v) (6 * (j + 1) + 2 * Br_byL w + 2 * Br_byL v) Q (F0 m 1131 ls []))
    {H : Heap} {locs : List Loc} {ls : Array Slot} (hP : va_P (dC, dI) vwCl (wSd cI cZ cJ sd_a w_a v_a (wr_a 0) (rd_a 0) (cu_a 0) (sp_a 0) sd ++ wSy cI cZ cJ cu_a cu ++ wSy cI cZ cJ sp_a sp ++ wBr cI cZ cJ w_a w_b w ++ wBr cI cZ cJ v_a v_b v ++ wWr cI cZ cJ wr_a (pb_a 0) wr ++ wRd cI cZ cJ rd_a (pb_a 0) rd ++ wPb cI cZ cJ pb_a w_a v_a pb ++ wMo cI cZ cJ mo_a mo ++ wOu cI cZ cJ ou_a ou) H) (hD : va_D A (wSd cI cZ cJ sd_a w_a v_a (wr_a 0) (rd_a 0) (cu_a 0) (sp_a 0) sd ++ wSy cI cZ cJ cu_a cu ++ wSy cI cZ cJ sp_a sp ++ wBr cI cZ cJ w_a w_b w ++ wBr cI cZ cJ v_a v_b v ++ wWr cI cZ cJ wr_a (pb_a 0) wr ++ wRd cI cZ cJ rd_a (pb_a 0) rd ++ wPb cI cZ cJ pb_a w_a v_a pb ++ wMo cI cZ cJ mo_a mo ++ wOu cI cZ cJ ou_a ou)) (hS : va_S A s.heap H locs) (hl : lv_has ls 7 [(0, .ref b), (1, .ref (sd_a 0)), (2, .ref (mo_a 0)), (3, .ref (ou_a 0)), (4, .int i)]) : W p l e R s m args below meth c H locs (j + Br_byL w + Br_byL v) (6 * j + 2 * Br_byL w + 2 * Br_byL v) Q (F0 m 200 ls []) := by
  obtain ⟨hx, hb, hml, hown, hts, hK, hA, hA2, hRf, hRl, hN, hT, hX, hX0, hbl, hin, hj, hRc, hRs⟩ := C0
  have hbA : ¬ A b := fun h => absurd (hA2 b h) (Nat.not_le.mpr hbl)
  obtain ⟨hw0, hv0⟩ := hRb _ _ _ _ _ _ _ _ _ hR0
  unfold T_P_put at hT0
  rcases hT0 with ⟨r, cu', mo', hf, hg, hcode, hrel⟩ | ⟨hf, q, mo', hg, hcode, hrel⟩
  · obtain ⟨ou', heou⟩ : ∃ z : Ou, z = (vp_updL (Ou_f ou) 0 (zl r)) := ⟨_, rfl⟩
    have hf1 : f_Law_put sd cu ou (xs (i + 1).toNatClampNeg) (xs (i + 2).toNatClampNeg) (xs (i + 3).toNatClampNeg) (zb (xs (i + 4).toNatClampNeg)) = some (0, cu', ou') := by
      rw [f_Law_put, hf, bd_s, heou]
      by_cases h9 : r = 0
      · rw [zl, if_pos h9, if_pos h9]; rfl
      · rw [zl, if_neg h9, if_neg h9]; rfl
    have hou : Ou_f ou' (0 : Int32).toNatClampNeg = (zl r) := by rw [heou]; exact updL_at _ _ _
    refine lv_aload_n hx hb d_law_200 rfl (lv_at hl 1 rfl) ?_
    refine lv_aload_n hx hb d_law_201 rfl (lv_at hl 0 rfl) ?_
    refine lv_iload hx hb d_law_202 (lv_at hl 4 rfl) ?_
    refine lv_iconst (v := 1) hx hb d_law_204 (by decide) ?_
    refine lv_iadd hx hb d_law_205 ?_
    refine va_sld hx hb hX0 hbl hbA hS (hin 1 (by decide) (by decide)) d_law_206 ?_
    refine lv_aload_n hx hb d_law_207 rfl (lv_at hl 0 rfl) ?_
    refine lv_iload hx hb d_law_208 (lv_at hl 4 rfl) ?_
    refine lv_iconst (v := 2) hx hb d_law_210 (by decide) ?_
    refine lv_iadd hx hb d_law_211 ?_
    refine va_sld hx hb hX0 hbl hbA hS (hin 2 (by decide) (by decide)) d_law_212 ?_
    refine lv_aload_n hx hb d_law_213 rfl (lv_at hl 0 rfl) ?_
    refine lv_iload hx hb d_law_214 (lv_at hl 4 rfl) ?_
    refine lv_iconst (v := 3) hx hb d_law_216 (by decide) ?_
    refine lv_iadd hx hb d_law_217 ?_
    refine va_sld hx hb hX0 hbl hbA hS (hin 3 (by decide) (by decide)) d_law_218 ?_
    refine lv_aload_n hx hb d_law_219 rfl (lv_at hl 0 rfl) ?_
    refine lv_iload hx hb d_law_220 (lv_at hl 4 rfl) ?_
    refine lv_iconst (v := 4) hx hb d_law_222 (by decide) ?_
    refine lv_iadd hx hb d_law_223 ?_
    refine va_sld hx hb hX0 hbl hbA hS (hin 4 (by decide) (by decide)) d_law_224 ?_
    refine lw_zb hx hb d_law_225 d_law_228 d_law_229 d_law_232 ?_
    refine lv_aload_n hx hb d_law_233 rfl (lv_at hl 3 rfl) ?_
    have hPc := hP.sub (ws' := (wSd cI cZ cJ sd_a w_a v_a (wr_a 0) (rd_a 0) (cu_a 0) (sp_a 0) sd ++ wSy cI cZ cJ cu_a cu ++ wOu cI cZ cJ ou_a ou)) [0, 1, 2, 3, 4, 5, 6, 7, 8, 9, 10, 45] rfl
    have hDc := hD.sub (ws' := (wSd cI cZ cJ sd_a w_a v_a (wr_a 0) (rd_a 0) (cu_a 0) (sp_a 0) sd ++ wSy cI cZ cJ cu_a cu ++ wOu cI cZ cJ ou_a ou)) [0, 1, 2, 3, 4, 5, 6, 7, 8, 9, 10, 45] (by decide) rfl
    have hFc := va_free (wc := (wSd cI cZ cJ sd_a w_a v_a (wr_a 0) (rd_a 0) (cu_a 0) (sp_a 0) sd ++ wSy cI cZ cJ cu_a cu ++ wOu cI cZ cJ ou_a ou)) hD hS hA [0, 1, 2, 3, 4, 5, 6, 7, 8, 9, 10, 45] rfl
    refine va_calli (w_runS (As := [.ref (sd_a 0), .int (xs (i + 1).toNatClampNeg), .int (xs (i + 2).toNatClampNeg), .int (xs (i + 3).toNatClampNeg), .int (zb (xs (i + 4).toNatClampNeg)), .ref (ou_a 0)]) (rest := []) ⟨hx, hb, hml, hown, hts⟩ (k_Law_put l dC dI cI cZ cJ sd_a cu_a ou_a w_a v_a (wr_a 0) (rd_a 0) (sp_a 0) H.size hf1) (cwH_of 6 hts t_654 rfl rfl t_53 t_652 t_653 hd_Law_put.2 ⟨Nat.le_trans (Nat.le_of_ble_eq_true rfl) hRf, Nat.le_trans (Nat.le_of_ble_eq_true rfl) hRl⟩) ⟨kP_blind, kP_at hPc hK hDc hN⟩ rfl rfl hl.1 rfl (lv_room (Nat.le_of_ble_eq_true rfl)) d_law_234 ⟨by omega, by omega⟩) hS (fun q _ h => hFc q h) hFc (fun r9 u t H1 locs ht hvm hw hB hz1 hk1 hS => ?_)
    rw [hw]
    obtain ⟨hP, hD⟩ := kQ_join (wr := (wSy cI cZ cJ sp_a sp ++ wBr cI cZ cJ w_a w_b w ++ wBr cI cZ cJ v_a v_b v ++ wWr cI cZ cJ wr_a (pb_a 0) wr ++ wRd cI cZ cJ rd_a (pb_a 0) rd ++ wPb cI cZ cJ pb_a w_a v_a pb ++ wMo cI cZ cJ mo_a mo)) (w1 := (wSd cI cZ cJ sd_a w_a v_a (wr_a 0) (rd_a 0) (cu_a 0) (sp_a 0) sd ++ wSy cI cZ cJ cu_a cu' ++ wOu cI cZ cJ ou_a ou')) hP hD [0, 1, 2, 3, 4, 5, 6, 7, 8, 9, 10, 45] [11, 12, 13, 14, 15, 16, 17, 18, 19, 20, 21, 22, 23, 24, 25, 26, 27, 28, 29, 30, 31, 32, 33, 34, 35, 36, 37, 38, 39, 40, 41, 42, 43, 44, 46] rfl rfl (by decide) (by decide) ht hk1 hFc hB
    generalize H1 = H at hP hS ⊢
    have hP : va_P (dC, dI) vwCl (wSd cI cZ cJ sd_a w_a v_a (wr_a 0) (rd_a 0) (cu_a 0) (sp_a 0) sd ++ wSy cI cZ cJ cu_a cu' ++ wSy cI cZ cJ sp_a sp ++ wBr cI cZ cJ w_a w_b w ++ wBr cI cZ cJ v_a v_b v ++ wWr cI cZ cJ wr_a (pb_a 0) wr ++ wRd cI cZ cJ rd_a (pb_a 0) rd ++ wPb cI cZ cJ pb_a w_a v_a pb ++ wMo cI cZ cJ mo_a mo ++ wOu cI cZ cJ ou_a ou') H := hP.sub [35, 36, 37, 38, 39, 40, 41, 42, 43, 44, 45, 0, 1, 2, 3, 4, 5, 6, 7, 8, 9, 10, 11, 12, 13, 14, 15, 16, 17, 18, 19, 20, 21, 22, 23, 24, 25, 26, 27, 28, 29, 30, 31, 32, 33, 34, 46] rfl
    have hD : va_D A (wSd cI cZ cJ sd_a w_a v_a (wr_a 0) (rd_a 0) (cu_a 0) (sp_a 0) sd ++ wSy cI cZ cJ cu_a cu' ++ wSy cI cZ cJ sp_a sp ++ wBr cI cZ cJ w_a w_b w ++ wBr cI cZ cJ v_a v_b v ++ wWr cI cZ cJ wr_a (pb_a 0) wr ++ wRd cI cZ cJ rd_a (pb_a 0) rd ++ wPb cI cZ cJ pb_a w_a v_a pb ++ wMo cI cZ cJ mo_a mo ++ wOu cI cZ cJ ou_a ou') := hD.sub [35, 36, 37, 38, 39, 40, 41, 42, 43, 44, 45, 0, 1, 2, 3, 4, 5, 6, 7, 8, 9, 10, 11, 12, 13, 14, 15, 16, 17, 18, 19, 20, 21, 22, 23, 24, 25, 26, 27, 28, 29, 30, 31, 32, 33, 34, 46] (by decide) rfl
    refine lv_istore (lv' := [(5, .int 0), (0, .ref b), (1, .ref (sd_a 0)), (2, .ref (mo_a 0)), (3, .ref (ou_a 0)), (4, .int i)]) hx hb d_law_237 hl (by decide) rfl (fun ls hl => ?_)
    refine lv_aload_n hx hb d_law_239 rfl (lv_at hl 3 rfl) ?_
    refine lv_aload_n hx hb d_law_240 rfl (lv_at hl 1 rfl) ?_
    refine lv_iload hx hb d_law_241 (lv_at hl 5 rfl) ?_
    refine lv_iconst (v := 1) hx hb d_law_243 (by decide) ?_
    refine lv_iadd hx hb d_law_244 ?_
    refine va_sld hx hb hX0 hbl hbA hS (hin 1 (by decide) (by decide)) d_law_245 ?_
    refine lv_aload_n hx hb d_law_246 rfl (lv_at hl 1 rfl) ?_
    refine lv_iload hx hb d_law_247 (lv_at hl 5 rfl) ?_
    refine lv_iconst (v := 2) hx hb d_law_249 (by decide) ?_
    refine lv_iadd hx hb d_law_250 ?_
    refine va_sld hx hb hX0 hbl hbA hS (hin 2 (by decide) (by decide)) d_law_251 ?_
    refine lv_aload_n hx hb d_law_252 rfl (lv_at hl 1 rfl) ?_
    refine lv_iload hx hb d_law_253 (lv_at hl 5 rfl) ?_
    refine lv_iconst (v := 3) hx hb d_law_255 (by decide) ?_
    refine lv_iadd hx hb d_law_256 ?_
    refine va_sld hx hb hX0 hbl hbA hS (hin 3 (by decide) (by decide)) d_law_257 ?_
    refine lv_aload_n hx hb d_law_258 rfl (lv_at hl 1 rfl) ?_
    refine lv_iload hx hb d_law_259 (lv_at hl 5 rfl) ?_
    refine lv_iconst (v := 4) hx hb d_law_261 (by decide) ?_
    refine lv_iadd hx hb d_law_262 ?_
    refine va_sld hx hb hX0 hbl hbA hS (hin 4 (by decide) (by decide)) d_law_263 ?_
    refine lw_zb hx hb d_law_264 d_law_267 d_law_268 d_law_271 ?_
    have hPc := hP.sub (ws' := (wMo cI cZ cJ mo_a mo)) [30, 31, 32, 33, 34, 35, 36, 37, 38, 39, 40, 41, 42, 43, 44, 45] rfl
    have hDc := hD.sub (ws' := (wMo cI cZ cJ mo_a mo)) [30, 31, 32, 33, 34, 35, 36, 37, 38, 39, 40, 41, 42, 43, 44, 45] (by decide) rfl
    have hFc := va_free (wc := (wMo cI cZ cJ mo_a mo)) hD hS hA [30, 31, 32, 33, 34, 35, 36, 37, 38, 39, 40, 41, 42, 43, 44, 45] rfl
    refine va_calli (va_runV (As := [.int (xs (i + 1).toNatClampNeg), .int (xs (i + 2).toNatClampNeg), .int (xs (i + 3).toNatClampNeg), .int (zb (xs (i + 4).toNatClampNeg))]) (rest := []) ⟨hx, hb, hml, hown, hts⟩ (k_Model_put l dC dI cI cZ cJ mo_a H.size hg) (cwV 4 hts (gV t_918 t_919 t_920 t_63 t_921) rfl rfl rfl hd_Model_put ⟨Nat.le_trans (Nat.le_of_ble_eq_true rfl) hRf, Nat.le_trans (Nat.le_of_ble_eq_true rfl) hRl⟩) ⟨kP_blind, va_recv hK hP (ci := 7) (q0 := 30) rfl rfl, kP_at hPc hK hDc hN⟩ rfl rfl hl.1 rfl (lv_room (Nat.le_of_ble_eq_true rfl)) d_law_272 ⟨by omega, by omega⟩) hS (fun q _ h => hFc q h) hFc (fun r9 u t H1 locs ht hvm hw hB hz1 hk1 hS => ?_)
    rw [hw.1]
    obtain ⟨hP, hD⟩ := kQ_join (wr := (wSd cI cZ cJ sd_a w_a v_a (wr_a 0) (rd_a 0) (cu_a 0) (sp_a 0) sd ++ wSy cI cZ cJ cu_a cu' ++ wSy cI cZ cJ sp_a sp ++ wBr cI cZ cJ w_a w_b w ++ wBr cI cZ cJ v_a v_b v ++ wWr cI cZ cJ wr_a (pb_a 0) wr ++ wRd cI cZ cJ rd_a (pb_a 0) rd ++ wPb cI cZ cJ pb_a w_a v_a pb ++ wOu cI cZ cJ ou_a ou')) (w1 := (wMo cI cZ cJ mo_a mo')) hP hD [30, 31, 32, 33, 34, 35, 36, 37, 38, 39, 40, 41, 42, 43, 44, 45] [0, 1, 2, 3, 4, 5, 6, 7, 8, 9, 10, 11, 12, 13, 14, 15, 16, 17, 18, 19, 20, 21, 22, 23, 24, 25, 26, 27, 28, 29, 46] rfl rfl (by decide) (by decide) ht hk1 hFc hB
    generalize H1 = H at hP hS ⊢
    have hP : va_P (dC, dI) vwCl (wSd cI cZ cJ sd_a w_a v_a (wr_a 0) (rd_a 0) (cu_a 0) (sp_a 0) sd ++ wSy cI cZ cJ cu_a cu' ++ wSy cI cZ cJ sp_a sp ++ wBr cI cZ cJ w_a w_b w ++ wBr cI cZ cJ v_a v_b v ++ wWr cI cZ cJ wr_a (pb_a 0) wr ++ wRd cI cZ cJ rd_a (pb_a 0) rd ++ wPb cI cZ cJ pb_a w_a v_a pb ++ wMo cI cZ cJ mo_a mo' ++ wOu cI cZ cJ ou_a ou') H := hP.sub [0, 1, 2, 3, 4, 5, 6, 7, 8, 9, 10, 11, 12, 13, 14, 15, 16, 17, 18, 19, 20, 21, 22, 23, 24, 25, 26, 27, 28, 29, 31, 32, 33, 34, 35, 36, 37, 38, 39, 40, 41, 42, 43, 44, 45, 46, 30] rfl
    have hD : va_D A (wSd cI cZ cJ sd_a w_a v_a (wr_a 0) (rd_a 0) (cu_a 0) (sp_a 0) sd ++ wSy cI cZ cJ cu_a cu' ++ wSy cI cZ cJ sp_a sp ++ wBr cI cZ cJ w_a w_b w ++ wBr cI cZ cJ v_a v_b v ++ wWr cI cZ cJ wr_a (pb_a 0) wr ++ wRd cI cZ cJ rd_a (pb_a 0) rd ++ wPb cI cZ cJ pb_a w_a v_a pb ++ wMo cI cZ cJ mo_a mo' ++ wOu cI cZ cJ ou_a ou') := hD.sub [0, 1, 2, 3, 4, 5, 6, 7, 8, 9, 10, 11, 12, 13, 14, 15, 16, 17, 18, 19, 20, 21, 22, 23, 24, 25, 26, 27, 28, 29, 31, 32, 33, 34, 35, 36, 37, 38, 39, 40, 41, 42, 43, 44, 45, 46, 30] (by decide) rfl
    refine lv_istore (lv' := [(6, .int r), (5, .int 0), (0, .ref b), (1, .ref (sd_a 0)), (2, .ref (mo_a 0)), (3, .ref (ou_a 0)), (4, .int i)]) hx hb d_law_275 hl (by decide) rfl (fun ls hl => ?_)
    refine lv_aload_n hx hb d_law_277 rfl (lv_at hl 4 rfl) ?_
    have hth : f_Model_thrown mo' = some (Mo_code mo') := rfl
    have hPc := hP.sub (ws' := (wMo cI cZ cJ mo_a mo')) [30, 31, 32, 33, 34, 35, 36, 37, 38, 39, 40, 41, 42, 43, 44, 45] rfl
    have hDc := hD.sub (ws' := (wMo cI cZ cJ mo_a mo')) [30, 31, 32, 33, 34, 35, 36, 37, 38, 39, 40, 41, 42, 43, 44, 45] (by decide) rfl
    have hFc := va_free (wc := (wMo cI cZ cJ mo_a mo')) hD hS hA [30, 31, 32, 33, 34, 35, 36, 37, 38, 39, 40, 41, 42, 43, 44, 45] rfl
    refine va_calli (va_runV (As := []) (rest := []) ⟨hx, hb, hml, hown, hts⟩ (k_Model_thrown l dC dI cI cZ cJ mo_a H.size hth) (cwV 0 hts (gV t_906 t_907 t_908 t_63 t_909) rfl rfl rfl hd_Model_thrown ⟨Nat.le_trans (Nat.le_of_ble_eq_true rfl) hRf, Nat.le_trans (Nat.le_of_ble_eq_true rfl) hRl⟩) ⟨kP_blind, va_recv hK hP (ci := 7) (q0 := 30) rfl rfl, kP_at hPc hK hDc hN⟩ rfl rfl hl.1 rfl (lv_room (Nat.le_of_ble_eq_true rfl)) d_law_278 ⟨by omega, by omega⟩) hS (fun q _ h => hFc q h) hFc (fun r9 u t H1 locs ht hvm hw hB hz1 hk1 hS => ?_)
    rw [hw]
    obtain ⟨hP, hD⟩ := kQ_join (wr := (wSd cI cZ cJ sd_a w_a v_a (wr_a 0) (rd_a 0) (cu_a 0) (sp_a 0) sd ++ wSy cI cZ cJ cu_a cu' ++ wSy cI cZ cJ sp_a sp ++ wBr cI cZ cJ w_a w_b w ++ wBr cI cZ cJ v_a v_b v ++ wWr cI cZ cJ wr_a (pb_a 0) wr ++ wRd cI cZ cJ rd_a (pb_a 0) rd ++ wPb cI cZ cJ pb_a w_a v_a pb ++ wOu cI cZ cJ ou_a ou')) (w1 := (wMo cI cZ cJ mo_a mo')) hP hD [30, 31, 32, 33, 34, 35, 36, 37, 38, 39, 40, 41, 42, 43, 44, 45] [0, 1, 2, 3, 4, 5, 6, 7, 8, 9, 10, 11, 12, 13, 14, 15, 16, 17, 18, 19, 20, 21, 22, 23, 24, 25, 26, 27, 28, 29, 46] rfl rfl (by decide) (by decide) ht hk1 hFc hB
    generalize H1 = H at hP hS ⊢
    have hP : va_P (dC, dI) vwCl (wSd cI cZ cJ sd_a w_a v_a (wr_a 0) (rd_a 0) (cu_a 0) (sp_a 0) sd ++ wSy cI cZ cJ cu_a cu' ++ wSy cI cZ cJ sp_a sp ++ wBr cI cZ cJ w_a w_b w ++ wBr cI cZ cJ v_a v_b v ++ wWr cI cZ cJ wr_a (pb_a 0) wr ++ wRd cI cZ cJ rd_a (pb_a 0) rd ++ wPb cI cZ cJ pb_a w_a v_a pb ++ wMo cI cZ cJ mo_a mo' ++ wOu cI cZ cJ ou_a ou') H := hP.sub [0, 1, 2, 3, 4, 5, 6, 7, 8, 9, 10, 11, 12, 13, 14, 15, 16, 17, 18, 19, 20, 21, 22, 23, 24, 25, 26, 27, 28, 29, 31, 32, 33, 34, 35, 36, 37, 38, 39, 40, 41, 42, 43, 44, 45, 46, 30] rfl
    have hD : va_D A (wSd cI cZ cJ sd_a w_a v_a (wr_a 0) (rd_a 0) (cu_a 0) (sp_a 0) sd ++ wSy cI cZ cJ cu_a cu' ++ wSy cI cZ cJ sp_a sp ++ wBr cI cZ cJ w_a w_b w ++ wBr cI cZ cJ v_a v_b v ++ wWr cI cZ cJ wr_a (pb_a 0) wr ++ wRd cI cZ cJ rd_a (pb_a 0) rd ++ wPb cI cZ cJ pb_a w_a v_a pb ++ wMo cI cZ cJ mo_a mo' ++ wOu cI cZ cJ ou_a ou') := hD.sub [0, 1, 2, 3, 4, 5, 6, 7, 8, 9, 10, 11, 12, 13, 14, 15, 16, 17, 18, 19, 20, 21, 22, 23, 24, 25, 26, 27, 28, 29, 31, 32, 33, 34, 35, 36, 37, 38, 39, 40, 41, 42, 43, 44, 45, 46, 30] (by decide) rfl
    refine lv_iload hx hb d_law_281 (lv_at hl 1 rfl) ?_
    refine lv_icmp_eq (tgt := 288) hx hb d_law_283 (by decide) (fun _ => ?_) (fun h9 => absurd hcode h9)
    refine lv_iload hx hb d_law_288 (lv_at hl 1 rfl) ?_
    refine lv_if_ne (tgt := 312) hx hb d_law_290 (by decide) (fun h9 => absurd rfl h9) (fun _ => ?_)
    refine lv_aload_n hx hb d_law_293 rfl (lv_at hl 5 rfl) ?_
    refine lv_iconst (v := 0) hx hb d_law_294 (by decide) ?_
    refine va_lald (f := Ou_f ou') hx hb hK hP 46 2 rfl rfl (inb_in (by decide)) d_law_295 ?_
    refine lv_iload hx hb d_law_296 (lv_at hl 0 rfl) ?_
    refine lw_zl hx hb d_law_298 d_law_301 d_law_302 d_law_305 ?_
    refine W.lcmp hx hb d_law_306 ?_
    refine lv_if_eq (tgt := 312) hx hb d_law_307 (by decide) (fun _ => ?_) (fun h9 => absurd (by rw [hou]; exact cmp_self _) h9)
    refine lv_goto (tgt := 1131) hx hb d_law_312 (by decide) ?_
    have hl := lv_sub (l' := [(0, .ref b), (1, .ref (sd_a 0)), (2, .ref (mo_a 0)), (3, .ref (ou_a 0)), (4, .int i)]) hl [2, 3, 4, 5, 6] rfl
    refine W.widen (k := j + 1 + Br_byL w + Br_byL v) (n := 6 * (j + 1) + 2 * Br_byL w + 2 * Br_byL v) (by omega) (by omega) ?_
    exact hk _ _ _ cu_a sp_a w_b v_b cu' sp w v wr rd pb mo' ou' hrel hP hD hS hl
  · refine lv_aload_n hx hb d_law_200 rfl (lv_at hl 1 rfl) ?_
    refine lv_aload_n hx hb d_law_201 rfl (lv_at hl 0 rfl) ?_
    refine lv_iload hx hb d_law_202 (lv_at hl 4 rfl) ?_
    refine lv_iconst (v := 1) hx hb d_law_204 (by decide) ?_
    refine lv_iadd hx hb d_law_205 ?_
    refine va_sld hx hb hX0 hbl hbA hS (hin 1 (by decide) (by decide)) d_law_206 ?_
    refine lv_aload_n hx hb d_law_207 rfl (lv_at hl 0 rfl) ?_
    refine lv_iload hx hb d_law_208 (lv_at hl 4 rfl) ?_
    refine lv_iconst (v := 2) hx hb d_law_210 (by decide) ?_
    refine lv_iadd hx hb d_law_211 ?_
    refine va_sld hx hb hX0 hbl hbA hS (hin 2 (by decide) (by decide)) d_law_212 ?_
    refine lv_aload_n hx hb d_law_213 rfl (lv_at hl 0 rfl) ?_
    refine lv_iload hx hb d_law_214 (lv_at hl 4 rfl) ?_
    refine lv_iconst (v := 3) hx hb d_law_216 (by decide) ?_
    refine lv_iadd hx hb d_law_217 ?_
    refine va_sld hx hb hX0 hbl hbA hS (hin 3 (by decide) (by decide)) d_law_218 ?_
    refine lv_aload_n hx hb d_law_219 rfl (lv_at hl 0 rfl) ?_
    refine lv_iload hx hb d_law_220 (lv_at hl 4 rfl) ?_
    refine lv_iconst (v := 4) hx hb d_law_222 (by decide) ?_
    refine lv_iadd hx hb d_law_223 ?_
    refine va_sld hx hb hX0 hbl hbA hS (hin 4 (by decide) (by decide)) d_law_224 ?_
    refine lw_zb hx hb d_law_225 d_law_228 d_law_229 d_law_232 ?_
    refine lv_aload_n hx hb d_law_233 rfl (lv_at hl 3 rfl) ?_
    have hPc := hP.sub (ws' := (wSd cI cZ cJ sd_a w_a v_a (wr_a 0) (rd_a 0) (cu_a 0) (sp_a 0) sd ++ wSy cI cZ cJ cu_a cu ++ wOu cI cZ cJ ou_a ou)) [0, 1, 2, 3, 4, 5, 6, 7, 8, 9, 10, 45] rfl
    have hDc := hD.sub (ws' := (wSd cI cZ cJ sd_a w_a v_a (wr_a 0) (rd_a 0) (cu_a 0) (sp_a 0) sd ++ wSy cI cZ cJ cu_a cu ++ wOu cI cZ cJ ou_a ou)) [0, 1, 2, 3, 4, 5, 6, 7, 8, 9, 10, 45] (by decide) rfl
    have hFc := va_free (wc := (wSd cI cZ cJ sd_a w_a v_a (wr_a 0) (rd_a 0) (cu_a 0) (sp_a 0) sd ++ wSy cI cZ cJ cu_a cu ++ wOu cI cZ cJ ou_a ou)) hD hS hA [0, 1, 2, 3, 4, 5, 6, 7, 8, 9, 10, 45] rfl
    refine va_calli (w_runS (As := [.ref (sd_a 0), .int (xs (i + 1).toNatClampNeg), .int (xs (i + 2).toNatClampNeg), .int (xs (i + 3).toNatClampNeg), .int (zb (xs (i + 4).toNatClampNeg)), .ref (ou_a 0)]) (rest := []) ⟨hx, hb, hml, hown, hts⟩ (kx_Law_put_3 l hl9 dC dI cI cZ cJ sd_a cu_a ou_a w_a v_a (wr_a 0) (rd_a 0) (sp_a 0) H.size hf) (cwH_of 6 hts t_654 rfl rfl t_53 t_652 t_653 hd_Law_put.2 ⟨Nat.le_trans (Nat.le_of_ble_eq_true rfl) hRf, Nat.le_trans (Nat.le_of_ble_eq_true rfl) hRl⟩) ⟨kPX_blind, kPX_at hPc hK hDc hN (fun q hq => hS.2.1 q hq (fun h9 => absurd (hA2 q h9) (Nat.not_le.mpr hq))) hT hX⟩ rfl rfl hl.1 rfl (lv_room (Nat.le_of_ble_eq_true rfl)) d_law_234 ⟨by omega, by omega⟩) hS (fun q _ h => hFc q h) hFc (fun r9 u t H1 locs ht hvm hw hB hz1 hk1 hS => ?_)
    rw [hw]
    obtain ⟨hP, hD⟩ := kQ_join (wr := (wSy cI cZ cJ sp_a sp ++ wBr cI cZ cJ w_a w_b w ++ wBr cI cZ cJ v_a v_b v ++ wWr cI cZ cJ wr_a (pb_a 0) wr ++ wRd cI cZ cJ rd_a (pb_a 0) rd ++ wPb cI cZ cJ pb_a w_a v_a pb ++ wMo cI cZ cJ mo_a mo)) (w1 := (wSd cI cZ cJ sd_a w_a v_a (wr_a 0) (rd_a 0) (cu_a 0) (sp_a 0) sd ++ wSy cI cZ cJ cu_a cu ++ wOu cI cZ cJ ou_a ou)) hP hD [0, 1, 2, 3, 4, 5, 6, 7, 8, 9, 10, 45] [11, 12, 13, 14, 15, 16, 17, 18, 19, 20, 21, 22, 23, 24, 25, 26, 27, 28, 29, 30, 31, 32, 33, 34, 35, 36, 37, 38, 39, 40, 41, 42, 43, 44, 46] rfl rfl (by decide) (by decide) ht hk1 hFc hB
    generalize H1 = H at hP hS ⊢
    have hP : va_P (dC, dI) vwCl (wSd cI cZ cJ sd_a w_a v_a (wr_a 0) (rd_a 0) (cu_a 0) (sp_a 0) sd ++ wSy cI cZ cJ cu_a cu ++ wSy cI cZ cJ sp_a sp ++ wBr cI cZ cJ w_a w_b w ++ wBr cI cZ cJ v_a v_b v ++ wWr cI cZ cJ wr_a (pb_a 0) wr ++ wRd cI cZ cJ rd_a (pb_a 0) rd ++ wPb cI cZ cJ pb_a w_a v_a pb ++ wMo cI cZ cJ mo_a mo ++ wOu cI cZ cJ ou_a ou) H := hP.sub [35, 36, 37, 38, 39, 40, 41, 42, 43, 44, 45, 0, 1, 2, 3, 4, 5, 6, 7, 8, 9, 10, 11, 12, 13, 14, 15, 16, 17, 18, 19, 20, 21, 22, 23, 24, 25, 26, 27, 28, 29, 30, 31, 32, 33, 34, 46] rfl
    have hD : va_D A (wSd cI cZ cJ sd_a w_a v_a (wr_a 0) (rd_a 0) (cu_a 0) (sp_a 0) sd ++ wSy cI cZ cJ cu_a cu ++ wSy cI cZ cJ sp_a sp ++ wBr cI cZ cJ w_a w_b w ++ wBr cI cZ cJ v_a v_b v ++ wWr cI cZ cJ wr_a (pb_a 0) wr ++ wRd cI cZ cJ rd_a (pb_a 0) rd ++ wPb cI cZ cJ pb_a w_a v_a pb ++ wMo cI cZ cJ mo_a mo ++ wOu cI cZ cJ ou_a ou) := hD.sub [35, 36, 37, 38, 39, 40, 41, 42, 43, 44, 45, 0, 1, 2, 3, 4, 5, 6, 7, 8, 9, 10, 11, 12, 13, 14, 15, 16, 17, 18, 19, 20, 21, 22, 23, 24, 25, 26, 27, 28, 29, 30, 31, 32, 33, 34, 46] (by decide) rfl
    refine lv_istore (lv' := [(5, .int 1), (0, .ref b), (1, .ref (sd_a 0)), (2, .ref (mo_a 0)), (3, .ref (ou_a 0)), (4, .int i)]) hx hb d_law_237 hl (by decide) rfl (fun ls hl => ?_)
    refine lv_aload_n hx hb d_law_239 rfl (lv_at hl 3 rfl) ?_
    refine lv_aload_n hx hb d_law_240 rfl (lv_at hl 1 rfl) ?_
    refine lv_iload hx hb d_law_241 (lv_at hl 5 rfl) ?_
    refine lv_iconst (v := 1) hx hb d_law_243 (by decide) ?_
    refine lv_iadd hx hb d_law_244 ?_
    refine va_sld hx hb hX0 hbl hbA hS (hin 1 (by decide) (by decide)) d_law_245 ?_
    refine lv_aload_n hx hb d_law_246 rfl (lv_at hl 1 rfl) ?_
    refine lv_iload hx hb d_law_247 (lv_at hl 5 rfl) ?_
    refine lv_iconst (v := 2) hx hb d_law_249 (by decide) ?_
    refine lv_iadd hx hb d_law_250 ?_
    refine va_sld hx hb hX0 hbl hbA hS (hin 2 (by decide) (by decide)) d_law_251 ?_
    refine lv_aload_n hx hb d_law_252 rfl (lv_at hl 1 rfl) ?_
    refine lv_iload hx hb d_law_253 (lv_at hl 5 rfl) ?_
    refine lv_iconst (v := 3) hx hb d_law_255 (by decide) ?_
    refine lv_iadd hx hb d_law_256 ?_
    refine va_sld hx hb hX0 hbl hbA hS (hin 3 (by decide) (by decide)) d_law_257 ?_
    refine lv_aload_n hx hb d_law_258 rfl (lv_at hl 1 rfl) ?_
    refine lv_iload hx hb d_law_259 (lv_at hl 5 rfl) ?_
    refine lv_iconst (v := 4) hx hb d_law_261 (by decide) ?_
    refine lv_iadd hx hb d_law_262 ?_
    refine va_sld hx hb hX0 hbl hbA hS (hin 4 (by decide) (by decide)) d_law_263 ?_
    refine lw_zb hx hb d_law_264 d_law_267 d_law_268 d_law_271 ?_
    have hPc := hP.sub (ws' := (wMo cI cZ cJ mo_a mo)) [30, 31, 32, 33, 34, 35, 36, 37, 38, 39, 40, 41, 42, 43, 44, 45] rfl
    have hDc := hD.sub (ws' := (wMo cI cZ cJ mo_a mo)) [30, 31, 32, 33, 34, 35, 36, 37, 38, 39, 40, 41, 42, 43, 44, 45] (by decide) rfl
    have hFc := va_free (wc := (wMo cI cZ cJ mo_a mo)) hD hS hA [30, 31, 32, 33, 34, 35, 36, 37, 38, 39, 40, 41, 42, 43, 44, 45] rfl
    refine va_calli (va_runV (As := [.int (xs (i + 1).toNatClampNeg), .int (xs (i + 2).toNatClampNeg), .int (xs (i + 3).toNatClampNeg), .int (zb (xs (i + 4).toNatClampNeg))]) (rest := []) ⟨hx, hb, hml, hown, hts⟩ (k_Model_put l dC dI cI cZ cJ mo_a H.size hg) (cwV 4 hts (gV t_918 t_919 t_920 t_63 t_921) rfl rfl rfl hd_Model_put ⟨Nat.le_trans (Nat.le_of_ble_eq_true rfl) hRf, Nat.le_trans (Nat.le_of_ble_eq_true rfl) hRl⟩) ⟨kP_blind, va_recv hK hP (ci := 7) (q0 := 30) rfl rfl, kP_at hPc hK hDc hN⟩ rfl rfl hl.1 rfl (lv_room (Nat.le_of_ble_eq_true rfl)) d_law_272 ⟨by omega, by omega⟩) hS (fun q _ h => hFc q h) hFc (fun r9 u t H1 locs ht hvm hw hB hz1 hk1 hS => ?_)
    rw [hw.1]
    obtain ⟨hP, hD⟩ := kQ_join (wr := (wSd cI cZ cJ sd_a w_a v_a (wr_a 0) (rd_a 0) (cu_a 0) (sp_a 0) sd ++ wSy cI cZ cJ cu_a cu ++ wSy cI cZ cJ sp_a sp ++ wBr cI cZ cJ w_a w_b w ++ wBr cI cZ cJ v_a v_b v ++ wWr cI cZ cJ wr_a (pb_a 0) wr ++ wRd cI cZ cJ rd_a (pb_a 0) rd ++ wPb cI cZ cJ pb_a w_a v_a pb ++ wOu cI cZ cJ ou_a ou)) (w1 := (wMo cI cZ cJ mo_a mo')) hP hD [30, 31, 32, 33, 34, 35, 36, 37, 38, 39, 40, 41, 42, 43, 44, 45] [0, 1, 2, 3, 4, 5, 6, 7, 8, 9, 10, 11, 12, 13, 14, 15, 16, 17, 18, 19, 20, 21, 22, 23, 24, 25, 26, 27, 28, 29, 46] rfl rfl (by decide) (by decide) ht hk1 hFc hB
    generalize H1 = H at hP hS ⊢
    have hP : va_P (dC, dI) vwCl (wSd cI cZ cJ sd_a w_a v_a (wr_a 0) (rd_a 0) (cu_a 0) (sp_a 0) sd ++ wSy cI cZ cJ cu_a cu ++ wSy cI cZ cJ sp_a sp ++ wBr cI cZ cJ w_a w_b w ++ wBr cI cZ cJ v_a v_b v ++ wWr cI cZ cJ wr_a (pb_a 0) wr ++ wRd cI cZ cJ rd_a (pb_a 0) rd ++ wPb cI cZ cJ pb_a w_a v_a pb ++ wMo cI cZ cJ mo_a mo' ++ wOu cI cZ cJ ou_a ou) H := hP.sub [0, 1, 2, 3, 4, 5, 6, 7, 8, 9, 10, 11, 12, 13, 14, 15, 16, 17, 18, 19, 20, 21, 22, 23, 24, 25, 26, 27, 28, 29, 31, 32, 33, 34, 35, 36, 37, 38, 39, 40, 41, 42, 43, 44, 45, 46, 30] rfl
    have hD : va_D A (wSd cI cZ cJ sd_a w_a v_a (wr_a 0) (rd_a 0) (cu_a 0) (sp_a 0) sd ++ wSy cI cZ cJ cu_a cu ++ wSy cI cZ cJ sp_a sp ++ wBr cI cZ cJ w_a w_b w ++ wBr cI cZ cJ v_a v_b v ++ wWr cI cZ cJ wr_a (pb_a 0) wr ++ wRd cI cZ cJ rd_a (pb_a 0) rd ++ wPb cI cZ cJ pb_a w_a v_a pb ++ wMo cI cZ cJ mo_a mo' ++ wOu cI cZ cJ ou_a ou) := hD.sub [0, 1, 2, 3, 4, 5, 6, 7, 8, 9, 10, 11, 12, 13, 14, 15, 16, 17, 18, 19, 20, 21, 22, 23, 24, 25, 26, 27, 28, 29, 31, 32, 33, 34, 35, 36, 37, 38, 39, 40, 41, 42, 43, 44, 45, 46, 30] (by decide) rfl
    refine lv_istore (lv' := [(6, .int q), (5, .int 1), (0, .ref b), (1, .ref (sd_a 0)), (2, .ref (mo_a 0)), (3, .ref (ou_a 0)), (4, .int i)]) hx hb d_law_275 hl (by decide) rfl (fun ls hl => ?_)
    refine lv_aload_n hx hb d_law_277 rfl (lv_at hl 4 rfl) ?_
    have hth : f_Model_thrown mo' = some (Mo_code mo') := rfl
    have hPc := hP.sub (ws' := (wMo cI cZ cJ mo_a mo')) [30, 31, 32, 33, 34, 35, 36, 37, 38, 39, 40, 41, 42, 43, 44, 45] rfl
    have hDc := hD.sub (ws' := (wMo cI cZ cJ mo_a mo')) [30, 31, 32, 33, 34, 35, 36, 37, 38, 39, 40, 41, 42, 43, 44, 45] (by decide) rfl
    have hFc := va_free (wc := (wMo cI cZ cJ mo_a mo')) hD hS hA [30, 31, 32, 33, 34, 35, 36, 37, 38, 39, 40, 41, 42, 43, 44, 45] rfl
    refine va_calli (va_runV (As := []) (rest := []) ⟨hx, hb, hml, hown, hts⟩ (k_Model_thrown l dC dI cI cZ cJ mo_a H.size hth) (cwV 0 hts (gV t_906 t_907 t_908 t_63 t_909) rfl rfl rfl hd_Model_thrown ⟨Nat.le_trans (Nat.le_of_ble_eq_true rfl) hRf, Nat.le_trans (Nat.le_of_ble_eq_true rfl) hRl⟩) ⟨kP_blind, va_recv hK hP (ci := 7) (q0 := 30) rfl rfl, kP_at hPc hK hDc hN⟩ rfl rfl hl.1 rfl (lv_room (Nat.le_of_ble_eq_true rfl)) d_law_278 ⟨by omega, by omega⟩) hS (fun q _ h => hFc q h) hFc (fun r9 u t H1 locs ht hvm hw hB hz1 hk1 hS => ?_)
    rw [hw]
    obtain ⟨hP, hD⟩ := kQ_join (wr := (wSd cI cZ cJ sd_a w_a v_a (wr_a 0) (rd_a 0) (cu_a 0) (sp_a 0) sd ++ wSy cI cZ cJ cu_a cu ++ wSy cI cZ cJ sp_a sp ++ wBr cI cZ cJ w_a w_b w ++ wBr cI cZ cJ v_a v_b v ++ wWr cI cZ cJ wr_a (pb_a 0) wr ++ wRd cI cZ cJ rd_a (pb_a 0) rd ++ wPb cI cZ cJ pb_a w_a v_a pb ++ wOu cI cZ cJ ou_a ou)) (w1 := (wMo cI cZ cJ mo_a mo')) hP hD [30, 31, 32, 33, 34, 35, 36, 37, 38, 39, 40, 41, 42, 43, 44, 45] [0, 1, 2, 3, 4, 5, 6, 7, 8, 9, 10, 11, 12, 13, 14, 15, 16, 17, 18, 19, 20, 21, 22, 23, 24, 25, 26, 27, 28, 29, 46] rfl rfl (by decide) (by decide) ht hk1 hFc hB
    generalize H1 = H at hP hS ⊢
    have hP : va_P (dC, dI) vwCl (wSd cI cZ cJ sd_a w_a v_a (wr_a 0) (rd_a 0) (cu_a 0) (sp_a 0) sd ++ wSy cI cZ cJ cu_a cu ++ wSy cI cZ cJ sp_a sp ++ wBr cI cZ cJ w_a w_b w ++ wBr cI cZ cJ v_a v_b v ++ wWr cI cZ cJ wr_a (pb_a 0) wr ++ wRd cI cZ cJ rd_a (pb_a 0) rd ++ wPb cI cZ cJ pb_a w_a v_a pb ++ wMo cI cZ cJ mo_a mo' ++ wOu cI cZ cJ ou_a ou) H := hP.sub [0, 1, 2, 3, 4, 5, 6, 7, 8, 9, 10, 11, 12, 13, 14, 15, 16, 17, 18, 19, 20, 21, 22, 23, 24, 25, 26, 27, 28, 29, 31, 32, 33, 34, 35, 36, 37, 38, 39, 40, 41, 42, 43, 44, 45, 46, 30] rfl
    have hD : va_D A (wSd cI cZ cJ sd_a w_a v_a (wr_a 0) (rd_a 0) (cu_a 0) (sp_a 0) sd ++ wSy cI cZ cJ cu_a cu ++ wSy cI cZ cJ sp_a sp ++ wBr cI cZ cJ w_a w_b w ++ wBr cI cZ cJ v_a v_b v ++ wWr cI cZ cJ wr_a (pb_a 0) wr ++ wRd cI cZ cJ rd_a (pb_a 0) rd ++ wPb cI cZ cJ pb_a w_a v_a pb ++ wMo cI cZ cJ mo_a mo' ++ wOu cI cZ cJ ou_a ou) := hD.sub [0, 1, 2, 3, 4, 5, 6, 7, 8, 9, 10, 11, 12, 13, 14, 15, 16, 17, 18, 19, 20, 21, 22, 23, 24, 25, 26, 27, 28, 29, 31, 32, 33, 34, 35, 36, 37, 38, 39, 40, 41, 42, 43, 44, 45, 46, 30] (by decide) rfl
    refine lv_iload hx hb d_law_281 (lv_at hl 1 rfl) ?_
    refine lv_icmp_eq (tgt := 288) hx hb d_law_283 (by decide) (fun _ => ?_) (fun h9 => absurd hcode h9)
    refine lv_iload hx hb d_law_288 (lv_at hl 1 rfl) ?_
    refine lv_if_ne (tgt := 312) hx hb d_law_290 (by decide) (fun _ => ?_) (fun h9 => absurd h9 (by decide))
    refine lv_goto (tgt := 1131) hx hb d_law_312 (by decide) ?_
    have hl := lv_sub (l' := [(0, .ref b), (1, .ref (sd_a 0)), (2, .ref (mo_a 0)), (3, .ref (ou_a 0)), (4, .int i)]) hl [2, 3, 4, 5, 6] rfl
    refine W.widen (k := j + 1 + Br_byL w + Br_byL v) (n := 6 * (j + 1) + 2 * Br_byL w + 2 * Br_byL v) (by omega) (by omega) ?_
    exact hk _ _ _ cu_a sp_a w_b v_b cu sp w v wr rd pb mo' ou hrel hP hD hS hl

set_option maxHeartbeats 8000000 in
set_option maxRecDepth 100000 in
theorem L_P_row {p : Program} {l : Launch} {e : Env} {R : Room} {s : State} {m : MethodId} {args : Array Value} {below : List Frame} {meth : Method} {c : Code} {Q : State → Prop} {A : Nat → Prop} {dC : Nat → ClassId} {dI : Nat → Nat → Nat} {cI cZ cJ : ClassId} {sd_a cu_a sp_a : Nat → Nat} {w_a w_b v_a v_b : Nat} {wr_a rd_a pb_a mo_a ou_a : Nat → Nat} {sd : Sd} {cu sp : Sy} {w v : Br} {wr : Wr} {rd : Rd} {pb : Pb} {mo : Mo} {ou : Ou} {b L : Nat} {xs : Nat → Int32} {i : Int32} {j : Nat} {Rl : Sd → Sy → Sy → Br → Br → Wr → Rd → Pb → Mo → Prop} (hl9 : l.stackTraces = false) (C0 : lcx p c m s args R (dC, dI) (TYS cI cZ cJ) A b L xs i j) (hRb : ∀ sd cu sp w v wr rd pb mo, Rl sd cu sp w v wr rd pb mo → Br_byL w ≤ 40000 ∧ Br_byL v ≤ 40000) (hR0 : Rl sd cu sp w v wr rd pb mo) (hT0 : T_P_row Rl sd cu sp w v wr rd pb mo (xs (i + 1).toNatClampNeg) (xs (i + 2).toNatClampNeg) (xs (i + 3).toNatClampNeg))
    (hk : ∀ (H : Heap) (locs : List Loc) (ls : Array Slot) (cu_a sp_a : Nat → Nat) (w_b v_b : Nat) (cu sp : Sy) (w v : Br) (wr : Wr) (rd : Rd) (pb : Pb) (mo : Mo) (ou : Ou), Rl sd cu sp w v wr rd pb mo → va_P (dC, dI) vwCl (wSd cI cZ cJ sd_a w_a v_a (wr_a 0) (rd_a 0) (cu_a 0) (sp_a 0) sd ++ wSy cI cZ cJ cu_a cu ++ wSy cI cZ cJ sp_a sp ++ wBr cI cZ cJ w_a w_b w ++ wBr cI cZ cJ v_a v_b v ++ wWr cI cZ cJ wr_a (pb_a 0) wr ++ wRd cI cZ cJ rd_a (pb_a 0) rd ++ wPb cI cZ cJ pb_a w_a v_a pb ++ wMo cI cZ cJ mo_a mo ++ wOu cI cZ cJ ou_a ou) H → va_D A (wSd cI cZ cJ sd_a w_a v_a (wr_a 0) (rd_a 0) (cu_a 0) (sp_a 0) sd ++ wSy cI cZ cJ cu_a cu ++ wSy cI cZ cJ sp_a sp ++ wBr cI cZ cJ w_a w_b w ++ wBr cI cZ cJ v_a v_b v ++ wWr cI cZ cJ wr_a (pb_a 0) wr ++ wRd cI cZ cJ rd_a (pb_a 0) rd ++ wPb cI cZ cJ pb_a w_a v_a pb ++ wMo cI cZ cJ mo_a mo ++ wOu cI cZ cJ ou_a ou) → va_S A s.heap H locs → lv_has ls 7 [(0, .ref b), (1, .ref (sd_a 0)), (2, .ref (mo_a 0)), (3, .ref (ou_a 0)), (4, .int i)] → W p l e R s m args below meth c H locs (j + 1 + Br_byL w + Br_byL v) (6 * (j + 1) + 2 * Br_byL w + 2 * Br_byL v) Q (F0 m 1131 ls []))
    {H : Heap} {locs : List Loc} {ls : Array Slot} (hP : va_P (dC, dI) vwCl (wSd cI cZ cJ sd_a w_a v_a (wr_a 0) (rd_a 0) (cu_a 0) (sp_a 0) sd ++ wSy cI cZ cJ cu_a cu ++ wSy cI cZ cJ sp_a sp ++ wBr cI cZ cJ w_a w_b w ++ wBr cI cZ cJ v_a v_b v ++ wWr cI cZ cJ wr_a (pb_a 0) wr ++ wRd cI cZ cJ rd_a (pb_a 0) rd ++ wPb cI cZ cJ pb_a w_a v_a pb ++ wMo cI cZ cJ mo_a mo ++ wOu cI cZ cJ ou_a ou) H) (hD : va_D A (wSd cI cZ cJ sd_a w_a v_a (wr_a 0) (rd_a 0) (cu_a 0) (sp_a 0) sd ++ wSy cI cZ cJ cu_a cu ++ wSy cI cZ cJ sp_a sp ++ wBr cI cZ cJ w_a w_b w ++ wBr cI cZ cJ v_a v_b v ++ wWr cI cZ cJ wr_a (pb_a 0) wr ++ wRd cI cZ cJ rd_a (pb_a 0) rd ++ wPb cI cZ cJ pb_a w_a v_a pb ++ wMo cI cZ cJ mo_a mo ++ wOu cI cZ cJ ou_a ou)) (hS : va_S A s.heap H locs) (hl : lv_has ls 7 [(0, .ref b), (1, .ref (sd_a 0)), (2, .ref (mo_a 0)), (3, .ref (ou_a 0)), (4, .int i)]) : W p l e R s m args below meth c H locs (j + Br_byL w + Br_byL v) (6 * j + 2 * Br_byL w + 2 * Br_byL v) Q (F0 m 315 ls []) := by
  obtain ⟨hx, hb, hml, hown, hts, hK, hA, hA2, hRf, hRl, hN, hT, hX, hX0, hbl, hin, hj, hRc, hRs⟩ := C0
  have hbA : ¬ A b := fun h => absurd (hA2 b h) (Nat.not_le.mpr hbl)
  obtain ⟨hw0, hv0⟩ := hRb _ _ _ _ _ _ _ _ _ hR0
  unfold T_P_row at hT0
  rcases hT0 with ⟨r, cu', mo', hf, hg, hcode, hrel⟩ | ⟨hf, q, mo', hg, hcode, hrel⟩
  · obtain ⟨ou', heou⟩ : ∃ z : Ou, z = (vp_updL (Ou_f ou) 0 r.toInt64) := ⟨_, rfl⟩
    have hf1 : f_Law_row sd cu ou (xs (i + 1).toNatClampNeg) (xs (i + 2).toNatClampNeg) (xs (i + 3).toNatClampNeg) = some (0, cu', ou') := by
      rw [f_Law_row, hf, bd_s, heou]
      rfl
    have hou : Ou_f ou' (0 : Int32).toNatClampNeg = r.toInt64 := by rw [heou]; exact updL_at _ _ _
    refine lv_aload_n hx hb d_law_315 rfl (lv_at hl 1 rfl) ?_
    refine lv_aload_n hx hb d_law_316 rfl (lv_at hl 0 rfl) ?_
    refine lv_iload hx hb d_law_317 (lv_at hl 4 rfl) ?_
    refine lv_iconst (v := 1) hx hb d_law_319 (by decide) ?_
    refine lv_iadd hx hb d_law_320 ?_
    refine va_sld hx hb hX0 hbl hbA hS (hin 1 (by decide) (by decide)) d_law_321 ?_
    refine lv_aload_n hx hb d_law_322 rfl (lv_at hl 0 rfl) ?_
    refine lv_iload hx hb d_law_323 (lv_at hl 4 rfl) ?_
    refine lv_iconst (v := 2) hx hb d_law_325 (by decide) ?_
    refine lv_iadd hx hb d_law_326 ?_
    refine va_sld hx hb hX0 hbl hbA hS (hin 2 (by decide) (by decide)) d_law_327 ?_
    refine lv_aload_n hx hb d_law_328 rfl (lv_at hl 0 rfl) ?_
    refine lv_iload hx hb d_law_329 (lv_at hl 4 rfl) ?_
    refine lv_iconst (v := 3) hx hb d_law_331 (by decide) ?_
    refine lv_iadd hx hb d_law_332 ?_
    refine va_sld hx hb hX0 hbl hbA hS (hin 3 (by decide) (by decide)) d_law_333 ?_
    refine lv_aload_n hx hb d_law_334 rfl (lv_at hl 3 rfl) ?_
    have hPc := hP.sub (ws' := (wSd cI cZ cJ sd_a w_a v_a (wr_a 0) (rd_a 0) (cu_a 0) (sp_a 0) sd ++ wSy cI cZ cJ cu_a cu ++ wOu cI cZ cJ ou_a ou)) [0, 1, 2, 3, 4, 5, 6, 7, 8, 9, 10, 45] rfl
    have hDc := hD.sub (ws' := (wSd cI cZ cJ sd_a w_a v_a (wr_a 0) (rd_a 0) (cu_a 0) (sp_a 0) sd ++ wSy cI cZ cJ cu_a cu ++ wOu cI cZ cJ ou_a ou)) [0, 1, 2, 3, 4, 5, 6, 7, 8, 9, 10, 45] (by decide) rfl
    have hFc := va_free (wc := (wSd cI cZ cJ sd_a w_a v_a (wr_a 0) (rd_a 0) (cu_a 0) (sp_a 0) sd ++ wSy cI cZ cJ cu_a cu ++ wOu cI cZ cJ ou_a ou)) hD hS hA [0, 1, 2, 3, 4, 5, 6, 7, 8, 9, 10, 45] rfl
    refine va_calli (w_runS (As := [.ref (sd_a 0), .int (xs (i + 1).toNatClampNeg), .int (xs (i + 2).toNatClampNeg), .int (xs (i + 3).toNatClampNeg), .ref (ou_a 0)]) (rest := []) ⟨hx, hb, hml, hown, hts⟩ (k_Law_row l dC dI cI cZ cJ sd_a cu_a ou_a w_a v_a (wr_a 0) (rd_a 0) (sp_a 0) H.size hf1) (cwH_of 5 hts t_692 rfl rfl t_53 t_690 t_691 hd_Law_row.2 ⟨Nat.le_trans (Nat.le_of_ble_eq_true rfl) hRf, Nat.le_trans (Nat.le_of_ble_eq_true rfl) hRl⟩) ⟨kP_blind, kP_at hPc hK hDc hN⟩ rfl rfl hl.1 rfl (lv_room (Nat.le_of_ble_eq_true rfl)) d_law_335 ⟨by omega, by omega⟩) hS (fun q _ h => hFc q h) hFc (fun r9 u t H1 locs ht hvm hw hB hz1 hk1 hS => ?_)
    rw [hw]
    obtain ⟨hP, hD⟩ := kQ_join (wr := (wSy cI cZ cJ sp_a sp ++ wBr cI cZ cJ w_a w_b w ++ wBr cI cZ cJ v_a v_b v ++ wWr cI cZ cJ wr_a (pb_a 0) wr ++ wRd cI cZ cJ rd_a (pb_a 0) rd ++ wPb cI cZ cJ pb_a w_a v_a pb ++ wMo cI cZ cJ mo_a mo)) (w1 := (wSd cI cZ cJ sd_a w_a v_a (wr_a 0) (rd_a 0) (cu_a 0) (sp_a 0) sd ++ wSy cI cZ cJ cu_a cu' ++ wOu cI cZ cJ ou_a ou')) hP hD [0, 1, 2, 3, 4, 5, 6, 7, 8, 9, 10, 45] [11, 12, 13, 14, 15, 16, 17, 18, 19, 20, 21, 22, 23, 24, 25, 26, 27, 28, 29, 30, 31, 32, 33, 34, 35, 36, 37, 38, 39, 40, 41, 42, 43, 44, 46] rfl rfl (by decide) (by decide) ht hk1 hFc hB
    generalize H1 = H at hP hS ⊢
    have hP : va_P (dC, dI) vwCl (wSd cI cZ cJ sd_a w_a v_a (wr_a 0) (rd_a 0) (cu_a 0) (sp_a 0) sd ++ wSy cI cZ cJ cu_a cu' ++ wSy cI cZ cJ sp_a sp ++ wBr cI cZ cJ w_a w_b w ++ wBr cI cZ cJ v_a v_b v ++ wWr cI cZ cJ wr_a (pb_a 0) wr ++ wRd cI cZ cJ rd_a (pb_a 0) rd ++ wPb cI cZ cJ pb_a w_a v_a pb ++ wMo cI cZ cJ mo_a mo ++ wOu cI cZ cJ ou_a ou') H := hP.sub [35, 36, 37, 38, 39, 40, 41, 42, 43, 44, 45, 0, 1, 2, 3, 4, 5, 6, 7, 8, 9, 10, 11, 12, 13, 14, 15, 16, 17, 18, 19, 20, 21, 22, 23, 24, 25, 26, 27, 28, 29, 30, 31, 32, 33, 34, 46] rfl
    have hD : va_D A (wSd cI cZ cJ sd_a w_a v_a (wr_a 0) (rd_a 0) (cu_a 0) (sp_a 0) sd ++ wSy cI cZ cJ cu_a cu' ++ wSy cI cZ cJ sp_a sp ++ wBr cI cZ cJ w_a w_b w ++ wBr cI cZ cJ v_a v_b v ++ wWr cI cZ cJ wr_a (pb_a 0) wr ++ wRd cI cZ cJ rd_a (pb_a 0) rd ++ wPb cI cZ cJ pb_a w_a v_a pb ++ wMo cI cZ cJ mo_a mo ++ wOu cI cZ cJ ou_a ou') := hD.sub [35, 36, 37, 38, 39, 40, 41, 42, 43, 44, 45, 0, 1, 2, 3, 4, 5, 6, 7, 8, 9, 10, 11, 12, 13, 14, 15, 16, 17, 18, 19, 20, 21, 22, 23, 24, 25, 26, 27, 28, 29, 30, 31, 32, 33, 34, 46] (by decide) rfl
    refine lv_istore (lv' := [(5, .int 0), (0, .ref b), (1, .ref (sd_a 0)), (2, .ref (mo_a 0)), (3, .ref (ou_a 0)), (4, .int i)]) hx hb d_law_338 hl (by decide) rfl (fun ls hl => ?_)
    refine lv_aload_n hx hb d_law_340 rfl (lv_at hl 3 rfl) ?_
    refine lv_aload_n hx hb d_law_341 rfl (lv_at hl 1 rfl) ?_
    refine lv_iload hx hb d_law_342 (lv_at hl 5 rfl) ?_
    refine lv_iconst (v := 1) hx hb d_law_344 (by decide) ?_
    refine lv_iadd hx hb d_law_345 ?_
    refine va_sld hx hb hX0 hbl hbA hS (hin 1 (by decide) (by decide)) d_law_346 ?_
    refine lv_aload_n hx hb d_law_347 rfl (lv_at hl 1 rfl) ?_
    refine lv_iload hx hb d_law_348 (lv_at hl 5 rfl) ?_
    refine lv_iconst (v := 2) hx hb d_law_350 (by decide) ?_
    refine lv_iadd hx hb d_law_351 ?_
    refine va_sld hx hb hX0 hbl hbA hS (hin 2 (by decide) (by decide)) d_law_352 ?_
    refine lv_aload_n hx hb d_law_353 rfl (lv_at hl 1 rfl) ?_
    refine lv_iload hx hb d_law_354 (lv_at hl 5 rfl) ?_
    refine lv_iconst (v := 3) hx hb d_law_356 (by decide) ?_
    refine lv_iadd hx hb d_law_357 ?_
    refine va_sld hx hb hX0 hbl hbA hS (hin 3 (by decide) (by decide)) d_law_358 ?_
    have hPc := hP.sub (ws' := (wMo cI cZ cJ mo_a mo)) [30, 31, 32, 33, 34, 35, 36, 37, 38, 39, 40, 41, 42, 43, 44, 45] rfl
    have hDc := hD.sub (ws' := (wMo cI cZ cJ mo_a mo)) [30, 31, 32, 33, 34, 35, 36, 37, 38, 39, 40, 41, 42, 43, 44, 45] (by decide) rfl
    have hFc := va_free (wc := (wMo cI cZ cJ mo_a mo)) hD hS hA [30, 31, 32, 33, 34, 35, 36, 37, 38, 39, 40, 41, 42, 43, 44, 45] rfl
    refine va_calli (va_runV (As := [.int (xs (i + 1).toNatClampNeg), .int (xs (i + 2).toNatClampNeg), .int (xs (i + 3).toNatClampNeg)]) (rest := []) ⟨hx, hb, hml, hown, hts⟩ (k_Model_row l dC dI cI cZ cJ mo_a H.size hg) (cwV 3 hts (gV t_934 t_935 t_936 t_63 t_937) rfl rfl rfl hd_Model_row ⟨Nat.le_trans (Nat.le_of_ble_eq_true rfl) hRf, Nat.le_trans (Nat.le_of_ble_eq_true rfl) hRl⟩) ⟨kP_blind, va_recv hK hP (ci := 7) (q0 := 30) rfl rfl, kP_at hPc hK hDc hN⟩ rfl rfl hl.1 rfl (lv_room (Nat.le_of_ble_eq_true rfl)) d_law_359 ⟨by omega, by omega⟩) hS (fun q _ h => hFc q h) hFc (fun r9 u t H1 locs ht hvm hw hB hz1 hk1 hS => ?_)
    rw [hw]
    obtain ⟨hP, hD⟩ := kQ_join (wr := (wSd cI cZ cJ sd_a w_a v_a (wr_a 0) (rd_a 0) (cu_a 0) (sp_a 0) sd ++ wSy cI cZ cJ cu_a cu' ++ wSy cI cZ cJ sp_a sp ++ wBr cI cZ cJ w_a w_b w ++ wBr cI cZ cJ v_a v_b v ++ wWr cI cZ cJ wr_a (pb_a 0) wr ++ wRd cI cZ cJ rd_a (pb_a 0) rd ++ wPb cI cZ cJ pb_a w_a v_a pb ++ wOu cI cZ cJ ou_a ou')) (w1 := (wMo cI cZ cJ mo_a mo')) hP hD [30, 31, 32, 33, 34, 35, 36, 37, 38, 39, 40, 41, 42, 43, 44, 45] [0, 1, 2, 3, 4, 5, 6, 7, 8, 9, 10, 11, 12, 13, 14, 15, 16, 17, 18, 19, 20, 21, 22, 23, 24, 25, 26, 27, 28, 29, 46] rfl rfl (by decide) (by decide) ht hk1 hFc hB
    generalize H1 = H at hP hS ⊢
    have hP : va_P (dC, dI) vwCl (wSd cI cZ cJ sd_a w_a v_a (wr_a 0) (rd_a 0) (cu_a 0) (sp_a 0) sd ++ wSy cI cZ cJ cu_a cu' ++ wSy cI cZ cJ sp_a sp ++ wBr cI cZ cJ w_a w_b w ++ wBr cI cZ cJ v_a v_b v ++ wWr cI cZ cJ wr_a (pb_a 0) wr ++ wRd cI cZ cJ rd_a (pb_a 0) rd ++ wPb cI cZ cJ pb_a w_a v_a pb ++ wMo cI cZ cJ mo_a mo' ++ wOu cI cZ cJ ou_a ou') H := hP.sub [0, 1, 2, 3, 4, 5, 6, 7, 8, 9, 10, 11, 12, 13, 14, 15, 16, 17, 18, 19, 20, 21, 22, 23, 24, 25, 26, 27, 28, 29, 31, 32, 33, 34, 35, 36, 37, 38, 39, 40, 41, 42, 43, 44, 45, 46, 30] rfl
    have hD : va_D A (wSd cI cZ cJ sd_a w_a v_a (wr_a 0) (rd_a 0) (cu_a 0) (sp_a 0) sd ++ wSy cI cZ cJ cu_a cu' ++ wSy cI cZ cJ sp_a sp ++ wBr cI cZ cJ w_a w_b w ++ wBr cI cZ cJ v_a v_b v ++ wWr cI cZ cJ wr_a (pb_a 0) wr ++ wRd cI cZ cJ rd_a (pb_a 0) rd ++ wPb cI cZ cJ pb_a w_a v_a pb ++ wMo cI cZ cJ mo_a mo' ++ wOu cI cZ cJ ou_a ou') := hD.sub [0, 1, 2, 3, 4, 5, 6, 7, 8, 9, 10, 11, 12, 13, 14, 15, 16, 17, 18, 19, 20, 21, 22, 23, 24, 25, 26, 27, 28, 29, 31, 32, 33, 34, 35, 36, 37, 38, 39, 40, 41, 42, 43, 44, 45, 46, 30] (by decide) rfl
    refine lv_istore (lv' := [(6, .int r), (5, .int 0), (0, .ref b), (1, .ref (sd_a 0)), (2, .ref (mo_a 0)), (3, .ref (ou_a 0)), (4, .int i)]) hx hb d_law_362 hl (by decide) rfl (fun ls hl => ?_)
    refine lv_aload_n hx hb d_law_364 rfl (lv_at hl 4 rfl) ?_
    have hth : f_Model_thrown mo' = some (Mo_code mo') := rfl
    have hPc := hP.sub (ws' := (wMo cI cZ cJ mo_a mo')) [30, 31, 32, 33, 34, 35, 36, 37, 38, 39, 40, 41, 42, 43, 44, 45] rfl
    have hDc := hD.sub (ws' := (wMo cI cZ cJ mo_a mo')) [30, 31, 32, 33, 34, 35, 36, 37, 38, 39, 40, 41, 42, 43, 44, 45] (by decide) rfl
    have hFc := va_free (wc := (wMo cI cZ cJ mo_a mo')) hD hS hA [30, 31, 32, 33, 34, 35, 36, 37, 38, 39, 40, 41, 42, 43, 44, 45] rfl
    refine va_calli (va_runV (As := []) (rest := []) ⟨hx, hb, hml, hown, hts⟩ (k_Model_thrown l dC dI cI cZ cJ mo_a H.size hth) (cwV 0 hts (gV t_906 t_907 t_908 t_63 t_909) rfl rfl rfl hd_Model_thrown ⟨Nat.le_trans (Nat.le_of_ble_eq_true rfl) hRf, Nat.le_trans (Nat.le_of_ble_eq_true rfl) hRl⟩) ⟨kP_blind, va_recv hK hP (ci := 7) (q0 := 30) rfl rfl, kP_at hPc hK hDc hN⟩ rfl rfl hl.1 rfl (lv_room (Nat.le_of_ble_eq_true rfl)) d_law_365 ⟨by omega, by omega⟩) hS (fun q _ h => hFc q h) hFc (fun r9 u t H1 locs ht hvm hw hB hz1 hk1 hS => ?_)
    rw [hw]
    obtain ⟨hP, hD⟩ := kQ_join (wr := (wSd cI cZ cJ sd_a w_a v_a (wr_a 0) (rd_a 0) (cu_a 0) (sp_a 0) sd ++ wSy cI cZ cJ cu_a cu' ++ wSy cI cZ cJ sp_a sp ++ wBr cI cZ cJ w_a w_b w ++ wBr cI cZ cJ v_a v_b v ++ wWr cI cZ cJ wr_a (pb_a 0) wr ++ wRd cI cZ cJ rd_a (pb_a 0) rd ++ wPb cI cZ cJ pb_a w_a v_a pb ++ wOu cI cZ cJ ou_a ou')) (w1 := (wMo cI cZ cJ mo_a mo')) hP hD [30, 31, 32, 33, 34, 35, 36, 37, 38, 39, 40, 41, 42, 43, 44, 45] [0, 1, 2, 3, 4, 5, 6, 7, 8, 9, 10, 11, 12, 13, 14, 15, 16, 17, 18, 19, 20, 21, 22, 23, 24, 25, 26, 27, 28, 29, 46] rfl rfl (by decide) (by decide) ht hk1 hFc hB
    generalize H1 = H at hP hS ⊢
    have hP : va_P (dC, dI) vwCl (wSd cI cZ cJ sd_a w_a v_a (wr_a 0) (rd_a 0) (cu_a 0) (sp_a 0) sd ++ wSy cI cZ cJ cu_a cu' ++ wSy cI cZ cJ sp_a sp ++ wBr cI cZ cJ w_a w_b w ++ wBr cI cZ cJ v_a v_b v ++ wWr cI cZ cJ wr_a (pb_a 0) wr ++ wRd cI cZ cJ rd_a (pb_a 0) rd ++ wPb cI cZ cJ pb_a w_a v_a pb ++ wMo cI cZ cJ mo_a mo' ++ wOu cI cZ cJ ou_a ou') H := hP.sub [0, 1, 2, 3, 4, 5, 6, 7, 8, 9, 10, 11, 12, 13, 14, 15, 16, 17, 18, 19, 20, 21, 22, 23, 24, 25, 26, 27, 28, 29, 31, 32, 33, 34, 35, 36, 37, 38, 39, 40, 41, 42, 43, 44, 45, 46, 30] rfl
    have hD : va_D A (wSd cI cZ cJ sd_a w_a v_a (wr_a 0) (rd_a 0) (cu_a 0) (sp_a 0) sd ++ wSy cI cZ cJ cu_a cu' ++ wSy cI cZ cJ sp_a sp ++ wBr cI cZ cJ w_a w_b w ++ wBr cI cZ cJ v_a v_b v ++ wWr cI cZ cJ wr_a (pb_a 0) wr ++ wRd cI cZ cJ rd_a (pb_a 0) rd ++ wPb cI cZ cJ pb_a w_a v_a pb ++ wMo cI cZ cJ mo_a mo' ++ wOu cI cZ cJ ou_a ou') := hD.sub [0, 1, 2, 3, 4, 5, 6, 7, 8, 9, 10, 11, 12, 13, 14, 15, 16, 17, 18, 19, 20, 21, 22, 23, 24, 25, 26, 27, 28, 29, 31, 32, 33, 34, 35, 36, 37, 38, 39, 40, 41, 42, 43, 44, 45, 46, 30] (by decide) rfl
    refine lv_iload hx hb d_law_368 (lv_at hl 1 rfl) ?_
    refine lv_icmp_eq (tgt := 375) hx hb d_law_370 (by decide) (fun _ => ?_) (fun h9 => absurd hcode h9)
    refine lv_iload hx hb d_law_375 (lv_at hl 1 rfl) ?_
    refine lv_if_ne (tgt := 392) hx hb d_law_377 (by decide) (fun h9 => absurd rfl h9) (fun _ => ?_)
    refine lv_aload_n hx hb d_law_380 rfl (lv_at hl 5 rfl) ?_
    refine lv_iconst (v := 0) hx hb d_law_381 (by decide) ?_
    refine va_lald (f := Ou_f ou') hx hb hK hP 46 2 rfl rfl (inb_in (by decide)) d_law_382 ?_
    refine lv_iload hx hb d_law_383 (lv_at hl 0 rfl) ?_
    refine lv_i2l (v := r.toInt64) hx hb d_law_385 rfl ?_
    refine W.lcmp hx hb d_law_386 ?_
    refine lv_if_eq (tgt := 392) hx hb d_law_387 (by decide) (fun _ => ?_) (fun h9 => absurd (by rw [hou]; exact cmp_self _) h9)
    refine lv_goto (tgt := 1131) hx hb d_law_392 (by decide) ?_
    have hl := lv_sub (l' := [(0, .ref b), (1, .ref (sd_a 0)), (2, .ref (mo_a 0)), (3, .ref (ou_a 0)), (4, .int i)]) hl [2, 3, 4, 5, 6] rfl
    refine W.widen (k := j + 1 + Br_byL w + Br_byL v) (n := 6 * (j + 1) + 2 * Br_byL w + 2 * Br_byL v) (by omega) (by omega) ?_
    exact hk _ _ _ cu_a sp_a w_b v_b cu' sp w v wr rd pb mo' ou' hrel hP hD hS hl
  · refine lv_aload_n hx hb d_law_315 rfl (lv_at hl 1 rfl) ?_
    refine lv_aload_n hx hb d_law_316 rfl (lv_at hl 0 rfl) ?_
    refine lv_iload hx hb d_law_317 (lv_at hl 4 rfl) ?_
    refine lv_iconst (v := 1) hx hb d_law_319 (by decide) ?_
    refine lv_iadd hx hb d_law_320 ?_
    refine va_sld hx hb hX0 hbl hbA hS (hin 1 (by decide) (by decide)) d_law_321 ?_
    refine lv_aload_n hx hb d_law_322 rfl (lv_at hl 0 rfl) ?_
    refine lv_iload hx hb d_law_323 (lv_at hl 4 rfl) ?_
    refine lv_iconst (v := 2) hx hb d_law_325 (by decide) ?_
    refine lv_iadd hx hb d_law_326 ?_
    refine va_sld hx hb hX0 hbl hbA hS (hin 2 (by decide) (by decide)) d_law_327 ?_
    refine lv_aload_n hx hb d_law_328 rfl (lv_at hl 0 rfl) ?_
    refine lv_iload hx hb d_law_329 (lv_at hl 4 rfl) ?_
    refine lv_iconst (v := 3) hx hb d_law_331 (by decide) ?_
    refine lv_iadd hx hb d_law_332 ?_
    refine va_sld hx hb hX0 hbl hbA hS (hin 3 (by decide) (by decide)) d_law_333 ?_
    refine lv_aload_n hx hb d_law_334 rfl (lv_at hl 3 rfl) ?_
    have hPc := hP.sub (ws' := (wSd cI cZ cJ sd_a w_a v_a (wr_a 0) (rd_a 0) (cu_a 0) (sp_a 0) sd ++ wSy cI cZ cJ cu_a cu ++ wOu cI cZ cJ ou_a ou)) [0, 1, 2, 3, 4, 5, 6, 7, 8, 9, 10, 45] rfl
    have hDc := hD.sub (ws' := (wSd cI cZ cJ sd_a w_a v_a (wr_a 0) (rd_a 0) (cu_a 0) (sp_a 0) sd ++ wSy cI cZ cJ cu_a cu ++ wOu cI cZ cJ ou_a ou)) [0, 1, 2, 3, 4, 5, 6, 7, 8, 9, 10, 45] (by decide) rfl
    have hFc := va_free (wc := (wSd cI cZ cJ sd_a w_a v_a (wr_a 0) (rd_a 0) (cu_a 0) (sp_a 0) sd ++ wSy cI cZ cJ cu_a cu ++ wOu cI cZ cJ ou_a ou)) hD hS hA [0, 1, 2, 3, 4, 5, 6, 7, 8, 9, 10, 45] rfl
    refine va_calli (w_runS (As := [.ref (sd_a 0), .int (xs (i + 1).toNatClampNeg), .int (xs (i + 2).toNatClampNeg), .int (xs (i + 3).toNatClampNeg), .ref (ou_a 0)]) (rest := []) ⟨hx, hb, hml, hown, hts⟩ (kx_Law_row_3 l hl9 dC dI cI cZ cJ sd_a cu_a ou_a w_a v_a (wr_a 0) (rd_a 0) (sp_a 0) H.size hf) (cwH_of 5 hts t_692 rfl rfl t_53 t_690 t_691 hd_Law_row.2 ⟨Nat.le_trans (Nat.le_of_ble_eq_true rfl) hRf, Nat.le_trans (Nat.le_of_ble_eq_true rfl) hRl⟩) ⟨kPX_blind, kPX_at hPc hK hDc hN (fun q hq => hS.2.1 q hq (fun h9 => absurd (hA2 q h9) (Nat.not_le.mpr hq))) hT hX⟩ rfl rfl hl.1 rfl (lv_room (Nat.le_of_ble_eq_true rfl)) d_law_335 ⟨by omega, by omega⟩) hS (fun q _ h => hFc q h) hFc (fun r9 u t H1 locs ht hvm hw hB hz1 hk1 hS => ?_)
    rw [hw]
    obtain ⟨hP, hD⟩ := kQ_join (wr := (wSy cI cZ cJ sp_a sp ++ wBr cI cZ cJ w_a w_b w ++ wBr cI cZ cJ v_a v_b v ++ wWr cI cZ cJ wr_a (pb_a 0) wr ++ wRd cI cZ cJ rd_a (pb_a 0) rd ++ wPb cI cZ cJ pb_a w_a v_a pb ++ wMo cI cZ cJ mo_a mo)) (w1 := (wSd cI cZ cJ sd_a w_a v_a (wr_a 0) (rd_a 0) (cu_a 0) (sp_a 0) sd ++ wSy cI cZ cJ cu_a cu ++ wOu cI cZ cJ ou_a ou)) hP hD [0, 1, 2, 3, 4, 5, 6, 7, 8, 9, 10, 45] [11, 12, 13, 14, 15, 16, 17, 18, 19, 20, 21, 22, 23, 24, 25, 26, 27, 28, 29, 30, 31, 32, 33, 34, 35, 36, 37, 38, 39, 40, 41, 42, 43, 44, 46] rfl rfl (by decide) (by decide) ht hk1 hFc hB
    generalize H1 = H at hP hS ⊢
    have hP : va_P (dC, dI) vwCl (wSd cI cZ cJ sd_a w_a v_a (wr_a 0) (rd_a 0) (cu_a 0) (sp_a 0) sd ++ wSy cI cZ cJ cu_a cu ++ wSy cI cZ cJ sp_a sp ++ wBr cI cZ cJ w_a w_b w ++ wBr cI cZ cJ v_a v_b v ++ wWr cI cZ cJ wr_a (pb_a 0) wr ++ wRd cI cZ cJ rd_a (pb_a 0) rd ++ wPb cI cZ cJ pb_a w_a v_a pb ++ wMo cI cZ cJ mo_a mo ++ wOu cI cZ cJ ou_a ou) H := hP.sub [35, 36, 37, 38, 39, 40, 41, 42, 43, 44, 45, 0, 1, 2, 3, 4, 5, 6, 7, 8, 9, 10, 11, 12, 13, 14, 15, 16, 17, 18, 19, 20, 21, 22, 23, 24, 25, 26, 27, 28, 29, 30, 31, 32, 33, 34, 46] rfl
    have hD : va_D A (wSd cI cZ cJ sd_a w_a v_a (wr_a 0) (rd_a 0) (cu_a 0) (sp_a 0) sd ++ wSy cI cZ cJ cu_a cu ++ wSy cI cZ cJ sp_a sp ++ wBr cI cZ cJ w_a w_b w ++ wBr cI cZ cJ v_a v_b v ++ wWr cI cZ cJ wr_a (pb_a 0) wr ++ wRd cI cZ cJ rd_a (pb_a 0) rd ++ wPb cI cZ cJ pb_a w_a v_a pb ++ wMo cI cZ cJ mo_a mo ++ wOu cI cZ cJ ou_a ou) := hD.sub [35, 36, 37, 38, 39, 40, 41, 42, 43, 44, 45, 0, 1, 2, 3, 4, 5, 6, 7, 8, 9, 10, 11, 12, 13, 14, 15, 16, 17, 18, 19, 20, 21, 22, 23, 24, 25, 26, 27, 28, 29, 30, 31, 32, 33, 34, 46] (by decide) rfl
    refine lv_istore (lv' := [(5, .int 1), (0, .ref b), (1, .ref (sd_a 0)), (2, .ref (mo_a 0)), (3, .ref (ou_a 0)), (4, .int i)]) hx hb d_law_338 hl (by decide) rfl (fun ls hl => ?_)
    refine lv_aload_n hx hb d_law_340 rfl (lv_at hl 3 rfl) ?_
    refine lv_aload_n hx hb d_law_341 rfl (lv_at hl 1 rfl) ?_
    refine lv_iload hx hb d_law_342 (lv_at hl 5 rfl) ?_
    refine lv_iconst (v := 1) hx hb d_law_344 (by decide) ?_
    refine lv_iadd hx hb d_law_345 ?_
    refine va_sld hx hb hX0 hbl hbA hS (hin 1 (by decide) (by decide)) d_law_346 ?_
    refine lv_aload_n hx hb d_law_347 rfl (lv_at hl 1 rfl) ?_
    refine lv_iload hx hb d_law_348 (lv_at hl 5 rfl) ?_
    refine lv_iconst (v := 2) hx hb d_law_350 (by decide) ?_
    refine lv_iadd hx hb d_law_351 ?_
    refine va_sld hx hb hX0 hbl hbA hS (hin 2 (by decide) (by decide)) d_law_352 ?_
    refine lv_aload_n hx hb d_law_353 rfl (lv_at hl 1 rfl) ?_
    refine lv_iload hx hb d_law_354 (lv_at hl 5 rfl) ?_
    refine lv_iconst (v := 3) hx hb d_law_356 (by decide) ?_
    refine lv_iadd hx hb d_law_357 ?_
    refine va_sld hx hb hX0 hbl hbA hS (hin 3 (by decide) (by decide)) d_law_358 ?_
    have hPc := hP.sub (ws' := (wMo cI cZ cJ mo_a mo)) [30, 31, 32, 33, 34, 35, 36, 37, 38, 39, 40, 41, 42, 43, 44, 45] rfl
    have hDc := hD.sub (ws' := (wMo cI cZ cJ mo_a mo)) [30, 31, 32, 33, 34, 35, 36, 37, 38, 39, 40, 41, 42, 43, 44, 45] (by decide) rfl
    have hFc := va_free (wc := (wMo cI cZ cJ mo_a mo)) hD hS hA [30, 31, 32, 33, 34, 35, 36, 37, 38, 39, 40, 41, 42, 43, 44, 45] rfl
    refine va_calli (va_runV (As := [.int (xs (i + 1).toNatClampNeg), .int (xs (i + 2).toNatClampNeg), .int (xs (i + 3).toNatClampNeg)]) (rest := []) ⟨hx, hb, hml, hown, hts⟩ (k_Model_row l dC dI cI cZ cJ mo_a H.size hg) (cwV 3 hts (gV t_934 t_935 t_936 t_63 t_937) rfl rfl rfl hd_Model_row ⟨Nat.le_trans (Nat.le_of_ble_eq_true rfl) hRf, Nat.le_trans (Nat.le_of_ble_eq_true rfl) hRl⟩) ⟨kP_blind, va_recv hK hP (ci := 7) (q0 := 30) rfl rfl, kP_at hPc hK hDc hN⟩ rfl rfl hl.1 rfl (lv_room (Nat.le_of_ble_eq_true rfl)) d_law_359 ⟨by omega, by omega⟩) hS (fun q _ h => hFc q h) hFc (fun r9 u t H1 locs ht hvm hw hB hz1 hk1 hS => ?_)
    rw [hw]
    obtain ⟨hP, hD⟩ := kQ_join (wr := (wSd cI cZ cJ sd_a w_a v_a (wr_a 0) (rd_a 0) (cu_a 0) (sp_a 0) sd ++ wSy cI cZ cJ cu_a cu ++ wSy cI cZ cJ sp_a sp ++ wBr cI cZ cJ w_a w_b w ++ wBr cI cZ cJ v_a v_b v ++ wWr cI cZ cJ wr_a (pb_a 0) wr ++ wRd cI cZ cJ rd_a (pb_a 0) rd ++ wPb cI cZ cJ pb_a w_a v_a pb ++ wOu cI cZ cJ ou_a ou)) (w1 := (wMo cI cZ cJ mo_a mo')) hP hD [30, 31, 32, 33, 34, 35, 36, 37, 38, 39, 40, 41, 42, 43, 44, 45] [0, 1, 2, 3, 4, 5, 6, 7, 8, 9, 10, 11, 12, 13, 14, 15, 16, 17, 18, 19, 20, 21, 22, 23, 24, 25, 26, 27, 28, 29, 46] rfl rfl (by decide) (by decide) ht hk1 hFc hB
    generalize H1 = H at hP hS ⊢
    have hP : va_P (dC, dI) vwCl (wSd cI cZ cJ sd_a w_a v_a (wr_a 0) (rd_a 0) (cu_a 0) (sp_a 0) sd ++ wSy cI cZ cJ cu_a cu ++ wSy cI cZ cJ sp_a sp ++ wBr cI cZ cJ w_a w_b w ++ wBr cI cZ cJ v_a v_b v ++ wWr cI cZ cJ wr_a (pb_a 0) wr ++ wRd cI cZ cJ rd_a (pb_a 0) rd ++ wPb cI cZ cJ pb_a w_a v_a pb ++ wMo cI cZ cJ mo_a mo' ++ wOu cI cZ cJ ou_a ou) H := hP.sub [0, 1, 2, 3, 4, 5, 6, 7, 8, 9, 10, 11, 12, 13, 14, 15, 16, 17, 18, 19, 20, 21, 22, 23, 24, 25, 26, 27, 28, 29, 31, 32, 33, 34, 35, 36, 37, 38, 39, 40, 41, 42, 43, 44, 45, 46, 30] rfl
    have hD : va_D A (wSd cI cZ cJ sd_a w_a v_a (wr_a 0) (rd_a 0) (cu_a 0) (sp_a 0) sd ++ wSy cI cZ cJ cu_a cu ++ wSy cI cZ cJ sp_a sp ++ wBr cI cZ cJ w_a w_b w ++ wBr cI cZ cJ v_a v_b v ++ wWr cI cZ cJ wr_a (pb_a 0) wr ++ wRd cI cZ cJ rd_a (pb_a 0) rd ++ wPb cI cZ cJ pb_a w_a v_a pb ++ wMo cI cZ cJ mo_a mo' ++ wOu cI cZ cJ ou_a ou) := hD.sub [0, 1, 2, 3, 4, 5, 6, 7, 8, 9, 10, 11, 12, 13, 14, 15, 16, 17, 18, 19, 20, 21, 22, 23, 24, 25, 26, 27, 28, 29, 31, 32, 33, 34, 35, 36, 37, 38, 39, 40, 41, 42, 43, 44, 45, 46, 30] (by decide) rfl
    refine lv_istore (lv' := [(6, .int q), (5, .int 1), (0, .ref b), (1, .ref (sd_a 0)), (2, .ref (mo_a 0)), (3, .ref (ou_a 0)), (4, .int i)]) hx hb d_law_362 hl (by decide) rfl (fun ls hl => ?_)
    refine lv_aload_n hx hb d_law_364 rfl (lv_at hl 4 rfl) ?_
    have hth : f_Model_thrown mo' = some (Mo_code mo') := rfl
    have hPc := hP.sub (ws' := (wMo cI cZ cJ mo_a mo')) [30, 31, 32, 33, 34, 35, 36, 37, 38, 39, 40, 41, 42, 43, 44, 45] rfl
    have hDc := hD.sub (ws' := (wMo cI cZ cJ mo_a mo')) [30, 31, 32, 33, 34, 35, 36, 37, 38, 39, 40, 41, 42, 43, 44, 45] (by decide) rfl
    have hFc := va_free (wc := (wMo cI cZ cJ mo_a mo')) hD hS hA [30, 31, 32, 33, 34, 35, 36, 37, 38, 39, 40, 41, 42, 43, 44, 45] rfl
    refine va_calli (va_runV (As := []) (rest := []) ⟨hx, hb, hml, hown, hts⟩ (k_Model_thrown l dC dI cI cZ cJ mo_a H.size hth) (cwV 0 hts (gV t_906 t_907 t_908 t_63 t_909) rfl rfl rfl hd_Model_thrown ⟨Nat.le_trans (Nat.le_of_ble_eq_true rfl) hRf, Nat.le_trans (Nat.le_of_ble_eq_true rfl) hRl⟩) ⟨kP_blind, va_recv hK hP (ci := 7) (q0 := 30) rfl rfl, kP_at hPc hK hDc hN⟩ rfl rfl hl.1 rfl (lv_room (Nat.le_of_ble_eq_true rfl)) d_law_365 ⟨by omega, by omega⟩) hS (fun q _ h => hFc q h) hFc (fun r9 u t H1 locs ht hvm hw hB hz1 hk1 hS => ?_)
    rw [hw]
    obtain ⟨hP, hD⟩ := kQ_join (wr := (wSd cI cZ cJ sd_a w_a v_a (wr_a 0) (rd_a 0) (cu_a 0) (sp_a 0) sd ++ wSy cI cZ cJ cu_a cu ++ wSy cI cZ cJ sp_a sp ++ wBr cI cZ cJ w_a w_b w ++ wBr cI cZ cJ v_a v_b v ++ wWr cI cZ cJ wr_a (pb_a 0) wr ++ wRd cI cZ cJ rd_a (pb_a 0) rd ++ wPb cI cZ cJ pb_a w_a v_a pb ++ wOu cI cZ cJ ou_a ou)) (w1 := (wMo cI cZ cJ mo_a mo')) hP hD [30, 31, 32, 33, 34, 35, 36, 37, 38, 39, 40, 41, 42, 43, 44, 45] [0, 1, 2, 3, 4, 5, 6, 7, 8, 9, 10, 11, 12, 13, 14, 15, 16, 17, 18, 19, 20, 21, 22, 23, 24, 25, 26, 27, 28, 29, 46] rfl rfl (by decide) (by decide) ht hk1 hFc hB
    generalize H1 = H at hP hS ⊢
    have hP : va_P (dC, dI) vwCl (wSd cI cZ cJ sd_a w_a v_a (wr_a 0) (rd_a 0) (cu_a 0) (sp_a 0) sd ++ wSy cI cZ cJ cu_a cu ++ wSy cI cZ cJ sp_a sp ++ wBr cI cZ cJ w_a w_b w ++ wBr cI cZ cJ v_a v_b v ++ wWr cI cZ cJ wr_a (pb_a 0) wr ++ wRd cI cZ cJ rd_a (pb_a 0) rd ++ wPb cI cZ cJ pb_a w_a v_a pb ++ wMo cI cZ cJ mo_a mo' ++ wOu cI cZ cJ ou_a ou) H := hP.sub [0, 1, 2, 3, 4, 5, 6, 7, 8, 9, 10, 11, 12, 13, 14, 15, 16, 17, 18, 19, 20, 21, 22, 23, 24, 25, 26, 27, 28, 29, 31, 32, 33, 34, 35, 36, 37, 38, 39, 40, 41, 42, 43, 44, 45, 46, 30] rfl
    have hD : va_D A (wSd cI cZ cJ sd_a w_a v_a (wr_a 0) (rd_a 0) (cu_a 0) (sp_a 0) sd ++ wSy cI cZ cJ cu_a cu ++ wSy cI cZ cJ sp_a sp ++ wBr cI cZ cJ w_a w_b w ++ wBr cI cZ cJ v_a v_b v ++ wWr cI cZ cJ wr_a (pb_a 0) wr ++ wRd cI cZ cJ rd_a (pb_a 0) rd ++ wPb cI cZ cJ pb_a w_a v_a pb ++ wMo cI cZ cJ mo_a mo' ++ wOu cI cZ cJ ou_a ou) := hD.sub [0, 1, 2, 3, 4, 5, 6, 7, 8, 9, 10, 11, 12, 13, 14, 15, 16, 17, 18, 19, 20, 21, 22, 23, 24, 25, 26, 27, 28, 29, 31, 32, 33, 34, 35, 36, 37, 38, 39, 40, 41, 42, 43, 44, 45, 46, 30] (by decide) rfl
    refine lv_iload hx hb d_law_368 (lv_at hl 1 rfl) ?_
    refine lv_icmp_eq (tgt := 375) hx hb d_law_370 (by decide) (fun _ => ?_) (fun h9 => absurd hcode h9)
    refine lv_iload hx hb d_law_375 (lv_at hl 1 rfl) ?_
    refine lv_if_ne (tgt := 392) hx hb d_law_377 (by decide) (fun _ => ?_) (fun h9 => absurd h9 (by decide))
    refine lv_goto (tgt := 1131) hx hb d_law_392 (by decide) ?_
    have hl := lv_sub (l' := [(0, .ref b), (1, .ref (sd_a 0)), (2, .ref (mo_a 0)), (3, .ref (ou_a 0)), (4, .int i)]) hl [2, 3, 4, 5, 6] rfl
    refine W.widen (k := j + 1 + Br_byL w + Br_byL v) (n := 6 * (j + 1) + 2 * Br_byL w + 2 * Br_byL v) (by omega) (by omega) ?_
    exact hk _ _ _ cu_a sp_a w_b v_b cu sp w v wr rd pb mo' ou hrel hP hD hS hl

set_option maxHeartbeats 8000000 in
set_option maxRecDepth 100000 in
theorem L_P_at {p : Program} {l : Launch} {e : Env} {R : Room} {s : State} {m : MethodId} {args : Array Value} {below : List Frame} {meth : Method} {c : Code} {Q : State → Prop} {A : Nat → Prop} {dC : Nat → ClassId} {dI : Nat → Nat → Nat} {cI cZ cJ : ClassId} {sd_a cu_a sp_a : Nat → Nat} {w_a w_b v_a v_b : Nat} {wr_a rd_a pb_a mo_a ou_a : Nat → Nat} {sd : Sd} {cu sp : Sy} {w v : Br} {wr : Wr} {rd : Rd} {pb : Pb} {mo : Mo} {ou : Ou} {b L : Nat} {xs : Nat → Int32} {i : Int32} {j : Nat} {Rl : Sd → Sy → Sy → Br → Br → Wr → Rd → Pb → Mo → Prop} (hl9 : l.stackTraces = false) (C0 : lcx p c m s args R (dC, dI) (TYS cI cZ cJ) A b L xs i j) (hRb : ∀ sd cu sp w v wr rd pb mo, Rl sd cu sp w v wr rd pb mo → Br_byL w ≤ 40000 ∧ Br_byL v ≤ 40000) (hR0 : Rl sd cu sp w v wr rd pb mo) (hT0 : T_P_at Rl sd cu sp w v wr rd pb mo (xs (i + 1).toNatClampNeg) (xs (i + 2).toNatClampNeg) (xs (i + 3).toNatClampNeg))
    (hk : ∀ (H : Heap) (locs : List Loc) (ls : Array Slot) (cu_a sp_a : Nat → Nat) (w_b v_b : Nat) (cu sp : Sy) (w v : Br) (wr : Wr) (rd : Rd) (pb : Pb) (mo : Mo) (ou : Ou), Rl sd cu sp w v wr rd pb mo → va_P (dC, dI) vwCl (wSd cI cZ cJ sd_a w_a v_a (wr_a 0) (rd_a 0) (cu_a 0) (sp_a 0) sd ++ wSy cI cZ cJ cu_a cu ++ wSy cI cZ cJ sp_a sp ++ wBr cI cZ cJ w_a w_b w ++ wBr cI cZ cJ v_a v_b v ++ wWr cI cZ cJ wr_a (pb_a 0) wr ++ wRd cI cZ cJ rd_a (pb_a 0) rd ++ wPb cI cZ cJ pb_a w_a v_a pb ++ wMo cI cZ cJ mo_a mo ++ wOu cI cZ cJ ou_a ou) H → va_D A (wSd cI cZ cJ sd_a w_a v_a (wr_a 0) (rd_a 0) (cu_a 0) (sp_a 0) sd ++ wSy cI cZ cJ cu_a cu ++ wSy cI cZ cJ sp_a sp ++ wBr cI cZ cJ w_a w_b w ++ wBr cI cZ cJ v_a v_b v ++ wWr cI cZ cJ wr_a (pb_a 0) wr ++ wRd cI cZ cJ rd_a (pb_a 0) rd ++ wPb cI cZ cJ pb_a w_a v_a pb ++ wMo cI cZ cJ mo_a mo ++ wOu cI cZ cJ ou_a ou) → va_S A s.heap H locs → lv_has ls 7 [(0, .ref b), (1, .ref (sd_a 0)), (2, .ref (mo_a 0)), (3, .ref (ou_a 0)), (4, .int i)] → W p l e R s m args below meth c H locs (j + 1 + Br_byL w + Br_byL v) (6 * (j + 1) + 2 * Br_byL w + 2 * Br_byL v) Q (F0 m 1131 ls []))
    {H : Heap} {locs : List Loc} {ls : Array Slot} (hP : va_P (dC, dI) vwCl (wSd cI cZ cJ sd_a w_a v_a (wr_a 0) (rd_a 0) (cu_a 0) (sp_a 0) sd ++ wSy cI cZ cJ cu_a cu ++ wSy cI cZ cJ sp_a sp ++ wBr cI cZ cJ w_a w_b w ++ wBr cI cZ cJ v_a v_b v ++ wWr cI cZ cJ wr_a (pb_a 0) wr ++ wRd cI cZ cJ rd_a (pb_a 0) rd ++ wPb cI cZ cJ pb_a w_a v_a pb ++ wMo cI cZ cJ mo_a mo ++ wOu cI cZ cJ ou_a ou) H) (hD : va_D A (wSd cI cZ cJ sd_a w_a v_a (wr_a 0) (rd_a 0) (cu_a 0) (sp_a 0) sd ++ wSy cI cZ cJ cu_a cu ++ wSy cI cZ cJ sp_a sp ++ wBr cI cZ cJ w_a w_b w ++ wBr cI cZ cJ v_a v_b v ++ wWr cI cZ cJ wr_a (pb_a 0) wr ++ wRd cI cZ cJ rd_a (pb_a 0) rd ++ wPb cI cZ cJ pb_a w_a v_a pb ++ wMo cI cZ cJ mo_a mo ++ wOu cI cZ cJ ou_a ou)) (hS : va_S A s.heap H locs) (hl : lv_has ls 7 [(0, .ref b), (1, .ref (sd_a 0)), (2, .ref (mo_a 0)), (3, .ref (ou_a 0)), (4, .int i)]) : W p l e R s m args below meth c H locs (j + Br_byL w + Br_byL v) (6 * j + 2 * Br_byL w + 2 * Br_byL v) Q (F0 m 395 ls []) := by
  obtain ⟨hx, hb, hml, hown, hts, hK, hA, hA2, hRf, hRl, hN, hT, hX, hX0, hbl, hin, hj, hRc, hRs⟩ := C0
  have hbA : ¬ A b := fun h => absurd (hA2 b h) (Nat.not_le.mpr hbl)
  obtain ⟨hw0, hv0⟩ := hRb _ _ _ _ _ _ _ _ _ hR0
  unfold T_P_at at hT0
  rcases hT0 with ⟨r, mo', hf, hg, hcode, hrel⟩ | ⟨hf, q, mo', hg, hcode, hrel⟩
  · obtain ⟨ou', heou⟩ : ∃ z : Ou, z = (vp_updL (Ou_f ou) 0 (zl r)) := ⟨_, rfl⟩
    have hf1 : f_Law_at sd cu ou (xs (i + 1).toNatClampNeg) (xs (i + 2).toNatClampNeg) (xs (i + 3).toNatClampNeg) = some (0, ou') := by
      rw [f_Law_at, hf, bd_s, heou]
      by_cases h9 : r = 0
      · rw [zl, if_pos h9, if_pos h9]; rfl
      · rw [zl, if_neg h9, if_neg h9]; rfl
    have hou : Ou_f ou' (0 : Int32).toNatClampNeg = (zl r) := by rw [heou]; exact updL_at _ _ _
    refine lv_aload_n hx hb d_law_395 rfl (lv_at hl 1 rfl) ?_
    refine lv_aload_n hx hb d_law_396 rfl (lv_at hl 0 rfl) ?_
    refine lv_iload hx hb d_law_397 (lv_at hl 4 rfl) ?_
    refine lv_iconst (v := 1) hx hb d_law_399 (by decide) ?_
    refine lv_iadd hx hb d_law_400 ?_
    refine va_sld hx hb hX0 hbl hbA hS (hin 1 (by decide) (by decide)) d_law_401 ?_
    refine lv_aload_n hx hb d_law_402 rfl (lv_at hl 0 rfl) ?_
    refine lv_iload hx hb d_law_403 (lv_at hl 4 rfl) ?_
    refine lv_iconst (v := 2) hx hb d_law_405 (by decide) ?_
    refine lv_iadd hx hb d_law_406 ?_
    refine va_sld hx hb hX0 hbl hbA hS (hin 2 (by decide) (by decide)) d_law_407 ?_
    refine lv_aload_n hx hb d_law_408 rfl (lv_at hl 0 rfl) ?_
    refine lv_iload hx hb d_law_409 (lv_at hl 4 rfl) ?_
    refine lv_iconst (v := 3) hx hb d_law_411 (by decide) ?_
    refine lv_iadd hx hb d_law_412 ?_
    refine va_sld hx hb hX0 hbl hbA hS (hin 3 (by decide) (by decide)) d_law_413 ?_
    refine lv_aload_n hx hb d_law_414 rfl (lv_at hl 3 rfl) ?_
    have hPc := hP.sub (ws' := (wSd cI cZ cJ sd_a w_a v_a (wr_a 0) (rd_a 0) (cu_a 0) (sp_a 0) sd ++ wSy cI cZ cJ cu_a cu ++ wOu cI cZ cJ ou_a ou)) [0, 1, 2, 3, 4, 5, 6, 7, 8, 9, 10, 45] rfl
    have hDc := hD.sub (ws' := (wSd cI cZ cJ sd_a w_a v_a (wr_a 0) (rd_a 0) (cu_a 0) (sp_a 0) sd ++ wSy cI cZ cJ cu_a cu ++ wOu cI cZ cJ ou_a ou)) [0, 1, 2, 3, 4, 5, 6, 7, 8, 9, 10, 45] (by decide) rfl
    have hFc := va_free (wc := (wSd cI cZ cJ sd_a w_a v_a (wr_a 0) (rd_a 0) (cu_a 0) (sp_a 0) sd ++ wSy cI cZ cJ cu_a cu ++ wOu cI cZ cJ ou_a ou)) hD hS hA [0, 1, 2, 3, 4, 5, 6, 7, 8, 9, 10, 45] rfl
    refine va_calli (w_runS (As := [.ref (sd_a 0), .int (xs (i + 1).toNatClampNeg), .int (xs (i + 2).toNatClampNeg), .int (xs (i + 3).toNatClampNeg), .ref (ou_a 0)]) (rest := []) ⟨hx, hb, hml, hown, hts⟩ (k_Law_at l dC dI cI cZ cJ sd_a cu_a ou_a w_a v_a (wr_a 0) (rd_a 0) (sp_a 0) H.size hf1) (cwH_of 5 hts t_700 rfl rfl t_53 t_698 t_699 hd_Law_at.2 ⟨Nat.le_trans (Nat.le_of_ble_eq_true rfl) hRf, Nat.le_trans (Nat.le_of_ble_eq_true rfl) hRl⟩) ⟨kP_blind, kP_at hPc hK hDc hN⟩ rfl rfl hl.1 rfl (lv_room (Nat.le_of_ble_eq_true rfl)) d_law_415 ⟨by omega, by omega⟩) hS (fun q _ h => hFc q h) hFc (fun r9 u t H1 locs ht hvm hw hB hz1 hk1 hS => ?_)
    rw [hw]
    obtain ⟨hP, hD⟩ := kQ_join (wr := (wSy cI cZ cJ sp_a sp ++ wBr cI cZ cJ w_a w_b w ++ wBr cI cZ cJ v_a v_b v ++ wWr cI cZ cJ wr_a (pb_a 0) wr ++ wRd cI cZ cJ rd_a (pb_a 0) rd ++ wPb cI cZ cJ pb_a w_a v_a pb ++ wMo cI cZ cJ mo_a mo)) (w1 := (wSd cI cZ cJ sd_a w_a v_a (wr_a 0) (rd_a 0) (cu_a 0) (sp_a 0) sd ++ wSy cI cZ cJ cu_a cu ++ wOu cI cZ cJ ou_a ou')) hP hD [0, 1, 2, 3, 4, 5, 6, 7, 8, 9, 10, 45] [11, 12, 13, 14, 15, 16, 17, 18, 19, 20, 21, 22, 23, 24, 25, 26, 27, 28, 29, 30, 31, 32, 33, 34, 35, 36, 37, 38, 39, 40, 41, 42, 43, 44, 46] rfl rfl (by decide) (by decide) ht hk1 hFc hB
    generalize H1 = H at hP hS ⊢
    have hP : va_P (dC, dI) vwCl (wSd cI cZ cJ sd_a w_a v_a (wr_a 0) (rd_a 0) (cu_a 0) (sp_a 0) sd ++ wSy cI cZ cJ cu_a cu ++ wSy cI cZ cJ sp_a sp ++ wBr cI cZ cJ w_a w_b w ++ wBr cI cZ cJ v_a v_b v ++ wWr cI cZ cJ wr_a (pb_a 0) wr ++ wRd cI cZ cJ rd_a (pb_a 0) rd ++ wPb cI cZ cJ pb_a w_a v_a pb ++ wMo cI cZ cJ mo_a mo ++ wOu cI cZ cJ ou_a ou') H := hP.sub [35, 36, 37, 38, 39, 40, 41, 42, 43, 44, 45, 0, 1, 2, 3, 4, 5, 6, 7, 8, 9, 10, 11, 12, 13, 14, 15, 16, 17, 18, 19, 20, 21, 22, 23, 24, 25, 26, 27, 28, 29, 30, 31, 32, 33, 34, 46] rfl
    have hD : va_D A (wSd cI cZ cJ sd_a w_a v_a (wr_a 0) (rd_a 0) (cu_a 0) (sp_a 0) sd ++ wSy cI cZ cJ cu_a cu ++ wSy cI cZ cJ sp_a sp ++ wBr cI cZ cJ w_a w_b w ++ wBr cI cZ cJ v_a v_b v ++ wWr cI cZ cJ wr_a (pb_a 0) wr ++ wRd cI cZ cJ rd_a (pb_a 0) rd ++ wPb cI cZ cJ pb_a w_a v_a pb ++ wMo cI cZ cJ mo_a mo ++ wOu cI cZ cJ ou_a ou') := hD.sub [35, 36, 37, 38, 39, 40, 41, 42, 43, 44, 45, 0, 1, 2, 3, 4, 5, 6, 7, 8, 9, 10, 11, 12, 13, 14, 15, 16, 17, 18, 19, 20, 21, 22, 23, 24, 25, 26, 27, 28, 29, 30, 31, 32, 33, 34, 46] (by decide) rfl
    refine lv_istore (lv' := [(5, .int 0), (0, .ref b), (1, .ref (sd_a 0)), (2, .ref (mo_a 0)), (3, .ref (ou_a 0)), (4, .int i)]) hx hb d_law_418 hl (by decide) rfl (fun ls hl => ?_)
    refine lv_aload_n hx hb d_law_420 rfl (lv_at hl 3 rfl) ?_
    refine lv_aload_n hx hb d_law_421 rfl (lv_at hl 1 rfl) ?_
    refine lv_iload hx hb d_law_422 (lv_at hl 5 rfl) ?_
    refine lv_iconst (v := 1) hx hb d_law_424 (by decide) ?_
    refine lv_iadd hx hb d_law_425 ?_
    refine va_sld hx hb hX0 hbl hbA hS (hin 1 (by decide) (by decide)) d_law_426 ?_
    refine lv_aload_n hx hb d_law_427 rfl (lv_at hl 1 rfl) ?_
    refine lv_iload hx hb d_law_428 (lv_at hl 5 rfl) ?_
    refine lv_iconst (v := 2) hx hb d_law_430 (by decide) ?_
    refine lv_iadd hx hb d_law_431 ?_
    refine va_sld hx hb hX0 hbl hbA hS (hin 2 (by decide) (by decide)) d_law_432 ?_
    refine lv_aload_n hx hb d_law_433 rfl (lv_at hl 1 rfl) ?_
    refine lv_iload hx hb d_law_434 (lv_at hl 5 rfl) ?_
    refine lv_iconst (v := 3) hx hb d_law_436 (by decide) ?_
    refine lv_iadd hx hb d_law_437 ?_
    refine va_sld hx hb hX0 hbl hbA hS (hin 3 (by decide) (by decide)) d_law_438 ?_
    have hPc := hP.sub (ws' := (wMo cI cZ cJ mo_a mo)) [30, 31, 32, 33, 34, 35, 36, 37, 38, 39, 40, 41, 42, 43, 44, 45] rfl
    have hDc := hD.sub (ws' := (wMo cI cZ cJ mo_a mo)) [30, 31, 32, 33, 34, 35, 36, 37, 38, 39, 40, 41, 42, 43, 44, 45] (by decide) rfl
    have hFc := va_free (wc := (wMo cI cZ cJ mo_a mo)) hD hS hA [30, 31, 32, 33, 34, 35, 36, 37, 38, 39, 40, 41, 42, 43, 44, 45] rfl
    refine va_calli (va_runV (As := [.int (xs (i + 1).toNatClampNeg), .int (xs (i + 2).toNatClampNeg), .int (xs (i + 3).toNatClampNeg)]) (rest := []) ⟨hx, hb, hml, hown, hts⟩ (k_Model_at l dC dI cI cZ cJ mo_a H.size hg) (cwV 3 hts (gV t_941 t_942 t_943 t_63 t_944) rfl rfl rfl hd_Model_at ⟨Nat.le_trans (Nat.le_of_ble_eq_true rfl) hRf, Nat.le_trans (Nat.le_of_ble_eq_true rfl) hRl⟩) ⟨kP_blind, va_recv hK hP (ci := 7) (q0 := 30) rfl rfl, kP_at hPc hK hDc hN⟩ rfl rfl hl.1 rfl (lv_room (Nat.le_of_ble_eq_true rfl)) d_law_439 ⟨by omega, by omega⟩) hS (fun q _ h => hFc q h) hFc (fun r9 u t H1 locs ht hvm hw hB hz1 hk1 hS => ?_)
    rw [hw.1]
    obtain ⟨hP, hD⟩ := kQ_join (wr := (wSd cI cZ cJ sd_a w_a v_a (wr_a 0) (rd_a 0) (cu_a 0) (sp_a 0) sd ++ wSy cI cZ cJ cu_a cu ++ wSy cI cZ cJ sp_a sp ++ wBr cI cZ cJ w_a w_b w ++ wBr cI cZ cJ v_a v_b v ++ wWr cI cZ cJ wr_a (pb_a 0) wr ++ wRd cI cZ cJ rd_a (pb_a 0) rd ++ wPb cI cZ cJ pb_a w_a v_a pb ++ wOu cI cZ cJ ou_a ou')) (w1 := (wMo cI cZ cJ mo_a mo')) hP hD [30, 31, 32, 33, 34, 35, 36, 37, 38, 39, 40, 41, 42, 43, 44, 45] [0, 1, 2, 3, 4, 5, 6, 7, 8, 9, 10, 11, 12, 13, 14, 15, 16, 17, 18, 19, 20, 21, 22, 23, 24, 25, 26, 27, 28, 29, 46] rfl rfl (by decide) (by decide) ht hk1 hFc hB
    generalize H1 = H at hP hS ⊢
    have hP : va_P (dC, dI) vwCl (wSd cI cZ cJ sd_a w_a v_a (wr_a 0) (rd_a 0) (cu_a 0) (sp_a 0) sd ++ wSy cI cZ cJ cu_a cu ++ wSy cI cZ cJ sp_a sp ++ wBr cI cZ cJ w_a w_b w ++ wBr cI cZ cJ v_a v_b v ++ wWr cI cZ cJ wr_a (pb_a 0) wr ++ wRd cI cZ cJ rd_a (pb_a 0) rd ++ wPb cI cZ cJ pb_a w_a v_a pb ++ wMo cI cZ cJ mo_a mo' ++ wOu cI cZ cJ ou_a ou') H := hP.sub [0, 1, 2, 3, 4, 5, 6, 7, 8, 9, 10, 11, 12, 13, 14, 15, 16, 17, 18, 19, 20, 21, 22, 23, 24, 25, 26, 27, 28, 29, 31, 32, 33, 34, 35, 36, 37, 38, 39, 40, 41, 42, 43, 44, 45, 46, 30] rfl
    have hD : va_D A (wSd cI cZ cJ sd_a w_a v_a (wr_a 0) (rd_a 0) (cu_a 0) (sp_a 0) sd ++ wSy cI cZ cJ cu_a cu ++ wSy cI cZ cJ sp_a sp ++ wBr cI cZ cJ w_a w_b w ++ wBr cI cZ cJ v_a v_b v ++ wWr cI cZ cJ wr_a (pb_a 0) wr ++ wRd cI cZ cJ rd_a (pb_a 0) rd ++ wPb cI cZ cJ pb_a w_a v_a pb ++ wMo cI cZ cJ mo_a mo' ++ wOu cI cZ cJ ou_a ou') := hD.sub [0, 1, 2, 3, 4, 5, 6, 7, 8, 9, 10, 11, 12, 13, 14, 15, 16, 17, 18, 19, 20, 21, 22, 23, 24, 25, 26, 27, 28, 29, 31, 32, 33, 34, 35, 36, 37, 38, 39, 40, 41, 42, 43, 44, 45, 46, 30] (by decide) rfl
    refine lv_istore (lv' := [(6, .int r), (5, .int 0), (0, .ref b), (1, .ref (sd_a 0)), (2, .ref (mo_a 0)), (3, .ref (ou_a 0)), (4, .int i)]) hx hb d_law_442 hl (by decide) rfl (fun ls hl => ?_)
    refine lv_aload_n hx hb d_law_444 rfl (lv_at hl 4 rfl) ?_
    have hth : f_Model_thrown mo' = some (Mo_code mo') := rfl
    have hPc := hP.sub (ws' := (wMo cI cZ cJ mo_a mo')) [30, 31, 32, 33, 34, 35, 36, 37, 38, 39, 40, 41, 42, 43, 44, 45] rfl
    have hDc := hD.sub (ws' := (wMo cI cZ cJ mo_a mo')) [30, 31, 32, 33, 34, 35, 36, 37, 38, 39, 40, 41, 42, 43, 44, 45] (by decide) rfl
    have hFc := va_free (wc := (wMo cI cZ cJ mo_a mo')) hD hS hA [30, 31, 32, 33, 34, 35, 36, 37, 38, 39, 40, 41, 42, 43, 44, 45] rfl
    refine va_calli (va_runV (As := []) (rest := []) ⟨hx, hb, hml, hown, hts⟩ (k_Model_thrown l dC dI cI cZ cJ mo_a H.size hth) (cwV 0 hts (gV t_906 t_907 t_908 t_63 t_909) rfl rfl rfl hd_Model_thrown ⟨Nat.le_trans (Nat.le_of_ble_eq_true rfl) hRf, Nat.le_trans (Nat.le_of_ble_eq_true rfl) hRl⟩) ⟨kP_blind, va_recv hK hP (ci := 7) (q0 := 30) rfl rfl, kP_at hPc hK hDc hN⟩ rfl rfl hl.1 rfl (lv_room (Nat.le_of_ble_eq_true rfl)) d_law_445 ⟨by omega, by omega⟩) hS (fun q _ h => hFc q h) hFc (fun r9 u t H1 locs ht hvm hw hB hz1 hk1 hS => ?_)
    rw [hw]
    obtain ⟨hP, hD⟩ := kQ_join (wr := (wSd cI cZ cJ sd_a w_a v_a (wr_a 0) (rd_a 0) (cu_a 0) (sp_a 0) sd ++ wSy cI cZ cJ cu_a cu ++ wSy cI cZ cJ sp_a sp ++ wBr cI cZ cJ w_a w_b w ++ wBr cI cZ cJ v_a v_b v ++ wWr cI cZ cJ wr_a (pb_a 0) wr ++ wRd cI cZ cJ rd_a (pb_a 0) rd ++ wPb cI cZ cJ pb_a w_a v_a pb ++ wOu cI cZ cJ ou_a ou')) (w1 := (wMo cI cZ cJ mo_a mo')) hP hD [30, 31, 32, 33, 34, 35, 36, 37, 38, 39, 40, 41, 42, 43, 44, 45] [0, 1, 2, 3, 4, 5, 6, 7, 8, 9, 10, 11, 12, 13, 14, 15, 16, 17, 18, 19, 20, 21, 22, 23, 24, 25, 26, 27, 28, 29, 46] rfl rfl (by decide) (by decide) ht hk1 hFc hB
    generalize H1 = H at hP hS ⊢
    have hP : va_P (dC, dI) vwCl (wSd cI cZ cJ sd_a w_a v_a (wr_a 0) (rd_a 0) (cu_a 0) (sp_a 0) sd ++ wSy cI cZ cJ cu_a cu ++ wSy cI cZ cJ sp_a sp ++ wBr cI cZ cJ w_a w_b w ++ wBr cI cZ cJ v_a v_b v ++ wWr cI cZ cJ wr_a (pb_a 0) wr ++ wRd cI cZ cJ rd_a (pb_a 0) rd ++ wPb cI cZ cJ pb_a w_a v_a pb ++ wMo cI cZ cJ mo_a mo' ++ wOu cI cZ cJ ou_a ou') H := hP.sub [0, 1, 2, 3, 4, 5, 6, 7, 8, 9, 10, 11, 12, 13, 14, 15, 16, 17, 18, 19, 20, 21, 22, 23, 24, 25, 26, 27, 28, 29, 31, 32, 33, 34, 35, 36, 37, 38, 39, 40, 41, 42, 43, 44, 45, 46, 30] rfl
    have hD : va_D A (wSd cI cZ cJ sd_a w_a v_a (wr_a 0) (rd_a 0) (cu_a 0) (sp_a 0) sd ++ wSy cI cZ cJ cu_a cu ++ wSy cI cZ cJ sp_a sp ++ wBr cI cZ cJ w_a w_b w ++ wBr cI cZ cJ v_a v_b v ++ wWr cI cZ cJ wr_a (pb_a 0) wr ++ wRd cI cZ cJ rd_a (pb_a 0) rd ++ wPb cI cZ cJ pb_a w_a v_a pb ++ wMo cI cZ cJ mo_a mo' ++ wOu cI cZ cJ ou_a ou') := hD.sub [0, 1, 2, 3, 4, 5, 6, 7, 8, 9, 10, 11, 12, 13, 14, 15, 16, 17, 18, 19, 20, 21, 22, 23, 24, 25, 26, 27, 28, 29, 31, 32, 33, 34, 35, 36, 37, 38, 39, 40, 41, 42, 43, 44, 45, 46, 30] (by decide) rfl
    refine lv_iload hx hb d_law_448 (lv_at hl 1 rfl) ?_
    refine lv_icmp_eq (tgt := 455) hx hb d_law_450 (by decide) (fun _ => ?_) (fun h9 => absurd hcode h9)
    refine lv_iload hx hb d_law_455 (lv_at hl 1 rfl) ?_
    refine lv_if_ne (tgt := 479) hx hb d_law_457 (by decide) (fun h9 => absurd rfl h9) (fun _ => ?_)
    refine lv_aload_n hx hb d_law_460 rfl (lv_at hl 5 rfl) ?_
    refine lv_iconst (v := 0) hx hb d_law_461 (by decide) ?_
    refine va_lald (f := Ou_f ou') hx hb hK hP 46 2 rfl rfl (inb_in (by decide)) d_law_462 ?_
    refine lv_iload hx hb d_law_463 (lv_at hl 0 rfl) ?_
    refine lw_zl hx hb d_law_465 d_law_468 d_law_469 d_law_472 ?_
    refine W.lcmp hx hb d_law_473 ?_
    refine lv_if_eq (tgt := 479) hx hb d_law_474 (by decide) (fun _ => ?_) (fun h9 => absurd (by rw [hou]; exact cmp_self _) h9)
    refine lv_goto (tgt := 1131) hx hb d_law_479 (by decide) ?_
    have hl := lv_sub (l' := [(0, .ref b), (1, .ref (sd_a 0)), (2, .ref (mo_a 0)), (3, .ref (ou_a 0)), (4, .int i)]) hl [2, 3, 4, 5, 6] rfl
    refine W.widen (k := j + 1 + Br_byL w + Br_byL v) (n := 6 * (j + 1) + 2 * Br_byL w + 2 * Br_byL v) (by omega) (by omega) ?_
    exact hk _ _ _ cu_a sp_a w_b v_b cu sp w v wr rd pb mo' ou' hrel hP hD hS hl
  · refine lv_aload_n hx hb d_law_395 rfl (lv_at hl 1 rfl) ?_
    refine lv_aload_n hx hb d_law_396 rfl (lv_at hl 0 rfl) ?_
    refine lv_iload hx hb d_law_397 (lv_at hl 4 rfl) ?_
    refine lv_iconst (v := 1) hx hb d_law_399 (by decide) ?_
    refine lv_iadd hx hb d_law_400 ?_
    refine va_sld hx hb hX0 hbl hbA hS (hin 1 (by decide) (by decide)) d_law_401 ?_
    refine lv_aload_n hx hb d_law_402 rfl (lv_at hl 0 rfl) ?_
    refine lv_iload hx hb d_law_403 (lv_at hl 4 rfl) ?_
    refine lv_iconst (v := 2) hx hb d_law_405 (by decide) ?_
    refine lv_iadd hx hb d_law_406 ?_
    refine va_sld hx hb hX0 hbl hbA hS (hin 2 (by decide) (by decide)) d_law_407 ?_
    refine lv_aload_n hx hb d_law_408 rfl (lv_at hl 0 rfl) ?_
    refine lv_iload hx hb d_law_409 (lv_at hl 4 rfl) ?_
    refine lv_iconst (v := 3) hx hb d_law_411 (by decide) ?_
    refine lv_iadd hx hb d_law_412 ?_
    refine va_sld hx hb hX0 hbl hbA hS (hin 3 (by decide) (by decide)) d_law_413 ?_
    refine lv_aload_n hx hb d_law_414 rfl (lv_at hl 3 rfl) ?_
    have hPc := hP.sub (ws' := (wSd cI cZ cJ sd_a w_a v_a (wr_a 0) (rd_a 0) (cu_a 0) (sp_a 0) sd ++ wSy cI cZ cJ cu_a cu ++ wOu cI cZ cJ ou_a ou)) [0, 1, 2, 3, 4, 5, 6, 7, 8, 9, 10, 45] rfl
    have hDc := hD.sub (ws' := (wSd cI cZ cJ sd_a w_a v_a (wr_a 0) (rd_a 0) (cu_a 0) (sp_a 0) sd ++ wSy cI cZ cJ cu_a cu ++ wOu cI cZ cJ ou_a ou)) [0, 1, 2, 3, 4, 5, 6, 7, 8, 9, 10, 45] (by decide) rfl
    have hFc := va_free (wc := (wSd cI cZ cJ sd_a w_a v_a (wr_a 0) (rd_a 0) (cu_a 0) (sp_a 0) sd ++ wSy cI cZ cJ cu_a cu ++ wOu cI cZ cJ ou_a ou)) hD hS hA [0, 1, 2, 3, 4, 5, 6, 7, 8, 9, 10, 45] rfl
    refine va_calli (w_runS (As := [.ref (sd_a 0), .int (xs (i + 1).toNatClampNeg), .int (xs (i + 2).toNatClampNeg), .int (xs (i + 3).toNatClampNeg), .ref (ou_a 0)]) (rest := []) ⟨hx, hb, hml, hown, hts⟩ (kx_Law_at_3 l hl9 dC dI cI cZ cJ sd_a cu_a ou_a w_a v_a (wr_a 0) (rd_a 0) (sp_a 0) H.size hf) (cwH_of 5 hts t_700 rfl rfl t_53 t_698 t_699 hd_Law_at.2 ⟨Nat.le_trans (Nat.le_of_ble_eq_true rfl) hRf, Nat.le_trans (Nat.le_of_ble_eq_true rfl) hRl⟩) ⟨kPX_blind, kPX_at hPc hK hDc hN (fun q hq => hS.2.1 q hq (fun h9 => absurd (hA2 q h9) (Nat.not_le.mpr hq))) hT hX⟩ rfl rfl hl.1 rfl (lv_room (Nat.le_of_ble_eq_true rfl)) d_law_415 ⟨by omega, by omega⟩) hS (fun q _ h => hFc q h) hFc (fun r9 u t H1 locs ht hvm hw hB hz1 hk1 hS => ?_)
    rw [hw]
    obtain ⟨hP, hD⟩ := kQ_join (wr := (wSy cI cZ cJ sp_a sp ++ wBr cI cZ cJ w_a w_b w ++ wBr cI cZ cJ v_a v_b v ++ wWr cI cZ cJ wr_a (pb_a 0) wr ++ wRd cI cZ cJ rd_a (pb_a 0) rd ++ wPb cI cZ cJ pb_a w_a v_a pb ++ wMo cI cZ cJ mo_a mo)) (w1 := (wSd cI cZ cJ sd_a w_a v_a (wr_a 0) (rd_a 0) (cu_a 0) (sp_a 0) sd ++ wSy cI cZ cJ cu_a cu ++ wOu cI cZ cJ ou_a ou)) hP hD [0, 1, 2, 3, 4, 5, 6, 7, 8, 9, 10, 45] [11, 12, 13, 14, 15, 16, 17, 18, 19, 20, 21, 22, 23, 24, 25, 26, 27, 28, 29, 30, 31, 32, 33, 34, 35, 36, 37, 38, 39, 40, 41, 42, 43, 44, 46] rfl rfl (by decide) (by decide) ht hk1 hFc hB
    generalize H1 = H at hP hS ⊢
    have hP : va_P (dC, dI) vwCl (wSd cI cZ cJ sd_a w_a v_a (wr_a 0) (rd_a 0) (cu_a 0) (sp_a 0) sd ++ wSy cI cZ cJ cu_a cu ++ wSy cI cZ cJ sp_a sp ++ wBr cI cZ cJ w_a w_b w ++ wBr cI cZ cJ v_a v_b v ++ wWr cI cZ cJ wr_a (pb_a 0) wr ++ wRd cI cZ cJ rd_a (pb_a 0) rd ++ wPb cI cZ cJ pb_a w_a v_a pb ++ wMo cI cZ cJ mo_a mo ++ wOu cI cZ cJ ou_a ou) H := hP.sub [35, 36, 37, 38, 39, 40, 41, 42, 43, 44, 45, 0, 1, 2, 3, 4, 5, 6, 7, 8, 9, 10, 11, 12, 13, 14, 15, 16, 17, 18, 19, 20, 21, 22, 23, 24, 25, 26, 27, 28, 29, 30, 31, 32, 33, 34, 46] rfl
    have hD : va_D A (wSd cI cZ cJ sd_a w_a v_a (wr_a 0) (rd_a 0) (cu_a 0) (sp_a 0) sd ++ wSy cI cZ cJ cu_a cu ++ wSy cI cZ cJ sp_a sp ++ wBr cI cZ cJ w_a w_b w ++ wBr cI cZ cJ v_a v_b v ++ wWr cI cZ cJ wr_a (pb_a 0) wr ++ wRd cI cZ cJ rd_a (pb_a 0) rd ++ wPb cI cZ cJ pb_a w_a v_a pb ++ wMo cI cZ cJ mo_a mo ++ wOu cI cZ cJ ou_a ou) := hD.sub [35, 36, 37, 38, 39, 40, 41, 42, 43, 44, 45, 0, 1, 2, 3, 4, 5, 6, 7, 8, 9, 10, 11, 12, 13, 14, 15, 16, 17, 18, 19, 20, 21, 22, 23, 24, 25, 26, 27, 28, 29, 30, 31, 32, 33, 34, 46] (by decide) rfl
    refine lv_istore (lv' := [(5, .int 1), (0, .ref b), (1, .ref (sd_a 0)), (2, .ref (mo_a 0)), (3, .ref (ou_a 0)), (4, .int i)]) hx hb d_law_418 hl (by decide) rfl (fun ls hl => ?_)
    refine lv_aload_n hx hb d_law_420 rfl (lv_at hl 3 rfl) ?_
    refine lv_aload_n hx hb d_law_421 rfl (lv_at hl 1 rfl) ?_
    refine lv_iload hx hb d_law_422 (lv_at hl 5 rfl) ?_
    refine lv_iconst (v := 1) hx hb d_law_424 (by decide) ?_
    refine lv_iadd hx hb d_law_425 ?_
    refine va_sld hx hb hX0 hbl hbA hS (hin 1 (by decide) (by decide)) d_law_426 ?_
    refine lv_aload_n hx hb d_law_427 rfl (lv_at hl 1 rfl) ?_
    refine lv_iload hx hb d_law_428 (lv_at hl 5 rfl) ?_
    refine lv_iconst (v := 2) hx hb d_law_430 (by decide) ?_
    refine lv_iadd hx hb d_law_431 ?_
    refine va_sld hx hb hX0 hbl hbA hS (hin 2 (by decide) (by decide)) d_law_432 ?_
    refine lv_aload_n hx hb d_law_433 rfl (lv_at hl 1 rfl) ?_
    refine lv_iload hx hb d_law_434 (lv_at hl 5 rfl) ?_
    refine lv_iconst (v := 3) hx hb d_law_436 (by decide) ?_
    refine lv_iadd hx hb d_law_437 ?_
    refine va_sld hx hb hX0 hbl hbA hS (hin 3 (by decide) (by decide)) d_law_438 ?_
    have hPc := hP.sub (ws' := (wMo cI cZ cJ mo_a mo)) [30, 31, 32, 33, 34, 35, 36, 37, 38, 39, 40, 41, 42, 43, 44, 45] rfl
    have hDc := hD.sub (ws' := (wMo cI cZ cJ mo_a mo)) [30, 31, 32, 33, 34, 35, 36, 37, 38, 39, 40, 41, 42, 43, 44, 45] (by decide) rfl
    have hFc := va_free (wc := (wMo cI cZ cJ mo_a mo)) hD hS hA [30, 31, 32, 33, 34, 35, 36, 37, 38, 39, 40, 41, 42, 43, 44, 45] rfl
    refine va_calli (va_runV (As := [.int (xs (i + 1).toNatClampNeg), .int (xs (i + 2).toNatClampNeg), .int (xs (i + 3).toNatClampNeg)]) (rest := []) ⟨hx, hb, hml, hown, hts⟩ (k_Model_at l dC dI cI cZ cJ mo_a H.size hg) (cwV 3 hts (gV t_941 t_942 t_943 t_63 t_944) rfl rfl rfl hd_Model_at ⟨Nat.le_trans (Nat.le_of_ble_eq_true rfl) hRf, Nat.le_trans (Nat.le_of_ble_eq_true rfl) hRl⟩) ⟨kP_blind, va_recv hK hP (ci := 7) (q0 := 30) rfl rfl, kP_at hPc hK hDc hN⟩ rfl rfl hl.1 rfl (lv_room (Nat.le_of_ble_eq_true rfl)) d_law_439 ⟨by omega, by omega⟩) hS (fun q _ h => hFc q h) hFc (fun r9 u t H1 locs ht hvm hw hB hz1 hk1 hS => ?_)
    rw [hw.1]
    obtain ⟨hP, hD⟩ := kQ_join (wr := (wSd cI cZ cJ sd_a w_a v_a (wr_a 0) (rd_a 0) (cu_a 0) (sp_a 0) sd ++ wSy cI cZ cJ cu_a cu ++ wSy cI cZ cJ sp_a sp ++ wBr cI cZ cJ w_a w_b w ++ wBr cI cZ cJ v_a v_b v ++ wWr cI cZ cJ wr_a (pb_a 0) wr ++ wRd cI cZ cJ rd_a (pb_a 0) rd ++ wPb cI cZ cJ pb_a w_a v_a pb ++ wOu cI cZ cJ ou_a ou)) (w1 := (wMo cI cZ cJ mo_a mo')) hP hD [30, 31, 32, 33, 34, 35, 36, 37, 38, 39, 40, 41, 42, 43, 44, 45] [0, 1, 2, 3, 4, 5, 6, 7, 8, 9, 10, 11, 12, 13, 14, 15, 16, 17, 18, 19, 20, 21, 22, 23, 24, 25, 26, 27, 28, 29, 46] rfl rfl (by decide) (by decide) ht hk1 hFc hB
    generalize H1 = H at hP hS ⊢
    have hP : va_P (dC, dI) vwCl (wSd cI cZ cJ sd_a w_a v_a (wr_a 0) (rd_a 0) (cu_a 0) (sp_a 0) sd ++ wSy cI cZ cJ cu_a cu ++ wSy cI cZ cJ sp_a sp ++ wBr cI cZ cJ w_a w_b w ++ wBr cI cZ cJ v_a v_b v ++ wWr cI cZ cJ wr_a (pb_a 0) wr ++ wRd cI cZ cJ rd_a (pb_a 0) rd ++ wPb cI cZ cJ pb_a w_a v_a pb ++ wMo cI cZ cJ mo_a mo' ++ wOu cI cZ cJ ou_a ou) H := hP.sub [0, 1, 2, 3, 4, 5, 6, 7, 8, 9, 10, 11, 12, 13, 14, 15, 16, 17, 18, 19, 20, 21, 22, 23, 24, 25, 26, 27, 28, 29, 31, 32, 33, 34, 35, 36, 37, 38, 39, 40, 41, 42, 43, 44, 45, 46, 30] rfl
    have hD : va_D A (wSd cI cZ cJ sd_a w_a v_a (wr_a 0) (rd_a 0) (cu_a 0) (sp_a 0) sd ++ wSy cI cZ cJ cu_a cu ++ wSy cI cZ cJ sp_a sp ++ wBr cI cZ cJ w_a w_b w ++ wBr cI cZ cJ v_a v_b v ++ wWr cI cZ cJ wr_a (pb_a 0) wr ++ wRd cI cZ cJ rd_a (pb_a 0) rd ++ wPb cI cZ cJ pb_a w_a v_a pb ++ wMo cI cZ cJ mo_a mo' ++ wOu cI cZ cJ ou_a ou) := hD.sub [0, 1, 2, 3, 4, 5, 6, 7, 8, 9, 10, 11, 12, 13, 14, 15, 16, 17, 18, 19, 20, 21, 22, 23, 24, 25, 26, 27, 28, 29, 31, 32, 33, 34, 35, 36, 37, 38, 39, 40, 41, 42, 43, 44, 45, 46, 30] (by decide) rfl
    refine lv_istore (lv' := [(6, .int q), (5, .int 1), (0, .ref b), (1, .ref (sd_a 0)), (2, .ref (mo_a 0)), (3, .ref (ou_a 0)), (4, .int i)]) hx hb d_law_442 hl (by decide) rfl (fun ls hl => ?_)
    refine lv_aload_n hx hb d_law_444 rfl (lv_at hl 4 rfl) ?_
    have hth : f_Model_thrown mo' = some (Mo_code mo') := rfl
    have hPc := hP.sub (ws' := (wMo cI cZ cJ mo_a mo')) [30, 31, 32, 33, 34, 35, 36, 37, 38, 39, 40, 41, 42, 43, 44, 45] rfl
    have hDc := hD.sub (ws' := (wMo cI cZ cJ mo_a mo')) [30, 31, 32, 33, 34, 35, 36, 37, 38, 39, 40, 41, 42, 43, 44, 45] (by decide) rfl
    have hFc := va_free (wc := (wMo cI cZ cJ mo_a mo')) hD hS hA [30, 31, 32, 33, 34, 35, 36, 37, 38, 39, 40, 41, 42, 43, 44, 45] rfl
    refine va_calli (va_runV (As := []) (rest := []) ⟨hx, hb, hml, hown, hts⟩ (k_Model_thrown l dC dI cI cZ cJ mo_a H.size hth) (cwV 0 hts (gV t_906 t_907 t_908 t_63 t_909) rfl rfl rfl hd_Model_thrown ⟨Nat.le_trans (Nat.le_of_ble_eq_true rfl) hRf, Nat.le_trans (Nat.le_of_ble_eq_true rfl) hRl⟩) ⟨kP_blind, va_recv hK hP (ci := 7) (q0 := 30) rfl rfl, kP_at hPc hK hDc hN⟩ rfl rfl hl.1 rfl (lv_room (Nat.le_of_ble_eq_true rfl)) d_law_445 ⟨by omega, by omega⟩) hS (fun q _ h => hFc q h) hFc (fun r9 u t H1 locs ht hvm hw hB hz1 hk1 hS => ?_)
    rw [hw]
    obtain ⟨hP, hD⟩ := kQ_join (wr := (wSd cI cZ cJ sd_a w_a v_a (wr_a 0) (rd_a 0) (cu_a 0) (sp_a 0) sd ++ wSy cI cZ cJ cu_a cu ++ wSy cI cZ cJ sp_a sp ++ wBr cI cZ cJ w_a w_b w ++ wBr cI cZ cJ v_a v_b v ++ wWr cI cZ cJ wr_a (pb_a 0) wr ++ wRd cI cZ cJ rd_a (pb_a 0) rd ++ wPb cI cZ cJ pb_a w_a v_a pb ++ wOu cI cZ cJ ou_a ou)) (w1 := (wMo cI cZ cJ mo_a mo')) hP hD [30, 31, 32, 33, 34, 35, 36, 37, 38, 39, 40, 41, 42, 43, 44, 45] [0, 1, 2, 3, 4, 5, 6, 7, 8, 9, 10, 11, 12, 13, 14, 15, 16, 17, 18, 19, 20, 21, 22, 23, 24, 25, 26, 27, 28, 29, 46] rfl rfl (by decide) (by decide) ht hk1 hFc hB
    generalize H1 = H at hP hS ⊢
    have hP : va_P (dC, dI) vwCl (wSd cI cZ cJ sd_a w_a v_a (wr_a 0) (rd_a 0) (cu_a 0) (sp_a 0) sd ++ wSy cI cZ cJ cu_a cu ++ wSy cI cZ cJ sp_a sp ++ wBr cI cZ cJ w_a w_b w ++ wBr cI cZ cJ v_a v_b v ++ wWr cI cZ cJ wr_a (pb_a 0) wr ++ wRd cI cZ cJ rd_a (pb_a 0) rd ++ wPb cI cZ cJ pb_a w_a v_a pb ++ wMo cI cZ cJ mo_a mo' ++ wOu cI cZ cJ ou_a ou) H := hP.sub [0, 1, 2, 3, 4, 5, 6, 7, 8, 9, 10, 11, 12, 13, 14, 15, 16, 17, 18, 19, 20, 21, 22, 23, 24, 25, 26, 27, 28, 29, 31, 32, 33, 34, 35, 36, 37, 38, 39, 40, 41, 42, 43, 44, 45, 46, 30] rfl
    have hD : va_D A (wSd cI cZ cJ sd_a w_a v_a (wr_a 0) (rd_a 0) (cu_a 0) (sp_a 0) sd ++ wSy cI cZ cJ cu_a cu ++ wSy cI cZ cJ sp_a sp ++ wBr cI cZ cJ w_a w_b w ++ wBr cI cZ cJ v_a v_b v ++ wWr cI cZ cJ wr_a (pb_a 0) wr ++ wRd cI cZ cJ rd_a (pb_a 0) rd ++ wPb cI cZ cJ pb_a w_a v_a pb ++ wMo cI cZ cJ mo_a mo' ++ wOu cI cZ cJ ou_a ou) := hD.sub [0, 1, 2, 3, 4, 5, 6, 7, 8, 9, 10, 11, 12, 13, 14, 15, 16, 17, 18, 19, 20, 21, 22, 23, 24, 25, 26, 27, 28, 29, 31, 32, 33, 34, 35, 36, 37, 38, 39, 40, 41, 42, 43, 44, 45, 46, 30] (by decide) rfl
    refine lv_iload hx hb d_law_448 (lv_at hl 1 rfl) ?_
    refine lv_icmp_eq (tgt := 455) hx hb d_law_450 (by decide) (fun _ => ?_) (fun h9 => absurd hcode h9)
    refine lv_iload hx hb d_law_455 (lv_at hl 1 rfl) ?_
    refine lv_if_ne (tgt := 479) hx hb d_law_457 (by decide) (fun _ => ?_) (fun h9 => absurd h9 (by decide))
    refine lv_goto (tgt := 1131) hx hb d_law_479 (by decide) ?_
    have hl := lv_sub (l' := [(0, .ref b), (1, .ref (sd_a 0)), (2, .ref (mo_a 0)), (3, .ref (ou_a 0)), (4, .int i)]) hl [2, 3, 4, 5, 6] rfl
    refine W.widen (k := j + 1 + Br_byL w + Br_byL v) (n := 6 * (j + 1) + 2 * Br_byL w + 2 * Br_byL v) (by omega) (by omega) ?_
    exact hk _ _ _ cu_a sp_a w_b v_b cu sp w v wr rd pb mo' ou hrel hP hD hS hl

set_option maxHeartbeats 8000000 in
set_option maxRecDepth 100000 in
theorem L_P_refined {p : Program} {l : Launch} {e : Env} {R : Room} {s : State} {m : MethodId} {args : Array Value} {below : List Frame} {meth : Method} {c : Code} {Q : State → Prop} {A : Nat → Prop} {dC : Nat → ClassId} {dI : Nat → Nat → Nat} {cI cZ cJ : ClassId} {sd_a cu_a sp_a : Nat → Nat} {w_a w_b v_a v_b : Nat} {wr_a rd_a pb_a mo_a ou_a : Nat → Nat} {sd : Sd} {cu sp : Sy} {w v : Br} {wr : Wr} {rd : Rd} {pb : Pb} {mo : Mo} {ou : Ou} {b L : Nat} {xs : Nat → Int32} {i : Int32} {j : Nat} {Rl : Sd → Sy → Sy → Br → Br → Wr → Rd → Pb → Mo → Prop} (hl9 : l.stackTraces = false) (C0 : lcx p c m s args R (dC, dI) (TYS cI cZ cJ) A b L xs i j) (hRb : ∀ sd cu sp w v wr rd pb mo, Rl sd cu sp w v wr rd pb mo → Br_byL w ≤ 40000 ∧ Br_byL v ≤ 40000) (hR0 : Rl sd cu sp w v wr rd pb mo) (hT0 : T_P_refined Rl sd cu sp w v wr rd pb mo (xs (i + 1).toNatClampNeg) (xs (i + 2).toNatClampNeg) (xs (i + 3).toNatClampNeg) (xs (i + 4).toNatClampNeg))
    (hk : ∀ (H : Heap) (locs : List Loc) (ls : Array Slot) (cu_a sp_a : Nat → Nat) (w_b v_b : Nat) (cu sp : Sy) (w v : Br) (wr : Wr) (rd : Rd) (pb : Pb) (mo : Mo) (ou : Ou), Rl sd cu sp w v wr rd pb mo → va_P (dC, dI) vwCl (wSd cI cZ cJ sd_a w_a v_a (wr_a 0) (rd_a 0) (cu_a 0) (sp_a 0) sd ++ wSy cI cZ cJ cu_a cu ++ wSy cI cZ cJ sp_a sp ++ wBr cI cZ cJ w_a w_b w ++ wBr cI cZ cJ v_a v_b v ++ wWr cI cZ cJ wr_a (pb_a 0) wr ++ wRd cI cZ cJ rd_a (pb_a 0) rd ++ wPb cI cZ cJ pb_a w_a v_a pb ++ wMo cI cZ cJ mo_a mo ++ wOu cI cZ cJ ou_a ou) H → va_D A (wSd cI cZ cJ sd_a w_a v_a (wr_a 0) (rd_a 0) (cu_a 0) (sp_a 0) sd ++ wSy cI cZ cJ cu_a cu ++ wSy cI cZ cJ sp_a sp ++ wBr cI cZ cJ w_a w_b w ++ wBr cI cZ cJ v_a v_b v ++ wWr cI cZ cJ wr_a (pb_a 0) wr ++ wRd cI cZ cJ rd_a (pb_a 0) rd ++ wPb cI cZ cJ pb_a w_a v_a pb ++ wMo cI cZ cJ mo_a mo ++ wOu cI cZ cJ ou_a ou) → va_S A s.heap H locs → lv_has ls 7 [(0, .ref b), (1, .ref (sd_a 0)), (2, .ref (mo_a 0)), (3, .ref (ou_a 0)), (4, .int i)] → W p l e R s m args below meth c H locs (j + 1 + Br_byL w + Br_byL v) (6 * (j + 1) + 2 * Br_byL w + 2 * Br_byL v) Q (F0 m 1131 ls []))
    {H : Heap} {locs : List Loc} {ls : Array Slot} (hP : va_P (dC, dI) vwCl (wSd cI cZ cJ sd_a w_a v_a (wr_a 0) (rd_a 0) (cu_a 0) (sp_a 0) sd ++ wSy cI cZ cJ cu_a cu ++ wSy cI cZ cJ sp_a sp ++ wBr cI cZ cJ w_a w_b w ++ wBr cI cZ cJ v_a v_b v ++ wWr cI cZ cJ wr_a (pb_a 0) wr ++ wRd cI cZ cJ rd_a (pb_a 0) rd ++ wPb cI cZ cJ pb_a w_a v_a pb ++ wMo cI cZ cJ mo_a mo ++ wOu cI cZ cJ ou_a ou) H) (hD : va_D A (wSd cI cZ cJ sd_a w_a v_a (wr_a 0) (rd_a 0) (cu_a 0) (sp_a 0) sd ++ wSy cI cZ cJ cu_a cu ++ wSy cI cZ cJ sp_a sp ++ wBr cI cZ cJ w_a w_b w ++ wBr cI cZ cJ v_a v_b v ++ wWr cI cZ cJ wr_a (pb_a 0) wr ++ wRd cI cZ cJ rd_a (pb_a 0) rd ++ wPb cI cZ cJ pb_a w_a v_a pb ++ wMo cI cZ cJ mo_a mo ++ wOu cI cZ cJ ou_a ou)) (hS : va_S A s.heap H locs) (hl : lv_has ls 7 [(0, .ref b), (1, .ref (sd_a 0)), (2, .ref (mo_a 0)), (3, .ref (ou_a 0)), (4, .int i)]) : W p l e R s m args below meth c H locs (j + Br_byL w + Br_byL v) (6 * j + 2 * Br_byL w + 2 * Br_byL v) Q (F0 m 482 ls []) := by
  obtain ⟨hx, hb, hml, hown, hts, hK, hA, hA2, hRf, hRl, hN, hT, hX, hX0, hbl, hin, hj, hRc, hRs⟩ := C0
  have hbA : ¬ A b := fun h => absurd (hA2 b h) (Nat.not_le.mpr hbl)
  obtain ⟨hw0, hv0⟩ := hRb _ _ _ _ _ _ _ _ _ hR0
  unfold T_P_refined at hT0
  rcases hT0 with ⟨r, cu', mo', hf, hg, hcode, hrel⟩ | ⟨hf, q, mo', hg, hcode, hrel⟩ | ⟨hf, q, mo', hg, hcode, hrel⟩ | ⟨hf, q, mo', hg, hcode, hrel⟩
  · obtain ⟨ou', heou⟩ : ∃ z : Ou, z = (vp_updL (Ou_f ou) 0 r.toInt64) := ⟨_, rfl⟩
    have hf1 : f_Law_refined sd cu ou (xs (i + 1).toNatClampNeg) (xs (i + 2).toNatClampNeg) (xs (i + 3).toNatClampNeg) (xs (i + 4).toNatClampNeg) = some (0, cu', ou') := by
      rw [f_Law_refined, hf, bd_s, heou]
      rfl
    have hou : Ou_f ou' (0 : Int32).toNatClampNeg = r.toInt64 := by rw [heou]; exact updL_at _ _ _
    refine lv_aload_n hx hb d_law_482 rfl (lv_at hl 1 rfl) ?_
    refine lv_aload_n hx hb d_law_483 rfl (lv_at hl 0 rfl) ?_
    refine lv_iload hx hb d_law_484 (lv_at hl 4 rfl) ?_
    refine lv_iconst (v := 1) hx hb d_law_486 (by decide) ?_
    refine lv_iadd hx hb d_law_487 ?_
    refine va_sld hx hb hX0 hbl hbA hS (hin 1 (by decide) (by decide)) d_law_488 ?_
    refine lv_aload_n hx hb d_law_489 rfl (lv_at hl 0 rfl) ?_
    refine lv_iload hx hb d_law_490 (lv_at hl 4 rfl) ?_
    refine lv_iconst (v := 2) hx hb d_law_492 (by decide) ?_
    refine lv_iadd hx hb d_law_493 ?_
    refine va_sld hx hb hX0 hbl hbA hS (hin 2 (by decide) (by decide)) d_law_494 ?_
    refine lv_aload_n hx hb d_law_495 rfl (lv_at hl 0 rfl) ?_
    refine lv_iload hx hb d_law_496 (lv_at hl 4 rfl) ?_
    refine lv_iconst (v := 3) hx hb d_law_498 (by decide) ?_
    refine lv_iadd hx hb d_law_499 ?_
    refine va_sld hx hb hX0 hbl hbA hS (hin 3 (by decide) (by decide)) d_law_500 ?_
    refine lv_aload_n hx hb d_law_501 rfl (lv_at hl 0 rfl) ?_
    refine lv_iload hx hb d_law_502 (lv_at hl 4 rfl) ?_
    refine lv_iconst (v := 4) hx hb d_law_504 (by decide) ?_
    refine lv_iadd hx hb d_law_505 ?_
    refine va_sld hx hb hX0 hbl hbA hS (hin 4 (by decide) (by decide)) d_law_506 ?_
    refine lv_aload_n hx hb d_law_507 rfl (lv_at hl 3 rfl) ?_
    have hPc := hP.sub (ws' := (wSd cI cZ cJ sd_a w_a v_a (wr_a 0) (rd_a 0) (cu_a 0) (sp_a 0) sd ++ wSy cI cZ cJ cu_a cu ++ wOu cI cZ cJ ou_a ou)) [0, 1, 2, 3, 4, 5, 6, 7, 8, 9, 10, 45] rfl
    have hDc := hD.sub (ws' := (wSd cI cZ cJ sd_a w_a v_a (wr_a 0) (rd_a 0) (cu_a 0) (sp_a 0) sd ++ wSy cI cZ cJ cu_a cu ++ wOu cI cZ cJ ou_a ou)) [0, 1, 2, 3, 4, 5, 6, 7, 8, 9, 10, 45] (by decide) rfl
    have hFc := va_free (wc := (wSd cI cZ cJ sd_a w_a v_a (wr_a 0) (rd_a 0) (cu_a 0) (sp_a 0) sd ++ wSy cI cZ cJ cu_a cu ++ wOu cI cZ cJ ou_a ou)) hD hS hA [0, 1, 2, 3, 4, 5, 6, 7, 8, 9, 10, 45] rfl
    refine va_calli (w_runS (As := [.ref (sd_a 0), .int (xs (i + 1).toNatClampNeg), .int (xs (i + 2).toNatClampNeg), .int (xs (i + 3).toNatClampNeg), .int (xs (i + 4).toNatClampNeg), .ref (ou_a 0)]) (rest := []) ⟨hx, hb, hml, hown, hts⟩ (k_Law_refined l dC dI cI cZ cJ sd_a cu_a ou_a w_a v_a (wr_a 0) (rd_a 0) (sp_a 0) H.size hf1) (cwH_of 6 hts t_707 rfl rfl t_53 t_705 t_706 hd_Law_refined.2 ⟨Nat.le_trans (Nat.le_of_ble_eq_true rfl) hRf, Nat.le_trans (Nat.le_of_ble_eq_true rfl) hRl⟩) ⟨kP_blind, kP_at hPc hK hDc hN⟩ rfl rfl hl.1 rfl (lv_room (Nat.le_of_ble_eq_true rfl)) d_law_508 ⟨by omega, by omega⟩) hS (fun q _ h => hFc q h) hFc (fun r9 u t H1 locs ht hvm hw hB hz1 hk1 hS => ?_)
    rw [hw]
    obtain ⟨hP, hD⟩ := kQ_join (wr := (wSy cI cZ cJ sp_a sp ++ wBr cI cZ cJ w_a w_b w ++ wBr cI cZ cJ v_a v_b v ++ wWr cI cZ cJ wr_a (pb_a 0) wr ++ wRd cI cZ cJ rd_a (pb_a 0) rd ++ wPb cI cZ cJ pb_a w_a v_a pb ++ wMo cI cZ cJ mo_a mo)) (w1 := (wSd cI cZ cJ sd_a w_a v_a (wr_a 0) (rd_a 0) (cu_a 0) (sp_a 0) sd ++ wSy cI cZ cJ cu_a cu' ++ wOu cI cZ cJ ou_a ou')) hP hD [0, 1, 2, 3, 4, 5, 6, 7, 8, 9, 10, 45] [11, 12, 13, 14, 15, 16, 17, 18, 19, 20, 21, 22, 23, 24, 25, 26, 27, 28, 29, 30, 31, 32, 33, 34, 35, 36, 37, 38, 39, 40, 41, 42, 43, 44, 46] rfl rfl (by decide) (by decide) ht hk1 hFc hB
    generalize H1 = H at hP hS ⊢
    have hP : va_P (dC, dI) vwCl (wSd cI cZ cJ sd_a w_a v_a (wr_a 0) (rd_a 0) (cu_a 0) (sp_a 0) sd ++ wSy cI cZ cJ cu_a cu' ++ wSy cI cZ cJ sp_a sp ++ wBr cI cZ cJ w_a w_b w ++ wBr cI cZ cJ v_a v_b v ++ wWr cI cZ cJ wr_a (pb_a 0) wr ++ wRd cI cZ cJ rd_a (pb_a 0) rd ++ wPb cI cZ cJ pb_a w_a v_a pb ++ wMo cI cZ cJ mo_a mo ++ wOu cI cZ cJ ou_a ou') H := hP.sub [35, 36, 37, 38, 39, 40, 41, 42, 43, 44, 45, 0, 1, 2, 3, 4, 5, 6, 7, 8, 9, 10, 11, 12, 13, 14, 15, 16, 17, 18, 19, 20, 21, 22, 23, 24, 25, 26, 27, 28, 29, 30, 31, 32, 33, 34, 46] rfl
    have hD : va_D A (wSd cI cZ cJ sd_a w_a v_a (wr_a 0) (rd_a 0) (cu_a 0) (sp_a 0) sd ++ wSy cI cZ cJ cu_a cu' ++ wSy cI cZ cJ sp_a sp ++ wBr cI cZ cJ w_a w_b w ++ wBr cI cZ cJ v_a v_b v ++ wWr cI cZ cJ wr_a (pb_a 0) wr ++ wRd cI cZ cJ rd_a (pb_a 0) rd ++ wPb cI cZ cJ pb_a w_a v_a pb ++ wMo cI cZ cJ mo_a mo ++ wOu cI cZ cJ ou_a ou') := hD.sub [35, 36, 37, 38, 39, 40, 41, 42, 43, 44, 45, 0, 1, 2, 3, 4, 5, 6, 7, 8, 9, 10, 11, 12, 13, 14, 15, 16, 17, 18, 19, 20, 21, 22, 23, 24, 25, 26, 27, 28, 29, 30, 31, 32, 33, 34, 46] (by decide) rfl
    refine lv_istore (lv' := [(5, .int 0), (0, .ref b), (1, .ref (sd_a 0)), (2, .ref (mo_a 0)), (3, .ref (ou_a 0)), (4, .int i)]) hx hb d_law_511 hl (by decide) rfl (fun ls hl => ?_)
    refine lv_aload_n hx hb d_law_513 rfl (lv_at hl 3 rfl) ?_
    refine lv_aload_n hx hb d_law_514 rfl (lv_at hl 1 rfl) ?_
    refine lv_iload hx hb d_law_515 (lv_at hl 5 rfl) ?_
    refine lv_iconst (v := 1) hx hb d_law_517 (by decide) ?_
    refine lv_iadd hx hb d_law_518 ?_
    refine va_sld hx hb hX0 hbl hbA hS (hin 1 (by decide) (by decide)) d_law_519 ?_
    refine lv_aload_n hx hb d_law_520 rfl (lv_at hl 1 rfl) ?_
    refine lv_iload hx hb d_law_521 (lv_at hl 5 rfl) ?_
    refine lv_iconst (v := 2) hx hb d_law_523 (by decide) ?_
    refine lv_iadd hx hb d_law_524 ?_
    refine va_sld hx hb hX0 hbl hbA hS (hin 2 (by decide) (by decide)) d_law_525 ?_
    refine lv_aload_n hx hb d_law_526 rfl (lv_at hl 1 rfl) ?_
    refine lv_iload hx hb d_law_527 (lv_at hl 5 rfl) ?_
    refine lv_iconst (v := 3) hx hb d_law_529 (by decide) ?_
    refine lv_iadd hx hb d_law_530 ?_
    refine va_sld hx hb hX0 hbl hbA hS (hin 3 (by decide) (by decide)) d_law_531 ?_
    refine lv_aload_n hx hb d_law_532 rfl (lv_at hl 1 rfl) ?_
    refine lv_iload hx hb d_law_533 (lv_at hl 5 rfl) ?_
    refine lv_iconst (v := 4) hx hb d_law_535 (by decide) ?_
    refine lv_iadd hx hb d_law_536 ?_
    refine va_sld hx hb hX0 hbl hbA hS (hin 4 (by decide) (by decide)) d_law_537 ?_
    have hPc := hP.sub (ws' := (wMo cI cZ cJ mo_a mo)) [30, 31, 32, 33, 34, 35, 36, 37, 38, 39, 40, 41, 42, 43, 44, 45] rfl
    have hDc := hD.sub (ws' := (wMo cI cZ cJ mo_a mo)) [30, 31, 32, 33, 34, 35, 36, 37, 38, 39, 40, 41, 42, 43, 44, 45] (by decide) rfl
    have hFc := va_free (wc := (wMo cI cZ cJ mo_a mo)) hD hS hA [30, 31, 32, 33, 34, 35, 36, 37, 38, 39, 40, 41, 42, 43, 44, 45] rfl
    refine va_calli (va_runV (As := [.int (xs (i + 1).toNatClampNeg), .int (xs (i + 2).toNatClampNeg), .int (xs (i + 3).toNatClampNeg), .int (xs (i + 4).toNatClampNeg)]) (rest := []) ⟨hx, hb, hml, hown, hts⟩ (k_Model_refined l dC dI cI cZ cJ mo_a H.size hg) (cwV 4 hts (gV t_945 t_946 t_947 t_63 t_948) rfl rfl rfl hd_Model_refined ⟨Nat.le_trans (Nat.le_of_ble_eq_true rfl) hRf, Nat.le_trans (Nat.le_of_ble_eq_true rfl) hRl⟩) ⟨kP_blind, va_recv hK hP (ci := 7) (q0 := 30) rfl rfl, kP_at hPc hK hDc hN⟩ rfl rfl hl.1 rfl (lv_room (Nat.le_of_ble_eq_true rfl)) d_law_538 ⟨by omega, by omega⟩) hS (fun q _ h => hFc q h) hFc (fun r9 u t H1 locs ht hvm hw hB hz1 hk1 hS => ?_)
    rw [hw]
    obtain ⟨hP, hD⟩ := kQ_join (wr := (wSd cI cZ cJ sd_a w_a v_a (wr_a 0) (rd_a 0) (cu_a 0) (sp_a 0) sd ++ wSy cI cZ cJ cu_a cu' ++ wSy cI cZ cJ sp_a sp ++ wBr cI cZ cJ w_a w_b w ++ wBr cI cZ cJ v_a v_b v ++ wWr cI cZ cJ wr_a (pb_a 0) wr ++ wRd cI cZ cJ rd_a (pb_a 0) rd ++ wPb cI cZ cJ pb_a w_a v_a pb ++ wOu cI cZ cJ ou_a ou')) (w1 := (wMo cI cZ cJ mo_a mo')) hP hD [30, 31, 32, 33, 34, 35, 36, 37, 38, 39, 40, 41, 42, 43, 44, 45] [0, 1, 2, 3, 4, 5, 6, 7, 8, 9, 10, 11, 12, 13, 14, 15, 16, 17, 18, 19, 20, 21, 22, 23, 24, 25, 26, 27, 28, 29, 46] rfl rfl (by decide) (by decide) ht hk1 hFc hB
    generalize H1 = H at hP hS ⊢
    have hP : va_P (dC, dI) vwCl (wSd cI cZ cJ sd_a w_a v_a (wr_a 0) (rd_a 0) (cu_a 0) (sp_a 0) sd ++ wSy cI cZ cJ cu_a cu' ++ wSy cI cZ cJ sp_a sp ++ wBr cI cZ cJ w_a w_b w ++ wBr cI cZ cJ v_a v_b v ++ wWr cI cZ cJ wr_a (pb_a 0) wr ++ wRd cI cZ cJ rd_a (pb_a 0) rd ++ wPb cI cZ cJ pb_a w_a v_a pb ++ wMo cI cZ cJ mo_a mo' ++ wOu cI cZ cJ ou_a ou') H := hP.sub [0, 1, 2, 3, 4, 5, 6, 7, 8, 9, 10, 11, 12, 13, 14, 15, 16, 17, 18, 19, 20, 21, 22, 23, 24, 25, 26, 27, 28, 29, 31, 32, 33, 34, 35, 36, 37, 38, 39, 40, 41, 42, 43, 44, 45, 46, 30] rfl
    have hD : va_D A (wSd cI cZ cJ sd_a w_a v_a (wr_a 0) (rd_a 0) (cu_a 0) (sp_a 0) sd ++ wSy cI cZ cJ cu_a cu' ++ wSy cI cZ cJ sp_a sp ++ wBr cI cZ cJ w_a w_b w ++ wBr cI cZ cJ v_a v_b v ++ wWr cI cZ cJ wr_a (pb_a 0) wr ++ wRd cI cZ cJ rd_a (pb_a 0) rd ++ wPb cI cZ cJ pb_a w_a v_a pb ++ wMo cI cZ cJ mo_a mo' ++ wOu cI cZ cJ ou_a ou') := hD.sub [0, 1, 2, 3, 4, 5, 6, 7, 8, 9, 10, 11, 12, 13, 14, 15, 16, 17, 18, 19, 20, 21, 22, 23, 24, 25, 26, 27, 28, 29, 31, 32, 33, 34, 35, 36, 37, 38, 39, 40, 41, 42, 43, 44, 45, 46, 30] (by decide) rfl
    refine lv_istore (lv' := [(6, .int r), (5, .int 0), (0, .ref b), (1, .ref (sd_a 0)), (2, .ref (mo_a 0)), (3, .ref (ou_a 0)), (4, .int i)]) hx hb d_law_541 hl (by decide) rfl (fun ls hl => ?_)
    refine lv_aload_n hx hb d_law_543 rfl (lv_at hl 4 rfl) ?_
    have hth : f_Model_thrown mo' = some (Mo_code mo') := rfl
    have hPc := hP.sub (ws' := (wMo cI cZ cJ mo_a mo')) [30, 31, 32, 33, 34, 35, 36, 37, 38, 39, 40, 41, 42, 43, 44, 45] rfl
    have hDc := hD.sub (ws' := (wMo cI cZ cJ mo_a mo')) [30, 31, 32, 33, 34, 35, 36, 37, 38, 39, 40, 41, 42, 43, 44, 45] (by decide) rfl
    have hFc := va_free (wc := (wMo cI cZ cJ mo_a mo')) hD hS hA [30, 31, 32, 33, 34, 35, 36, 37, 38, 39, 40, 41, 42, 43, 44, 45] rfl
    refine va_calli (va_runV (As := []) (rest := []) ⟨hx, hb, hml, hown, hts⟩ (k_Model_thrown l dC dI cI cZ cJ mo_a H.size hth) (cwV 0 hts (gV t_906 t_907 t_908 t_63 t_909) rfl rfl rfl hd_Model_thrown ⟨Nat.le_trans (Nat.le_of_ble_eq_true rfl) hRf, Nat.le_trans (Nat.le_of_ble_eq_true rfl) hRl⟩) ⟨kP_blind, va_recv hK hP (ci := 7) (q0 := 30) rfl rfl, kP_at hPc hK hDc hN⟩ rfl rfl hl.1 rfl (lv_room (Nat.le_of_ble_eq_true rfl)) d_law_544 ⟨by omega, by omega⟩) hS (fun q _ h => hFc q h) hFc (fun r9 u t H1 locs ht hvm hw hB hz1 hk1 hS => ?_)
    rw [hw]
    obtain ⟨hP, hD⟩ := kQ_join (wr := (wSd cI cZ cJ sd_a w_a v_a (wr_a 0) (rd_a 0) (cu_a 0) (sp_a 0) sd ++ wSy cI cZ cJ cu_a cu' ++ wSy cI cZ cJ sp_a sp ++ wBr cI cZ cJ w_a w_b w ++ wBr cI cZ cJ v_a v_b v ++ wWr cI cZ cJ wr_a (pb_a 0) wr ++ wRd cI cZ cJ rd_a (pb_a 0) rd ++ wPb cI cZ cJ pb_a w_a v_a pb ++ wOu cI cZ cJ ou_a ou')) (w1 := (wMo cI cZ cJ mo_a mo')) hP hD [30, 31, 32, 33, 34, 35, 36, 37, 38, 39, 40, 41, 42, 43, 44, 45] [0, 1, 2, 3, 4, 5, 6, 7, 8, 9, 10, 11, 12, 13, 14, 15, 16, 17, 18, 19, 20, 21, 22, 23, 24, 25, 26, 27, 28, 29, 46] rfl rfl (by decide) (by decide) ht hk1 hFc hB
    generalize H1 = H at hP hS ⊢
    have hP : va_P (dC, dI) vwCl (wSd cI cZ cJ sd_a w_a v_a (wr_a 0) (rd_a 0) (cu_a 0) (sp_a 0) sd ++ wSy cI cZ cJ cu_a cu' ++ wSy cI cZ cJ sp_a sp ++ wBr cI cZ cJ w_a w_b w ++ wBr cI cZ cJ v_a v_b v ++ wWr cI cZ cJ wr_a (pb_a 0) wr ++ wRd cI cZ cJ rd_a (pb_a 0) rd ++ wPb cI cZ cJ pb_a w_a v_a pb ++ wMo cI cZ cJ mo_a mo' ++ wOu cI cZ cJ ou_a ou') H := hP.sub [0, 1, 2, 3, 4, 5, 6, 7, 8, 9, 10, 11, 12, 13, 14, 15, 16, 17, 18, 19, 20, 21, 22, 23, 24, 25, 26, 27, 28, 29, 31, 32, 33, 34, 35, 36, 37, 38, 39, 40, 41, 42, 43, 44, 45, 46, 30] rfl
    have hD : va_D A (wSd cI cZ cJ sd_a w_a v_a (wr_a 0) (rd_a 0) (cu_a 0) (sp_a 0) sd ++ wSy cI cZ cJ cu_a cu' ++ wSy cI cZ cJ sp_a sp ++ wBr cI cZ cJ w_a w_b w ++ wBr cI cZ cJ v_a v_b v ++ wWr cI cZ cJ wr_a (pb_a 0) wr ++ wRd cI cZ cJ rd_a (pb_a 0) rd ++ wPb cI cZ cJ pb_a w_a v_a pb ++ wMo cI cZ cJ mo_a mo' ++ wOu cI cZ cJ ou_a ou') := hD.sub [0, 1, 2, 3, 4, 5, 6, 7, 8, 9, 10, 11, 12, 13, 14, 15, 16, 17, 18, 19, 20, 21, 22, 23, 24, 25, 26, 27, 28, 29, 31, 32, 33, 34, 35, 36, 37, 38, 39, 40, 41, 42, 43, 44, 45, 46, 30] (by decide) rfl
    refine lv_iload hx hb d_law_547 (lv_at hl 1 rfl) ?_
    refine lv_icmp_eq (tgt := 554) hx hb d_law_549 (by decide) (fun _ => ?_) (fun h9 => absurd hcode h9)
    refine lv_iload hx hb d_law_554 (lv_at hl 1 rfl) ?_
    refine lv_if_ne (tgt := 571) hx hb d_law_556 (by decide) (fun h9 => absurd rfl h9) (fun _ => ?_)
    refine lv_aload_n hx hb d_law_559 rfl (lv_at hl 5 rfl) ?_
    refine lv_iconst (v := 0) hx hb d_law_560 (by decide) ?_
    refine va_lald (f := Ou_f ou') hx hb hK hP 46 2 rfl rfl (inb_in (by decide)) d_law_561 ?_
    refine lv_iload hx hb d_law_562 (lv_at hl 0 rfl) ?_
    refine lv_i2l (v := r.toInt64) hx hb d_law_564 rfl ?_
    refine W.lcmp hx hb d_law_565 ?_
    refine lv_if_eq (tgt := 571) hx hb d_law_566 (by decide) (fun _ => ?_) (fun h9 => absurd (by rw [hou]; exact cmp_self _) h9)
    refine lv_goto (tgt := 1131) hx hb d_law_571 (by decide) ?_
    have hl := lv_sub (l' := [(0, .ref b), (1, .ref (sd_a 0)), (2, .ref (mo_a 0)), (3, .ref (ou_a 0)), (4, .int i)]) hl [2, 3, 4, 5, 6] rfl
    refine W.widen (k := j + 1 + Br_byL w + Br_byL v) (n := 6 * (j + 1) + 2 * Br_byL w + 2 * Br_byL v) (by omega) (by omega) ?_
    exact hk _ _ _ cu_a sp_a w_b v_b cu' sp w v wr rd pb mo' ou' hrel hP hD hS hl
  · refine lv_aload_n hx hb d_law_482 rfl (lv_at hl 1 rfl) ?_
    refine lv_aload_n hx hb d_law_483 rfl (lv_at hl 0 rfl) ?_
    refine lv_iload hx hb d_law_484 (lv_at hl 4 rfl) ?_
    refine lv_iconst (v := 1) hx hb d_law_486 (by decide) ?_
    refine lv_iadd hx hb d_law_487 ?_
    refine va_sld hx hb hX0 hbl hbA hS (hin 1 (by decide) (by decide)) d_law_488 ?_
    refine lv_aload_n hx hb d_law_489 rfl (lv_at hl 0 rfl) ?_
    refine lv_iload hx hb d_law_490 (lv_at hl 4 rfl) ?_
    refine lv_iconst (v := 2) hx hb d_law_492 (by decide) ?_
    refine lv_iadd hx hb d_law_493 ?_
    refine va_sld hx hb hX0 hbl hbA hS (hin 2 (by decide) (by decide)) d_law_494 ?_
    refine lv_aload_n hx hb d_law_495 rfl (lv_at hl 0 rfl) ?_
    refine lv_iload hx hb d_law_496 (lv_at hl 4 rfl) ?_
    refine lv_iconst (v := 3) hx hb d_law_498 (by decide) ?_
    refine lv_iadd hx hb d_law_499 ?_
    refine va_sld hx hb hX0 hbl hbA hS (hin 3 (by decide) (by decide)) d_law_500 ?_
    refine lv_aload_n hx hb d_law_501 rfl (lv_at hl 0 rfl) ?_
    refine lv_iload hx hb d_law_502 (lv_at hl 4 rfl) ?_
    refine lv_iconst (v := 4) hx hb d_law_504 (by decide) ?_
    refine lv_iadd hx hb d_law_505 ?_
    refine va_sld hx hb hX0 hbl hbA hS (hin 4 (by decide) (by decide)) d_law_506 ?_
    refine lv_aload_n hx hb d_law_507 rfl (lv_at hl 3 rfl) ?_
    have hPc := hP.sub (ws' := (wSd cI cZ cJ sd_a w_a v_a (wr_a 0) (rd_a 0) (cu_a 0) (sp_a 0) sd ++ wSy cI cZ cJ cu_a cu ++ wOu cI cZ cJ ou_a ou)) [0, 1, 2, 3, 4, 5, 6, 7, 8, 9, 10, 45] rfl
    have hDc := hD.sub (ws' := (wSd cI cZ cJ sd_a w_a v_a (wr_a 0) (rd_a 0) (cu_a 0) (sp_a 0) sd ++ wSy cI cZ cJ cu_a cu ++ wOu cI cZ cJ ou_a ou)) [0, 1, 2, 3, 4, 5, 6, 7, 8, 9, 10, 45] (by decide) rfl
    have hFc := va_free (wc := (wSd cI cZ cJ sd_a w_a v_a (wr_a 0) (rd_a 0) (cu_a 0) (sp_a 0) sd ++ wSy cI cZ cJ cu_a cu ++ wOu cI cZ cJ ou_a ou)) hD hS hA [0, 1, 2, 3, 4, 5, 6, 7, 8, 9, 10, 45] rfl
    refine va_calli (w_runS (As := [.ref (sd_a 0), .int (xs (i + 1).toNatClampNeg), .int (xs (i + 2).toNatClampNeg), .int (xs (i + 3).toNatClampNeg), .int (xs (i + 4).toNatClampNeg), .ref (ou_a 0)]) (rest := []) ⟨hx, hb, hml, hown, hts⟩ (kx_Law_refined_3 l hl9 dC dI cI cZ cJ sd_a cu_a ou_a w_a v_a (wr_a 0) (rd_a 0) (sp_a 0) H.size hf) (cwH_of 6 hts t_707 rfl rfl t_53 t_705 t_706 hd_Law_refined.2 ⟨Nat.le_trans (Nat.le_of_ble_eq_true rfl) hRf, Nat.le_trans (Nat.le_of_ble_eq_true rfl) hRl⟩) ⟨kPX_blind, kPX_at hPc hK hDc hN (fun q hq => hS.2.1 q hq (fun h9 => absurd (hA2 q h9) (Nat.not_le.mpr hq))) hT hX⟩ rfl rfl hl.1 rfl (lv_room (Nat.le_of_ble_eq_true rfl)) d_law_508 ⟨by omega, by omega⟩) hS (fun q _ h => hFc q h) hFc (fun r9 u t H1 locs ht hvm hw hB hz1 hk1 hS => ?_)
    rw [hw]
    obtain ⟨hP, hD⟩ := kQ_join (wr := (wSy cI cZ cJ sp_a sp ++ wBr cI cZ cJ w_a w_b w ++ wBr cI cZ cJ v_a v_b v ++ wWr cI cZ cJ wr_a (pb_a 0) wr ++ wRd cI cZ cJ rd_a (pb_a 0) rd ++ wPb cI cZ cJ pb_a w_a v_a pb ++ wMo cI cZ cJ mo_a mo)) (w1 := (wSd cI cZ cJ sd_a w_a v_a (wr_a 0) (rd_a 0) (cu_a 0) (sp_a 0) sd ++ wSy cI cZ cJ cu_a cu ++ wOu cI cZ cJ ou_a ou)) hP hD [0, 1, 2, 3, 4, 5, 6, 7, 8, 9, 10, 45] [11, 12, 13, 14, 15, 16, 17, 18, 19, 20, 21, 22, 23, 24, 25, 26, 27, 28, 29, 30, 31, 32, 33, 34, 35, 36, 37, 38, 39, 40, 41, 42, 43, 44, 46] rfl rfl (by decide) (by decide) ht hk1 hFc hB
    generalize H1 = H at hP hS ⊢
    have hP : va_P (dC, dI) vwCl (wSd cI cZ cJ sd_a w_a v_a (wr_a 0) (rd_a 0) (cu_a 0) (sp_a 0) sd ++ wSy cI cZ cJ cu_a cu ++ wSy cI cZ cJ sp_a sp ++ wBr cI cZ cJ w_a w_b w ++ wBr cI cZ cJ v_a v_b v ++ wWr cI cZ cJ wr_a (pb_a 0) wr ++ wRd cI cZ cJ rd_a (pb_a 0) rd ++ wPb cI cZ cJ pb_a w_a v_a pb ++ wMo cI cZ cJ mo_a mo ++ wOu cI cZ cJ ou_a ou) H := hP.sub [35, 36, 37, 38, 39, 40, 41, 42, 43, 44, 45, 0, 1, 2, 3, 4, 5, 6, 7, 8, 9, 10, 11, 12, 13, 14, 15, 16, 17, 18, 19, 20, 21, 22, 23, 24, 25, 26, 27, 28, 29, 30, 31, 32, 33, 34, 46] rfl
    have hD : va_D A (wSd cI cZ cJ sd_a w_a v_a (wr_a 0) (rd_a 0) (cu_a 0) (sp_a 0) sd ++ wSy cI cZ cJ cu_a cu ++ wSy cI cZ cJ sp_a sp ++ wBr cI cZ cJ w_a w_b w ++ wBr cI cZ cJ v_a v_b v ++ wWr cI cZ cJ wr_a (pb_a 0) wr ++ wRd cI cZ cJ rd_a (pb_a 0) rd ++ wPb cI cZ cJ pb_a w_a v_a pb ++ wMo cI cZ cJ mo_a mo ++ wOu cI cZ cJ ou_a ou) := hD.sub [35, 36, 37, 38, 39, 40, 41, 42, 43, 44, 45, 0, 1, 2, 3, 4, 5, 6, 7, 8, 9, 10, 11, 12, 13, 14, 15, 16, 17, 18, 19, 20, 21, 22, 23, 24, 25, 26, 27, 28, 29, 30, 31, 32, 33, 34, 46] (by decide) rfl
    refine lv_istore (lv' := [(5, .int 1), (0, .ref b), (1, .ref (sd_a 0)), (2, .ref (mo_a 0)), (3, .ref (ou_a 0)), (4, .int i)]) hx hb d_law_511 hl (by decide) rfl (fun ls hl => ?_)
    refine lv_aload_n hx hb d_law_513 rfl (lv_at hl 3 rfl) ?_
    refine lv_aload_n hx hb d_law_514 rfl (lv_at hl 1 rfl) ?_
    refine lv_iload hx hb d_law_515 (lv_at hl 5 rfl) ?_
    refine lv_iconst (v := 1) hx hb d_law_517 (by decide) ?_
    refine lv_iadd hx hb d_law_518 ?_
    refine va_sld hx hb hX0 hbl hbA hS (hin 1 (by decide) (by decide)) d_law_519 ?_
    refine lv_aload_n hx hb d_law_520 rfl (lv_at hl 1 rfl) ?_
    refine lv_iload hx hb d_law_521 (lv_at hl 5 rfl) ?_
    refine lv_iconst (v := 2) hx hb d_law_523 (by decide) ?_
    refine lv_iadd hx hb d_law_524 ?_
    refine va_sld hx hb hX0 hbl hbA hS (hin 2 (by decide) (by decide)) d_law_525 ?_
    refine lv_aload_n hx hb d_law_526 rfl (lv_at hl 1 rfl) ?_
    refine lv_iload hx hb d_law_527 (lv_at hl 5 rfl) ?_
    refine lv_iconst (v := 3) hx hb d_law_529 (by decide) ?_
    refine lv_iadd hx hb d_law_530 ?_
    refine va_sld hx hb hX0 hbl hbA hS (hin 3 (by decide) (by decide)) d_law_531 ?_
    refine lv_aload_n hx hb d_law_532 rfl (lv_at hl 1 rfl) ?_
    refine lv_iload hx hb d_law_533 (lv_at hl 5 rfl) ?_
    refine lv_iconst (v := 4) hx hb d_law_535 (by decide) ?_
    refine lv_iadd hx hb d_law_536 ?_
    refine va_sld hx hb hX0 hbl hbA hS (hin 4 (by decide) (by decide)) d_law_537 ?_
    have hPc := hP.sub (ws' := (wMo cI cZ cJ mo_a mo)) [30, 31, 32, 33, 34, 35, 36, 37, 38, 39, 40, 41, 42, 43, 44, 45] rfl
    have hDc := hD.sub (ws' := (wMo cI cZ cJ mo_a mo)) [30, 31, 32, 33, 34, 35, 36, 37, 38, 39, 40, 41, 42, 43, 44, 45] (by decide) rfl
    have hFc := va_free (wc := (wMo cI cZ cJ mo_a mo)) hD hS hA [30, 31, 32, 33, 34, 35, 36, 37, 38, 39, 40, 41, 42, 43, 44, 45] rfl
    refine va_calli (va_runV (As := [.int (xs (i + 1).toNatClampNeg), .int (xs (i + 2).toNatClampNeg), .int (xs (i + 3).toNatClampNeg), .int (xs (i + 4).toNatClampNeg)]) (rest := []) ⟨hx, hb, hml, hown, hts⟩ (k_Model_refined l dC dI cI cZ cJ mo_a H.size hg) (cwV 4 hts (gV t_945 t_946 t_947 t_63 t_948) rfl rfl rfl hd_Model_refined ⟨Nat.le_trans (Nat.le_of_ble_eq_true rfl) hRf, Nat.le_trans (Nat.le_of_ble_eq_true rfl) hRl⟩) ⟨kP_blind, va_recv hK hP (ci := 7) (q0 := 30) rfl rfl, kP_at hPc hK hDc hN⟩ rfl rfl hl.1 rfl (lv_room (Nat.le_of_ble_eq_true rfl)) d_law_538 ⟨by omega, by omega⟩) hS (fun q _ h => hFc q h) hFc (fun r9 u t H1 locs ht hvm hw hB hz1 hk1 hS => ?_)
    rw [hw]
    obtain ⟨hP, hD⟩ := kQ_join (wr := (wSd cI cZ cJ sd_a w_a v_a (wr_a 0) (rd_a 0) (cu_a 0) (sp_a 0) sd ++ wSy cI cZ cJ cu_a cu ++ wSy cI cZ cJ sp_a sp ++ wBr cI cZ cJ w_a w_b w ++ wBr cI cZ cJ v_a v_b v ++ wWr cI cZ cJ wr_a (pb_a 0) wr ++ wRd cI cZ cJ rd_a (pb_a 0) rd ++ wPb cI cZ cJ pb_a w_a v_a pb ++ wOu cI cZ cJ ou_a ou)) (w1 := (wMo cI cZ cJ mo_a mo')) hP hD [30, 31, 32, 33, 34, 35, 36, 37, 38, 39, 40, 41, 42, 43, 44, 45] [0, 1, 2, 3, 4, 5, 6, 7, 8, 9, 10, 11, 12, 13, 14, 15, 16, 17, 18, 19, 20, 21, 22, 23, 24, 25, 26, 27, 28, 29, 46] rfl rfl (by decide) (by decide) ht hk1 hFc hB
    generalize H1 = H at hP hS ⊢
    have hP : va_P (dC, dI) vwCl (wSd cI cZ cJ sd_a w_a v_a (wr_a 0) (rd_a 0) (cu_a 0) (sp_a 0) sd ++ wSy cI cZ cJ cu_a cu ++ wSy cI cZ cJ sp_a sp ++ wBr cI cZ cJ w_a w_b w ++ wBr cI cZ cJ v_a v_b v ++ wWr cI cZ cJ wr_a (pb_a 0) wr ++ wRd cI cZ cJ rd_a (pb_a 0) rd ++ wPb cI cZ cJ pb_a w_a v_a pb ++ wMo cI cZ cJ mo_a mo' ++ wOu cI cZ cJ ou_a ou) H := hP.sub [0, 1, 2, 3, 4, 5, 6, 7, 8, 9, 10, 11, 12, 13, 14, 15, 16, 17, 18, 19, 20, 21, 22, 23, 24, 25, 26, 27, 28, 29, 31, 32, 33, 34, 35, 36, 37, 38, 39, 40, 41, 42, 43, 44, 45, 46, 30] rfl
    have hD : va_D A (wSd cI cZ cJ sd_a w_a v_a (wr_a 0) (rd_a 0) (cu_a 0) (sp_a 0) sd ++ wSy cI cZ cJ cu_a cu ++ wSy cI cZ cJ sp_a sp ++ wBr cI cZ cJ w_a w_b w ++ wBr cI cZ cJ v_a v_b v ++ wWr cI cZ cJ wr_a (pb_a 0) wr ++ wRd cI cZ cJ rd_a (pb_a 0) rd ++ wPb cI cZ cJ pb_a w_a v_a pb ++ wMo cI cZ cJ mo_a mo' ++ wOu cI cZ cJ ou_a ou) := hD.sub [0, 1, 2, 3, 4, 5, 6, 7, 8, 9, 10, 11, 12, 13, 14, 15, 16, 17, 18, 19, 20, 21, 22, 23, 24, 25, 26, 27, 28, 29, 31, 32, 33, 34, 35, 36, 37, 38, 39, 40, 41, 42, 43, 44, 45, 46, 30] (by decide) rfl
    refine lv_istore (lv' := [(6, .int q), (5, .int 1), (0, .ref b), (1, .ref (sd_a 0)), (2, .ref (mo_a 0)), (3, .ref (ou_a 0)), (4, .int i)]) hx hb d_law_541 hl (by decide) rfl (fun ls hl => ?_)
    refine lv_aload_n hx hb d_law_543 rfl (lv_at hl 4 rfl) ?_
    have hth : f_Model_thrown mo' = some (Mo_code mo') := rfl
    have hPc := hP.sub (ws' := (wMo cI cZ cJ mo_a mo')) [30, 31, 32, 33, 34, 35, 36, 37, 38, 39, 40, 41, 42, 43, 44, 45] rfl
    have hDc := hD.sub (ws' := (wMo cI cZ cJ mo_a mo')) [30, 31, 32, 33, 34, 35, 36, 37, 38, 39, 40, 41, 42, 43, 44, 45] (by decide) rfl
    have hFc := va_free (wc := (wMo cI cZ cJ mo_a mo')) hD hS hA [30, 31, 32, 33, 34, 35, 36, 37, 38, 39, 40, 41, 42, 43, 44, 45] rfl
    refine va_calli (va_runV (As := []) (rest := []) ⟨hx, hb, hml, hown, hts⟩ (k_Model_thrown l dC dI cI cZ cJ mo_a H.size hth) (cwV 0 hts (gV t_906 t_907 t_908 t_63 t_909) rfl rfl rfl hd_Model_thrown ⟨Nat.le_trans (Nat.le_of_ble_eq_true rfl) hRf, Nat.le_trans (Nat.le_of_ble_eq_true rfl) hRl⟩) ⟨kP_blind, va_recv hK hP (ci := 7) (q0 := 30) rfl rfl, kP_at hPc hK hDc hN⟩ rfl rfl hl.1 rfl (lv_room (Nat.le_of_ble_eq_true rfl)) d_law_544 ⟨by omega, by omega⟩) hS (fun q _ h => hFc q h) hFc (fun r9 u t H1 locs ht hvm hw hB hz1 hk1 hS => ?_)
    rw [hw]
    obtain ⟨hP, hD⟩ := kQ_join (wr := (wSd cI cZ cJ sd_a w_a v_a (wr_a 0) (rd_a 0) (cu_a 0) (sp_a 0) sd ++ wSy cI cZ cJ cu_a cu ++ wSy cI cZ cJ sp_a sp ++ wBr cI cZ cJ w_a w_b w ++ wBr cI cZ cJ v_a v_b v ++ wWr cI cZ cJ wr_a (pb_a 0) wr ++ wRd cI cZ cJ rd_a (pb_a 0) rd ++ wPb cI cZ cJ pb_a w_a v_a pb ++ wOu cI cZ cJ ou_a ou)) (w1 := (wMo cI cZ cJ mo_a mo')) hP hD [30, 31, 32, 33, 34, 35, 36, 37, 38, 39, 40, 41, 42, 43, 44, 45] [0, 1, 2, 3, 4, 5, 6, 7, 8, 9, 10, 11, 12, 13, 14, 15, 16, 17, 18, 19, 20, 21, 22, 23, 24, 25, 26, 27, 28, 29, 46] rfl rfl (by decide) (by decide) ht hk1 hFc hB
    generalize H1 = H at hP hS ⊢
    have hP : va_P (dC, dI) vwCl (wSd cI cZ cJ sd_a w_a v_a (wr_a 0) (rd_a 0) (cu_a 0) (sp_a 0) sd ++ wSy cI cZ cJ cu_a cu ++ wSy cI cZ cJ sp_a sp ++ wBr cI cZ cJ w_a w_b w ++ wBr cI cZ cJ v_a v_b v ++ wWr cI cZ cJ wr_a (pb_a 0) wr ++ wRd cI cZ cJ rd_a (pb_a 0) rd ++ wPb cI cZ cJ pb_a w_a v_a pb ++ wMo cI cZ cJ mo_a mo' ++ wOu cI cZ cJ ou_a ou) H := hP.sub [0, 1, 2, 3, 4, 5, 6, 7, 8, 9, 10, 11, 12, 13, 14, 15, 16, 17, 18, 19, 20, 21, 22, 23, 24, 25, 26, 27, 28, 29, 31, 32, 33, 34, 35, 36, 37, 38, 39, 40, 41, 42, 43, 44, 45, 46, 30] rfl
    have hD : va_D A (wSd cI cZ cJ sd_a w_a v_a (wr_a 0) (rd_a 0) (cu_a 0) (sp_a 0) sd ++ wSy cI cZ cJ cu_a cu ++ wSy cI cZ cJ sp_a sp ++ wBr cI cZ cJ w_a w_b w ++ wBr cI cZ cJ v_a v_b v ++ wWr cI cZ cJ wr_a (pb_a 0) wr ++ wRd cI cZ cJ rd_a (pb_a 0) rd ++ wPb cI cZ cJ pb_a w_a v_a pb ++ wMo cI cZ cJ mo_a mo' ++ wOu cI cZ cJ ou_a ou) := hD.sub [0, 1, 2, 3, 4, 5, 6, 7, 8, 9, 10, 11, 12, 13, 14, 15, 16, 17, 18, 19, 20, 21, 22, 23, 24, 25, 26, 27, 28, 29, 31, 32, 33, 34, 35, 36, 37, 38, 39, 40, 41, 42, 43, 44, 45, 46, 30] (by decide) rfl
    refine lv_iload hx hb d_law_547 (lv_at hl 1 rfl) ?_
    refine lv_icmp_eq (tgt := 554) hx hb d_law_549 (by decide) (fun _ => ?_) (fun h9 => absurd hcode h9)
    refine lv_iload hx hb d_law_554 (lv_at hl 1 rfl) ?_
    refine lv_if_ne (tgt := 571) hx hb d_law_556 (by decide) (fun _ => ?_) (fun h9 => absurd h9 (by decide))
    refine lv_goto (tgt := 1131) hx hb d_law_571 (by decide) ?_
    have hl := lv_sub (l' := [(0, .ref b), (1, .ref (sd_a 0)), (2, .ref (mo_a 0)), (3, .ref (ou_a 0)), (4, .int i)]) hl [2, 3, 4, 5, 6] rfl
    refine W.widen (k := j + 1 + Br_byL w + Br_byL v) (n := 6 * (j + 1) + 2 * Br_byL w + 2 * Br_byL v) (by omega) (by omega) ?_
    exact hk _ _ _ cu_a sp_a w_b v_b cu sp w v wr rd pb mo' ou hrel hP hD hS hl
  · refine lv_aload_n hx hb d_law_482 rfl (lv_at hl 1 rfl) ?_
    refine lv_aload_n hx hb d_law_483 rfl (lv_at hl 0 rfl) ?_
    refine lv_iload hx hb d_law_484 (lv_at hl 4 rfl) ?_
    refine lv_iconst (v := 1) hx hb d_law_486 (by decide) ?_
    refine lv_iadd hx hb d_law_487 ?_
    refine va_sld hx hb hX0 hbl hbA hS (hin 1 (by decide) (by decide)) d_law_488 ?_
    refine lv_aload_n hx hb d_law_489 rfl (lv_at hl 0 rfl) ?_
    refine lv_iload hx hb d_law_490 (lv_at hl 4 rfl) ?_
    refine lv_iconst (v := 2) hx hb d_law_492 (by decide) ?_
    refine lv_iadd hx hb d_law_493 ?_
    refine va_sld hx hb hX0 hbl hbA hS (hin 2 (by decide) (by decide)) d_law_494 ?_
    refine lv_aload_n hx hb d_law_495 rfl (lv_at hl 0 rfl) ?_
    refine lv_iload hx hb d_law_496 (lv_at hl 4 rfl) ?_
    refine lv_iconst (v := 3) hx hb d_law_498 (by decide) ?_
    refine lv_iadd hx hb d_law_499 ?_
    refine va_sld hx hb hX0 hbl hbA hS (hin 3 (by decide) (by decide)) d_law_500 ?_
    refine lv_aload_n hx hb d_law_501 rfl (lv_at hl 0 rfl) ?_
    refine lv_iload hx hb d_law_502 (lv_at hl 4 rfl) ?_
    refine lv_iconst (v := 4) hx hb d_law_504 (by decide) ?_
    refine lv_iadd hx hb d_law_505 ?_
    refine va_sld hx hb hX0 hbl hbA hS (hin 4 (by decide) (by decide)) d_law_506 ?_
    refine lv_aload_n hx hb d_law_507 rfl (lv_at hl 3 rfl) ?_
    have hPc := hP.sub (ws' := (wSd cI cZ cJ sd_a w_a v_a (wr_a 0) (rd_a 0) (cu_a 0) (sp_a 0) sd ++ wSy cI cZ cJ cu_a cu ++ wOu cI cZ cJ ou_a ou)) [0, 1, 2, 3, 4, 5, 6, 7, 8, 9, 10, 45] rfl
    have hDc := hD.sub (ws' := (wSd cI cZ cJ sd_a w_a v_a (wr_a 0) (rd_a 0) (cu_a 0) (sp_a 0) sd ++ wSy cI cZ cJ cu_a cu ++ wOu cI cZ cJ ou_a ou)) [0, 1, 2, 3, 4, 5, 6, 7, 8, 9, 10, 45] (by decide) rfl
    have hFc := va_free (wc := (wSd cI cZ cJ sd_a w_a v_a (wr_a 0) (rd_a 0) (cu_a 0) (sp_a 0) sd ++ wSy cI cZ cJ cu_a cu ++ wOu cI cZ cJ ou_a ou)) hD hS hA [0, 1, 2, 3, 4, 5, 6, 7, 8, 9, 10, 45] rfl
    refine va_calli (w_runS (As := [.ref (sd_a 0), .int (xs (i + 1).toNatClampNeg), .int (xs (i + 2).toNatClampNeg), .int (xs (i + 3).toNatClampNeg), .int (xs (i + 4).toNatClampNeg), .ref (ou_a 0)]) (rest := []) ⟨hx, hb, hml, hown, hts⟩ (kx_Law_refined_1 l hl9 dC dI cI cZ cJ sd_a cu_a ou_a w_a v_a (wr_a 0) (rd_a 0) (sp_a 0) H.size hf) (cwH_of 6 hts t_707 rfl rfl t_53 t_705 t_706 hd_Law_refined.2 ⟨Nat.le_trans (Nat.le_of_ble_eq_true rfl) hRf, Nat.le_trans (Nat.le_of_ble_eq_true rfl) hRl⟩) ⟨kPX_blind, kPX_at hPc hK hDc hN (fun q hq => hS.2.1 q hq (fun h9 => absurd (hA2 q h9) (Nat.not_le.mpr hq))) hT hX⟩ rfl rfl hl.1 rfl (lv_room (Nat.le_of_ble_eq_true rfl)) d_law_508 ⟨by omega, by omega⟩) hS (fun q _ h => hFc q h) hFc (fun r9 u t H1 locs ht hvm hw hB hz1 hk1 hS => ?_)
    rw [hw]
    obtain ⟨hP, hD⟩ := kQ_join (wr := (wSy cI cZ cJ sp_a sp ++ wBr cI cZ cJ w_a w_b w ++ wBr cI cZ cJ v_a v_b v ++ wWr cI cZ cJ wr_a (pb_a 0) wr ++ wRd cI cZ cJ rd_a (pb_a 0) rd ++ wPb cI cZ cJ pb_a w_a v_a pb ++ wMo cI cZ cJ mo_a mo)) (w1 := (wSd cI cZ cJ sd_a w_a v_a (wr_a 0) (rd_a 0) (cu_a 0) (sp_a 0) sd ++ wSy cI cZ cJ cu_a cu ++ wOu cI cZ cJ ou_a ou)) hP hD [0, 1, 2, 3, 4, 5, 6, 7, 8, 9, 10, 45] [11, 12, 13, 14, 15, 16, 17, 18, 19, 20, 21, 22, 23, 24, 25, 26, 27, 28, 29, 30, 31, 32, 33, 34, 35, 36, 37, 38, 39, 40, 41, 42, 43, 44, 46] rfl rfl (by decide) (by decide) ht hk1 hFc hB
    generalize H1 = H at hP hS ⊢
    have hP : va_P (dC, dI) vwCl (wSd cI cZ cJ sd_a w_a v_a (wr_a 0) (rd_a 0) (cu_a 0) (sp_a 0) sd ++ wSy cI cZ cJ cu_a cu ++ wSy cI cZ cJ sp_a sp ++ wBr cI cZ cJ w_a w_b w ++ wBr cI cZ cJ v_a v_b v ++ wWr cI cZ cJ wr_a (pb_a 0) wr ++ wRd cI cZ cJ rd_a (pb_a 0) rd ++ wPb cI cZ cJ pb_a w_a v_a pb ++ wMo cI cZ cJ mo_a mo ++ wOu cI cZ cJ ou_a ou) H := hP.sub [35, 36, 37, 38, 39, 40, 41, 42, 43, 44, 45, 0, 1, 2, 3, 4, 5, 6, 7, 8, 9, 10, 11, 12, 13, 14, 15, 16, 17, 18, 19, 20, 21, 22, 23, 24, 25, 26, 27, 28, 29, 30, 31, 32, 33, 34, 46] rfl
    have hD : va_D A (wSd cI cZ cJ sd_a w_a v_a (wr_a 0) (rd_a 0) (cu_a 0) (sp_a 0) sd ++ wSy cI cZ cJ cu_a cu ++ wSy cI cZ cJ sp_a sp ++ wBr cI cZ cJ w_a w_b w ++ wBr cI cZ cJ v_a v_b v ++ wWr cI cZ cJ wr_a (pb_a 0) wr ++ wRd cI cZ cJ rd_a (pb_a 0) rd ++ wPb cI cZ cJ pb_a w_a v_a pb ++ wMo cI cZ cJ mo_a mo ++ wOu cI cZ cJ ou_a ou) := hD.sub [35, 36, 37, 38, 39, 40, 41, 42, 43, 44, 45, 0, 1, 2, 3, 4, 5, 6, 7, 8, 9, 10, 11, 12, 13, 14, 15, 16, 17, 18, 19, 20, 21, 22, 23, 24, 25, 26, 27, 28, 29, 30, 31, 32, 33, 34, 46] (by decide) rfl
    refine lv_istore (lv' := [(5, .int 2), (0, .ref b), (1, .ref (sd_a 0)), (2, .ref (mo_a 0)), (3, .ref (ou_a 0)), (4, .int i)]) hx hb d_law_511 hl (by decide) rfl (fun ls hl => ?_)
    refine lv_aload_n hx hb d_law_513 rfl (lv_at hl 3 rfl) ?_
    refine lv_aload_n hx hb d_law_514 rfl (lv_at hl 1 rfl) ?_
    refine lv_iload hx hb d_law_515 (lv_at hl 5 rfl) ?_
    refine lv_iconst (v := 1) hx hb d_law_517 (by decide) ?_
    refine lv_iadd hx hb d_law_518 ?_
    refine va_sld hx hb hX0 hbl hbA hS (hin 1 (by decide) (by decide)) d_law_519 ?_
    refine lv_aload_n hx hb d_law_520 rfl (lv_at hl 1 rfl) ?_
    refine lv_iload hx hb d_law_521 (lv_at hl 5 rfl) ?_
    refine lv_iconst (v := 2) hx hb d_law_523 (by decide) ?_
    refine lv_iadd hx hb d_law_524 ?_
    refine va_sld hx hb hX0 hbl hbA hS (hin 2 (by decide) (by decide)) d_law_525 ?_
    refine lv_aload_n hx hb d_law_526 rfl (lv_at hl 1 rfl) ?_
    refine lv_iload hx hb d_law_527 (lv_at hl 5 rfl) ?_
    refine lv_iconst (v := 3) hx hb d_law_529 (by decide) ?_
    refine lv_iadd hx hb d_law_530 ?_
    refine va_sld hx hb hX0 hbl hbA hS (hin 3 (by decide) (by decide)) d_law_531 ?_
    refine lv_aload_n hx hb d_law_532 rfl (lv_at hl 1 rfl) ?_
    refine lv_iload hx hb d_law_533 (lv_at hl 5 rfl) ?_
    refine lv_iconst (v := 4) hx hb d_law_535 (by decide) ?_
    refine lv_iadd hx hb d_law_536 ?_
    refine va_sld hx hb hX0 hbl hbA hS (hin 4 (by decide) (by decide)) d_law_537 ?_
    have hPc := hP.sub (ws' := (wMo cI cZ cJ mo_a mo)) [30, 31, 32, 33, 34, 35, 36, 37, 38, 39, 40, 41, 42, 43, 44, 45] rfl
    have hDc := hD.sub (ws' := (wMo cI cZ cJ mo_a mo)) [30, 31, 32, 33, 34, 35, 36, 37, 38, 39, 40, 41, 42, 43, 44, 45] (by decide) rfl
    have hFc := va_free (wc := (wMo cI cZ cJ mo_a mo)) hD hS hA [30, 31, 32, 33, 34, 35, 36, 37, 38, 39, 40, 41, 42, 43, 44, 45] rfl
    refine va_calli (va_runV (As := [.int (xs (i + 1).toNatClampNeg), .int (xs (i + 2).toNatClampNeg), .int (xs (i + 3).toNatClampNeg), .int (xs (i + 4).toNatClampNeg)]) (rest := []) ⟨hx, hb, hml, hown, hts⟩ (k_Model_refined l dC dI cI cZ cJ mo_a H.size hg) (cwV 4 hts (gV t_945 t_946 t_947 t_63 t_948) rfl rfl rfl hd_Model_refined ⟨Nat.le_trans (Nat.le_of_ble_eq_true rfl) hRf, Nat.le_trans (Nat.le_of_ble_eq_true rfl) hRl⟩) ⟨kP_blind, va_recv hK hP (ci := 7) (q0 := 30) rfl rfl, kP_at hPc hK hDc hN⟩ rfl rfl hl.1 rfl (lv_room (Nat.le_of_ble_eq_true rfl)) d_law_538 ⟨by omega, by omega⟩) hS (fun q _ h => hFc q h) hFc (fun r9 u t H1 locs ht hvm hw hB hz1 hk1 hS => ?_)
    rw [hw]
    obtain ⟨hP, hD⟩ := kQ_join (wr := (wSd cI cZ cJ sd_a w_a v_a (wr_a 0) (rd_a 0) (cu_a 0) (sp_a 0) sd ++ wSy cI cZ cJ cu_a cu ++ wSy cI cZ cJ sp_a sp ++ wBr cI cZ cJ w_a w_b w ++ wBr cI cZ cJ v_a v_b v ++ wWr cI cZ cJ wr_a (pb_a 0) wr ++ wRd cI cZ cJ rd_a (pb_a 0) rd ++ wPb cI cZ cJ pb_a w_a v_a pb ++ wOu cI cZ cJ ou_a ou)) (w1 := (wMo cI cZ cJ mo_a mo')) hP hD [30, 31, 32, 33, 34, 35, 36, 37, 38, 39, 40, 41, 42, 43, 44, 45] [0, 1, 2, 3, 4, 5, 6, 7, 8, 9, 10, 11, 12, 13, 14, 15, 16, 17, 18, 19, 20, 21, 22, 23, 24, 25, 26, 27, 28, 29, 46] rfl rfl (by decide) (by decide) ht hk1 hFc hB
    generalize H1 = H at hP hS ⊢
    have hP : va_P (dC, dI) vwCl (wSd cI cZ cJ sd_a w_a v_a (wr_a 0) (rd_a 0) (cu_a 0) (sp_a 0) sd ++ wSy cI cZ cJ cu_a cu ++ wSy cI cZ cJ sp_a sp ++ wBr cI cZ cJ w_a w_b w ++ wBr cI cZ cJ v_a v_b v ++ wWr cI cZ cJ wr_a (pb_a 0) wr ++ wRd cI cZ cJ rd_a (pb_a 0) rd ++ wPb cI cZ cJ pb_a w_a v_a pb ++ wMo cI cZ cJ mo_a mo' ++ wOu cI cZ cJ ou_a ou) H := hP.sub [0, 1, 2, 3, 4, 5, 6, 7, 8, 9, 10, 11, 12, 13, 14, 15, 16, 17, 18, 19, 20, 21, 22, 23, 24, 25, 26, 27, 28, 29, 31, 32, 33, 34, 35, 36, 37, 38, 39, 40, 41, 42, 43, 44, 45, 46, 30] rfl
    have hD : va_D A (wSd cI cZ cJ sd_a w_a v_a (wr_a 0) (rd_a 0) (cu_a 0) (sp_a 0) sd ++ wSy cI cZ cJ cu_a cu ++ wSy cI cZ cJ sp_a sp ++ wBr cI cZ cJ w_a w_b w ++ wBr cI cZ cJ v_a v_b v ++ wWr cI cZ cJ wr_a (pb_a 0) wr ++ wRd cI cZ cJ rd_a (pb_a 0) rd ++ wPb cI cZ cJ pb_a w_a v_a pb ++ wMo cI cZ cJ mo_a mo' ++ wOu cI cZ cJ ou_a ou) := hD.sub [0, 1, 2, 3, 4, 5, 6, 7, 8, 9, 10, 11, 12, 13, 14, 15, 16, 17, 18, 19, 20, 21, 22, 23, 24, 25, 26, 27, 28, 29, 31, 32, 33, 34, 35, 36, 37, 38, 39, 40, 41, 42, 43, 44, 45, 46, 30] (by decide) rfl
    refine lv_istore (lv' := [(6, .int q), (5, .int 2), (0, .ref b), (1, .ref (sd_a 0)), (2, .ref (mo_a 0)), (3, .ref (ou_a 0)), (4, .int i)]) hx hb d_law_541 hl (by decide) rfl (fun ls hl => ?_)
    refine lv_aload_n hx hb d_law_543 rfl (lv_at hl 4 rfl) ?_
    have hth : f_Model_thrown mo' = some (Mo_code mo') := rfl
    have hPc := hP.sub (ws' := (wMo cI cZ cJ mo_a mo')) [30, 31, 32, 33, 34, 35, 36, 37, 38, 39, 40, 41, 42, 43, 44, 45] rfl
    have hDc := hD.sub (ws' := (wMo cI cZ cJ mo_a mo')) [30, 31, 32, 33, 34, 35, 36, 37, 38, 39, 40, 41, 42, 43, 44, 45] (by decide) rfl
    have hFc := va_free (wc := (wMo cI cZ cJ mo_a mo')) hD hS hA [30, 31, 32, 33, 34, 35, 36, 37, 38, 39, 40, 41, 42, 43, 44, 45] rfl
    refine va_calli (va_runV (As := []) (rest := []) ⟨hx, hb, hml, hown, hts⟩ (k_Model_thrown l dC dI cI cZ cJ mo_a H.size hth) (cwV 0 hts (gV t_906 t_907 t_908 t_63 t_909) rfl rfl rfl hd_Model_thrown ⟨Nat.le_trans (Nat.le_of_ble_eq_true rfl) hRf, Nat.le_trans (Nat.le_of_ble_eq_true rfl) hRl⟩) ⟨kP_blind, va_recv hK hP (ci := 7) (q0 := 30) rfl rfl, kP_at hPc hK hDc hN⟩ rfl rfl hl.1 rfl (lv_room (Nat.le_of_ble_eq_true rfl)) d_law_544 ⟨by omega, by omega⟩) hS (fun q _ h => hFc q h) hFc (fun r9 u t H1 locs ht hvm hw hB hz1 hk1 hS => ?_)
    rw [hw]
    obtain ⟨hP, hD⟩ := kQ_join (wr := (wSd cI cZ cJ sd_a w_a v_a (wr_a 0) (rd_a 0) (cu_a 0) (sp_a 0) sd ++ wSy cI cZ cJ cu_a cu ++ wSy cI cZ cJ sp_a sp ++ wBr cI cZ cJ w_a w_b w ++ wBr cI cZ cJ v_a v_b v ++ wWr cI cZ cJ wr_a (pb_a 0) wr ++ wRd cI cZ cJ rd_a (pb_a 0) rd ++ wPb cI cZ cJ pb_a w_a v_a pb ++ wOu cI cZ cJ ou_a ou)) (w1 := (wMo cI cZ cJ mo_a mo')) hP hD [30, 31, 32, 33, 34, 35, 36, 37, 38, 39, 40, 41, 42, 43, 44, 45] [0, 1, 2, 3, 4, 5, 6, 7, 8, 9, 10, 11, 12, 13, 14, 15, 16, 17, 18, 19, 20, 21, 22, 23, 24, 25, 26, 27, 28, 29, 46] rfl rfl (by decide) (by decide) ht hk1 hFc hB
    generalize H1 = H at hP hS ⊢
    have hP : va_P (dC, dI) vwCl (wSd cI cZ cJ sd_a w_a v_a (wr_a 0) (rd_a 0) (cu_a 0) (sp_a 0) sd ++ wSy cI cZ cJ cu_a cu ++ wSy cI cZ cJ sp_a sp ++ wBr cI cZ cJ w_a w_b w ++ wBr cI cZ cJ v_a v_b v ++ wWr cI cZ cJ wr_a (pb_a 0) wr ++ wRd cI cZ cJ rd_a (pb_a 0) rd ++ wPb cI cZ cJ pb_a w_a v_a pb ++ wMo cI cZ cJ mo_a mo' ++ wOu cI cZ cJ ou_a ou) H := hP.sub [0, 1, 2, 3, 4, 5, 6, 7, 8, 9, 10, 11, 12, 13, 14, 15, 16, 17, 18, 19, 20, 21, 22, 23, 24, 25, 26, 27, 28, 29, 31, 32, 33, 34, 35, 36, 37, 38, 39, 40, 41, 42, 43, 44, 45, 46, 30] rfl
    have hD : va_D A (wSd cI cZ cJ sd_a w_a v_a (wr_a 0) (rd_a 0) (cu_a 0) (sp_a 0) sd ++ wSy cI cZ cJ cu_a cu ++ wSy cI cZ cJ sp_a sp ++ wBr cI cZ cJ w_a w_b w ++ wBr cI cZ cJ v_a v_b v ++ wWr cI cZ cJ wr_a (pb_a 0) wr ++ wRd cI cZ cJ rd_a (pb_a 0) rd ++ wPb cI cZ cJ pb_a w_a v_a pb ++ wMo cI cZ cJ mo_a mo' ++ wOu cI cZ cJ ou_a ou) := hD.sub [0, 1, 2, 3, 4, 5, 6, 7, 8, 9, 10, 11, 12, 13, 14, 15, 16, 17, 18, 19, 20, 21, 22, 23, 24, 25, 26, 27, 28, 29, 31, 32, 33, 34, 35, 36, 37, 38, 39, 40, 41, 42, 43, 44, 45, 46, 30] (by decide) rfl
    refine lv_iload hx hb d_law_547 (lv_at hl 1 rfl) ?_
    refine lv_icmp_eq (tgt := 554) hx hb d_law_549 (by decide) (fun _ => ?_) (fun h9 => absurd hcode h9)
    refine lv_iload hx hb d_law_554 (lv_at hl 1 rfl) ?_
    refine lv_if_ne (tgt := 571) hx hb d_law_556 (by decide) (fun _ => ?_) (fun h9 => absurd h9 (by decide))
    refine lv_goto (tgt := 1131) hx hb d_law_571 (by decide) ?_
    have hl := lv_sub (l' := [(0, .ref b), (1, .ref (sd_a 0)), (2, .ref (mo_a 0)), (3, .ref (ou_a 0)), (4, .int i)]) hl [2, 3, 4, 5, 6] rfl
    refine W.widen (k := j + 1 + Br_byL w + Br_byL v) (n := 6 * (j + 1) + 2 * Br_byL w + 2 * Br_byL v) (by omega) (by omega) ?_
    exact hk _ _ _ cu_a sp_a w_b v_b cu sp w v wr rd pb mo' ou hrel hP hD hS hl
  · refine lv_aload_n hx hb d_law_482 rfl (lv_at hl 1 rfl) ?_
    refine lv_aload_n hx hb d_law_483 rfl (lv_at hl 0 rfl) ?_
    refine lv_iload hx hb d_law_484 (lv_at hl 4 rfl) ?_
    refine lv_iconst (v := 1) hx hb d_law_486 (by decide) ?_
    refine lv_iadd hx hb d_law_487 ?_
    refine va_sld hx hb hX0 hbl hbA hS (hin 1 (by decide) (by decide)) d_law_488 ?_
    refine lv_aload_n hx hb d_law_489 rfl (lv_at hl 0 rfl) ?_
    refine lv_iload hx hb d_law_490 (lv_at hl 4 rfl) ?_
    refine lv_iconst (v := 2) hx hb d_law_492 (by decide) ?_
    refine lv_iadd hx hb d_law_493 ?_
    refine va_sld hx hb hX0 hbl hbA hS (hin 2 (by decide) (by decide)) d_law_494 ?_
    refine lv_aload_n hx hb d_law_495 rfl (lv_at hl 0 rfl) ?_
    refine lv_iload hx hb d_law_496 (lv_at hl 4 rfl) ?_
    refine lv_iconst (v := 3) hx hb d_law_498 (by decide) ?_
    refine lv_iadd hx hb d_law_499 ?_
    refine va_sld hx hb hX0 hbl hbA hS (hin 3 (by decide) (by decide)) d_law_500 ?_
    refine lv_aload_n hx hb d_law_501 rfl (lv_at hl 0 rfl) ?_
    refine lv_iload hx hb d_law_502 (lv_at hl 4 rfl) ?_
    refine lv_iconst (v := 4) hx hb d_law_504 (by decide) ?_
    refine lv_iadd hx hb d_law_505 ?_
    refine va_sld hx hb hX0 hbl hbA hS (hin 4 (by decide) (by decide)) d_law_506 ?_
    refine lv_aload_n hx hb d_law_507 rfl (lv_at hl 3 rfl) ?_
    have hPc := hP.sub (ws' := (wSd cI cZ cJ sd_a w_a v_a (wr_a 0) (rd_a 0) (cu_a 0) (sp_a 0) sd ++ wSy cI cZ cJ cu_a cu ++ wOu cI cZ cJ ou_a ou)) [0, 1, 2, 3, 4, 5, 6, 7, 8, 9, 10, 45] rfl
    have hDc := hD.sub (ws' := (wSd cI cZ cJ sd_a w_a v_a (wr_a 0) (rd_a 0) (cu_a 0) (sp_a 0) sd ++ wSy cI cZ cJ cu_a cu ++ wOu cI cZ cJ ou_a ou)) [0, 1, 2, 3, 4, 5, 6, 7, 8, 9, 10, 45] (by decide) rfl
    have hFc := va_free (wc := (wSd cI cZ cJ sd_a w_a v_a (wr_a 0) (rd_a 0) (cu_a 0) (sp_a 0) sd ++ wSy cI cZ cJ cu_a cu ++ wOu cI cZ cJ ou_a ou)) hD hS hA [0, 1, 2, 3, 4, 5, 6, 7, 8, 9, 10, 45] rfl
    refine va_calli (w_runS (As := [.ref (sd_a 0), .int (xs (i + 1).toNatClampNeg), .int (xs (i + 2).toNatClampNeg), .int (xs (i + 3).toNatClampNeg), .int (xs (i + 4).toNatClampNeg), .ref (ou_a 0)]) (rest := []) ⟨hx, hb, hml, hown, hts⟩ (kx_Law_refined_2 l hl9 dC dI cI cZ cJ sd_a cu_a ou_a w_a v_a (wr_a 0) (rd_a 0) (sp_a 0) H.size hf) (cwH_of 6 hts t_707 rfl rfl t_53 t_705 t_706 hd_Law_refined.2 ⟨Nat.le_trans (Nat.le_of_ble_eq_true rfl) hRf, Nat.le_trans (Nat.le_of_ble_eq_true rfl) hRl⟩) ⟨kPX_blind, kPX_at hPc hK hDc hN (fun q hq => hS.2.1 q hq (fun h9 => absurd (hA2 q h9) (Nat.not_le.mpr hq))) hT hX⟩ rfl rfl hl.1 rfl (lv_room (Nat.le_of_ble_eq_true rfl)) d_law_508 ⟨by omega, by omega⟩) hS (fun q _ h => hFc q h) hFc (fun r9 u t H1 locs ht hvm hw hB hz1 hk1 hS => ?_)
    rw [hw]
    obtain ⟨hP, hD⟩ := kQ_join (wr := (wSy cI cZ cJ sp_a sp ++ wBr cI cZ cJ w_a w_b w ++ wBr cI cZ cJ v_a v_b v ++ wWr cI cZ cJ wr_a (pb_a 0) wr ++ wRd cI cZ cJ rd_a (pb_a 0) rd ++ wPb cI cZ cJ pb_a w_a v_a pb ++ wMo cI cZ cJ mo_a mo)) (w1 := (wSd cI cZ cJ sd_a w_a v_a (wr_a 0) (rd_a 0) (cu_a 0) (sp_a 0) sd ++ wSy cI cZ cJ cu_a cu ++ wOu cI cZ cJ ou_a ou)) hP hD [0, 1, 2, 3, 4, 5, 6, 7, 8, 9, 10, 45] [11, 12, 13, 14, 15, 16, 17, 18, 19, 20, 21, 22, 23, 24, 25, 26, 27, 28, 29, 30, 31, 32, 33, 34, 35, 36, 37, 38, 39, 40, 41, 42, 43, 44, 46] rfl rfl (by decide) (by decide) ht hk1 hFc hB
    generalize H1 = H at hP hS ⊢
    have hP : va_P (dC, dI) vwCl (wSd cI cZ cJ sd_a w_a v_a (wr_a 0) (rd_a 0) (cu_a 0) (sp_a 0) sd ++ wSy cI cZ cJ cu_a cu ++ wSy cI cZ cJ sp_a sp ++ wBr cI cZ cJ w_a w_b w ++ wBr cI cZ cJ v_a v_b v ++ wWr cI cZ cJ wr_a (pb_a 0) wr ++ wRd cI cZ cJ rd_a (pb_a 0) rd ++ wPb cI cZ cJ pb_a w_a v_a pb ++ wMo cI cZ cJ mo_a mo ++ wOu cI cZ cJ ou_a ou) H := hP.sub [35, 36, 37, 38, 39, 40, 41, 42, 43, 44, 45, 0, 1, 2, 3, 4, 5, 6, 7, 8, 9, 10, 11, 12, 13, 14, 15, 16, 17, 18, 19, 20, 21, 22, 23, 24, 25, 26, 27, 28, 29, 30, 31, 32, 33, 34, 46] rfl
    have hD : va_D A (wSd cI cZ cJ sd_a w_a v_a (wr_a 0) (rd_a 0) (cu_a 0) (sp_a 0) sd ++ wSy cI cZ cJ cu_a cu ++ wSy cI cZ cJ sp_a sp ++ wBr cI cZ cJ w_a w_b w ++ wBr cI cZ cJ v_a v_b v ++ wWr cI cZ cJ wr_a (pb_a 0) wr ++ wRd cI cZ cJ rd_a (pb_a 0) rd ++ wPb cI cZ cJ pb_a w_a v_a pb ++ wMo cI cZ cJ mo_a mo ++ wOu cI cZ cJ ou_a ou) := hD.sub [35, 36, 37, 38, 39, 40, 41, 42, 43, 44, 45, 0, 1, 2, 3, 4, 5, 6, 7, 8, 9, 10, 11, 12, 13, 14, 15, 16, 17, 18, 19, 20, 21, 22, 23, 24, 25, 26, 27, 28, 29, 30, 31, 32, 33, 34, 46] (by decide) rfl
    refine lv_istore (lv' := [(5, .int 3), (0, .ref b), (1, .ref (sd_a 0)), (2, .ref (mo_a 0)), (3, .ref (ou_a 0)), (4, .int i)]) hx hb d_law_511 hl (by decide) rfl (fun ls hl => ?_)
    refine lv_aload_n hx hb d_law_513 rfl (lv_at hl 3 rfl) ?_
    refine lv_aload_n hx hb d_law_514 rfl (lv_at hl 1 rfl) ?_
    refine lv_iload hx hb d_law_515 (lv_at hl 5 rfl) ?_
    refine lv_iconst (v := 1) hx hb d_law_517 (by decide) ?_
    refine lv_iadd hx hb d_law_518 ?_
    refine va_sld hx hb hX0 hbl hbA hS (hin 1 (by decide) (by decide)) d_law_519 ?_
    refine lv_aload_n hx hb d_law_520 rfl (lv_at hl 1 rfl) ?_
    refine lv_iload hx hb d_law_521 (lv_at hl 5 rfl) ?_
    refine lv_iconst (v := 2) hx hb d_law_523 (by decide) ?_
    refine lv_iadd hx hb d_law_524 ?_
    refine va_sld hx hb hX0 hbl hbA hS (hin 2 (by decide) (by decide)) d_law_525 ?_
    refine lv_aload_n hx hb d_law_526 rfl (lv_at hl 1 rfl) ?_
    refine lv_iload hx hb d_law_527 (lv_at hl 5 rfl) ?_
    refine lv_iconst (v := 3) hx hb d_law_529 (by decide) ?_
    refine lv_iadd hx hb d_law_530 ?_
    refine va_sld hx hb hX0 hbl hbA hS (hin 3 (by decide) (by decide)) d_law_531 ?_
    refine lv_aload_n hx hb d_law_532 rfl (lv_at hl 1 rfl) ?_
    refine lv_iload hx hb d_law_533 (lv_at hl 5 rfl) ?_
    refine lv_iconst (v := 4) hx hb d_law_535 (by decide) ?_
    refine lv_iadd hx hb d_law_536 ?_
    refine va_sld hx hb hX0 hbl hbA hS (hin 4 (by decide) (by decide)) d_law_537 ?_
    have hPc := hP.sub (ws' := (wMo cI cZ cJ mo_a mo)) [30, 31, 32, 33, 34, 35, 36, 37, 38, 39, 40, 41, 42, 43, 44, 45] rfl
    have hDc := hD.sub (ws' := (wMo cI cZ cJ mo_a mo)) [30, 31, 32, 33, 34, 35, 36, 37, 38, 39, 40, 41, 42, 43, 44, 45] (by decide) rfl
    have hFc := va_free (wc := (wMo cI cZ cJ mo_a mo)) hD hS hA [30, 31, 32, 33, 34, 35, 36, 37, 38, 39, 40, 41, 42, 43, 44, 45] rfl
    refine va_calli (va_runV (As := [.int (xs (i + 1).toNatClampNeg), .int (xs (i + 2).toNatClampNeg), .int (xs (i + 3).toNatClampNeg), .int (xs (i + 4).toNatClampNeg)]) (rest := []) ⟨hx, hb, hml, hown, hts⟩ (k_Model_refined l dC dI cI cZ cJ mo_a H.size hg) (cwV 4 hts (gV t_945 t_946 t_947 t_63 t_948) rfl rfl rfl hd_Model_refined ⟨Nat.le_trans (Nat.le_of_ble_eq_true rfl) hRf, Nat.le_trans (Nat.le_of_ble_eq_true rfl) hRl⟩) ⟨kP_blind, va_recv hK hP (ci := 7) (q0 := 30) rfl rfl, kP_at hPc hK hDc hN⟩ rfl rfl hl.1 rfl (lv_room (Nat.le_of_ble_eq_true rfl)) d_law_538 ⟨by omega, by omega⟩) hS (fun q _ h => hFc q h) hFc (fun r9 u t H1 locs ht hvm hw hB hz1 hk1 hS => ?_)
    rw [hw]
    obtain ⟨hP, hD⟩ := kQ_join (wr := (wSd cI cZ cJ sd_a w_a v_a (wr_a 0) (rd_a 0) (cu_a 0) (sp_a 0) sd ++ wSy cI cZ cJ cu_a cu ++ wSy cI cZ cJ sp_a sp ++ wBr cI cZ cJ w_a w_b w ++ wBr cI cZ cJ v_a v_b v ++ wWr cI cZ cJ wr_a (pb_a 0) wr ++ wRd cI cZ cJ rd_a (pb_a 0) rd ++ wPb cI cZ cJ pb_a w_a v_a pb ++ wOu cI cZ cJ ou_a ou)) (w1 := (wMo cI cZ cJ mo_a mo')) hP hD [30, 31, 32, 33, 34, 35, 36, 37, 38, 39, 40, 41, 42, 43, 44, 45] [0, 1, 2, 3, 4, 5, 6, 7, 8, 9, 10, 11, 12, 13, 14, 15, 16, 17, 18, 19, 20, 21, 22, 23, 24, 25, 26, 27, 28, 29, 46] rfl rfl (by decide) (by decide) ht hk1 hFc hB
    generalize H1 = H at hP hS ⊢
    have hP : va_P (dC, dI) vwCl (wSd cI cZ cJ sd_a w_a v_a (wr_a 0) (rd_a 0) (cu_a 0) (sp_a 0) sd ++ wSy cI cZ cJ cu_a cu ++ wSy cI cZ cJ sp_a sp ++ wBr cI cZ cJ w_a w_b w ++ wBr cI cZ cJ v_a v_b v ++ wWr cI cZ cJ wr_a (pb_a 0) wr ++ wRd cI cZ cJ rd_a (pb_a 0) rd ++ wPb cI cZ cJ pb_a w_a v_a pb ++ wMo cI cZ cJ mo_a mo' ++ wOu cI cZ cJ ou_a ou) H := hP.sub [0, 1, 2, 3, 4, 5, 6, 7, 8, 9, 10, 11, 12, 13, 14, 15, 16, 17, 18, 19, 20, 21, 22, 23, 24, 25, 26, 27, 28, 29, 31, 32, 33, 34, 35, 36, 37, 38, 39, 40, 41, 42, 43, 44, 45, 46, 30] rfl
    have hD : va_D A (wSd cI cZ cJ sd_a w_a v_a (wr_a 0) (rd_a 0) (cu_a 0) (sp_a 0) sd ++ wSy cI cZ cJ cu_a cu ++ wSy cI cZ cJ sp_a sp ++ wBr cI cZ cJ w_a w_b w ++ wBr cI cZ cJ v_a v_b v ++ wWr cI cZ cJ wr_a (pb_a 0) wr ++ wRd cI cZ cJ rd_a (pb_a 0) rd ++ wPb cI cZ cJ pb_a w_a v_a pb ++ wMo cI cZ cJ mo_a mo' ++ wOu cI cZ cJ ou_a ou) := hD.sub [0, 1, 2, 3, 4, 5, 6, 7, 8, 9, 10, 11, 12, 13, 14, 15, 16, 17, 18, 19, 20, 21, 22, 23, 24, 25, 26, 27, 28, 29, 31, 32, 33, 34, 35, 36, 37, 38, 39, 40, 41, 42, 43, 44, 45, 46, 30] (by decide) rfl
    refine lv_istore (lv' := [(6, .int q), (5, .int 3), (0, .ref b), (1, .ref (sd_a 0)), (2, .ref (mo_a 0)), (3, .ref (ou_a 0)), (4, .int i)]) hx hb d_law_541 hl (by decide) rfl (fun ls hl => ?_)
    refine lv_aload_n hx hb d_law_543 rfl (lv_at hl 4 rfl) ?_
    have hth : f_Model_thrown mo' = some (Mo_code mo') := rfl
    have hPc := hP.sub (ws' := (wMo cI cZ cJ mo_a mo')) [30, 31, 32, 33, 34, 35, 36, 37, 38, 39, 40, 41, 42, 43, 44, 45] rfl
    have hDc := hD.sub (ws' := (wMo cI cZ cJ mo_a mo')) [30, 31, 32, 33, 34, 35, 36, 37, 38, 39, 40, 41, 42, 43, 44, 45] (by decide) rfl
    have hFc := va_free (wc := (wMo cI cZ cJ mo_a mo')) hD hS hA [30, 31, 32, 33, 34, 35, 36, 37, 38, 39, 40, 41, 42, 43, 44, 45] rfl
    refine va_calli (va_runV (As := []) (rest := []) ⟨hx, hb, hml, hown, hts⟩ (k_Model_thrown l dC dI cI cZ cJ mo_a H.size hth) (cwV 0 hts (gV t_906 t_907 t_908 t_63 t_909) rfl rfl rfl hd_Model_thrown ⟨Nat.le_trans (Nat.le_of_ble_eq_true rfl) hRf, Nat.le_trans (Nat.le_of_ble_eq_true rfl) hRl⟩) ⟨kP_blind, va_recv hK hP (ci := 7) (q0 := 30) rfl rfl, kP_at hPc hK hDc hN⟩ rfl rfl hl.1 rfl (lv_room (Nat.le_of_ble_eq_true rfl)) d_law_544 ⟨by omega, by omega⟩) hS (fun q _ h => hFc q h) hFc (fun r9 u t H1 locs ht hvm hw hB hz1 hk1 hS => ?_)
    rw [hw]
    obtain ⟨hP, hD⟩ := kQ_join (wr := (wSd cI cZ cJ sd_a w_a v_a (wr_a 0) (rd_a 0) (cu_a 0) (sp_a 0) sd ++ wSy cI cZ cJ cu_a cu ++ wSy cI cZ cJ sp_a sp ++ wBr cI cZ cJ w_a w_b w ++ wBr cI cZ cJ v_a v_b v ++ wWr cI cZ cJ wr_a (pb_a 0) wr ++ wRd cI cZ cJ rd_a (pb_a 0) rd ++ wPb cI cZ cJ pb_a w_a v_a pb ++ wOu cI cZ cJ ou_a ou)) (w1 := (wMo cI cZ cJ mo_a mo')) hP hD [30, 31, 32, 33, 34, 35, 36, 37, 38, 39, 40, 41, 42, 43, 44, 45] [0, 1, 2, 3, 4, 5, 6, 7, 8, 9, 10, 11, 12, 13, 14, 15, 16, 17, 18, 19, 20, 21, 22, 23, 24, 25, 26, 27, 28, 29, 46] rfl rfl (by decide) (by decide) ht hk1 hFc hB
    generalize H1 = H at hP hS ⊢
    have hP : va_P (dC, dI) vwCl (wSd cI cZ cJ sd_a w_a v_a (wr_a 0) (rd_a 0) (cu_a 0) (sp_a 0) sd ++ wSy cI cZ cJ cu_a cu ++ wSy cI cZ cJ sp_a sp ++ wBr cI cZ cJ w_a w_b w ++ wBr cI cZ cJ v_a v_b v ++ wWr cI cZ cJ wr_a (pb_a 0) wr ++ wRd cI cZ cJ rd_a (pb_a 0) rd ++ wPb cI cZ cJ pb_a w_a v_a pb ++ wMo cI cZ cJ mo_a mo' ++ wOu cI cZ cJ ou_a ou) H := hP.sub [0, 1, 2, 3, 4, 5, 6, 7, 8, 9, 10, 11, 12, 13, 14, 15, 16, 17, 18, 19, 20, 21, 22, 23, 24, 25, 26, 27, 28, 29, 31, 32, 33, 34, 35, 36, 37, 38, 39, 40, 41, 42, 43, 44, 45, 46, 30] rfl
    have hD : va_D A (wSd cI cZ cJ sd_a w_a v_a (wr_a 0) (rd_a 0) (cu_a 0) (sp_a 0) sd ++ wSy cI cZ cJ cu_a cu ++ wSy cI cZ cJ sp_a sp ++ wBr cI cZ cJ w_a w_b w ++ wBr cI cZ cJ v_a v_b v ++ wWr cI cZ cJ wr_a (pb_a 0) wr ++ wRd cI cZ cJ rd_a (pb_a 0) rd ++ wPb cI cZ cJ pb_a w_a v_a pb ++ wMo cI cZ cJ mo_a mo' ++ wOu cI cZ cJ ou_a ou) := hD.sub [0, 1, 2, 3, 4, 5, 6, 7, 8, 9, 10, 11, 12, 13, 14, 15, 16, 17, 18, 19, 20, 21, 22, 23, 24, 25, 26, 27, 28, 29, 31, 32, 33, 34, 35, 36, 37, 38, 39, 40, 41, 42, 43, 44, 45, 46, 30] (by decide) rfl
    refine lv_iload hx hb d_law_547 (lv_at hl 1 rfl) ?_
    refine lv_icmp_eq (tgt := 554) hx hb d_law_549 (by decide) (fun _ => ?_) (fun h9 => absurd hcode h9)
    refine lv_iload hx hb d_law_554 (lv_at hl 1 rfl) ?_
    refine lv_if_ne (tgt := 571) hx hb d_law_556 (by decide) (fun _ => ?_) (fun h9 => absurd h9 (by decide))
    refine lv_goto (tgt := 1131) hx hb d_law_571 (by decide) ?_
    have hl := lv_sub (l' := [(0, .ref b), (1, .ref (sd_a 0)), (2, .ref (mo_a 0)), (3, .ref (ou_a 0)), (4, .int i)]) hl [2, 3, 4, 5, 6] rfl
    refine W.widen (k := j + 1 + Br_byL w + Br_byL v) (n := 6 * (j + 1) + 2 * Br_byL w + 2 * Br_byL v) (by omega) (by omega) ?_
    exact hk _ _ _ cu_a sp_a w_b v_b cu sp w v wr rd pb mo' ou hrel hP hD hS hl

set_option maxHeartbeats 8000000 in
set_option maxRecDepth 100000 in
theorem L_P_export {p : Program} {l : Launch} {e : Env} {R : Room} {s : State} {m : MethodId} {args : Array Value} {below : List Frame} {meth : Method} {c : Code} {Q : State → Prop} {A : Nat → Prop} {dC : Nat → ClassId} {dI : Nat → Nat → Nat} {cI cZ cJ : ClassId} {sd_a cu_a sp_a : Nat → Nat} {w_a w_b v_a v_b : Nat} {wr_a rd_a pb_a mo_a ou_a : Nat → Nat} {sd : Sd} {cu sp : Sy} {w v : Br} {wr : Wr} {rd : Rd} {pb : Pb} {mo : Mo} {ou : Ou} {b L : Nat} {xs : Nat → Int32} {i : Int32} {j : Nat} {Rl : Sd → Sy → Sy → Br → Br → Wr → Rd → Pb → Mo → Prop} (hl9 : l.stackTraces = false) (C0 : lcx p c m s args R (dC, dI) (TYS cI cZ cJ) A b L xs i j) (hRb : ∀ sd cu sp w v wr rd pb mo, Rl sd cu sp w v wr rd pb mo → Br_byL w ≤ 40000 ∧ Br_byL v ≤ 40000) (hR0 : Rl sd cu sp w v wr rd pb mo) (hT0 : T_P_export Rl sd cu sp w v wr rd pb mo (xs (i + 1).toNatClampNeg) (zb (xs (i + 2).toNatClampNeg)))
    (hk : ∀ (H : Heap) (locs : List Loc) (ls : Array Slot) (cu_a sp_a : Nat → Nat) (w_b v_b : Nat) (cu sp : Sy) (w v : Br) (wr : Wr) (rd : Rd) (pb : Pb) (mo : Mo) (ou : Ou), Rl sd cu sp w v wr rd pb mo → va_P (dC, dI) vwCl (wSd cI cZ cJ sd_a w_a v_a (wr_a 0) (rd_a 0) (cu_a 0) (sp_a 0) sd ++ wSy cI cZ cJ cu_a cu ++ wSy cI cZ cJ sp_a sp ++ wBr cI cZ cJ w_a w_b w ++ wBr cI cZ cJ v_a v_b v ++ wWr cI cZ cJ wr_a (pb_a 0) wr ++ wRd cI cZ cJ rd_a (pb_a 0) rd ++ wPb cI cZ cJ pb_a w_a v_a pb ++ wMo cI cZ cJ mo_a mo ++ wOu cI cZ cJ ou_a ou) H → va_D A (wSd cI cZ cJ sd_a w_a v_a (wr_a 0) (rd_a 0) (cu_a 0) (sp_a 0) sd ++ wSy cI cZ cJ cu_a cu ++ wSy cI cZ cJ sp_a sp ++ wBr cI cZ cJ w_a w_b w ++ wBr cI cZ cJ v_a v_b v ++ wWr cI cZ cJ wr_a (pb_a 0) wr ++ wRd cI cZ cJ rd_a (pb_a 0) rd ++ wPb cI cZ cJ pb_a w_a v_a pb ++ wMo cI cZ cJ mo_a mo ++ wOu cI cZ cJ ou_a ou) → va_S A s.heap H locs → lv_has ls 7 [(0, .ref b), (1, .ref (sd_a 0)), (2, .ref (mo_a 0)), (3, .ref (ou_a 0)), (4, .int i)] → W p l e R s m args below meth c H locs (j + 1 + Br_byL w + Br_byL v) (6 * (j + 1) + 2 * Br_byL w + 2 * Br_byL v) Q (F0 m 1131 ls []))
    {H : Heap} {locs : List Loc} {ls : Array Slot} (hP : va_P (dC, dI) vwCl (wSd cI cZ cJ sd_a w_a v_a (wr_a 0) (rd_a 0) (cu_a 0) (sp_a 0) sd ++ wSy cI cZ cJ cu_a cu ++ wSy cI cZ cJ sp_a sp ++ wBr cI cZ cJ w_a w_b w ++ wBr cI cZ cJ v_a v_b v ++ wWr cI cZ cJ wr_a (pb_a 0) wr ++ wRd cI cZ cJ rd_a (pb_a 0) rd ++ wPb cI cZ cJ pb_a w_a v_a pb ++ wMo cI cZ cJ mo_a mo ++ wOu cI cZ cJ ou_a ou) H) (hD : va_D A (wSd cI cZ cJ sd_a w_a v_a (wr_a 0) (rd_a 0) (cu_a 0) (sp_a 0) sd ++ wSy cI cZ cJ cu_a cu ++ wSy cI cZ cJ sp_a sp ++ wBr cI cZ cJ w_a w_b w ++ wBr cI cZ cJ v_a v_b v ++ wWr cI cZ cJ wr_a (pb_a 0) wr ++ wRd cI cZ cJ rd_a (pb_a 0) rd ++ wPb cI cZ cJ pb_a w_a v_a pb ++ wMo cI cZ cJ mo_a mo ++ wOu cI cZ cJ ou_a ou)) (hS : va_S A s.heap H locs) (hl : lv_has ls 7 [(0, .ref b), (1, .ref (sd_a 0)), (2, .ref (mo_a 0)), (3, .ref (ou_a 0)), (4, .int i)]) : W p l e R s m args below meth c H locs (j + Br_byL w + Br_byL v) (6 * j + 2 * Br_byL w + 2 * Br_byL v) Q (F0 m 574 ls []) := by
  obtain ⟨hx, hb, hml, hown, hts, hK, hA, hA2, hRf, hRl, hN, hT, hX, hX0, hbl, hin, hj, hRc, hRs⟩ := C0
  have hbA : ¬ A b := fun h => absurd (hA2 b h) (Nat.not_le.mpr hbl)
  obtain ⟨hw0, hv0⟩ := hRb _ _ _ _ _ _ _ _ _ hR0
  unfold T_P_export at hT0
  rcases hT0 with ⟨r, cu', mo', hf, hg, hcode, hrel⟩ | ⟨hf, q, mo', hg, hcode, hrel⟩
  · obtain ⟨ou', heou⟩ : ∃ z : Ou, z = (vp_updL (Ou_f ou) 0 (zl r)) := ⟨_, rfl⟩
    have hf1 : f_Law_export sd cu ou (xs (i + 1).toNatClampNeg) (zb (xs (i + 2).toNatClampNeg)) = some (0, cu', ou') := by
      rw [f_Law_export, hf, bd_s, heou]
      by_cases h9 : r = 0
      · rw [zl, if_pos h9, if_pos h9]; rfl
      · rw [zl, if_neg h9, if_neg h9]; rfl
    have hou : Ou_f ou' (0 : Int32).toNatClampNeg = (zl r) := by rw [heou]; exact updL_at _ _ _
    refine lv_aload_n hx hb d_law_574 rfl (lv_at hl 1 rfl) ?_
    refine lv_aload_n hx hb d_law_575 rfl (lv_at hl 0 rfl) ?_
    refine lv_iload hx hb d_law_576 (lv_at hl 4 rfl) ?_
    refine lv_iconst (v := 1) hx hb d_law_578 (by decide) ?_
    refine lv_iadd hx hb d_law_579 ?_
    refine va_sld hx hb hX0 hbl hbA hS (hin 1 (by decide) (by decide)) d_law_580 ?_
    refine lv_aload_n hx hb d_law_581 rfl (lv_at hl 0 rfl) ?_
    refine lv_iload hx hb d_law_582 (lv_at hl 4 rfl) ?_
    refine lv_iconst (v := 2) hx hb d_law_584 (by decide) ?_
    refine lv_iadd hx hb d_law_585 ?_
    refine va_sld hx hb hX0 hbl hbA hS (hin 2 (by decide) (by decide)) d_law_586 ?_
    refine lw_zb hx hb d_law_587 d_law_590 d_law_591 d_law_594 ?_
    refine lv_aload_n hx hb d_law_595 rfl (lv_at hl 3 rfl) ?_
    have hPc := hP.sub (ws' := (wSd cI cZ cJ sd_a w_a v_a (wr_a 0) (rd_a 0) (cu_a 0) (sp_a 0) sd ++ wSy cI cZ cJ cu_a cu ++ wOu cI cZ cJ ou_a ou)) [0, 1, 2, 3, 4, 5, 6, 7, 8, 9, 10, 45] rfl
    have hDc := hD.sub (ws' := (wSd cI cZ cJ sd_a w_a v_a (wr_a 0) (rd_a 0) (cu_a 0) (sp_a 0) sd ++ wSy cI cZ cJ cu_a cu ++ wOu cI cZ cJ ou_a ou)) [0, 1, 2, 3, 4, 5, 6, 7, 8, 9, 10, 45] (by decide) rfl
    have hFc := va_free (wc := (wSd cI cZ cJ sd_a w_a v_a (wr_a 0) (rd_a 0) (cu_a 0) (sp_a 0) sd ++ wSy cI cZ cJ cu_a cu ++ wOu cI cZ cJ ou_a ou)) hD hS hA [0, 1, 2, 3, 4, 5, 6, 7, 8, 9, 10, 45] rfl
    refine va_calli (w_runS (As := [.ref (sd_a 0), .int (xs (i + 1).toNatClampNeg), .int (zb (xs (i + 2).toNatClampNeg)), .ref (ou_a 0)]) (rest := []) ⟨hx, hb, hml, hown, hts⟩ (k_Law_export l dC dI cI cZ cJ sd_a cu_a ou_a w_a v_a (wr_a 0) (rd_a 0) (sp_a 0) H.size hf1) (cwH_of 4 hts t_734 rfl rfl t_53 t_732 t_733 hd_Law_export.2 ⟨Nat.le_trans (Nat.le_of_ble_eq_true rfl) hRf, Nat.le_trans (Nat.le_of_ble_eq_true rfl) hRl⟩) ⟨kP_blind, kP_at hPc hK hDc hN⟩ rfl rfl hl.1 rfl (lv_room (Nat.le_of_ble_eq_true rfl)) d_law_596 ⟨by omega, by omega⟩) hS (fun q _ h => hFc q h) hFc (fun r9 u t H1 locs ht hvm hw hB hz1 hk1 hS => ?_)
    rw [hw]
    obtain ⟨hP, hD⟩ := kQ_join (wr := (wSy cI cZ cJ sp_a sp ++ wBr cI cZ cJ w_a w_b w ++ wBr cI cZ cJ v_a v_b v ++ wWr cI cZ cJ wr_a (pb_a 0) wr ++ wRd cI cZ cJ rd_a (pb_a 0) rd ++ wPb cI cZ cJ pb_a w_a v_a pb ++ wMo cI cZ cJ mo_a mo)) (w1 := (wSd cI cZ cJ sd_a w_a v_a (wr_a 0) (rd_a 0) (cu_a 0) (sp_a 0) sd ++ wSy cI cZ cJ cu_a cu' ++ wOu cI cZ cJ ou_a ou')) hP hD [0, 1, 2, 3, 4, 5, 6, 7, 8, 9, 10, 45] [11, 12, 13, 14, 15, 16, 17, 18, 19, 20, 21, 22, 23, 24, 25, 26, 27, 28, 29, 30, 31, 32, 33, 34, 35, 36, 37, 38, 39, 40, 41, 42, 43, 44, 46] rfl rfl (by decide) (by decide) ht hk1 hFc hB
    generalize H1 = H at hP hS ⊢
    have hP : va_P (dC, dI) vwCl (wSd cI cZ cJ sd_a w_a v_a (wr_a 0) (rd_a 0) (cu_a 0) (sp_a 0) sd ++ wSy cI cZ cJ cu_a cu' ++ wSy cI cZ cJ sp_a sp ++ wBr cI cZ cJ w_a w_b w ++ wBr cI cZ cJ v_a v_b v ++ wWr cI cZ cJ wr_a (pb_a 0) wr ++ wRd cI cZ cJ rd_a (pb_a 0) rd ++ wPb cI cZ cJ pb_a w_a v_a pb ++ wMo cI cZ cJ mo_a mo ++ wOu cI cZ cJ ou_a ou') H := hP.sub [35, 36, 37, 38, 39, 40, 41, 42, 43, 44, 45, 0, 1, 2, 3, 4, 5, 6, 7, 8, 9, 10, 11, 12, 13, 14, 15, 16, 17, 18, 19, 20, 21, 22, 23, 24, 25, 26, 27, 28, 29, 30, 31, 32, 33, 34, 46] rfl
    have hD : va_D A (wSd cI cZ cJ sd_a w_a v_a (wr_a 0) (rd_a 0) (cu_a 0) (sp_a 0) sd ++ wSy cI cZ cJ cu_a cu' ++ wSy cI cZ cJ sp_a sp ++ wBr cI cZ cJ w_a w_b w ++ wBr cI cZ cJ v_a v_b v ++ wWr cI cZ cJ wr_a (pb_a 0) wr ++ wRd cI cZ cJ rd_a (pb_a 0) rd ++ wPb cI cZ cJ pb_a w_a v_a pb ++ wMo cI cZ cJ mo_a mo ++ wOu cI cZ cJ ou_a ou') := hD.sub [35, 36, 37, 38, 39, 40, 41, 42, 43, 44, 45, 0, 1, 2, 3, 4, 5, 6, 7, 8, 9, 10, 11, 12, 13, 14, 15, 16, 17, 18, 19, 20, 21, 22, 23, 24, 25, 26, 27, 28, 29, 30, 31, 32, 33, 34, 46] (by decide) rfl
    refine lv_istore (lv' := [(5, .int 0), (0, .ref b), (1, .ref (sd_a 0)), (2, .ref (mo_a 0)), (3, .ref (ou_a 0)), (4, .int i)]) hx hb d_law_599 hl (by decide) rfl (fun ls hl => ?_)
    refine lv_aload_n hx hb d_law_601 rfl (lv_at hl 3 rfl) ?_
    refine lv_aload_n hx hb d_law_602 rfl (lv_at hl 1 rfl) ?_
    refine lv_iload hx hb d_law_603 (lv_at hl 5 rfl) ?_
    refine lv_iconst (v := 1) hx hb d_law_605 (by decide) ?_
    refine lv_iadd hx hb d_law_606 ?_
    refine va_sld hx hb hX0 hbl hbA hS (hin 1 (by decide) (by decide)) d_law_607 ?_
    refine lv_aload_n hx hb d_law_608 rfl (lv_at hl 1 rfl) ?_
    refine lv_iload hx hb d_law_609 (lv_at hl 5 rfl) ?_
    refine lv_iconst (v := 2) hx hb d_law_611 (by decide) ?_
    refine lv_iadd hx hb d_law_612 ?_
    refine va_sld hx hb hX0 hbl hbA hS (hin 2 (by decide) (by decide)) d_law_613 ?_
    refine lw_zb hx hb d_law_614 d_law_617 d_law_618 d_law_621 ?_
    have hPc := hP.sub (ws' := (wMo cI cZ cJ mo_a mo)) [30, 31, 32, 33, 34, 35, 36, 37, 38, 39, 40, 41, 42, 43, 44, 45] rfl
    have hDc := hD.sub (ws' := (wMo cI cZ cJ mo_a mo)) [30, 31, 32, 33, 34, 35, 36, 37, 38, 39, 40, 41, 42, 43, 44, 45] (by decide) rfl
    have hFc := va_free (wc := (wMo cI cZ cJ mo_a mo)) hD hS hA [30, 31, 32, 33, 34, 35, 36, 37, 38, 39, 40, 41, 42, 43, 44, 45] rfl
    refine va_calli (va_runV (As := [.int (xs (i + 1).toNatClampNeg), .int (zb (xs (i + 2).toNatClampNeg))]) (rest := []) ⟨hx, hb, hml, hown, hts⟩ (k_Model_export l dC dI cI cZ cJ mo_a H.size hg) (cwV 2 hts (gV t_956 t_957 t_958 t_63 t_959) rfl rfl rfl hd_Model_export ⟨Nat.le_trans (Nat.le_of_ble_eq_true rfl) hRf, Nat.le_trans (Nat.le_of_ble_eq_true rfl) hRl⟩) ⟨kP_blind, va_recv hK hP (ci := 7) (q0 := 30) rfl rfl, kP_at hPc hK hDc hN⟩ rfl rfl hl.1 rfl (lv_room (Nat.le_of_ble_eq_true rfl)) d_law_622 ⟨by omega, by omega⟩) hS (fun q _ h => hFc q h) hFc (fun r9 u t H1 locs ht hvm hw hB hz1 hk1 hS => ?_)
    rw [hw.1]
    obtain ⟨hP, hD⟩ := kQ_join (wr := (wSd cI cZ cJ sd_a w_a v_a (wr_a 0) (rd_a 0) (cu_a 0) (sp_a 0) sd ++ wSy cI cZ cJ cu_a cu' ++ wSy cI cZ cJ sp_a sp ++ wBr cI cZ cJ w_a w_b w ++ wBr cI cZ cJ v_a v_b v ++ wWr cI cZ cJ wr_a (pb_a 0) wr ++ wRd cI cZ cJ rd_a (pb_a 0) rd ++ wPb cI cZ cJ pb_a w_a v_a pb ++ wOu cI cZ cJ ou_a ou')) (w1 := (wMo cI cZ cJ mo_a mo')) hP hD [30, 31, 32, 33, 34, 35, 36, 37, 38, 39, 40, 41, 42, 43, 44, 45] [0, 1, 2, 3, 4, 5, 6, 7, 8, 9, 10, 11, 12, 13, 14, 15, 16, 17, 18, 19, 20, 21, 22, 23, 24, 25, 26, 27, 28, 29, 46] rfl rfl (by decide) (by decide) ht hk1 hFc hB
    generalize H1 = H at hP hS ⊢
    have hP : va_P (dC, dI) vwCl (wSd cI cZ cJ sd_a w_a v_a (wr_a 0) (rd_a 0) (cu_a 0) (sp_a 0) sd ++ wSy cI cZ cJ cu_a cu' ++ wSy cI cZ cJ sp_a sp ++ wBr cI cZ cJ w_a w_b w ++ wBr cI cZ cJ v_a v_b v ++ wWr cI cZ cJ wr_a (pb_a 0) wr ++ wRd cI cZ cJ rd_a (pb_a 0) rd ++ wPb cI cZ cJ pb_a w_a v_a pb ++ wMo cI cZ cJ mo_a mo' ++ wOu cI cZ cJ ou_a ou') H := hP.sub [0, 1, 2, 3, 4, 5, 6, 7, 8, 9, 10, 11, 12, 13, 14, 15, 16, 17, 18, 19, 20, 21, 22, 23, 24, 25, 26, 27, 28, 29, 31, 32, 33, 34, 35, 36, 37, 38, 39, 40, 41, 42, 43, 44, 45, 46, 30] rfl
    have hD : va_D A (wSd cI cZ cJ sd_a w_a v_a (wr_a 0) (rd_a 0) (cu_a 0) (sp_a 0) sd ++ wSy cI cZ cJ cu_a cu' ++ wSy cI cZ cJ sp_a sp ++ wBr cI cZ cJ w_a w_b w ++ wBr cI cZ cJ v_a v_b v ++ wWr cI cZ cJ wr_a (pb_a 0) wr ++ wRd cI cZ cJ rd_a (pb_a 0) rd ++ wPb cI cZ cJ pb_a w_a v_a pb ++ wMo cI cZ cJ mo_a mo' ++ wOu cI cZ cJ ou_a ou') := hD.sub [0, 1, 2, 3, 4, 5, 6, 7, 8, 9, 10, 11, 12, 13, 14, 15, 16, 17, 18, 19, 20, 21, 22, 23, 24, 25, 26, 27, 28, 29, 31, 32, 33, 34, 35, 36, 37, 38, 39, 40, 41, 42, 43, 44, 45, 46, 30] (by decide) rfl
    refine lv_istore (lv' := [(6, .int r), (5, .int 0), (0, .ref b), (1, .ref (sd_a 0)), (2, .ref (mo_a 0)), (3, .ref (ou_a 0)), (4, .int i)]) hx hb d_law_625 hl (by decide) rfl (fun ls hl => ?_)
    refine lv_aload_n hx hb d_law_627 rfl (lv_at hl 4 rfl) ?_
    have hth : f_Model_thrown mo' = some (Mo_code mo') := rfl
    have hPc := hP.sub (ws' := (wMo cI cZ cJ mo_a mo')) [30, 31, 32, 33, 34, 35, 36, 37, 38, 39, 40, 41, 42, 43, 44, 45] rfl
    have hDc := hD.sub (ws' := (wMo cI cZ cJ mo_a mo')) [30, 31, 32, 33, 34, 35, 36, 37, 38, 39, 40, 41, 42, 43, 44, 45] (by decide) rfl
    have hFc := va_free (wc := (wMo cI cZ cJ mo_a mo')) hD hS hA [30, 31, 32, 33, 34, 35, 36, 37, 38, 39, 40, 41, 42, 43, 44, 45] rfl
    refine va_calli (va_runV (As := []) (rest := []) ⟨hx, hb, hml, hown, hts⟩ (k_Model_thrown l dC dI cI cZ cJ mo_a H.size hth) (cwV 0 hts (gV t_906 t_907 t_908 t_63 t_909) rfl rfl rfl hd_Model_thrown ⟨Nat.le_trans (Nat.le_of_ble_eq_true rfl) hRf, Nat.le_trans (Nat.le_of_ble_eq_true rfl) hRl⟩) ⟨kP_blind, va_recv hK hP (ci := 7) (q0 := 30) rfl rfl, kP_at hPc hK hDc hN⟩ rfl rfl hl.1 rfl (lv_room (Nat.le_of_ble_eq_true rfl)) d_law_628 ⟨by omega, by omega⟩) hS (fun q _ h => hFc q h) hFc (fun r9 u t H1 locs ht hvm hw hB hz1 hk1 hS => ?_)
    rw [hw]
    obtain ⟨hP, hD⟩ := kQ_join (wr := (wSd cI cZ cJ sd_a w_a v_a (wr_a 0) (rd_a 0) (cu_a 0) (sp_a 0) sd ++ wSy cI cZ cJ cu_a cu' ++ wSy cI cZ cJ sp_a sp ++ wBr cI cZ cJ w_a w_b w ++ wBr cI cZ cJ v_a v_b v ++ wWr cI cZ cJ wr_a (pb_a 0) wr ++ wRd cI cZ cJ rd_a (pb_a 0) rd ++ wPb cI cZ cJ pb_a w_a v_a pb ++ wOu cI cZ cJ ou_a ou')) (w1 := (wMo cI cZ cJ mo_a mo')) hP hD [30, 31, 32, 33, 34, 35, 36, 37, 38, 39, 40, 41, 42, 43, 44, 45] [0, 1, 2, 3, 4, 5, 6, 7, 8, 9, 10, 11, 12, 13, 14, 15, 16, 17, 18, 19, 20, 21, 22, 23, 24, 25, 26, 27, 28, 29, 46] rfl rfl (by decide) (by decide) ht hk1 hFc hB
    generalize H1 = H at hP hS ⊢
    have hP : va_P (dC, dI) vwCl (wSd cI cZ cJ sd_a w_a v_a (wr_a 0) (rd_a 0) (cu_a 0) (sp_a 0) sd ++ wSy cI cZ cJ cu_a cu' ++ wSy cI cZ cJ sp_a sp ++ wBr cI cZ cJ w_a w_b w ++ wBr cI cZ cJ v_a v_b v ++ wWr cI cZ cJ wr_a (pb_a 0) wr ++ wRd cI cZ cJ rd_a (pb_a 0) rd ++ wPb cI cZ cJ pb_a w_a v_a pb ++ wMo cI cZ cJ mo_a mo' ++ wOu cI cZ cJ ou_a ou') H := hP.sub [0, 1, 2, 3, 4, 5, 6, 7, 8, 9, 10, 11, 12, 13, 14, 15, 16, 17, 18, 19, 20, 21, 22, 23, 24, 25, 26, 27, 28, 29, 31, 32, 33, 34, 35, 36, 37, 38, 39, 40, 41, 42, 43, 44, 45, 46, 30] rfl
    have hD : va_D A (wSd cI cZ cJ sd_a w_a v_a (wr_a 0) (rd_a 0) (cu_a 0) (sp_a 0) sd ++ wSy cI cZ cJ cu_a cu' ++ wSy cI cZ cJ sp_a sp ++ wBr cI cZ cJ w_a w_b w ++ wBr cI cZ cJ v_a v_b v ++ wWr cI cZ cJ wr_a (pb_a 0) wr ++ wRd cI cZ cJ rd_a (pb_a 0) rd ++ wPb cI cZ cJ pb_a w_a v_a pb ++ wMo cI cZ cJ mo_a mo' ++ wOu cI cZ cJ ou_a ou') := hD.sub [0, 1, 2, 3, 4, 5, 6, 7, 8, 9, 10, 11, 12, 13, 14, 15, 16, 17, 18, 19, 20, 21, 22, 23, 24, 25, 26, 27, 28, 29, 31, 32, 33, 34, 35, 36, 37, 38, 39, 40, 41, 42, 43, 44, 45, 46, 30] (by decide) rfl
    refine lv_iload hx hb d_law_631 (lv_at hl 1 rfl) ?_
    refine lv_icmp_eq (tgt := 638) hx hb d_law_633 (by decide) (fun _ => ?_) (fun h9 => absurd hcode h9)
    refine lv_iload hx hb d_law_638 (lv_at hl 1 rfl) ?_
    refine lv_if_ne (tgt := 662) hx hb d_law_640 (by decide) (fun h9 => absurd rfl h9) (fun _ => ?_)
    refine lv_aload_n hx hb d_law_643 rfl (lv_at hl 5 rfl) ?_
    refine lv_iconst (v := 0) hx hb d_law_644 (by decide) ?_
    refine va_lald (f := Ou_f ou') hx hb hK hP 46 2 rfl rfl (inb_in (by decide)) d_law_645 ?_
    refine lv_iload hx hb d_law_646 (lv_at hl 0 rfl) ?_
    refine lw_zl hx hb d_law_648 d_law_651 d_law_652 d_law_655 ?_
    refine W.lcmp hx hb d_law_656 ?_
    refine lv_if_eq (tgt := 662) hx hb d_law_657 (by decide) (fun _ => ?_) (fun h9 => absurd (by rw [hou]; exact cmp_self _) h9)
    refine lv_goto (tgt := 1131) hx hb d_law_662 (by decide) ?_
    have hl := lv_sub (l' := [(0, .ref b), (1, .ref (sd_a 0)), (2, .ref (mo_a 0)), (3, .ref (ou_a 0)), (4, .int i)]) hl [2, 3, 4, 5, 6] rfl
    refine W.widen (k := j + 1 + Br_byL w + Br_byL v) (n := 6 * (j + 1) + 2 * Br_byL w + 2 * Br_byL v) (by omega) (by omega) ?_
    exact hk _ _ _ cu_a sp_a w_b v_b cu' sp w v wr rd pb mo' ou' hrel hP hD hS hl
  · refine lv_aload_n hx hb d_law_574 rfl (lv_at hl 1 rfl) ?_
    refine lv_aload_n hx hb d_law_575 rfl (lv_at hl 0 rfl) ?_
    refine lv_iload hx hb d_law_576 (lv_at hl 4 rfl) ?_
    refine lv_iconst (v := 1) hx hb d_law_578 (by decide) ?_
    refine lv_iadd hx hb d_law_579 ?_
    refine va_sld hx hb hX0 hbl hbA hS (hin 1 (by decide) (by decide)) d_law_580 ?_
    refine lv_aload_n hx hb d_law_581 rfl (lv_at hl 0 rfl) ?_
    refine lv_iload hx hb d_law_582 (lv_at hl 4 rfl) ?_
    refine lv_iconst (v := 2) hx hb d_law_584 (by decide) ?_
    refine lv_iadd hx hb d_law_585 ?_
    refine va_sld hx hb hX0 hbl hbA hS (hin 2 (by decide) (by decide)) d_law_586 ?_
    refine lw_zb hx hb d_law_587 d_law_590 d_law_591 d_law_594 ?_
    refine lv_aload_n hx hb d_law_595 rfl (lv_at hl 3 rfl) ?_
    have hPc := hP.sub (ws' := (wSd cI cZ cJ sd_a w_a v_a (wr_a 0) (rd_a 0) (cu_a 0) (sp_a 0) sd ++ wSy cI cZ cJ cu_a cu ++ wOu cI cZ cJ ou_a ou)) [0, 1, 2, 3, 4, 5, 6, 7, 8, 9, 10, 45] rfl
    have hDc := hD.sub (ws' := (wSd cI cZ cJ sd_a w_a v_a (wr_a 0) (rd_a 0) (cu_a 0) (sp_a 0) sd ++ wSy cI cZ cJ cu_a cu ++ wOu cI cZ cJ ou_a ou)) [0, 1, 2, 3, 4, 5, 6, 7, 8, 9, 10, 45] (by decide) rfl
    have hFc := va_free (wc := (wSd cI cZ cJ sd_a w_a v_a (wr_a 0) (rd_a 0) (cu_a 0) (sp_a 0) sd ++ wSy cI cZ cJ cu_a cu ++ wOu cI cZ cJ ou_a ou)) hD hS hA [0, 1, 2, 3, 4, 5, 6, 7, 8, 9, 10, 45] rfl
    refine va_calli (w_runS (As := [.ref (sd_a 0), .int (xs (i + 1).toNatClampNeg), .int (zb (xs (i + 2).toNatClampNeg)), .ref (ou_a 0)]) (rest := []) ⟨hx, hb, hml, hown, hts⟩ (kx_Law_export_3 l hl9 dC dI cI cZ cJ sd_a cu_a ou_a w_a v_a (wr_a 0) (rd_a 0) (sp_a 0) H.size hf) (cwH_of 4 hts t_734 rfl rfl t_53 t_732 t_733 hd_Law_export.2 ⟨Nat.le_trans (Nat.le_of_ble_eq_true rfl) hRf, Nat.le_trans (Nat.le_of_ble_eq_true rfl) hRl⟩) ⟨kPX_blind, kPX_at hPc hK hDc hN (fun q hq => hS.2.1 q hq (fun h9 => absurd (hA2 q h9) (Nat.not_le.mpr hq))) hT hX⟩ rfl rfl hl.1 rfl (lv_room (Nat.le_of_ble_eq_true rfl)) d_law_596 ⟨by omega, by omega⟩) hS (fun q _ h => hFc q h) hFc (fun r9 u t H1 locs ht hvm hw hB hz1 hk1 hS => ?_)
    rw [hw]
    obtain ⟨hP, hD⟩ := kQ_join (wr := (wSy cI cZ cJ sp_a sp ++ wBr cI cZ cJ w_a w_b w ++ wBr cI cZ cJ v_a v_b v ++ wWr cI cZ cJ wr_a (pb_a 0) wr ++ wRd cI cZ cJ rd_a (pb_a 0) rd ++ wPb cI cZ cJ pb_a w_a v_a pb ++ wMo cI cZ cJ mo_a mo)) (w1 := (wSd cI cZ cJ sd_a w_a v_a (wr_a 0) (rd_a 0) (cu_a 0) (sp_a 0) sd ++ wSy cI cZ cJ cu_a cu ++ wOu cI cZ cJ ou_a ou)) hP hD [0, 1, 2, 3, 4, 5, 6, 7, 8, 9, 10, 45] [11, 12, 13, 14, 15, 16, 17, 18, 19, 20, 21, 22, 23, 24, 25, 26, 27, 28, 29, 30, 31, 32, 33, 34, 35, 36, 37, 38, 39, 40, 41, 42, 43, 44, 46] rfl rfl (by decide) (by decide) ht hk1 hFc hB
    generalize H1 = H at hP hS ⊢
    have hP : va_P (dC, dI) vwCl (wSd cI cZ cJ sd_a w_a v_a (wr_a 0) (rd_a 0) (cu_a 0) (sp_a 0) sd ++ wSy cI cZ cJ cu_a cu ++ wSy cI cZ cJ sp_a sp ++ wBr cI cZ cJ w_a w_b w ++ wBr cI cZ cJ v_a v_b v ++ wWr cI cZ cJ wr_a (pb_a 0) wr ++ wRd cI cZ cJ rd_a (pb_a 0) rd ++ wPb cI cZ cJ pb_a w_a v_a pb ++ wMo cI cZ cJ mo_a mo ++ wOu cI cZ cJ ou_a ou) H := hP.sub [35, 36, 37, 38, 39, 40, 41, 42, 43, 44, 45, 0, 1, 2, 3, 4, 5, 6, 7, 8, 9, 10, 11, 12, 13, 14, 15, 16, 17, 18, 19, 20, 21, 22, 23, 24, 25, 26, 27, 28, 29, 30, 31, 32, 33, 34, 46] rfl
    have hD : va_D A (wSd cI cZ cJ sd_a w_a v_a (wr_a 0) (rd_a 0) (cu_a 0) (sp_a 0) sd ++ wSy cI cZ cJ cu_a cu ++ wSy cI cZ cJ sp_a sp ++ wBr cI cZ cJ w_a w_b w ++ wBr cI cZ cJ v_a v_b v ++ wWr cI cZ cJ wr_a (pb_a 0) wr ++ wRd cI cZ cJ rd_a (pb_a 0) rd ++ wPb cI cZ cJ pb_a w_a v_a pb ++ wMo cI cZ cJ mo_a mo ++ wOu cI cZ cJ ou_a ou) := hD.sub [35, 36, 37, 38, 39, 40, 41, 42, 43, 44, 45, 0, 1, 2, 3, 4, 5, 6, 7, 8, 9, 10, 11, 12, 13, 14, 15, 16, 17, 18, 19, 20, 21, 22, 23, 24, 25, 26, 27, 28, 29, 30, 31, 32, 33, 34, 46] (by decide) rfl
    refine lv_istore (lv' := [(5, .int 1), (0, .ref b), (1, .ref (sd_a 0)), (2, .ref (mo_a 0)), (3, .ref (ou_a 0)), (4, .int i)]) hx hb d_law_599 hl (by decide) rfl (fun ls hl => ?_)
    refine lv_aload_n hx hb d_law_601 rfl (lv_at hl 3 rfl) ?_
    refine lv_aload_n hx hb d_law_602 rfl (lv_at hl 1 rfl) ?_
    refine lv_iload hx hb d_law_603 (lv_at hl 5 rfl) ?_
    refine lv_iconst (v := 1) hx hb d_law_605 (by decide) ?_
    refine lv_iadd hx hb d_law_606 ?_
    refine va_sld hx hb hX0 hbl hbA hS (hin 1 (by decide) (by decide)) d_law_607 ?_
    refine lv_aload_n hx hb d_law_608 rfl (lv_at hl 1 rfl) ?_
    refine lv_iload hx hb d_law_609 (lv_at hl 5 rfl) ?_
    refine lv_iconst (v := 2) hx hb d_law_611 (by decide) ?_
    refine lv_iadd hx hb d_law_612 ?_
    refine va_sld hx hb hX0 hbl hbA hS (hin 2 (by decide) (by decide)) d_law_613 ?_
    refine lw_zb hx hb d_law_614 d_law_617 d_law_618 d_law_621 ?_
    have hPc := hP.sub (ws' := (wMo cI cZ cJ mo_a mo)) [30, 31, 32, 33, 34, 35, 36, 37, 38, 39, 40, 41, 42, 43, 44, 45] rfl
    have hDc := hD.sub (ws' := (wMo cI cZ cJ mo_a mo)) [30, 31, 32, 33, 34, 35, 36, 37, 38, 39, 40, 41, 42, 43, 44, 45] (by decide) rfl
    have hFc := va_free (wc := (wMo cI cZ cJ mo_a mo)) hD hS hA [30, 31, 32, 33, 34, 35, 36, 37, 38, 39, 40, 41, 42, 43, 44, 45] rfl
    refine va_calli (va_runV (As := [.int (xs (i + 1).toNatClampNeg), .int (zb (xs (i + 2).toNatClampNeg))]) (rest := []) ⟨hx, hb, hml, hown, hts⟩ (k_Model_export l dC dI cI cZ cJ mo_a H.size hg) (cwV 2 hts (gV t_956 t_957 t_958 t_63 t_959) rfl rfl rfl hd_Model_export ⟨Nat.le_trans (Nat.le_of_ble_eq_true rfl) hRf, Nat.le_trans (Nat.le_of_ble_eq_true rfl) hRl⟩) ⟨kP_blind, va_recv hK hP (ci := 7) (q0 := 30) rfl rfl, kP_at hPc hK hDc hN⟩ rfl rfl hl.1 rfl (lv_room (Nat.le_of_ble_eq_true rfl)) d_law_622 ⟨by omega, by omega⟩) hS (fun q _ h => hFc q h) hFc (fun r9 u t H1 locs ht hvm hw hB hz1 hk1 hS => ?_)
    rw [hw.1]
    obtain ⟨hP, hD⟩ := kQ_join (wr := (wSd cI cZ cJ sd_a w_a v_a (wr_a 0) (rd_a 0) (cu_a 0) (sp_a 0) sd ++ wSy cI cZ cJ cu_a cu ++ wSy cI cZ cJ sp_a sp ++ wBr cI cZ cJ w_a w_b w ++ wBr cI cZ cJ v_a v_b v ++ wWr cI cZ cJ wr_a (pb_a 0) wr ++ wRd cI cZ cJ rd_a (pb_a 0) rd ++ wPb cI cZ cJ pb_a w_a v_a pb ++ wOu cI cZ cJ ou_a ou)) (w1 := (wMo cI cZ cJ mo_a mo')) hP hD [30, 31, 32, 33, 34, 35, 36, 37, 38, 39, 40, 41, 42, 43, 44, 45] [0, 1, 2, 3, 4, 5, 6, 7, 8, 9, 10, 11, 12, 13, 14, 15, 16, 17, 18, 19, 20, 21, 22, 23, 24, 25, 26, 27, 28, 29, 46] rfl rfl (by decide) (by decide) ht hk1 hFc hB
    generalize H1 = H at hP hS ⊢
    have hP : va_P (dC, dI) vwCl (wSd cI cZ cJ sd_a w_a v_a (wr_a 0) (rd_a 0) (cu_a 0) (sp_a 0) sd ++ wSy cI cZ cJ cu_a cu ++ wSy cI cZ cJ sp_a sp ++ wBr cI cZ cJ w_a w_b w ++ wBr cI cZ cJ v_a v_b v ++ wWr cI cZ cJ wr_a (pb_a 0) wr ++ wRd cI cZ cJ rd_a (pb_a 0) rd ++ wPb cI cZ cJ pb_a w_a v_a pb ++ wMo cI cZ cJ mo_a mo' ++ wOu cI cZ cJ ou_a ou) H := hP.sub [0, 1, 2, 3, 4, 5, 6, 7, 8, 9, 10, 11, 12, 13, 14, 15, 16, 17, 18, 19, 20, 21, 22, 23, 24, 25, 26, 27, 28, 29, 31, 32, 33, 34, 35, 36, 37, 38, 39, 40, 41, 42, 43, 44, 45, 46, 30] rfl
    have hD : va_D A (wSd cI cZ cJ sd_a w_a v_a (wr_a 0) (rd_a 0) (cu_a 0) (sp_a 0) sd ++ wSy cI cZ cJ cu_a cu ++ wSy cI cZ cJ sp_a sp ++ wBr cI cZ cJ w_a w_b w ++ wBr cI cZ cJ v_a v_b v ++ wWr cI cZ cJ wr_a (pb_a 0) wr ++ wRd cI cZ cJ rd_a (pb_a 0) rd ++ wPb cI cZ cJ pb_a w_a v_a pb ++ wMo cI cZ cJ mo_a mo' ++ wOu cI cZ cJ ou_a ou) := hD.sub [0, 1, 2, 3, 4, 5, 6, 7, 8, 9, 10, 11, 12, 13, 14, 15, 16, 17, 18, 19, 20, 21, 22, 23, 24, 25, 26, 27, 28, 29, 31, 32, 33, 34, 35, 36, 37, 38, 39, 40, 41, 42, 43, 44, 45, 46, 30] (by decide) rfl
    refine lv_istore (lv' := [(6, .int q), (5, .int 1), (0, .ref b), (1, .ref (sd_a 0)), (2, .ref (mo_a 0)), (3, .ref (ou_a 0)), (4, .int i)]) hx hb d_law_625 hl (by decide) rfl (fun ls hl => ?_)
    refine lv_aload_n hx hb d_law_627 rfl (lv_at hl 4 rfl) ?_
    have hth : f_Model_thrown mo' = some (Mo_code mo') := rfl
    have hPc := hP.sub (ws' := (wMo cI cZ cJ mo_a mo')) [30, 31, 32, 33, 34, 35, 36, 37, 38, 39, 40, 41, 42, 43, 44, 45] rfl
    have hDc := hD.sub (ws' := (wMo cI cZ cJ mo_a mo')) [30, 31, 32, 33, 34, 35, 36, 37, 38, 39, 40, 41, 42, 43, 44, 45] (by decide) rfl
    have hFc := va_free (wc := (wMo cI cZ cJ mo_a mo')) hD hS hA [30, 31, 32, 33, 34, 35, 36, 37, 38, 39, 40, 41, 42, 43, 44, 45] rfl
    refine va_calli (va_runV (As := []) (rest := []) ⟨hx, hb, hml, hown, hts⟩ (k_Model_thrown l dC dI cI cZ cJ mo_a H.size hth) (cwV 0 hts (gV t_906 t_907 t_908 t_63 t_909) rfl rfl rfl hd_Model_thrown ⟨Nat.le_trans (Nat.le_of_ble_eq_true rfl) hRf, Nat.le_trans (Nat.le_of_ble_eq_true rfl) hRl⟩) ⟨kP_blind, va_recv hK hP (ci := 7) (q0 := 30) rfl rfl, kP_at hPc hK hDc hN⟩ rfl rfl hl.1 rfl (lv_room (Nat.le_of_ble_eq_true rfl)) d_law_628 ⟨by omega, by omega⟩) hS (fun q _ h => hFc q h) hFc (fun r9 u t H1 locs ht hvm hw hB hz1 hk1 hS => ?_)
    rw [hw]
    obtain ⟨hP, hD⟩ := kQ_join (wr := (wSd cI cZ cJ sd_a w_a v_a (wr_a 0) (rd_a 0) (cu_a 0) (sp_a 0) sd ++ wSy cI cZ cJ cu_a cu ++ wSy cI cZ cJ sp_a sp ++ wBr cI cZ cJ w_a w_b w ++ wBr cI cZ cJ v_a v_b v ++ wWr cI cZ cJ wr_a (pb_a 0) wr ++ wRd cI cZ cJ rd_a (pb_a 0) rd ++ wPb cI cZ cJ pb_a w_a v_a pb ++ wOu cI cZ cJ ou_a ou)) (w1 := (wMo cI cZ cJ mo_a mo')) hP hD [30, 31, 32, 33, 34, 35, 36, 37, 38, 39, 40, 41, 42, 43, 44, 45] [0, 1, 2, 3, 4, 5, 6, 7, 8, 9, 10, 11, 12, 13, 14, 15, 16, 17, 18, 19, 20, 21, 22, 23, 24, 25, 26, 27, 28, 29, 46] rfl rfl (by decide) (by decide) ht hk1 hFc hB
    generalize H1 = H at hP hS ⊢
    have hP : va_P (dC, dI) vwCl (wSd cI cZ cJ sd_a w_a v_a (wr_a 0) (rd_a 0) (cu_a 0) (sp_a 0) sd ++ wSy cI cZ cJ cu_a cu ++ wSy cI cZ cJ sp_a sp ++ wBr cI cZ cJ w_a w_b w ++ wBr cI cZ cJ v_a v_b v ++ wWr cI cZ cJ wr_a (pb_a 0) wr ++ wRd cI cZ cJ rd_a (pb_a 0) rd ++ wPb cI cZ cJ pb_a w_a v_a pb ++ wMo cI cZ cJ mo_a mo' ++ wOu cI cZ cJ ou_a ou) H := hP.sub [0, 1, 2, 3, 4, 5, 6, 7, 8, 9, 10, 11, 12, 13, 14, 15, 16, 17, 18, 19, 20, 21, 22, 23, 24, 25, 26, 27, 28, 29, 31, 32, 33, 34, 35, 36, 37, 38, 39, 40, 41, 42, 43, 44, 45, 46, 30] rfl
    have hD : va_D A (wSd cI cZ cJ sd_a w_a v_a (wr_a 0) (rd_a 0) (cu_a 0) (sp_a 0) sd ++ wSy cI cZ cJ cu_a cu ++ wSy cI cZ cJ sp_a sp ++ wBr cI cZ cJ w_a w_b w ++ wBr cI cZ cJ v_a v_b v ++ wWr cI cZ cJ wr_a (pb_a 0) wr ++ wRd cI cZ cJ rd_a (pb_a 0) rd ++ wPb cI cZ cJ pb_a w_a v_a pb ++ wMo cI cZ cJ mo_a mo' ++ wOu cI cZ cJ ou_a ou) := hD.sub [0, 1, 2, 3, 4, 5, 6, 7, 8, 9, 10, 11, 12, 13, 14, 15, 16, 17, 18, 19, 20, 21, 22, 23, 24, 25, 26, 27, 28, 29, 31, 32, 33, 34, 35, 36, 37, 38, 39, 40, 41, 42, 43, 44, 45, 46, 30] (by decide) rfl
    refine lv_iload hx hb d_law_631 (lv_at hl 1 rfl) ?_
    refine lv_icmp_eq (tgt := 638) hx hb d_law_633 (by decide) (fun _ => ?_) (fun h9 => absurd hcode h9)
    refine lv_iload hx hb d_law_638 (lv_at hl 1 rfl) ?_
    refine lv_if_ne (tgt := 662) hx hb d_law_640 (by decide) (fun _ => ?_) (fun h9 => absurd h9 (by decide))
    refine lv_goto (tgt := 1131) hx hb d_law_662 (by decide) ?_
    have hl := lv_sub (l' := [(0, .ref b), (1, .ref (sd_a 0)), (2, .ref (mo_a 0)), (3, .ref (ou_a 0)), (4, .int i)]) hl [2, 3, 4, 5, 6] rfl
    refine W.widen (k := j + 1 + Br_byL w + Br_byL v) (n := 6 * (j + 1) + 2 * Br_byL w + 2 * Br_byL v) (by omega) (by omega) ?_
    exact hk _ _ _ cu_a sp_a w_b v_b cu sp w v wr rd pb mo' ou hrel hP hD hS hl

set_option maxHeartbeats 8000000 in
set_option maxRecDepth 100000 in
theorem L_P_write {p : Program} {l : Launch} {e : Env} {R : Room} {s : State} {m : MethodId} {args : Array Value} {below : List Frame} {meth : Method} {c : Code} {Q : State → Prop} {A : Nat → Prop} {dC : Nat → ClassId} {dI : Nat → Nat → Nat} {cI cZ cJ : ClassId} {sd_a cu_a sp_a : Nat → Nat} {w_a w_b v_a v_b : Nat} {wr_a rd_a pb_a mo_a ou_a : Nat → Nat} {sd : Sd} {cu sp : Sy} {w v : Br} {wr : Wr} {rd : Rd} {pb : Pb} {mo : Mo} {ou : Ou} {b L : Nat} {xs : Nat → Int32} {i : Int32} {j : Nat} {Rl : Sd → Sy → Sy → Br → Br → Wr → Rd → Pb → Mo → Prop} (hl9 : l.stackTraces = false) (C0 : lcx p c m s args R (dC, dI) (TYS cI cZ cJ) A b L xs i j) (hRb : ∀ sd cu sp w v wr rd pb mo, Rl sd cu sp w v wr rd pb mo → Br_byL w ≤ 40000 ∧ Br_byL v ≤ 40000) (hR0 : Rl sd cu sp w v wr rd pb mo) (hT0 : T_P_write Rl sd cu sp w v wr rd pb mo)
    (hk : ∀ (H : Heap) (locs : List Loc) (ls : Array Slot) (cu_a sp_a : Nat → Nat) (w_b v_b : Nat) (cu sp : Sy) (w v : Br) (wr : Wr) (rd : Rd) (pb : Pb) (mo : Mo) (ou : Ou), Rl sd cu sp w v wr rd pb mo → va_P (dC, dI) vwCl (wSd cI cZ cJ sd_a w_a v_a (wr_a 0) (rd_a 0) (cu_a 0) (sp_a 0) sd ++ wSy cI cZ cJ cu_a cu ++ wSy cI cZ cJ sp_a sp ++ wBr cI cZ cJ w_a w_b w ++ wBr cI cZ cJ v_a v_b v ++ wWr cI cZ cJ wr_a (pb_a 0) wr ++ wRd cI cZ cJ rd_a (pb_a 0) rd ++ wPb cI cZ cJ pb_a w_a v_a pb ++ wMo cI cZ cJ mo_a mo ++ wOu cI cZ cJ ou_a ou) H → va_D A (wSd cI cZ cJ sd_a w_a v_a (wr_a 0) (rd_a 0) (cu_a 0) (sp_a 0) sd ++ wSy cI cZ cJ cu_a cu ++ wSy cI cZ cJ sp_a sp ++ wBr cI cZ cJ w_a w_b w ++ wBr cI cZ cJ v_a v_b v ++ wWr cI cZ cJ wr_a (pb_a 0) wr ++ wRd cI cZ cJ rd_a (pb_a 0) rd ++ wPb cI cZ cJ pb_a w_a v_a pb ++ wMo cI cZ cJ mo_a mo ++ wOu cI cZ cJ ou_a ou) → va_S A s.heap H locs → lv_has ls 7 [(0, .ref b), (1, .ref (sd_a 0)), (2, .ref (mo_a 0)), (3, .ref (ou_a 0)), (4, .int i)] → W p l e R s m args below meth c H locs (j + 1 + Br_byL w + Br_byL v) (6 * (j + 1) + 2 * Br_byL w + 2 * Br_byL v) Q (F0 m 1131 ls []))
    {H : Heap} {locs : List Loc} {ls : Array Slot} (hP : va_P (dC, dI) vwCl (wSd cI cZ cJ sd_a w_a v_a (wr_a 0) (rd_a 0) (cu_a 0) (sp_a 0) sd ++ wSy cI cZ cJ cu_a cu ++ wSy cI cZ cJ sp_a sp ++ wBr cI cZ cJ w_a w_b w ++ wBr cI cZ cJ v_a v_b v ++ wWr cI cZ cJ wr_a (pb_a 0) wr ++ wRd cI cZ cJ rd_a (pb_a 0) rd ++ wPb cI cZ cJ pb_a w_a v_a pb ++ wMo cI cZ cJ mo_a mo ++ wOu cI cZ cJ ou_a ou) H) (hD : va_D A (wSd cI cZ cJ sd_a w_a v_a (wr_a 0) (rd_a 0) (cu_a 0) (sp_a 0) sd ++ wSy cI cZ cJ cu_a cu ++ wSy cI cZ cJ sp_a sp ++ wBr cI cZ cJ w_a w_b w ++ wBr cI cZ cJ v_a v_b v ++ wWr cI cZ cJ wr_a (pb_a 0) wr ++ wRd cI cZ cJ rd_a (pb_a 0) rd ++ wPb cI cZ cJ pb_a w_a v_a pb ++ wMo cI cZ cJ mo_a mo ++ wOu cI cZ cJ ou_a ou)) (hS : va_S A s.heap H locs) (hl : lv_has ls 7 [(0, .ref b), (1, .ref (sd_a 0)), (2, .ref (mo_a 0)), (3, .ref (ou_a 0)), (4, .int i)]) : W p l e R s m args below meth c H locs (j + Br_byL w + Br_byL v) (6 * j + 2 * Br_byL w + 2 * Br_byL v) Q (F0 m 665 ls []) := by
  obtain ⟨hx, hb, hml, hown, hts, hK, hA, hA2, hRf, hRl, hN, hT, hX, hX0, hbl, hin, hj, hRc, hRs⟩ := C0
  have hbA : ¬ A b := fun h => absurd (hA2 b h) (Nat.not_le.mpr hbl)
  obtain ⟨hw0, hv0⟩ := hRb _ _ _ _ _ _ _ _ _ hR0
  unfold T_P_write at hT0
  obtain ⟨r, wr', pb', w', mo', hf, hg, hrel⟩ := hT0
  have hm0 := mo_P_SD_write _ hf
  try dsimp only at hm0
  have hb9 := (hRb _ _ _ _ _ _ _ _ _ hrel).1
  refine lv_aload_n hx hb d_law_665 rfl (lv_at hl 1 rfl) ?_
  have hPc := hP.sub (ws' := (wSd cI cZ cJ sd_a w_a v_a (wr_a 0) (rd_a 0) (cu_a 0) (sp_a 0) sd ++ wWr cI cZ cJ wr_a (pb_a 0) wr ++ wPb cI cZ cJ pb_a w_a v_a pb ++ wBr cI cZ cJ w_a w_b w ++ wSy cI cZ cJ cu_a cu)) [0, 25, 26, 27, 29, 21, 22, 1, 2, 3, 4, 5, 6, 7, 8, 9, 10] rfl
  have hDc := hD.sub (ws' := (wSd cI cZ cJ sd_a w_a v_a (wr_a 0) (rd_a 0) (cu_a 0) (sp_a 0) sd ++ wWr cI cZ cJ wr_a (pb_a 0) wr ++ wPb cI cZ cJ pb_a w_a v_a pb ++ wBr cI cZ cJ w_a w_b w ++ wSy cI cZ cJ cu_a cu)) [0, 25, 26, 27, 29, 21, 22, 1, 2, 3, 4, 5, 6, 7, 8, 9, 10] (by decide) rfl
  have hFc := va_free (wc := (wSd cI cZ cJ sd_a w_a v_a (wr_a 0) (rd_a 0) (cu_a 0) (sp_a 0) sd ++ wWr cI cZ cJ wr_a (pb_a 0) wr ++ wPb cI cZ cJ pb_a w_a v_a pb ++ wBr cI cZ cJ w_a w_b w ++ wSy cI cZ cJ cu_a cu)) hD hS hA [0, 25, 26, 27, 29, 21, 22, 1, 2, 3, 4, 5, 6, 7, 8, 9, 10] rfl
  refine va_calli (va_runV (As := []) (rest := []) ⟨hx, hb, hml, hown, hts⟩ (k_P_SD_write l dC dI cI cZ cJ sd_a wr_a pb_a w_a w_b cu_a v_a (rd_a 0) (sp_a 0) H.size hf) (cwV 0 hts (gV t_280 t_281 t_282 t_54 t_283) rfl rfl rfl hd_SD_write ⟨Nat.le_trans (Nat.le_of_ble_eq_true rfl) hRf, Nat.le_trans (Nat.le_of_ble_eq_true rfl) hRl⟩) ⟨kP_blind, va_recv hK hP (ci := 6) (q0 := 0) rfl rfl, kP_at hPc hK hDc hN⟩ rfl rfl hl.1 rfl (lv_room (Nat.le_of_ble_eq_true rfl)) d_law_666 ⟨by omega, by omega⟩) hS (fun q _ h => hFc q h) hFc (fun r9 w_q1 t H1 locs ht hvm hw hB hz1 hk1 hS => ?_)
  rw [hw]
  obtain ⟨hP, hD⟩ := kQ_join (wr := (wSy cI cZ cJ sp_a sp ++ wBr cI cZ cJ v_a v_b v ++ wRd cI cZ cJ rd_a (pb_a 0) rd ++ wMo cI cZ cJ mo_a mo ++ wOu cI cZ cJ ou_a ou)) (w1 := (wSd cI cZ cJ sd_a w_a v_a (wr_a 0) (rd_a 0) (cu_a 0) (sp_a 0) sd ++ wWr cI cZ cJ wr_a (pb_a 0) wr' ++ wPb cI cZ cJ pb_a w_a v_a pb' ++ wBr cI cZ cJ w_a w_q1 w' ++ wSy cI cZ cJ cu_a cu)) hP hD [0, 25, 26, 27, 29, 21, 22, 1, 2, 3, 4, 5, 6, 7, 8, 9, 10] [11, 12, 13, 14, 15, 16, 17, 18, 19, 20, 23, 24, 28, 30, 31, 32, 33, 34, 35, 36, 37, 38, 39, 40, 41, 42, 43, 44, 45, 46] rfl rfl (by decide) (by decide) ht hk1 hFc hB
  generalize H1 = H at hP hS ⊢
  have hP : va_P (dC, dI) vwCl (wSd cI cZ cJ sd_a w_a v_a (wr_a 0) (rd_a 0) (cu_a 0) (sp_a 0) sd ++ wSy cI cZ cJ cu_a cu ++ wSy cI cZ cJ sp_a sp ++ wBr cI cZ cJ w_a w_q1 w' ++ wBr cI cZ cJ v_a v_b v ++ wWr cI cZ cJ wr_a (pb_a 0) wr' ++ wRd cI cZ cJ rd_a (pb_a 0) rd ++ wPb cI cZ cJ pb_a w_a v_a pb' ++ wMo cI cZ cJ mo_a mo ++ wOu cI cZ cJ ou_a ou) H := hP.sub [30, 37, 38, 39, 40, 41, 42, 43, 44, 45, 46, 0, 1, 2, 3, 4, 5, 6, 7, 8, 9, 35, 36, 10, 11, 31, 32, 33, 12, 34, 13, 14, 15, 16, 17, 18, 19, 20, 21, 22, 23, 24, 25, 26, 27, 28, 29] rfl
  have hD : va_D A (wSd cI cZ cJ sd_a w_a v_a (wr_a 0) (rd_a 0) (cu_a 0) (sp_a 0) sd ++ wSy cI cZ cJ cu_a cu ++ wSy cI cZ cJ sp_a sp ++ wBr cI cZ cJ w_a w_q1 w' ++ wBr cI cZ cJ v_a v_b v ++ wWr cI cZ cJ wr_a (pb_a 0) wr' ++ wRd cI cZ cJ rd_a (pb_a 0) rd ++ wPb cI cZ cJ pb_a w_a v_a pb' ++ wMo cI cZ cJ mo_a mo ++ wOu cI cZ cJ ou_a ou) := hD.sub [30, 37, 38, 39, 40, 41, 42, 43, 44, 45, 46, 0, 1, 2, 3, 4, 5, 6, 7, 8, 9, 35, 36, 10, 11, 31, 32, 33, 12, 34, 13, 14, 15, 16, 17, 18, 19, 20, 21, 22, 23, 24, 25, 26, 27, 28, 29] (by decide) rfl
  refine lv_aload_n hx hb d_law_669 rfl (lv_at hl 2 rfl) ?_
  have hPc := hP.sub (ws' := (wMo cI cZ cJ mo_a mo)) [30, 31, 32, 33, 34, 35, 36, 37, 38, 39, 40, 41, 42, 43, 44, 45] rfl
  have hDc := hD.sub (ws' := (wMo cI cZ cJ mo_a mo)) [30, 31, 32, 33, 34, 35, 36, 37, 38, 39, 40, 41, 42, 43, 44, 45] (by decide) rfl
  have hFc := va_free (wc := (wMo cI cZ cJ mo_a mo)) hD hS hA [30, 31, 32, 33, 34, 35, 36, 37, 38, 39, 40, 41, 42, 43, 44, 45] rfl
  refine va_calli (va_runV (As := []) (rest := [.int r]) ⟨hx, hb, hml, hown, hts⟩ (k_Model_write l dC dI cI cZ cJ mo_a H.size hg) (cwV 0 hts (gV t_960 t_961 t_962 t_63 t_963) rfl rfl rfl hd_Model_write ⟨Nat.le_trans (Nat.le_of_ble_eq_true rfl) hRf, Nat.le_trans (Nat.le_of_ble_eq_true rfl) hRl⟩) ⟨kP_blind, va_recv hK hP (ci := 7) (q0 := 30) rfl rfl, kP_at hPc hK hDc hN⟩ rfl rfl hl.1 rfl (lv_room (Nat.le_of_ble_eq_true rfl)) d_law_670 ⟨by omega, by omega⟩) hS (fun q _ h => hFc q h) hFc (fun r9 u t H1 locs ht hvm hw hB hz1 hk1 hS => ?_)
  rw [hw]
  obtain ⟨hP, hD⟩ := kQ_join (wr := (wSd cI cZ cJ sd_a w_a v_a (wr_a 0) (rd_a 0) (cu_a 0) (sp_a 0) sd ++ wSy cI cZ cJ cu_a cu ++ wSy cI cZ cJ sp_a sp ++ wBr cI cZ cJ w_a w_q1 w' ++ wBr cI cZ cJ v_a v_b v ++ wWr cI cZ cJ wr_a (pb_a 0) wr' ++ wRd cI cZ cJ rd_a (pb_a 0) rd ++ wPb cI cZ cJ pb_a w_a v_a pb' ++ wOu cI cZ cJ ou_a ou)) (w1 := (wMo cI cZ cJ mo_a mo')) hP hD [30, 31, 32, 33, 34, 35, 36, 37, 38, 39, 40, 41, 42, 43, 44, 45] [0, 1, 2, 3, 4, 5, 6, 7, 8, 9, 10, 11, 12, 13, 14, 15, 16, 17, 18, 19, 20, 21, 22, 23, 24, 25, 26, 27, 28, 29, 46] rfl rfl (by decide) (by decide) ht hk1 hFc hB
  generalize H1 = H at hP hS ⊢
  have hP : va_P (dC, dI) vwCl (wSd cI cZ cJ sd_a w_a v_a (wr_a 0) (rd_a 0) (cu_a 0) (sp_a 0) sd ++ wSy cI cZ cJ cu_a cu ++ wSy cI cZ cJ sp_a sp ++ wBr cI cZ cJ w_a w_q1 w' ++ wBr cI cZ cJ v_a v_b v ++ wWr cI cZ cJ wr_a (pb_a 0) wr' ++ wRd cI cZ cJ rd_a (pb_a 0) rd ++ wPb cI cZ cJ pb_a w_a v_a pb' ++ wMo cI cZ cJ mo_a mo' ++ wOu cI cZ cJ ou_a ou) H := hP.sub [0, 1, 2, 3, 4, 5, 6, 7, 8, 9, 10, 11, 12, 13, 14, 15, 16, 17, 18, 19, 20, 21, 22, 23, 24, 25, 26, 27, 28, 29, 31, 32, 33, 34, 35, 36, 37, 38, 39, 40, 41, 42, 43, 44, 45, 46, 30] rfl
  have hD : va_D A (wSd cI cZ cJ sd_a w_a v_a (wr_a 0) (rd_a 0) (cu_a 0) (sp_a 0) sd ++ wSy cI cZ cJ cu_a cu ++ wSy cI cZ cJ sp_a sp ++ wBr cI cZ cJ w_a w_q1 w' ++ wBr cI cZ cJ v_a v_b v ++ wWr cI cZ cJ wr_a (pb_a 0) wr' ++ wRd cI cZ cJ rd_a (pb_a 0) rd ++ wPb cI cZ cJ pb_a w_a v_a pb' ++ wMo cI cZ cJ mo_a mo' ++ wOu cI cZ cJ ou_a ou) := hD.sub [0, 1, 2, 3, 4, 5, 6, 7, 8, 9, 10, 11, 12, 13, 14, 15, 16, 17, 18, 19, 20, 21, 22, 23, 24, 25, 26, 27, 28, 29, 31, 32, 33, 34, 35, 36, 37, 38, 39, 40, 41, 42, 43, 44, 45, 46, 30] (by decide) rfl
  refine lv_icmp_eq (tgt := 1131) hx hb d_law_673 (by decide) (fun _ => ?_) (fun h9 => absurd rfl h9)
  have hl := lv_sub (l' := [(0, .ref b), (1, .ref (sd_a 0)), (2, .ref (mo_a 0)), (3, .ref (ou_a 0)), (4, .int i)]) hl [0, 1, 2, 3, 4] rfl
  refine W.widen (k := j + 1 + Br_byL w' + Br_byL v) (n := 6 * (j + 1) + 2 * Br_byL w' + 2 * Br_byL v) (by omega) (by omega) ?_
  exact hk _ _ _ cu_a sp_a w_q1 v_b cu sp w' v wr' rd pb' mo' ou hrel hP hD hS hl

set_option maxHeartbeats 8000000 in
set_option maxRecDepth 100000 in
theorem L_P_byteAt {p : Program} {l : Launch} {e : Env} {R : Room} {s : State} {m : MethodId} {args : Array Value} {below : List Frame} {meth : Method} {c : Code} {Q : State → Prop} {A : Nat → Prop} {dC : Nat → ClassId} {dI : Nat → Nat → Nat} {cI cZ cJ : ClassId} {sd_a cu_a sp_a : Nat → Nat} {w_a w_b v_a v_b : Nat} {wr_a rd_a pb_a mo_a ou_a : Nat → Nat} {sd : Sd} {cu sp : Sy} {w v : Br} {wr : Wr} {rd : Rd} {pb : Pb} {mo : Mo} {ou : Ou} {b L : Nat} {xs : Nat → Int32} {i : Int32} {j : Nat} {Rl : Sd → Sy → Sy → Br → Br → Wr → Rd → Pb → Mo → Prop} (hl9 : l.stackTraces = false) (C0 : lcx p c m s args R (dC, dI) (TYS cI cZ cJ) A b L xs i j) (hRb : ∀ sd cu sp w v wr rd pb mo, Rl sd cu sp w v wr rd pb mo → Br_byL w ≤ 40000 ∧ Br_byL v ≤ 40000) (hR0 : Rl sd cu sp w v wr rd pb mo) (hT0 : T_P_byteAt Rl sd cu sp w v wr rd pb mo (xs (i + 1).toNatClampNeg))
    (hk : ∀ (H : Heap) (locs : List Loc) (ls : Array Slot) (cu_a sp_a : Nat → Nat) (w_b v_b : Nat) (cu sp : Sy) (w v : Br) (wr : Wr) (rd : Rd) (pb : Pb) (mo : Mo) (ou : Ou), Rl sd cu sp w v wr rd pb mo → va_P (dC, dI) vwCl (wSd cI cZ cJ sd_a w_a v_a (wr_a 0) (rd_a 0) (cu_a 0) (sp_a 0) sd ++ wSy cI cZ cJ cu_a cu ++ wSy cI cZ cJ sp_a sp ++ wBr cI cZ cJ w_a w_b w ++ wBr cI cZ cJ v_a v_b v ++ wWr cI cZ cJ wr_a (pb_a 0) wr ++ wRd cI cZ cJ rd_a (pb_a 0) rd ++ wPb cI cZ cJ pb_a w_a v_a pb ++ wMo cI cZ cJ mo_a mo ++ wOu cI cZ cJ ou_a ou) H → va_D A (wSd cI cZ cJ sd_a w_a v_a (wr_a 0) (rd_a 0) (cu_a 0) (sp_a 0) sd ++ wSy cI cZ cJ cu_a cu ++ wSy cI cZ cJ sp_a sp ++ wBr cI cZ cJ w_a w_b w ++ wBr cI cZ cJ v_a v_b v ++ wWr cI cZ cJ wr_a (pb_a 0) wr ++ wRd cI cZ cJ rd_a (pb_a 0) rd ++ wPb cI cZ cJ pb_a w_a v_a pb ++ wMo cI cZ cJ mo_a mo ++ wOu cI cZ cJ ou_a ou) → va_S A s.heap H locs → lv_has ls 7 [(0, .ref b), (1, .ref (sd_a 0)), (2, .ref (mo_a 0)), (3, .ref (ou_a 0)), (4, .int i)] → W p l e R s m args below meth c H locs (j + 1 + Br_byL w + Br_byL v) (6 * (j + 1) + 2 * Br_byL w + 2 * Br_byL v) Q (F0 m 1131 ls []))
    {H : Heap} {locs : List Loc} {ls : Array Slot} (hP : va_P (dC, dI) vwCl (wSd cI cZ cJ sd_a w_a v_a (wr_a 0) (rd_a 0) (cu_a 0) (sp_a 0) sd ++ wSy cI cZ cJ cu_a cu ++ wSy cI cZ cJ sp_a sp ++ wBr cI cZ cJ w_a w_b w ++ wBr cI cZ cJ v_a v_b v ++ wWr cI cZ cJ wr_a (pb_a 0) wr ++ wRd cI cZ cJ rd_a (pb_a 0) rd ++ wPb cI cZ cJ pb_a w_a v_a pb ++ wMo cI cZ cJ mo_a mo ++ wOu cI cZ cJ ou_a ou) H) (hD : va_D A (wSd cI cZ cJ sd_a w_a v_a (wr_a 0) (rd_a 0) (cu_a 0) (sp_a 0) sd ++ wSy cI cZ cJ cu_a cu ++ wSy cI cZ cJ sp_a sp ++ wBr cI cZ cJ w_a w_b w ++ wBr cI cZ cJ v_a v_b v ++ wWr cI cZ cJ wr_a (pb_a 0) wr ++ wRd cI cZ cJ rd_a (pb_a 0) rd ++ wPb cI cZ cJ pb_a w_a v_a pb ++ wMo cI cZ cJ mo_a mo ++ wOu cI cZ cJ ou_a ou)) (hS : va_S A s.heap H locs) (hl : lv_has ls 7 [(0, .ref b), (1, .ref (sd_a 0)), (2, .ref (mo_a 0)), (3, .ref (ou_a 0)), (4, .int i)]) : W p l e R s m args below meth c H locs (j + Br_byL w + Br_byL v) (6 * j + 2 * Br_byL w + 2 * Br_byL v) Q (F0 m 678 ls []) := by
  obtain ⟨hx, hb, hml, hown, hts, hK, hA, hA2, hRf, hRl, hN, hT, hX, hX0, hbl, hin, hj, hRc, hRs⟩ := C0
  have hbA : ¬ A b := fun h => absurd (hA2 b h) (Nat.not_le.mpr hbl)
  obtain ⟨hw0, hv0⟩ := hRb _ _ _ _ _ _ _ _ _ hR0
  unfold T_P_byteAt at hT0
  rcases hT0 with ⟨r, mo', hf, hg, hcode, hrel⟩ | ⟨hf, q, mo', hg, hcode, hrel⟩
  · obtain ⟨ou', heou⟩ : ∃ z : Ou, z = (vp_updL (Ou_f ou) 0 r.toInt64) := ⟨_, rfl⟩
    have hf1 : f_Law_byteAt sd w ou (xs (i + 1).toNatClampNeg) = some (0, ou') := by
      rw [f_Law_byteAt, hf, bd_s, heou]
      rfl
    have hou : Ou_f ou' (0 : Int32).toNatClampNeg = r.toInt64 := by rw [heou]; exact updL_at _ _ _
    refine lv_aload_n hx hb d_law_678 rfl (lv_at hl 1 rfl) ?_
    refine lv_aload_n hx hb d_law_679 rfl (lv_at hl 0 rfl) ?_
    refine lv_iload hx hb d_law_680 (lv_at hl 4 rfl) ?_
    refine lv_iconst (v := 1) hx hb d_law_682 (by decide) ?_
    refine lv_iadd hx hb d_law_683 ?_
    refine va_sld hx hb hX0 hbl hbA hS (hin 1 (by decide) (by decide)) d_law_684 ?_
    refine lv_aload_n hx hb d_law_685 rfl (lv_at hl 3 rfl) ?_
    have hPc := hP.sub (ws' := (wSd cI cZ cJ sd_a w_a v_a (wr_a 0) (rd_a 0) (cu_a 0) (sp_a 0) sd ++ wBr cI cZ cJ w_a w_b w ++ wOu cI cZ cJ ou_a ou)) [0, 21, 22, 45] rfl
    have hDc := hD.sub (ws' := (wSd cI cZ cJ sd_a w_a v_a (wr_a 0) (rd_a 0) (cu_a 0) (sp_a 0) sd ++ wBr cI cZ cJ w_a w_b w ++ wOu cI cZ cJ ou_a ou)) [0, 21, 22, 45] (by decide) rfl
    have hFc := va_free (wc := (wSd cI cZ cJ sd_a w_a v_a (wr_a 0) (rd_a 0) (cu_a 0) (sp_a 0) sd ++ wBr cI cZ cJ w_a w_b w ++ wOu cI cZ cJ ou_a ou)) hD hS hA [0, 21, 22, 45] rfl
    refine va_calli (w_runS (As := [.ref (sd_a 0), .int (xs (i + 1).toNatClampNeg), .ref (ou_a 0)]) (rest := []) ⟨hx, hb, hml, hown, hts⟩ (k_Law_byteAt l dC dI cI cZ cJ sd_a w_a w_b ou_a v_a (wr_a 0) (rd_a 0) (cu_a 0) (sp_a 0) H.size hf1) (cwH_of 3 hts t_741 rfl rfl t_53 t_739 t_740 hd_Law_byteAt.2 ⟨Nat.le_trans (Nat.le_of_ble_eq_true rfl) hRf, Nat.le_trans (Nat.le_of_ble_eq_true rfl) hRl⟩) ⟨kP_blind, kP_at hPc hK hDc hN⟩ rfl rfl hl.1 rfl (lv_room (Nat.le_of_ble_eq_true rfl)) d_law_686 ⟨by omega, by omega⟩) hS (fun q _ h => hFc q h) hFc (fun r9 u t H1 locs ht hvm hw hB hz1 hk1 hS => ?_)
    rw [hw]
    obtain ⟨hP, hD⟩ := kQ_join (wr := (wSy cI cZ cJ cu_a cu ++ wSy cI cZ cJ sp_a sp ++ wBr cI cZ cJ v_a v_b v ++ wWr cI cZ cJ wr_a (pb_a 0) wr ++ wRd cI cZ cJ rd_a (pb_a 0) rd ++ wPb cI cZ cJ pb_a w_a v_a pb ++ wMo cI cZ cJ mo_a mo)) (w1 := (wSd cI cZ cJ sd_a w_a v_a (wr_a 0) (rd_a 0) (cu_a 0) (sp_a 0) sd ++ wBr cI cZ cJ w_a w_b w ++ wOu cI cZ cJ ou_a ou')) hP hD [0, 21, 22, 45] [1, 2, 3, 4, 5, 6, 7, 8, 9, 10, 11, 12, 13, 14, 15, 16, 17, 18, 19, 20, 23, 24, 25, 26, 27, 28, 29, 30, 31, 32, 33, 34, 35, 36, 37, 38, 39, 40, 41, 42, 43, 44, 46] rfl rfl (by decide) (by decide) ht hk1 hFc hB
    generalize H1 = H at hP hS ⊢
    have hP : va_P (dC, dI) vwCl (wSd cI cZ cJ sd_a w_a v_a (wr_a 0) (rd_a 0) (cu_a 0) (sp_a 0) sd ++ wSy cI cZ cJ cu_a cu ++ wSy cI cZ cJ sp_a sp ++ wBr cI cZ cJ w_a w_b w ++ wBr cI cZ cJ v_a v_b v ++ wWr cI cZ cJ wr_a (pb_a 0) wr ++ wRd cI cZ cJ rd_a (pb_a 0) rd ++ wPb cI cZ cJ pb_a w_a v_a pb ++ wMo cI cZ cJ mo_a mo ++ wOu cI cZ cJ ou_a ou') H := hP.sub [43, 0, 1, 2, 3, 4, 5, 6, 7, 8, 9, 10, 11, 12, 13, 14, 15, 16, 17, 18, 19, 44, 45, 20, 21, 22, 23, 24, 25, 26, 27, 28, 29, 30, 31, 32, 33, 34, 35, 36, 37, 38, 39, 40, 41, 42, 46] rfl
    have hD : va_D A (wSd cI cZ cJ sd_a w_a v_a (wr_a 0) (rd_a 0) (cu_a 0) (sp_a 0) sd ++ wSy cI cZ cJ cu_a cu ++ wSy cI cZ cJ sp_a sp ++ wBr cI cZ cJ w_a w_b w ++ wBr cI cZ cJ v_a v_b v ++ wWr cI cZ cJ wr_a (pb_a 0) wr ++ wRd cI cZ cJ rd_a (pb_a 0) rd ++ wPb cI cZ cJ pb_a w_a v_a pb ++ wMo cI cZ cJ mo_a mo ++ wOu cI cZ cJ ou_a ou') := hD.sub [43, 0, 1, 2, 3, 4, 5, 6, 7, 8, 9, 10, 11, 12, 13, 14, 15, 16, 17, 18, 19, 44, 45, 20, 21, 22, 23, 24, 25, 26, 27, 28, 29, 30, 31, 32, 33, 34, 35, 36, 37, 38, 39, 40, 41, 42, 46] (by decide) rfl
    refine lv_istore (lv' := [(5, .int 0), (0, .ref b), (1, .ref (sd_a 0)), (2, .ref (mo_a 0)), (3, .ref (ou_a 0)), (4, .int i)]) hx hb d_law_689 hl (by decide) rfl (fun ls hl => ?_)
    refine lv_aload_n hx hb d_law_691 rfl (lv_at hl 3 rfl) ?_
    refine lv_aload_n hx hb d_law_692 rfl (lv_at hl 1 rfl) ?_
    refine lv_iload hx hb d_law_693 (lv_at hl 5 rfl) ?_
    refine lv_iconst (v := 1) hx hb d_law_695 (by decide) ?_
    refine lv_iadd hx hb d_law_696 ?_
    refine va_sld hx hb hX0 hbl hbA hS (hin 1 (by decide) (by decide)) d_law_697 ?_
    have hPc := hP.sub (ws' := (wMo cI cZ cJ mo_a mo)) [30, 31, 32, 33, 34, 35, 36, 37, 38, 39, 40, 41, 42, 43, 44, 45] rfl
    have hDc := hD.sub (ws' := (wMo cI cZ cJ mo_a mo)) [30, 31, 32, 33, 34, 35, 36, 37, 38, 39, 40, 41, 42, 43, 44, 45] (by decide) rfl
    have hFc := va_free (wc := (wMo cI cZ cJ mo_a mo)) hD hS hA [30, 31, 32, 33, 34, 35, 36, 37, 38, 39, 40, 41, 42, 43, 44, 45] rfl
    refine va_calli (va_runV (As := [.int (xs (i + 1).toNatClampNeg)]) (rest := []) ⟨hx, hb, hml, hown, hts⟩ (k_Model_byteAt l dC dI cI cZ cJ mo_a H.size hg) (cwV 1 hts (gV t_1035 t_1036 t_1037 t_63 t_1038) rfl rfl rfl hd_Model_byteAt ⟨Nat.le_trans (Nat.le_of_ble_eq_true rfl) hRf, Nat.le_trans (Nat.le_of_ble_eq_true rfl) hRl⟩) ⟨kP_blind, va_recv hK hP (ci := 7) (q0 := 30) rfl rfl, kP_at hPc hK hDc hN⟩ rfl rfl hl.1 rfl (lv_room (Nat.le_of_ble_eq_true rfl)) d_law_698 ⟨by omega, by omega⟩) hS (fun q _ h => hFc q h) hFc (fun r9 u t H1 locs ht hvm hw hB hz1 hk1 hS => ?_)
    rw [hw]
    obtain ⟨hP, hD⟩ := kQ_join (wr := (wSd cI cZ cJ sd_a w_a v_a (wr_a 0) (rd_a 0) (cu_a 0) (sp_a 0) sd ++ wSy cI cZ cJ cu_a cu ++ wSy cI cZ cJ sp_a sp ++ wBr cI cZ cJ w_a w_b w ++ wBr cI cZ cJ v_a v_b v ++ wWr cI cZ cJ wr_a (pb_a 0) wr ++ wRd cI cZ cJ rd_a (pb_a 0) rd ++ wPb cI cZ cJ pb_a w_a v_a pb ++ wOu cI cZ cJ ou_a ou')) (w1 := (wMo cI cZ cJ mo_a mo')) hP hD [30, 31, 32, 33, 34, 35, 36, 37, 38, 39, 40, 41, 42, 43, 44, 45] [0, 1, 2, 3, 4, 5, 6, 7, 8, 9, 10, 11, 12, 13, 14, 15, 16, 17, 18, 19, 20, 21, 22, 23, 24, 25, 26, 27, 28, 29, 46] rfl rfl (by decide) (by decide) ht hk1 hFc hB
    generalize H1 = H at hP hS ⊢
    have hP : va_P (dC, dI) vwCl (wSd cI cZ cJ sd_a w_a v_a (wr_a 0) (rd_a 0) (cu_a 0) (sp_a 0) sd ++ wSy cI cZ cJ cu_a cu ++ wSy cI cZ cJ sp_a sp ++ wBr cI cZ cJ w_a w_b w ++ wBr cI cZ cJ v_a v_b v ++ wWr cI cZ cJ wr_a (pb_a 0) wr ++ wRd cI cZ cJ rd_a (pb_a 0) rd ++ wPb cI cZ cJ pb_a w_a v_a pb ++ wMo cI cZ cJ mo_a mo' ++ wOu cI cZ cJ ou_a ou') H := hP.sub [0, 1, 2, 3, 4, 5, 6, 7, 8, 9, 10, 11, 12, 13, 14, 15, 16, 17, 18, 19, 20, 21, 22, 23, 24, 25, 26, 27, 28, 29, 31, 32, 33, 34, 35, 36, 37, 38, 39, 40, 41, 42, 43, 44, 45, 46, 30] rfl
    have hD : va_D A (wSd cI cZ cJ sd_a w_a v_a (wr_a 0) (rd_a 0) (cu_a 0) (sp_a 0) sd ++ wSy cI cZ cJ cu_a cu ++ wSy cI cZ cJ sp_a sp ++ wBr cI cZ cJ w_a w_b w ++ wBr cI cZ cJ v_a v_b v ++ wWr cI cZ cJ wr_a (pb_a 0) wr ++ wRd cI cZ cJ rd_a (pb_a 0) rd ++ wPb cI cZ cJ pb_a w_a v_a pb ++ wMo cI cZ cJ mo_a mo' ++ wOu cI cZ cJ ou_a ou') := hD.sub [0, 1, 2, 3, 4, 5, 6, 7, 8, 9, 10, 11, 12, 13, 14, 15, 16, 17, 18, 19, 20, 21, 22, 23, 24, 25, 26, 27, 28, 29, 31, 32, 33, 34, 35, 36, 37, 38, 39, 40, 41, 42, 43, 44, 45, 46, 30] (by decide) rfl
    refine lv_istore (lv' := [(6, .int r), (5, .int 0), (0, .ref b), (1, .ref (sd_a 0)), (2, .ref (mo_a 0)), (3, .ref (ou_a 0)), (4, .int i)]) hx hb d_law_701 hl (by decide) rfl (fun ls hl => ?_)
    refine lv_aload_n hx hb d_law_703 rfl (lv_at hl 4 rfl) ?_
    have hth : f_Model_thrown mo' = some (Mo_code mo') := rfl
    have hPc := hP.sub (ws' := (wMo cI cZ cJ mo_a mo')) [30, 31, 32, 33, 34, 35, 36, 37, 38, 39, 40, 41, 42, 43, 44, 45] rfl
    have hDc := hD.sub (ws' := (wMo cI cZ cJ mo_a mo')) [30, 31, 32, 33, 34, 35, 36, 37, 38, 39, 40, 41, 42, 43, 44, 45] (by decide) rfl
    have hFc := va_free (wc := (wMo cI cZ cJ mo_a mo')) hD hS hA [30, 31, 32, 33, 34, 35, 36, 37, 38, 39, 40, 41, 42, 43, 44, 45] rfl
    refine va_calli (va_runV (As := []) (rest := []) ⟨hx, hb, hml, hown, hts⟩ (k_Model_thrown l dC dI cI cZ cJ mo_a H.size hth) (cwV 0 hts (gV t_906 t_907 t_908 t_63 t_909) rfl rfl rfl hd_Model_thrown ⟨Nat.le_trans (Nat.le_of_ble_eq_true rfl) hRf, Nat.le_trans (Nat.le_of_ble_eq_true rfl) hRl⟩) ⟨kP_blind, va_recv hK hP (ci := 7) (q0 := 30) rfl rfl, kP_at hPc hK hDc hN⟩ rfl rfl hl.1 rfl (lv_room (Nat.le_of_ble_eq_true rfl)) d_law_704 ⟨by omega, by omega⟩) hS (fun q _ h => hFc q h) hFc (fun r9 u t H1 locs ht hvm hw hB hz1 hk1 hS => ?_)
    rw [hw]
    obtain ⟨hP, hD⟩ := kQ_join (wr := (wSd cI cZ cJ sd_a w_a v_a (wr_a 0) (rd_a 0) (cu_a 0) (sp_a 0) sd ++ wSy cI cZ cJ cu_a cu ++ wSy cI cZ cJ sp_a sp ++ wBr cI cZ cJ w_a w_b w ++ wBr cI cZ cJ v_a v_b v ++ wWr cI cZ cJ wr_a (pb_a 0) wr ++ wRd cI cZ cJ rd_a (pb_a 0) rd ++ wPb cI cZ cJ pb_a w_a v_a pb ++ wOu cI cZ cJ ou_a ou')) (w1 := (wMo cI cZ cJ mo_a mo')) hP hD [30, 31, 32, 33, 34, 35, 36, 37, 38, 39, 40, 41, 42, 43, 44, 45] [0, 1, 2, 3, 4, 5, 6, 7, 8, 9, 10, 11, 12, 13, 14, 15, 16, 17, 18, 19, 20, 21, 22, 23, 24, 25, 26, 27, 28, 29, 46] rfl rfl (by decide) (by decide) ht hk1 hFc hB
    generalize H1 = H at hP hS ⊢
    have hP : va_P (dC, dI) vwCl (wSd cI cZ cJ sd_a w_a v_a (wr_a 0) (rd_a 0) (cu_a 0) (sp_a 0) sd ++ wSy cI cZ cJ cu_a cu ++ wSy cI cZ cJ sp_a sp ++ wBr cI cZ cJ w_a w_b w ++ wBr cI cZ cJ v_a v_b v ++ wWr cI cZ cJ wr_a (pb_a 0) wr ++ wRd cI cZ cJ rd_a (pb_a 0) rd ++ wPb cI cZ cJ pb_a w_a v_a pb ++ wMo cI cZ cJ mo_a mo' ++ wOu cI cZ cJ ou_a ou') H := hP.sub [0, 1, 2, 3, 4, 5, 6, 7, 8, 9, 10, 11, 12, 13, 14, 15, 16, 17, 18, 19, 20, 21, 22, 23, 24, 25, 26, 27, 28, 29, 31, 32, 33, 34, 35, 36, 37, 38, 39, 40, 41, 42, 43, 44, 45, 46, 30] rfl
    have hD : va_D A (wSd cI cZ cJ sd_a w_a v_a (wr_a 0) (rd_a 0) (cu_a 0) (sp_a 0) sd ++ wSy cI cZ cJ cu_a cu ++ wSy cI cZ cJ sp_a sp ++ wBr cI cZ cJ w_a w_b w ++ wBr cI cZ cJ v_a v_b v ++ wWr cI cZ cJ wr_a (pb_a 0) wr ++ wRd cI cZ cJ rd_a (pb_a 0) rd ++ wPb cI cZ cJ pb_a w_a v_a pb ++ wMo cI cZ cJ mo_a mo' ++ wOu cI cZ cJ ou_a ou') := hD.sub [0, 1, 2, 3, 4, 5, 6, 7, 8, 9, 10, 11, 12, 13, 14, 15, 16, 17, 18, 19, 20, 21, 22, 23, 24, 25, 26, 27, 28, 29, 31, 32, 33, 34, 35, 36, 37, 38, 39, 40, 41, 42, 43, 44, 45, 46, 30] (by decide) rfl
    refine lv_iload hx hb d_law_707 (lv_at hl 1 rfl) ?_
    refine lv_icmp_eq (tgt := 714) hx hb d_law_709 (by decide) (fun _ => ?_) (fun h9 => absurd hcode h9)
    refine lv_iload hx hb d_law_714 (lv_at hl 1 rfl) ?_
    refine lv_if_ne (tgt := 731) hx hb d_law_716 (by decide) (fun h9 => absurd rfl h9) (fun _ => ?_)
    refine lv_aload_n hx hb d_law_719 rfl (lv_at hl 5 rfl) ?_
    refine lv_iconst (v := 0) hx hb d_law_720 (by decide) ?_
    refine va_lald (f := Ou_f ou') hx hb hK hP 46 2 rfl rfl (inb_in (by decide)) d_law_721 ?_
    refine lv_iload hx hb d_law_722 (lv_at hl 0 rfl) ?_
    refine lv_i2l (v := r.toInt64) hx hb d_law_724 rfl ?_
    refine W.lcmp hx hb d_law_725 ?_
    refine lv_if_eq (tgt := 731) hx hb d_law_726 (by decide) (fun _ => ?_) (fun h9 => absurd (by rw [hou]; exact cmp_self _) h9)
    refine lv_goto (tgt := 1131) hx hb d_law_731 (by decide) ?_
    have hl := lv_sub (l' := [(0, .ref b), (1, .ref (sd_a 0)), (2, .ref (mo_a 0)), (3, .ref (ou_a 0)), (4, .int i)]) hl [2, 3, 4, 5, 6] rfl
    refine W.widen (k := j + 1 + Br_byL w + Br_byL v) (n := 6 * (j + 1) + 2 * Br_byL w + 2 * Br_byL v) (by omega) (by omega) ?_
    exact hk _ _ _ cu_a sp_a w_b v_b cu sp w v wr rd pb mo' ou' hrel hP hD hS hl
  · refine lv_aload_n hx hb d_law_678 rfl (lv_at hl 1 rfl) ?_
    refine lv_aload_n hx hb d_law_679 rfl (lv_at hl 0 rfl) ?_
    refine lv_iload hx hb d_law_680 (lv_at hl 4 rfl) ?_
    refine lv_iconst (v := 1) hx hb d_law_682 (by decide) ?_
    refine lv_iadd hx hb d_law_683 ?_
    refine va_sld hx hb hX0 hbl hbA hS (hin 1 (by decide) (by decide)) d_law_684 ?_
    refine lv_aload_n hx hb d_law_685 rfl (lv_at hl 3 rfl) ?_
    have hPc := hP.sub (ws' := (wSd cI cZ cJ sd_a w_a v_a (wr_a 0) (rd_a 0) (cu_a 0) (sp_a 0) sd ++ wBr cI cZ cJ w_a w_b w ++ wOu cI cZ cJ ou_a ou)) [0, 21, 22, 45] rfl
    have hDc := hD.sub (ws' := (wSd cI cZ cJ sd_a w_a v_a (wr_a 0) (rd_a 0) (cu_a 0) (sp_a 0) sd ++ wBr cI cZ cJ w_a w_b w ++ wOu cI cZ cJ ou_a ou)) [0, 21, 22, 45] (by decide) rfl
    have hFc := va_free (wc := (wSd cI cZ cJ sd_a w_a v_a (wr_a 0) (rd_a 0) (cu_a 0) (sp_a 0) sd ++ wBr cI cZ cJ w_a w_b w ++ wOu cI cZ cJ ou_a ou)) hD hS hA [0, 21, 22, 45] rfl
    refine va_calli (w_runS (As := [.ref (sd_a 0), .int (xs (i + 1).toNatClampNeg), .ref (ou_a 0)]) (rest := []) ⟨hx, hb, hml, hown, hts⟩ (kx_Law_byteAt_3 l hl9 dC dI cI cZ cJ sd_a w_a w_b ou_a v_a (wr_a 0) (rd_a 0) (cu_a 0) (sp_a 0) H.size hf) (cwH_of 3 hts t_741 rfl rfl t_53 t_739 t_740 hd_Law_byteAt.2 ⟨Nat.le_trans (Nat.le_of_ble_eq_true rfl) hRf, Nat.le_trans (Nat.le_of_ble_eq_true rfl) hRl⟩) ⟨kPX_blind, kPX_at hPc hK hDc hN (fun q hq => hS.2.1 q hq (fun h9 => absurd (hA2 q h9) (Nat.not_le.mpr hq))) hT hX⟩ rfl rfl hl.1 rfl (lv_room (Nat.le_of_ble_eq_true rfl)) d_law_686 ⟨by omega, by omega⟩) hS (fun q _ h => hFc q h) hFc (fun r9 u t H1 locs ht hvm hw hB hz1 hk1 hS => ?_)
    rw [hw]
    obtain ⟨hP, hD⟩ := kQ_join (wr := (wSy cI cZ cJ cu_a cu ++ wSy cI cZ cJ sp_a sp ++ wBr cI cZ cJ v_a v_b v ++ wWr cI cZ cJ wr_a (pb_a 0) wr ++ wRd cI cZ cJ rd_a (pb_a 0) rd ++ wPb cI cZ cJ pb_a w_a v_a pb ++ wMo cI cZ cJ mo_a mo)) (w1 := (wSd cI cZ cJ sd_a w_a v_a (wr_a 0) (rd_a 0) (cu_a 0) (sp_a 0) sd ++ wBr cI cZ cJ w_a w_b w ++ wOu cI cZ cJ ou_a ou)) hP hD [0, 21, 22, 45] [1, 2, 3, 4, 5, 6, 7, 8, 9, 10, 11, 12, 13, 14, 15, 16, 17, 18, 19, 20, 23, 24, 25, 26, 27, 28, 29, 30, 31, 32, 33, 34, 35, 36, 37, 38, 39, 40, 41, 42, 43, 44, 46] rfl rfl (by decide) (by decide) ht hk1 hFc hB
    generalize H1 = H at hP hS ⊢
    have hP : va_P (dC, dI) vwCl (wSd cI cZ cJ sd_a w_a v_a (wr_a 0) (rd_a 0) (cu_a 0) (sp_a 0) sd ++ wSy cI cZ cJ cu_a cu ++ wSy cI cZ cJ sp_a sp ++ wBr cI cZ cJ w_a w_b w ++ wBr cI cZ cJ v_a v_b v ++ wWr cI cZ cJ wr_a (pb_a 0) wr ++ wRd cI cZ cJ rd_a (pb_a 0) rd ++ wPb cI cZ cJ pb_a w_a v_a pb ++ wMo cI cZ cJ mo_a mo ++ wOu cI cZ cJ ou_a ou) H := hP.sub [43, 0, 1, 2, 3, 4, 5, 6, 7, 8, 9, 10, 11, 12, 13, 14, 15, 16, 17, 18, 19, 44, 45, 20, 21, 22, 23, 24, 25, 26, 27, 28, 29, 30, 31, 32, 33, 34, 35, 36, 37, 38, 39, 40, 41, 42, 46] rfl
    have hD : va_D A (wSd cI cZ cJ sd_a w_a v_a (wr_a 0) (rd_a 0) (cu_a 0) (sp_a 0) sd ++ wSy cI cZ cJ cu_a cu ++ wSy cI cZ cJ sp_a sp ++ wBr cI cZ cJ w_a w_b w ++ wBr cI cZ cJ v_a v_b v ++ wWr cI cZ cJ wr_a (pb_a 0) wr ++ wRd cI cZ cJ rd_a (pb_a 0) rd ++ wPb cI cZ cJ pb_a w_a v_a pb ++ wMo cI cZ cJ mo_a mo ++ wOu cI cZ cJ ou_a ou) := hD.sub [43, 0, 1, 2, 3, 4, 5, 6, 7, 8, 9, 10, 11, 12, 13, 14, 15, 16, 17, 18, 19, 44, 45, 20, 21, 22, 23, 24, 25, 26, 27, 28, 29, 30, 31, 32, 33, 34, 35, 36, 37, 38, 39, 40, 41, 42, 46] (by decide) rfl
    refine lv_istore (lv' := [(5, .int 1), (0, .ref b), (1, .ref (sd_a 0)), (2, .ref (mo_a 0)), (3, .ref (ou_a 0)), (4, .int i)]) hx hb d_law_689 hl (by decide) rfl (fun ls hl => ?_)
    refine lv_aload_n hx hb d_law_691 rfl (lv_at hl 3 rfl) ?_
    refine lv_aload_n hx hb d_law_692 rfl (lv_at hl 1 rfl) ?_
    refine lv_iload hx hb d_law_693 (lv_at hl 5 rfl) ?_
    refine lv_iconst (v := 1) hx hb d_law_695 (by decide) ?_
    refine lv_iadd hx hb d_law_696 ?_
    refine va_sld hx hb hX0 hbl hbA hS (hin 1 (by decide) (by decide)) d_law_697 ?_
    have hPc := hP.sub (ws' := (wMo cI cZ cJ mo_a mo)) [30, 31, 32, 33, 34, 35, 36, 37, 38, 39, 40, 41, 42, 43, 44, 45] rfl
    have hDc := hD.sub (ws' := (wMo cI cZ cJ mo_a mo)) [30, 31, 32, 33, 34, 35, 36, 37, 38, 39, 40, 41, 42, 43, 44, 45] (by decide) rfl
    have hFc := va_free (wc := (wMo cI cZ cJ mo_a mo)) hD hS hA [30, 31, 32, 33, 34, 35, 36, 37, 38, 39, 40, 41, 42, 43, 44, 45] rfl
    refine va_calli (va_runV (As := [.int (xs (i + 1).toNatClampNeg)]) (rest := []) ⟨hx, hb, hml, hown, hts⟩ (k_Model_byteAt l dC dI cI cZ cJ mo_a H.size hg) (cwV 1 hts (gV t_1035 t_1036 t_1037 t_63 t_1038) rfl rfl rfl hd_Model_byteAt ⟨Nat.le_trans (Nat.le_of_ble_eq_true rfl) hRf, Nat.le_trans (Nat.le_of_ble_eq_true rfl) hRl⟩) ⟨kP_blind, va_recv hK hP (ci := 7) (q0 := 30) rfl rfl, kP_at hPc hK hDc hN⟩ rfl rfl hl.1 rfl (lv_room (Nat.le_of_ble_eq_true rfl)) d_law_698 ⟨by omega, by omega⟩) hS (fun q _ h => hFc q h) hFc (fun r9 u t H1 locs ht hvm hw hB hz1 hk1 hS => ?_)
    rw [hw]
    obtain ⟨hP, hD⟩ := kQ_join (wr := (wSd cI cZ cJ sd_a w_a v_a (wr_a 0) (rd_a 0) (cu_a 0) (sp_a 0) sd ++ wSy cI cZ cJ cu_a cu ++ wSy cI cZ cJ sp_a sp ++ wBr cI cZ cJ w_a w_b w ++ wBr cI cZ cJ v_a v_b v ++ wWr cI cZ cJ wr_a (pb_a 0) wr ++ wRd cI cZ cJ rd_a (pb_a 0) rd ++ wPb cI cZ cJ pb_a w_a v_a pb ++ wOu cI cZ cJ ou_a ou)) (w1 := (wMo cI cZ cJ mo_a mo')) hP hD [30, 31, 32, 33, 34, 35, 36, 37, 38, 39, 40, 41, 42, 43, 44, 45] [0, 1, 2, 3, 4, 5, 6, 7, 8, 9, 10, 11, 12, 13, 14, 15, 16, 17, 18, 19, 20, 21, 22, 23, 24, 25, 26, 27, 28, 29, 46] rfl rfl (by decide) (by decide) ht hk1 hFc hB
    generalize H1 = H at hP hS ⊢
    have hP : va_P (dC, dI) vwCl (wSd cI cZ cJ sd_a w_a v_a (wr_a 0) (rd_a 0) (cu_a 0) (sp_a 0) sd ++ wSy cI cZ cJ cu_a cu ++ wSy cI cZ cJ sp_a sp ++ wBr cI cZ cJ w_a w_b w ++ wBr cI cZ cJ v_a v_b v ++ wWr cI cZ cJ wr_a (pb_a 0) wr ++ wRd cI cZ cJ rd_a (pb_a 0) rd ++ wPb cI cZ cJ pb_a w_a v_a pb ++ wMo cI cZ cJ mo_a mo' ++ wOu cI cZ cJ ou_a ou) H := hP.sub [0, 1, 2, 3, 4, 5, 6, 7, 8, 9, 10, 11, 12, 13, 14, 15, 16, 17, 18, 19, 20, 21, 22, 23, 24, 25, 26, 27, 28, 29, 31, 32, 33, 34, 35, 36, 37, 38, 39, 40, 41, 42, 43, 44, 45, 46, 30] rfl
    have hD : va_D A (wSd cI cZ cJ sd_a w_a v_a (wr_a 0) (rd_a 0) (cu_a 0) (sp_a 0) sd ++ wSy cI cZ cJ cu_a cu ++ wSy cI cZ cJ sp_a sp ++ wBr cI cZ cJ w_a w_b w ++ wBr cI cZ cJ v_a v_b v ++ wWr cI cZ cJ wr_a (pb_a 0) wr ++ wRd cI cZ cJ rd_a (pb_a 0) rd ++ wPb cI cZ cJ pb_a w_a v_a pb ++ wMo cI cZ cJ mo_a mo' ++ wOu cI cZ cJ ou_a ou) := hD.sub [0, 1, 2, 3, 4, 5, 6, 7, 8, 9, 10, 11, 12, 13, 14, 15, 16, 17, 18, 19, 20, 21, 22, 23, 24, 25, 26, 27, 28, 29, 31, 32, 33, 34, 35, 36, 37, 38, 39, 40, 41, 42, 43, 44, 45, 46, 30] (by decide) rfl
    refine lv_istore (lv' := [(6, .int q), (5, .int 1), (0, .ref b), (1, .ref (sd_a 0)), (2, .ref (mo_a 0)), (3, .ref (ou_a 0)), (4, .int i)]) hx hb d_law_701 hl (by decide) rfl (fun ls hl => ?_)
    refine lv_aload_n hx hb d_law_703 rfl (lv_at hl 4 rfl) ?_
    have hth : f_Model_thrown mo' = some (Mo_code mo') := rfl
    have hPc := hP.sub (ws' := (wMo cI cZ cJ mo_a mo')) [30, 31, 32, 33, 34, 35, 36, 37, 38, 39, 40, 41, 42, 43, 44, 45] rfl
    have hDc := hD.sub (ws' := (wMo cI cZ cJ mo_a mo')) [30, 31, 32, 33, 34, 35, 36, 37, 38, 39, 40, 41, 42, 43, 44, 45] (by decide) rfl
    have hFc := va_free (wc := (wMo cI cZ cJ mo_a mo')) hD hS hA [30, 31, 32, 33, 34, 35, 36, 37, 38, 39, 40, 41, 42, 43, 44, 45] rfl
    refine va_calli (va_runV (As := []) (rest := []) ⟨hx, hb, hml, hown, hts⟩ (k_Model_thrown l dC dI cI cZ cJ mo_a H.size hth) (cwV 0 hts (gV t_906 t_907 t_908 t_63 t_909) rfl rfl rfl hd_Model_thrown ⟨Nat.le_trans (Nat.le_of_ble_eq_true rfl) hRf, Nat.le_trans (Nat.le_of_ble_eq_true rfl) hRl⟩) ⟨kP_blind, va_recv hK hP (ci := 7) (q0 := 30) rfl rfl, kP_at hPc hK hDc hN⟩ rfl rfl hl.1 rfl (lv_room (Nat.le_of_ble_eq_true rfl)) d_law_704 ⟨by omega, by omega⟩) hS (fun q _ h => hFc q h) hFc (fun r9 u t H1 locs ht hvm hw hB hz1 hk1 hS => ?_)
    rw [hw]
    obtain ⟨hP, hD⟩ := kQ_join (wr := (wSd cI cZ cJ sd_a w_a v_a (wr_a 0) (rd_a 0) (cu_a 0) (sp_a 0) sd ++ wSy cI cZ cJ cu_a cu ++ wSy cI cZ cJ sp_a sp ++ wBr cI cZ cJ w_a w_b w ++ wBr cI cZ cJ v_a v_b v ++ wWr cI cZ cJ wr_a (pb_a 0) wr ++ wRd cI cZ cJ rd_a (pb_a 0) rd ++ wPb cI cZ cJ pb_a w_a v_a pb ++ wOu cI cZ cJ ou_a ou)) (w1 := (wMo cI cZ cJ mo_a mo')) hP hD [30, 31, 32, 33, 34, 35, 36, 37, 38, 39, 40, 41, 42, 43, 44, 45] [0, 1, 2, 3, 4, 5, 6, 7, 8, 9, 10, 11, 12, 13, 14, 15, 16, 17, 18, 19, 20, 21, 22, 23, 24, 25, 26, 27, 28, 29, 46] rfl rfl (by decide) (by decide) ht hk1 hFc hB
    generalize H1 = H at hP hS ⊢
    have hP : va_P (dC, dI) vwCl (wSd cI cZ cJ sd_a w_a v_a (wr_a 0) (rd_a 0) (cu_a 0) (sp_a 0) sd ++ wSy cI cZ cJ cu_a cu ++ wSy cI cZ cJ sp_a sp ++ wBr cI cZ cJ w_a w_b w ++ wBr cI cZ cJ v_a v_b v ++ wWr cI cZ cJ wr_a (pb_a 0) wr ++ wRd cI cZ cJ rd_a (pb_a 0) rd ++ wPb cI cZ cJ pb_a w_a v_a pb ++ wMo cI cZ cJ mo_a mo' ++ wOu cI cZ cJ ou_a ou) H := hP.sub [0, 1, 2, 3, 4, 5, 6, 7, 8, 9, 10, 11, 12, 13, 14, 15, 16, 17, 18, 19, 20, 21, 22, 23, 24, 25, 26, 27, 28, 29, 31, 32, 33, 34, 35, 36, 37, 38, 39, 40, 41, 42, 43, 44, 45, 46, 30] rfl
    have hD : va_D A (wSd cI cZ cJ sd_a w_a v_a (wr_a 0) (rd_a 0) (cu_a 0) (sp_a 0) sd ++ wSy cI cZ cJ cu_a cu ++ wSy cI cZ cJ sp_a sp ++ wBr cI cZ cJ w_a w_b w ++ wBr cI cZ cJ v_a v_b v ++ wWr cI cZ cJ wr_a (pb_a 0) wr ++ wRd cI cZ cJ rd_a (pb_a 0) rd ++ wPb cI cZ cJ pb_a w_a v_a pb ++ wMo cI cZ cJ mo_a mo' ++ wOu cI cZ cJ ou_a ou) := hD.sub [0, 1, 2, 3, 4, 5, 6, 7, 8, 9, 10, 11, 12, 13, 14, 15, 16, 17, 18, 19, 20, 21, 22, 23, 24, 25, 26, 27, 28, 29, 31, 32, 33, 34, 35, 36, 37, 38, 39, 40, 41, 42, 43, 44, 45, 46, 30] (by decide) rfl
    refine lv_iload hx hb d_law_707 (lv_at hl 1 rfl) ?_
    refine lv_icmp_eq (tgt := 714) hx hb d_law_709 (by decide) (fun _ => ?_) (fun h9 => absurd hcode h9)
    refine lv_iload hx hb d_law_714 (lv_at hl 1 rfl) ?_
    refine lv_if_ne (tgt := 731) hx hb d_law_716 (by decide) (fun _ => ?_) (fun h9 => absurd h9 (by decide))
    refine lv_goto (tgt := 1131) hx hb d_law_731 (by decide) ?_
    have hl := lv_sub (l' := [(0, .ref b), (1, .ref (sd_a 0)), (2, .ref (mo_a 0)), (3, .ref (ou_a 0)), (4, .int i)]) hl [2, 3, 4, 5, 6] rfl
    refine W.widen (k := j + 1 + Br_byL w + Br_byL v) (n := 6 * (j + 1) + 2 * Br_byL w + 2 * Br_byL v) (by omega) (by omega) ?_
    exact hk _ _ _ cu_a sp_a w_b v_b cu sp w v wr rd pb mo' ou hrel hP hD hS hl

set_option maxHeartbeats 8000000 in
set_option maxRecDepth 100000 in
theorem L_P_feed {p : Program} {l : Launch} {e : Env} {R : Room} {s : State} {m : MethodId} {args : Array Value} {below : List Frame} {meth : Method} {c : Code} {Q : State → Prop} {A : Nat → Prop} {dC : Nat → ClassId} {dI : Nat → Nat → Nat} {cI cZ cJ : ClassId} {sd_a cu_a sp_a : Nat → Nat} {w_a w_b v_a v_b : Nat} {wr_a rd_a pb_a mo_a ou_a : Nat → Nat} {sd : Sd} {cu sp : Sy} {w v : Br} {wr : Wr} {rd : Rd} {pb : Pb} {mo : Mo} {ou : Ou} {b L : Nat} {xs : Nat → Int32} {i : Int32} {j : Nat} {Rl : Sd → Sy → Sy → Br → Br → Wr → Rd → Pb → Mo → Prop} (hl9 : l.stackTraces = false) (C0 : lcx p c m s args R (dC, dI) (TYS cI cZ cJ) A b L xs i j) (hRb : ∀ sd cu sp w v wr rd pb mo, Rl sd cu sp w v wr rd pb mo → Br_byL w ≤ 40000 ∧ Br_byL v ≤ 40000) (hR0 : Rl sd cu sp w v wr rd pb mo) (hT0 : T_P_feed Rl sd cu sp w v wr rd pb mo (xs (i + 1).toNatClampNeg))
    (hk : ∀ (H : Heap) (locs : List Loc) (ls : Array Slot) (cu_a sp_a : Nat → Nat) (w_b v_b : Nat) (cu sp : Sy) (w v : Br) (wr : Wr) (rd : Rd) (pb : Pb) (mo : Mo) (ou : Ou), Rl sd cu sp w v wr rd pb mo → va_P (dC, dI) vwCl (wSd cI cZ cJ sd_a w_a v_a (wr_a 0) (rd_a 0) (cu_a 0) (sp_a 0) sd ++ wSy cI cZ cJ cu_a cu ++ wSy cI cZ cJ sp_a sp ++ wBr cI cZ cJ w_a w_b w ++ wBr cI cZ cJ v_a v_b v ++ wWr cI cZ cJ wr_a (pb_a 0) wr ++ wRd cI cZ cJ rd_a (pb_a 0) rd ++ wPb cI cZ cJ pb_a w_a v_a pb ++ wMo cI cZ cJ mo_a mo ++ wOu cI cZ cJ ou_a ou) H → va_D A (wSd cI cZ cJ sd_a w_a v_a (wr_a 0) (rd_a 0) (cu_a 0) (sp_a 0) sd ++ wSy cI cZ cJ cu_a cu ++ wSy cI cZ cJ sp_a sp ++ wBr cI cZ cJ w_a w_b w ++ wBr cI cZ cJ v_a v_b v ++ wWr cI cZ cJ wr_a (pb_a 0) wr ++ wRd cI cZ cJ rd_a (pb_a 0) rd ++ wPb cI cZ cJ pb_a w_a v_a pb ++ wMo cI cZ cJ mo_a mo ++ wOu cI cZ cJ ou_a ou) → va_S A s.heap H locs → lv_has ls 7 [(0, .ref b), (1, .ref (sd_a 0)), (2, .ref (mo_a 0)), (3, .ref (ou_a 0)), (4, .int i)] → W p l e R s m args below meth c H locs (j + 1 + Br_byL w + Br_byL v) (6 * (j + 1) + 2 * Br_byL w + 2 * Br_byL v) Q (F0 m 1131 ls []))
    {H : Heap} {locs : List Loc} {ls : Array Slot} (hP : va_P (dC, dI) vwCl (wSd cI cZ cJ sd_a w_a v_a (wr_a 0) (rd_a 0) (cu_a 0) (sp_a 0) sd ++ wSy cI cZ cJ cu_a cu ++ wSy cI cZ cJ sp_a sp ++ wBr cI cZ cJ w_a w_b w ++ wBr cI cZ cJ v_a v_b v ++ wWr cI cZ cJ wr_a (pb_a 0) wr ++ wRd cI cZ cJ rd_a (pb_a 0) rd ++ wPb cI cZ cJ pb_a w_a v_a pb ++ wMo cI cZ cJ mo_a mo ++ wOu cI cZ cJ ou_a ou) H) (hD : va_D A (wSd cI cZ cJ sd_a w_a v_a (wr_a 0) (rd_a 0) (cu_a 0) (sp_a 0) sd ++ wSy cI cZ cJ cu_a cu ++ wSy cI cZ cJ sp_a sp ++ wBr cI cZ cJ w_a w_b w ++ wBr cI cZ cJ v_a v_b v ++ wWr cI cZ cJ wr_a (pb_a 0) wr ++ wRd cI cZ cJ rd_a (pb_a 0) rd ++ wPb cI cZ cJ pb_a w_a v_a pb ++ wMo cI cZ cJ mo_a mo ++ wOu cI cZ cJ ou_a ou)) (hS : va_S A s.heap H locs) (hl : lv_has ls 7 [(0, .ref b), (1, .ref (sd_a 0)), (2, .ref (mo_a 0)), (3, .ref (ou_a 0)), (4, .int i)]) : W p l e R s m args below meth c H locs (j + Br_byL w + Br_byL v) (6 * j + 2 * Br_byL w + 2 * Br_byL v) Q (F0 m 734 ls []) := by
  obtain ⟨hx, hb, hml, hown, hts, hK, hA, hA2, hRf, hRl, hN, hT, hX, hX0, hbl, hin, hj, hRc, hRs⟩ := C0
  have hbA : ¬ A b := fun h => absurd (hA2 b h) (Nat.not_le.mpr hbl)
  obtain ⟨hw0, hv0⟩ := hRb _ _ _ _ _ _ _ _ _ hR0
  unfold T_P_feed at hT0
  rcases hT0 with ⟨r, v', mo', hf, hg, hcode, hrel⟩ | ⟨hf, q, mo', hg, hcode, hrel⟩ | ⟨hf, q, mo', hg, hcode, hrel⟩
  · obtain ⟨ou', heou⟩ : ∃ z : Ou, z = (vp_updL (Ou_f ou) 0 r.toInt64) := ⟨_, rfl⟩
    have hf1 : f_Law_feed sd v ou (xs (i + 1).toNatClampNeg) = some (0, v', ou') := by
      rw [f_Law_feed, hf, bd_s, heou]
      rfl
    have hou : Ou_f ou' (0 : Int32).toNatClampNeg = r.toInt64 := by rw [heou]; exact updL_at _ _ _
    refine lv_aload_n hx hb d_law_734 rfl (lv_at hl 1 rfl) ?_
    refine lv_aload_n hx hb d_law_735 rfl (lv_at hl 0 rfl) ?_
    refine lv_iload hx hb d_law_736 (lv_at hl 4 rfl) ?_
    refine lv_iconst (v := 1) hx hb d_law_738 (by decide) ?_
    refine lv_iadd hx hb d_law_739 ?_
    refine va_sld hx hb hX0 hbl hbA hS (hin 1 (by decide) (by decide)) d_law_740 ?_
    refine lv_aload_n hx hb d_law_741 rfl (lv_at hl 3 rfl) ?_
    have hm0 := mo_Law_feed _ hf1
    try dsimp only at hm0
    have hb9 := (hRb _ _ _ _ _ _ _ _ _ hrel).2
    have hPc := hP.sub (ws' := (wSd cI cZ cJ sd_a w_a v_a (wr_a 0) (rd_a 0) (cu_a 0) (sp_a 0) sd ++ wBr cI cZ cJ v_a v_b v ++ wOu cI cZ cJ ou_a ou)) [0, 23, 24, 45] rfl
    have hDc := hD.sub (ws' := (wSd cI cZ cJ sd_a w_a v_a (wr_a 0) (rd_a 0) (cu_a 0) (sp_a 0) sd ++ wBr cI cZ cJ v_a v_b v ++ wOu cI cZ cJ ou_a ou)) [0, 23, 24, 45] (by decide) rfl
    have hFc := va_free (wc := (wSd cI cZ cJ sd_a w_a v_a (wr_a 0) (rd_a 0) (cu_a 0) (sp_a 0) sd ++ wBr cI cZ cJ v_a v_b v ++ wOu cI cZ cJ ou_a ou)) hD hS hA [0, 23, 24, 45] rfl
    refine va_calli (w_runS (As := [.ref (sd_a 0), .int (xs (i + 1).toNatClampNeg), .ref (ou_a 0)]) (rest := []) ⟨hx, hb, hml, hown, hts⟩ (k_Law_feed l dC dI cI cZ cJ sd_a v_a v_b ou_a w_a (wr_a 0) (rd_a 0) (cu_a 0) (sp_a 0) H.size hf1) (cwH_of 3 hts t_749 rfl rfl t_53 t_747 t_748 hd_Law_feed.2 ⟨Nat.le_trans (Nat.le_of_ble_eq_true rfl) hRf, Nat.le_trans (Nat.le_of_ble_eq_true rfl) hRl⟩) ⟨kP_blind, kP_at hPc hK hDc hN⟩ rfl rfl hl.1 rfl (lv_room (Nat.le_of_ble_eq_true rfl)) d_law_742 ⟨by omega, by omega⟩) hS (fun q _ h => hFc q h) hFc (fun r9 v_q1 t H1 locs ht hvm hw hB hz1 hk1 hS => ?_)
    rw [hw]
    obtain ⟨hP, hD⟩ := kQ_join (wr := (wSy cI cZ cJ cu_a cu ++ wSy cI cZ cJ sp_a sp ++ wBr cI cZ cJ w_a w_b w ++ wWr cI cZ cJ wr_a (pb_a 0) wr ++ wRd cI cZ cJ rd_a (pb_a 0) rd ++ wPb cI cZ cJ pb_a w_a v_a pb ++ wMo cI cZ cJ mo_a mo)) (w1 := (wSd cI cZ cJ sd_a w_a v_a (wr_a 0) (rd_a 0) (cu_a 0) (sp_a 0) sd ++ wBr cI cZ cJ v_a v_q1 v' ++ wOu cI cZ cJ ou_a ou')) hP hD [0, 23, 24, 45] [1, 2, 3, 4, 5, 6, 7, 8, 9, 10, 11, 12, 13, 14, 15, 16, 17, 18, 19, 20, 21, 22, 25, 26, 27, 28, 29, 30, 31, 32, 33, 34, 35, 36, 37, 38, 39, 40, 41, 42, 43, 44, 46] rfl rfl (by decide) (by decide) ht hk1 hFc hB
    generalize H1 = H at hP hS ⊢
    have hP : va_P (dC, dI) vwCl (wSd cI cZ cJ sd_a w_a v_a (wr_a 0) (rd_a 0) (cu_a 0) (sp_a 0) sd ++ wSy cI cZ cJ cu_a cu ++ wSy cI cZ cJ sp_a sp ++ wBr cI cZ cJ w_a w_b w ++ wBr cI cZ cJ v_a v_q1 v' ++ wWr cI cZ cJ wr_a (pb_a 0) wr ++ wRd cI cZ cJ rd_a (pb_a 0) rd ++ wPb cI cZ cJ pb_a w_a v_a pb ++ wMo cI cZ cJ mo_a mo ++ wOu cI cZ cJ ou_a ou') H := hP.sub [43, 0, 1, 2, 3, 4, 5, 6, 7, 8, 9, 10, 11, 12, 13, 14, 15, 16, 17, 18, 19, 20, 21, 44, 45, 22, 23, 24, 25, 26, 27, 28, 29, 30, 31, 32, 33, 34, 35, 36, 37, 38, 39, 40, 41, 42, 46] rfl
    have hD : va_D A (wSd cI cZ cJ sd_a w_a v_a (wr_a 0) (rd_a 0) (cu_a 0) (sp_a 0) sd ++ wSy cI cZ cJ cu_a cu ++ wSy cI cZ cJ sp_a sp ++ wBr cI cZ cJ w_a w_b w ++ wBr cI cZ cJ v_a v_q1 v' ++ wWr cI cZ cJ wr_a (pb_a 0) wr ++ wRd cI cZ cJ rd_a (pb_a 0) rd ++ wPb cI cZ cJ pb_a w_a v_a pb ++ wMo cI cZ cJ mo_a mo ++ wOu cI cZ cJ ou_a ou') := hD.sub [43, 0, 1, 2, 3, 4, 5, 6, 7, 8, 9, 10, 11, 12, 13, 14, 15, 16, 17, 18, 19, 20, 21, 44, 45, 22, 23, 24, 25, 26, 27, 28, 29, 30, 31, 32, 33, 34, 35, 36, 37, 38, 39, 40, 41, 42, 46] (by decide) rfl
    refine lv_istore (lv' := [(5, .int 0), (0, .ref b), (1, .ref (sd_a 0)), (2, .ref (mo_a 0)), (3, .ref (ou_a 0)), (4, .int i)]) hx hb d_law_745 hl (by decide) rfl (fun ls hl => ?_)
    refine lv_aload_n hx hb d_law_747 rfl (lv_at hl 3 rfl) ?_
    refine lv_aload_n hx hb d_law_748 rfl (lv_at hl 1 rfl) ?_
    refine lv_iload hx hb d_law_749 (lv_at hl 5 rfl) ?_
    refine lv_iconst (v := 1) hx hb d_law_751 (by decide) ?_
    refine lv_iadd hx hb d_law_752 ?_
    refine va_sld hx hb hX0 hbl hbA hS (hin 1 (by decide) (by decide)) d_law_753 ?_
    have hPc := hP.sub (ws' := (wMo cI cZ cJ mo_a mo)) [30, 31, 32, 33, 34, 35, 36, 37, 38, 39, 40, 41, 42, 43, 44, 45] rfl
    have hDc := hD.sub (ws' := (wMo cI cZ cJ mo_a mo)) [30, 31, 32, 33, 34, 35, 36, 37, 38, 39, 40, 41, 42, 43, 44, 45] (by decide) rfl
    have hFc := va_free (wc := (wMo cI cZ cJ mo_a mo)) hD hS hA [30, 31, 32, 33, 34, 35, 36, 37, 38, 39, 40, 41, 42, 43, 44, 45] rfl
    refine va_calli (va_runV (As := [.int (xs (i + 1).toNatClampNeg)]) (rest := []) ⟨hx, hb, hml, hown, hts⟩ (k_Model_feed l dC dI cI cZ cJ mo_a H.size hg) (cwV 1 hts (gV t_1039 t_1040 t_1041 t_63 t_1042) rfl rfl rfl hd_Model_feed ⟨Nat.le_trans (Nat.le_of_ble_eq_true rfl) hRf, Nat.le_trans (Nat.le_of_ble_eq_true rfl) hRl⟩) ⟨kP_blind, va_recv hK hP (ci := 7) (q0 := 30) rfl rfl, kP_at hPc hK hDc hN⟩ rfl rfl hl.1 rfl (lv_room (Nat.le_of_ble_eq_true rfl)) d_law_754 ⟨by omega, by omega⟩) hS (fun q _ h => hFc q h) hFc (fun r9 u t H1 locs ht hvm hw hB hz1 hk1 hS => ?_)
    rw [hw]
    obtain ⟨hP, hD⟩ := kQ_join (wr := (wSd cI cZ cJ sd_a w_a v_a (wr_a 0) (rd_a 0) (cu_a 0) (sp_a 0) sd ++ wSy cI cZ cJ cu_a cu ++ wSy cI cZ cJ sp_a sp ++ wBr cI cZ cJ w_a w_b w ++ wBr cI cZ cJ v_a v_q1 v' ++ wWr cI cZ cJ wr_a (pb_a 0) wr ++ wRd cI cZ cJ rd_a (pb_a 0) rd ++ wPb cI cZ cJ pb_a w_a v_a pb ++ wOu cI cZ cJ ou_a ou')) (w1 := (wMo cI cZ cJ mo_a mo')) hP hD [30, 31, 32, 33, 34, 35, 36, 37, 38, 39, 40, 41, 42, 43, 44, 45] [0, 1, 2, 3, 4, 5, 6, 7, 8, 9, 10, 11, 12, 13, 14, 15, 16, 17, 18, 19, 20, 21, 22, 23, 24, 25, 26, 27, 28, 29, 46] rfl rfl (by decide) (by decide) ht hk1 hFc hB
    generalize H1 = H at hP hS ⊢
    have hP : va_P (dC, dI) vwCl (wSd cI cZ cJ sd_a w_a v_a (wr_a 0) (rd_a 0) (cu_a 0) (sp_a 0) sd ++ wSy cI cZ cJ cu_a cu ++ wSy cI cZ cJ sp_a sp ++ wBr cI cZ cJ w_a w_b w ++ wBr cI cZ cJ v_a v_q1 v' ++ wWr cI cZ cJ wr_a (pb_a 0) wr ++ wRd cI cZ cJ rd_a (pb_a 0) rd ++ wPb cI cZ cJ pb_a w_a v_a pb ++ wMo cI cZ cJ mo_a mo' ++ wOu cI cZ cJ ou_a ou') H := hP.sub [0, 1, 2, 3, 4, 5, 6, 7, 8, 9, 10, 11, 12, 13, 14, 15, 16, 17, 18, 19, 20, 21, 22, 23, 24, 25, 26, 27, 28, 29, 31, 32, 33, 34, 35, 36, 37, 38, 39, 40, 41, 42, 43, 44, 45, 46, 30] rfl
    have hD : va_D A (wSd cI cZ cJ sd_a w_a v_a (wr_a 0) (rd_a 0) (cu_a 0) (sp_a 0) sd ++ wSy cI cZ cJ cu_a cu ++ wSy cI cZ cJ sp_a sp ++ wBr cI cZ cJ w_a w_b w ++ wBr cI cZ cJ v_a v_q1 v' ++ wWr cI cZ cJ wr_a (pb_a 0) wr ++ wRd cI cZ cJ rd_a (pb_a 0) rd ++ wPb cI cZ cJ pb_a w_a v_a pb ++ wMo cI cZ cJ mo_a mo' ++ wOu cI cZ cJ ou_a ou') := hD.sub [0, 1, 2, 3, 4, 5, 6, 7, 8, 9, 10, 11, 12, 13, 14, 15, 16, 17, 18, 19, 20, 21, 22, 23, 24, 25, 26, 27, 28, 29, 31, 32, 33, 34, 35, 36, 37, 38, 39, 40, 41, 42, 43, 44, 45, 46, 30] (by decide) rfl
    refine lv_istore (lv' := [(6, .int r), (5, .int 0), (0, .ref b), (1, .ref (sd_a 0)), (2, .ref (mo_a 0)), (3, .ref (ou_a 0)), (4, .int i)]) hx hb d_law_757 hl (by decide) rfl (fun ls hl => ?_)
    refine lv_aload_n hx hb d_law_759 rfl (lv_at hl 4 rfl) ?_
    have hth : f_Model_thrown mo' = some (Mo_code mo') := rfl
    have hPc := hP.sub (ws' := (wMo cI cZ cJ mo_a mo')) [30, 31, 32, 33, 34, 35, 36, 37, 38, 39, 40, 41, 42, 43, 44, 45] rfl
    have hDc := hD.sub (ws' := (wMo cI cZ cJ mo_a mo')) [30, 31, 32, 33, 34, 35, 36, 37, 38, 39, 40, 41, 42, 43, 44, 45] (by decide) rfl
    have hFc := va_free (wc := (wMo cI cZ cJ mo_a mo')) hD hS hA [30, 31, 32, 33, 34, 35, 36, 37, 38, 39, 40, 41, 42, 43, 44, 45] rfl
    refine va_calli (va_runV (As := []) (rest := []) ⟨hx, hb, hml, hown, hts⟩ (k_Model_thrown l dC dI cI cZ cJ mo_a H.size hth) (cwV 0 hts (gV t_906 t_907 t_908 t_63 t_909) rfl rfl rfl hd_Model_thrown ⟨Nat.le_trans (Nat.le_of_ble_eq_true rfl) hRf, Nat.le_trans (Nat.le_of_ble_eq_true rfl) hRl⟩) ⟨kP_blind, va_recv hK hP (ci := 7) (q0 := 30) rfl rfl, kP_at hPc hK hDc hN⟩ rfl rfl hl.1 rfl (lv_room (Nat.le_of_ble_eq_true rfl)) d_law_760 ⟨by omega, by omega⟩) hS (fun q _ h => hFc q h) hFc (fun r9 u t H1 locs ht hvm hw hB hz1 hk1 hS => ?_)
    rw [hw]
    obtain ⟨hP, hD⟩ := kQ_join (wr := (wSd cI cZ cJ sd_a w_a v_a (wr_a 0) (rd_a 0) (cu_a 0) (sp_a 0) sd ++ wSy cI cZ cJ cu_a cu ++ wSy cI cZ cJ sp_a sp ++ wBr cI cZ cJ w_a w_b w ++ wBr cI cZ cJ v_a v_q1 v' ++ wWr cI cZ cJ wr_a (pb_a 0) wr ++ wRd cI cZ cJ rd_a (pb_a 0) rd ++ wPb cI cZ cJ pb_a w_a v_a pb ++ wOu cI cZ cJ ou_a ou')) (w1 := (wMo cI cZ cJ mo_a mo')) hP hD [30, 31, 32, 33, 34, 35, 36, 37, 38, 39, 40, 41, 42, 43, 44, 45] [0, 1, 2, 3, 4, 5, 6, 7, 8, 9, 10, 11, 12, 13, 14, 15, 16, 17, 18, 19, 20, 21, 22, 23, 24, 25, 26, 27, 28, 29, 46] rfl rfl (by decide) (by decide) ht hk1 hFc hB
    generalize H1 = H at hP hS ⊢
    have hP : va_P (dC, dI) vwCl (wSd cI cZ cJ sd_a w_a v_a (wr_a 0) (rd_a 0) (cu_a 0) (sp_a 0) sd ++ wSy cI cZ cJ cu_a cu ++ wSy cI cZ cJ sp_a sp ++ wBr cI cZ cJ w_a w_b w ++ wBr cI cZ cJ v_a v_q1 v' ++ wWr cI cZ cJ wr_a (pb_a 0) wr ++ wRd cI cZ cJ rd_a (pb_a 0) rd ++ wPb cI cZ cJ pb_a w_a v_a pb ++ wMo cI cZ cJ mo_a mo' ++ wOu cI cZ cJ ou_a ou') H := hP.sub [0, 1, 2, 3, 4, 5, 6, 7, 8, 9, 10, 11, 12, 13, 14, 15, 16, 17, 18, 19, 20, 21, 22, 23, 24, 25, 26, 27, 28, 29, 31, 32, 33, 34, 35, 36, 37, 38, 39, 40, 41, 42, 43, 44, 45, 46, 30] rfl
    have hD : va_D A (wSd cI cZ cJ sd_a w_a v_a (wr_a 0) (rd_a 0) (cu_a 0) (sp_a 0) sd ++ wSy cI cZ cJ cu_a cu ++ wSy cI cZ cJ sp_a sp ++ wBr cI cZ cJ w_a w_b w ++ wBr cI cZ cJ v_a v_q1 v' ++ wWr cI cZ cJ wr_a (pb_a 0) wr ++ wRd cI cZ cJ rd_a (pb_a 0) rd ++ wPb cI cZ cJ pb_a w_a v_a pb ++ wMo cI cZ cJ mo_a mo' ++ wOu cI cZ cJ ou_a ou') := hD.sub [0, 1, 2, 3, 4, 5, 6, 7, 8, 9, 10, 11, 12, 13, 14, 15, 16, 17, 18, 19, 20, 21, 22, 23, 24, 25, 26, 27, 28, 29, 31, 32, 33, 34, 35, 36, 37, 38, 39, 40, 41, 42, 43, 44, 45, 46, 30] (by decide) rfl
    refine lv_iload hx hb d_law_763 (lv_at hl 1 rfl) ?_
    refine lv_icmp_eq (tgt := 770) hx hb d_law_765 (by decide) (fun _ => ?_) (fun h9 => absurd hcode h9)
    refine lv_iload hx hb d_law_770 (lv_at hl 1 rfl) ?_
    refine lv_if_ne (tgt := 787) hx hb d_law_772 (by decide) (fun h9 => absurd rfl h9) (fun _ => ?_)
    refine lv_aload_n hx hb d_law_775 rfl (lv_at hl 5 rfl) ?_
    refine lv_iconst (v := 0) hx hb d_law_776 (by decide) ?_
    refine va_lald (f := Ou_f ou') hx hb hK hP 46 2 rfl rfl (inb_in (by decide)) d_law_777 ?_
    refine lv_iload hx hb d_law_778 (lv_at hl 0 rfl) ?_
    refine lv_i2l (v := r.toInt64) hx hb d_law_780 rfl ?_
    refine W.lcmp hx hb d_law_781 ?_
    refine lv_if_eq (tgt := 787) hx hb d_law_782 (by decide) (fun _ => ?_) (fun h9 => absurd (by rw [hou]; exact cmp_self _) h9)
    refine lv_goto (tgt := 1131) hx hb d_law_787 (by decide) ?_
    have hl := lv_sub (l' := [(0, .ref b), (1, .ref (sd_a 0)), (2, .ref (mo_a 0)), (3, .ref (ou_a 0)), (4, .int i)]) hl [2, 3, 4, 5, 6] rfl
    refine W.widen (k := j + 1 + Br_byL w + Br_byL v') (n := 6 * (j + 1) + 2 * Br_byL w + 2 * Br_byL v') (by omega) (by omega) ?_
    exact hk _ _ _ cu_a sp_a w_b v_q1 cu sp w v' wr rd pb mo' ou' hrel hP hD hS hl
  · refine lv_aload_n hx hb d_law_734 rfl (lv_at hl 1 rfl) ?_
    refine lv_aload_n hx hb d_law_735 rfl (lv_at hl 0 rfl) ?_
    refine lv_iload hx hb d_law_736 (lv_at hl 4 rfl) ?_
    refine lv_iconst (v := 1) hx hb d_law_738 (by decide) ?_
    refine lv_iadd hx hb d_law_739 ?_
    refine va_sld hx hb hX0 hbl hbA hS (hin 1 (by decide) (by decide)) d_law_740 ?_
    refine lv_aload_n hx hb d_law_741 rfl (lv_at hl 3 rfl) ?_
    have hPc := hP.sub (ws' := (wSd cI cZ cJ sd_a w_a v_a (wr_a 0) (rd_a 0) (cu_a 0) (sp_a 0) sd ++ wBr cI cZ cJ v_a v_b v ++ wOu cI cZ cJ ou_a ou)) [0, 23, 24, 45] rfl
    have hDc := hD.sub (ws' := (wSd cI cZ cJ sd_a w_a v_a (wr_a 0) (rd_a 0) (cu_a 0) (sp_a 0) sd ++ wBr cI cZ cJ v_a v_b v ++ wOu cI cZ cJ ou_a ou)) [0, 23, 24, 45] (by decide) rfl
    have hFc := va_free (wc := (wSd cI cZ cJ sd_a w_a v_a (wr_a 0) (rd_a 0) (cu_a 0) (sp_a 0) sd ++ wBr cI cZ cJ v_a v_b v ++ wOu cI cZ cJ ou_a ou)) hD hS hA [0, 23, 24, 45] rfl
    refine va_calli (w_runS (As := [.ref (sd_a 0), .int (xs (i + 1).toNatClampNeg), .ref (ou_a 0)]) (rest := []) ⟨hx, hb, hml, hown, hts⟩ (kx_Law_feed_1 l hl9 dC dI cI cZ cJ sd_a v_a v_b ou_a w_a (wr_a 0) (rd_a 0) (cu_a 0) (sp_a 0) H.size hf) (cwH_of 3 hts t_749 rfl rfl t_53 t_747 t_748 hd_Law_feed.2 ⟨Nat.le_trans (Nat.le_of_ble_eq_true rfl) hRf, Nat.le_trans (Nat.le_of_ble_eq_true rfl) hRl⟩) ⟨kPX_blind, kPX_at hPc hK hDc hN (fun q hq => hS.2.1 q hq (fun h9 => absurd (hA2 q h9) (Nat.not_le.mpr hq))) hT hX⟩ rfl rfl hl.1 rfl (lv_room (Nat.le_of_ble_eq_true rfl)) d_law_742 ⟨by omega, by omega⟩) hS (fun q _ h => hFc q h) hFc (fun r9 u t H1 locs ht hvm hw hB hz1 hk1 hS => ?_)
    rw [hw]
    obtain ⟨hP, hD⟩ := kQ_join (wr := (wSy cI cZ cJ cu_a cu ++ wSy cI cZ cJ sp_a sp ++ wBr cI cZ cJ w_a w_b w ++ wWr cI cZ cJ wr_a (pb_a 0) wr ++ wRd cI cZ cJ rd_a (pb_a 0) rd ++ wPb cI cZ cJ pb_a w_a v_a pb ++ wMo cI cZ cJ mo_a mo)) (w1 := (wSd cI cZ cJ sd_a w_a v_a (wr_a 0) (rd_a 0) (cu_a 0) (sp_a 0) sd ++ wBr cI cZ cJ v_a v_b v ++ wOu cI cZ cJ ou_a ou)) hP hD [0, 23, 24, 45] [1, 2, 3, 4, 5, 6, 7, 8, 9, 10, 11, 12, 13, 14, 15, 16, 17, 18, 19, 20, 21, 22, 25, 26, 27, 28, 29, 30, 31, 32, 33, 34, 35, 36, 37, 38, 39, 40, 41, 42, 43, 44, 46] rfl rfl (by decide) (by decide) ht hk1 hFc hB
    generalize H1 = H at hP hS ⊢
    have hP : va_P (dC, dI) vwCl (wSd cI cZ cJ sd_a w_a v_a (wr_a 0) (rd_a 0) (cu_a 0) (sp_a 0) sd ++ wSy cI cZ cJ cu_a cu ++ wSy cI cZ cJ sp_a sp ++ wBr cI cZ cJ w_a w_b w ++ wBr cI cZ cJ v_a v_b v ++ wWr cI cZ cJ wr_a (pb_a 0) wr ++ wRd cI cZ cJ rd_a (pb_a 0) rd ++ wPb cI cZ cJ pb_a w_a v_a pb ++ wMo cI cZ cJ mo_a mo ++ wOu cI cZ cJ ou_a ou) H := hP.sub [43, 0, 1, 2, 3, 4, 5, 6, 7, 8, 9, 10, 11, 12, 13, 14, 15, 16, 17, 18, 19, 20, 21, 44, 45, 22, 23, 24, 25, 26, 27, 28, 29, 30, 31, 32, 33, 34, 35, 36, 37, 38, 39, 40, 41, 42, 46] rfl
    have hD : va_D A (wSd cI cZ cJ sd_a w_a v_a (wr_a 0) (rd_a 0) (cu_a 0) (sp_a 0) sd ++ wSy cI cZ cJ cu_a cu ++ wSy cI cZ cJ sp_a sp ++ wBr cI cZ cJ w_a w_b w ++ wBr cI cZ cJ v_a v_b v ++ wWr cI cZ cJ wr_a (pb_a 0) wr ++ wRd cI cZ cJ rd_a (pb_a 0) rd ++ wPb cI cZ cJ pb_a w_a v_a pb ++ wMo cI cZ cJ mo_a mo ++ wOu cI cZ cJ ou_a ou) := hD.sub [43, 0, 1, 2, 3, 4, 5, 6, 7, 8, 9, 10, 11, 12, 13, 14, 15, 16, 17, 18, 19, 20, 21, 44, 45, 22, 23, 24, 25, 26, 27, 28, 29, 30, 31, 32, 33, 34, 35, 36, 37, 38, 39, 40, 41, 42, 46] (by decide) rfl
    refine lv_istore (lv' := [(5, .int 1), (0, .ref b), (1, .ref (sd_a 0)), (2, .ref (mo_a 0)), (3, .ref (ou_a 0)), (4, .int i)]) hx hb d_law_745 hl (by decide) rfl (fun ls hl => ?_)
    refine lv_aload_n hx hb d_law_747 rfl (lv_at hl 3 rfl) ?_
    refine lv_aload_n hx hb d_law_748 rfl (lv_at hl 1 rfl) ?_
    refine lv_iload hx hb d_law_749 (lv_at hl 5 rfl) ?_
    refine lv_iconst (v := 1) hx hb d_law_751 (by decide) ?_
    refine lv_iadd hx hb d_law_752 ?_
    refine va_sld hx hb hX0 hbl hbA hS (hin 1 (by decide) (by decide)) d_law_753 ?_
    have hPc := hP.sub (ws' := (wMo cI cZ cJ mo_a mo)) [30, 31, 32, 33, 34, 35, 36, 37, 38, 39, 40, 41, 42, 43, 44, 45] rfl
    have hDc := hD.sub (ws' := (wMo cI cZ cJ mo_a mo)) [30, 31, 32, 33, 34, 35, 36, 37, 38, 39, 40, 41, 42, 43, 44, 45] (by decide) rfl
    have hFc := va_free (wc := (wMo cI cZ cJ mo_a mo)) hD hS hA [30, 31, 32, 33, 34, 35, 36, 37, 38, 39, 40, 41, 42, 43, 44, 45] rfl
    refine va_calli (va_runV (As := [.int (xs (i + 1).toNatClampNeg)]) (rest := []) ⟨hx, hb, hml, hown, hts⟩ (k_Model_feed l dC dI cI cZ cJ mo_a H.size hg) (cwV 1 hts (gV t_1039 t_1040 t_1041 t_63 t_1042) rfl rfl rfl hd_Model_feed ⟨Nat.le_trans (Nat.le_of_ble_eq_true rfl) hRf, Nat.le_trans (Nat.le_of_ble_eq_true rfl) hRl⟩) ⟨kP_blind, va_recv hK hP (ci := 7) (q0 := 30) rfl rfl, kP_at hPc hK hDc hN⟩ rfl rfl hl.1 rfl (lv_room (Nat.le_of_ble_eq_true rfl)) d_law_754 ⟨by omega, by omega⟩) hS (fun q _ h => hFc q h) hFc (fun r9 u t H1 locs ht hvm hw hB hz1 hk1 hS => ?_)
    rw [hw]
    obtain ⟨hP, hD⟩ := kQ_join (wr := (wSd cI cZ cJ sd_a w_a v_a (wr_a 0) (rd_a 0) (cu_a 0) (sp_a 0) sd ++ wSy cI cZ cJ cu_a cu ++ wSy cI cZ cJ sp_a sp ++ wBr cI cZ cJ w_a w_b w ++ wBr cI cZ cJ v_a v_b v ++ wWr cI cZ cJ wr_a (pb_a 0) wr ++ wRd cI cZ cJ rd_a (pb_a 0) rd ++ wPb cI cZ cJ pb_a w_a v_a pb ++ wOu cI cZ cJ ou_a ou)) (w1 := (wMo cI cZ cJ mo_a mo')) hP hD [30, 31, 32, 33, 34, 35, 36, 37, 38, 39, 40, 41, 42, 43, 44, 45] [0, 1, 2, 3, 4, 5, 6, 7, 8, 9, 10, 11, 12, 13, 14, 15, 16, 17, 18, 19, 20, 21, 22, 23, 24, 25, 26, 27, 28, 29, 46] rfl rfl (by decide) (by decide) ht hk1 hFc hB
    generalize H1 = H at hP hS ⊢
    have hP : va_P (dC, dI) vwCl (wSd cI cZ cJ sd_a w_a v_a (wr_a 0) (rd_a 0) (cu_a 0) (sp_a 0) sd ++ wSy cI cZ cJ cu_a cu ++ wSy cI cZ cJ sp_a sp ++ wBr cI cZ cJ w_a w_b w ++ wBr cI cZ cJ v_a v_b v ++ wWr cI cZ cJ wr_a (pb_a 0) wr ++ wRd cI cZ cJ rd_a (pb_a 0) rd ++ wPb cI cZ cJ pb_a w_a v_a pb ++ wMo cI cZ cJ mo_a mo' ++ wOu cI cZ cJ ou_a ou) H := hP.sub [0, 1, 2, 3, 4, 5, 6, 7, 8, 9, 10, 11, 12, 13, 14, 15, 16, 17, 18, 19, 20, 21, 22, 23, 24, 25, 26, 27, 28, 29, 31, 32, 33, 34, 35, 36, 37, 38, 39, 40, 41, 42, 43, 44, 45, 46, 30] rfl
    have hD : va_D A (wSd cI cZ cJ sd_a w_a v_a (wr_a 0) (rd_a 0) (cu_a 0) (sp_a 0) sd ++ wSy cI cZ cJ cu_a cu ++ wSy cI cZ cJ sp_a sp ++ wBr cI cZ cJ w_a w_b w ++ wBr cI cZ cJ v_a v_b v ++ wWr cI cZ cJ wr_a (pb_a 0) wr ++ wRd cI cZ cJ rd_a (pb_a 0) rd ++ wPb cI cZ cJ pb_a w_a v_a pb ++ wMo cI cZ cJ mo_a mo' ++ wOu cI cZ cJ ou_a ou) := hD.sub [0, 1, 2, 3, 4, 5, 6, 7, 8, 9, 10, 11, 12, 13, 14, 15, 16, 17, 18, 19, 20, 21, 22, 23, 24, 25, 26, 27, 28, 29, 31, 32, 33, 34, 35, 36, 37, 38, 39, 40, 41, 42, 43, 44, 45, 46, 30] (by decide) rfl
    refine lv_istore (lv' := [(6, .int q), (5, .int 1), (0, .ref b), (1, .ref (sd_a 0)), (2, .ref (mo_a 0)), (3, .ref (ou_a 0)), (4, .int i)]) hx hb d_law_757 hl (by decide) rfl (fun ls hl => ?_)
    refine lv_aload_n hx hb d_law_759 rfl (lv_at hl 4 rfl) ?_
    have hth : f_Model_thrown mo' = some (Mo_code mo') := rfl
    have hPc := hP.sub (ws' := (wMo cI cZ cJ mo_a mo')) [30, 31, 32, 33, 34, 35, 36, 37, 38, 39, 40, 41, 42, 43, 44, 45] rfl
    have hDc := hD.sub (ws' := (wMo cI cZ cJ mo_a mo')) [30, 31, 32, 33, 34, 35, 36, 37, 38, 39, 40, 41, 42, 43, 44, 45] (by decide) rfl
    have hFc := va_free (wc := (wMo cI cZ cJ mo_a mo')) hD hS hA [30, 31, 32, 33, 34, 35, 36, 37, 38, 39, 40, 41, 42, 43, 44, 45] rfl
    refine va_calli (va_runV (As := []) (rest := []) ⟨hx, hb, hml, hown, hts⟩ (k_Model_thrown l dC dI cI cZ cJ mo_a H.size hth) (cwV 0 hts (gV t_906 t_907 t_908 t_63 t_909) rfl rfl rfl hd_Model_thrown ⟨Nat.le_trans (Nat.le_of_ble_eq_true rfl) hRf, Nat.le_trans (Nat.le_of_ble_eq_true rfl) hRl⟩) ⟨kP_blind, va_recv hK hP (ci := 7) (q0 := 30) rfl rfl, kP_at hPc hK hDc hN⟩ rfl rfl hl.1 rfl (lv_room (Nat.le_of_ble_eq_true rfl)) d_law_760 ⟨by omega, by omega⟩) hS (fun q _ h => hFc q h) hFc (fun r9 u t H1 locs ht hvm hw hB hz1 hk1 hS => ?_)
    rw [hw]
    obtain ⟨hP, hD⟩ := kQ_join (wr := (wSd cI cZ cJ sd_a w_a v_a (wr_a 0) (rd_a 0) (cu_a 0) (sp_a 0) sd ++ wSy cI cZ cJ cu_a cu ++ wSy cI cZ cJ sp_a sp ++ wBr cI cZ cJ w_a w_b w ++ wBr cI cZ cJ v_a v_b v ++ wWr cI cZ cJ wr_a (pb_a 0) wr ++ wRd cI cZ cJ rd_a (pb_a 0) rd ++ wPb cI cZ cJ pb_a w_a v_a pb ++ wOu cI cZ cJ ou_a ou)) (w1 := (wMo cI cZ cJ mo_a mo')) hP hD [30, 31, 32, 33, 34, 35, 36, 37, 38, 39, 40, 41, 42, 43, 44, 45] [0, 1, 2, 3, 4, 5, 6, 7, 8, 9, 10, 11, 12, 13, 14, 15, 16, 17, 18, 19, 20, 21, 22, 23, 24, 25, 26, 27, 28, 29, 46] rfl rfl (by decide) (by decide) ht hk1 hFc hB
    generalize H1 = H at hP hS ⊢
    have hP : va_P (dC, dI) vwCl (wSd cI cZ cJ sd_a w_a v_a (wr_a 0) (rd_a 0) (cu_a 0) (sp_a 0) sd ++ wSy cI cZ cJ cu_a cu ++ wSy cI cZ cJ sp_a sp ++ wBr cI cZ cJ w_a w_b w ++ wBr cI cZ cJ v_a v_b v ++ wWr cI cZ cJ wr_a (pb_a 0) wr ++ wRd cI cZ cJ rd_a (pb_a 0) rd ++ wPb cI cZ cJ pb_a w_a v_a pb ++ wMo cI cZ cJ mo_a mo' ++ wOu cI cZ cJ ou_a ou) H := hP.sub [0, 1, 2, 3, 4, 5, 6, 7, 8, 9, 10, 11, 12, 13, 14, 15, 16, 17, 18, 19, 20, 21, 22, 23, 24, 25, 26, 27, 28, 29, 31, 32, 33, 34, 35, 36, 37, 38, 39, 40, 41, 42, 43, 44, 45, 46, 30] rfl
    have hD : va_D A (wSd cI cZ cJ sd_a w_a v_a (wr_a 0) (rd_a 0) (cu_a 0) (sp_a 0) sd ++ wSy cI cZ cJ cu_a cu ++ wSy cI cZ cJ sp_a sp ++ wBr cI cZ cJ w_a w_b w ++ wBr cI cZ cJ v_a v_b v ++ wWr cI cZ cJ wr_a (pb_a 0) wr ++ wRd cI cZ cJ rd_a (pb_a 0) rd ++ wPb cI cZ cJ pb_a w_a v_a pb ++ wMo cI cZ cJ mo_a mo' ++ wOu cI cZ cJ ou_a ou) := hD.sub [0, 1, 2, 3, 4, 5, 6, 7, 8, 9, 10, 11, 12, 13, 14, 15, 16, 17, 18, 19, 20, 21, 22, 23, 24, 25, 26, 27, 28, 29, 31, 32, 33, 34, 35, 36, 37, 38, 39, 40, 41, 42, 43, 44, 45, 46, 30] (by decide) rfl
    refine lv_iload hx hb d_law_763 (lv_at hl 1 rfl) ?_
    refine lv_icmp_eq (tgt := 770) hx hb d_law_765 (by decide) (fun _ => ?_) (fun h9 => absurd hcode h9)
    refine lv_iload hx hb d_law_770 (lv_at hl 1 rfl) ?_
    refine lv_if_ne (tgt := 787) hx hb d_law_772 (by decide) (fun _ => ?_) (fun h9 => absurd h9 (by decide))
    refine lv_goto (tgt := 1131) hx hb d_law_787 (by decide) ?_
    have hl := lv_sub (l' := [(0, .ref b), (1, .ref (sd_a 0)), (2, .ref (mo_a 0)), (3, .ref (ou_a 0)), (4, .int i)]) hl [2, 3, 4, 5, 6] rfl
    refine W.widen (k := j + 1 + Br_byL w + Br_byL v) (n := 6 * (j + 1) + 2 * Br_byL w + 2 * Br_byL v) (by omega) (by omega) ?_
    exact hk _ _ _ cu_a sp_a w_b v_b cu sp w v wr rd pb mo' ou hrel hP hD hS hl
  · refine lv_aload_n hx hb d_law_734 rfl (lv_at hl 1 rfl) ?_
    refine lv_aload_n hx hb d_law_735 rfl (lv_at hl 0 rfl) ?_
    refine lv_iload hx hb d_law_736 (lv_at hl 4 rfl) ?_
    refine lv_iconst (v := 1) hx hb d_law_738 (by decide) ?_
    refine lv_iadd hx hb d_law_739 ?_
    refine va_sld hx hb hX0 hbl hbA hS (hin 1 (by decide) (by decide)) d_law_740 ?_
    refine lv_aload_n hx hb d_law_741 rfl (lv_at hl 3 rfl) ?_
    have hPc := hP.sub (ws' := (wSd cI cZ cJ sd_a w_a v_a (wr_a 0) (rd_a 0) (cu_a 0) (sp_a 0) sd ++ wBr cI cZ cJ v_a v_b v ++ wOu cI cZ cJ ou_a ou)) [0, 23, 24, 45] rfl
    have hDc := hD.sub (ws' := (wSd cI cZ cJ sd_a w_a v_a (wr_a 0) (rd_a 0) (cu_a 0) (sp_a 0) sd ++ wBr cI cZ cJ v_a v_b v ++ wOu cI cZ cJ ou_a ou)) [0, 23, 24, 45] (by decide) rfl
    have hFc := va_free (wc := (wSd cI cZ cJ sd_a w_a v_a (wr_a 0) (rd_a 0) (cu_a 0) (sp_a 0) sd ++ wBr cI cZ cJ v_a v_b v ++ wOu cI cZ cJ ou_a ou)) hD hS hA [0, 23, 24, 45] rfl
    refine va_calli (w_runS (As := [.ref (sd_a 0), .int (xs (i + 1).toNatClampNeg), .ref (ou_a 0)]) (rest := []) ⟨hx, hb, hml, hown, hts⟩ (kx_Law_feed_4 l hl9 dC dI cI cZ cJ sd_a v_a v_b ou_a w_a (wr_a 0) (rd_a 0) (cu_a 0) (sp_a 0) H.size hf) (cwH_of 3 hts t_749 rfl rfl t_53 t_747 t_748 hd_Law_feed.2 ⟨Nat.le_trans (Nat.le_of_ble_eq_true rfl) hRf, Nat.le_trans (Nat.le_of_ble_eq_true rfl) hRl⟩) ⟨kPX_blind, kPX_at hPc hK hDc hN (fun q hq => hS.2.1 q hq (fun h9 => absurd (hA2 q h9) (Nat.not_le.mpr hq))) hT hX⟩ rfl rfl hl.1 rfl (lv_room (Nat.le_of_ble_eq_true rfl)) d_law_742 ⟨by omega, by omega⟩) hS (fun q _ h => hFc q h) hFc (fun r9 u t H1 locs ht hvm hw hB hz1 hk1 hS => ?_)
    rw [hw]
    obtain ⟨hP, hD⟩ := kQ_join (wr := (wSy cI cZ cJ cu_a cu ++ wSy cI cZ cJ sp_a sp ++ wBr cI cZ cJ w_a w_b w ++ wWr cI cZ cJ wr_a (pb_a 0) wr ++ wRd cI cZ cJ rd_a (pb_a 0) rd ++ wPb cI cZ cJ pb_a w_a v_a pb ++ wMo cI cZ cJ mo_a mo)) (w1 := (wSd cI cZ cJ sd_a w_a v_a (wr_a 0) (rd_a 0) (cu_a 0) (sp_a 0) sd ++ wBr cI cZ cJ v_a v_b v ++ wOu cI cZ cJ ou_a ou)) hP hD [0, 23, 24, 45] [1, 2, 3, 4, 5, 6, 7, 8, 9, 10, 11, 12, 13, 14, 15, 16, 17, 18, 19, 20, 21, 22, 25, 26, 27, 28, 29, 30, 31, 32, 33, 34, 35, 36, 37, 38, 39, 40, 41, 42, 43, 44, 46] rfl rfl (by decide) (by decide) ht hk1 hFc hB
    generalize H1 = H at hP hS ⊢
    have hP : va_P (dC, dI) vwCl (wSd cI cZ cJ sd_a w_a v_a (wr_a 0) (rd_a 0) (cu_a 0) (sp_a 0) sd ++ wSy cI cZ cJ cu_a cu ++ wSy cI cZ cJ sp_a sp ++ wBr cI cZ cJ w_a w_b w ++ wBr cI cZ cJ v_a v_b v ++ wWr cI cZ cJ wr_a (pb_a 0) wr ++ wRd cI cZ cJ rd_a (pb_a 0) rd ++ wPb cI cZ cJ pb_a w_a v_a pb ++ wMo cI cZ cJ mo_a mo ++ wOu cI cZ cJ ou_a ou) H := hP.sub [43, 0, 1, 2, 3, 4, 5, 6, 7, 8, 9, 10, 11, 12, 13, 14, 15, 16, 17, 18, 19, 20, 21, 44, 45, 22, 23, 24, 25, 26, 27, 28, 29, 30, 31, 32, 33, 34, 35, 36, 37, 38, 39, 40, 41, 42, 46] rfl
    have hD : va_D A (wSd cI cZ cJ sd_a w_a v_a (wr_a 0) (rd_a 0) (cu_a 0) (sp_a 0) sd ++ wSy cI cZ cJ cu_a cu ++ wSy cI cZ cJ sp_a sp ++ wBr cI cZ cJ w_a w_b w ++ wBr cI cZ cJ v_a v_b v ++ wWr cI cZ cJ wr_a (pb_a 0) wr ++ wRd cI cZ cJ rd_a (pb_a 0) rd ++ wPb cI cZ cJ pb_a w_a v_a pb ++ wMo cI cZ cJ mo_a mo ++ wOu cI cZ cJ ou_a ou) := hD.sub [43, 0, 1, 2, 3, 4, 5, 6, 7, 8, 9, 10, 11, 12, 13, 14, 15, 16, 17, 18, 19, 20, 21, 44, 45, 22, 23, 24, 25, 26, 27, 28, 29, 30, 31, 32, 33, 34, 35, 36, 37, 38, 39, 40, 41, 42, 46] (by decide) rfl
    refine lv_istore (lv' := [(5, .int 2), (0, .ref b), (1, .ref (sd_a 0)), (2, .ref (mo_a 0)), (3, .ref (ou_a 0)), (4, .int i)]) hx hb d_law_745 hl (by decide) rfl (fun ls hl => ?_)
    refine lv_aload_n hx hb d_law_747 rfl (lv_at hl 3 rfl) ?_
    refine lv_aload_n hx hb d_law_748 rfl (lv_at hl 1 rfl) ?_
    refine lv_iload hx hb d_law_749 (lv_at hl 5 rfl) ?_
    refine lv_iconst (v := 1) hx hb d_law_751 (by decide) ?_
    refine lv_iadd hx hb d_law_752 ?_
    refine va_sld hx hb hX0 hbl hbA hS (hin 1 (by decide) (by decide)) d_law_753 ?_
    have hPc := hP.sub (ws' := (wMo cI cZ cJ mo_a mo)) [30, 31, 32, 33, 34, 35, 36, 37, 38, 39, 40, 41, 42, 43, 44, 45] rfl
    have hDc := hD.sub (ws' := (wMo cI cZ cJ mo_a mo)) [30, 31, 32, 33, 34, 35, 36, 37, 38, 39, 40, 41, 42, 43, 44, 45] (by decide) rfl
    have hFc := va_free (wc := (wMo cI cZ cJ mo_a mo)) hD hS hA [30, 31, 32, 33, 34, 35, 36, 37, 38, 39, 40, 41, 42, 43, 44, 45] rfl
    refine va_calli (va_runV (As := [.int (xs (i + 1).toNatClampNeg)]) (rest := []) ⟨hx, hb, hml, hown, hts⟩ (k_Model_feed l dC dI cI cZ cJ mo_a H.size hg) (cwV 1 hts (gV t_1039 t_1040 t_1041 t_63 t_1042) rfl rfl rfl hd_Model_feed ⟨Nat.le_trans (Nat.le_of_ble_eq_true rfl) hRf, Nat.le_trans (Nat.le_of_ble_eq_true rfl) hRl⟩) ⟨kP_blind, va_recv hK hP (ci := 7) (q0 := 30) rfl rfl, kP_at hPc hK hDc hN⟩ rfl rfl hl.1 rfl (lv_room (Nat.le_of_ble_eq_true rfl)) d_law_754 ⟨by omega, by omega⟩) hS (fun q _ h => hFc q h) hFc (fun r9 u t H1 locs ht hvm hw hB hz1 hk1 hS => ?_)
    rw [hw]
    obtain ⟨hP, hD⟩ := kQ_join (wr := (wSd cI cZ cJ sd_a w_a v_a (wr_a 0) (rd_a 0) (cu_a 0) (sp_a 0) sd ++ wSy cI cZ cJ cu_a cu ++ wSy cI cZ cJ sp_a sp ++ wBr cI cZ cJ w_a w_b w ++ wBr cI cZ cJ v_a v_b v ++ wWr cI cZ cJ wr_a (pb_a 0) wr ++ wRd cI cZ cJ rd_a (pb_a 0) rd ++ wPb cI cZ cJ pb_a w_a v_a pb ++ wOu cI cZ cJ ou_a ou)) (w1 := (wMo cI cZ cJ mo_a mo')) hP hD [30, 31, 32, 33, 34, 35, 36, 37, 38, 39, 40, 41, 42, 43, 44, 45] [0, 1, 2, 3, 4, 5, 6, 7, 8, 9, 10, 11, 12, 13, 14, 15, 16, 17, 18, 19, 20, 21, 22, 23, 24, 25, 26, 27, 28, 29, 46] rfl rfl (by decide) (by decide) ht hk1 hFc hB
    generalize H1 = H at hP hS ⊢
    have hP : va_P (dC, dI) vwCl (wSd cI cZ cJ sd_a w_a v_a (wr_a 0) (rd_a 0) (cu_a 0) (sp_a 0) sd ++ wSy cI cZ cJ cu_a cu ++ wSy cI cZ cJ sp_a sp ++ wBr cI cZ cJ w_a w_b w ++ wBr cI cZ cJ v_a v_b v ++ wWr cI cZ cJ wr_a (pb_a 0) wr ++ wRd cI cZ cJ rd_a (pb_a 0) rd ++ wPb cI cZ cJ pb_a w_a v_a pb ++ wMo cI cZ cJ mo_a mo' ++ wOu cI cZ cJ ou_a ou) H := hP.sub [0, 1, 2, 3, 4, 5, 6, 7, 8, 9, 10, 11, 12, 13, 14, 15, 16, 17, 18, 19, 20, 21, 22, 23, 24, 25, 26, 27, 28, 29, 31, 32, 33, 34, 35, 36, 37, 38, 39, 40, 41, 42, 43, 44, 45, 46, 30] rfl
    have hD : va_D A (wSd cI cZ cJ sd_a w_a v_a (wr_a 0) (rd_a 0) (cu_a 0) (sp_a 0) sd ++ wSy cI cZ cJ cu_a cu ++ wSy cI cZ cJ sp_a sp ++ wBr cI cZ cJ w_a w_b w ++ wBr cI cZ cJ v_a v_b v ++ wWr cI cZ cJ wr_a (pb_a 0) wr ++ wRd cI cZ cJ rd_a (pb_a 0) rd ++ wPb cI cZ cJ pb_a w_a v_a pb ++ wMo cI cZ cJ mo_a mo' ++ wOu cI cZ cJ ou_a ou) := hD.sub [0, 1, 2, 3, 4, 5, 6, 7, 8, 9, 10, 11, 12, 13, 14, 15, 16, 17, 18, 19, 20, 21, 22, 23, 24, 25, 26, 27, 28, 29, 31, 32, 33, 34, 35, 36, 37, 38, 39, 40, 41, 42, 43, 44, 45, 46, 30] (by decide) rfl
    refine lv_istore (lv' := [(6, .int q), (5, .int 2), (0, .ref b), (1, .ref (sd_a 0)), (2, .ref (mo_a 0)), (3, .ref (ou_a 0)), (4, .int i)]) hx hb d_law_757 hl (by decide) rfl (fun ls hl => ?_)
    refine lv_aload_n hx hb d_law_759 rfl (lv_at hl 4 rfl) ?_
    have hth : f_Model_thrown mo' = some (Mo_code mo') := rfl
    have hPc := hP.sub (ws' := (wMo cI cZ cJ mo_a mo')) [30, 31, 32, 33, 34, 35, 36, 37, 38, 39, 40, 41, 42, 43, 44, 45] rfl
    have hDc := hD.sub (ws' := (wMo cI cZ cJ mo_a mo')) [30, 31, 32, 33, 34, 35, 36, 37, 38, 39, 40, 41, 42, 43, 44, 45] (by decide) rfl
    have hFc := va_free (wc := (wMo cI cZ cJ mo_a mo')) hD hS hA [30, 31, 32, 33, 34, 35, 36, 37, 38, 39, 40, 41, 42, 43, 44, 45] rfl
    refine va_calli (va_runV (As := []) (rest := []) ⟨hx, hb, hml, hown, hts⟩ (k_Model_thrown l dC dI cI cZ cJ mo_a H.size hth) (cwV 0 hts (gV t_906 t_907 t_908 t_63 t_909) rfl rfl rfl hd_Model_thrown ⟨Nat.le_trans (Nat.le_of_ble_eq_true rfl) hRf, Nat.le_trans (Nat.le_of_ble_eq_true rfl) hRl⟩) ⟨kP_blind, va_recv hK hP (ci := 7) (q0 := 30) rfl rfl, kP_at hPc hK hDc hN⟩ rfl rfl hl.1 rfl (lv_room (Nat.le_of_ble_eq_true rfl)) d_law_760 ⟨by omega, by omega⟩) hS (fun q _ h => hFc q h) hFc (fun r9 u t H1 locs ht hvm hw hB hz1 hk1 hS => ?_)
    rw [hw]
    obtain ⟨hP, hD⟩ := kQ_join (wr := (wSd cI cZ cJ sd_a w_a v_a (wr_a 0) (rd_a 0) (cu_a 0) (sp_a 0) sd ++ wSy cI cZ cJ cu_a cu ++ wSy cI cZ cJ sp_a sp ++ wBr cI cZ cJ w_a w_b w ++ wBr cI cZ cJ v_a v_b v ++ wWr cI cZ cJ wr_a (pb_a 0) wr ++ wRd cI cZ cJ rd_a (pb_a 0) rd ++ wPb cI cZ cJ pb_a w_a v_a pb ++ wOu cI cZ cJ ou_a ou)) (w1 := (wMo cI cZ cJ mo_a mo')) hP hD [30, 31, 32, 33, 34, 35, 36, 37, 38, 39, 40, 41, 42, 43, 44, 45] [0, 1, 2, 3, 4, 5, 6, 7, 8, 9, 10, 11, 12, 13, 14, 15, 16, 17, 18, 19, 20, 21, 22, 23, 24, 25, 26, 27, 28, 29, 46] rfl rfl (by decide) (by decide) ht hk1 hFc hB
    generalize H1 = H at hP hS ⊢
    have hP : va_P (dC, dI) vwCl (wSd cI cZ cJ sd_a w_a v_a (wr_a 0) (rd_a 0) (cu_a 0) (sp_a 0) sd ++ wSy cI cZ cJ cu_a cu ++ wSy cI cZ cJ sp_a sp ++ wBr cI cZ cJ w_a w_b w ++ wBr cI cZ cJ v_a v_b v ++ wWr cI cZ cJ wr_a (pb_a 0) wr ++ wRd cI cZ cJ rd_a (pb_a 0) rd ++ wPb cI cZ cJ pb_a w_a v_a pb ++ wMo cI cZ cJ mo_a mo' ++ wOu cI cZ cJ ou_a ou) H := hP.sub [0, 1, 2, 3, 4, 5, 6, 7, 8, 9, 10, 11, 12, 13, 14, 15, 16, 17, 18, 19, 20, 21, 22, 23, 24, 25, 26, 27, 28, 29, 31, 32, 33, 34, 35, 36, 37, 38, 39, 40, 41, 42, 43, 44, 45, 46, 30] rfl
    have hD : va_D A (wSd cI cZ cJ sd_a w_a v_a (wr_a 0) (rd_a 0) (cu_a 0) (sp_a 0) sd ++ wSy cI cZ cJ cu_a cu ++ wSy cI cZ cJ sp_a sp ++ wBr cI cZ cJ w_a w_b w ++ wBr cI cZ cJ v_a v_b v ++ wWr cI cZ cJ wr_a (pb_a 0) wr ++ wRd cI cZ cJ rd_a (pb_a 0) rd ++ wPb cI cZ cJ pb_a w_a v_a pb ++ wMo cI cZ cJ mo_a mo' ++ wOu cI cZ cJ ou_a ou) := hD.sub [0, 1, 2, 3, 4, 5, 6, 7, 8, 9, 10, 11, 12, 13, 14, 15, 16, 17, 18, 19, 20, 21, 22, 23, 24, 25, 26, 27, 28, 29, 31, 32, 33, 34, 35, 36, 37, 38, 39, 40, 41, 42, 43, 44, 45, 46, 30] (by decide) rfl
    refine lv_iload hx hb d_law_763 (lv_at hl 1 rfl) ?_
    refine lv_icmp_eq (tgt := 770) hx hb d_law_765 (by decide) (fun _ => ?_) (fun h9 => absurd hcode h9)
    refine lv_iload hx hb d_law_770 (lv_at hl 1 rfl) ?_
    refine lv_if_ne (tgt := 787) hx hb d_law_772 (by decide) (fun _ => ?_) (fun h9 => absurd h9 (by decide))
    refine lv_goto (tgt := 1131) hx hb d_law_787 (by decide) ?_
    have hl := lv_sub (l' := [(0, .ref b), (1, .ref (sd_a 0)), (2, .ref (mo_a 0)), (3, .ref (ou_a 0)), (4, .int i)]) hl [2, 3, 4, 5, 6] rfl
    refine W.widen (k := j + 1 + Br_byL w + Br_byL v) (n := 6 * (j + 1) + 2 * Br_byL w + 2 * Br_byL v) (by omega) (by omega) ?_
    exact hk _ _ _ cu_a sp_a w_b v_b cu sp w v wr rd pb mo' ou hrel hP hD hS hl

set_option maxHeartbeats 8000000 in
set_option maxRecDepth 100000 in
theorem L_P_pass {p : Program} {l : Launch} {e : Env} {R : Room} {s : State} {m : MethodId} {args : Array Value} {below : List Frame} {meth : Method} {c : Code} {Q : State → Prop} {A : Nat → Prop} {dC : Nat → ClassId} {dI : Nat → Nat → Nat} {cI cZ cJ : ClassId} {sd_a cu_a sp_a : Nat → Nat} {w_a w_b v_a v_b : Nat} {wr_a rd_a pb_a mo_a ou_a : Nat → Nat} {sd : Sd} {cu sp : Sy} {w v : Br} {wr : Wr} {rd : Rd} {pb : Pb} {mo : Mo} {ou : Ou} {b L : Nat} {xs : Nat → Int32} {i : Int32} {j : Nat} {Rl : Sd → Sy → Sy → Br → Br → Wr → Rd → Pb → Mo → Prop} (hl9 : l.stackTraces = false) (C0 : lcx p c m s args R (dC, dI) (TYS cI cZ cJ) A b L xs i j) (hRb : ∀ sd cu sp w v wr rd pb mo, Rl sd cu sp w v wr rd pb mo → Br_byL w ≤ 40000 ∧ Br_byL v ≤ 40000) (hR0 : Rl sd cu sp w v wr rd pb mo) (hT0 : T_P_pass Rl sd cu sp w v wr rd pb mo)
    (hk : ∀ (H : Heap) (locs : List Loc) (ls : Array Slot) (cu_a sp_a : Nat → Nat) (w_b v_b : Nat) (cu sp : Sy) (w v : Br) (wr : Wr) (rd : Rd) (pb : Pb) (mo : Mo) (ou : Ou), Rl sd cu sp w v wr rd pb mo → va_P (dC, dI) vwCl (wSd cI cZ cJ sd_a w_a v_a (wr_a 0) (rd_a 0) (cu_a 0) (sp_a 0) sd ++ wSy cI cZ cJ cu_a cu ++ wSy cI cZ cJ sp_a sp ++ wBr cI cZ cJ w_a w_b w ++ wBr cI cZ cJ v_a v_b v ++ wWr cI cZ cJ wr_a (pb_a 0) wr ++ wRd cI cZ cJ rd_a (pb_a 0) rd ++ wPb cI cZ cJ pb_a w_a v_a pb ++ wMo cI cZ cJ mo_a mo ++ wOu cI cZ cJ ou_a ou) H → va_D A (wSd cI cZ cJ sd_a w_a v_a (wr_a 0) (rd_a 0) (cu_a 0) (sp_a 0) sd ++ wSy cI cZ cJ cu_a cu ++ wSy cI cZ cJ sp_a sp ++ wBr cI cZ cJ w_a w_b w ++ wBr cI cZ cJ v_a v_b v ++ wWr cI cZ cJ wr_a (pb_a 0) wr ++ wRd cI cZ cJ rd_a (pb_a 0) rd ++ wPb cI cZ cJ pb_a w_a v_a pb ++ wMo cI cZ cJ mo_a mo ++ wOu cI cZ cJ ou_a ou) → va_S A s.heap H locs → lv_has ls 7 [(0, .ref b), (1, .ref (sd_a 0)), (2, .ref (mo_a 0)), (3, .ref (ou_a 0)), (4, .int i)] → W p l e R s m args below meth c H locs (j + 1 + Br_byL w + Br_byL v) (6 * (j + 1) + 2 * Br_byL w + 2 * Br_byL v) Q (F0 m 1131 ls []))
    {H : Heap} {locs : List Loc} {ls : Array Slot} (hP : va_P (dC, dI) vwCl (wSd cI cZ cJ sd_a w_a v_a (wr_a 0) (rd_a 0) (cu_a 0) (sp_a 0) sd ++ wSy cI cZ cJ cu_a cu ++ wSy cI cZ cJ sp_a sp ++ wBr cI cZ cJ w_a w_b w ++ wBr cI cZ cJ v_a v_b v ++ wWr cI cZ cJ wr_a (pb_a 0) wr ++ wRd cI cZ cJ rd_a (pb_a 0) rd ++ wPb cI cZ cJ pb_a w_a v_a pb ++ wMo cI cZ cJ mo_a mo ++ wOu cI cZ cJ ou_a ou) H) (hD : va_D A (wSd cI cZ cJ sd_a w_a v_a (wr_a 0) (rd_a 0) (cu_a 0) (sp_a 0) sd ++ wSy cI cZ cJ cu_a cu ++ wSy cI cZ cJ sp_a sp ++ wBr cI cZ cJ w_a w_b w ++ wBr cI cZ cJ v_a v_b v ++ wWr cI cZ cJ wr_a (pb_a 0) wr ++ wRd cI cZ cJ rd_a (pb_a 0) rd ++ wPb cI cZ cJ pb_a w_a v_a pb ++ wMo cI cZ cJ mo_a mo ++ wOu cI cZ cJ ou_a ou)) (hS : va_S A s.heap H locs) (hl : lv_has ls 7 [(0, .ref b), (1, .ref (sd_a 0)), (2, .ref (mo_a 0)), (3, .ref (ou_a 0)), (4, .int i)]) : W p l e R s m args below meth c H locs (j + Br_byL w + Br_byL v) (6 * j + 2 * Br_byL w + 2 * Br_byL v) Q (F0 m 790 ls []) := by
  obtain ⟨hx, hb, hml, hown, hts, hK, hA, hA2, hRf, hRl, hN, hT, hX, hX0, hbl, hin, hj, hRc, hRs⟩ := C0
  have hbA : ¬ A b := fun h => absurd (hA2 b h) (Nat.not_le.mpr hbl)
  obtain ⟨hw0, hv0⟩ := hRb _ _ _ _ _ _ _ _ _ hR0
  unfold T_P_pass at hT0
  rcases hT0 with ⟨r, v', mo', hf, hg, hcode, hrel⟩ | ⟨hf, q, mo', hg, hcode, hrel⟩
  · obtain ⟨ou', heou⟩ : ∃ z : Ou, z = (vp_updL (Ou_f ou) 0 r.toInt64) := ⟨_, rfl⟩
    have hf1 : f_Law_pass sd w v ou = some (0, v', ou') := by
      rw [f_Law_pass, hf, bd_s, heou]
      rfl
    have hou : Ou_f ou' (0 : Int32).toNatClampNeg = r.toInt64 := by rw [heou]; exact updL_at _ _ _
    refine lv_aload_n hx hb d_law_790 rfl (lv_at hl 1 rfl) ?_
    refine lv_aload_n hx hb d_law_791 rfl (lv_at hl 3 rfl) ?_
    have hm0 := mo_Law_pass _ hf1
    try dsimp only at hm0
    have hb9 := (hRb _ _ _ _ _ _ _ _ _ hrel).2
    have hPc := hP.sub (ws' := (wSd cI cZ cJ sd_a w_a v_a (wr_a 0) (rd_a 0) (cu_a 0) (sp_a 0) sd ++ wBr cI cZ cJ w_a w_b w ++ wBr cI cZ cJ v_a v_b v ++ wOu cI cZ cJ ou_a ou)) [0, 21, 22, 23, 24, 45] rfl
    have hDc := hD.sub (ws' := (wSd cI cZ cJ sd_a w_a v_a (wr_a 0) (rd_a 0) (cu_a 0) (sp_a 0) sd ++ wBr cI cZ cJ w_a w_b w ++ wBr cI cZ cJ v_a v_b v ++ wOu cI cZ cJ ou_a ou)) [0, 21, 22, 23, 24, 45] (by decide) rfl
    have hFc := va_free (wc := (wSd cI cZ cJ sd_a w_a v_a (wr_a 0) (rd_a 0) (cu_a 0) (sp_a 0) sd ++ wBr cI cZ cJ w_a w_b w ++ wBr cI cZ cJ v_a v_b v ++ wOu cI cZ cJ ou_a ou)) hD hS hA [0, 21, 22, 23, 24, 45] rfl
    refine va_calli (w_runS (As := [.ref (sd_a 0), .ref (ou_a 0)]) (rest := []) ⟨hx, hb, hml, hown, hts⟩ (k_Law_pass l dC dI cI cZ cJ sd_a w_a w_b v_a v_b ou_a (wr_a 0) (rd_a 0) (cu_a 0) (sp_a 0) H.size hf1) (cwH_of 2 hts t_759 rfl rfl t_53 t_757 t_758 hd_Law_pass.2 ⟨Nat.le_trans (Nat.le_of_ble_eq_true rfl) hRf, Nat.le_trans (Nat.le_of_ble_eq_true rfl) hRl⟩) ⟨kP_blind, kP_at hPc hK hDc hN⟩ rfl rfl hl.1 rfl (lv_room (Nat.le_of_ble_eq_true rfl)) d_law_792 ⟨by omega, by omega⟩) hS (fun q _ h => hFc q h) hFc (fun r9 v_q1 t H1 locs ht hvm hw hB hz1 hk1 hS => ?_)
    rw [hw]
    obtain ⟨hP, hD⟩ := kQ_join (wr := (wSy cI cZ cJ cu_a cu ++ wSy cI cZ cJ sp_a sp ++ wWr cI cZ cJ wr_a (pb_a 0) wr ++ wRd cI cZ cJ rd_a (pb_a 0) rd ++ wPb cI cZ cJ pb_a w_a v_a pb ++ wMo cI cZ cJ mo_a mo)) (w1 := (wSd cI cZ cJ sd_a w_a v_a (wr_a 0) (rd_a 0) (cu_a 0) (sp_a 0) sd ++ wBr cI cZ cJ w_a w_b w ++ wBr cI cZ cJ v_a v_q1 v' ++ wOu cI cZ cJ ou_a ou')) hP hD [0, 21, 22, 23, 24, 45] [1, 2, 3, 4, 5, 6, 7, 8, 9, 10, 11, 12, 13, 14, 15, 16, 17, 18, 19, 20, 25, 26, 27, 28, 29, 30, 31, 32, 33, 34, 35, 36, 37, 38, 39, 40, 41, 42, 43, 44, 46] rfl rfl (by decide) (by decide) ht hk1 hFc hB
    generalize H1 = H at hP hS ⊢
    have hP : va_P (dC, dI) vwCl (wSd cI cZ cJ sd_a w_a v_a (wr_a 0) (rd_a 0) (cu_a 0) (sp_a 0) sd ++ wSy cI cZ cJ cu_a cu ++ wSy cI cZ cJ sp_a sp ++ wBr cI cZ cJ w_a w_b w ++ wBr cI cZ cJ v_a v_q1 v' ++ wWr cI cZ cJ wr_a (pb_a 0) wr ++ wRd cI cZ cJ rd_a (pb_a 0) rd ++ wPb cI cZ cJ pb_a w_a v_a pb ++ wMo cI cZ cJ mo_a mo ++ wOu cI cZ cJ ou_a ou') H := hP.sub [41, 0, 1, 2, 3, 4, 5, 6, 7, 8, 9, 10, 11, 12, 13, 14, 15, 16, 17, 18, 19, 42, 43, 44, 45, 20, 21, 22, 23, 24, 25, 26, 27, 28, 29, 30, 31, 32, 33, 34, 35, 36, 37, 38, 39, 40, 46] rfl
    have hD : va_D A (wSd cI cZ cJ sd_a w_a v_a (wr_a 0) (rd_a 0) (cu_a 0) (sp_a 0) sd ++ wSy cI cZ cJ cu_a cu ++ wSy cI cZ cJ sp_a sp ++ wBr cI cZ cJ w_a w_b w ++ wBr cI cZ cJ v_a v_q1 v' ++ wWr cI cZ cJ wr_a (pb_a 0) wr ++ wRd cI cZ cJ rd_a (pb_a 0) rd ++ wPb cI cZ cJ pb_a w_a v_a pb ++ wMo cI cZ cJ mo_a mo ++ wOu cI cZ cJ ou_a ou') := hD.sub [41, 0, 1, 2, 3, 4, 5, 6, 7, 8, 9, 10, 11, 12, 13, 14, 15, 16, 17, 18, 19, 42, 43, 44, 45, 20, 21, 22, 23, 24, 25, 26, 27, 28, 29, 30, 31, 32, 33, 34, 35, 36, 37, 38, 39, 40, 46] (by decide) rfl
    refine lv_istore (lv' := [(5, .int 0), (0, .ref b), (1, .ref (sd_a 0)), (2, .ref (mo_a 0)), (3, .ref (ou_a 0)), (4, .int i)]) hx hb d_law_795 hl (by decide) rfl (fun ls hl => ?_)
    refine lv_aload_n hx hb d_law_797 rfl (lv_at hl 3 rfl) ?_
    have hPc := hP.sub (ws' := (wMo cI cZ cJ mo_a mo)) [30, 31, 32, 33, 34, 35, 36, 37, 38, 39, 40, 41, 42, 43, 44, 45] rfl
    have hDc := hD.sub (ws' := (wMo cI cZ cJ mo_a mo)) [30, 31, 32, 33, 34, 35, 36, 37, 38, 39, 40, 41, 42, 43, 44, 45] (by decide) rfl
    have hFc := va_free (wc := (wMo cI cZ cJ mo_a mo)) hD hS hA [30, 31, 32, 33, 34, 35, 36, 37, 38, 39, 40, 41, 42, 43, 44, 45] rfl
    refine va_calli (va_runV (As := []) (rest := []) ⟨hx, hb, hml, hown, hts⟩ (k_Model_pass l dC dI cI cZ cJ mo_a H.size hg) (cwV 0 hts (gV t_1043 t_1044 t_1045 t_63 t_1046) rfl rfl rfl hd_Model_pass ⟨Nat.le_trans (Nat.le_of_ble_eq_true rfl) hRf, Nat.le_trans (Nat.le_of_ble_eq_true rfl) hRl⟩) ⟨kP_blind, va_recv hK hP (ci := 7) (q0 := 30) rfl rfl, kP_at hPc hK hDc hN⟩ rfl rfl hl.1 rfl (lv_room (Nat.le_of_ble_eq_true rfl)) d_law_798 ⟨by omega, by omega⟩) hS (fun q _ h => hFc q h) hFc (fun r9 u t H1 locs ht hvm hw hB hz1 hk1 hS => ?_)
    rw [hw]
    obtain ⟨hP, hD⟩ := kQ_join (wr := (wSd cI cZ cJ sd_a w_a v_a (wr_a 0) (rd_a 0) (cu_a 0) (sp_a 0) sd ++ wSy cI cZ cJ cu_a cu ++ wSy cI cZ cJ sp_a sp ++ wBr cI cZ cJ w_a w_b w ++ wBr cI cZ cJ v_a v_q1 v' ++ wWr cI cZ cJ wr_a (pb_a 0) wr ++ wRd cI cZ cJ rd_a (pb_a 0) rd ++ wPb cI cZ cJ pb_a w_a v_a pb ++ wOu cI cZ cJ ou_a ou')) (w1 := (wMo cI cZ cJ mo_a mo')) hP hD [30, 31, 32, 33, 34, 35, 36, 37, 38, 39, 40, 41, 42, 43, 44, 45] [0, 1, 2, 3, 4, 5, 6, 7, 8, 9, 10, 11, 12, 13, 14, 15, 16, 17, 18, 19, 20, 21, 22, 23, 24, 25, 26, 27, 28, 29, 46] rfl rfl (by decide) (by decide) ht hk1 hFc hB
    generalize H1 = H at hP hS ⊢
    have hP : va_P (dC, dI) vwCl (wSd cI cZ cJ sd_a w_a v_a (wr_a 0) (rd_a 0) (cu_a 0) (sp_a 0) sd ++ wSy cI cZ cJ cu_a cu ++ wSy cI cZ cJ sp_a sp ++ wBr cI cZ cJ w_a w_b w ++ wBr cI cZ cJ v_a v_q1 v' ++ wWr cI cZ cJ wr_a (pb_a 0) wr ++ wRd cI cZ cJ rd_a (pb_a 0) rd ++ wPb cI cZ cJ pb_a w_a v_a pb ++ wMo cI cZ cJ mo_a mo' ++ wOu cI cZ cJ ou_a ou') H := hP.sub [0, 1, 2, 3, 4, 5, 6, 7, 8, 9, 10, 11, 12, 13, 14, 15, 16, 17, 18, 19, 20, 21, 22, 23, 24, 25, 26, 27, 28, 29, 31, 32, 33, 34, 35, 36, 37, 38, 39, 40, 41, 42, 43, 44, 45, 46, 30] rfl
    have hD : va_D A (wSd cI cZ cJ sd_a w_a v_a (wr_a 0) (rd_a 0) (cu_a 0) (sp_a 0) sd ++ wSy cI cZ cJ cu_a cu ++ wSy cI cZ cJ sp_a sp ++ wBr cI cZ cJ w_a w_b w ++ wBr cI cZ cJ v_a v_q1 v' ++ wWr cI cZ cJ wr_a (pb_a 0) wr ++ wRd cI cZ cJ rd_a (pb_a 0) rd ++ wPb cI cZ cJ pb_a w_a v_a pb ++ wMo cI cZ cJ mo_a mo' ++ wOu cI cZ cJ ou_a ou') := hD.sub [0, 1, 2, 3, 4, 5, 6, 7, 8, 9, 10, 11, 12, 13, 14, 15, 16, 17, 18, 19, 20, 21, 22, 23, 24, 25, 26, 27, 28, 29, 31, 32, 33, 34, 35, 36, 37, 38, 39, 40, 41, 42, 43, 44, 45, 46, 30] (by decide) rfl
    refine lv_istore (lv' := [(6, .int r), (5, .int 0), (0, .ref b), (1, .ref (sd_a 0)), (2, .ref (mo_a 0)), (3, .ref (ou_a 0)), (4, .int i)]) hx hb d_law_801 hl (by decide) rfl (fun ls hl => ?_)
    refine lv_aload_n hx hb d_law_803 rfl (lv_at hl 4 rfl) ?_
    have hth : f_Model_thrown mo' = some (Mo_code mo') := rfl
    have hPc := hP.sub (ws' := (wMo cI cZ cJ mo_a mo')) [30, 31, 32, 33, 34, 35, 36, 37, 38, 39, 40, 41, 42, 43, 44, 45] rfl
    have hDc := hD.sub (ws' := (wMo cI cZ cJ mo_a mo')) [30, 31, 32, 33, 34, 35, 36, 37, 38, 39, 40, 41, 42, 43, 44, 45] (by decide) rfl
    have hFc := va_free (wc := (wMo cI cZ cJ mo_a mo')) hD hS hA [30, 31, 32, 33, 34, 35, 36, 37, 38, 39, 40, 41, 42, 43, 44, 45] rfl
    refine va_calli (va_runV (As := []) (rest := []) ⟨hx, hb, hml, hown, hts⟩ (k_Model_thrown l dC dI cI cZ cJ mo_a H.size hth) (cwV 0 hts (gV t_906 t_907 t_908 t_63 t_909) rfl rfl rfl hd_Model_thrown ⟨Nat.le_trans (Nat.le_of_ble_eq_true rfl) hRf, Nat.le_trans (Nat.le_of_ble_eq_true rfl) hRl⟩) ⟨kP_blind, va_recv hK hP (ci := 7) (q0 := 30) rfl rfl, kP_at hPc hK hDc hN⟩ rfl rfl hl.1 rfl (lv_room (Nat.le_of_ble_eq_true rfl)) d_law_804 ⟨by omega, by omega⟩) hS (fun q _ h => hFc q h) hFc (fun r9 u t H1 locs ht hvm hw hB hz1 hk1 hS => ?_)
    rw [hw]
    obtain ⟨hP, hD⟩ := kQ_join (wr := (wSd cI cZ cJ sd_a w_a v_a (wr_a 0) (rd_a 0) (cu_a 0) (sp_a 0) sd ++ wSy cI cZ cJ cu_a cu ++ wSy cI cZ cJ sp_a sp ++ wBr cI cZ cJ w_a w_b w ++ wBr cI cZ cJ v_a v_q1 v' ++ wWr cI cZ cJ wr_a (pb_a 0) wr ++ wRd cI cZ cJ rd_a (pb_a 0) rd ++ wPb cI cZ cJ pb_a w_a v_a pb ++ wOu cI cZ cJ ou_a ou')) (w1 := (wMo cI cZ cJ mo_a mo')) hP hD [30, 31, 32, 33, 34, 35, 36, 37, 38, 39, 40, 41, 42, 43, 44, 45] [0, 1, 2, 3, 4, 5, 6, 7, 8, 9, 10, 11, 12, 13, 14, 15, 16, 17, 18, 19, 20, 21, 22, 23, 24, 25, 26, 27, 28, 29, 46] rfl rfl (by decide) (by decide) ht hk1 hFc hB
    generalize H1 = H at hP hS ⊢
    have hP : va_P (dC, dI) vwCl (wSd cI cZ cJ sd_a w_a v_a (wr_a 0) (rd_a 0) (cu_a 0) (sp_a 0) sd ++ wSy cI cZ cJ cu_a cu ++ wSy cI cZ cJ sp_a sp ++ wBr cI cZ cJ w_a w_b w ++ wBr cI cZ cJ v_a v_q1 v' ++ wWr cI cZ cJ wr_a (pb_a 0) wr ++ wRd cI cZ cJ rd_a (pb_a 0) rd ++ wPb cI cZ cJ pb_a w_a v_a pb ++ wMo cI cZ cJ mo_a mo' ++ wOu cI cZ cJ ou_a ou') H := hP.sub [0, 1, 2, 3, 4, 5, 6, 7, 8, 9, 10, 11, 12, 13, 14, 15, 16, 17, 18, 19, 20, 21, 22, 23, 24, 25, 26, 27, 28, 29, 31, 32, 33, 34, 35, 36, 37, 38, 39, 40, 41, 42, 43, 44, 45, 46, 30] rfl
    have hD : va_D A (wSd cI cZ cJ sd_a w_a v_a (wr_a 0) (rd_a 0) (cu_a 0) (sp_a 0) sd ++ wSy cI cZ cJ cu_a cu ++ wSy cI cZ cJ sp_a sp ++ wBr cI cZ cJ w_a w_b w ++ wBr cI cZ cJ v_a v_q1 v' ++ wWr cI cZ cJ wr_a (pb_a 0) wr ++ wRd cI cZ cJ rd_a (pb_a 0) rd ++ wPb cI cZ cJ pb_a w_a v_a pb ++ wMo cI cZ cJ mo_a mo' ++ wOu cI cZ cJ ou_a ou') := hD.sub [0, 1, 2, 3, 4, 5, 6, 7, 8, 9, 10, 11, 12, 13, 14, 15, 16, 17, 18, 19, 20, 21, 22, 23, 24, 25, 26, 27, 28, 29, 31, 32, 33, 34, 35, 36, 37, 38, 39, 40, 41, 42, 43, 44, 45, 46, 30] (by decide) rfl
    refine lv_iload hx hb d_law_807 (lv_at hl 1 rfl) ?_
    refine lv_icmp_eq (tgt := 814) hx hb d_law_809 (by decide) (fun _ => ?_) (fun h9 => absurd hcode h9)
    refine lv_iload hx hb d_law_814 (lv_at hl 1 rfl) ?_
    refine lv_if_ne (tgt := 831) hx hb d_law_816 (by decide) (fun h9 => absurd rfl h9) (fun _ => ?_)
    refine lv_aload_n hx hb d_law_819 rfl (lv_at hl 5 rfl) ?_
    refine lv_iconst (v := 0) hx hb d_law_820 (by decide) ?_
    refine va_lald (f := Ou_f ou') hx hb hK hP 46 2 rfl rfl (inb_in (by decide)) d_law_821 ?_
    refine lv_iload hx hb d_law_822 (lv_at hl 0 rfl) ?_
    refine lv_i2l (v := r.toInt64) hx hb d_law_824 rfl ?_
    refine W.lcmp hx hb d_law_825 ?_
    refine lv_if_eq (tgt := 831) hx hb d_law_826 (by decide) (fun _ => ?_) (fun h9 => absurd (by rw [hou]; exact cmp_self _) h9)
    refine lv_goto (tgt := 1131) hx hb d_law_831 (by decide) ?_
    have hl := lv_sub (l' := [(0, .ref b), (1, .ref (sd_a 0)), (2, .ref (mo_a 0)), (3, .ref (ou_a 0)), (4, .int i)]) hl [2, 3, 4, 5, 6] rfl
    refine W.widen (k := j + 1 + Br_byL w + Br_byL v') (n := 6 * (j + 1) + 2 * Br_byL w + 2 * Br_byL v') (by omega) (by omega) ?_
    exact hk _ _ _ cu_a sp_a w_b v_q1 cu sp w v' wr rd pb mo' ou' hrel hP hD hS hl
  · refine lv_aload_n hx hb d_law_790 rfl (lv_at hl 1 rfl) ?_
    refine lv_aload_n hx hb d_law_791 rfl (lv_at hl 3 rfl) ?_
    have hPc := hP.sub (ws' := (wSd cI cZ cJ sd_a w_a v_a (wr_a 0) (rd_a 0) (cu_a 0) (sp_a 0) sd ++ wBr cI cZ cJ w_a w_b w ++ wBr cI cZ cJ v_a v_b v ++ wOu cI cZ cJ ou_a ou)) [0, 21, 22, 23, 24, 45] rfl
    have hDc := hD.sub (ws' := (wSd cI cZ cJ sd_a w_a v_a (wr_a 0) (rd_a 0) (cu_a 0) (sp_a 0) sd ++ wBr cI cZ cJ w_a w_b w ++ wBr cI cZ cJ v_a v_b v ++ wOu cI cZ cJ ou_a ou)) [0, 21, 22, 23, 24, 45] (by decide) rfl
    have hFc := va_free (wc := (wSd cI cZ cJ sd_a w_a v_a (wr_a 0) (rd_a 0) (cu_a 0) (sp_a 0) sd ++ wBr cI cZ cJ w_a w_b w ++ wBr cI cZ cJ v_a v_b v ++ wOu cI cZ cJ ou_a ou)) hD hS hA [0, 21, 22, 23, 24, 45] rfl
    refine va_calli (w_runS (As := [.ref (sd_a 0), .ref (ou_a 0)]) (rest := []) ⟨hx, hb, hml, hown, hts⟩ (kx_Law_pass_4 l hl9 dC dI cI cZ cJ sd_a w_a w_b v_a v_b ou_a (wr_a 0) (rd_a 0) (cu_a 0) (sp_a 0) H.size hf) (cwH_of 2 hts t_759 rfl rfl t_53 t_757 t_758 hd_Law_pass.2 ⟨Nat.le_trans (Nat.le_of_ble_eq_true rfl) hRf, Nat.le_trans (Nat.le_of_ble_eq_true rfl) hRl⟩) ⟨kPX_blind, kPX_at hPc hK hDc hN (fun q hq => hS.2.1 q hq (fun h9 => absurd (hA2 q h9) (Nat.not_le.mpr hq))) hT hX⟩ rfl rfl hl.1 rfl (lv_room (Nat.le_of_ble_eq_true rfl)) d_law_792 ⟨by omega, by omega⟩) hS (fun q _ h => hFc q h) hFc (fun r9 u t H1 locs ht hvm hw hB hz1 hk1 hS => ?_)
    rw [hw]
    obtain ⟨hP, hD⟩ := kQ_join (wr := (wSy cI cZ cJ cu_a cu ++ wSy cI cZ cJ sp_a sp ++ wWr cI cZ cJ wr_a (pb_a 0) wr ++ wRd cI cZ cJ rd_a (pb_a 0) rd ++ wPb cI cZ cJ pb_a w_a v_a pb ++ wMo cI cZ cJ mo_a mo)) (w1 := (wSd cI cZ cJ sd_a w_a v_a (wr_a 0) (rd_a 0) (cu_a 0) (sp_a 0) sd ++ wBr cI cZ cJ w_a w_b w ++ wBr cI cZ cJ v_a v_b v ++ wOu cI cZ cJ ou_a ou)) hP hD [0, 21, 22, 23, 24, 45] [1, 2, 3, 4, 5, 6, 7, 8, 9, 10, 11, 12, 13, 14, 15, 16, 17, 18, 19, 20, 25, 26, 27, 28, 29, 30, 31, 32, 33, 34, 35, 36, 37, 38, 39, 40, 41, 42, 43, 44, 46] rfl rfl (by decide) (by decide) ht hk1 hFc hB
    generalize H1 = H at hP hS ⊢
    have hP : va_P (dC, dI) vwCl (wSd cI cZ cJ sd_a w_a v_a (wr_a 0) (rd_a 0) (cu_a 0) (sp_a 0) sd ++ wSy cI cZ cJ cu_a cu ++ wSy cI cZ cJ sp_a sp ++ wBr cI cZ cJ w_a w_b w ++ wBr cI cZ cJ v_a v_b v ++ wWr cI cZ cJ wr_a (pb_a 0) wr ++ wRd cI cZ cJ rd_a (pb_a 0) rd ++ wPb cI cZ cJ pb_a w_a v_a pb ++ wMo cI cZ cJ mo_a mo ++ wOu cI cZ cJ ou_a ou) H := hP.sub [41, 0, 1, 2, 3, 4, 5, 6, 7, 8, 9, 10, 11, 12, 13, 14, 15, 16, 17, 18, 19, 42, 43, 44, 45, 20, 21, 22, 23, 24, 25, 26, 27, 28, 29, 30, 31, 32, 33, 34, 35, 36, 37, 38, 39, 40, 46] rfl
    have hD : va_D A (wSd cI cZ cJ sd_a w_a v_a (wr_a 0) (rd_a 0) (cu_a 0) (sp_a 0) sd ++ wSy cI cZ cJ cu_a cu ++ wSy cI cZ cJ sp_a sp ++ wBr cI cZ cJ w_a w_b w ++ wBr cI cZ cJ v_a v_b v ++ wWr cI cZ cJ wr_a (pb_a 0) wr ++ wRd cI cZ cJ rd_a (pb_a 0) rd ++ wPb cI cZ cJ pb_a w_a v_a pb ++ wMo cI cZ cJ mo_a mo ++ wOu cI cZ cJ ou_a ou) := hD.sub [41, 0, 1, 2, 3, 4, 5, 6, 7, 8, 9, 10, 11, 12, 13, 14, 15, 16, 17, 18, 19, 42, 43, 44, 45, 20, 21, 22, 23, 24, 25, 26, 27, 28, 29, 30, 31, 32, 33, 34, 35, 36, 37, 38, 39, 40, 46] (by decide) rfl
    refine lv_istore (lv' := [(5, .int 1), (0, .ref b), (1, .ref (sd_a 0)), (2, .ref (mo_a 0)), (3, .ref (ou_a 0)), (4, .int i)]) hx hb d_law_795 hl (by decide) rfl (fun ls hl => ?_)
    refine lv_aload_n hx hb d_law_797 rfl (lv_at hl 3 rfl) ?_
    have hPc := hP.sub (ws' := (wMo cI cZ cJ mo_a mo)) [30, 31, 32, 33, 34, 35, 36, 37, 38, 39, 40, 41, 42, 43, 44, 45] rfl
    have hDc := hD.sub (ws' := (wMo cI cZ cJ mo_a mo)) [30, 31, 32, 33, 34, 35, 36, 37, 38, 39, 40, 41, 42, 43, 44, 45] (by decide) rfl
    have hFc := va_free (wc := (wMo cI cZ cJ mo_a mo)) hD hS hA [30, 31, 32, 33, 34, 35, 36, 37, 38, 39, 40, 41, 42, 43, 44, 45] rfl
    refine va_calli (va_runV (As := []) (rest := []) ⟨hx, hb, hml, hown, hts⟩ (k_Model_pass l dC dI cI cZ cJ mo_a H.size hg) (cwV 0 hts (gV t_1043 t_1044 t_1045 t_63 t_1046) rfl rfl rfl hd_Model_pass ⟨Nat.le_trans (Nat.le_of_ble_eq_true rfl) hRf, Nat.le_trans (Nat.le_of_ble_eq_true rfl) hRl⟩) ⟨kP_blind, va_recv hK hP (ci := 7) (q0 := 30) rfl rfl, kP_at hPc hK hDc hN⟩ rfl rfl hl.1 rfl (lv_room (Nat.le_of_ble_eq_true rfl)) d_law_798 ⟨by omega, by omega⟩) hS (fun q _ h => hFc q h) hFc (fun r9 u t H1 locs ht hvm hw hB hz1 hk1 hS => ?_)
    rw [hw]
    obtain ⟨hP, hD⟩ := kQ_join (wr := (wSd cI cZ cJ sd_a w_a v_a (wr_a 0) (rd_a 0) (cu_a 0) (sp_a 0) sd ++ wSy cI cZ cJ cu_a cu ++ wSy cI cZ cJ sp_a sp ++ wBr cI cZ cJ w_a w_b w ++ wBr cI cZ cJ v_a v_b v ++ wWr cI cZ cJ wr_a (pb_a 0) wr ++ wRd cI cZ cJ rd_a (pb_a 0) rd ++ wPb cI cZ cJ pb_a w_a v_a pb ++ wOu cI cZ cJ ou_a ou)) (w1 := (wMo cI cZ cJ mo_a mo')) hP hD [30, 31, 32, 33, 34, 35, 36, 37, 38, 39, 40, 41, 42, 43, 44, 45] [0, 1, 2, 3, 4, 5, 6, 7, 8, 9, 10, 11, 12, 13, 14, 15, 16, 17, 18, 19, 20, 21, 22, 23, 24, 25, 26, 27, 28, 29, 46] rfl rfl (by decide) (by decide) ht hk1 hFc hB
    generalize H1 = H at hP hS ⊢
    have hP : va_P (dC, dI) vwCl (wSd cI cZ cJ sd_a w_a v_a (wr_a 0) (rd_a 0) (cu_a 0) (sp_a 0) sd ++ wSy cI cZ cJ cu_a cu ++ wSy cI cZ cJ sp_a sp ++ wBr cI cZ cJ w_a w_b w ++ wBr cI cZ cJ v_a v_b v ++ wWr cI cZ cJ wr_a (pb_a 0) wr ++ wRd cI cZ cJ rd_a (pb_a 0) rd ++ wPb cI cZ cJ pb_a w_a v_a pb ++ wMo cI cZ cJ mo_a mo' ++ wOu cI cZ cJ ou_a ou) H := hP.sub [0, 1, 2, 3, 4, 5, 6, 7, 8, 9, 10, 11, 12, 13, 14, 15, 16, 17, 18, 19, 20, 21, 22, 23, 24, 25, 26, 27, 28, 29, 31, 32, 33, 34, 35, 36, 37, 38, 39, 40, 41, 42, 43, 44, 45, 46, 30] rfl
    have hD : va_D A (wSd cI cZ cJ sd_a w_a v_a (wr_a 0) (rd_a 0) (cu_a 0) (sp_a 0) sd ++ wSy cI cZ cJ cu_a cu ++ wSy cI cZ cJ sp_a sp ++ wBr cI cZ cJ w_a w_b w ++ wBr cI cZ cJ v_a v_b v ++ wWr cI cZ cJ wr_a (pb_a 0) wr ++ wRd cI cZ cJ rd_a (pb_a 0) rd ++ wPb cI cZ cJ pb_a w_a v_a pb ++ wMo cI cZ cJ mo_a mo' ++ wOu cI cZ cJ ou_a ou) := hD.sub [0, 1, 2, 3, 4, 5, 6, 7, 8, 9, 10, 11, 12, 13, 14, 15, 16, 17, 18, 19, 20, 21, 22, 23, 24, 25, 26, 27, 28, 29, 31, 32, 33, 34, 35, 36, 37, 38, 39, 40, 41, 42, 43, 44, 45, 46, 30] (by decide) rfl
    refine lv_istore (lv' := [(6, .int q), (5, .int 1), (0, .ref b), (1, .ref (sd_a 0)), (2, .ref (mo_a 0)), (3, .ref (ou_a 0)), (4, .int i)]) hx hb d_law_801 hl (by decide) rfl (fun ls hl => ?_)
    refine lv_aload_n hx hb d_law_803 rfl (lv_at hl 4 rfl) ?_
    have hth : f_Model_thrown mo' = some (Mo_code mo') := rfl
    have hPc := hP.sub (ws' := (wMo cI cZ cJ mo_a mo')) [30, 31, 32, 33, 34, 35, 36, 37, 38, 39, 40, 41, 42, 43, 44, 45] rfl
    have hDc := hD.sub (ws' := (wMo cI cZ cJ mo_a mo')) [30, 31, 32, 33, 34, 35, 36, 37, 38, 39, 40, 41, 42, 43, 44, 45] (by decide) rfl
    have hFc := va_free (wc := (wMo cI cZ cJ mo_a mo')) hD hS hA [30, 31, 32, 33, 34, 35, 36, 37, 38, 39, 40, 41, 42, 43, 44, 45] rfl
    refine va_calli (va_runV (As := []) (rest := []) ⟨hx, hb, hml, hown, hts⟩ (k_Model_thrown l dC dI cI cZ cJ mo_a H.size hth) (cwV 0 hts (gV t_906 t_907 t_908 t_63 t_909) rfl rfl rfl hd_Model_thrown ⟨Nat.le_trans (Nat.le_of_ble_eq_true rfl) hRf, Nat.le_trans (Nat.le_of_ble_eq_true rfl) hRl⟩) ⟨kP_blind, va_recv hK hP (ci := 7) (q0 := 30) rfl rfl, kP_at hPc hK hDc hN⟩ rfl rfl hl.1 rfl (lv_room (Nat.le_of_ble_eq_true rfl)) d_law_804 ⟨by omega, by omega⟩) hS (fun q _ h => hFc q h) hFc (fun r9 u t H1 locs ht hvm hw hB hz1 hk1 hS => ?_)
    rw [hw]
    obtain ⟨hP, hD⟩ := kQ_join (wr := (wSd cI cZ cJ sd_a w_a v_a (wr_a 0) (rd_a 0) (cu_a 0) (sp_a 0) sd ++ wSy cI cZ cJ cu_a cu ++ wSy cI cZ cJ sp_a sp ++ wBr cI cZ cJ w_a w_b w ++ wBr cI cZ cJ v_a v_b v ++ wWr cI cZ cJ wr_a (pb_a 0) wr ++ wRd cI cZ cJ rd_a (pb_a 0) rd ++ wPb cI cZ cJ pb_a w_a v_a pb ++ wOu cI cZ cJ ou_a ou)) (w1 := (wMo cI cZ cJ mo_a mo')) hP hD [30, 31, 32, 33, 34, 35, 36, 37, 38, 39, 40, 41, 42, 43, 44, 45] [0, 1, 2, 3, 4, 5, 6, 7, 8, 9, 10, 11, 12, 13, 14, 15, 16, 17, 18, 19, 20, 21, 22, 23, 24, 25, 26, 27, 28, 29, 46] rfl rfl (by decide) (by decide) ht hk1 hFc hB
    generalize H1 = H at hP hS ⊢
    have hP : va_P (dC, dI) vwCl (wSd cI cZ cJ sd_a w_a v_a (wr_a 0) (rd_a 0) (cu_a 0) (sp_a 0) sd ++ wSy cI cZ cJ cu_a cu ++ wSy cI cZ cJ sp_a sp ++ wBr cI cZ cJ w_a w_b w ++ wBr cI cZ cJ v_a v_b v ++ wWr cI cZ cJ wr_a (pb_a 0) wr ++ wRd cI cZ cJ rd_a (pb_a 0) rd ++ wPb cI cZ cJ pb_a w_a v_a pb ++ wMo cI cZ cJ mo_a mo' ++ wOu cI cZ cJ ou_a ou) H := hP.sub [0, 1, 2, 3, 4, 5, 6, 7, 8, 9, 10, 11, 12, 13, 14, 15, 16, 17, 18, 19, 20, 21, 22, 23, 24, 25, 26, 27, 28, 29, 31, 32, 33, 34, 35, 36, 37, 38, 39, 40, 41, 42, 43, 44, 45, 46, 30] rfl
    have hD : va_D A (wSd cI cZ cJ sd_a w_a v_a (wr_a 0) (rd_a 0) (cu_a 0) (sp_a 0) sd ++ wSy cI cZ cJ cu_a cu ++ wSy cI cZ cJ sp_a sp ++ wBr cI cZ cJ w_a w_b w ++ wBr cI cZ cJ v_a v_b v ++ wWr cI cZ cJ wr_a (pb_a 0) wr ++ wRd cI cZ cJ rd_a (pb_a 0) rd ++ wPb cI cZ cJ pb_a w_a v_a pb ++ wMo cI cZ cJ mo_a mo' ++ wOu cI cZ cJ ou_a ou) := hD.sub [0, 1, 2, 3, 4, 5, 6, 7, 8, 9, 10, 11, 12, 13, 14, 15, 16, 17, 18, 19, 20, 21, 22, 23, 24, 25, 26, 27, 28, 29, 31, 32, 33, 34, 35, 36, 37, 38, 39, 40, 41, 42, 43, 44, 45, 46, 30] (by decide) rfl
    refine lv_iload hx hb d_law_807 (lv_at hl 1 rfl) ?_
    refine lv_icmp_eq (tgt := 814) hx hb d_law_809 (by decide) (fun _ => ?_) (fun h9 => absurd hcode h9)
    refine lv_iload hx hb d_law_814 (lv_at hl 1 rfl) ?_
    refine lv_if_ne (tgt := 831) hx hb d_law_816 (by decide) (fun _ => ?_) (fun h9 => absurd h9 (by decide))
    refine lv_goto (tgt := 1131) hx hb d_law_831 (by decide) ?_
    have hl := lv_sub (l' := [(0, .ref b), (1, .ref (sd_a 0)), (2, .ref (mo_a 0)), (3, .ref (ou_a 0)), (4, .int i)]) hl [2, 3, 4, 5, 6] rfl
    refine W.widen (k := j + 1 + Br_byL w + Br_byL v) (n := 6 * (j + 1) + 2 * Br_byL w + 2 * Br_byL v) (by omega) (by omega) ?_
    exact hk _ _ _ cu_a sp_a w_b v_b cu sp w v wr rd pb mo' ou hrel hP hD hS hl

set_option maxHeartbeats 8000000 in
set_option maxRecDepth 100000 in
theorem L_P_read {p : Program} {l : Launch} {e : Env} {R : Room} {s : State} {m : MethodId} {args : Array Value} {below : List Frame} {meth : Method} {c : Code} {Q : State → Prop} {A : Nat → Prop} {dC : Nat → ClassId} {dI : Nat → Nat → Nat} {cI cZ cJ : ClassId} {sd_a cu_a sp_a : Nat → Nat} {w_a w_b v_a v_b : Nat} {wr_a rd_a pb_a mo_a ou_a : Nat → Nat} {sd : Sd} {cu sp : Sy} {w v : Br} {wr : Wr} {rd : Rd} {pb : Pb} {mo : Mo} {ou : Ou} {b L : Nat} {xs : Nat → Int32} {i : Int32} {j : Nat} {Rl : Sd → Sy → Sy → Br → Br → Wr → Rd → Pb → Mo → Prop} (hl9 : l.stackTraces = false) (C0 : lcx p c m s args R (dC, dI) (TYS cI cZ cJ) A b L xs i j) (hRb : ∀ sd cu sp w v wr rd pb mo, Rl sd cu sp w v wr rd pb mo → Br_byL w ≤ 40000 ∧ Br_byL v ≤ 40000) (hR0 : Rl sd cu sp w v wr rd pb mo) (hT0 : T_P_read Rl sd cu sp w v wr rd pb mo)
    (hk : ∀ (H : Heap) (locs : List Loc) (ls : Array Slot) (cu_a sp_a : Nat → Nat) (w_b v_b : Nat) (cu sp : Sy) (w v : Br) (wr : Wr) (rd : Rd) (pb : Pb) (mo : Mo) (ou : Ou), Rl sd cu sp w v wr rd pb mo → va_P (dC, dI) vwCl (wSd cI cZ cJ sd_a w_a v_a (wr_a 0) (rd_a 0) (cu_a 0) (sp_a 0) sd ++ wSy cI cZ cJ cu_a cu ++ wSy cI cZ cJ sp_a sp ++ wBr cI cZ cJ w_a w_b w ++ wBr cI cZ cJ v_a v_b v ++ wWr cI cZ cJ wr_a (pb_a 0) wr ++ wRd cI cZ cJ rd_a (pb_a 0) rd ++ wPb cI cZ cJ pb_a w_a v_a pb ++ wMo cI cZ cJ mo_a mo ++ wOu cI cZ cJ ou_a ou) H → va_D A (wSd cI cZ cJ sd_a w_a v_a (wr_a 0) (rd_a 0) (cu_a 0) (sp_a 0) sd ++ wSy cI cZ cJ cu_a cu ++ wSy cI cZ cJ sp_a sp ++ wBr cI cZ cJ w_a w_b w ++ wBr cI cZ cJ v_a v_b v ++ wWr cI cZ cJ wr_a (pb_a 0) wr ++ wRd cI cZ cJ rd_a (pb_a 0) rd ++ wPb cI cZ cJ pb_a w_a v_a pb ++ wMo cI cZ cJ mo_a mo ++ wOu cI cZ cJ ou_a ou) → va_S A s.heap H locs → lv_has ls 7 [(0, .ref b), (1, .ref (sd_a 0)), (2, .ref (mo_a 0)), (3, .ref (ou_a 0)), (4, .int i)] → W p l e R s m args below meth c H locs (j + 1 + Br_byL w + Br_byL v) (6 * (j + 1) + 2 * Br_byL w + 2 * Br_byL v) Q (F0 m 1131 ls []))
    {H : Heap} {locs : List Loc} {ls : Array Slot} (hP : va_P (dC, dI) vwCl (wSd cI cZ cJ sd_a w_a v_a (wr_a 0) (rd_a 0) (cu_a 0) (sp_a 0) sd ++ wSy cI cZ cJ cu_a cu ++ wSy cI cZ cJ sp_a sp ++ wBr cI cZ cJ w_a w_b w ++ wBr cI cZ cJ v_a v_b v ++ wWr cI cZ cJ wr_a (pb_a 0) wr ++ wRd cI cZ cJ rd_a (pb_a 0) rd ++ wPb cI cZ cJ pb_a w_a v_a pb ++ wMo cI cZ cJ mo_a mo ++ wOu cI cZ cJ ou_a ou) H) (hD : va_D A (wSd cI cZ cJ sd_a w_a v_a (wr_a 0) (rd_a 0) (cu_a 0) (sp_a 0) sd ++ wSy cI cZ cJ cu_a cu ++ wSy cI cZ cJ sp_a sp ++ wBr cI cZ cJ w_a w_b w ++ wBr cI cZ cJ v_a v_b v ++ wWr cI cZ cJ wr_a (pb_a 0) wr ++ wRd cI cZ cJ rd_a (pb_a 0) rd ++ wPb cI cZ cJ pb_a w_a v_a pb ++ wMo cI cZ cJ mo_a mo ++ wOu cI cZ cJ ou_a ou)) (hS : va_S A s.heap H locs) (hl : lv_has ls 7 [(0, .ref b), (1, .ref (sd_a 0)), (2, .ref (mo_a 0)), (3, .ref (ou_a 0)), (4, .int i)]) : W p l e R s m args below meth c H locs (j + Br_byL w + Br_byL v) (6 * j + 2 * Br_byL w + 2 * Br_byL v) Q (F0 m 834 ls []) := by
  obtain ⟨hx, hb, hml, hown, hts, hK, hA, hA2, hRf, hRl, hN, hT, hX, hX0, hbl, hin, hj, hRc, hRs⟩ := C0
  have hbA : ¬ A b := fun h => absurd (hA2 b h) (Nat.not_le.mpr hbl)
  obtain ⟨hw0, hv0⟩ := hRb _ _ _ _ _ _ _ _ _ hR0
  unfold T_P_read at hT0
  rcases hT0 with ⟨r, rd', pb', v', sp', mo', hf, hg, hlen, hrel⟩ | ⟨r, rd', pb', v', sp', mo', hf, hg, hlen, hrel⟩
  · refine lv_aload_n hx hb d_law_834 rfl (lv_at hl 1 rfl) ?_
    have hPc := hP.sub (ws' := (wSd cI cZ cJ sd_a w_a v_a (wr_a 0) (rd_a 0) (cu_a 0) (sp_a 0) sd ++ wRd cI cZ cJ rd_a (pb_a 0) rd ++ wPb cI cZ cJ pb_a w_a v_a pb ++ wBr cI cZ cJ v_a v_b v ++ wSy cI cZ cJ cu_a cu ++ wSy cI cZ cJ sp_a sp)) [0, 28, 29, 23, 24, 1, 2, 3, 4, 5, 6, 7, 8, 9, 10, 11, 12, 13, 14, 15, 16, 17, 18, 19, 20] rfl
    have hDc := hD.sub (ws' := (wSd cI cZ cJ sd_a w_a v_a (wr_a 0) (rd_a 0) (cu_a 0) (sp_a 0) sd ++ wRd cI cZ cJ rd_a (pb_a 0) rd ++ wPb cI cZ cJ pb_a w_a v_a pb ++ wBr cI cZ cJ v_a v_b v ++ wSy cI cZ cJ cu_a cu ++ wSy cI cZ cJ sp_a sp)) [0, 28, 29, 23, 24, 1, 2, 3, 4, 5, 6, 7, 8, 9, 10, 11, 12, 13, 14, 15, 16, 17, 18, 19, 20] (by decide) rfl
    have hFc := va_free (wc := (wSd cI cZ cJ sd_a w_a v_a (wr_a 0) (rd_a 0) (cu_a 0) (sp_a 0) sd ++ wRd cI cZ cJ rd_a (pb_a 0) rd ++ wPb cI cZ cJ pb_a w_a v_a pb ++ wBr cI cZ cJ v_a v_b v ++ wSy cI cZ cJ cu_a cu ++ wSy cI cZ cJ sp_a sp)) hD hS hA [0, 28, 29, 23, 24, 1, 2, 3, 4, 5, 6, 7, 8, 9, 10, 11, 12, 13, 14, 15, 16, 17, 18, 19, 20] rfl
    refine va_calli (va_runV (As := []) (rest := []) ⟨hx, hb, hml, hown, hts⟩ (k_P_SD_readN l dC dI cI cZ cJ sd_a rd_a pb_a v_a v_b cu_a sp_a w_a (wr_a 0) H.size hf) (cwV 0 hts (gV t_433 t_434 t_435 t_54 t_436) rfl rfl rfl hd_SD_read ⟨Nat.le_trans (Nat.le_of_ble_eq_true rfl) hRf, Nat.le_trans (Nat.le_of_ble_eq_true rfl) hRl⟩) ⟨kP_blind, va_recv hK hP (ci := 6) (q0 := 0) rfl rfl, kP_at hPc hK hDc hN⟩ rfl rfl hl.1 rfl (lv_room (Nat.le_of_ble_eq_true rfl)) d_law_835 ⟨by omega, by omega⟩) hS (fun q _ h => hFc q h) hFc (fun r9 u t H1 locs ht hvm hw hB hz1 hk1 hS => ?_)
    rw [hw]
    obtain ⟨hP, hD⟩ := kQ_join (wr := (wBr cI cZ cJ w_a w_b w ++ wWr cI cZ cJ wr_a (pb_a 0) wr ++ wMo cI cZ cJ mo_a mo ++ wOu cI cZ cJ ou_a ou)) (w1 := (wSd cI cZ cJ sd_a w_a v_a (wr_a 0) (rd_a 0) (cu_a 0) (sp_a 0) sd ++ wRd cI cZ cJ rd_a (pb_a 0) rd' ++ wPb cI cZ cJ pb_a w_a v_a pb' ++ wBr cI cZ cJ v_a v_b v' ++ wSy cI cZ cJ cu_a cu ++ wSy cI cZ cJ sp_a sp')) hP hD [0, 28, 29, 23, 24, 1, 2, 3, 4, 5, 6, 7, 8, 9, 10, 11, 12, 13, 14, 15, 16, 17, 18, 19, 20] [21, 22, 25, 26, 27, 30, 31, 32, 33, 34, 35, 36, 37, 38, 39, 40, 41, 42, 43, 44, 45, 46] rfl rfl (by decide) (by decide) ht hk1 hFc hB
    generalize H1 = H at hP hS ⊢
    have hP : va_P (dC, dI) vwCl (wSd cI cZ cJ sd_a w_a v_a (wr_a 0) (rd_a 0) (cu_a 0) (sp_a 0) sd ++ wSy cI cZ cJ cu_a cu ++ wSy cI cZ cJ sp_a sp' ++ wBr cI cZ cJ w_a w_b w ++ wBr cI cZ cJ v_a v_b v' ++ wWr cI cZ cJ wr_a (pb_a 0) wr ++ wRd cI cZ cJ rd_a (pb_a 0) rd' ++ wPb cI cZ cJ pb_a w_a v_a pb' ++ wMo cI cZ cJ mo_a mo ++ wOu cI cZ cJ ou_a ou) H := hP.sub [22, 27, 28, 29, 30, 31, 32, 33, 34, 35, 36, 37, 38, 39, 40, 41, 42, 43, 44, 45, 46, 0, 1, 25, 26, 2, 3, 4, 23, 24, 5, 6, 7, 8, 9, 10, 11, 12, 13, 14, 15, 16, 17, 18, 19, 20, 21] rfl
    have hD : va_D A (wSd cI cZ cJ sd_a w_a v_a (wr_a 0) (rd_a 0) (cu_a 0) (sp_a 0) sd ++ wSy cI cZ cJ cu_a cu ++ wSy cI cZ cJ sp_a sp' ++ wBr cI cZ cJ w_a w_b w ++ wBr cI cZ cJ v_a v_b v' ++ wWr cI cZ cJ wr_a (pb_a 0) wr ++ wRd cI cZ cJ rd_a (pb_a 0) rd' ++ wPb cI cZ cJ pb_a w_a v_a pb' ++ wMo cI cZ cJ mo_a mo ++ wOu cI cZ cJ ou_a ou) := hD.sub [22, 27, 28, 29, 30, 31, 32, 33, 34, 35, 36, 37, 38, 39, 40, 41, 42, 43, 44, 45, 46, 0, 1, 25, 26, 2, 3, 4, 23, 24, 5, 6, 7, 8, 9, 10, 11, 12, 13, 14, 15, 16, 17, 18, 19, 20, 21] (by decide) rfl
    refine lv_aload_n hx hb d_law_838 rfl (lv_at hl 2 rfl) ?_
    have hPc := hP.sub (ws' := (wMo cI cZ cJ mo_a mo)) [30, 31, 32, 33, 34, 35, 36, 37, 38, 39, 40, 41, 42, 43, 44, 45] rfl
    have hDc := hD.sub (ws' := (wMo cI cZ cJ mo_a mo)) [30, 31, 32, 33, 34, 35, 36, 37, 38, 39, 40, 41, 42, 43, 44, 45] (by decide) rfl
    have hFc := va_free (wc := (wMo cI cZ cJ mo_a mo)) hD hS hA [30, 31, 32, 33, 34, 35, 36, 37, 38, 39, 40, 41, 42, 43, 44, 45] rfl
    refine va_calli (va_runV (As := []) (rest := [.int r]) ⟨hx, hb, hml, hown, hts⟩ (k_Model_read l dC dI cI cZ cJ mo_a H.size hg) (cwV 0 hts (gV t_1047 t_1048 t_1049 t_63 t_1050) rfl rfl rfl hd_Model_read ⟨Nat.le_trans (Nat.le_of_ble_eq_true rfl) hRf, Nat.le_trans (Nat.le_of_ble_eq_true rfl) hRl⟩) ⟨kP_blind, va_recv hK hP (ci := 7) (q0 := 30) rfl rfl, kP_at hPc hK hDc hN⟩ rfl rfl hl.1 rfl (lv_room (Nat.le_of_ble_eq_true rfl)) d_law_839 ⟨by omega, by omega⟩) hS (fun q _ h => hFc q h) hFc (fun r9 u t H1 locs ht hvm hw hB hz1 hk1 hS => ?_)
    rw [hw]
    obtain ⟨hP, hD⟩ := kQ_join (wr := (wSd cI cZ cJ sd_a w_a v_a (wr_a 0) (rd_a 0) (cu_a 0) (sp_a 0) sd ++ wSy cI cZ cJ cu_a cu ++ wSy cI cZ cJ sp_a sp' ++ wBr cI cZ cJ w_a w_b w ++ wBr cI cZ cJ v_a v_b v' ++ wWr cI cZ cJ wr_a (pb_a 0) wr ++ wRd cI cZ cJ rd_a (pb_a 0) rd' ++ wPb cI cZ cJ pb_a w_a v_a pb' ++ wOu cI cZ cJ ou_a ou)) (w1 := (wMo cI cZ cJ mo_a mo')) hP hD [30, 31, 32, 33, 34, 35, 36, 37, 38, 39, 40, 41, 42, 43, 44, 45] [0, 1, 2, 3, 4, 5, 6, 7, 8, 9, 10, 11, 12, 13, 14, 15, 16, 17, 18, 19, 20, 21, 22, 23, 24, 25, 26, 27, 28, 29, 46] rfl rfl (by decide) (by decide) ht hk1 hFc hB
    generalize H1 = H at hP hS ⊢
    have hP : va_P (dC, dI) vwCl (wSd cI cZ cJ sd_a w_a v_a (wr_a 0) (rd_a 0) (cu_a 0) (sp_a 0) sd ++ wSy cI cZ cJ cu_a cu ++ wSy cI cZ cJ sp_a sp' ++ wBr cI cZ cJ w_a w_b w ++ wBr cI cZ cJ v_a v_b v' ++ wWr cI cZ cJ wr_a (pb_a 0) wr ++ wRd cI cZ cJ rd_a (pb_a 0) rd' ++ wPb cI cZ cJ pb_a w_a v_a pb' ++ wMo cI cZ cJ mo_a mo' ++ wOu cI cZ cJ ou_a ou) H := hP.sub [0, 1, 2, 3, 4, 5, 6, 7, 8, 9, 10, 11, 12, 13, 14, 15, 16, 17, 18, 19, 20, 21, 22, 23, 24, 25, 26, 27, 28, 29, 31, 32, 33, 34, 35, 36, 37, 38, 39, 40, 41, 42, 43, 44, 45, 46, 30] rfl
    have hD : va_D A (wSd cI cZ cJ sd_a w_a v_a (wr_a 0) (rd_a 0) (cu_a 0) (sp_a 0) sd ++ wSy cI cZ cJ cu_a cu ++ wSy cI cZ cJ sp_a sp' ++ wBr cI cZ cJ w_a w_b w ++ wBr cI cZ cJ v_a v_b v' ++ wWr cI cZ cJ wr_a (pb_a 0) wr ++ wRd cI cZ cJ rd_a (pb_a 0) rd' ++ wPb cI cZ cJ pb_a w_a v_a pb' ++ wMo cI cZ cJ mo_a mo' ++ wOu cI cZ cJ ou_a ou) := hD.sub [0, 1, 2, 3, 4, 5, 6, 7, 8, 9, 10, 11, 12, 13, 14, 15, 16, 17, 18, 19, 20, 21, 22, 23, 24, 25, 26, 27, 28, 29, 31, 32, 33, 34, 35, 36, 37, 38, 39, 40, 41, 42, 43, 44, 45, 46, 30] (by decide) rfl
    refine lv_icmp_eq (tgt := 1131) hx hb d_law_842 (by decide) (fun _ => ?_) (fun h9 => absurd rfl h9)
    have hl := lv_sub (l' := [(0, .ref b), (1, .ref (sd_a 0)), (2, .ref (mo_a 0)), (3, .ref (ou_a 0)), (4, .int i)]) hl [0, 1, 2, 3, 4] rfl
    refine W.widen (k := j + 1 + Br_byL w + Br_byL v') (n := 6 * (j + 1) + 2 * Br_byL w + 2 * Br_byL v') (by omega) (by omega) ?_
    exact hk _ _ _ cu_a sp_a w_b v_b cu sp' w v' wr rd' pb' mo' ou hrel hP hD hS hl
  · refine lv_aload_n hx hb d_law_834 rfl (lv_at hl 1 rfl) ?_
    have hPc := hP.sub (ws' := (wSd cI cZ cJ sd_a w_a v_a (wr_a 0) (rd_a 0) (cu_a 0) (sp_a 0) sd ++ wRd cI cZ cJ rd_a (pb_a 0) rd ++ wPb cI cZ cJ pb_a w_a v_a pb ++ wBr cI cZ cJ v_a v_b v ++ wSy cI cZ cJ cu_a cu ++ wSy cI cZ cJ sp_a sp)) [0, 28, 29, 23, 24, 1, 2, 3, 4, 5, 6, 7, 8, 9, 10, 11, 12, 13, 14, 15, 16, 17, 18, 19, 20] rfl
    have hDc := hD.sub (ws' := (wSd cI cZ cJ sd_a w_a v_a (wr_a 0) (rd_a 0) (cu_a 0) (sp_a 0) sd ++ wRd cI cZ cJ rd_a (pb_a 0) rd ++ wPb cI cZ cJ pb_a w_a v_a pb ++ wBr cI cZ cJ v_a v_b v ++ wSy cI cZ cJ cu_a cu ++ wSy cI cZ cJ sp_a sp)) [0, 28, 29, 23, 24, 1, 2, 3, 4, 5, 6, 7, 8, 9, 10, 11, 12, 13, 14, 15, 16, 17, 18, 19, 20] (by decide) rfl
    have hFc := va_free (wc := (wSd cI cZ cJ sd_a w_a v_a (wr_a 0) (rd_a 0) (cu_a 0) (sp_a 0) sd ++ wRd cI cZ cJ rd_a (pb_a 0) rd ++ wPb cI cZ cJ pb_a w_a v_a pb ++ wBr cI cZ cJ v_a v_b v ++ wSy cI cZ cJ cu_a cu ++ wSy cI cZ cJ sp_a sp)) hD hS hA [0, 28, 29, 23, 24, 1, 2, 3, 4, 5, 6, 7, 8, 9, 10, 11, 12, 13, 14, 15, 16, 17, 18, 19, 20] rfl
    refine va_calli (va_runV (As := []) (rest := []) ⟨hx, hb, hml, hown, hts⟩ (k_P_SD_readY l dC dI cI cZ cJ sd_a rd_a pb_a v_a v_b cu_a sp_a w_a (wr_a 0) H.size hf) (cwV 0 hts (gV t_433 t_434 t_435 t_54 t_436) rfl rfl rfl hd_SD_read ⟨Nat.le_trans (Nat.le_of_ble_eq_true rfl) hRf, Nat.le_trans (Nat.le_of_ble_eq_true rfl) hRl⟩) ⟨kP_blind, va_recv hK hP (ci := 6) (q0 := 0) rfl rfl, kP_at hPc hK hDc hN⟩ rfl rfl hl.1 rfl (lv_room (Nat.le_of_ble_eq_true rfl)) d_law_835 ⟨by omega, by omega⟩) hS (fun q _ h => hFc q h) hFc (fun r9 u t H1 locs ht hvm hw hB hz1 hk1 hS => ?_)
    rw [hw]
    obtain ⟨hP, hD⟩ := kQ_join (wr := (wBr cI cZ cJ w_a w_b w ++ wWr cI cZ cJ wr_a (pb_a 0) wr ++ wMo cI cZ cJ mo_a mo ++ wOu cI cZ cJ ou_a ou)) (w1 := (wSd cI cZ cJ sd_a w_a v_a (wr_a 0) (rd_a 0) (sp_a 0) (cu_a 0) sd ++ wRd cI cZ cJ rd_a (pb_a 0) rd' ++ wPb cI cZ cJ pb_a w_a v_a pb' ++ wBr cI cZ cJ v_a v_b v' ++ wSy cI cZ cJ cu_a cu ++ wSy cI cZ cJ sp_a sp')) hP hD [0, 28, 29, 23, 24, 1, 2, 3, 4, 5, 6, 7, 8, 9, 10, 11, 12, 13, 14, 15, 16, 17, 18, 19, 20] [21, 22, 25, 26, 27, 30, 31, 32, 33, 34, 35, 36, 37, 38, 39, 40, 41, 42, 43, 44, 45, 46] rfl rfl (by decide) (by decide) ht hk1 hFc hB
    generalize H1 = H at hP hS ⊢
    have hP : va_P (dC, dI) vwCl (wSd cI cZ cJ sd_a w_a v_a (wr_a 0) (rd_a 0) (sp_a 0) (cu_a 0) sd ++ wSy cI cZ cJ cu_a cu ++ wSy cI cZ cJ sp_a sp' ++ wBr cI cZ cJ w_a w_b w ++ wBr cI cZ cJ v_a v_b v' ++ wWr cI cZ cJ wr_a (pb_a 0) wr ++ wRd cI cZ cJ rd_a (pb_a 0) rd' ++ wPb cI cZ cJ pb_a w_a v_a pb' ++ wMo cI cZ cJ mo_a mo ++ wOu cI cZ cJ ou_a ou) H := hP.sub [22, 27, 28, 29, 30, 31, 32, 33, 34, 35, 36, 37, 38, 39, 40, 41, 42, 43, 44, 45, 46, 0, 1, 25, 26, 2, 3, 4, 23, 24, 5, 6, 7, 8, 9, 10, 11, 12, 13, 14, 15, 16, 17, 18, 19, 20, 21] rfl
    have hD : va_D A (wSd cI cZ cJ sd_a w_a v_a (wr_a 0) (rd_a 0) (sp_a 0) (cu_a 0) sd ++ wSy cI cZ cJ cu_a cu ++ wSy cI cZ cJ sp_a sp' ++ wBr cI cZ cJ w_a w_b w ++ wBr cI cZ cJ v_a v_b v' ++ wWr cI cZ cJ wr_a (pb_a 0) wr ++ wRd cI cZ cJ rd_a (pb_a 0) rd' ++ wPb cI cZ cJ pb_a w_a v_a pb' ++ wMo cI cZ cJ mo_a mo ++ wOu cI cZ cJ ou_a ou) := hD.sub [22, 27, 28, 29, 30, 31, 32, 33, 34, 35, 36, 37, 38, 39, 40, 41, 42, 43, 44, 45, 46, 0, 1, 25, 26, 2, 3, 4, 23, 24, 5, 6, 7, 8, 9, 10, 11, 12, 13, 14, 15, 16, 17, 18, 19, 20, 21] (by decide) rfl
    refine lv_aload_n hx hb d_law_838 rfl (lv_at hl 2 rfl) ?_
    have hPc := hP.sub (ws' := (wMo cI cZ cJ mo_a mo)) [30, 31, 32, 33, 34, 35, 36, 37, 38, 39, 40, 41, 42, 43, 44, 45] rfl
    have hDc := hD.sub (ws' := (wMo cI cZ cJ mo_a mo)) [30, 31, 32, 33, 34, 35, 36, 37, 38, 39, 40, 41, 42, 43, 44, 45] (by decide) rfl
    have hFc := va_free (wc := (wMo cI cZ cJ mo_a mo)) hD hS hA [30, 31, 32, 33, 34, 35, 36, 37, 38, 39, 40, 41, 42, 43, 44, 45] rfl
    refine va_calli (va_runV (As := []) (rest := [.int r]) ⟨hx, hb, hml, hown, hts⟩ (k_Model_read l dC dI cI cZ cJ mo_a H.size hg) (cwV 0 hts (gV t_1047 t_1048 t_1049 t_63 t_1050) rfl rfl rfl hd_Model_read ⟨Nat.le_trans (Nat.le_of_ble_eq_true rfl) hRf, Nat.le_trans (Nat.le_of_ble_eq_true rfl) hRl⟩) ⟨kP_blind, va_recv hK hP (ci := 7) (q0 := 30) rfl rfl, kP_at hPc hK hDc hN⟩ rfl rfl hl.1 rfl (lv_room (Nat.le_of_ble_eq_true rfl)) d_law_839 ⟨by omega, by omega⟩) hS (fun q _ h => hFc q h) hFc (fun r9 u t H1 locs ht hvm hw hB hz1 hk1 hS => ?_)
    rw [hw]
    obtain ⟨hP, hD⟩ := kQ_join (wr := (wSd cI cZ cJ sd_a w_a v_a (wr_a 0) (rd_a 0) (sp_a 0) (cu_a 0) sd ++ wSy cI cZ cJ cu_a cu ++ wSy cI cZ cJ sp_a sp' ++ wBr cI cZ cJ w_a w_b w ++ wBr cI cZ cJ v_a v_b v' ++ wWr cI cZ cJ wr_a (pb_a 0) wr ++ wRd cI cZ cJ rd_a (pb_a 0) rd' ++ wPb cI cZ cJ pb_a w_a v_a pb' ++ wOu cI cZ cJ ou_a ou)) (w1 := (wMo cI cZ cJ mo_a mo')) hP hD [30, 31, 32, 33, 34, 35, 36, 37, 38, 39, 40, 41, 42, 43, 44, 45] [0, 1, 2, 3, 4, 5, 6, 7, 8, 9, 10, 11, 12, 13, 14, 15, 16, 17, 18, 19, 20, 21, 22, 23, 24, 25, 26, 27, 28, 29, 46] rfl rfl (by decide) (by decide) ht hk1 hFc hB
    generalize H1 = H at hP hS ⊢
    have hP : va_P (dC, dI) vwCl (wSd cI cZ cJ sd_a w_a v_a (wr_a 0) (rd_a 0) (sp_a 0) (cu_a 0) sd ++ wSy cI cZ cJ cu_a cu ++ wSy cI cZ cJ sp_a sp' ++ wBr cI cZ cJ w_a w_b w ++ wBr cI cZ cJ v_a v_b v' ++ wWr cI cZ cJ wr_a (pb_a 0) wr ++ wRd cI cZ cJ rd_a (pb_a 0) rd' ++ wPb cI cZ cJ pb_a w_a v_a pb' ++ wMo cI cZ cJ mo_a mo' ++ wOu cI cZ cJ ou_a ou) H := hP.sub [0, 1, 2, 3, 4, 5, 6, 7, 8, 9, 10, 11, 12, 13, 14, 15, 16, 17, 18, 19, 20, 21, 22, 23, 24, 25, 26, 27, 28, 29, 31, 32, 33, 34, 35, 36, 37, 38, 39, 40, 41, 42, 43, 44, 45, 46, 30] rfl
    have hD : va_D A (wSd cI cZ cJ sd_a w_a v_a (wr_a 0) (rd_a 0) (sp_a 0) (cu_a 0) sd ++ wSy cI cZ cJ cu_a cu ++ wSy cI cZ cJ sp_a sp' ++ wBr cI cZ cJ w_a w_b w ++ wBr cI cZ cJ v_a v_b v' ++ wWr cI cZ cJ wr_a (pb_a 0) wr ++ wRd cI cZ cJ rd_a (pb_a 0) rd' ++ wPb cI cZ cJ pb_a w_a v_a pb' ++ wMo cI cZ cJ mo_a mo' ++ wOu cI cZ cJ ou_a ou) := hD.sub [0, 1, 2, 3, 4, 5, 6, 7, 8, 9, 10, 11, 12, 13, 14, 15, 16, 17, 18, 19, 20, 21, 22, 23, 24, 25, 26, 27, 28, 29, 31, 32, 33, 34, 35, 36, 37, 38, 39, 40, 41, 42, 43, 44, 45, 46, 30] (by decide) rfl
    refine lv_icmp_eq (tgt := 1131) hx hb d_law_842 (by decide) (fun _ => ?_) (fun h9 => absurd rfl h9)
    have hl := lv_sub (l' := [(0, .ref b), (1, .ref (sd_a 0)), (2, .ref (mo_a 0)), (3, .ref (ou_a 0)), (4, .int i)]) hl [0, 1, 2, 3, 4] rfl
    have hP : va_P (dC, dI) vwCl (wSd cI cZ cJ sd_a w_a v_a (wr_a 0) (rd_a 0) (sp_a 0) (cu_a 0) sd ++ wSy cI cZ cJ sp_a sp' ++ wSy cI cZ cJ cu_a cu ++ wBr cI cZ cJ w_a w_b w ++ wBr cI cZ cJ v_a v_b v' ++ wWr cI cZ cJ wr_a (pb_a 0) wr ++ wRd cI cZ cJ rd_a (pb_a 0) rd' ++ wPb cI cZ cJ pb_a w_a v_a pb' ++ wMo cI cZ cJ mo_a mo' ++ wOu cI cZ cJ ou_a ou) H := hP.sub [0, 11, 12, 13, 14, 15, 16, 17, 18, 19, 20, 1, 2, 3, 4, 5, 6, 7, 8, 9, 10, 21, 22, 23, 24, 25, 26, 27, 28, 29, 30, 31, 32, 33, 34, 35, 36, 37, 38, 39, 40, 41, 42, 43, 44, 45, 46] rfl
    have hD : va_D A (wSd cI cZ cJ sd_a w_a v_a (wr_a 0) (rd_a 0) (sp_a 0) (cu_a 0) sd ++ wSy cI cZ cJ sp_a sp' ++ wSy cI cZ cJ cu_a cu ++ wBr cI cZ cJ w_a w_b w ++ wBr cI cZ cJ v_a v_b v' ++ wWr cI cZ cJ wr_a (pb_a 0) wr ++ wRd cI cZ cJ rd_a (pb_a 0) rd' ++ wPb cI cZ cJ pb_a w_a v_a pb' ++ wMo cI cZ cJ mo_a mo' ++ wOu cI cZ cJ ou_a ou) := hD.sub [0, 11, 12, 13, 14, 15, 16, 17, 18, 19, 20, 1, 2, 3, 4, 5, 6, 7, 8, 9, 10, 21, 22, 23, 24, 25, 26, 27, 28, 29, 30, 31, 32, 33, 34, 35, 36, 37, 38, 39, 40, 41, 42, 43, 44, 45, 46] (by decide) rfl
    refine W.widen (k := j + 1 + Br_byL w + Br_byL v') (n := 6 * (j + 1) + 2 * Br_byL w + 2 * Br_byL v') (by omega) (by omega) ?_
    exact hk _ _ _ sp_a cu_a w_b v_b sp' cu w v' wr rd' pb' mo' ou hrel hP hD hS hl

set_option maxHeartbeats 8000000 in
set_option maxRecDepth 100000 in
theorem L_P_told {p : Program} {l : Launch} {e : Env} {R : Room} {s : State} {m : MethodId} {args : Array Value} {below : List Frame} {meth : Method} {c : Code} {Q : State → Prop} {A : Nat → Prop} {dC : Nat → ClassId} {dI : Nat → Nat → Nat} {cI cZ cJ : ClassId} {sd_a cu_a sp_a : Nat → Nat} {w_a w_b v_a v_b : Nat} {wr_a rd_a pb_a mo_a ou_a : Nat → Nat} {sd : Sd} {cu sp : Sy} {w v : Br} {wr : Wr} {rd : Rd} {pb : Pb} {mo : Mo} {ou : Ou} {b L : Nat} {xs : Nat → Int32} {i : Int32} {j : Nat} {Rl : Sd → Sy → Sy → Br → Br → Wr → Rd → Pb → Mo → Prop} (hl9 : l.stackTraces = false) (C0 : lcx p c m s args R (dC, dI) (TYS cI cZ cJ) A b L xs i j) (hRb : ∀ sd cu sp w v wr rd pb mo, Rl sd cu sp w v wr rd pb mo → Br_byL w ≤ 40000 ∧ Br_byL v ≤ 40000) (hR0 : Rl sd cu sp w v wr rd pb mo) (hT0 : T_P_told Rl sd cu sp w v wr rd pb mo (xs (i + 1).toNatClampNeg) (xs (i + 2).toNatClampNeg))
    (hk : ∀ (H : Heap) (locs : List Loc) (ls : Array Slot) (cu_a sp_a : Nat → Nat) (w_b v_b : Nat) (cu sp : Sy) (w v : Br) (wr : Wr) (rd : Rd) (pb : Pb) (mo : Mo) (ou : Ou), Rl sd cu sp w v wr rd pb mo → va_P (dC, dI) vwCl (wSd cI cZ cJ sd_a w_a v_a (wr_a 0) (rd_a 0) (cu_a 0) (sp_a 0) sd ++ wSy cI cZ cJ cu_a cu ++ wSy cI cZ cJ sp_a sp ++ wBr cI cZ cJ w_a w_b w ++ wBr cI cZ cJ v_a v_b v ++ wWr cI cZ cJ wr_a (pb_a 0) wr ++ wRd cI cZ cJ rd_a (pb_a 0) rd ++ wPb cI cZ cJ pb_a w_a v_a pb ++ wMo cI cZ cJ mo_a mo ++ wOu cI cZ cJ ou_a ou) H → va_D A (wSd cI cZ cJ sd_a w_a v_a (wr_a 0) (rd_a 0) (cu_a 0) (sp_a 0) sd ++ wSy cI cZ cJ cu_a cu ++ wSy cI cZ cJ sp_a sp ++ wBr cI cZ cJ w_a w_b w ++ wBr cI cZ cJ v_a v_b v ++ wWr cI cZ cJ wr_a (pb_a 0) wr ++ wRd cI cZ cJ rd_a (pb_a 0) rd ++ wPb cI cZ cJ pb_a w_a v_a pb ++ wMo cI cZ cJ mo_a mo ++ wOu cI cZ cJ ou_a ou) → va_S A s.heap H locs → lv_has ls 7 [(0, .ref b), (1, .ref (sd_a 0)), (2, .ref (mo_a 0)), (3, .ref (ou_a 0)), (4, .int i)] → W p l e R s m args below meth c H locs (j + 1 + Br_byL w + Br_byL v) (6 * (j + 1) + 2 * Br_byL w + 2 * Br_byL v) Q (F0 m 1131 ls []))
    {H : Heap} {locs : List Loc} {ls : Array Slot} (hP : va_P (dC, dI) vwCl (wSd cI cZ cJ sd_a w_a v_a (wr_a 0) (rd_a 0) (cu_a 0) (sp_a 0) sd ++ wSy cI cZ cJ cu_a cu ++ wSy cI cZ cJ sp_a sp ++ wBr cI cZ cJ w_a w_b w ++ wBr cI cZ cJ v_a v_b v ++ wWr cI cZ cJ wr_a (pb_a 0) wr ++ wRd cI cZ cJ rd_a (pb_a 0) rd ++ wPb cI cZ cJ pb_a w_a v_a pb ++ wMo cI cZ cJ mo_a mo ++ wOu cI cZ cJ ou_a ou) H) (hD : va_D A (wSd cI cZ cJ sd_a w_a v_a (wr_a 0) (rd_a 0) (cu_a 0) (sp_a 0) sd ++ wSy cI cZ cJ cu_a cu ++ wSy cI cZ cJ sp_a sp ++ wBr cI cZ cJ w_a w_b w ++ wBr cI cZ cJ v_a v_b v ++ wWr cI cZ cJ wr_a (pb_a 0) wr ++ wRd cI cZ cJ rd_a (pb_a 0) rd ++ wPb cI cZ cJ pb_a w_a v_a pb ++ wMo cI cZ cJ mo_a mo ++ wOu cI cZ cJ ou_a ou)) (hS : va_S A s.heap H locs) (hl : lv_has ls 7 [(0, .ref b), (1, .ref (sd_a 0)), (2, .ref (mo_a 0)), (3, .ref (ou_a 0)), (4, .int i)]) : W p l e R s m args below meth c H locs (j + Br_byL w + Br_byL v) (6 * j + 2 * Br_byL w + 2 * Br_byL v) Q (F0 m 847 ls []) := by
  obtain ⟨hx, hb, hml, hown, hts, hK, hA, hA2, hRf, hRl, hN, hT, hX, hX0, hbl, hin, hj, hRc, hRs⟩ := C0
  have hbA : ¬ A b := fun h => absurd (hA2 b h) (Nat.not_le.mpr hbl)
  obtain ⟨hw0, hv0⟩ := hRb _ _ _ _ _ _ _ _ _ hR0
  unfold T_P_told at hT0
  rcases hT0 with ⟨r, mo', hf, hg, hcode, hrel⟩ | ⟨hf, q, mo', hg, hcode, hrel⟩ | ⟨hf, q, mo', hg, hcode, hrel⟩
  · obtain ⟨ou', heou⟩ : ∃ z : Ou, z = (vp_updL (Ou_f ou) 0 r.toInt64) := ⟨_, rfl⟩
    have hf1 : f_Law_told sd cu ou (xs (i + 1).toNatClampNeg) (xs (i + 2).toNatClampNeg) = some (0, ou') := by
      rw [f_Law_told, hf, bd_s, heou]
      rfl
    have hou : Ou_f ou' (0 : Int32).toNatClampNeg = r.toInt64 := by rw [heou]; exact updL_at _ _ _
    refine lv_aload_n hx hb d_law_847 rfl (lv_at hl 1 rfl) ?_
    refine lv_aload_n hx hb d_law_848 rfl (lv_at hl 0 rfl) ?_
    refine lv_iload hx hb d_law_849 (lv_at hl 4 rfl) ?_
    refine lv_iconst (v := 1) hx hb d_law_851 (by decide) ?_
    refine lv_iadd hx hb d_law_852 ?_
    refine va_sld hx hb hX0 hbl hbA hS (hin 1 (by decide) (by decide)) d_law_853 ?_
    refine lv_aload_n hx hb d_law_854 rfl (lv_at hl 0 rfl) ?_
    refine lv_iload hx hb d_law_855 (lv_at hl 4 rfl) ?_
    refine lv_iconst (v := 2) hx hb d_law_857 (by decide) ?_
    refine lv_iadd hx hb d_law_858 ?_
    refine va_sld hx hb hX0 hbl hbA hS (hin 2 (by decide) (by decide)) d_law_859 ?_
    refine lv_aload_n hx hb d_law_860 rfl (lv_at hl 3 rfl) ?_
    have hPc := hP.sub (ws' := (wSd cI cZ cJ sd_a w_a v_a (wr_a 0) (rd_a 0) (cu_a 0) (sp_a 0) sd ++ wSy cI cZ cJ cu_a cu ++ wOu cI cZ cJ ou_a ou)) [0, 1, 2, 3, 4, 5, 6, 7, 8, 9, 10, 45] rfl
    have hDc := hD.sub (ws' := (wSd cI cZ cJ sd_a w_a v_a (wr_a 0) (rd_a 0) (cu_a 0) (sp_a 0) sd ++ wSy cI cZ cJ cu_a cu ++ wOu cI cZ cJ ou_a ou)) [0, 1, 2, 3, 4, 5, 6, 7, 8, 9, 10, 45] (by decide) rfl
    have hFc := va_free (wc := (wSd cI cZ cJ sd_a w_a v_a (wr_a 0) (rd_a 0) (cu_a 0) (sp_a 0) sd ++ wSy cI cZ cJ cu_a cu ++ wOu cI cZ cJ ou_a ou)) hD hS hA [0, 1, 2, 3, 4, 5, 6, 7, 8, 9, 10, 45] rfl
    refine va_calli (w_runS (As := [.ref (sd_a 0), .int (xs (i + 1).toNatClampNeg), .int (xs (i + 2).toNatClampNeg), .ref (ou_a 0)]) (rest := []) ⟨hx, hb, hml, hown, hts⟩ (k_Law_told l dC dI cI cZ cJ sd_a cu_a ou_a w_a v_a (wr_a 0) (rd_a 0) (sp_a 0) H.size hf1) (cwH_of 4 hts t_772 rfl rfl t_53 t_770 t_771 hd_Law_told.2 ⟨Nat.le_trans (Nat.le_of_ble_eq_true rfl) hRf, Nat.le_trans (Nat.le_of_ble_eq_true rfl) hRl⟩) ⟨kP_blind, kP_at hPc hK hDc hN⟩ rfl rfl hl.1 rfl (lv_room (Nat.le_of_ble_eq_true rfl)) d_law_861 ⟨by omega, by omega⟩) hS (fun q _ h => hFc q h) hFc (fun r9 u t H1 locs ht hvm hw hB hz1 hk1 hS => ?_)
    rw [hw]
    obtain ⟨hP, hD⟩ := kQ_join (wr := (wSy cI cZ cJ sp_a sp ++ wBr cI cZ cJ w_a w_b w ++ wBr cI cZ cJ v_a v_b v ++ wWr cI cZ cJ wr_a (pb_a 0) wr ++ wRd cI cZ cJ rd_a (pb_a 0) rd ++ wPb cI cZ cJ pb_a w_a v_a pb ++ wMo cI cZ cJ mo_a mo)) (w1 := (wSd cI cZ cJ sd_a w_a v_a (wr_a 0) (rd_a 0) (cu_a 0) (sp_a 0) sd ++ wSy cI cZ cJ cu_a cu ++ wOu cI cZ cJ ou_a ou')) hP hD [0, 1, 2, 3, 4, 5, 6, 7, 8, 9, 10, 45] [11, 12, 13, 14, 15, 16, 17, 18, 19, 20, 21, 22, 23, 24, 25, 26, 27, 28, 29, 30, 31, 32, 33, 34, 35, 36, 37, 38, 39, 40, 41, 42, 43, 44, 46] rfl rfl (by decide) (by decide) ht hk1 hFc hB
    generalize H1 = H at hP hS ⊢
    have hP : va_P (dC, dI) vwCl (wSd cI cZ cJ sd_a w_a v_a (wr_a 0) (rd_a 0) (cu_a 0) (sp_a 0) sd ++ wSy cI cZ cJ cu_a cu ++ wSy cI cZ cJ sp_a sp ++ wBr cI cZ cJ w_a w_b w ++ wBr cI cZ cJ v_a v_b v ++ wWr cI cZ cJ wr_a (pb_a 0) wr ++ wRd cI cZ cJ rd_a (pb_a 0) rd ++ wPb cI cZ cJ pb_a w_a v_a pb ++ wMo cI cZ cJ mo_a mo ++ wOu cI cZ cJ ou_a ou') H := hP.sub [35, 36, 37, 38, 39, 40, 41, 42, 43, 44, 45, 0, 1, 2, 3, 4, 5, 6, 7, 8, 9, 10, 11, 12, 13, 14, 15, 16, 17, 18, 19, 20, 21, 22, 23, 24, 25, 26, 27, 28, 29, 30, 31, 32, 33, 34, 46] rfl
    have hD : va_D A (wSd cI cZ cJ sd_a w_a v_a (wr_a 0) (rd_a 0) (cu_a 0) (sp_a 0) sd ++ wSy cI cZ cJ cu_a cu ++ wSy cI cZ cJ sp_a sp ++ wBr cI cZ cJ w_a w_b w ++ wBr cI cZ cJ v_a v_b v ++ wWr cI cZ cJ wr_a (pb_a 0) wr ++ wRd cI cZ cJ rd_a (pb_a 0) rd ++ wPb cI cZ cJ pb_a w_a v_a pb ++ wMo cI cZ cJ mo_a mo ++ wOu cI cZ cJ ou_a ou') := hD.sub [35, 36, 37, 38, 39, 40, 41, 42, 43, 44, 45, 0, 1, 2, 3, 4, 5, 6, 7, 8, 9, 10, 11, 12, 13, 14, 15, 16, 17, 18, 19, 20, 21, 22, 23, 24, 25, 26, 27, 28, 29, 30, 31, 32, 33, 34, 46] (by decide) rfl
    refine lv_istore (lv' := [(5, .int 0), (0, .ref b), (1, .ref (sd_a 0)), (2, .ref (mo_a 0)), (3, .ref (ou_a 0)), (4, .int i)]) hx hb d_law_864 hl (by decide) rfl (fun ls hl => ?_)
    refine lv_aload_n hx hb d_law_866 rfl (lv_at hl 3 rfl) ?_
    refine lv_aload_n hx hb d_law_867 rfl (lv_at hl 1 rfl) ?_
    refine lv_iload hx hb d_law_868 (lv_at hl 5 rfl) ?_
    refine lv_iconst (v := 1) hx hb d_law_870 (by decide) ?_
    refine lv_iadd hx hb d_law_871 ?_
    refine va_sld hx hb hX0 hbl hbA hS (hin 1 (by decide) (by decide)) d_law_872 ?_
    refine lv_aload_n hx hb d_law_873 rfl (lv_at hl 1 rfl) ?_
    refine lv_iload hx hb d_law_874 (lv_at hl 5 rfl) ?_
    refine lv_iconst (v := 2) hx hb d_law_876 (by decide) ?_
    refine lv_iadd hx hb d_law_877 ?_
    refine va_sld hx hb hX0 hbl hbA hS (hin 2 (by decide) (by decide)) d_law_878 ?_
    have hPc := hP.sub (ws' := (wMo cI cZ cJ mo_a mo)) [30, 31, 32, 33, 34, 35, 36, 37, 38, 39, 40, 41, 42, 43, 44, 45] rfl
    have hDc := hD.sub (ws' := (wMo cI cZ cJ mo_a mo)) [30, 31, 32, 33, 34, 35, 36, 37, 38, 39, 40, 41, 42, 43, 44, 45] (by decide) rfl
    have hFc := va_free (wc := (wMo cI cZ cJ mo_a mo)) hD hS hA [30, 31, 32, 33, 34, 35, 36, 37, 38, 39, 40, 41, 42, 43, 44, 45] rfl
    refine va_calli (va_runV (As := [.int (xs (i + 1).toNatClampNeg), .int (xs (i + 2).toNatClampNeg)]) (rest := []) ⟨hx, hb, hml, hown, hts⟩ (k_Model_told l dC dI cI cZ cJ mo_a H.size hg) (cwV 2 hts (gV t_1083 t_1084 t_1085 t_63 t_1086) rfl rfl rfl hd_Model_told ⟨Nat.le_trans (Nat.le_of_ble_eq_true rfl) hRf, Nat.le_trans (Nat.le_of_ble_eq_true rfl) hRl⟩) ⟨kP_blind, va_recv hK hP (ci := 7) (q0 := 30) rfl rfl, kP_at hPc hK hDc hN⟩ rfl rfl hl.1 rfl (lv_room (Nat.le_of_ble_eq_true rfl)) d_law_879 ⟨by omega, by omega⟩) hS (fun q _ h => hFc q h) hFc (fun r9 u t H1 locs ht hvm hw hB hz1 hk1 hS => ?_)
    rw [hw]
    obtain ⟨hP, hD⟩ := kQ_join (wr := (wSd cI cZ cJ sd_a w_a v_a (wr_a 0) (rd_a 0) (cu_a 0) (sp_a 0) sd ++ wSy cI cZ cJ cu_a cu ++ wSy cI cZ cJ sp_a sp ++ wBr cI cZ cJ w_a w_b w ++ wBr cI cZ cJ v_a v_b v ++ wWr cI cZ cJ wr_a (pb_a 0) wr ++ wRd cI cZ cJ rd_a (pb_a 0) rd ++ wPb cI cZ cJ pb_a w_a v_a pb ++ wOu cI cZ cJ ou_a ou')) (w1 := (wMo cI cZ cJ mo_a mo')) hP hD [30, 31, 32, 33, 34, 35, 36, 37, 38, 39, 40, 41, 42, 43, 44, 45] [0, 1, 2, 3, 4, 5, 6, 7, 8, 9, 10, 11, 12, 13, 14, 15, 16, 17, 18, 19, 20, 21, 22, 23, 24, 25, 26, 27, 28, 29, 46] rfl rfl (by decide) (by decide) ht hk1 hFc hB
    generalize H1 = H at hP hS ⊢
    have hP : va_P (dC, dI) vwCl (wSd cI cZ cJ sd_a w_a v_a (wr_a 0) (rd_a 0) (cu_a 0) (sp_a 0) sd ++ wSy cI cZ cJ cu_a cu ++ wSy cI cZ cJ sp_a sp ++ wBr cI cZ cJ w_a w_b w ++ wBr cI cZ cJ v_a v_b v ++ wWr cI cZ cJ wr_a (pb_a 0) wr ++ wRd cI cZ cJ rd_a (pb_a 0) rd ++ wPb cI cZ cJ pb_a w_a v_a pb ++ wMo cI cZ cJ mo_a mo' ++ wOu cI cZ cJ ou_a ou') H := hP.sub [0, 1, 2, 3, 4, 5, 6, 7, 8, 9, 10, 11, 12, 13, 14, 15, 16, 17, 18, 19, 20, 21, 22, 23, 24, 25, 26, 27, 28, 29, 31, 32, 33, 34, 35, 36, 37, 38, 39, 40, 41, 42, 43, 44, 45, 46, 30] rfl
    have hD : va_D A (wSd cI cZ cJ sd_a w_a v_a (wr_a 0) (rd_a 0) (cu_a 0) (sp_a 0) sd ++ wSy cI cZ cJ cu_a cu ++ wSy cI cZ cJ sp_a sp ++ wBr cI cZ cJ w_a w_b w ++ wBr cI cZ cJ v_a v_b v ++ wWr cI cZ cJ wr_a (pb_a 0) wr ++ wRd cI cZ cJ rd_a (pb_a 0) rd ++ wPb cI cZ cJ pb_a w_a v_a pb ++ wMo cI cZ cJ mo_a mo' ++ wOu cI cZ cJ ou_a ou') := hD.sub [0, 1, 2, 3, 4, 5, 6, 7, 8, 9, 10, 11, 12, 13, 14, 15, 16, 17, 18, 19, 20, 21, 22, 23, 24, 25, 26, 27, 28, 29, 31, 32, 33, 34, 35, 36, 37, 38, 39, 40, 41, 42, 43, 44, 45, 46, 30] (by decide) rfl
    refine lv_istore (lv' := [(6, .int r), (5, .int 0), (0, .ref b), (1, .ref (sd_a 0)), (2, .ref (mo_a 0)), (3, .ref (ou_a 0)), (4, .int i)]) hx hb d_law_882 hl (by decide) rfl (fun ls hl => ?_)
    refine lv_aload_n hx hb d_law_884 rfl (lv_at hl 4 rfl) ?_
    have hth : f_Model_thrown mo' = some (Mo_code mo') := rfl
    have hPc := hP.sub (ws' := (wMo cI cZ cJ mo_a mo')) [30, 31, 32, 33, 34, 35, 36, 37, 38, 39, 40, 41, 42, 43, 44, 45] rfl
    have hDc := hD.sub (ws' := (wMo cI cZ cJ mo_a mo')) [30, 31, 32, 33, 34, 35, 36, 37, 38, 39, 40, 41, 42, 43, 44, 45] (by decide) rfl
    have hFc := va_free (wc := (wMo cI cZ cJ mo_a mo')) hD hS hA [30, 31, 32, 33, 34, 35, 36, 37, 38, 39, 40, 41, 42, 43, 44, 45] rfl
    refine va_calli (va_runV (As := []) (rest := []) ⟨hx, hb, hml, hown, hts⟩ (k_Model_thrown l dC dI cI cZ cJ mo_a H.size hth) (cwV 0 hts (gV t_906 t_907 t_908 t_63 t_909) rfl rfl rfl hd_Model_thrown ⟨Nat.le_trans (Nat.le_of_ble_eq_true rfl) hRf, Nat.le_trans (Nat.le_of_ble_eq_true rfl) hRl⟩) ⟨kP_blind, va_recv hK hP (ci := 7) (q0 := 30) rfl rfl, kP_at hPc hK hDc hN⟩ rfl rfl hl.1 rfl (lv_room (Nat.le_of_ble_eq_true rfl)) d_law_885 ⟨by omega, by omega⟩) hS (fun q _ h => hFc q h) hFc (fun r9 u t H1 locs ht hvm hw hB hz1 hk1 hS => ?_)
    rw [hw]
    obtain ⟨hP, hD⟩ := kQ_join (wr := (wSd cI cZ cJ sd_a w_a v_a (wr_a 0) (rd_a 0) (cu_a 0) (sp_a 0) sd ++ wSy cI cZ cJ cu_a cu ++ wSy cI cZ cJ sp_a sp ++ wBr cI cZ cJ w_a w_b w ++ wBr cI cZ cJ v_a v_b v ++ wWr cI cZ cJ wr_a (pb_a 0) wr ++ wRd cI cZ cJ rd_a (pb_a 0) rd ++ wPb cI cZ cJ pb_a w_a v_a pb ++ wOu cI cZ cJ ou_a ou')) (w1 := (wMo cI cZ cJ mo_a mo')) hP hD [30, 31, 32, 33, 34, 35, 36, 37, 38, 39, 40, 41, 42, 43, 44, 45] [0, 1, 2, 3, 4, 5, 6, 7, 8, 9, 10, 11, 12, 13, 14, 15, 16, 17, 18, 19, 20, 21, 22, 23, 24, 25, 26, 27, 28, 29, 46] rfl rfl (by decide) (by decide) ht hk1 hFc hB
    generalize H1 = H at hP hS ⊢
    have hP : va_P (dC, dI) vwCl (wSd cI cZ cJ sd_a w_a v_a (wr_a 0) (rd_a 0) (cu_a 0) (sp_a 0) sd ++ wSy cI cZ cJ cu_a cu ++ wSy cI cZ cJ sp_a sp ++ wBr cI cZ cJ w_a w_b w ++ wBr cI cZ cJ v_a v_b v ++ wWr cI cZ cJ wr_a (pb_a 0) wr ++ wRd cI cZ cJ rd_a (pb_a 0) rd ++ wPb cI cZ cJ pb_a w_a v_a pb ++ wMo cI cZ cJ mo_a mo' ++ wOu cI cZ cJ ou_a ou') H := hP.sub [0, 1, 2, 3, 4, 5, 6, 7, 8, 9, 10, 11, 12, 13, 14, 15, 16, 17, 18, 19, 20, 21, 22, 23, 24, 25, 26, 27, 28, 29, 31, 32, 33, 34, 35, 36, 37, 38, 39, 40, 41, 42, 43, 44, 45, 46, 30] rfl
    have hD : va_D A (wSd cI cZ cJ sd_a w_a v_a (wr_a 0) (rd_a 0) (cu_a 0) (sp_a 0) sd ++ wSy cI cZ cJ cu_a cu ++ wSy cI cZ cJ sp_a sp ++ wBr cI cZ cJ w_a w_b w ++ wBr cI cZ cJ v_a v_b v ++ wWr cI cZ cJ wr_a (pb_a 0) wr ++ wRd cI cZ cJ rd_a (pb_a 0) rd ++ wPb cI cZ cJ pb_a w_a v_a pb ++ wMo cI cZ cJ mo_a mo' ++ wOu cI cZ cJ ou_a ou') := hD.sub [0, 1, 2, 3, 4, 5, 6, 7, 8, 9, 10, 11, 12, 13, 14, 15, 16, 17, 18, 19, 20, 21, 22, 23, 24, 25, 26, 27, 28, 29, 31, 32, 33, 34, 35, 36, 37, 38, 39, 40, 41, 42, 43, 44, 45, 46, 30] (by decide) rfl
    refine lv_iload hx hb d_law_888 (lv_at hl 1 rfl) ?_
    refine lv_icmp_eq (tgt := 895) hx hb d_law_890 (by decide) (fun _ => ?_) (fun h9 => absurd hcode h9)
    refine lv_iload hx hb d_law_895 (lv_at hl 1 rfl) ?_
    refine lv_if_ne (tgt := 912) hx hb d_law_897 (by decide) (fun h9 => absurd rfl h9) (fun _ => ?_)
    refine lv_aload_n hx hb d_law_900 rfl (lv_at hl 5 rfl) ?_
    refine lv_iconst (v := 0) hx hb d_law_901 (by decide) ?_
    refine va_lald (f := Ou_f ou') hx hb hK hP 46 2 rfl rfl (inb_in (by decide)) d_law_902 ?_
    refine lv_iload hx hb d_law_903 (lv_at hl 0 rfl) ?_
    refine lv_i2l (v := r.toInt64) hx hb d_law_905 rfl ?_
    refine W.lcmp hx hb d_law_906 ?_
    refine lv_if_eq (tgt := 912) hx hb d_law_907 (by decide) (fun _ => ?_) (fun h9 => absurd (by rw [hou]; exact cmp_self _) h9)
    refine lv_goto (tgt := 1131) hx hb d_law_912 (by decide) ?_
    have hl := lv_sub (l' := [(0, .ref b), (1, .ref (sd_a 0)), (2, .ref (mo_a 0)), (3, .ref (ou_a 0)), (4, .int i)]) hl [2, 3, 4, 5, 6] rfl
    refine W.widen (k := j + 1 + Br_byL w + Br_byL v) (n := 6 * (j + 1) + 2 * Br_byL w + 2 * Br_byL v) (by omega) (by omega) ?_
    exact hk _ _ _ cu_a sp_a w_b v_b cu sp w v wr rd pb mo' ou' hrel hP hD hS hl
  · refine lv_aload_n hx hb d_law_847 rfl (lv_at hl 1 rfl) ?_
    refine lv_aload_n hx hb d_law_848 rfl (lv_at hl 0 rfl) ?_
    refine lv_iload hx hb d_law_849 (lv_at hl 4 rfl) ?_
    refine lv_iconst (v := 1) hx hb d_law_851 (by decide) ?_
    refine lv_iadd hx hb d_law_852 ?_
    refine va_sld hx hb hX0 hbl hbA hS (hin 1 (by decide) (by decide)) d_law_853 ?_
    refine lv_aload_n hx hb d_law_854 rfl (lv_at hl 0 rfl) ?_
    refine lv_iload hx hb d_law_855 (lv_at hl 4 rfl) ?_
    refine lv_iconst (v := 2) hx hb d_law_857 (by decide) ?_
    refine lv_iadd hx hb d_law_858 ?_
    refine va_sld hx hb hX0 hbl hbA hS (hin 2 (by decide) (by decide)) d_law_859 ?_
    refine lv_aload_n hx hb d_law_860 rfl (lv_at hl 3 rfl) ?_
    have hPc := hP.sub (ws' := (wSd cI cZ cJ sd_a w_a v_a (wr_a 0) (rd_a 0) (cu_a 0) (sp_a 0) sd ++ wSy cI cZ cJ cu_a cu ++ wOu cI cZ cJ ou_a ou)) [0, 1, 2, 3, 4, 5, 6, 7, 8, 9, 10, 45] rfl
    have hDc := hD.sub (ws' := (wSd cI cZ cJ sd_a w_a v_a (wr_a 0) (rd_a 0) (cu_a 0) (sp_a 0) sd ++ wSy cI cZ cJ cu_a cu ++ wOu cI cZ cJ ou_a ou)) [0, 1, 2, 3, 4, 5, 6, 7, 8, 9, 10, 45] (by decide) rfl
    have hFc := va_free (wc := (wSd cI cZ cJ sd_a w_a v_a (wr_a 0) (rd_a 0) (cu_a 0) (sp_a 0) sd ++ wSy cI cZ cJ cu_a cu ++ wOu cI cZ cJ ou_a ou)) hD hS hA [0, 1, 2, 3, 4, 5, 6, 7, 8, 9, 10, 45] rfl
    refine va_calli (w_runS (As := [.ref (sd_a 0), .int (xs (i + 1).toNatClampNeg), .int (xs (i + 2).toNatClampNeg), .ref (ou_a 0)]) (rest := []) ⟨hx, hb, hml, hown, hts⟩ (kx_Law_told_3 l hl9 dC dI cI cZ cJ sd_a cu_a ou_a w_a v_a (wr_a 0) (rd_a 0) (sp_a 0) H.size hf) (cwH_of 4 hts t_772 rfl rfl t_53 t_770 t_771 hd_Law_told.2 ⟨Nat.le_trans (Nat.le_of_ble_eq_true rfl) hRf, Nat.le_trans (Nat.le_of_ble_eq_true rfl) hRl⟩) ⟨kPX_blind, kPX_at hPc hK hDc hN (fun q hq => hS.2.1 q hq (fun h9 => absurd (hA2 q h9) (Nat.not_le.mpr hq))) hT hX⟩ rfl rfl hl.1 rfl (lv_room (Nat.le_of_ble_eq_true rfl)) d_law_861 ⟨by omega, by omega⟩) hS (fun q _ h => hFc q h) hFc (fun r9 u t H1 locs ht hvm hw hB hz1 hk1 hS => ?_)
    rw [hw]
    obtain ⟨hP, hD⟩ := kQ_join (wr := (wSy cI cZ cJ sp_a sp ++ wBr cI cZ cJ w_a w_b w ++ wBr cI cZ cJ v_a v_b v ++ wWr cI cZ cJ wr_a (pb_a 0) wr ++ wRd cI cZ cJ rd_a (pb_a 0) rd ++ wPb cI cZ cJ pb_a w_a v_a pb ++ wMo cI cZ cJ mo_a mo)) (w1 := (wSd cI cZ cJ sd_a w_a v_a (wr_a 0) (rd_a 0) (cu_a 0) (sp_a 0) sd ++ wSy cI cZ cJ cu_a cu ++ wOu cI cZ cJ ou_a ou)) hP hD [0, 1, 2, 3, 4, 5, 6, 7, 8, 9, 10, 45] [11, 12, 13, 14, 15, 16, 17, 18, 19, 20, 21, 22, 23, 24, 25, 26, 27, 28, 29, 30, 31, 32, 33, 34, 35, 36, 37, 38, 39, 40, 41, 42, 43, 44, 46] rfl rfl (by decide) (by decide) ht hk1 hFc hB
    generalize H1 = H at hP hS ⊢
    have hP : va_P (dC, dI) vwCl (wSd cI cZ cJ sd_a w_a v_a (wr_a 0) (rd_a 0) (cu_a 0) (sp_a 0) sd ++ wSy cI cZ cJ cu_a cu ++ wSy cI cZ cJ sp_a sp ++ wBr cI cZ cJ w_a w_b w ++ wBr cI cZ cJ v_a v_b v ++ wWr cI cZ cJ wr_a (pb_a 0) wr ++ wRd cI cZ cJ rd_a (pb_a 0) rd ++ wPb cI cZ cJ pb_a w_a v_a pb ++ wMo cI cZ cJ mo_a mo ++ wOu cI cZ cJ ou_a ou) H := hP.sub [35, 36, 37, 38, 39, 40, 41, 42, 43, 44, 45, 0, 1, 2, 3, 4, 5, 6, 7, 8, 9, 10, 11, 12, 13, 14, 15, 16, 17, 18, 19, 20, 21, 22, 23, 24, 25, 26, 27, 28, 29, 30, 31, 32, 33, 34, 46] rfl
    have hD : va_D A (wSd cI cZ cJ sd_a w_a v_a (wr_a 0) (rd_a 0) (cu_a 0) (sp_a 0) sd ++ wSy cI cZ cJ cu_a cu ++ wSy cI cZ cJ sp_a sp ++ wBr cI cZ cJ w_a w_b w ++ wBr cI cZ cJ v_a v_b v ++ wWr cI cZ cJ wr_a (pb_a 0) wr ++ wRd cI cZ cJ rd_a (pb_a 0) rd ++ wPb cI cZ cJ pb_a w_a v_a pb ++ wMo cI cZ cJ mo_a mo ++ wOu cI cZ cJ ou_a ou) := hD.sub [35, 36, 37, 38, 39, 40, 41, 42, 43, 44, 45, 0, 1, 2, 3, 4, 5, 6, 7, 8, 9, 10, 11, 12, 13, 14, 15, 16, 17, 18, 19, 20, 21, 22, 23, 24, 25, 26, 27, 28, 29, 30, 31, 32, 33, 34, 46] (by decide) rfl
    refine lv_istore (lv' := [(5, .int 1), (0, .ref b), (1, .ref (sd_a 0)), (2, .ref (mo_a 0)), (3, .ref (ou_a 0)), (4, .int i)]) hx hb d_law_864 hl (by decide) rfl (fun ls hl => ?_)
    refine lv_aload_n hx hb d_law_866 rfl (lv_at hl 3 rfl) ?_
    refine lv_aload_n hx hb d_law_867 rfl (lv_at hl 1 rfl) ?_
    refine lv_iload hx hb d_law_868 (lv_at hl 5 rfl) ?_
    refine lv_iconst (v := 1) hx hb d_law_870 (by decide) ?_
    refine lv_iadd hx hb d_law_871 ?_
    refine va_sld hx hb hX0 hbl hbA hS (hin 1 (by decide) (by decide)) d_law_872 ?_
    refine lv_aload_n hx hb d_law_873 rfl (lv_at hl 1 rfl) ?_
    refine lv_iload hx hb d_law_874 (lv_at hl 5 rfl) ?_
    refine lv_iconst (v := 2) hx hb d_law_876 (by decide) ?_
    refine lv_iadd hx hb d_law_877 ?_
    refine va_sld hx hb hX0 hbl hbA hS (hin 2 (by decide) (by decide)) d_law_878 ?_
    have hPc := hP.sub (ws' := (wMo cI cZ cJ mo_a mo)) [30, 31, 32, 33, 34, 35, 36, 37, 38, 39, 40, 41, 42, 43, 44, 45] rfl
    have hDc := hD.sub (ws' := (wMo cI cZ cJ mo_a mo)) [30, 31, 32, 33, 34, 35, 36, 37, 38, 39, 40, 41, 42, 43, 44, 45] (by decide) rfl
    have hFc := va_free (wc := (wMo cI cZ cJ mo_a mo)) hD hS hA [30, 31, 32, 33, 34, 35, 36, 37, 38, 39, 40, 41, 42, 43, 44, 45] rfl
    refine va_calli (va_runV (As := [.int (xs (i + 1).toNatClampNeg), .int (xs (i + 2).toNatClampNeg)]) (rest := []) ⟨hx, hb, hml, hown, hts⟩ (k_Model_told l dC dI cI cZ cJ mo_a H.size hg) (cwV 2 hts (gV t_1083 t_1084 t_1085 t_63 t_1086) rfl rfl rfl hd_Model_told ⟨Nat.le_trans (Nat.le_of_ble_eq_true rfl) hRf, Nat.le_trans (Nat.le_of_ble_eq_true rfl) hRl⟩) ⟨kP_blind, va_recv hK hP (ci := 7) (q0 := 30) rfl rfl, kP_at hPc hK hDc hN⟩ rfl rfl hl.1 rfl (lv_room (Nat.le_of_ble_eq_true rfl)) d_law_879 ⟨by omega, by omega⟩) hS (fun q _ h => hFc q h) hFc (fun r9 u t H1 locs ht hvm hw hB hz1 hk1 hS => ?_)
    rw [hw]
    obtain ⟨hP, hD⟩ := kQ_join (wr := (wSd cI cZ cJ sd_a w_a v_a (wr_a 0) (rd_a 0) (cu_a 0) (sp_a 0) sd ++ wSy cI cZ cJ cu_a cu ++ wSy cI cZ cJ sp_a sp ++ wBr cI cZ cJ w_a w_b w ++ wBr cI cZ cJ v_a v_b v ++ wWr cI cZ cJ wr_a (pb_a 0) wr ++ wRd cI cZ cJ rd_a (pb_a 0) rd ++ wPb cI cZ cJ pb_a w_a v_a pb ++ wOu cI cZ cJ ou_a ou)) (w1 := (wMo cI cZ cJ mo_a mo')) hP hD [30, 31, 32, 33, 34, 35, 36, 37, 38, 39, 40, 41, 42, 43, 44, 45] [0, 1, 2, 3, 4, 5, 6, 7, 8, 9, 10, 11, 12, 13, 14, 15, 16, 17, 18, 19, 20, 21, 22, 23, 24, 25, 26, 27, 28, 29, 46] rfl rfl (by decide) (by decide) ht hk1 hFc hB
    generalize H1 = H at hP hS ⊢
    have hP : va_P (dC, dI) vwCl (wSd cI cZ cJ sd_a w_a v_a (wr_a 0) (rd_a 0) (cu_a 0) (sp_a 0) sd ++ wSy cI cZ cJ cu_a cu ++ wSy cI cZ cJ sp_a sp ++ wBr cI cZ cJ w_a w_b w ++ wBr cI cZ cJ v_a v_b v ++ wWr cI cZ cJ wr_a (pb_a 0) wr ++ wRd cI cZ cJ rd_a (pb_a 0) rd ++ wPb cI cZ cJ pb_a w_a v_a pb ++ wMo cI cZ cJ mo_a mo' ++ wOu cI cZ cJ ou_a ou) H := hP.sub [0, 1, 2, 3, 4, 5, 6, 7, 8, 9, 10, 11, 12, 13, 14, 15, 16, 17, 18, 19, 20, 21, 22, 23, 24, 25, 26, 27, 28, 29, 31, 32, 33, 34, 35, 36, 37, 38, 39, 40, 41, 42, 43, 44, 45, 46, 30] rfl
    have hD : va_D A (wSd cI cZ cJ sd_a w_a v_a (wr_a 0) (rd_a 0) (cu_a 0) (sp_a 0) sd ++ wSy cI cZ cJ cu_a cu ++ wSy cI cZ cJ sp_a sp ++ wBr cI cZ cJ w_a w_b w ++ wBr cI cZ cJ v_a v_b v ++ wWr cI cZ cJ wr_a (pb_a 0) wr ++ wRd cI cZ cJ rd_a (pb_a 0) rd ++ wPb cI cZ cJ pb_a w_a v_a pb ++ wMo cI cZ cJ mo_a mo' ++ wOu cI cZ cJ ou_a ou) := hD.sub [0, 1, 2, 3, 4, 5, 6, 7, 8, 9, 10, 11, 12, 13, 14, 15, 16, 17, 18, 19, 20, 21, 22, 23, 24, 25, 26, 27, 28, 29, 31, 32, 33, 34, 35, 36, 37, 38, 39, 40, 41, 42, 43, 44, 45, 46, 30] (by decide) rfl
    refine lv_istore (lv' := [(6, .int q), (5, .int 1), (0, .ref b), (1, .ref (sd_a 0)), (2, .ref (mo_a 0)), (3, .ref (ou_a 0)), (4, .int i)]) hx hb d_law_882 hl (by decide) rfl (fun ls hl => ?_)
    refine lv_aload_n hx hb d_law_884 rfl (lv_at hl 4 rfl) ?_
    have hth : f_Model_thrown mo' = some (Mo_code mo') := rfl
    have hPc := hP.sub (ws' := (wMo cI cZ cJ mo_a mo')) [30, 31, 32, 33, 34, 35, 36, 37, 38, 39, 40, 41, 42, 43, 44, 45] rfl
    have hDc := hD.sub (ws' := (wMo cI cZ cJ mo_a mo')) [30, 31, 32, 33, 34, 35, 36, 37, 38, 39, 40, 41, 42, 43, 44, 45] (by decide) rfl
    have hFc := va_free (wc := (wMo cI cZ cJ mo_a mo')) hD hS hA [30, 31, 32, 33, 34, 35, 36, 37, 38, 39, 40, 41, 42, 43, 44, 45] rfl
    refine va_calli (va_runV (As := []) (rest := []) ⟨hx, hb, hml, hown, hts⟩ (k_Model_thrown l dC dI cI cZ cJ mo_a H.size hth) (cwV 0 hts (gV t_906 t_907 t_908 t_63 t_909) rfl rfl rfl hd_Model_thrown ⟨Nat.le_trans (Nat.le_of_ble_eq_true rfl) hRf, Nat.le_trans (Nat.le_of_ble_eq_true rfl) hRl⟩) ⟨kP_blind, va_recv hK hP (ci := 7) (q0 := 30) rfl rfl, kP_at hPc hK hDc hN⟩ rfl rfl hl.1 rfl (lv_room (Nat.le_of_ble_eq_true rfl)) d_law_885 ⟨by omega, by omega⟩) hS (fun q _ h => hFc q h) hFc (fun r9 u t H1 locs ht hvm hw hB hz1 hk1 hS => ?_)
    rw [hw]
    obtain ⟨hP, hD⟩ := kQ_join (wr := (wSd cI cZ cJ sd_a w_a v_a (wr_a 0) (rd_a 0) (cu_a 0) (sp_a 0) sd ++ wSy cI cZ cJ cu_a cu ++ wSy cI cZ cJ sp_a sp ++ wBr cI cZ cJ w_a w_b w ++ wBr cI cZ cJ v_a v_b v ++ wWr cI cZ cJ wr_a (pb_a 0) wr ++ wRd cI cZ cJ rd_a (pb_a 0) rd ++ wPb cI cZ cJ pb_a w_a v_a pb ++ wOu cI cZ cJ ou_a ou)) (w1 := (wMo cI cZ cJ mo_a mo')) hP hD [30, 31, 32, 33, 34, 35, 36, 37, 38, 39, 40, 41, 42, 43, 44, 45] [0, 1, 2, 3, 4, 5, 6, 7, 8, 9, 10, 11, 12, 13, 14, 15, 16, 17, 18, 19, 20, 21, 22, 23, 24, 25, 26, 27, 28, 29, 46] rfl rfl (by decide) (by decide) ht hk1 hFc hB
    generalize H1 = H at hP hS ⊢
    have hP : va_P (dC, dI) vwCl (wSd cI cZ cJ sd_a w_a v_a (wr_a 0) (rd_a 0) (cu_a 0) (sp_a 0) sd ++ wSy cI cZ cJ cu_a cu ++ wSy cI cZ cJ sp_a sp ++ wBr cI cZ cJ w_a w_b w ++ wBr cI cZ cJ v_a v_b v ++ wWr cI cZ cJ wr_a (pb_a 0) wr ++ wRd cI cZ cJ rd_a (pb_a 0) rd ++ wPb cI cZ cJ pb_a w_a v_a pb ++ wMo cI cZ cJ mo_a mo' ++ wOu cI cZ cJ ou_a ou) H := hP.sub [0, 1, 2, 3, 4, 5, 6, 7, 8, 9, 10, 11, 12, 13, 14, 15, 16, 17, 18, 19, 20, 21, 22, 23, 24, 25, 26, 27, 28, 29, 31, 32, 33, 34, 35, 36, 37, 38, 39, 40, 41, 42, 43, 44, 45, 46, 30] rfl
    have hD : va_D A (wSd cI cZ cJ sd_a w_a v_a (wr_a 0) (rd_a 0) (cu_a 0) (sp_a 0) sd ++ wSy cI cZ cJ cu_a cu ++ wSy cI cZ cJ sp_a sp ++ wBr cI cZ cJ w_a w_b w ++ wBr cI cZ cJ v_a v_b v ++ wWr cI cZ cJ wr_a (pb_a 0) wr ++ wRd cI cZ cJ rd_a (pb_a 0) rd ++ wPb cI cZ cJ pb_a w_a v_a pb ++ wMo cI cZ cJ mo_a mo' ++ wOu cI cZ cJ ou_a ou) := hD.sub [0, 1, 2, 3, 4, 5, 6, 7, 8, 9, 10, 11, 12, 13, 14, 15, 16, 17, 18, 19, 20, 21, 22, 23, 24, 25, 26, 27, 28, 29, 31, 32, 33, 34, 35, 36, 37, 38, 39, 40, 41, 42, 43, 44, 45, 46, 30] (by decide) rfl
    refine lv_iload hx hb d_law_888 (lv_at hl 1 rfl) ?_
    refine lv_icmp_eq (tgt := 895) hx hb d_law_890 (by decide) (fun _ => ?_) (fun h9 => absurd hcode h9)
    refine lv_iload hx hb d_law_895 (lv_at hl 1 rfl) ?_
    refine lv_if_ne (tgt := 912) hx hb d_law_897 (by decide) (fun _ => ?_) (fun h9 => absurd h9 (by decide))
    refine lv_goto (tgt := 1131) hx hb d_law_912 (by decide) ?_
    have hl := lv_sub (l' := [(0, .ref b), (1, .ref (sd_a 0)), (2, .ref (mo_a 0)), (3, .ref (ou_a 0)), (4, .int i)]) hl [2, 3, 4, 5, 6] rfl
    refine W.widen (k := j + 1 + Br_byL w + Br_byL v) (n := 6 * (j + 1) + 2 * Br_byL w + 2 * Br_byL v) (by omega) (by omega) ?_
    exact hk _ _ _ cu_a sp_a w_b v_b cu sp w v wr rd pb mo' ou hrel hP hD hS hl
  · refine lv_aload_n hx hb d_law_847 rfl (lv_at hl 1 rfl) ?_
    refine lv_aload_n hx hb d_law_848 rfl (lv_at hl 0 rfl) ?_
    refine lv_iload hx hb d_law_849 (lv_at hl 4 rfl) ?_
    refine lv_iconst (v := 1) hx hb d_law_851 (by decide) ?_
    refine lv_iadd hx hb d_law_852 ?_
    refine va_sld hx hb hX0 hbl hbA hS (hin 1 (by decide) (by decide)) d_law_853 ?_
    refine lv_aload_n hx hb d_law_854 rfl (lv_at hl 0 rfl) ?_
    refine lv_iload hx hb d_law_855 (lv_at hl 4 rfl) ?_
    refine lv_iconst (v := 2) hx hb d_law_857 (by decide) ?_
    refine lv_iadd hx hb d_law_858 ?_
    refine va_sld hx hb hX0 hbl hbA hS (hin 2 (by decide) (by decide)) d_law_859 ?_
    refine lv_aload_n hx hb d_law_860 rfl (lv_at hl 3 rfl) ?_
    have hPc := hP.sub (ws' := (wSd cI cZ cJ sd_a w_a v_a (wr_a 0) (rd_a 0) (cu_a 0) (sp_a 0) sd ++ wSy cI cZ cJ cu_a cu ++ wOu cI cZ cJ ou_a ou)) [0, 1, 2, 3, 4, 5, 6, 7, 8, 9, 10, 45] rfl
    have hDc := hD.sub (ws' := (wSd cI cZ cJ sd_a w_a v_a (wr_a 0) (rd_a 0) (cu_a 0) (sp_a 0) sd ++ wSy cI cZ cJ cu_a cu ++ wOu cI cZ cJ ou_a ou)) [0, 1, 2, 3, 4, 5, 6, 7, 8, 9, 10, 45] (by decide) rfl
    have hFc := va_free (wc := (wSd cI cZ cJ sd_a w_a v_a (wr_a 0) (rd_a 0) (cu_a 0) (sp_a 0) sd ++ wSy cI cZ cJ cu_a cu ++ wOu cI cZ cJ ou_a ou)) hD hS hA [0, 1, 2, 3, 4, 5, 6, 7, 8, 9, 10, 45] rfl
    refine va_calli (w_runS (As := [.ref (sd_a 0), .int (xs (i + 1).toNatClampNeg), .int (xs (i + 2).toNatClampNeg), .ref (ou_a 0)]) (rest := []) ⟨hx, hb, hml, hown, hts⟩ (kx_Law_told_1 l hl9 dC dI cI cZ cJ sd_a cu_a ou_a w_a v_a (wr_a 0) (rd_a 0) (sp_a 0) H.size hf) (cwH_of 4 hts t_772 rfl rfl t_53 t_770 t_771 hd_Law_told.2 ⟨Nat.le_trans (Nat.le_of_ble_eq_true rfl) hRf, Nat.le_trans (Nat.le_of_ble_eq_true rfl) hRl⟩) ⟨kPX_blind, kPX_at hPc hK hDc hN (fun q hq => hS.2.1 q hq (fun h9 => absurd (hA2 q h9) (Nat.not_le.mpr hq))) hT hX⟩ rfl rfl hl.1 rfl (lv_room (Nat.le_of_ble_eq_true rfl)) d_law_861 ⟨by omega, by omega⟩) hS (fun q _ h => hFc q h) hFc (fun r9 u t H1 locs ht hvm hw hB hz1 hk1 hS => ?_)
    rw [hw]
    obtain ⟨hP, hD⟩ := kQ_join (wr := (wSy cI cZ cJ sp_a sp ++ wBr cI cZ cJ w_a w_b w ++ wBr cI cZ cJ v_a v_b v ++ wWr cI cZ cJ wr_a (pb_a 0) wr ++ wRd cI cZ cJ rd_a (pb_a 0) rd ++ wPb cI cZ cJ pb_a w_a v_a pb ++ wMo cI cZ cJ mo_a mo)) (w1 := (wSd cI cZ cJ sd_a w_a v_a (wr_a 0) (rd_a 0) (cu_a 0) (sp_a 0) sd ++ wSy cI cZ cJ cu_a cu ++ wOu cI cZ cJ ou_a ou)) hP hD [0, 1, 2, 3, 4, 5, 6, 7, 8, 9, 10, 45] [11, 12, 13, 14, 15, 16, 17, 18, 19, 20, 21, 22, 23, 24, 25, 26, 27, 28, 29, 30, 31, 32, 33, 34, 35, 36, 37, 38, 39, 40, 41, 42, 43, 44, 46] rfl rfl (by decide) (by decide) ht hk1 hFc hB
    generalize H1 = H at hP hS ⊢
    have hP : va_P (dC, dI) vwCl (wSd cI cZ cJ sd_a w_a v_a (wr_a 0) (rd_a 0) (cu_a 0) (sp_a 0) sd ++ wSy cI cZ cJ cu_a cu ++ wSy cI cZ cJ sp_a sp ++ wBr cI cZ cJ w_a w_b w ++ wBr cI cZ cJ v_a v_b v ++ wWr cI cZ cJ wr_a (pb_a 0) wr ++ wRd cI cZ cJ rd_a (pb_a 0) rd ++ wPb cI cZ cJ pb_a w_a v_a pb ++ wMo cI cZ cJ mo_a mo ++ wOu cI cZ cJ ou_a ou) H := hP.sub [35, 36, 37, 38, 39, 40, 41, 42, 43, 44, 45, 0, 1, 2, 3, 4, 5, 6, 7, 8, 9, 10, 11, 12, 13, 14, 15, 16, 17, 18, 19, 20, 21, 22, 23, 24, 25, 26, 27, 28, 29, 30, 31, 32, 33, 34, 46] rfl
    have hD : va_D A (wSd cI cZ cJ sd_a w_a v_a (wr_a 0) (rd_a 0) (cu_a 0) (sp_a 0) sd ++ wSy cI cZ cJ cu_a cu ++ wSy cI cZ cJ sp_a sp ++ wBr cI cZ cJ w_a w_b w ++ wBr cI cZ cJ v_a v_b v ++ wWr cI cZ cJ wr_a (pb_a 0) wr ++ wRd cI cZ cJ rd_a (pb_a 0) rd ++ wPb cI cZ cJ pb_a w_a v_a pb ++ wMo cI cZ cJ mo_a mo ++ wOu cI cZ cJ ou_a ou) := hD.sub [35, 36, 37, 38, 39, 40, 41, 42, 43, 44, 45, 0, 1, 2, 3, 4, 5, 6, 7, 8, 9, 10, 11, 12, 13, 14, 15, 16, 17, 18, 19, 20, 21, 22, 23, 24, 25, 26, 27, 28, 29, 30, 31, 32, 33, 34, 46] (by decide) rfl
    refine lv_istore (lv' := [(5, .int 2), (0, .ref b), (1, .ref (sd_a 0)), (2, .ref (mo_a 0)), (3, .ref (ou_a 0)), (4, .int i)]) hx hb d_law_864 hl (by decide) rfl (fun ls hl => ?_)
    refine lv_aload_n hx hb d_law_866 rfl (lv_at hl 3 rfl) ?_
    refine lv_aload_n hx hb d_law_867 rfl (lv_at hl 1 rfl) ?_
    refine lv_iload hx hb d_law_868 (lv_at hl 5 rfl) ?_
    refine lv_iconst (v := 1) hx hb d_law_870 (by decide) ?_
    refine lv_iadd hx hb d_law_871 ?_
    refine va_sld hx hb hX0 hbl hbA hS (hin 1 (by decide) (by decide)) d_law_872 ?_
    refine lv_aload_n hx hb d_law_873 rfl (lv_at hl 1 rfl) ?_
    refine lv_iload hx hb d_law_874 (lv_at hl 5 rfl) ?_
    refine lv_iconst (v := 2) hx hb d_law_876 (by decide) ?_
    refine lv_iadd hx hb d_law_877 ?_
    refine va_sld hx hb hX0 hbl hbA hS (hin 2 (by decide) (by decide)) d_law_878 ?_
    have hPc := hP.sub (ws' := (wMo cI cZ cJ mo_a mo)) [30, 31, 32, 33, 34, 35, 36, 37, 38, 39, 40, 41, 42, 43, 44, 45] rfl
    have hDc := hD.sub (ws' := (wMo cI cZ cJ mo_a mo)) [30, 31, 32, 33, 34, 35, 36, 37, 38, 39, 40, 41, 42, 43, 44, 45] (by decide) rfl
    have hFc := va_free (wc := (wMo cI cZ cJ mo_a mo)) hD hS hA [30, 31, 32, 33, 34, 35, 36, 37, 38, 39, 40, 41, 42, 43, 44, 45] rfl
    refine va_calli (va_runV (As := [.int (xs (i + 1).toNatClampNeg), .int (xs (i + 2).toNatClampNeg)]) (rest := []) ⟨hx, hb, hml, hown, hts⟩ (k_Model_told l dC dI cI cZ cJ mo_a H.size hg) (cwV 2 hts (gV t_1083 t_1084 t_1085 t_63 t_1086) rfl rfl rfl hd_Model_told ⟨Nat.le_trans (Nat.le_of_ble_eq_true rfl) hRf, Nat.le_trans (Nat.le_of_ble_eq_true rfl) hRl⟩) ⟨kP_blind, va_recv hK hP (ci := 7) (q0 := 30) rfl rfl, kP_at hPc hK hDc hN⟩ rfl rfl hl.1 rfl (lv_room (Nat.le_of_ble_eq_true rfl)) d_law_879 ⟨by omega, by omega⟩) hS (fun q _ h => hFc q h) hFc (fun r9 u t H1 locs ht hvm hw hB hz1 hk1 hS => ?_)
    rw [hw]
    obtain ⟨hP, hD⟩ := kQ_join (wr := (wSd cI cZ cJ sd_a w_a v_a (wr_a 0) (rd_a 0) (cu_a 0) (sp_a 0) sd ++ wSy cI cZ cJ cu_a cu ++ wSy cI cZ cJ sp_a sp ++ wBr cI cZ cJ w_a w_b w ++ wBr cI cZ cJ v_a v_b v ++ wWr cI cZ cJ wr_a (pb_a 0) wr ++ wRd cI cZ cJ rd_a (pb_a 0) rd ++ wPb cI cZ cJ pb_a w_a v_a pb ++ wOu cI cZ cJ ou_a ou)) (w1 := (wMo cI cZ cJ mo_a mo')) hP hD [30, 31, 32, 33, 34, 35, 36, 37, 38, 39, 40, 41, 42, 43, 44, 45] [0, 1, 2, 3, 4, 5, 6, 7, 8, 9, 10, 11, 12, 13, 14, 15, 16, 17, 18, 19, 20, 21, 22, 23, 24, 25, 26, 27, 28, 29, 46] rfl rfl (by decide) (by decide) ht hk1 hFc hB
    generalize H1 = H at hP hS ⊢
    have hP : va_P (dC, dI) vwCl (wSd cI cZ cJ sd_a w_a v_a (wr_a 0) (rd_a 0) (cu_a 0) (sp_a 0) sd ++ wSy cI cZ cJ cu_a cu ++ wSy cI cZ cJ sp_a sp ++ wBr cI cZ cJ w_a w_b w ++ wBr cI cZ cJ v_a v_b v ++ wWr cI cZ cJ wr_a (pb_a 0) wr ++ wRd cI cZ cJ rd_a (pb_a 0) rd ++ wPb cI cZ cJ pb_a w_a v_a pb ++ wMo cI cZ cJ mo_a mo' ++ wOu cI cZ cJ ou_a ou) H := hP.sub [0, 1, 2, 3, 4, 5, 6, 7, 8, 9, 10, 11, 12, 13, 14, 15, 16, 17, 18, 19, 20, 21, 22, 23, 24, 25, 26, 27, 28, 29, 31, 32, 33, 34, 35, 36, 37, 38, 39, 40, 41, 42, 43, 44, 45, 46, 30] rfl
    have hD : va_D A (wSd cI cZ cJ sd_a w_a v_a (wr_a 0) (rd_a 0) (cu_a 0) (sp_a 0) sd ++ wSy cI cZ cJ cu_a cu ++ wSy cI cZ cJ sp_a sp ++ wBr cI cZ cJ w_a w_b w ++ wBr cI cZ cJ v_a v_b v ++ wWr cI cZ cJ wr_a (pb_a 0) wr ++ wRd cI cZ cJ rd_a (pb_a 0) rd ++ wPb cI cZ cJ pb_a w_a v_a pb ++ wMo cI cZ cJ mo_a mo' ++ wOu cI cZ cJ ou_a ou) := hD.sub [0, 1, 2, 3, 4, 5, 6, 7, 8, 9, 10, 11, 12, 13, 14, 15, 16, 17, 18, 19, 20, 21, 22, 23, 24, 25, 26, 27, 28, 29, 31, 32, 33, 34, 35, 36, 37, 38, 39, 40, 41, 42, 43, 44, 45, 46, 30] (by decide) rfl
    refine lv_istore (lv' := [(6, .int q), (5, .int 2), (0, .ref b), (1, .ref (sd_a 0)), (2, .ref (mo_a 0)), (3, .ref (ou_a 0)), (4, .int i)]) hx hb d_law_882 hl (by decide) rfl (fun ls hl => ?_)
    refine lv_aload_n hx hb d_law_884 rfl (lv_at hl 4 rfl) ?_
    have hth : f_Model_thrown mo' = some (Mo_code mo') := rfl
    have hPc := hP.sub (ws' := (wMo cI cZ cJ mo_a mo')) [30, 31, 32, 33, 34, 35, 36, 37, 38, 39, 40, 41, 42, 43, 44, 45] rfl
    have hDc := hD.sub (ws' := (wMo cI cZ cJ mo_a mo')) [30, 31, 32, 33, 34, 35, 36, 37, 38, 39, 40, 41, 42, 43, 44, 45] (by decide) rfl
    have hFc := va_free (wc := (wMo cI cZ cJ mo_a mo')) hD hS hA [30, 31, 32, 33, 34, 35, 36, 37, 38, 39, 40, 41, 42, 43, 44, 45] rfl
    refine va_calli (va_runV (As := []) (rest := []) ⟨hx, hb, hml, hown, hts⟩ (k_Model_thrown l dC dI cI cZ cJ mo_a H.size hth) (cwV 0 hts (gV t_906 t_907 t_908 t_63 t_909) rfl rfl rfl hd_Model_thrown ⟨Nat.le_trans (Nat.le_of_ble_eq_true rfl) hRf, Nat.le_trans (Nat.le_of_ble_eq_true rfl) hRl⟩) ⟨kP_blind, va_recv hK hP (ci := 7) (q0 := 30) rfl rfl, kP_at hPc hK hDc hN⟩ rfl rfl hl.1 rfl (lv_room (Nat.le_of_ble_eq_true rfl)) d_law_885 ⟨by omega, by omega⟩) hS (fun q _ h => hFc q h) hFc (fun r9 u t H1 locs ht hvm hw hB hz1 hk1 hS => ?_)
    rw [hw]
    obtain ⟨hP, hD⟩ := kQ_join (wr := (wSd cI cZ cJ sd_a w_a v_a (wr_a 0) (rd_a 0) (cu_a 0) (sp_a 0) sd ++ wSy cI cZ cJ cu_a cu ++ wSy cI cZ cJ sp_a sp ++ wBr cI cZ cJ w_a w_b w ++ wBr cI cZ cJ v_a v_b v ++ wWr cI cZ cJ wr_a (pb_a 0) wr ++ wRd cI cZ cJ rd_a (pb_a 0) rd ++ wPb cI cZ cJ pb_a w_a v_a pb ++ wOu cI cZ cJ ou_a ou)) (w1 := (wMo cI cZ cJ mo_a mo')) hP hD [30, 31, 32, 33, 34, 35, 36, 37, 38, 39, 40, 41, 42, 43, 44, 45] [0, 1, 2, 3, 4, 5, 6, 7, 8, 9, 10, 11, 12, 13, 14, 15, 16, 17, 18, 19, 20, 21, 22, 23, 24, 25, 26, 27, 28, 29, 46] rfl rfl (by decide) (by decide) ht hk1 hFc hB
    generalize H1 = H at hP hS ⊢
    have hP : va_P (dC, dI) vwCl (wSd cI cZ cJ sd_a w_a v_a (wr_a 0) (rd_a 0) (cu_a 0) (sp_a 0) sd ++ wSy cI cZ cJ cu_a cu ++ wSy cI cZ cJ sp_a sp ++ wBr cI cZ cJ w_a w_b w ++ wBr cI cZ cJ v_a v_b v ++ wWr cI cZ cJ wr_a (pb_a 0) wr ++ wRd cI cZ cJ rd_a (pb_a 0) rd ++ wPb cI cZ cJ pb_a w_a v_a pb ++ wMo cI cZ cJ mo_a mo' ++ wOu cI cZ cJ ou_a ou) H := hP.sub [0, 1, 2, 3, 4, 5, 6, 7, 8, 9, 10, 11, 12, 13, 14, 15, 16, 17, 18, 19, 20, 21, 22, 23, 24, 25, 26, 27, 28, 29, 31, 32, 33, 34, 35, 36, 37, 38, 39, 40, 41, 42, 43, 44, 45, 46, 30] rfl
    have hD : va_D A (wSd cI cZ cJ sd_a w_a v_a (wr_a 0) (rd_a 0) (cu_a 0) (sp_a 0) sd ++ wSy cI cZ cJ cu_a cu ++ wSy cI cZ cJ sp_a sp ++ wBr cI cZ cJ w_a w_b w ++ wBr cI cZ cJ v_a v_b v ++ wWr cI cZ cJ wr_a (pb_a 0) wr ++ wRd cI cZ cJ rd_a (pb_a 0) rd ++ wPb cI cZ cJ pb_a w_a v_a pb ++ wMo cI cZ cJ mo_a mo' ++ wOu cI cZ cJ ou_a ou) := hD.sub [0, 1, 2, 3, 4, 5, 6, 7, 8, 9, 10, 11, 12, 13, 14, 15, 16, 17, 18, 19, 20, 21, 22, 23, 24, 25, 26, 27, 28, 29, 31, 32, 33, 34, 35, 36, 37, 38, 39, 40, 41, 42, 43, 44, 45, 46, 30] (by decide) rfl
    refine lv_iload hx hb d_law_888 (lv_at hl 1 rfl) ?_
    refine lv_icmp_eq (tgt := 895) hx hb d_law_890 (by decide) (fun _ => ?_) (fun h9 => absurd hcode h9)
    refine lv_iload hx hb d_law_895 (lv_at hl 1 rfl) ?_
    refine lv_if_ne (tgt := 912) hx hb d_law_897 (by decide) (fun _ => ?_) (fun h9 => absurd h9 (by decide))
    refine lv_goto (tgt := 1131) hx hb d_law_912 (by decide) ?_
    have hl := lv_sub (l' := [(0, .ref b), (1, .ref (sd_a 0)), (2, .ref (mo_a 0)), (3, .ref (ou_a 0)), (4, .int i)]) hl [2, 3, 4, 5, 6] rfl
    refine W.widen (k := j + 1 + Br_byL w + Br_byL v) (n := 6 * (j + 1) + 2 * Br_byL w + 2 * Br_byL v) (by omega) (by omega) ?_
    exact hk _ _ _ cu_a sp_a w_b v_b cu sp w v wr rd pb mo' ou hrel hP hD hS hl

set_option maxHeartbeats 8000000 in
set_option maxRecDepth 100000 in
theorem L_P_likeness {p : Program} {l : Launch} {e : Env} {R : Room} {s : State} {m : MethodId} {args : Array Value} {below : List Frame} {meth : Method} {c : Code} {Q : State → Prop} {A : Nat → Prop} {dC : Nat → ClassId} {dI : Nat → Nat → Nat} {cI cZ cJ : ClassId} {sd_a cu_a sp_a : Nat → Nat} {w_a w_b v_a v_b : Nat} {wr_a rd_a pb_a mo_a ou_a : Nat → Nat} {sd : Sd} {cu sp : Sy} {w v : Br} {wr : Wr} {rd : Rd} {pb : Pb} {mo : Mo} {ou : Ou} {b L : Nat} {xs : Nat → Int32} {i : Int32} {j : Nat} {Rl : Sd → Sy → Sy → Br → Br → Wr → Rd → Pb → Mo → Prop} (hl9 : l.stackTraces = false) (C0 : lcx p c m s args R (dC, dI) (TYS cI cZ cJ) A b L xs i j) (hRb : ∀ sd cu sp w v wr rd pb mo, Rl sd cu sp w v wr rd pb mo → Br_byL w ≤ 40000 ∧ Br_byL v ≤ 40000) (hR0 : Rl sd cu sp w v wr rd pb mo) (hT0 : T_P_likeness Rl sd cu sp w v wr rd pb mo (xs (i + 1).toNatClampNeg) (xs (i + 2).toNatClampNeg))
    (hk : ∀ (H : Heap) (locs : List Loc) (ls : Array Slot) (cu_a sp_a : Nat → Nat) (w_b v_b : Nat) (cu sp : Sy) (w v : Br) (wr : Wr) (rd : Rd) (pb : Pb) (mo : Mo) (ou : Ou), Rl sd cu sp w v wr rd pb mo → va_P (dC, dI) vwCl (wSd cI cZ cJ sd_a w_a v_a (wr_a 0) (rd_a 0) (cu_a 0) (sp_a 0) sd ++ wSy cI cZ cJ cu_a cu ++ wSy cI cZ cJ sp_a sp ++ wBr cI cZ cJ w_a w_b w ++ wBr cI cZ cJ v_a v_b v ++ wWr cI cZ cJ wr_a (pb_a 0) wr ++ wRd cI cZ cJ rd_a (pb_a 0) rd ++ wPb cI cZ cJ pb_a w_a v_a pb ++ wMo cI cZ cJ mo_a mo ++ wOu cI cZ cJ ou_a ou) H → va_D A (wSd cI cZ cJ sd_a w_a v_a (wr_a 0) (rd_a 0) (cu_a 0) (sp_a 0) sd ++ wSy cI cZ cJ cu_a cu ++ wSy cI cZ cJ sp_a sp ++ wBr cI cZ cJ w_a w_b w ++ wBr cI cZ cJ v_a v_b v ++ wWr cI cZ cJ wr_a (pb_a 0) wr ++ wRd cI cZ cJ rd_a (pb_a 0) rd ++ wPb cI cZ cJ pb_a w_a v_a pb ++ wMo cI cZ cJ mo_a mo ++ wOu cI cZ cJ ou_a ou) → va_S A s.heap H locs → lv_has ls 7 [(0, .ref b), (1, .ref (sd_a 0)), (2, .ref (mo_a 0)), (3, .ref (ou_a 0)), (4, .int i)] → W p l e R s m args below meth c H locs (j + 1 + Br_byL w + Br_byL v) (6 * (j + 1) + 2 * Br_byL w + 2 * Br_byL v) Q (F0 m 1131 ls []))
    {H : Heap} {locs : List Loc} {ls : Array Slot} (hP : va_P (dC, dI) vwCl (wSd cI cZ cJ sd_a w_a v_a (wr_a 0) (rd_a 0) (cu_a 0) (sp_a 0) sd ++ wSy cI cZ cJ cu_a cu ++ wSy cI cZ cJ sp_a sp ++ wBr cI cZ cJ w_a w_b w ++ wBr cI cZ cJ v_a v_b v ++ wWr cI cZ cJ wr_a (pb_a 0) wr ++ wRd cI cZ cJ rd_a (pb_a 0) rd ++ wPb cI cZ cJ pb_a w_a v_a pb ++ wMo cI cZ cJ mo_a mo ++ wOu cI cZ cJ ou_a ou) H) (hD : va_D A (wSd cI cZ cJ sd_a w_a v_a (wr_a 0) (rd_a 0) (cu_a 0) (sp_a 0) sd ++ wSy cI cZ cJ cu_a cu ++ wSy cI cZ cJ sp_a sp ++ wBr cI cZ cJ w_a w_b w ++ wBr cI cZ cJ v_a v_b v ++ wWr cI cZ cJ wr_a (pb_a 0) wr ++ wRd cI cZ cJ rd_a (pb_a 0) rd ++ wPb cI cZ cJ pb_a w_a v_a pb ++ wMo cI cZ cJ mo_a mo ++ wOu cI cZ cJ ou_a ou)) (hS : va_S A s.heap H locs) (hl : lv_has ls 7 [(0, .ref b), (1, .ref (sd_a 0)), (2, .ref (mo_a 0)), (3, .ref (ou_a 0)), (4, .int i)]) : W p l e R s m args below meth c H locs (j + Br_byL w + Br_byL v) (6 * j + 2 * Br_byL w + 2 * Br_byL v) Q (F0 m 915 ls []) := by
  obtain ⟨hx, hb, hml, hown, hts, hK, hA, hA2, hRf, hRl, hN, hT, hX, hX0, hbl, hin, hj, hRc, hRs⟩ := C0
  have hbA : ¬ A b := fun h => absurd (hA2 b h) (Nat.not_le.mpr hbl)
  obtain ⟨hw0, hv0⟩ := hRb _ _ _ _ _ _ _ _ _ hR0
  unfold T_P_likeness at hT0
  rcases hT0 with ⟨r, mo', hf, hg, hcode, hrel⟩ | ⟨hf, q, mo', hg, hcode, hrel⟩
  · obtain ⟨ou', heou⟩ : ∃ z : Ou, z = (vp_updL (Ou_f ou) 0 r.toInt64) := ⟨_, rfl⟩
    have hf1 : f_Law_likeness sd cu ou (xs (i + 1).toNatClampNeg) (xs (i + 2).toNatClampNeg) = some (0, ou') := by
      rw [f_Law_likeness, hf, bd_s, heou]
      rfl
    have hou : Ou_f ou' (0 : Int32).toNatClampNeg = r.toInt64 := by rw [heou]; exact updL_at _ _ _
    refine lv_aload_n hx hb d_law_915 rfl (lv_at hl 1 rfl) ?_
    refine lv_aload_n hx hb d_law_916 rfl (lv_at hl 0 rfl) ?_
    refine lv_iload hx hb d_law_917 (lv_at hl 4 rfl) ?_
    refine lv_iconst (v := 1) hx hb d_law_919 (by decide) ?_
    refine lv_iadd hx hb d_law_920 ?_
    refine va_sld hx hb hX0 hbl hbA hS (hin 1 (by decide) (by decide)) d_law_921 ?_
    refine lv_aload_n hx hb d_law_922 rfl (lv_at hl 0 rfl) ?_
    refine lv_iload hx hb d_law_923 (lv_at hl 4 rfl) ?_
    refine lv_iconst (v := 2) hx hb d_law_925 (by decide) ?_
    refine lv_iadd hx hb d_law_926 ?_
    refine va_sld hx hb hX0 hbl hbA hS (hin 2 (by decide) (by decide)) d_law_927 ?_
    refine lv_aload_n hx hb d_law_928 rfl (lv_at hl 3 rfl) ?_
    have hPc := hP.sub (ws' := (wSd cI cZ cJ sd_a w_a v_a (wr_a 0) (rd_a 0) (cu_a 0) (sp_a 0) sd ++ wSy cI cZ cJ cu_a cu ++ wOu cI cZ cJ ou_a ou)) [0, 1, 2, 3, 4, 5, 6, 7, 8, 9, 10, 45] rfl
    have hDc := hD.sub (ws' := (wSd cI cZ cJ sd_a w_a v_a (wr_a 0) (rd_a 0) (cu_a 0) (sp_a 0) sd ++ wSy cI cZ cJ cu_a cu ++ wOu cI cZ cJ ou_a ou)) [0, 1, 2, 3, 4, 5, 6, 7, 8, 9, 10, 45] (by decide) rfl
    have hFc := va_free (wc := (wSd cI cZ cJ sd_a w_a v_a (wr_a 0) (rd_a 0) (cu_a 0) (sp_a 0) sd ++ wSy cI cZ cJ cu_a cu ++ wOu cI cZ cJ ou_a ou)) hD hS hA [0, 1, 2, 3, 4, 5, 6, 7, 8, 9, 10, 45] rfl
    refine va_calli (w_runS (As := [.ref (sd_a 0), .int (xs (i + 1).toNatClampNeg), .int (xs (i + 2).toNatClampNeg), .ref (ou_a 0)]) (rest := []) ⟨hx, hb, hml, hown, hts⟩ (k_Law_likeness l dC dI cI cZ cJ sd_a cu_a ou_a w_a v_a (wr_a 0) (rd_a 0) (sp_a 0) H.size hf1) (cwH_of 4 hts t_785 rfl rfl t_53 t_783 t_784 hd_Law_likeness.2 ⟨Nat.le_trans (Nat.le_of_ble_eq_true rfl) hRf, Nat.le_trans (Nat.le_of_ble_eq_true rfl) hRl⟩) ⟨kP_blind, kP_at hPc hK hDc hN⟩ rfl rfl hl.1 rfl (lv_room (Nat.le_of_ble_eq_true rfl)) d_law_929 ⟨by omega, by omega⟩) hS (fun q _ h => hFc q h) hFc (fun r9 u t H1 locs ht hvm hw hB hz1 hk1 hS => ?_)
    rw [hw]
    obtain ⟨hP, hD⟩ := kQ_join (wr := (wSy cI cZ cJ sp_a sp ++ wBr cI cZ cJ w_a w_b w ++ wBr cI cZ cJ v_a v_b v ++ wWr cI cZ cJ wr_a (pb_a 0) wr ++ wRd cI cZ cJ rd_a (pb_a 0) rd ++ wPb cI cZ cJ pb_a w_a v_a pb ++ wMo cI cZ cJ mo_a mo)) (w1 := (wSd cI cZ cJ sd_a w_a v_a (wr_a 0) (rd_a 0) (cu_a 0) (sp_a 0) sd ++ wSy cI cZ cJ cu_a cu ++ wOu cI cZ cJ ou_a ou')) hP hD [0, 1, 2, 3, 4, 5, 6, 7, 8, 9, 10, 45] [11, 12, 13, 14, 15, 16, 17, 18, 19, 20, 21, 22, 23, 24, 25, 26, 27, 28, 29, 30, 31, 32, 33, 34, 35, 36, 37, 38, 39, 40, 41, 42, 43, 44, 46] rfl rfl (by decide) (by decide) ht hk1 hFc hB
    generalize H1 = H at hP hS ⊢
    have hP : va_P (dC, dI) vwCl (wSd cI cZ cJ sd_a w_a v_a (wr_a 0) (rd_a 0) (cu_a 0) (sp_a 0) sd ++ wSy cI cZ cJ cu_a cu ++ wSy cI cZ cJ sp_a sp ++ wBr cI cZ cJ w_a w_b w ++ wBr cI cZ cJ v_a v_b v ++ wWr cI cZ cJ wr_a (pb_a 0) wr ++ wRd cI cZ cJ rd_a (pb_a 0) rd ++ wPb cI cZ cJ pb_a w_a v_a pb ++ wMo cI cZ cJ mo_a mo ++ wOu cI cZ cJ ou_a ou') H := hP.sub [35, 36, 37, 38, 39, 40, 41, 42, 43, 44, 45, 0, 1, 2, 3, 4, 5, 6, 7, 8, 9, 10, 11, 12, 13, 14, 15, 16, 17, 18, 19, 20, 21, 22, 23, 24, 25, 26, 27, 28, 29, 30, 31, 32, 33, 34, 46] rfl
    have hD : va_D A (wSd cI cZ cJ sd_a w_a v_a (wr_a 0) (rd_a 0) (cu_a 0) (sp_a 0) sd ++ wSy cI cZ cJ cu_a cu ++ wSy cI cZ cJ sp_a sp ++ wBr cI cZ cJ w_a w_b w ++ wBr cI cZ cJ v_a v_b v ++ wWr cI cZ cJ wr_a (pb_a 0) wr ++ wRd cI cZ cJ rd_a (pb_a 0) rd ++ wPb cI cZ cJ pb_a w_a v_a pb ++ wMo cI cZ cJ mo_a mo ++ wOu cI cZ cJ ou_a ou') := hD.sub [35, 36, 37, 38, 39, 40, 41, 42, 43, 44, 45, 0, 1, 2, 3, 4, 5, 6, 7, 8, 9, 10, 11, 12, 13, 14, 15, 16, 17, 18, 19, 20, 21, 22, 23, 24, 25, 26, 27, 28, 29, 30, 31, 32, 33, 34, 46] (by decide) rfl
    refine lv_istore (lv' := [(5, .int 0), (0, .ref b), (1, .ref (sd_a 0)), (2, .ref (mo_a 0)), (3, .ref (ou_a 0)), (4, .int i)]) hx hb d_law_932 hl (by decide) rfl (fun ls hl => ?_)
    refine lv_aload_n hx hb d_law_934 rfl (lv_at hl 3 rfl) ?_
    refine lv_aload_n hx hb d_law_935 rfl (lv_at hl 1 rfl) ?_
    refine lv_iload hx hb d_law_936 (lv_at hl 5 rfl) ?_
    refine lv_iconst (v := 1) hx hb d_law_938 (by decide) ?_
    refine lv_iadd hx hb d_law_939 ?_
    refine va_sld hx hb hX0 hbl hbA hS (hin 1 (by decide) (by decide)) d_law_940 ?_
    refine lv_aload_n hx hb d_law_941 rfl (lv_at hl 1 rfl) ?_
    refine lv_iload hx hb d_law_942 (lv_at hl 5 rfl) ?_
    refine lv_iconst (v := 2) hx hb d_law_944 (by decide) ?_
    refine lv_iadd hx hb d_law_945 ?_
    refine va_sld hx hb hX0 hbl hbA hS (hin 2 (by decide) (by decide)) d_law_946 ?_
    have hPc := hP.sub (ws' := (wMo cI cZ cJ mo_a mo)) [30, 31, 32, 33, 34, 35, 36, 37, 38, 39, 40, 41, 42, 43, 44, 45] rfl
    have hDc := hD.sub (ws' := (wMo cI cZ cJ mo_a mo)) [30, 31, 32, 33, 34, 35, 36, 37, 38, 39, 40, 41, 42, 43, 44, 45] (by decide) rfl
    have hFc := va_free (wc := (wMo cI cZ cJ mo_a mo)) hD hS hA [30, 31, 32, 33, 34, 35, 36, 37, 38, 39, 40, 41, 42, 43, 44, 45] rfl
    refine va_calli (va_runV (As := [.int (xs (i + 1).toNatClampNeg), .int (xs (i + 2).toNatClampNeg)]) (rest := []) ⟨hx, hb, hml, hown, hts⟩ (k_Model_likeness l dC dI cI cZ cJ mo_a H.size hg) (cwV 2 hts (gV t_1087 t_1088 t_1089 t_63 t_1090) rfl rfl rfl hd_Model_likeness ⟨Nat.le_trans (Nat.le_of_ble_eq_true rfl) hRf, Nat.le_trans (Nat.le_of_ble_eq_true rfl) hRl⟩) ⟨kP_blind, va_recv hK hP (ci := 7) (q0 := 30) rfl rfl, kP_at hPc hK hDc hN⟩ rfl rfl hl.1 rfl (lv_room (Nat.le_of_ble_eq_true rfl)) d_law_947 ⟨by omega, by omega⟩) hS (fun q _ h => hFc q h) hFc (fun r9 u t H1 locs ht hvm hw hB hz1 hk1 hS => ?_)
    rw [hw]
    obtain ⟨hP, hD⟩ := kQ_join (wr := (wSd cI cZ cJ sd_a w_a v_a (wr_a 0) (rd_a 0) (cu_a 0) (sp_a 0) sd ++ wSy cI cZ cJ cu_a cu ++ wSy cI cZ cJ sp_a sp ++ wBr cI cZ cJ w_a w_b w ++ wBr cI cZ cJ v_a v_b v ++ wWr cI cZ cJ wr_a (pb_a 0) wr ++ wRd cI cZ cJ rd_a (pb_a 0) rd ++ wPb cI cZ cJ pb_a w_a v_a pb ++ wOu cI cZ cJ ou_a ou')) (w1 := (wMo cI cZ cJ mo_a mo')) hP hD [30, 31, 32, 33, 34, 35, 36, 37, 38, 39, 40, 41, 42, 43, 44, 45] [0, 1, 2, 3, 4, 5, 6, 7, 8, 9, 10, 11, 12, 13, 14, 15, 16, 17, 18, 19, 20, 21, 22, 23, 24, 25, 26, 27, 28, 29, 46] rfl rfl (by decide) (by decide) ht hk1 hFc hB
    generalize H1 = H at hP hS ⊢
    have hP : va_P (dC, dI) vwCl (wSd cI cZ cJ sd_a w_a v_a (wr_a 0) (rd_a 0) (cu_a 0) (sp_a 0) sd ++ wSy cI cZ cJ cu_a cu ++ wSy cI cZ cJ sp_a sp ++ wBr cI cZ cJ w_a w_b w ++ wBr cI cZ cJ v_a v_b v ++ wWr cI cZ cJ wr_a (pb_a 0) wr ++ wRd cI cZ cJ rd_a (pb_a 0) rd ++ wPb cI cZ cJ pb_a w_a v_a pb ++ wMo cI cZ cJ mo_a mo' ++ wOu cI cZ cJ ou_a ou') H := hP.sub [0, 1, 2, 3, 4, 5, 6, 7, 8, 9, 10, 11, 12, 13, 14, 15, 16, 17, 18, 19, 20, 21, 22, 23, 24, 25, 26, 27, 28, 29, 31, 32, 33, 34, 35, 36, 37, 38, 39, 40, 41, 42, 43, 44, 45, 46, 30] rfl
    have hD : va_D A (wSd cI cZ cJ sd_a w_a v_a (wr_a 0) (rd_a 0) (cu_a 0) (sp_a 0) sd ++ wSy cI cZ cJ cu_a cu ++ wSy cI cZ cJ sp_a sp ++ wBr cI cZ cJ w_a w_b w ++ wBr cI cZ cJ v_a v_b v ++ wWr cI cZ cJ wr_a (pb_a 0) wr ++ wRd cI cZ cJ rd_a (pb_a 0) rd ++ wPb cI cZ cJ pb_a w_a v_a pb ++ wMo cI cZ cJ mo_a mo' ++ wOu cI cZ cJ ou_a ou') := hD.sub [0, 1, 2, 3, 4, 5, 6, 7, 8, 9, 10, 11, 12, 13, 14, 15, 16, 17, 18, 19, 20, 21, 22, 23, 24, 25, 26, 27, 28, 29, 31, 32, 33, 34, 35, 36, 37, 38, 39, 40, 41, 42, 43, 44, 45, 46, 30] (by decide) rfl
    refine lv_istore (lv' := [(6, .int r), (5, .int 0), (0, .ref b), (1, .ref (sd_a 0)), (2, .ref (mo_a 0)), (3, .ref (ou_a 0)), (4, .int i)]) hx hb d_law_950 hl (by decide) rfl (fun ls hl => ?_)
    refine lv_aload_n hx hb d_law_952 rfl (lv_at hl 4 rfl) ?_
    have hth : f_Model_thrown mo' = some (Mo_code mo') := rfl
    have hPc := hP.sub (ws' := (wMo cI cZ cJ mo_a mo')) [30, 31, 32, 33, 34, 35, 36, 37, 38, 39, 40, 41, 42, 43, 44, 45] rfl
    have hDc := hD.sub (ws' := (wMo cI cZ cJ mo_a mo')) [30, 31, 32, 33, 34, 35, 36, 37, 38, 39, 40, 41, 42, 43, 44, 45] (by decide) rfl
    have hFc := va_free (wc := (wMo cI cZ cJ mo_a mo')) hD hS hA [30, 31, 32, 33, 34, 35, 36, 37, 38, 39, 40, 41, 42, 43, 44, 45] rfl
    refine va_calli (va_runV (As := []) (rest := []) ⟨hx, hb, hml, hown, hts⟩ (k_Model_thrown l dC dI cI cZ cJ mo_a H.size hth) (cwV 0 hts (gV t_906 t_907 t_908 t_63 t_909) rfl rfl rfl hd_Model_thrown ⟨Nat.le_trans (Nat.le_of_ble_eq_true rfl) hRf, Nat.le_trans (Nat.le_of_ble_eq_true rfl) hRl⟩) ⟨kP_blind, va_recv hK hP (ci := 7) (q0 := 30) rfl rfl, kP_at hPc hK hDc hN⟩ rfl rfl hl.1 rfl (lv_room (Nat.le_of_ble_eq_true rfl)) d_law_953 ⟨by omega, by omega⟩) hS (fun q _ h => hFc q h) hFc (fun r9 u t H1 locs ht hvm hw hB hz1 hk1 hS => ?_)
    rw [hw]
    obtain ⟨hP, hD⟩ := kQ_join (wr := (wSd cI cZ cJ sd_a w_a v_a (wr_a 0) (rd_a 0) (cu_a 0) (sp_a 0) sd ++ wSy cI cZ cJ cu_a cu ++ wSy cI cZ cJ sp_a sp ++ wBr cI cZ cJ w_a w_b w ++ wBr cI cZ cJ v_a v_b v ++ wWr cI cZ cJ wr_a (pb_a 0) wr ++ wRd cI cZ cJ rd_a (pb_a 0) rd ++ wPb cI cZ cJ pb_a w_a v_a pb ++ wOu cI cZ cJ ou_a ou')) (w1 := (wMo cI cZ cJ mo_a mo')) hP hD [30, 31, 32, 33, 34, 35, 36, 37, 38, 39, 40, 41, 42, 43, 44, 45] [0, 1, 2, 3, 4, 5, 6, 7, 8, 9, 10, 11, 12, 13, 14, 15, 16, 17, 18, 19, 20, 21, 22, 23, 24, 25, 26, 27, 28, 29, 46] rfl rfl (by decide) (by decide) ht hk1 hFc hB
    generalize H1 = H at hP hS ⊢
    have hP : va_P (dC, dI) vwCl (wSd cI cZ cJ sd_a w_a v_a (wr_a 0) (rd_a 0) (cu_a 0) (sp_a 0) sd ++ wSy cI cZ cJ cu_a cu ++ wSy cI cZ cJ sp_a sp ++ wBr cI cZ cJ w_a w_b w ++ wBr cI cZ cJ v_a v_b v ++ wWr cI cZ cJ wr_a (pb_a 0) wr ++ wRd cI cZ cJ rd_a (pb_a 0) rd ++ wPb cI cZ cJ pb_a w_a v_a pb ++ wMo cI cZ cJ mo_a mo' ++ wOu cI cZ cJ ou_a ou') H := hP.sub [0, 1, 2, 3, 4, 5, 6, 7, 8, 9, 10, 11, 12, 13, 14, 15, 16, 17, 18, 19, 20, 21, 22, 23, 24, 25, 26, 27, 28, 29, 31, 32, 33, 34, 35, 36, 37, 38, 39, 40, 41, 42, 43, 44, 45, 46, 30] rfl
    have hD : va_D A (wSd cI cZ cJ sd_a w_a v_a (wr_a 0) (rd_a 0) (cu_a 0) (sp_a 0) sd ++ wSy cI cZ cJ cu_a cu ++ wSy cI cZ cJ sp_a sp ++ wBr cI cZ cJ w_a w_b w ++ wBr cI cZ cJ v_a v_b v ++ wWr cI cZ cJ wr_a (pb_a 0) wr ++ wRd cI cZ cJ rd_a (pb_a 0) rd ++ wPb cI cZ cJ pb_a w_a v_a pb ++ wMo cI cZ cJ mo_a mo' ++ wOu cI cZ cJ ou_a ou') := hD.sub [0, 1, 2, 3, 4, 5, 6, 7, 8, 9, 10, 11, 12, 13, 14, 15, 16, 17, 18, 19, 20, 21, 22, 23, 24, 25, 26, 27, 28, 29, 31, 32, 33, 34, 35, 36, 37, 38, 39, 40, 41, 42, 43, 44, 45, 46, 30] (by decide) rfl
    refine lv_iload hx hb d_law_956 (lv_at hl 1 rfl) ?_
    refine lv_icmp_eq (tgt := 963) hx hb d_law_958 (by decide) (fun _ => ?_) (fun h9 => absurd hcode h9)
    refine lv_iload hx hb d_law_963 (lv_at hl 1 rfl) ?_
    refine lv_if_ne (tgt := 980) hx hb d_law_965 (by decide) (fun h9 => absurd rfl h9) (fun _ => ?_)
    refine lv_aload_n hx hb d_law_968 rfl (lv_at hl 5 rfl) ?_
    refine lv_iconst (v := 0) hx hb d_law_969 (by decide) ?_
    refine va_lald (f := Ou_f ou') hx hb hK hP 46 2 rfl rfl (inb_in (by decide)) d_law_970 ?_
    refine lv_iload hx hb d_law_971 (lv_at hl 0 rfl) ?_
    refine lv_i2l (v := r.toInt64) hx hb d_law_973 rfl ?_
    refine W.lcmp hx hb d_law_974 ?_
    refine lv_if_eq (tgt := 980) hx hb d_law_975 (by decide) (fun _ => ?_) (fun h9 => absurd (by rw [hou]; exact cmp_self _) h9)
    refine lv_goto (tgt := 1131) hx hb d_law_980 (by decide) ?_
    have hl := lv_sub (l' := [(0, .ref b), (1, .ref (sd_a 0)), (2, .ref (mo_a 0)), (3, .ref (ou_a 0)), (4, .int i)]) hl [2, 3, 4, 5, 6] rfl
    refine W.widen (k := j + 1 + Br_byL w + Br_byL v) (n := 6 * (j + 1) + 2 * Br_byL w + 2 * Br_byL v) (by omega) (by omega) ?_
    exact hk _ _ _ cu_a sp_a w_b v_b cu sp w v wr rd pb mo' ou' hrel hP hD hS hl
  · refine lv_aload_n hx hb d_law_915 rfl (lv_at hl 1 rfl) ?_
    refine lv_aload_n hx hb d_law_916 rfl (lv_at hl 0 rfl) ?_
    refine lv_iload hx hb d_law_917 (lv_at hl 4 rfl) ?_
    refine lv_iconst (v := 1) hx hb d_law_919 (by decide) ?_
    refine lv_iadd hx hb d_law_920 ?_
    refine va_sld hx hb hX0 hbl hbA hS (hin 1 (by decide) (by decide)) d_law_921 ?_
    refine lv_aload_n hx hb d_law_922 rfl (lv_at hl 0 rfl) ?_
    refine lv_iload hx hb d_law_923 (lv_at hl 4 rfl) ?_
    refine lv_iconst (v := 2) hx hb d_law_925 (by decide) ?_
    refine lv_iadd hx hb d_law_926 ?_
    refine va_sld hx hb hX0 hbl hbA hS (hin 2 (by decide) (by decide)) d_law_927 ?_
    refine lv_aload_n hx hb d_law_928 rfl (lv_at hl 3 rfl) ?_
    have hPc := hP.sub (ws' := (wSd cI cZ cJ sd_a w_a v_a (wr_a 0) (rd_a 0) (cu_a 0) (sp_a 0) sd ++ wSy cI cZ cJ cu_a cu ++ wOu cI cZ cJ ou_a ou)) [0, 1, 2, 3, 4, 5, 6, 7, 8, 9, 10, 45] rfl
    have hDc := hD.sub (ws' := (wSd cI cZ cJ sd_a w_a v_a (wr_a 0) (rd_a 0) (cu_a 0) (sp_a 0) sd ++ wSy cI cZ cJ cu_a cu ++ wOu cI cZ cJ ou_a ou)) [0, 1, 2, 3, 4, 5, 6, 7, 8, 9, 10, 45] (by decide) rfl
    have hFc := va_free (wc := (wSd cI cZ cJ sd_a w_a v_a (wr_a 0) (rd_a 0) (cu_a 0) (sp_a 0) sd ++ wSy cI cZ cJ cu_a cu ++ wOu cI cZ cJ ou_a ou)) hD hS hA [0, 1, 2, 3, 4, 5, 6, 7, 8, 9, 10, 45] rfl
    refine va_calli (w_runS (As := [.ref (sd_a 0), .int (xs (i + 1).toNatClampNeg), .int (xs (i + 2).toNatClampNeg), .ref (ou_a 0)]) (rest := []) ⟨hx, hb, hml, hown, hts⟩ (kx_Law_likeness_3 l hl9 dC dI cI cZ cJ sd_a cu_a ou_a w_a v_a (wr_a 0) (rd_a 0) (sp_a 0) H.size hf) (cwH_of 4 hts t_785 rfl rfl t_53 t_783 t_784 hd_Law_likeness.2 ⟨Nat.le_trans (Nat.le_of_ble_eq_true rfl) hRf, Nat.le_trans (Nat.le_of_ble_eq_true rfl) hRl⟩) ⟨kPX_blind, kPX_at hPc hK hDc hN (fun q hq => hS.2.1 q hq (fun h9 => absurd (hA2 q h9) (Nat.not_le.mpr hq))) hT hX⟩ rfl rfl hl.1 rfl (lv_room (Nat.le_of_ble_eq_true rfl)) d_law_929 ⟨by omega, by omega⟩) hS (fun q _ h => hFc q h) hFc (fun r9 u t H1 locs ht hvm hw hB hz1 hk1 hS => ?_)
    rw [hw]
    obtain ⟨hP, hD⟩ := kQ_join (wr := (wSy cI cZ cJ sp_a sp ++ wBr cI cZ cJ w_a w_b w ++ wBr cI cZ cJ v_a v_b v ++ wWr cI cZ cJ wr_a (pb_a 0) wr ++ wRd cI cZ cJ rd_a (pb_a 0) rd ++ wPb cI cZ cJ pb_a w_a v_a pb ++ wMo cI cZ cJ mo_a mo)) (w1 := (wSd cI cZ cJ sd_a w_a v_a (wr_a 0) (rd_a 0) (cu_a 0) (sp_a 0) sd ++ wSy cI cZ cJ cu_a cu ++ wOu cI cZ cJ ou_a ou)) hP hD [0, 1, 2, 3, 4, 5, 6, 7, 8, 9, 10, 45] [11, 12, 13, 14, 15, 16, 17, 18, 19, 20, 21, 22, 23, 24, 25, 26, 27, 28, 29, 30, 31, 32, 33, 34, 35, 36, 37, 38, 39, 40, 41, 42, 43, 44, 46] rfl rfl (by decide) (by decide) ht hk1 hFc hB
    generalize H1 = H at hP hS ⊢
    have hP : va_P (dC, dI) vwCl (wSd cI cZ cJ sd_a w_a v_a (wr_a 0) (rd_a 0) (cu_a 0) (sp_a 0) sd ++ wSy cI cZ cJ cu_a cu ++ wSy cI cZ cJ sp_a sp ++ wBr cI cZ cJ w_a w_b w ++ wBr cI cZ cJ v_a v_b v ++ wWr cI cZ cJ wr_a (pb_a 0) wr ++ wRd cI cZ cJ rd_a (pb_a 0) rd ++ wPb cI cZ cJ pb_a w_a v_a pb ++ wMo cI cZ cJ mo_a mo ++ wOu cI cZ cJ ou_a ou) H := hP.sub [35, 36, 37, 38, 39, 40, 41, 42, 43, 44, 45, 0, 1, 2, 3, 4, 5, 6, 7, 8, 9, 10, 11, 12, 13, 14, 15, 16, 17, 18, 19, 20, 21, 22, 23, 24, 25, 26, 27, 28, 29, 30, 31, 32, 33, 34, 46] rfl
    have hD : va_D A (wSd cI cZ cJ sd_a w_a v_a (wr_a 0) (rd_a 0) (cu_a 0) (sp_a 0) sd ++ wSy cI cZ cJ cu_a cu ++ wSy cI cZ cJ sp_a sp ++ wBr cI cZ cJ w_a w_b w ++ wBr cI cZ cJ v_a v_b v ++ wWr cI cZ cJ wr_a (pb_a 0) wr ++ wRd cI cZ cJ rd_a (pb_a 0) rd ++ wPb cI cZ cJ pb_a w_a v_a pb ++ wMo cI cZ cJ mo_a mo ++ wOu cI cZ cJ ou_a ou) := hD.sub [35, 36, 37, 38, 39, 40, 41, 42, 43, 44, 45, 0, 1, 2, 3, 4, 5, 6, 7, 8, 9, 10, 11, 12, 13, 14, 15, 16, 17, 18, 19, 20, 21, 22, 23, 24, 25, 26, 27, 28, 29, 30, 31, 32, 33, 34, 46] (by decide) rfl
    refine lv_istore (lv' := [(5, .int 1), (0, .ref b), (1, .ref (sd_a 0)), (2, .ref (mo_a 0)), (3, .ref (ou_a 0)), (4, .int i)]) hx hb d_law_932 hl (by decide) rfl (fun ls hl => ?_)
    refine lv_aload_n hx hb d_law_934 rfl (lv_at hl 3 rfl) ?_
    refine lv_aload_n hx hb d_law_935 rfl (lv_at hl 1 rfl) ?_
    refine lv_iload hx hb d_law_936 (lv_at hl 5 rfl) ?_
    refine lv_iconst (v := 1) hx hb d_law_938 (by decide) ?_
    refine lv_iadd hx hb d_law_939 ?_
    refine va_sld hx hb hX0 hbl hbA hS (hin 1 (by decide) (by decide)) d_law_940 ?_
    refine lv_aload_n hx hb d_law_941 rfl (lv_at hl 1 rfl) ?_
    refine lv_iload hx hb d_law_942 (lv_at hl 5 rfl) ?_
    refine lv_iconst (v := 2) hx hb d_law_944 (by decide) ?_
    refine lv_iadd hx hb d_law_945 ?_
    refine va_sld hx hb hX0 hbl hbA hS (hin 2 (by decide) (by decide)) d_law_946 ?_
    have hPc := hP.sub (ws' := (wMo cI cZ cJ mo_a mo)) [30, 31, 32, 33, 34, 35, 36, 37, 38, 39, 40, 41, 42, 43, 44, 45] rfl
    have hDc := hD.sub (ws' := (wMo cI cZ cJ mo_a mo)) [30, 31, 32, 33, 34, 35, 36, 37, 38, 39, 40, 41, 42, 43, 44, 45] (by decide) rfl
    have hFc := va_free (wc := (wMo cI cZ cJ mo_a mo)) hD hS hA [30, 31, 32, 33, 34, 35, 36, 37, 38, 39, 40, 41, 42, 43, 44, 45] rfl
    refine va_calli (va_runV (As := [.int (xs (i + 1).toNatClampNeg), .int (xs (i + 2).toNatClampNeg)]) (rest := []) ⟨hx, hb, hml, hown, hts⟩ (k_Model_likeness l dC dI cI cZ cJ mo_a H.size hg) (cwV 2 hts (gV t_1087 t_1088 t_1089 t_63 t_1090) rfl rfl rfl hd_Model_likeness ⟨Nat.le_trans (Nat.le_of_ble_eq_true rfl) hRf, Nat.le_trans (Nat.le_of_ble_eq_true rfl) hRl⟩) ⟨kP_blind, va_recv hK hP (ci := 7) (q0 := 30) rfl rfl, kP_at hPc hK hDc hN⟩ rfl rfl hl.1 rfl (lv_room (Nat.le_of_ble_eq_true rfl)) d_law_947 ⟨by omega, by omega⟩) hS (fun q _ h => hFc q h) hFc (fun r9 u t H1 locs ht hvm hw hB hz1 hk1 hS => ?_)
    rw [hw]
    obtain ⟨hP, hD⟩ := kQ_join (wr := (wSd cI cZ cJ sd_a w_a v_a (wr_a 0) (rd_a 0) (cu_a 0) (sp_a 0) sd ++ wSy cI cZ cJ cu_a cu ++ wSy cI cZ cJ sp_a sp ++ wBr cI cZ cJ w_a w_b w ++ wBr cI cZ cJ v_a v_b v ++ wWr cI cZ cJ wr_a (pb_a 0) wr ++ wRd cI cZ cJ rd_a (pb_a 0) rd ++ wPb cI cZ cJ pb_a w_a v_a pb ++ wOu cI cZ cJ ou_a ou)) (w1 := (wMo cI cZ cJ mo_a mo')) hP hD [30, 31, 32, 33, 34, 35, 36, 37, 38, 39, 40, 41, 42, 43, 44, 45] [0, 1, 2, 3, 4, 5, 6, 7, 8, 9, 10, 11, 12, 13, 14, 15, 16, 17, 18, 19, 20, 21, 22, 23, 24, 25, 26, 27, 28, 29, 46] rfl rfl (by decide) (by decide) ht hk1 hFc hB
    generalize H1 = H at hP hS ⊢
    have hP : va_P (dC, dI) vwCl (wSd cI cZ cJ sd_a w_a v_a (wr_a 0) (rd_a 0) (cu_a 0) (sp_a 0) sd ++ wSy cI cZ cJ cu_a cu ++ wSy cI cZ cJ sp_a sp ++ wBr cI cZ cJ w_a w_b w ++ wBr cI cZ cJ v_a v_b v ++ wWr cI cZ cJ wr_a (pb_a 0) wr ++ wRd cI cZ cJ rd_a (pb_a 0) rd ++ wPb cI cZ cJ pb_a w_a v_a pb ++ wMo cI cZ cJ mo_a mo' ++ wOu cI cZ cJ ou_a ou) H := hP.sub [0, 1, 2, 3, 4, 5, 6, 7, 8, 9, 10, 11, 12, 13, 14, 15, 16, 17, 18, 19, 20, 21, 22, 23, 24, 25, 26, 27, 28, 29, 31, 32, 33, 34, 35, 36, 37, 38, 39, 40, 41, 42, 43, 44, 45, 46, 30] rfl
    have hD : va_D A (wSd cI cZ cJ sd_a w_a v_a (wr_a 0) (rd_a 0) (cu_a 0) (sp_a 0) sd ++ wSy cI cZ cJ cu_a cu ++ wSy cI cZ cJ sp_a sp ++ wBr cI cZ cJ w_a w_b w ++ wBr cI cZ cJ v_a v_b v ++ wWr cI cZ cJ wr_a (pb_a 0) wr ++ wRd cI cZ cJ rd_a (pb_a 0) rd ++ wPb cI cZ cJ pb_a w_a v_a pb ++ wMo cI cZ cJ mo_a mo' ++ wOu cI cZ cJ ou_a ou) := hD.sub [0, 1, 2, 3, 4, 5, 6, 7, 8, 9, 10, 11, 12, 13, 14, 15, 16, 17, 18, 19, 20, 21, 22, 23, 24, 25, 26, 27, 28, 29, 31, 32, 33, 34, 35, 36, 37, 38, 39, 40, 41, 42, 43, 44, 45, 46, 30] (by decide) rfl
    refine lv_istore (lv' := [(6, .int q), (5, .int 1), (0, .ref b), (1, .ref (sd_a 0)), (2, .ref (mo_a 0)), (3, .ref (ou_a 0)), (4, .int i)]) hx hb d_law_950 hl (by decide) rfl (fun ls hl => ?_)
    refine lv_aload_n hx hb d_law_952 rfl (lv_at hl 4 rfl) ?_
    have hth : f_Model_thrown mo' = some (Mo_code mo') := rfl
    have hPc := hP.sub (ws' := (wMo cI cZ cJ mo_a mo')) [30, 31, 32, 33, 34, 35, 36, 37, 38, 39, 40, 41, 42, 43, 44, 45] rfl
    have hDc := hD.sub (ws' := (wMo cI cZ cJ mo_a mo')) [30, 31, 32, 33, 34, 35, 36, 37, 38, 39, 40, 41, 42, 43, 44, 45] (by decide) rfl
    have hFc := va_free (wc := (wMo cI cZ cJ mo_a mo')) hD hS hA [30, 31, 32, 33, 34, 35, 36, 37, 38, 39, 40, 41, 42, 43, 44, 45] rfl
    refine va_calli (va_runV (As := []) (rest := []) ⟨hx, hb, hml, hown, hts⟩ (k_Model_thrown l dC dI cI cZ cJ mo_a H.size hth) (cwV 0 hts (gV t_906 t_907 t_908 t_63 t_909) rfl rfl rfl hd_Model_thrown ⟨Nat.le_trans (Nat.le_of_ble_eq_true rfl) hRf, Nat.le_trans (Nat.le_of_ble_eq_true rfl) hRl⟩) ⟨kP_blind, va_recv hK hP (ci := 7) (q0 := 30) rfl rfl, kP_at hPc hK hDc hN⟩ rfl rfl hl.1 rfl (lv_room (Nat.le_of_ble_eq_true rfl)) d_law_953 ⟨by omega, by omega⟩) hS (fun q _ h => hFc q h) hFc (fun r9 u t H1 locs ht hvm hw hB hz1 hk1 hS => ?_)
    rw [hw]
    obtain ⟨hP, hD⟩ := kQ_join (wr := (wSd cI cZ cJ sd_a w_a v_a (wr_a 0) (rd_a 0) (cu_a 0) (sp_a 0) sd ++ wSy cI cZ cJ cu_a cu ++ wSy cI cZ cJ sp_a sp ++ wBr cI cZ cJ w_a w_b w ++ wBr cI cZ cJ v_a v_b v ++ wWr cI cZ cJ wr_a (pb_a 0) wr ++ wRd cI cZ cJ rd_a (pb_a 0) rd ++ wPb cI cZ cJ pb_a w_a v_a pb ++ wOu cI cZ cJ ou_a ou)) (w1 := (wMo cI cZ cJ mo_a mo')) hP hD [30, 31, 32, 33, 34, 35, 36, 37, 38, 39, 40, 41, 42, 43, 44, 45] [0, 1, 2, 3, 4, 5, 6, 7, 8, 9, 10, 11, 12, 13, 14, 15, 16, 17, 18, 19, 20, 21, 22, 23, 24, 25, 26, 27, 28, 29, 46] rfl rfl (by decide) (by decide) ht hk1 hFc hB
    generalize H1 = H at hP hS ⊢
    have hP : va_P (dC, dI) vwCl (wSd cI cZ cJ sd_a w_a v_a (wr_a 0) (rd_a 0) (cu_a 0) (sp_a 0) sd ++ wSy cI cZ cJ cu_a cu ++ wSy cI cZ cJ sp_a sp ++ wBr cI cZ cJ w_a w_b w ++ wBr cI cZ cJ v_a v_b v ++ wWr cI cZ cJ wr_a (pb_a 0) wr ++ wRd cI cZ cJ rd_a (pb_a 0) rd ++ wPb cI cZ cJ pb_a w_a v_a pb ++ wMo cI cZ cJ mo_a mo' ++ wOu cI cZ cJ ou_a ou) H := hP.sub [0, 1, 2, 3, 4, 5, 6, 7, 8, 9, 10, 11, 12, 13, 14, 15, 16, 17, 18, 19, 20, 21, 22, 23, 24, 25, 26, 27, 28, 29, 31, 32, 33, 34, 35, 36, 37, 38, 39, 40, 41, 42, 43, 44, 45, 46, 30] rfl
    have hD : va_D A (wSd cI cZ cJ sd_a w_a v_a (wr_a 0) (rd_a 0) (cu_a 0) (sp_a 0) sd ++ wSy cI cZ cJ cu_a cu ++ wSy cI cZ cJ sp_a sp ++ wBr cI cZ cJ w_a w_b w ++ wBr cI cZ cJ v_a v_b v ++ wWr cI cZ cJ wr_a (pb_a 0) wr ++ wRd cI cZ cJ rd_a (pb_a 0) rd ++ wPb cI cZ cJ pb_a w_a v_a pb ++ wMo cI cZ cJ mo_a mo' ++ wOu cI cZ cJ ou_a ou) := hD.sub [0, 1, 2, 3, 4, 5, 6, 7, 8, 9, 10, 11, 12, 13, 14, 15, 16, 17, 18, 19, 20, 21, 22, 23, 24, 25, 26, 27, 28, 29, 31, 32, 33, 34, 35, 36, 37, 38, 39, 40, 41, 42, 43, 44, 45, 46, 30] (by decide) rfl
    refine lv_iload hx hb d_law_956 (lv_at hl 1 rfl) ?_
    refine lv_icmp_eq (tgt := 963) hx hb d_law_958 (by decide) (fun _ => ?_) (fun h9 => absurd hcode h9)
    refine lv_iload hx hb d_law_963 (lv_at hl 1 rfl) ?_
    refine lv_if_ne (tgt := 980) hx hb d_law_965 (by decide) (fun _ => ?_) (fun h9 => absurd h9 (by decide))
    refine lv_goto (tgt := 1131) hx hb d_law_980 (by decide) ?_
    have hl := lv_sub (l' := [(0, .ref b), (1, .ref (sd_a 0)), (2, .ref (mo_a 0)), (3, .ref (ou_a 0)), (4, .int i)]) hl [2, 3, 4, 5, 6] rfl
    refine W.widen (k := j + 1 + Br_byL w + Br_byL v) (n := 6 * (j + 1) + 2 * Br_byL w + 2 * Br_byL v) (by omega) (by omega) ?_
    exact hk _ _ _ cu_a sp_a w_b v_b cu sp w v wr rd pb mo' ou hrel hP hD hS hl

set_option maxHeartbeats 8000000 in
set_option maxRecDepth 100000 in
theorem L_P_classes {p : Program} {l : Launch} {e : Env} {R : Room} {s : State} {m : MethodId} {args : Array Value} {below : List Frame} {meth : Method} {c : Code} {Q : State → Prop} {A : Nat → Prop} {dC : Nat → ClassId} {dI : Nat → Nat → Nat} {cI cZ cJ : ClassId} {sd_a cu_a sp_a : Nat → Nat} {w_a w_b v_a v_b : Nat} {wr_a rd_a pb_a mo_a ou_a : Nat → Nat} {sd : Sd} {cu sp : Sy} {w v : Br} {wr : Wr} {rd : Rd} {pb : Pb} {mo : Mo} {ou : Ou} {b L : Nat} {xs : Nat → Int32} {i : Int32} {j : Nat} {Rl : Sd → Sy → Sy → Br → Br → Wr → Rd → Pb → Mo → Prop} (hl9 : l.stackTraces = false) (C0 : lcx p c m s args R (dC, dI) (TYS cI cZ cJ) A b L xs i j) (hRb : ∀ sd cu sp w v wr rd pb mo, Rl sd cu sp w v wr rd pb mo → Br_byL w ≤ 40000 ∧ Br_byL v ≤ 40000) (hR0 : Rl sd cu sp w v wr rd pb mo) (hT0 : T_P_classes Rl sd cu sp w v wr rd pb mo (xs (i + 1).toNatClampNeg))
    (hk : ∀ (H : Heap) (locs : List Loc) (ls : Array Slot) (cu_a sp_a : Nat → Nat) (w_b v_b : Nat) (cu sp : Sy) (w v : Br) (wr : Wr) (rd : Rd) (pb : Pb) (mo : Mo) (ou : Ou), Rl sd cu sp w v wr rd pb mo → va_P (dC, dI) vwCl (wSd cI cZ cJ sd_a w_a v_a (wr_a 0) (rd_a 0) (cu_a 0) (sp_a 0) sd ++ wSy cI cZ cJ cu_a cu ++ wSy cI cZ cJ sp_a sp ++ wBr cI cZ cJ w_a w_b w ++ wBr cI cZ cJ v_a v_b v ++ wWr cI cZ cJ wr_a (pb_a 0) wr ++ wRd cI cZ cJ rd_a (pb_a 0) rd ++ wPb cI cZ cJ pb_a w_a v_a pb ++ wMo cI cZ cJ mo_a mo ++ wOu cI cZ cJ ou_a ou) H → va_D A (wSd cI cZ cJ sd_a w_a v_a (wr_a 0) (rd_a 0) (cu_a 0) (sp_a 0) sd ++ wSy cI cZ cJ cu_a cu ++ wSy cI cZ cJ sp_a sp ++ wBr cI cZ cJ w_a w_b w ++ wBr cI cZ cJ v_a v_b v ++ wWr cI cZ cJ wr_a (pb_a 0) wr ++ wRd cI cZ cJ rd_a (pb_a 0) rd ++ wPb cI cZ cJ pb_a w_a v_a pb ++ wMo cI cZ cJ mo_a mo ++ wOu cI cZ cJ ou_a ou) → va_S A s.heap H locs → lv_has ls 7 [(0, .ref b), (1, .ref (sd_a 0)), (2, .ref (mo_a 0)), (3, .ref (ou_a 0)), (4, .int i)] → W p l e R s m args below meth c H locs (j + 1 + Br_byL w + Br_byL v) (6 * (j + 1) + 2 * Br_byL w + 2 * Br_byL v) Q (F0 m 1131 ls []))
    {H : Heap} {locs : List Loc} {ls : Array Slot} (hP : va_P (dC, dI) vwCl (wSd cI cZ cJ sd_a w_a v_a (wr_a 0) (rd_a 0) (cu_a 0) (sp_a 0) sd ++ wSy cI cZ cJ cu_a cu ++ wSy cI cZ cJ sp_a sp ++ wBr cI cZ cJ w_a w_b w ++ wBr cI cZ cJ v_a v_b v ++ wWr cI cZ cJ wr_a (pb_a 0) wr ++ wRd cI cZ cJ rd_a (pb_a 0) rd ++ wPb cI cZ cJ pb_a w_a v_a pb ++ wMo cI cZ cJ mo_a mo ++ wOu cI cZ cJ ou_a ou) H) (hD : va_D A (wSd cI cZ cJ sd_a w_a v_a (wr_a 0) (rd_a 0) (cu_a 0) (sp_a 0) sd ++ wSy cI cZ cJ cu_a cu ++ wSy cI cZ cJ sp_a sp ++ wBr cI cZ cJ w_a w_b w ++ wBr cI cZ cJ v_a v_b v ++ wWr cI cZ cJ wr_a (pb_a 0) wr ++ wRd cI cZ cJ rd_a (pb_a 0) rd ++ wPb cI cZ cJ pb_a w_a v_a pb ++ wMo cI cZ cJ mo_a mo ++ wOu cI cZ cJ ou_a ou)) (hS : va_S A s.heap H locs) (hl : lv_has ls 7 [(0, .ref b), (1, .ref (sd_a 0)), (2, .ref (mo_a 0)), (3, .ref (ou_a 0)), (4, .int i)]) : W p l e R s m args below meth c H locs (j + Br_byL w + Br_byL v) (6 * j + 2 * Br_byL w + 2 * Br_byL v) Q (F0 m 983 ls []) := by
  obtain ⟨hx, hb, hml, hown, hts, hK, hA, hA2, hRf, hRl, hN, hT, hX, hX0, hbl, hin, hj, hRc, hRs⟩ := C0
  have hbA : ¬ A b := fun h => absurd (hA2 b h) (Nat.not_le.mpr hbl)
  obtain ⟨hw0, hv0⟩ := hRb _ _ _ _ _ _ _ _ _ hR0
  unfold T_P_classes at hT0
  rcases hT0 with ⟨r, cu', mo', hf, hg, hcode, hrel⟩ | ⟨hf, q, mo', hg, hcode, hrel⟩
  · obtain ⟨ou', heou⟩ : ∃ z : Ou, z = (vp_updL (Ou_f ou) 0 r.toInt64) := ⟨_, rfl⟩
    have hf1 : f_Law_classes sd cu ou (xs (i + 1).toNatClampNeg) = some (0, cu', ou') := by
      rw [f_Law_classes, hf, bd_s, heou]
      rfl
    have hou : Ou_f ou' (0 : Int32).toNatClampNeg = r.toInt64 := by rw [heou]; exact updL_at _ _ _
    refine lv_aload_n hx hb d_law_983 rfl (lv_at hl 1 rfl) ?_
    refine lv_aload_n hx hb d_law_984 rfl (lv_at hl 0 rfl) ?_
    refine lv_iload hx hb d_law_985 (lv_at hl 4 rfl) ?_
    refine lv_iconst (v := 1) hx hb d_law_987 (by decide) ?_
    refine lv_iadd hx hb d_law_988 ?_
    refine va_sld hx hb hX0 hbl hbA hS (hin 1 (by decide) (by decide)) d_law_989 ?_
    refine lv_aload_n hx hb d_law_990 rfl (lv_at hl 3 rfl) ?_
    have hPc := hP.sub (ws' := (wSd cI cZ cJ sd_a w_a v_a (wr_a 0) (rd_a 0) (cu_a 0) (sp_a 0) sd ++ wSy cI cZ cJ cu_a cu ++ wOu cI cZ cJ ou_a ou)) [0, 1, 2, 3, 4, 5, 6, 7, 8, 9, 10, 45] rfl
    have hDc := hD.sub (ws' := (wSd cI cZ cJ sd_a w_a v_a (wr_a 0) (rd_a 0) (cu_a 0) (sp_a 0) sd ++ wSy cI cZ cJ cu_a cu ++ wOu cI cZ cJ ou_a ou)) [0, 1, 2, 3, 4, 5, 6, 7, 8, 9, 10, 45] (by decide) rfl
    have hFc := va_free (wc := (wSd cI cZ cJ sd_a w_a v_a (wr_a 0) (rd_a 0) (cu_a 0) (sp_a 0) sd ++ wSy cI cZ cJ cu_a cu ++ wOu cI cZ cJ ou_a ou)) hD hS hA [0, 1, 2, 3, 4, 5, 6, 7, 8, 9, 10, 45] rfl
    refine va_calli (w_runS (As := [.ref (sd_a 0), .int (xs (i + 1).toNatClampNeg), .ref (ou_a 0)]) (rest := []) ⟨hx, hb, hml, hown, hts⟩ (k_Law_classes l dC dI cI cZ cJ sd_a cu_a ou_a w_a v_a (wr_a 0) (rd_a 0) (sp_a 0) H.size hf1) (cwH_of 3 hts t_796 rfl rfl t_53 t_794 t_795 hd_Law_classes.2 ⟨Nat.le_trans (Nat.le_of_ble_eq_true rfl) hRf, Nat.le_trans (Nat.le_of_ble_eq_true rfl) hRl⟩) ⟨kP_blind, kP_at hPc hK hDc hN⟩ rfl rfl hl.1 rfl (lv_room (Nat.le_of_ble_eq_true rfl)) d_law_991 ⟨by omega, by omega⟩) hS (fun q _ h => hFc q h) hFc (fun r9 u t H1 locs ht hvm hw hB hz1 hk1 hS => ?_)
    rw [hw]
    obtain ⟨hP, hD⟩ := kQ_join (wr := (wSy cI cZ cJ sp_a sp ++ wBr cI cZ cJ w_a w_b w ++ wBr cI cZ cJ v_a v_b v ++ wWr cI cZ cJ wr_a (pb_a 0) wr ++ wRd cI cZ cJ rd_a (pb_a 0) rd ++ wPb cI cZ cJ pb_a w_a v_a pb ++ wMo cI cZ cJ mo_a mo)) (w1 := (wSd cI cZ cJ sd_a w_a v_a (wr_a 0) (rd_a 0) (cu_a 0) (sp_a 0) sd ++ wSy cI cZ cJ cu_a cu' ++ wOu cI cZ cJ ou_a ou')) hP hD [0, 1, 2, 3, 4, 5, 6, 7, 8, 9, 10, 45] [11, 12, 13, 14, 15, 16, 17, 18, 19, 20, 21, 22, 23, 24, 25, 26, 27, 28, 29, 30, 31, 32, 33, 34, 35, 36, 37, 38, 39, 40, 41, 42, 43, 44, 46] rfl rfl (by decide) (by decide) ht hk1 hFc hB
    generalize H1 = H at hP hS ⊢
    have hP : va_P (dC, dI) vwCl (wSd cI cZ cJ sd_a w_a v_a (wr_a 0) (rd_a 0) (cu_a 0) (sp_a 0) sd ++ wSy cI cZ cJ cu_a cu' ++ wSy cI cZ cJ sp_a sp ++ wBr cI cZ cJ w_a w_b w ++ wBr cI cZ cJ v_a v_b v ++ wWr cI cZ cJ wr_a (pb_a 0) wr ++ wRd cI cZ cJ rd_a (pb_a 0) rd ++ wPb cI cZ cJ pb_a w_a v_a pb ++ wMo cI cZ cJ mo_a mo ++ wOu cI cZ cJ ou_a ou') H := hP.sub [35, 36, 37, 38, 39, 40, 41, 42, 43, 44, 45, 0, 1, 2, 3, 4, 5, 6, 7, 8, 9, 10, 11, 12, 13, 14, 15, 16, 17, 18, 19, 20, 21, 22, 23, 24, 25, 26, 27, 28, 29, 30, 31, 32, 33, 34, 46] rfl
    have hD : va_D A (wSd cI cZ cJ sd_a w_a v_a (wr_a 0) (rd_a 0) (cu_a 0) (sp_a 0) sd ++ wSy cI cZ cJ cu_a cu' ++ wSy cI cZ cJ sp_a sp ++ wBr cI cZ cJ w_a w_b w ++ wBr cI cZ cJ v_a v_b v ++ wWr cI cZ cJ wr_a (pb_a 0) wr ++ wRd cI cZ cJ rd_a (pb_a 0) rd ++ wPb cI cZ cJ pb_a w_a v_a pb ++ wMo cI cZ cJ mo_a mo ++ wOu cI cZ cJ ou_a ou') := hD.sub [35, 36, 37, 38, 39, 40, 41, 42, 43, 44, 45, 0, 1, 2, 3, 4, 5, 6, 7, 8, 9, 10, 11, 12, 13, 14, 15, 16, 17, 18, 19, 20, 21, 22, 23, 24, 25, 26, 27, 28, 29, 30, 31, 32, 33, 34, 46] (by decide) rfl
    refine lv_istore (lv' := [(5, .int 0), (0, .ref b), (1, .ref (sd_a 0)), (2, .ref (mo_a 0)), (3, .ref (ou_a 0)), (4, .int i)]) hx hb d_law_994 hl (by decide) rfl (fun ls hl => ?_)
    refine lv_aload_n hx hb d_law_996 rfl (lv_at hl 3 rfl) ?_
    refine lv_aload_n hx hb d_law_997 rfl (lv_at hl 1 rfl) ?_
    refine lv_iload hx hb d_law_998 (lv_at hl 5 rfl) ?_
    refine lv_iconst (v := 1) hx hb d_law_1000 (by decide) ?_
    refine lv_iadd hx hb d_law_1001 ?_
    refine va_sld hx hb hX0 hbl hbA hS (hin 1 (by decide) (by decide)) d_law_1002 ?_
    have hPc := hP.sub (ws' := (wMo cI cZ cJ mo_a mo)) [30, 31, 32, 33, 34, 35, 36, 37, 38, 39, 40, 41, 42, 43, 44, 45] rfl
    have hDc := hD.sub (ws' := (wMo cI cZ cJ mo_a mo)) [30, 31, 32, 33, 34, 35, 36, 37, 38, 39, 40, 41, 42, 43, 44, 45] (by decide) rfl
    have hFc := va_free (wc := (wMo cI cZ cJ mo_a mo)) hD hS hA [30, 31, 32, 33, 34, 35, 36, 37, 38, 39, 40, 41, 42, 43, 44, 45] rfl
    refine va_calli (va_runV (As := [.int (xs (i + 1).toNatClampNeg)]) (rest := []) ⟨hx, hb, hml, hown, hts⟩ (k_Model_classes l dC dI cI cZ cJ mo_a H.size hg) (cwV 1 hts (gV t_1095 t_1096 t_1097 t_63 t_1098) rfl rfl rfl hd_Model_classes ⟨Nat.le_trans (Nat.le_of_ble_eq_true rfl) hRf, Nat.le_trans (Nat.le_of_ble_eq_true rfl) hRl⟩) ⟨kP_blind, va_recv hK hP (ci := 7) (q0 := 30) rfl rfl, kP_at hPc hK hDc hN⟩ rfl rfl hl.1 rfl (lv_room (Nat.le_of_ble_eq_true rfl)) d_law_1003 ⟨by omega, by omega⟩) hS (fun q _ h => hFc q h) hFc (fun r9 u t H1 locs ht hvm hw hB hz1 hk1 hS => ?_)
    rw [hw]
    obtain ⟨hP, hD⟩ := kQ_join (wr := (wSd cI cZ cJ sd_a w_a v_a (wr_a 0) (rd_a 0) (cu_a 0) (sp_a 0) sd ++ wSy cI cZ cJ cu_a cu' ++ wSy cI cZ cJ sp_a sp ++ wBr cI cZ cJ w_a w_b w ++ wBr cI cZ cJ v_a v_b v ++ wWr cI cZ cJ wr_a (pb_a 0) wr ++ wRd cI cZ cJ rd_a (pb_a 0) rd ++ wPb cI cZ cJ pb_a w_a v_a pb ++ wOu cI cZ cJ ou_a ou')) (w1 := (wMo cI cZ cJ mo_a mo')) hP hD [30, 31, 32, 33, 34, 35, 36, 37, 38, 39, 40, 41, 42, 43, 44, 45] [0, 1, 2, 3, 4, 5, 6, 7, 8, 9, 10, 11, 12, 13, 14, 15, 16, 17, 18, 19, 20, 21, 22, 23, 24, 25, 26, 27, 28, 29, 46] rfl rfl (by decide) (by decide) ht hk1 hFc hB
    generalize H1 = H at hP hS ⊢
    have hP : va_P (dC, dI) vwCl (wSd cI cZ cJ sd_a w_a v_a (wr_a 0) (rd_a 0) (cu_a 0) (sp_a 0) sd ++ wSy cI cZ cJ cu_a cu' ++ wSy cI cZ cJ sp_a sp ++ wBr cI cZ cJ w_a w_b w ++ wBr cI cZ cJ v_a v_b v ++ wWr cI cZ cJ wr_a (pb_a 0) wr ++ wRd cI cZ cJ rd_a (pb_a 0) rd ++ wPb cI cZ cJ pb_a w_a v_a pb ++ wMo cI cZ cJ mo_a mo' ++ wOu cI cZ cJ ou_a ou') H := hP.sub [0, 1, 2, 3, 4, 5, 6, 7, 8, 9, 10, 11, 12, 13, 14, 15, 16, 17, 18, 19, 20, 21, 22, 23, 24, 25, 26, 27, 28, 29, 31, 32, 33, 34, 35, 36, 37, 38, 39, 40, 41, 42, 43, 44, 45, 46, 30] rfl
    have hD : va_D A (wSd cI cZ cJ sd_a w_a v_a (wr_a 0) (rd_a 0) (cu_a 0) (sp_a 0) sd ++ wSy cI cZ cJ cu_a cu' ++ wSy cI cZ cJ sp_a sp ++ wBr cI cZ cJ w_a w_b w ++ wBr cI cZ cJ v_a v_b v ++ wWr cI cZ cJ wr_a (pb_a 0) wr ++ wRd cI cZ cJ rd_a (pb_a 0) rd ++ wPb cI cZ cJ pb_a w_a v_a pb ++ wMo cI cZ cJ mo_a mo' ++ wOu cI cZ cJ ou_a ou') := hD.sub [0, 1, 2, 3, 4, 5, 6, 7, 8, 9, 10, 11, 12, 13, 14, 15, 16, 17, 18, 19, 20, 21, 22, 23, 24, 25, 26, 27, 28, 29, 31, 32, 33, 34, 35, 36, 37, 38, 39, 40, 41, 42, 43, 44, 45, 46, 30] (by decide) rfl
    refine lv_istore (lv' := [(6, .int r), (5, .int 0), (0, .ref b), (1, .ref (sd_a 0)), (2, .ref (mo_a 0)), (3, .ref (ou_a 0)), (4, .int i)]) hx hb d_law_1006 hl (by decide) rfl (fun ls hl => ?_)
    refine lv_aload_n hx hb d_law_1008 rfl (lv_at hl 4 rfl) ?_
    have hth : f_Model_thrown mo' = some (Mo_code mo') := rfl
    have hPc := hP.sub (ws' := (wMo cI cZ cJ mo_a mo')) [30, 31, 32, 33, 34, 35, 36, 37, 38, 39, 40, 41, 42, 43, 44, 45] rfl
    have hDc := hD.sub (ws' := (wMo cI cZ cJ mo_a mo')) [30, 31, 32, 33, 34, 35, 36, 37, 38, 39, 40, 41, 42, 43, 44, 45] (by decide) rfl
    have hFc := va_free (wc := (wMo cI cZ cJ mo_a mo')) hD hS hA [30, 31, 32, 33, 34, 35, 36, 37, 38, 39, 40, 41, 42, 43, 44, 45] rfl
    refine va_calli (va_runV (As := []) (rest := []) ⟨hx, hb, hml, hown, hts⟩ (k_Model_thrown l dC dI cI cZ cJ mo_a H.size hth) (cwV 0 hts (gV t_906 t_907 t_908 t_63 t_909) rfl rfl rfl hd_Model_thrown ⟨Nat.le_trans (Nat.le_of_ble_eq_true rfl) hRf, Nat.le_trans (Nat.le_of_ble_eq_true rfl) hRl⟩) ⟨kP_blind, va_recv hK hP (ci := 7) (q0 := 30) rfl rfl, kP_at hPc hK hDc hN⟩ rfl rfl hl.1 rfl (lv_room (Nat.le_of_ble_eq_true rfl)) d_law_1009 ⟨by omega, by omega⟩) hS (fun q _ h => hFc q h) hFc (fun r9 u t H1 locs ht hvm hw hB hz1 hk1 hS => ?_)
    rw [hw]
    obtain ⟨hP, hD⟩ := kQ_join (wr := (wSd cI cZ cJ sd_a w_a v_a (wr_a 0) (rd_a 0) (cu_a 0) (sp_a 0) sd ++ wSy cI cZ cJ cu_a cu' ++ wSy cI cZ cJ sp_a sp ++ wBr cI cZ cJ w_a w_b w ++ wBr cI cZ cJ v_a v_b v ++ wWr cI cZ cJ wr_a (pb_a 0) wr ++ wRd cI cZ cJ rd_a (pb_a 0) rd ++ wPb cI cZ cJ pb_a w_a v_a pb ++ wOu cI cZ cJ ou_a ou')) (w1 := (wMo cI cZ cJ mo_a mo')) hP hD [30, 31, 32, 33, 34, 35, 36, 37, 38, 39, 40, 41, 42, 43, 44, 45] [0, 1, 2, 3, 4, 5, 6, 7, 8, 9, 10, 11, 12, 13, 14, 15, 16, 17, 18, 19, 20, 21, 22, 23, 24, 25, 26, 27, 28, 29, 46] rfl rfl (by decide) (by decide) ht hk1 hFc hB
    generalize H1 = H at hP hS ⊢
    have hP : va_P (dC, dI) vwCl (wSd cI cZ cJ sd_a w_a v_a (wr_a 0) (rd_a 0) (cu_a 0) (sp_a 0) sd ++ wSy cI cZ cJ cu_a cu' ++ wSy cI cZ cJ sp_a sp ++ wBr cI cZ cJ w_a w_b w ++ wBr cI cZ cJ v_a v_b v ++ wWr cI cZ cJ wr_a (pb_a 0) wr ++ wRd cI cZ cJ rd_a (pb_a 0) rd ++ wPb cI cZ cJ pb_a w_a v_a pb ++ wMo cI cZ cJ mo_a mo' ++ wOu cI cZ cJ ou_a ou') H := hP.sub [0, 1, 2, 3, 4, 5, 6, 7, 8, 9, 10, 11, 12, 13, 14, 15, 16, 17, 18, 19, 20, 21, 22, 23, 24, 25, 26, 27, 28, 29, 31, 32, 33, 34, 35, 36, 37, 38, 39, 40, 41, 42, 43, 44, 45, 46, 30] rfl
    have hD : va_D A (wSd cI cZ cJ sd_a w_a v_a (wr_a 0) (rd_a 0) (cu_a 0) (sp_a 0) sd ++ wSy cI cZ cJ cu_a cu' ++ wSy cI cZ cJ sp_a sp ++ wBr cI cZ cJ w_a w_b w ++ wBr cI cZ cJ v_a v_b v ++ wWr cI cZ cJ wr_a (pb_a 0) wr ++ wRd cI cZ cJ rd_a (pb_a 0) rd ++ wPb cI cZ cJ pb_a w_a v_a pb ++ wMo cI cZ cJ mo_a mo' ++ wOu cI cZ cJ ou_a ou') := hD.sub [0, 1, 2, 3, 4, 5, 6, 7, 8, 9, 10, 11, 12, 13, 14, 15, 16, 17, 18, 19, 20, 21, 22, 23, 24, 25, 26, 27, 28, 29, 31, 32, 33, 34, 35, 36, 37, 38, 39, 40, 41, 42, 43, 44, 45, 46, 30] (by decide) rfl
    refine lv_iload hx hb d_law_1012 (lv_at hl 1 rfl) ?_
    refine lv_icmp_eq (tgt := 1019) hx hb d_law_1014 (by decide) (fun _ => ?_) (fun h9 => absurd hcode h9)
    refine lv_iload hx hb d_law_1019 (lv_at hl 1 rfl) ?_
    refine lv_if_ne (tgt := 1036) hx hb d_law_1021 (by decide) (fun h9 => absurd rfl h9) (fun _ => ?_)
    refine lv_aload_n hx hb d_law_1024 rfl (lv_at hl 5 rfl) ?_
    refine lv_iconst (v := 0) hx hb d_law_1025 (by decide) ?_
    refine va_lald (f := Ou_f ou') hx hb hK hP 46 2 rfl rfl (inb_in (by decide)) d_law_1026 ?_
    refine lv_iload hx hb d_law_1027 (lv_at hl 0 rfl) ?_
    refine lv_i2l (v := r.toInt64) hx hb d_law_1029 rfl ?_
    refine W.lcmp hx hb d_law_1030 ?_
    refine lv_if_eq (tgt := 1036) hx hb d_law_1031 (by decide) (fun _ => ?_) (fun h9 => absurd (by rw [hou]; exact cmp_self _) h9)
    refine lv_goto (tgt := 1131) hx hb d_law_1036 (by decide) ?_
    have hl := lv_sub (l' := [(0, .ref b), (1, .ref (sd_a 0)), (2, .ref (mo_a 0)), (3, .ref (ou_a 0)), (4, .int i)]) hl [2, 3, 4, 5, 6] rfl
    refine W.widen (k := j + 1 + Br_byL w + Br_byL v) (n := 6 * (j + 1) + 2 * Br_byL w + 2 * Br_byL v) (by omega) (by omega) ?_
    exact hk _ _ _ cu_a sp_a w_b v_b cu' sp w v wr rd pb mo' ou' hrel hP hD hS hl
  · refine lv_aload_n hx hb d_law_983 rfl (lv_at hl 1 rfl) ?_
    refine lv_aload_n hx hb d_law_984 rfl (lv_at hl 0 rfl) ?_
    refine lv_iload hx hb d_law_985 (lv_at hl 4 rfl) ?_
    refine lv_iconst (v := 1) hx hb d_law_987 (by decide) ?_
    refine lv_iadd hx hb d_law_988 ?_
    refine va_sld hx hb hX0 hbl hbA hS (hin 1 (by decide) (by decide)) d_law_989 ?_
    refine lv_aload_n hx hb d_law_990 rfl (lv_at hl 3 rfl) ?_
    have hPc := hP.sub (ws' := (wSd cI cZ cJ sd_a w_a v_a (wr_a 0) (rd_a 0) (cu_a 0) (sp_a 0) sd ++ wSy cI cZ cJ cu_a cu ++ wOu cI cZ cJ ou_a ou)) [0, 1, 2, 3, 4, 5, 6, 7, 8, 9, 10, 45] rfl
    have hDc := hD.sub (ws' := (wSd cI cZ cJ sd_a w_a v_a (wr_a 0) (rd_a 0) (cu_a 0) (sp_a 0) sd ++ wSy cI cZ cJ cu_a cu ++ wOu cI cZ cJ ou_a ou)) [0, 1, 2, 3, 4, 5, 6, 7, 8, 9, 10, 45] (by decide) rfl
    have hFc := va_free (wc := (wSd cI cZ cJ sd_a w_a v_a (wr_a 0) (rd_a 0) (cu_a 0) (sp_a 0) sd ++ wSy cI cZ cJ cu_a cu ++ wOu cI cZ cJ ou_a ou)) hD hS hA [0, 1, 2, 3, 4, 5, 6, 7, 8, 9, 10, 45] rfl
    refine va_calli (w_runS (As := [.ref (sd_a 0), .int (xs (i + 1).toNatClampNeg), .ref (ou_a 0)]) (rest := []) ⟨hx, hb, hml, hown, hts⟩ (kx_Law_classes_1 l hl9 dC dI cI cZ cJ sd_a cu_a ou_a w_a v_a (wr_a 0) (rd_a 0) (sp_a 0) H.size hf) (cwH_of 3 hts t_796 rfl rfl t_53 t_794 t_795 hd_Law_classes.2 ⟨Nat.le_trans (Nat.le_of_ble_eq_true rfl) hRf, Nat.le_trans (Nat.le_of_ble_eq_true rfl) hRl⟩) ⟨kPX_blind, kPX_at hPc hK hDc hN (fun q hq => hS.2.1 q hq (fun h9 => absurd (hA2 q h9) (Nat.not_le.mpr hq))) hT hX⟩ rfl rfl hl.1 rfl (lv_room (Nat.le_of_ble_eq_true rfl)) d_law_991 ⟨by omega, by omega⟩) hS (fun q _ h => hFc q h) hFc (fun r9 u t H1 locs ht hvm hw hB hz1 hk1 hS => ?_)
    rw [hw]
    obtain ⟨hP, hD⟩ := kQ_join (wr := (wSy cI cZ cJ sp_a sp ++ wBr cI cZ cJ w_a w_b w ++ wBr cI cZ cJ v_a v_b v ++ wWr cI cZ cJ wr_a (pb_a 0) wr ++ wRd cI cZ cJ rd_a (pb_a 0) rd ++ wPb cI cZ cJ pb_a w_a v_a pb ++ wMo cI cZ cJ mo_a mo)) (w1 := (wSd cI cZ cJ sd_a w_a v_a (wr_a 0) (rd_a 0) (cu_a 0) (sp_a 0) sd ++ wSy cI cZ cJ cu_a cu ++ wOu cI cZ cJ ou_a ou)) hP hD [0, 1, 2, 3, 4, 5, 6, 7, 8, 9, 10, 45] [11, 12, 13, 14, 15, 16, 17, 18, 19, 20, 21, 22, 23, 24, 25, 26, 27, 28, 29, 30, 31, 32, 33, 34, 35, 36, 37, 38, 39, 40, 41, 42, 43, 44, 46] rfl rfl (by decide) (by decide) ht hk1 hFc hB
    generalize H1 = H at hP hS ⊢
    have hP : va_P (dC, dI) vwCl (wSd cI cZ cJ sd_a w_a v_a (wr_a 0) (rd_a 0) (cu_a 0) (sp_a 0) sd ++ wSy cI cZ cJ cu_a cu ++ wSy cI cZ cJ sp_a sp ++ wBr cI cZ cJ w_a w_b w ++ wBr cI cZ cJ v_a v_b v ++ wWr cI cZ cJ wr_a (pb_a 0) wr ++ wRd cI cZ cJ rd_a (pb_a 0) rd ++ wPb cI cZ cJ pb_a w_a v_a pb ++ wMo cI cZ cJ mo_a mo ++ wOu cI cZ cJ ou_a ou) H := hP.sub [35, 36, 37, 38, 39, 40, 41, 42, 43, 44, 45, 0, 1, 2, 3, 4, 5, 6, 7, 8, 9, 10, 11, 12, 13, 14, 15, 16, 17, 18, 19, 20, 21, 22, 23, 24, 25, 26, 27, 28, 29, 30, 31, 32, 33, 34, 46] rfl
    have hD : va_D A (wSd cI cZ cJ sd_a w_a v_a (wr_a 0) (rd_a 0) (cu_a 0) (sp_a 0) sd ++ wSy cI cZ cJ cu_a cu ++ wSy cI cZ cJ sp_a sp ++ wBr cI cZ cJ w_a w_b w ++ wBr cI cZ cJ v_a v_b v ++ wWr cI cZ cJ wr_a (pb_a 0) wr ++ wRd cI cZ cJ rd_a (pb_a 0) rd ++ wPb cI cZ cJ pb_a w_a v_a pb ++ wMo cI cZ cJ mo_a mo ++ wOu cI cZ cJ ou_a ou) := hD.sub [35, 36, 37, 38, 39, 40, 41, 42, 43, 44, 45, 0, 1, 2, 3, 4, 5, 6, 7, 8, 9, 10, 11, 12, 13, 14, 15, 16, 17, 18, 19, 20, 21, 22, 23, 24, 25, 26, 27, 28, 29, 30, 31, 32, 33, 34, 46] (by decide) rfl
    refine lv_istore (lv' := [(5, .int 1), (0, .ref b), (1, .ref (sd_a 0)), (2, .ref (mo_a 0)), (3, .ref (ou_a 0)), (4, .int i)]) hx hb d_law_994 hl (by decide) rfl (fun ls hl => ?_)
    refine lv_aload_n hx hb d_law_996 rfl (lv_at hl 3 rfl) ?_
    refine lv_aload_n hx hb d_law_997 rfl (lv_at hl 1 rfl) ?_
    refine lv_iload hx hb d_law_998 (lv_at hl 5 rfl) ?_
    refine lv_iconst (v := 1) hx hb d_law_1000 (by decide) ?_
    refine lv_iadd hx hb d_law_1001 ?_
    refine va_sld hx hb hX0 hbl hbA hS (hin 1 (by decide) (by decide)) d_law_1002 ?_
    have hPc := hP.sub (ws' := (wMo cI cZ cJ mo_a mo)) [30, 31, 32, 33, 34, 35, 36, 37, 38, 39, 40, 41, 42, 43, 44, 45] rfl
    have hDc := hD.sub (ws' := (wMo cI cZ cJ mo_a mo)) [30, 31, 32, 33, 34, 35, 36, 37, 38, 39, 40, 41, 42, 43, 44, 45] (by decide) rfl
    have hFc := va_free (wc := (wMo cI cZ cJ mo_a mo)) hD hS hA [30, 31, 32, 33, 34, 35, 36, 37, 38, 39, 40, 41, 42, 43, 44, 45] rfl
    refine va_calli (va_runV (As := [.int (xs (i + 1).toNatClampNeg)]) (rest := []) ⟨hx, hb, hml, hown, hts⟩ (k_Model_classes l dC dI cI cZ cJ mo_a H.size hg) (cwV 1 hts (gV t_1095 t_1096 t_1097 t_63 t_1098) rfl rfl rfl hd_Model_classes ⟨Nat.le_trans (Nat.le_of_ble_eq_true rfl) hRf, Nat.le_trans (Nat.le_of_ble_eq_true rfl) hRl⟩) ⟨kP_blind, va_recv hK hP (ci := 7) (q0 := 30) rfl rfl, kP_at hPc hK hDc hN⟩ rfl rfl hl.1 rfl (lv_room (Nat.le_of_ble_eq_true rfl)) d_law_1003 ⟨by omega, by omega⟩) hS (fun q _ h => hFc q h) hFc (fun r9 u t H1 locs ht hvm hw hB hz1 hk1 hS => ?_)
    rw [hw]
    obtain ⟨hP, hD⟩ := kQ_join (wr := (wSd cI cZ cJ sd_a w_a v_a (wr_a 0) (rd_a 0) (cu_a 0) (sp_a 0) sd ++ wSy cI cZ cJ cu_a cu ++ wSy cI cZ cJ sp_a sp ++ wBr cI cZ cJ w_a w_b w ++ wBr cI cZ cJ v_a v_b v ++ wWr cI cZ cJ wr_a (pb_a 0) wr ++ wRd cI cZ cJ rd_a (pb_a 0) rd ++ wPb cI cZ cJ pb_a w_a v_a pb ++ wOu cI cZ cJ ou_a ou)) (w1 := (wMo cI cZ cJ mo_a mo')) hP hD [30, 31, 32, 33, 34, 35, 36, 37, 38, 39, 40, 41, 42, 43, 44, 45] [0, 1, 2, 3, 4, 5, 6, 7, 8, 9, 10, 11, 12, 13, 14, 15, 16, 17, 18, 19, 20, 21, 22, 23, 24, 25, 26, 27, 28, 29, 46] rfl rfl (by decide) (by decide) ht hk1 hFc hB
    generalize H1 = H at hP hS ⊢
    have hP : va_P (dC, dI) vwCl (wSd cI cZ cJ sd_a w_a v_a (wr_a 0) (rd_a 0) (cu_a 0) (sp_a 0) sd ++ wSy cI cZ cJ cu_a cu ++ wSy cI cZ cJ sp_a sp ++ wBr cI cZ cJ w_a w_b w ++ wBr cI cZ cJ v_a v_b v ++ wWr cI cZ cJ wr_a (pb_a 0) wr ++ wRd cI cZ cJ rd_a (pb_a 0) rd ++ wPb cI cZ cJ pb_a w_a v_a pb ++ wMo cI cZ cJ mo_a mo' ++ wOu cI cZ cJ ou_a ou) H := hP.sub [0, 1, 2, 3, 4, 5, 6, 7, 8, 9, 10, 11, 12, 13, 14, 15, 16, 17, 18, 19, 20, 21, 22, 23, 24, 25, 26, 27, 28, 29, 31, 32, 33, 34, 35, 36, 37, 38, 39, 40, 41, 42, 43, 44, 45, 46, 30] rfl
    have hD : va_D A (wSd cI cZ cJ sd_a w_a v_a (wr_a 0) (rd_a 0) (cu_a 0) (sp_a 0) sd ++ wSy cI cZ cJ cu_a cu ++ wSy cI cZ cJ sp_a sp ++ wBr cI cZ cJ w_a w_b w ++ wBr cI cZ cJ v_a v_b v ++ wWr cI cZ cJ wr_a (pb_a 0) wr ++ wRd cI cZ cJ rd_a (pb_a 0) rd ++ wPb cI cZ cJ pb_a w_a v_a pb ++ wMo cI cZ cJ mo_a mo' ++ wOu cI cZ cJ ou_a ou) := hD.sub [0, 1, 2, 3, 4, 5, 6, 7, 8, 9, 10, 11, 12, 13, 14, 15, 16, 17, 18, 19, 20, 21, 22, 23, 24, 25, 26, 27, 28, 29, 31, 32, 33, 34, 35, 36, 37, 38, 39, 40, 41, 42, 43, 44, 45, 46, 30] (by decide) rfl
    refine lv_istore (lv' := [(6, .int q), (5, .int 1), (0, .ref b), (1, .ref (sd_a 0)), (2, .ref (mo_a 0)), (3, .ref (ou_a 0)), (4, .int i)]) hx hb d_law_1006 hl (by decide) rfl (fun ls hl => ?_)
    refine lv_aload_n hx hb d_law_1008 rfl (lv_at hl 4 rfl) ?_
    have hth : f_Model_thrown mo' = some (Mo_code mo') := rfl
    have hPc := hP.sub (ws' := (wMo cI cZ cJ mo_a mo')) [30, 31, 32, 33, 34, 35, 36, 37, 38, 39, 40, 41, 42, 43, 44, 45] rfl
    have hDc := hD.sub (ws' := (wMo cI cZ cJ mo_a mo')) [30, 31, 32, 33, 34, 35, 36, 37, 38, 39, 40, 41, 42, 43, 44, 45] (by decide) rfl
    have hFc := va_free (wc := (wMo cI cZ cJ mo_a mo')) hD hS hA [30, 31, 32, 33, 34, 35, 36, 37, 38, 39, 40, 41, 42, 43, 44, 45] rfl
    refine va_calli (va_runV (As := []) (rest := []) ⟨hx, hb, hml, hown, hts⟩ (k_Model_thrown l dC dI cI cZ cJ mo_a H.size hth) (cwV 0 hts (gV t_906 t_907 t_908 t_63 t_909) rfl rfl rfl hd_Model_thrown ⟨Nat.le_trans (Nat.le_of_ble_eq_true rfl) hRf, Nat.le_trans (Nat.le_of_ble_eq_true rfl) hRl⟩) ⟨kP_blind, va_recv hK hP (ci := 7) (q0 := 30) rfl rfl, kP_at hPc hK hDc hN⟩ rfl rfl hl.1 rfl (lv_room (Nat.le_of_ble_eq_true rfl)) d_law_1009 ⟨by omega, by omega⟩) hS (fun q _ h => hFc q h) hFc (fun r9 u t H1 locs ht hvm hw hB hz1 hk1 hS => ?_)
    rw [hw]
    obtain ⟨hP, hD⟩ := kQ_join (wr := (wSd cI cZ cJ sd_a w_a v_a (wr_a 0) (rd_a 0) (cu_a 0) (sp_a 0) sd ++ wSy cI cZ cJ cu_a cu ++ wSy cI cZ cJ sp_a sp ++ wBr cI cZ cJ w_a w_b w ++ wBr cI cZ cJ v_a v_b v ++ wWr cI cZ cJ wr_a (pb_a 0) wr ++ wRd cI cZ cJ rd_a (pb_a 0) rd ++ wPb cI cZ cJ pb_a w_a v_a pb ++ wOu cI cZ cJ ou_a ou)) (w1 := (wMo cI cZ cJ mo_a mo')) hP hD [30, 31, 32, 33, 34, 35, 36, 37, 38, 39, 40, 41, 42, 43, 44, 45] [0, 1, 2, 3, 4, 5, 6, 7, 8, 9, 10, 11, 12, 13, 14, 15, 16, 17, 18, 19, 20, 21, 22, 23, 24, 25, 26, 27, 28, 29, 46] rfl rfl (by decide) (by decide) ht hk1 hFc hB
    generalize H1 = H at hP hS ⊢
    have hP : va_P (dC, dI) vwCl (wSd cI cZ cJ sd_a w_a v_a (wr_a 0) (rd_a 0) (cu_a 0) (sp_a 0) sd ++ wSy cI cZ cJ cu_a cu ++ wSy cI cZ cJ sp_a sp ++ wBr cI cZ cJ w_a w_b w ++ wBr cI cZ cJ v_a v_b v ++ wWr cI cZ cJ wr_a (pb_a 0) wr ++ wRd cI cZ cJ rd_a (pb_a 0) rd ++ wPb cI cZ cJ pb_a w_a v_a pb ++ wMo cI cZ cJ mo_a mo' ++ wOu cI cZ cJ ou_a ou) H := hP.sub [0, 1, 2, 3, 4, 5, 6, 7, 8, 9, 10, 11, 12, 13, 14, 15, 16, 17, 18, 19, 20, 21, 22, 23, 24, 25, 26, 27, 28, 29, 31, 32, 33, 34, 35, 36, 37, 38, 39, 40, 41, 42, 43, 44, 45, 46, 30] rfl
    have hD : va_D A (wSd cI cZ cJ sd_a w_a v_a (wr_a 0) (rd_a 0) (cu_a 0) (sp_a 0) sd ++ wSy cI cZ cJ cu_a cu ++ wSy cI cZ cJ sp_a sp ++ wBr cI cZ cJ w_a w_b w ++ wBr cI cZ cJ v_a v_b v ++ wWr cI cZ cJ wr_a (pb_a 0) wr ++ wRd cI cZ cJ rd_a (pb_a 0) rd ++ wPb cI cZ cJ pb_a w_a v_a pb ++ wMo cI cZ cJ mo_a mo' ++ wOu cI cZ cJ ou_a ou) := hD.sub [0, 1, 2, 3, 4, 5, 6, 7, 8, 9, 10, 11, 12, 13, 14, 15, 16, 17, 18, 19, 20, 21, 22, 23, 24, 25, 26, 27, 28, 29, 31, 32, 33, 34, 35, 36, 37, 38, 39, 40, 41, 42, 43, 44, 45, 46, 30] (by decide) rfl
    refine lv_iload hx hb d_law_1012 (lv_at hl 1 rfl) ?_
    refine lv_icmp_eq (tgt := 1019) hx hb d_law_1014 (by decide) (fun _ => ?_) (fun h9 => absurd hcode h9)
    refine lv_iload hx hb d_law_1019 (lv_at hl 1 rfl) ?_
    refine lv_if_ne (tgt := 1036) hx hb d_law_1021 (by decide) (fun _ => ?_) (fun h9 => absurd h9 (by decide))
    refine lv_goto (tgt := 1131) hx hb d_law_1036 (by decide) ?_
    have hl := lv_sub (l' := [(0, .ref b), (1, .ref (sd_a 0)), (2, .ref (mo_a 0)), (3, .ref (ou_a 0)), (4, .int i)]) hl [2, 3, 4, 5, 6] rfl
    refine W.widen (k := j + 1 + Br_byL w + Br_byL v) (n := 6 * (j + 1) + 2 * Br_byL w + 2 * Br_byL v) (by omega) (by omega) ?_
    exact hk _ _ _ cu_a sp_a w_b v_b cu sp w v wr rd pb mo' ou hrel hP hD hS hl

set_option maxHeartbeats 8000000 in
set_option maxRecDepth 100000 in
theorem L_P_cls {p : Program} {l : Launch} {e : Env} {R : Room} {s : State} {m : MethodId} {args : Array Value} {below : List Frame} {meth : Method} {c : Code} {Q : State → Prop} {A : Nat → Prop} {dC : Nat → ClassId} {dI : Nat → Nat → Nat} {cI cZ cJ : ClassId} {sd_a cu_a sp_a : Nat → Nat} {w_a w_b v_a v_b : Nat} {wr_a rd_a pb_a mo_a ou_a : Nat → Nat} {sd : Sd} {cu sp : Sy} {w v : Br} {wr : Wr} {rd : Rd} {pb : Pb} {mo : Mo} {ou : Ou} {b L : Nat} {xs : Nat → Int32} {i : Int32} {j : Nat} {Rl : Sd → Sy → Sy → Br → Br → Wr → Rd → Pb → Mo → Prop} (hl9 : l.stackTraces = false) (C0 : lcx p c m s args R (dC, dI) (TYS cI cZ cJ) A b L xs i j) (hRb : ∀ sd cu sp w v wr rd pb mo, Rl sd cu sp w v wr rd pb mo → Br_byL w ≤ 40000 ∧ Br_byL v ≤ 40000) (hR0 : Rl sd cu sp w v wr rd pb mo) (hT0 : T_P_cls Rl sd cu sp w v wr rd pb mo (xs (i + 1).toNatClampNeg))
    (hk : ∀ (H : Heap) (locs : List Loc) (ls : Array Slot) (cu_a sp_a : Nat → Nat) (w_b v_b : Nat) (cu sp : Sy) (w v : Br) (wr : Wr) (rd : Rd) (pb : Pb) (mo : Mo) (ou : Ou), Rl sd cu sp w v wr rd pb mo → va_P (dC, dI) vwCl (wSd cI cZ cJ sd_a w_a v_a (wr_a 0) (rd_a 0) (cu_a 0) (sp_a 0) sd ++ wSy cI cZ cJ cu_a cu ++ wSy cI cZ cJ sp_a sp ++ wBr cI cZ cJ w_a w_b w ++ wBr cI cZ cJ v_a v_b v ++ wWr cI cZ cJ wr_a (pb_a 0) wr ++ wRd cI cZ cJ rd_a (pb_a 0) rd ++ wPb cI cZ cJ pb_a w_a v_a pb ++ wMo cI cZ cJ mo_a mo ++ wOu cI cZ cJ ou_a ou) H → va_D A (wSd cI cZ cJ sd_a w_a v_a (wr_a 0) (rd_a 0) (cu_a 0) (sp_a 0) sd ++ wSy cI cZ cJ cu_a cu ++ wSy cI cZ cJ sp_a sp ++ wBr cI cZ cJ w_a w_b w ++ wBr cI cZ cJ v_a v_b v ++ wWr cI cZ cJ wr_a (pb_a 0) wr ++ wRd cI cZ cJ rd_a (pb_a 0) rd ++ wPb cI cZ cJ pb_a w_a v_a pb ++ wMo cI cZ cJ mo_a mo ++ wOu cI cZ cJ ou_a ou) → va_S A s.heap H locs → lv_has ls 7 [(0, .ref b), (1, .ref (sd_a 0)), (2, .ref (mo_a 0)), (3, .ref (ou_a 0)), (4, .int i)] → W p l e R s m args below meth c H locs (j + 1 + Br_byL w + Br_byL v) (6 * (j + 1) + 2 * Br_byL w + 2 * Br_byL v) Q (F0 m 1131 ls []))
    {H : Heap} {locs : List Loc} {ls : Array Slot} (hP : va_P (dC, dI) vwCl (wSd cI cZ cJ sd_a w_a v_a (wr_a 0) (rd_a 0) (cu_a 0) (sp_a 0) sd ++ wSy cI cZ cJ cu_a cu ++ wSy cI cZ cJ sp_a sp ++ wBr cI cZ cJ w_a w_b w ++ wBr cI cZ cJ v_a v_b v ++ wWr cI cZ cJ wr_a (pb_a 0) wr ++ wRd cI cZ cJ rd_a (pb_a 0) rd ++ wPb cI cZ cJ pb_a w_a v_a pb ++ wMo cI cZ cJ mo_a mo ++ wOu cI cZ cJ ou_a ou) H) (hD : va_D A (wSd cI cZ cJ sd_a w_a v_a (wr_a 0) (rd_a 0) (cu_a 0) (sp_a 0) sd ++ wSy cI cZ cJ cu_a cu ++ wSy cI cZ cJ sp_a sp ++ wBr cI cZ cJ w_a w_b w ++ wBr cI cZ cJ v_a v_b v ++ wWr cI cZ cJ wr_a (pb_a 0) wr ++ wRd cI cZ cJ rd_a (pb_a 0) rd ++ wPb cI cZ cJ pb_a w_a v_a pb ++ wMo cI cZ cJ mo_a mo ++ wOu cI cZ cJ ou_a ou)) (hS : va_S A s.heap H locs) (hl : lv_has ls 7 [(0, .ref b), (1, .ref (sd_a 0)), (2, .ref (mo_a 0)), (3, .ref (ou_a 0)), (4, .int i)]) : W p l e R s m args below meth c H locs (j + Br_byL w + Br_byL v) (6 * j + 2 * Br_byL w + 2 * Br_byL v) Q (F0 m 1039 ls []) := by
  obtain ⟨hx, hb, hml, hown, hts, hK, hA, hA2, hRf, hRl, hN, hT, hX, hX0, hbl, hin, hj, hRc, hRs⟩ := C0
  have hbA : ¬ A b := fun h => absurd (hA2 b h) (Nat.not_le.mpr hbl)
  obtain ⟨hw0, hv0⟩ := hRb _ _ _ _ _ _ _ _ _ hR0
  unfold T_P_cls at hT0
  rcases hT0 with ⟨r, mo', hf, hg, hcode, hrel⟩ | ⟨hf, q, mo', hg, hcode, hrel⟩
  · obtain ⟨ou', heou⟩ : ∃ z : Ou, z = (vp_updL (Ou_f ou) 0 r.toInt64) := ⟨_, rfl⟩
    have hf1 : f_Law_cls sd cu ou (xs (i + 1).toNatClampNeg) = some (0, ou') := by
      rw [f_Law_cls, hf, bd_s, heou]
      rfl
    have hou : Ou_f ou' (0 : Int32).toNatClampNeg = r.toInt64 := by rw [heou]; exact updL_at _ _ _
    refine lv_aload_n hx hb d_law_1039 rfl (lv_at hl 1 rfl) ?_
    refine lv_aload_n hx hb d_law_1040 rfl (lv_at hl 0 rfl) ?_
    refine lv_iload hx hb d_law_1041 (lv_at hl 4 rfl) ?_
    refine lv_iconst (v := 1) hx hb d_law_1043 (by decide) ?_
    refine lv_iadd hx hb d_law_1044 ?_
    refine va_sld hx hb hX0 hbl hbA hS (hin 1 (by decide) (by decide)) d_law_1045 ?_
    refine lv_aload_n hx hb d_law_1046 rfl (lv_at hl 3 rfl) ?_
    have hPc := hP.sub (ws' := (wSd cI cZ cJ sd_a w_a v_a (wr_a 0) (rd_a 0) (cu_a 0) (sp_a 0) sd ++ wSy cI cZ cJ cu_a cu ++ wOu cI cZ cJ ou_a ou)) [0, 1, 2, 3, 4, 5, 6, 7, 8, 9, 10, 45] rfl
    have hDc := hD.sub (ws' := (wSd cI cZ cJ sd_a w_a v_a (wr_a 0) (rd_a 0) (cu_a 0) (sp_a 0) sd ++ wSy cI cZ cJ cu_a cu ++ wOu cI cZ cJ ou_a ou)) [0, 1, 2, 3, 4, 5, 6, 7, 8, 9, 10, 45] (by decide) rfl
    have hFc := va_free (wc := (wSd cI cZ cJ sd_a w_a v_a (wr_a 0) (rd_a 0) (cu_a 0) (sp_a 0) sd ++ wSy cI cZ cJ cu_a cu ++ wOu cI cZ cJ ou_a ou)) hD hS hA [0, 1, 2, 3, 4, 5, 6, 7, 8, 9, 10, 45] rfl
    refine va_calli (w_runS (As := [.ref (sd_a 0), .int (xs (i + 1).toNatClampNeg), .ref (ou_a 0)]) (rest := []) ⟨hx, hb, hml, hown, hts⟩ (k_Law_cls l dC dI cI cZ cJ sd_a cu_a ou_a w_a v_a (wr_a 0) (rd_a 0) (sp_a 0) H.size hf1) (cwH_of 3 hts t_813 rfl rfl t_53 t_811 t_812 hd_Law_cls.2 ⟨Nat.le_trans (Nat.le_of_ble_eq_true rfl) hRf, Nat.le_trans (Nat.le_of_ble_eq_true rfl) hRl⟩) ⟨kP_blind, kP_at hPc hK hDc hN⟩ rfl rfl hl.1 rfl (lv_room (Nat.le_of_ble_eq_true rfl)) d_law_1047 ⟨by omega, by omega⟩) hS (fun q _ h => hFc q h) hFc (fun r9 u t H1 locs ht hvm hw hB hz1 hk1 hS => ?_)
    rw [hw]
    obtain ⟨hP, hD⟩ := kQ_join (wr := (wSy cI cZ cJ sp_a sp ++ wBr cI cZ cJ w_a w_b w ++ wBr cI cZ cJ v_a v_b v ++ wWr cI cZ cJ wr_a (pb_a 0) wr ++ wRd cI cZ cJ rd_a (pb_a 0) rd ++ wPb cI cZ cJ pb_a w_a v_a pb ++ wMo cI cZ cJ mo_a mo)) (w1 := (wSd cI cZ cJ sd_a w_a v_a (wr_a 0) (rd_a 0) (cu_a 0) (sp_a 0) sd ++ wSy cI cZ cJ cu_a cu ++ wOu cI cZ cJ ou_a ou')) hP hD [0, 1, 2, 3, 4, 5, 6, 7, 8, 9, 10, 45] [11, 12, 13, 14, 15, 16, 17, 18, 19, 20, 21, 22, 23, 24, 25, 26, 27, 28, 29, 30, 31, 32, 33, 34, 35, 36, 37, 38, 39, 40, 41, 42, 43, 44, 46] rfl rfl (by decide) (by decide) ht hk1 hFc hB
    generalize H1 = H at hP hS ⊢
    have hP : va_P (dC, dI) vwCl (wSd cI cZ cJ sd_a w_a v_a (wr_a 0) (rd_a 0) (cu_a 0) (sp_a 0) sd ++ wSy cI cZ cJ cu_a cu ++ wSy cI cZ cJ sp_a sp ++ wBr cI cZ cJ w_a w_b w ++ wBr cI cZ cJ v_a v_b v ++ wWr cI cZ cJ wr_a (pb_a 0) wr ++ wRd cI cZ cJ rd_a (pb_a 0) rd ++ wPb cI cZ cJ pb_a w_a v_a pb ++ wMo cI cZ cJ mo_a mo ++ wOu cI cZ cJ ou_a ou') H := hP.sub [35, 36, 37, 38, 39, 40, 41, 42, 43, 44, 45, 0, 1, 2, 3, 4, 5, 6, 7, 8, 9, 10, 11, 12, 13, 14, 15, 16, 17, 18, 19, 20, 21, 22, 23, 24, 25, 26, 27, 28, 29, 30, 31, 32, 33, 34, 46] rfl
    have hD : va_D A (wSd cI cZ cJ sd_a w_a v_a (wr_a 0) (rd_a 0) (cu_a 0) (sp_a 0) sd ++ wSy cI cZ cJ cu_a cu ++ wSy cI cZ cJ sp_a sp ++ wBr cI cZ cJ w_a w_b w ++ wBr cI cZ cJ v_a v_b v ++ wWr cI cZ cJ wr_a (pb_a 0) wr ++ wRd cI cZ cJ rd_a (pb_a 0) rd ++ wPb cI cZ cJ pb_a w_a v_a pb ++ wMo cI cZ cJ mo_a mo ++ wOu cI cZ cJ ou_a ou') := hD.sub [35, 36, 37, 38, 39, 40, 41, 42, 43, 44, 45, 0, 1, 2, 3, 4, 5, 6, 7, 8, 9, 10, 11, 12, 13, 14, 15, 16, 17, 18, 19, 20, 21, 22, 23, 24, 25, 26, 27, 28, 29, 30, 31, 32, 33, 34, 46] (by decide) rfl
    refine lv_istore (lv' := [(5, .int 0), (0, .ref b), (1, .ref (sd_a 0)), (2, .ref (mo_a 0)), (3, .ref (ou_a 0)), (4, .int i)]) hx hb d_law_1050 hl (by decide) rfl (fun ls hl => ?_)
    refine lv_aload_n hx hb d_law_1052 rfl (lv_at hl 3 rfl) ?_
    refine lv_aload_n hx hb d_law_1053 rfl (lv_at hl 1 rfl) ?_
    refine lv_iload hx hb d_law_1054 (lv_at hl 5 rfl) ?_
    refine lv_iconst (v := 1) hx hb d_law_1056 (by decide) ?_
    refine lv_iadd hx hb d_law_1057 ?_
    refine va_sld hx hb hX0 hbl hbA hS (hin 1 (by decide) (by decide)) d_law_1058 ?_
    have hPc := hP.sub (ws' := (wMo cI cZ cJ mo_a mo)) [30, 31, 32, 33, 34, 35, 36, 37, 38, 39, 40, 41, 42, 43, 44, 45] rfl
    have hDc := hD.sub (ws' := (wMo cI cZ cJ mo_a mo)) [30, 31, 32, 33, 34, 35, 36, 37, 38, 39, 40, 41, 42, 43, 44, 45] (by decide) rfl
    have hFc := va_free (wc := (wMo cI cZ cJ mo_a mo)) hD hS hA [30, 31, 32, 33, 34, 35, 36, 37, 38, 39, 40, 41, 42, 43, 44, 45] rfl
    refine va_calli (va_runV (As := [.int (xs (i + 1).toNatClampNeg)]) (rest := []) ⟨hx, hb, hml, hown, hts⟩ (k_Model_cls l dC dI cI cZ cJ mo_a H.size hg) (cwV 1 hts (gV t_1099 t_1100 t_1101 t_63 t_1102) rfl rfl rfl hd_Model_cls ⟨Nat.le_trans (Nat.le_of_ble_eq_true rfl) hRf, Nat.le_trans (Nat.le_of_ble_eq_true rfl) hRl⟩) ⟨kP_blind, va_recv hK hP (ci := 7) (q0 := 30) rfl rfl, kP_at hPc hK hDc hN⟩ rfl rfl hl.1 rfl (lv_room (Nat.le_of_ble_eq_true rfl)) d_law_1059 ⟨by omega, by omega⟩) hS (fun q _ h => hFc q h) hFc (fun r9 u t H1 locs ht hvm hw hB hz1 hk1 hS => ?_)
    rw [hw]
    obtain ⟨hP, hD⟩ := kQ_join (wr := (wSd cI cZ cJ sd_a w_a v_a (wr_a 0) (rd_a 0) (cu_a 0) (sp_a 0) sd ++ wSy cI cZ cJ cu_a cu ++ wSy cI cZ cJ sp_a sp ++ wBr cI cZ cJ w_a w_b w ++ wBr cI cZ cJ v_a v_b v ++ wWr cI cZ cJ wr_a (pb_a 0) wr ++ wRd cI cZ cJ rd_a (pb_a 0) rd ++ wPb cI cZ cJ pb_a w_a v_a pb ++ wOu cI cZ cJ ou_a ou')) (w1 := (wMo cI cZ cJ mo_a mo')) hP hD [30, 31, 32, 33, 34, 35, 36, 37, 38, 39, 40, 41, 42, 43, 44, 45] [0, 1, 2, 3, 4, 5, 6, 7, 8, 9, 10, 11, 12, 13, 14, 15, 16, 17, 18, 19, 20, 21, 22, 23, 24, 25, 26, 27, 28, 29, 46] rfl rfl (by decide) (by decide) ht hk1 hFc hB
    generalize H1 = H at hP hS ⊢
    have hP : va_P (dC, dI) vwCl (wSd cI cZ cJ sd_a w_a v_a (wr_a 0) (rd_a 0) (cu_a 0) (sp_a 0) sd ++ wSy cI cZ cJ cu_a cu ++ wSy cI cZ cJ sp_a sp ++ wBr cI cZ cJ w_a w_b w ++ wBr cI cZ cJ v_a v_b v ++ wWr cI cZ cJ wr_a (pb_a 0) wr ++ wRd cI cZ cJ rd_a (pb_a 0) rd ++ wPb cI cZ cJ pb_a w_a v_a pb ++ wMo cI cZ cJ mo_a mo' ++ wOu cI cZ cJ ou_a ou') H := hP.sub [0, 1, 2, 3, 4, 5, 6, 7, 8, 9, 10, 11, 12, 13, 14, 15, 16, 17, 18, 19, 20, 21, 22, 23, 24, 25, 26, 27, 28, 29, 31, 32, 33, 34, 35, 36, 37, 38, 39, 40, 41, 42, 43, 44, 45, 46, 30] rfl
    have hD : va_D A (wSd cI cZ cJ sd_a w_a v_a (wr_a 0) (rd_a 0) (cu_a 0) (sp_a 0) sd ++ wSy cI cZ cJ cu_a cu ++ wSy cI cZ cJ sp_a sp ++ wBr cI cZ cJ w_a w_b w ++ wBr cI cZ cJ v_a v_b v ++ wWr cI cZ cJ wr_a (pb_a 0) wr ++ wRd cI cZ cJ rd_a (pb_a 0) rd ++ wPb cI cZ cJ pb_a w_a v_a pb ++ wMo cI cZ cJ mo_a mo' ++ wOu cI cZ cJ ou_a ou') := hD.sub [0, 1, 2, 3, 4, 5, 6, 7, 8, 9, 10, 11, 12, 13, 14, 15, 16, 17, 18, 19, 20, 21, 22, 23, 24, 25, 26, 27, 28, 29, 31, 32, 33, 34, 35, 36, 37, 38, 39, 40, 41, 42, 43, 44, 45, 46, 30] (by decide) rfl
    refine lv_istore (lv' := [(6, .int r), (5, .int 0), (0, .ref b), (1, .ref (sd_a 0)), (2, .ref (mo_a 0)), (3, .ref (ou_a 0)), (4, .int i)]) hx hb d_law_1062 hl (by decide) rfl (fun ls hl => ?_)
    refine lv_aload_n hx hb d_law_1064 rfl (lv_at hl 4 rfl) ?_
    have hth : f_Model_thrown mo' = some (Mo_code mo') := rfl
    have hPc := hP.sub (ws' := (wMo cI cZ cJ mo_a mo')) [30, 31, 32, 33, 34, 35, 36, 37, 38, 39, 40, 41, 42, 43, 44, 45] rfl
    have hDc := hD.sub (ws' := (wMo cI cZ cJ mo_a mo')) [30, 31, 32, 33, 34, 35, 36, 37, 38, 39, 40, 41, 42, 43, 44, 45] (by decide) rfl
    have hFc := va_free (wc := (wMo cI cZ cJ mo_a mo')) hD hS hA [30, 31, 32, 33, 34, 35, 36, 37, 38, 39, 40, 41, 42, 43, 44, 45] rfl
    refine va_calli (va_runV (As := []) (rest := []) ⟨hx, hb, hml, hown, hts⟩ (k_Model_thrown l dC dI cI cZ cJ mo_a H.size hth) (cwV 0 hts (gV t_906 t_907 t_908 t_63 t_909) rfl rfl rfl hd_Model_thrown ⟨Nat.le_trans (Nat.le_of_ble_eq_true rfl) hRf, Nat.le_trans (Nat.le_of_ble_eq_true rfl) hRl⟩) ⟨kP_blind, va_recv hK hP (ci := 7) (q0 := 30) rfl rfl, kP_at hPc hK hDc hN⟩ rfl rfl hl.1 rfl (lv_room (Nat.le_of_ble_eq_true rfl)) d_law_1065 ⟨by omega, by omega⟩) hS (fun q _ h => hFc q h) hFc (fun r9 u t H1 locs ht hvm hw hB hz1 hk1 hS => ?_)
    rw [hw]
    obtain ⟨hP, hD⟩ := kQ_join (wr := (wSd cI cZ cJ sd_a w_a v_a (wr_a 0) (rd_a 0) (cu_a 0) (sp_a 0) sd ++ wSy cI cZ cJ cu_a cu ++ wSy cI cZ cJ sp_a sp ++ wBr cI cZ cJ w_a w_b w ++ wBr cI cZ cJ v_a v_b v ++ wWr cI cZ cJ wr_a (pb_a 0) wr ++ wRd cI cZ cJ rd_a (pb_a 0) rd ++ wPb cI cZ cJ pb_a w_a v_a pb ++ wOu cI cZ cJ ou_a ou')) (w1 := (wMo cI cZ cJ mo_a mo')) hP hD [30, 31, 32, 33, 34, 35, 36, 37, 38, 39, 40, 41, 42, 43, 44, 45] [0, 1, 2, 3, 4, 5, 6, 7, 8, 9, 10, 11, 12, 13, 14, 15, 16, 17, 18, 19, 20, 21, 22, 23, 24, 25, 26, 27, 28, 29, 46] rfl rfl (by decide) (by decide) ht hk1 hFc hB
    generalize H1 = H at hP hS ⊢
    have hP : va_P (dC, dI) vwCl (wSd cI cZ cJ sd_a w_a v_a (wr_a 0) (rd_a 0) (cu_a 0) (sp_a 0) sd ++ wSy cI cZ cJ cu_a cu ++ wSy cI cZ cJ sp_a sp ++ wBr cI cZ cJ w_a w_b w ++ wBr cI cZ cJ v_a v_b v ++ wWr cI cZ cJ wr_a (pb_a 0) wr ++ wRd cI cZ cJ rd_a (pb_a 0) rd ++ wPb cI cZ cJ pb_a w_a v_a pb ++ wMo cI cZ cJ mo_a mo' ++ wOu cI cZ cJ ou_a ou') H := hP.sub [0, 1, 2, 3, 4, 5, 6, 7, 8, 9, 10, 11, 12, 13, 14, 15, 16, 17, 18, 19, 20, 21, 22, 23, 24, 25, 26, 27, 28, 29, 31, 32, 33, 34, 35, 36, 37, 38, 39, 40, 41, 42, 43, 44, 45, 46, 30] rfl
    have hD : va_D A (wSd cI cZ cJ sd_a w_a v_a (wr_a 0) (rd_a 0) (cu_a 0) (sp_a 0) sd ++ wSy cI cZ cJ cu_a cu ++ wSy cI cZ cJ sp_a sp ++ wBr cI cZ cJ w_a w_b w ++ wBr cI cZ cJ v_a v_b v ++ wWr cI cZ cJ wr_a (pb_a 0) wr ++ wRd cI cZ cJ rd_a (pb_a 0) rd ++ wPb cI cZ cJ pb_a w_a v_a pb ++ wMo cI cZ cJ mo_a mo' ++ wOu cI cZ cJ ou_a ou') := hD.sub [0, 1, 2, 3, 4, 5, 6, 7, 8, 9, 10, 11, 12, 13, 14, 15, 16, 17, 18, 19, 20, 21, 22, 23, 24, 25, 26, 27, 28, 29, 31, 32, 33, 34, 35, 36, 37, 38, 39, 40, 41, 42, 43, 44, 45, 46, 30] (by decide) rfl
    refine lv_iload hx hb d_law_1068 (lv_at hl 1 rfl) ?_
    refine lv_icmp_eq (tgt := 1075) hx hb d_law_1070 (by decide) (fun _ => ?_) (fun h9 => absurd hcode h9)
    refine lv_iload hx hb d_law_1075 (lv_at hl 1 rfl) ?_
    refine lv_if_ne (tgt := 1092) hx hb d_law_1077 (by decide) (fun h9 => absurd rfl h9) (fun _ => ?_)
    refine lv_aload_n hx hb d_law_1080 rfl (lv_at hl 5 rfl) ?_
    refine lv_iconst (v := 0) hx hb d_law_1081 (by decide) ?_
    refine va_lald (f := Ou_f ou') hx hb hK hP 46 2 rfl rfl (inb_in (by decide)) d_law_1082 ?_
    refine lv_iload hx hb d_law_1083 (lv_at hl 0 rfl) ?_
    refine lv_i2l (v := r.toInt64) hx hb d_law_1085 rfl ?_
    refine W.lcmp hx hb d_law_1086 ?_
    refine lv_if_eq (tgt := 1092) hx hb d_law_1087 (by decide) (fun _ => ?_) (fun h9 => absurd (by rw [hou]; exact cmp_self _) h9)
    refine lv_goto (tgt := 1131) hx hb d_law_1092 (by decide) ?_
    have hl := lv_sub (l' := [(0, .ref b), (1, .ref (sd_a 0)), (2, .ref (mo_a 0)), (3, .ref (ou_a 0)), (4, .int i)]) hl [2, 3, 4, 5, 6] rfl
    refine W.widen (k := j + 1 + Br_byL w + Br_byL v) (n := 6 * (j + 1) + 2 * Br_byL w + 2 * Br_byL v) (by omega) (by omega) ?_
    exact hk _ _ _ cu_a sp_a w_b v_b cu sp w v wr rd pb mo' ou' hrel hP hD hS hl
  · refine lv_aload_n hx hb d_law_1039 rfl (lv_at hl 1 rfl) ?_
    refine lv_aload_n hx hb d_law_1040 rfl (lv_at hl 0 rfl) ?_
    refine lv_iload hx hb d_law_1041 (lv_at hl 4 rfl) ?_
    refine lv_iconst (v := 1) hx hb d_law_1043 (by decide) ?_
    refine lv_iadd hx hb d_law_1044 ?_
    refine va_sld hx hb hX0 hbl hbA hS (hin 1 (by decide) (by decide)) d_law_1045 ?_
    refine lv_aload_n hx hb d_law_1046 rfl (lv_at hl 3 rfl) ?_
    have hPc := hP.sub (ws' := (wSd cI cZ cJ sd_a w_a v_a (wr_a 0) (rd_a 0) (cu_a 0) (sp_a 0) sd ++ wSy cI cZ cJ cu_a cu ++ wOu cI cZ cJ ou_a ou)) [0, 1, 2, 3, 4, 5, 6, 7, 8, 9, 10, 45] rfl
    have hDc := hD.sub (ws' := (wSd cI cZ cJ sd_a w_a v_a (wr_a 0) (rd_a 0) (cu_a 0) (sp_a 0) sd ++ wSy cI cZ cJ cu_a cu ++ wOu cI cZ cJ ou_a ou)) [0, 1, 2, 3, 4, 5, 6, 7, 8, 9, 10, 45] (by decide) rfl
    have hFc := va_free (wc := (wSd cI cZ cJ sd_a w_a v_a (wr_a 0) (rd_a 0) (cu_a 0) (sp_a 0) sd ++ wSy cI cZ cJ cu_a cu ++ wOu cI cZ cJ ou_a ou)) hD hS hA [0, 1, 2, 3, 4, 5, 6, 7, 8, 9, 10, 45] rfl
    refine va_calli (w_runS (As := [.ref (sd_a 0), .int (xs (i + 1).toNatClampNeg), .ref (ou_a 0)]) (rest := []) ⟨hx, hb, hml, hown, hts⟩ (kx_Law_cls_3 l hl9 dC dI cI cZ cJ sd_a cu_a ou_a w_a v_a (wr_a 0) (rd_a 0) (sp_a 0) H.size hf) (cwH_of 3 hts t_813 rfl rfl t_53 t_811 t_812 hd_Law_cls.2 ⟨Nat.le_trans (Nat.le_of_ble_eq_true rfl) hRf, Nat.le_trans (Nat.le_of_ble_eq_true rfl) hRl⟩) ⟨kPX_blind, kPX_at hPc hK hDc hN (fun q hq => hS.2.1 q hq (fun h9 => absurd (hA2 q h9) (Nat.not_le.mpr hq))) hT hX⟩ rfl rfl hl.1 rfl (lv_room (Nat.le_of_ble_eq_true rfl)) d_law_1047 ⟨by omega, by omega⟩) hS (fun q _ h => hFc q h) hFc (fun r9 u t H1 locs ht hvm hw hB hz1 hk1 hS => ?_)
    rw [hw]
    obtain ⟨hP, hD⟩ := kQ_join (wr := (wSy cI cZ cJ sp_a sp ++ wBr cI cZ cJ w_a w_b w ++ wBr cI cZ cJ v_a v_b v ++ wWr cI cZ cJ wr_a (pb_a 0) wr ++ wRd cI cZ cJ rd_a (pb_a 0) rd ++ wPb cI cZ cJ pb_a w_a v_a pb ++ wMo cI cZ cJ mo_a mo)) (w1 := (wSd cI cZ cJ sd_a w_a v_a (wr_a 0) (rd_a 0) (cu_a 0) (sp_a 0) sd ++ wSy cI cZ cJ cu_a cu ++ wOu cI cZ cJ ou_a ou)) hP hD [0, 1, 2, 3, 4, 5, 6, 7, 8, 9, 10, 45] [11, 12, 13, 14, 15, 16, 17, 18, 19, 20, 21, 22, 23, 24, 25, 26, 27, 28, 29, 30, 31, 32, 33, 34, 35, 36, 37, 38, 39, 40, 41, 42, 43, 44, 46] rfl rfl (by decide) (by decide) ht hk1 hFc hB
    generalize H1 = H at hP hS ⊢
    have hP : va_P (dC, dI) vwCl (wSd cI cZ cJ sd_a w_a v_a (wr_a 0) (rd_a 0) (cu_a 0) (sp_a 0) sd ++ wSy cI cZ cJ cu_a cu ++ wSy cI cZ cJ sp_a sp ++ wBr cI cZ cJ w_a w_b w ++ wBr cI cZ cJ v_a v_b v ++ wWr cI cZ cJ wr_a (pb_a 0) wr ++ wRd cI cZ cJ rd_a (pb_a 0) rd ++ wPb cI cZ cJ pb_a w_a v_a pb ++ wMo cI cZ cJ mo_a mo ++ wOu cI cZ cJ ou_a ou) H := hP.sub [35, 36, 37, 38, 39, 40, 41, 42, 43, 44, 45, 0, 1, 2, 3, 4, 5, 6, 7, 8, 9, 10, 11, 12, 13, 14, 15, 16, 17, 18, 19, 20, 21, 22, 23, 24, 25, 26, 27, 28, 29, 30, 31, 32, 33, 34, 46] rfl
    have hD : va_D A (wSd cI cZ cJ sd_a w_a v_a (wr_a 0) (rd_a 0) (cu_a 0) (sp_a 0) sd ++ wSy cI cZ cJ cu_a cu ++ wSy cI cZ cJ sp_a sp ++ wBr cI cZ cJ w_a w_b w ++ wBr cI cZ cJ v_a v_b v ++ wWr cI cZ cJ wr_a (pb_a 0) wr ++ wRd cI cZ cJ rd_a (pb_a 0) rd ++ wPb cI cZ cJ pb_a w_a v_a pb ++ wMo cI cZ cJ mo_a mo ++ wOu cI cZ cJ ou_a ou) := hD.sub [35, 36, 37, 38, 39, 40, 41, 42, 43, 44, 45, 0, 1, 2, 3, 4, 5, 6, 7, 8, 9, 10, 11, 12, 13, 14, 15, 16, 17, 18, 19, 20, 21, 22, 23, 24, 25, 26, 27, 28, 29, 30, 31, 32, 33, 34, 46] (by decide) rfl
    refine lv_istore (lv' := [(5, .int 1), (0, .ref b), (1, .ref (sd_a 0)), (2, .ref (mo_a 0)), (3, .ref (ou_a 0)), (4, .int i)]) hx hb d_law_1050 hl (by decide) rfl (fun ls hl => ?_)
    refine lv_aload_n hx hb d_law_1052 rfl (lv_at hl 3 rfl) ?_
    refine lv_aload_n hx hb d_law_1053 rfl (lv_at hl 1 rfl) ?_
    refine lv_iload hx hb d_law_1054 (lv_at hl 5 rfl) ?_
    refine lv_iconst (v := 1) hx hb d_law_1056 (by decide) ?_
    refine lv_iadd hx hb d_law_1057 ?_
    refine va_sld hx hb hX0 hbl hbA hS (hin 1 (by decide) (by decide)) d_law_1058 ?_
    have hPc := hP.sub (ws' := (wMo cI cZ cJ mo_a mo)) [30, 31, 32, 33, 34, 35, 36, 37, 38, 39, 40, 41, 42, 43, 44, 45] rfl
    have hDc := hD.sub (ws' := (wMo cI cZ cJ mo_a mo)) [30, 31, 32, 33, 34, 35, 36, 37, 38, 39, 40, 41, 42, 43, 44, 45] (by decide) rfl
    have hFc := va_free (wc := (wMo cI cZ cJ mo_a mo)) hD hS hA [30, 31, 32, 33, 34, 35, 36, 37, 38, 39, 40, 41, 42, 43, 44, 45] rfl
    refine va_calli (va_runV (As := [.int (xs (i + 1).toNatClampNeg)]) (rest := []) ⟨hx, hb, hml, hown, hts⟩ (k_Model_cls l dC dI cI cZ cJ mo_a H.size hg) (cwV 1 hts (gV t_1099 t_1100 t_1101 t_63 t_1102) rfl rfl rfl hd_Model_cls ⟨Nat.le_trans (Nat.le_of_ble_eq_true rfl) hRf, Nat.le_trans (Nat.le_of_ble_eq_true rfl) hRl⟩) ⟨kP_blind, va_recv hK hP (ci := 7) (q0 := 30) rfl rfl, kP_at hPc hK hDc hN⟩ rfl rfl hl.1 rfl (lv_room (Nat.le_of_ble_eq_true rfl)) d_law_1059 ⟨by omega, by omega⟩) hS (fun q _ h => hFc q h) hFc (fun r9 u t H1 locs ht hvm hw hB hz1 hk1 hS => ?_)
    rw [hw]
    obtain ⟨hP, hD⟩ := kQ_join (wr := (wSd cI cZ cJ sd_a w_a v_a (wr_a 0) (rd_a 0) (cu_a 0) (sp_a 0) sd ++ wSy cI cZ cJ cu_a cu ++ wSy cI cZ cJ sp_a sp ++ wBr cI cZ cJ w_a w_b w ++ wBr cI cZ cJ v_a v_b v ++ wWr cI cZ cJ wr_a (pb_a 0) wr ++ wRd cI cZ cJ rd_a (pb_a 0) rd ++ wPb cI cZ cJ pb_a w_a v_a pb ++ wOu cI cZ cJ ou_a ou)) (w1 := (wMo cI cZ cJ mo_a mo')) hP hD [30, 31, 32, 33, 34, 35, 36, 37, 38, 39, 40, 41, 42, 43, 44, 45] [0, 1, 2, 3, 4, 5, 6, 7, 8, 9, 10, 11, 12, 13, 14, 15, 16, 17, 18, 19, 20, 21, 22, 23, 24, 25, 26, 27, 28, 29, 46] rfl rfl (by decide) (by decide) ht hk1 hFc hB
    generalize H1 = H at hP hS ⊢
    have hP : va_P (dC, dI) vwCl (wSd cI cZ cJ sd_a w_a v_a (wr_a 0) (rd_a 0) (cu_a 0) (sp_a 0) sd ++ wSy cI cZ cJ cu_a cu ++ wSy cI cZ cJ sp_a sp ++ wBr cI cZ cJ w_a w_b w ++ wBr cI cZ cJ v_a v_b v ++ wWr cI cZ cJ wr_a (pb_a 0) wr ++ wRd cI cZ cJ rd_a (pb_a 0) rd ++ wPb cI cZ cJ pb_a w_a v_a pb ++ wMo cI cZ cJ mo_a mo' ++ wOu cI cZ cJ ou_a ou) H := hP.sub [0, 1, 2, 3, 4, 5, 6, 7, 8, 9, 10, 11, 12, 13, 14, 15, 16, 17, 18, 19, 20, 21, 22, 23, 24, 25, 26, 27, 28, 29, 31, 32, 33, 34, 35, 36, 37, 38, 39, 40, 41, 42, 43, 44, 45, 46, 30] rfl
    have hD : va_D A (wSd cI cZ cJ sd_a w_a v_a (wr_a 0) (rd_a 0) (cu_a 0) (sp_a 0) sd ++ wSy cI cZ cJ cu_a cu ++ wSy cI cZ cJ sp_a sp ++ wBr cI cZ cJ w_a w_b w ++ wBr cI cZ cJ v_a v_b v ++ wWr cI cZ cJ wr_a (pb_a 0) wr ++ wRd cI cZ cJ rd_a (pb_a 0) rd ++ wPb cI cZ cJ pb_a w_a v_a pb ++ wMo cI cZ cJ mo_a mo' ++ wOu cI cZ cJ ou_a ou) := hD.sub [0, 1, 2, 3, 4, 5, 6, 7, 8, 9, 10, 11, 12, 13, 14, 15, 16, 17, 18, 19, 20, 21, 22, 23, 24, 25, 26, 27, 28, 29, 31, 32, 33, 34, 35, 36, 37, 38, 39, 40, 41, 42, 43, 44, 45, 46, 30] (by decide) rfl
    refine lv_istore (lv' := [(6, .int q), (5, .int 1), (0, .ref b), (1, .ref (sd_a 0)), (2, .ref (mo_a 0)), (3, .ref (ou_a 0)), (4, .int i)]) hx hb d_law_1062 hl (by decide) rfl (fun ls hl => ?_)
    refine lv_aload_n hx hb d_law_1064 rfl (lv_at hl 4 rfl) ?_
    have hth : f_Model_thrown mo' = some (Mo_code mo') := rfl
    have hPc := hP.sub (ws' := (wMo cI cZ cJ mo_a mo')) [30, 31, 32, 33, 34, 35, 36, 37, 38, 39, 40, 41, 42, 43, 44, 45] rfl
    have hDc := hD.sub (ws' := (wMo cI cZ cJ mo_a mo')) [30, 31, 32, 33, 34, 35, 36, 37, 38, 39, 40, 41, 42, 43, 44, 45] (by decide) rfl
    have hFc := va_free (wc := (wMo cI cZ cJ mo_a mo')) hD hS hA [30, 31, 32, 33, 34, 35, 36, 37, 38, 39, 40, 41, 42, 43, 44, 45] rfl
    refine va_calli (va_runV (As := []) (rest := []) ⟨hx, hb, hml, hown, hts⟩ (k_Model_thrown l dC dI cI cZ cJ mo_a H.size hth) (cwV 0 hts (gV t_906 t_907 t_908 t_63 t_909) rfl rfl rfl hd_Model_thrown ⟨Nat.le_trans (Nat.le_of_ble_eq_true rfl) hRf, Nat.le_trans (Nat.le_of_ble_eq_true rfl) hRl⟩) ⟨kP_blind, va_recv hK hP (ci := 7) (q0 := 30) rfl rfl, kP_at hPc hK hDc hN⟩ rfl rfl hl.1 rfl (lv_room (Nat.le_of_ble_eq_true rfl)) d_law_1065 ⟨by omega, by omega⟩) hS (fun q _ h => hFc q h) hFc (fun r9 u t H1 locs ht hvm hw hB hz1 hk1 hS => ?_)
    rw [hw]
    obtain ⟨hP, hD⟩ := kQ_join (wr := (wSd cI cZ cJ sd_a w_a v_a (wr_a 0) (rd_a 0) (cu_a 0) (sp_a 0) sd ++ wSy cI cZ cJ cu_a cu ++ wSy cI cZ cJ sp_a sp ++ wBr cI cZ cJ w_a w_b w ++ wBr cI cZ cJ v_a v_b v ++ wWr cI cZ cJ wr_a (pb_a 0) wr ++ wRd cI cZ cJ rd_a (pb_a 0) rd ++ wPb cI cZ cJ pb_a w_a v_a pb ++ wOu cI cZ cJ ou_a ou)) (w1 := (wMo cI cZ cJ mo_a mo')) hP hD [30, 31, 32, 33, 34, 35, 36, 37, 38, 39, 40, 41, 42, 43, 44, 45] [0, 1, 2, 3, 4, 5, 6, 7, 8, 9, 10, 11, 12, 13, 14, 15, 16, 17, 18, 19, 20, 21, 22, 23, 24, 25, 26, 27, 28, 29, 46] rfl rfl (by decide) (by decide) ht hk1 hFc hB
    generalize H1 = H at hP hS ⊢
    have hP : va_P (dC, dI) vwCl (wSd cI cZ cJ sd_a w_a v_a (wr_a 0) (rd_a 0) (cu_a 0) (sp_a 0) sd ++ wSy cI cZ cJ cu_a cu ++ wSy cI cZ cJ sp_a sp ++ wBr cI cZ cJ w_a w_b w ++ wBr cI cZ cJ v_a v_b v ++ wWr cI cZ cJ wr_a (pb_a 0) wr ++ wRd cI cZ cJ rd_a (pb_a 0) rd ++ wPb cI cZ cJ pb_a w_a v_a pb ++ wMo cI cZ cJ mo_a mo' ++ wOu cI cZ cJ ou_a ou) H := hP.sub [0, 1, 2, 3, 4, 5, 6, 7, 8, 9, 10, 11, 12, 13, 14, 15, 16, 17, 18, 19, 20, 21, 22, 23, 24, 25, 26, 27, 28, 29, 31, 32, 33, 34, 35, 36, 37, 38, 39, 40, 41, 42, 43, 44, 45, 46, 30] rfl
    have hD : va_D A (wSd cI cZ cJ sd_a w_a v_a (wr_a 0) (rd_a 0) (cu_a 0) (sp_a 0) sd ++ wSy cI cZ cJ cu_a cu ++ wSy cI cZ cJ sp_a sp ++ wBr cI cZ cJ w_a w_b w ++ wBr cI cZ cJ v_a v_b v ++ wWr cI cZ cJ wr_a (pb_a 0) wr ++ wRd cI cZ cJ rd_a (pb_a 0) rd ++ wPb cI cZ cJ pb_a w_a v_a pb ++ wMo cI cZ cJ mo_a mo' ++ wOu cI cZ cJ ou_a ou) := hD.sub [0, 1, 2, 3, 4, 5, 6, 7, 8, 9, 10, 11, 12, 13, 14, 15, 16, 17, 18, 19, 20, 21, 22, 23, 24, 25, 26, 27, 28, 29, 31, 32, 33, 34, 35, 36, 37, 38, 39, 40, 41, 42, 43, 44, 45, 46, 30] (by decide) rfl
    refine lv_iload hx hb d_law_1068 (lv_at hl 1 rfl) ?_
    refine lv_icmp_eq (tgt := 1075) hx hb d_law_1070 (by decide) (fun _ => ?_) (fun h9 => absurd hcode h9)
    refine lv_iload hx hb d_law_1075 (lv_at hl 1 rfl) ?_
    refine lv_if_ne (tgt := 1092) hx hb d_law_1077 (by decide) (fun _ => ?_) (fun h9 => absurd h9 (by decide))
    refine lv_goto (tgt := 1131) hx hb d_law_1092 (by decide) ?_
    have hl := lv_sub (l' := [(0, .ref b), (1, .ref (sd_a 0)), (2, .ref (mo_a 0)), (3, .ref (ou_a 0)), (4, .int i)]) hl [2, 3, 4, 5, 6] rfl
    refine W.widen (k := j + 1 + Br_byL w + Br_byL v) (n := 6 * (j + 1) + 2 * Br_byL w + 2 * Br_byL v) (by omega) (by omega) ?_
    exact hk _ _ _ cu_a sp_a w_b v_b cu sp w v wr rd pb mo' ou hrel hP hD hS hl

set_option maxHeartbeats 8000000 in
set_option maxRecDepth 100000 in
theorem L_P_count {p : Program} {l : Launch} {e : Env} {R : Room} {s : State} {m : MethodId} {args : Array Value} {below : List Frame} {meth : Method} {c : Code} {Q : State → Prop} {A : Nat → Prop} {dC : Nat → ClassId} {dI : Nat → Nat → Nat} {cI cZ cJ : ClassId} {sd_a cu_a sp_a : Nat → Nat} {w_a w_b v_a v_b : Nat} {wr_a rd_a pb_a mo_a ou_a : Nat → Nat} {sd : Sd} {cu sp : Sy} {w v : Br} {wr : Wr} {rd : Rd} {pb : Pb} {mo : Mo} {ou : Ou} {b L : Nat} {xs : Nat → Int32} {i : Int32} {j : Nat} {Rl : Sd → Sy → Sy → Br → Br → Wr → Rd → Pb → Mo → Prop} (hl9 : l.stackTraces = false) (C0 : lcx p c m s args R (dC, dI) (TYS cI cZ cJ) A b L xs i j) (hRb : ∀ sd cu sp w v wr rd pb mo, Rl sd cu sp w v wr rd pb mo → Br_byL w ≤ 40000 ∧ Br_byL v ≤ 40000) (hR0 : Rl sd cu sp w v wr rd pb mo) (hT0 : T_P_count Rl sd cu sp w v wr rd pb mo (xs (i + 1).toNatClampNeg))
    (hk : ∀ (H : Heap) (locs : List Loc) (ls : Array Slot) (cu_a sp_a : Nat → Nat) (w_b v_b : Nat) (cu sp : Sy) (w v : Br) (wr : Wr) (rd : Rd) (pb : Pb) (mo : Mo) (ou : Ou), Rl sd cu sp w v wr rd pb mo → va_P (dC, dI) vwCl (wSd cI cZ cJ sd_a w_a v_a (wr_a 0) (rd_a 0) (cu_a 0) (sp_a 0) sd ++ wSy cI cZ cJ cu_a cu ++ wSy cI cZ cJ sp_a sp ++ wBr cI cZ cJ w_a w_b w ++ wBr cI cZ cJ v_a v_b v ++ wWr cI cZ cJ wr_a (pb_a 0) wr ++ wRd cI cZ cJ rd_a (pb_a 0) rd ++ wPb cI cZ cJ pb_a w_a v_a pb ++ wMo cI cZ cJ mo_a mo ++ wOu cI cZ cJ ou_a ou) H → va_D A (wSd cI cZ cJ sd_a w_a v_a (wr_a 0) (rd_a 0) (cu_a 0) (sp_a 0) sd ++ wSy cI cZ cJ cu_a cu ++ wSy cI cZ cJ sp_a sp ++ wBr cI cZ cJ w_a w_b w ++ wBr cI cZ cJ v_a v_b v ++ wWr cI cZ cJ wr_a (pb_a 0) wr ++ wRd cI cZ cJ rd_a (pb_a 0) rd ++ wPb cI cZ cJ pb_a w_a v_a pb ++ wMo cI cZ cJ mo_a mo ++ wOu cI cZ cJ ou_a ou) → va_S A s.heap H locs → lv_has ls 7 [(0, .ref b), (1, .ref (sd_a 0)), (2, .ref (mo_a 0)), (3, .ref (ou_a 0)), (4, .int i)] → W p l e R s m args below meth c H locs (j + 1 + Br_byL w + Br_byL v) (6 * (j + 1) + 2 * Br_byL w + 2 * Br_byL v) Q (F0 m 1131 ls []))
    {H : Heap} {locs : List Loc} {ls : Array Slot} (hP : va_P (dC, dI) vwCl (wSd cI cZ cJ sd_a w_a v_a (wr_a 0) (rd_a 0) (cu_a 0) (sp_a 0) sd ++ wSy cI cZ cJ cu_a cu ++ wSy cI cZ cJ sp_a sp ++ wBr cI cZ cJ w_a w_b w ++ wBr cI cZ cJ v_a v_b v ++ wWr cI cZ cJ wr_a (pb_a 0) wr ++ wRd cI cZ cJ rd_a (pb_a 0) rd ++ wPb cI cZ cJ pb_a w_a v_a pb ++ wMo cI cZ cJ mo_a mo ++ wOu cI cZ cJ ou_a ou) H) (hD : va_D A (wSd cI cZ cJ sd_a w_a v_a (wr_a 0) (rd_a 0) (cu_a 0) (sp_a 0) sd ++ wSy cI cZ cJ cu_a cu ++ wSy cI cZ cJ sp_a sp ++ wBr cI cZ cJ w_a w_b w ++ wBr cI cZ cJ v_a v_b v ++ wWr cI cZ cJ wr_a (pb_a 0) wr ++ wRd cI cZ cJ rd_a (pb_a 0) rd ++ wPb cI cZ cJ pb_a w_a v_a pb ++ wMo cI cZ cJ mo_a mo ++ wOu cI cZ cJ ou_a ou)) (hS : va_S A s.heap H locs) (hl : lv_has ls 7 [(0, .ref b), (1, .ref (sd_a 0)), (2, .ref (mo_a 0)), (3, .ref (ou_a 0)), (4, .int i)]) : W p l e R s m args below meth c H locs (j + Br_byL w + Br_byL v) (6 * j + 2 * Br_byL w + 2 * Br_byL v) Q (F0 m 1095 ls []) := by
  obtain ⟨hx, hb, hml, hown, hts, hK, hA, hA2, hRf, hRl, hN, hT, hX, hX0, hbl, hin, hj, hRc, hRs⟩ := C0
  have hbA : ¬ A b := fun h => absurd (hA2 b h) (Nat.not_le.mpr hbl)
  obtain ⟨hw0, hv0⟩ := hRb _ _ _ _ _ _ _ _ _ hR0
  unfold T_P_count at hT0
  obtain ⟨r, mo', hf, hg, hrel⟩ := hT0
  refine lv_aload_n hx hb d_law_1095 rfl (lv_at hl 1 rfl) ?_
  refine lv_aload_n hx hb d_law_1096 rfl (lv_at hl 0 rfl) ?_
  refine lv_iload hx hb d_law_1097 (lv_at hl 4 rfl) ?_
  refine lv_iconst (v := 1) hx hb d_law_1099 (by decide) ?_
  refine lv_iadd hx hb d_law_1100 ?_
  refine va_sld hx hb hX0 hbl hbA hS (hin 1 (by decide) (by decide)) d_law_1101 ?_
  have hPc := hP.sub (ws' := (wSd cI cZ cJ sd_a w_a v_a (wr_a 0) (rd_a 0) (cu_a 0) (sp_a 0) sd ++ wSy cI cZ cJ cu_a cu ++ wBr cI cZ cJ w_a w_b w ++ wBr cI cZ cJ v_a v_b v)) [0, 1, 2, 3, 4, 5, 6, 7, 8, 9, 10, 21, 22, 23, 24] rfl
  have hDc := hD.sub (ws' := (wSd cI cZ cJ sd_a w_a v_a (wr_a 0) (rd_a 0) (cu_a 0) (sp_a 0) sd ++ wSy cI cZ cJ cu_a cu ++ wBr cI cZ cJ w_a w_b w ++ wBr cI cZ cJ v_a v_b v)) [0, 1, 2, 3, 4, 5, 6, 7, 8, 9, 10, 21, 22, 23, 24] (by decide) rfl
  have hFc := va_free (wc := (wSd cI cZ cJ sd_a w_a v_a (wr_a 0) (rd_a 0) (cu_a 0) (sp_a 0) sd ++ wSy cI cZ cJ cu_a cu ++ wBr cI cZ cJ w_a w_b w ++ wBr cI cZ cJ v_a v_b v)) hD hS hA [0, 1, 2, 3, 4, 5, 6, 7, 8, 9, 10, 21, 22, 23, 24] rfl
  refine va_calli (va_runV (As := [.int (xs (i + 1).toNatClampNeg)]) (rest := []) ⟨hx, hb, hml, hown, hts⟩ (k_SD_count l dC dI cI cZ cJ sd_a cu_a w_a w_b v_a v_b (wr_a 0) (rd_a 0) (sp_a 0) H.size hf) (cwV 1 hts (gV t_546 t_547 t_548 t_54 t_549) rfl rfl rfl hd_SD_count ⟨Nat.le_trans (Nat.le_of_ble_eq_true rfl) hRf, Nat.le_trans (Nat.le_of_ble_eq_true rfl) hRl⟩) ⟨kP_blind, va_recv hK hP (ci := 6) (q0 := 0) rfl rfl, kP_at hPc hK hDc hN⟩ rfl rfl hl.1 rfl (lv_room (Nat.le_of_ble_eq_true rfl)) d_law_1102 ⟨by omega, by omega⟩) hS (fun q _ h => hFc q h) hFc (fun r9 u t H1 locs ht hvm hw hB hz1 hk1 hS => ?_)
  rw [hw]
  obtain ⟨hP, hD⟩ := kQ_join (wr := (wSy cI cZ cJ sp_a sp ++ wWr cI cZ cJ wr_a (pb_a 0) wr ++ wRd cI cZ cJ rd_a (pb_a 0) rd ++ wPb cI cZ cJ pb_a w_a v_a pb ++ wMo cI cZ cJ mo_a mo ++ wOu cI cZ cJ ou_a ou)) (w1 := (wSd cI cZ cJ sd_a w_a v_a (wr_a 0) (rd_a 0) (cu_a 0) (sp_a 0) sd ++ wSy cI cZ cJ cu_a cu ++ wBr cI cZ cJ w_a w_b w ++ wBr cI cZ cJ v_a v_b v)) hP hD [0, 1, 2, 3, 4, 5, 6, 7, 8, 9, 10, 21, 22, 23, 24] [11, 12, 13, 14, 15, 16, 17, 18, 19, 20, 25, 26, 27, 28, 29, 30, 31, 32, 33, 34, 35, 36, 37, 38, 39, 40, 41, 42, 43, 44, 45, 46] rfl rfl (by decide) (by decide) ht hk1 hFc hB
  generalize H1 = H at hP hS ⊢
  have hP : va_P (dC, dI) vwCl (wSd cI cZ cJ sd_a w_a v_a (wr_a 0) (rd_a 0) (cu_a 0) (sp_a 0) sd ++ wSy cI cZ cJ cu_a cu ++ wSy cI cZ cJ sp_a sp ++ wBr cI cZ cJ w_a w_b w ++ wBr cI cZ cJ v_a v_b v ++ wWr cI cZ cJ wr_a (pb_a 0) wr ++ wRd cI cZ cJ rd_a (pb_a 0) rd ++ wPb cI cZ cJ pb_a w_a v_a pb ++ wMo cI cZ cJ mo_a mo ++ wOu cI cZ cJ ou_a ou) H := hP.sub [32, 33, 34, 35, 36, 37, 38, 39, 40, 41, 42, 0, 1, 2, 3, 4, 5, 6, 7, 8, 9, 43, 44, 45, 46, 10, 11, 12, 13, 14, 15, 16, 17, 18, 19, 20, 21, 22, 23, 24, 25, 26, 27, 28, 29, 30, 31] rfl
  have hD : va_D A (wSd cI cZ cJ sd_a w_a v_a (wr_a 0) (rd_a 0) (cu_a 0) (sp_a 0) sd ++ wSy cI cZ cJ cu_a cu ++ wSy cI cZ cJ sp_a sp ++ wBr cI cZ cJ w_a w_b w ++ wBr cI cZ cJ v_a v_b v ++ wWr cI cZ cJ wr_a (pb_a 0) wr ++ wRd cI cZ cJ rd_a (pb_a 0) rd ++ wPb cI cZ cJ pb_a w_a v_a pb ++ wMo cI cZ cJ mo_a mo ++ wOu cI cZ cJ ou_a ou) := hD.sub [32, 33, 34, 35, 36, 37, 38, 39, 40, 41, 42, 0, 1, 2, 3, 4, 5, 6, 7, 8, 9, 43, 44, 45, 46, 10, 11, 12, 13, 14, 15, 16, 17, 18, 19, 20, 21, 22, 23, 24, 25, 26, 27, 28, 29, 30, 31] (by decide) rfl
  refine lv_aload_n hx hb d_law_1105 rfl (lv_at hl 2 rfl) ?_
  refine lv_aload_n hx hb d_law_1106 rfl (lv_at hl 0 rfl) ?_
  refine lv_iload hx hb d_law_1107 (lv_at hl 4 rfl) ?_
  refine lv_iconst (v := 1) hx hb d_law_1109 (by decide) ?_
  refine lv_iadd hx hb d_law_1110 ?_
  refine va_sld hx hb hX0 hbl hbA hS (hin 1 (by decide) (by decide)) d_law_1111 ?_
  have hPc := hP.sub (ws' := (wMo cI cZ cJ mo_a mo)) [30, 31, 32, 33, 34, 35, 36, 37, 38, 39, 40, 41, 42, 43, 44, 45] rfl
  have hDc := hD.sub (ws' := (wMo cI cZ cJ mo_a mo)) [30, 31, 32, 33, 34, 35, 36, 37, 38, 39, 40, 41, 42, 43, 44, 45] (by decide) rfl
  have hFc := va_free (wc := (wMo cI cZ cJ mo_a mo)) hD hS hA [30, 31, 32, 33, 34, 35, 36, 37, 38, 39, 40, 41, 42, 43, 44, 45] rfl
  refine va_calli (va_runV (As := [.int (xs (i + 1).toNatClampNeg)]) (rest := [.int r]) ⟨hx, hb, hml, hown, hts⟩ (k_Model_count l dC dI cI cZ cJ mo_a H.size hg) (cwV 1 hts (gV t_1103 t_1104 t_1105 t_63 t_1106) rfl rfl rfl hd_Model_count ⟨Nat.le_trans (Nat.le_of_ble_eq_true rfl) hRf, Nat.le_trans (Nat.le_of_ble_eq_true rfl) hRl⟩) ⟨kP_blind, va_recv hK hP (ci := 7) (q0 := 30) rfl rfl, kP_at hPc hK hDc hN⟩ rfl rfl hl.1 rfl (lv_room (Nat.le_of_ble_eq_true rfl)) d_law_1112 ⟨by omega, by omega⟩) hS (fun q _ h => hFc q h) hFc (fun r9 u t H1 locs ht hvm hw hB hz1 hk1 hS => ?_)
  rw [hw]
  obtain ⟨hP, hD⟩ := kQ_join (wr := (wSd cI cZ cJ sd_a w_a v_a (wr_a 0) (rd_a 0) (cu_a 0) (sp_a 0) sd ++ wSy cI cZ cJ cu_a cu ++ wSy cI cZ cJ sp_a sp ++ wBr cI cZ cJ w_a w_b w ++ wBr cI cZ cJ v_a v_b v ++ wWr cI cZ cJ wr_a (pb_a 0) wr ++ wRd cI cZ cJ rd_a (pb_a 0) rd ++ wPb cI cZ cJ pb_a w_a v_a pb ++ wOu cI cZ cJ ou_a ou)) (w1 := (wMo cI cZ cJ mo_a mo')) hP hD [30, 31, 32, 33, 34, 35, 36, 37, 38, 39, 40, 41, 42, 43, 44, 45] [0, 1, 2, 3, 4, 5, 6, 7, 8, 9, 10, 11, 12, 13, 14, 15, 16, 17, 18, 19, 20, 21, 22, 23, 24, 25, 26, 27, 28, 29, 46] rfl rfl (by decide) (by decide) ht hk1 hFc hB
  generalize H1 = H at hP hS ⊢
  have hP : va_P (dC, dI) vwCl (wSd cI cZ cJ sd_a w_a v_a (wr_a 0) (rd_a 0) (cu_a 0) (sp_a 0) sd ++ wSy cI cZ cJ cu_a cu ++ wSy cI cZ cJ sp_a sp ++ wBr cI cZ cJ w_a w_b w ++ wBr cI cZ cJ v_a v_b v ++ wWr cI cZ cJ wr_a (pb_a 0) wr ++ wRd cI cZ cJ rd_a (pb_a 0) rd ++ wPb cI cZ cJ pb_a w_a v_a pb ++ wMo cI cZ cJ mo_a mo' ++ wOu cI cZ cJ ou_a ou) H := hP.sub [0, 1, 2, 3, 4, 5, 6, 7, 8, 9, 10, 11, 12, 13, 14, 15, 16, 17, 18, 19, 20, 21, 22, 23, 24, 25, 26, 27, 28, 29, 31, 32, 33, 34, 35, 36, 37, 38, 39, 40, 41, 42, 43, 44, 45, 46, 30] rfl
  have hD : va_D A (wSd cI cZ cJ sd_a w_a v_a (wr_a 0) (rd_a 0) (cu_a 0) (sp_a 0) sd ++ wSy cI cZ cJ cu_a cu ++ wSy cI cZ cJ sp_a sp ++ wBr cI cZ cJ w_a w_b w ++ wBr cI cZ cJ v_a v_b v ++ wWr cI cZ cJ wr_a (pb_a 0) wr ++ wRd cI cZ cJ rd_a (pb_a 0) rd ++ wPb cI cZ cJ pb_a w_a v_a pb ++ wMo cI cZ cJ mo_a mo' ++ wOu cI cZ cJ ou_a ou) := hD.sub [0, 1, 2, 3, 4, 5, 6, 7, 8, 9, 10, 11, 12, 13, 14, 15, 16, 17, 18, 19, 20, 21, 22, 23, 24, 25, 26, 27, 28, 29, 31, 32, 33, 34, 35, 36, 37, 38, 39, 40, 41, 42, 43, 44, 45, 46, 30] (by decide) rfl
  refine lv_icmp_eq (tgt := 1131) hx hb d_law_1115 (by decide) (fun _ => ?_) (fun h9 => absurd rfl h9)
  have hl := lv_sub (l' := [(0, .ref b), (1, .ref (sd_a 0)), (2, .ref (mo_a 0)), (3, .ref (ou_a 0)), (4, .int i)]) hl [0, 1, 2, 3, 4] rfl
  refine W.widen (k := j + 1 + Br_byL w + Br_byL v) (n := 6 * (j + 1) + 2 * Br_byL w + 2 * Br_byL v) (by omega) (by omega) ?_
  exact hk _ _ _ cu_a sp_a w_b v_b cu sp w v wr rd pb mo' ou hrel hP hD hS hl

set_option maxHeartbeats 8000000 in
set_option maxRecDepth 100000 in
theorem L_P_clear {p : Program} {l : Launch} {e : Env} {R : Room} {s : State} {m : MethodId} {args : Array Value} {below : List Frame} {meth : Method} {c : Code} {Q : State → Prop} {A : Nat → Prop} {dC : Nat → ClassId} {dI : Nat → Nat → Nat} {cI cZ cJ : ClassId} {sd_a cu_a sp_a : Nat → Nat} {w_a w_b v_a v_b : Nat} {wr_a rd_a pb_a mo_a ou_a : Nat → Nat} {sd : Sd} {cu sp : Sy} {w v : Br} {wr : Wr} {rd : Rd} {pb : Pb} {mo : Mo} {ou : Ou} {b L : Nat} {xs : Nat → Int32} {i : Int32} {j : Nat} {Rl : Sd → Sy → Sy → Br → Br → Wr → Rd → Pb → Mo → Prop} (hl9 : l.stackTraces = false) (C0 : lcx p c m s args R (dC, dI) (TYS cI cZ cJ) A b L xs i j) (hRb : ∀ sd cu sp w v wr rd pb mo, Rl sd cu sp w v wr rd pb mo → Br_byL w ≤ 40000 ∧ Br_byL v ≤ 40000) (hR0 : Rl sd cu sp w v wr rd pb mo) (hT0 : T_P_clear Rl sd cu sp w v wr rd pb mo)
    (hk : ∀ (H : Heap) (locs : List Loc) (ls : Array Slot) (cu_a sp_a : Nat → Nat) (w_b v_b : Nat) (cu sp : Sy) (w v : Br) (wr : Wr) (rd : Rd) (pb : Pb) (mo : Mo) (ou : Ou), Rl sd cu sp w v wr rd pb mo → va_P (dC, dI) vwCl (wSd cI cZ cJ sd_a w_a v_a (wr_a 0) (rd_a 0) (cu_a 0) (sp_a 0) sd ++ wSy cI cZ cJ cu_a cu ++ wSy cI cZ cJ sp_a sp ++ wBr cI cZ cJ w_a w_b w ++ wBr cI cZ cJ v_a v_b v ++ wWr cI cZ cJ wr_a (pb_a 0) wr ++ wRd cI cZ cJ rd_a (pb_a 0) rd ++ wPb cI cZ cJ pb_a w_a v_a pb ++ wMo cI cZ cJ mo_a mo ++ wOu cI cZ cJ ou_a ou) H → va_D A (wSd cI cZ cJ sd_a w_a v_a (wr_a 0) (rd_a 0) (cu_a 0) (sp_a 0) sd ++ wSy cI cZ cJ cu_a cu ++ wSy cI cZ cJ sp_a sp ++ wBr cI cZ cJ w_a w_b w ++ wBr cI cZ cJ v_a v_b v ++ wWr cI cZ cJ wr_a (pb_a 0) wr ++ wRd cI cZ cJ rd_a (pb_a 0) rd ++ wPb cI cZ cJ pb_a w_a v_a pb ++ wMo cI cZ cJ mo_a mo ++ wOu cI cZ cJ ou_a ou) → va_S A s.heap H locs → lv_has ls 7 [(0, .ref b), (1, .ref (sd_a 0)), (2, .ref (mo_a 0)), (3, .ref (ou_a 0)), (4, .int i)] → W p l e R s m args below meth c H locs (j + 1 + Br_byL w + Br_byL v) (6 * (j + 1) + 2 * Br_byL w + 2 * Br_byL v) Q (F0 m 1131 ls []))
    {H : Heap} {locs : List Loc} {ls : Array Slot} (hP : va_P (dC, dI) vwCl (wSd cI cZ cJ sd_a w_a v_a (wr_a 0) (rd_a 0) (cu_a 0) (sp_a 0) sd ++ wSy cI cZ cJ cu_a cu ++ wSy cI cZ cJ sp_a sp ++ wBr cI cZ cJ w_a w_b w ++ wBr cI cZ cJ v_a v_b v ++ wWr cI cZ cJ wr_a (pb_a 0) wr ++ wRd cI cZ cJ rd_a (pb_a 0) rd ++ wPb cI cZ cJ pb_a w_a v_a pb ++ wMo cI cZ cJ mo_a mo ++ wOu cI cZ cJ ou_a ou) H) (hD : va_D A (wSd cI cZ cJ sd_a w_a v_a (wr_a 0) (rd_a 0) (cu_a 0) (sp_a 0) sd ++ wSy cI cZ cJ cu_a cu ++ wSy cI cZ cJ sp_a sp ++ wBr cI cZ cJ w_a w_b w ++ wBr cI cZ cJ v_a v_b v ++ wWr cI cZ cJ wr_a (pb_a 0) wr ++ wRd cI cZ cJ rd_a (pb_a 0) rd ++ wPb cI cZ cJ pb_a w_a v_a pb ++ wMo cI cZ cJ mo_a mo ++ wOu cI cZ cJ ou_a ou)) (hS : va_S A s.heap H locs) (hl : lv_has ls 7 [(0, .ref b), (1, .ref (sd_a 0)), (2, .ref (mo_a 0)), (3, .ref (ou_a 0)), (4, .int i)]) : W p l e R s m args below meth c H locs (j + Br_byL w + Br_byL v) (6 * j + 2 * Br_byL w + 2 * Br_byL v) Q (F0 m 1120 ls []) := by
  obtain ⟨hx, hb, hml, hown, hts, hK, hA, hA2, hRf, hRl, hN, hT, hX, hX0, hbl, hin, hj, hRc, hRs⟩ := C0
  have hbA : ¬ A b := fun h => absurd (hA2 b h) (Nat.not_le.mpr hbl)
  obtain ⟨hw0, hv0⟩ := hRb _ _ _ _ _ _ _ _ _ hR0
  unfold T_P_clear at hT0
  obtain ⟨cu', w', v', mo', hf, hg, hlw, hlv, hrel⟩ := hT0
  refine lv_aload_n hx hb d_law_1120 rfl (lv_at hl 1 rfl) ?_
  have hPc := hP.sub (ws' := (wSd cI cZ cJ sd_a w_a v_a (wr_a 0) (rd_a 0) (cu_a 0) (sp_a 0) sd ++ wSy cI cZ cJ cu_a cu ++ wBr cI cZ cJ w_a w_b w ++ wBr cI cZ cJ v_a v_b v)) [0, 1, 2, 3, 4, 5, 6, 7, 8, 9, 10, 21, 22, 23, 24] rfl
  have hDc := hD.sub (ws' := (wSd cI cZ cJ sd_a w_a v_a (wr_a 0) (rd_a 0) (cu_a 0) (sp_a 0) sd ++ wSy cI cZ cJ cu_a cu ++ wBr cI cZ cJ w_a w_b w ++ wBr cI cZ cJ v_a v_b v)) [0, 1, 2, 3, 4, 5, 6, 7, 8, 9, 10, 21, 22, 23, 24] (by decide) rfl
  have hFc := va_free (wc := (wSd cI cZ cJ sd_a w_a v_a (wr_a 0) (rd_a 0) (cu_a 0) (sp_a 0) sd ++ wSy cI cZ cJ cu_a cu ++ wBr cI cZ cJ w_a w_b w ++ wBr cI cZ cJ v_a v_b v)) hD hS hA [0, 1, 2, 3, 4, 5, 6, 7, 8, 9, 10, 21, 22, 23, 24] rfl
  refine va_callv (va_runV (As := []) (rest := []) ⟨hx, hb, hml, hown, hts⟩ (k_SD_clear l dC dI cI cZ cJ sd_a cu_a w_a w_b v_a v_b (wr_a 0) (rd_a 0) (sp_a 0) H.size hf) (cwV 0 hts (gV t_550 t_551 t_552 t_54 t_553) rfl rfl rfl hd_SD_clear ⟨Nat.le_trans (Nat.le_of_ble_eq_true rfl) hRf, Nat.le_trans (Nat.le_of_ble_eq_true rfl) hRl⟩) ⟨kP_blind, va_recv hK hP (ci := 6) (q0 := 0) rfl rfl, kP_at hPc hK hDc hN⟩ rfl rfl hl.1 rfl (lv_room (Nat.le_of_ble_eq_true rfl)) d_law_1121 ⟨by omega, by omega⟩) hS (fun q _ h => hFc q h) hFc (fun u t H1 locs ht hvm hw hB hz1 hk1 hS => ?_)
  obtain ⟨hP, hD⟩ := kQ_join (wr := (wSy cI cZ cJ sp_a sp ++ wWr cI cZ cJ wr_a (pb_a 0) wr ++ wRd cI cZ cJ rd_a (pb_a 0) rd ++ wPb cI cZ cJ pb_a w_a v_a pb ++ wMo cI cZ cJ mo_a mo ++ wOu cI cZ cJ ou_a ou)) (w1 := (wSd cI cZ cJ sd_a w_a v_a (wr_a 0) (rd_a 0) (cu_a 0) (sp_a 0) sd ++ wSy cI cZ cJ cu_a cu' ++ wBr cI cZ cJ w_a w_b w' ++ wBr cI cZ cJ v_a v_b v')) hP hD [0, 1, 2, 3, 4, 5, 6, 7, 8, 9, 10, 21, 22, 23, 24] [11, 12, 13, 14, 15, 16, 17, 18, 19, 20, 25, 26, 27, 28, 29, 30, 31, 32, 33, 34, 35, 36, 37, 38, 39, 40, 41, 42, 43, 44, 45, 46] rfl rfl (by decide) (by decide) ht hk1 hFc hB
  generalize H1 = H at hP hS ⊢
  have hP : va_P (dC, dI) vwCl (wSd cI cZ cJ sd_a w_a v_a (wr_a 0) (rd_a 0) (cu_a 0) (sp_a 0) sd ++ wSy cI cZ cJ cu_a cu' ++ wSy cI cZ cJ sp_a sp ++ wBr cI cZ cJ w_a w_b w' ++ wBr cI cZ cJ v_a v_b v' ++ wWr cI cZ cJ wr_a (pb_a 0) wr ++ wRd cI cZ cJ rd_a (pb_a 0) rd ++ wPb cI cZ cJ pb_a w_a v_a pb ++ wMo cI cZ cJ mo_a mo ++ wOu cI cZ cJ ou_a ou) H := hP.sub [32, 33, 34, 35, 36, 37, 38, 39, 40, 41, 42, 0, 1, 2, 3, 4, 5, 6, 7, 8, 9, 43, 44, 45, 46, 10, 11, 12, 13, 14, 15, 16, 17, 18, 19, 20, 21, 22, 23, 24, 25, 26, 27, 28, 29, 30, 31] rfl
  have hD : va_D A (wSd cI cZ cJ sd_a w_a v_a (wr_a 0) (rd_a 0) (cu_a 0) (sp_a 0) sd ++ wSy cI cZ cJ cu_a cu' ++ wSy cI cZ cJ sp_a sp ++ wBr cI cZ cJ w_a w_b w' ++ wBr cI cZ cJ v_a v_b v' ++ wWr cI cZ cJ wr_a (pb_a 0) wr ++ wRd cI cZ cJ rd_a (pb_a 0) rd ++ wPb cI cZ cJ pb_a w_a v_a pb ++ wMo cI cZ cJ mo_a mo ++ wOu cI cZ cJ ou_a ou) := hD.sub [32, 33, 34, 35, 36, 37, 38, 39, 40, 41, 42, 0, 1, 2, 3, 4, 5, 6, 7, 8, 9, 43, 44, 45, 46, 10, 11, 12, 13, 14, 15, 16, 17, 18, 19, 20, 21, 22, 23, 24, 25, 26, 27, 28, 29, 30, 31] (by decide) rfl
  refine lv_aload_n hx hb d_law_1124 rfl (lv_at hl 2 rfl) ?_
  have hPc := hP.sub (ws' := (wMo cI cZ cJ mo_a mo)) [30, 31, 32, 33, 34, 35, 36, 37, 38, 39, 40, 41, 42, 43, 44, 45] rfl
  have hDc := hD.sub (ws' := (wMo cI cZ cJ mo_a mo)) [30, 31, 32, 33, 34, 35, 36, 37, 38, 39, 40, 41, 42, 43, 44, 45] (by decide) rfl
  have hFc := va_free (wc := (wMo cI cZ cJ mo_a mo)) hD hS hA [30, 31, 32, 33, 34, 35, 36, 37, 38, 39, 40, 41, 42, 43, 44, 45] rfl
  refine va_callv (va_runV (As := []) (rest := []) ⟨hx, hb, hml, hown, hts⟩ (k_Model_clear l dC dI cI cZ cJ mo_a H.size hg) (cwV 0 hts (gV t_1107 t_1108 t_1109 t_63 t_1110) rfl rfl rfl hd_Model_clear ⟨Nat.le_trans (Nat.le_of_ble_eq_true rfl) hRf, Nat.le_trans (Nat.le_of_ble_eq_true rfl) hRl⟩) ⟨kP_blind, va_recv hK hP (ci := 7) (q0 := 30) rfl rfl, kP_at hPc hK hDc hN⟩ rfl rfl hl.1 rfl (lv_room (Nat.le_of_ble_eq_true rfl)) d_law_1125 ⟨by omega, by omega⟩) hS (fun q _ h => hFc q h) hFc (fun u t H1 locs ht hvm hw hB hz1 hk1 hS => ?_)
  obtain ⟨hP, hD⟩ := kQ_join (wr := (wSd cI cZ cJ sd_a w_a v_a (wr_a 0) (rd_a 0) (cu_a 0) (sp_a 0) sd ++ wSy cI cZ cJ cu_a cu' ++ wSy cI cZ cJ sp_a sp ++ wBr cI cZ cJ w_a w_b w' ++ wBr cI cZ cJ v_a v_b v' ++ wWr cI cZ cJ wr_a (pb_a 0) wr ++ wRd cI cZ cJ rd_a (pb_a 0) rd ++ wPb cI cZ cJ pb_a w_a v_a pb ++ wOu cI cZ cJ ou_a ou)) (w1 := (wMo cI cZ cJ mo_a mo')) hP hD [30, 31, 32, 33, 34, 35, 36, 37, 38, 39, 40, 41, 42, 43, 44, 45] [0, 1, 2, 3, 4, 5, 6, 7, 8, 9, 10, 11, 12, 13, 14, 15, 16, 17, 18, 19, 20, 21, 22, 23, 24, 25, 26, 27, 28, 29, 46] rfl rfl (by decide) (by decide) ht hk1 hFc hB
  generalize H1 = H at hP hS ⊢
  have hP : va_P (dC, dI) vwCl (wSd cI cZ cJ sd_a w_a v_a (wr_a 0) (rd_a 0) (cu_a 0) (sp_a 0) sd ++ wSy cI cZ cJ cu_a cu' ++ wSy cI cZ cJ sp_a sp ++ wBr cI cZ cJ w_a w_b w' ++ wBr cI cZ cJ v_a v_b v' ++ wWr cI cZ cJ wr_a (pb_a 0) wr ++ wRd cI cZ cJ rd_a (pb_a 0) rd ++ wPb cI cZ cJ pb_a w_a v_a pb ++ wMo cI cZ cJ mo_a mo' ++ wOu cI cZ cJ ou_a ou) H := hP.sub [0, 1, 2, 3, 4, 5, 6, 7, 8, 9, 10, 11, 12, 13, 14, 15, 16, 17, 18, 19, 20, 21, 22, 23, 24, 25, 26, 27, 28, 29, 31, 32, 33, 34, 35, 36, 37, 38, 39, 40, 41, 42, 43, 44, 45, 46, 30] rfl
  have hD : va_D A (wSd cI cZ cJ sd_a w_a v_a (wr_a 0) (rd_a 0) (cu_a 0) (sp_a 0) sd ++ wSy cI cZ cJ cu_a cu' ++ wSy cI cZ cJ sp_a sp ++ wBr cI cZ cJ w_a w_b w' ++ wBr cI cZ cJ v_a v_b v' ++ wWr cI cZ cJ wr_a (pb_a 0) wr ++ wRd cI cZ cJ rd_a (pb_a 0) rd ++ wPb cI cZ cJ pb_a w_a v_a pb ++ wMo cI cZ cJ mo_a mo' ++ wOu cI cZ cJ ou_a ou) := hD.sub [0, 1, 2, 3, 4, 5, 6, 7, 8, 9, 10, 11, 12, 13, 14, 15, 16, 17, 18, 19, 20, 21, 22, 23, 24, 25, 26, 27, 28, 29, 31, 32, 33, 34, 35, 36, 37, 38, 39, 40, 41, 42, 43, 44, 45, 46, 30] (by decide) rfl
  refine lv_goto (tgt := 1131) hx hb d_law_1128 (by decide) ?_
  have hl := lv_sub (l' := [(0, .ref b), (1, .ref (sd_a 0)), (2, .ref (mo_a 0)), (3, .ref (ou_a 0)), (4, .int i)]) hl [0, 1, 2, 3, 4] rfl
  refine W.widen (k := j + 1 + Br_byL w' + Br_byL v') (n := 6 * (j + 1) + 2 * Br_byL w' + 2 * Br_byL v') (by omega) (by omega) ?_
  exact hk _ _ _ cu_a sp_a w_b v_b cu' sp w' v' wr rd pb mo' ou hrel hP hD hS hl

