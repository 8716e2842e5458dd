theorem t_559 : (.codeWith y_Law_symbol c_Law_symbol 5 (some .int) [((0), (10), (13), (13)), ((0), (10), (17), (15))] : Cond) ∈ tb := List.mem_filter.mpr ⟨List.mem_of_getElem? (i := 559) (by decide +kernel), by decide +kernel⟩
theorem t_53 : (.initialized R_Law : Cond) ∈ tb := List.mem_filter.mpr ⟨List.mem_of_getElem? (i := 53) (by decide +kernel), by decide +kernel⟩
theorem t_557 : (.methodLink R_Law 76 y_Law_symbol : Cond) ∈ tb := List.mem_filter.mpr ⟨List.mem_of_getElem? (i := 557) (by decide +kernel), by decide +kernel⟩
theorem t_558 : (.static y_Law_symbol : Cond) ∈ tb := List.mem_filter.mpr ⟨List.mem_of_getElem? (i := 558) (by decide +kernel), by decide +kernel⟩
theorem t_910 : (.methodLink R_Law 79 y_Model_symbol : Cond) ∈ tb := List.mem_filter.mpr ⟨List.mem_of_getElem? (i := 910) (by decide +kernel), by decide +kernel⟩
theorem t_911 : (.instanceMethod y_Model_symbol : Cond) ∈ tb := List.mem_filter.mpr ⟨List.mem_of_getElem? (i := 911) (by decide +kernel), by decide +kernel⟩
theorem t_912 : (.selects R_Model y_Model_symbol y_Model_symbol : Cond) ∈ tb := List.mem_filter.mpr ⟨List.mem_of_getElem? (i := 912) (by decide +kernel), by decide +kernel⟩
theorem t_913 : (.code y_Model_symbol c_Model_symbol 5 (some .int) : Cond) ∈ tb := List.mem_filter.mpr ⟨List.mem_of_getElem? (i := 913) (by decide +kernel), by decide +kernel⟩
theorem t_906 : (.methodLink R_Law 80 y_Model_thrown : Cond) ∈ tb := List.mem_filter.mpr ⟨List.mem_of_getElem? (i := 906) (by decide +kernel), by decide +kernel⟩
theorem t_907 : (.instanceMethod y_Model_thrown : Cond) ∈ tb := List.mem_filter.mpr ⟨List.mem_of_getElem? (i := 907) (by decide +kernel), by decide +kernel⟩
theorem t_908 : (.selects R_Model y_Model_thrown y_Model_thrown : Cond) ∈ tb := List.mem_filter.mpr ⟨List.mem_of_getElem? (i := 908) (by decide +kernel), by decide +kernel⟩
theorem t_909 : (.code y_Model_thrown c_Model_thrown 1 (some .int) : Cond) ∈ tb := List.mem_filter.mpr ⟨List.mem_of_getElem? (i := 909) (by decide +kernel), by decide +kernel⟩
theorem t_654 : (.codeWith y_Law_put c_Law_put 7 (some .int) [((0), (21), (24), (21))] : Cond) ∈ tb := List.mem_filter.mpr ⟨List.mem_of_getElem? (i := 654) (by decide +kernel), by decide +kernel⟩
theorem t_652 : (.methodLink R_Law 83 y_Law_put : Cond) ∈ tb := List.mem_filter.mpr ⟨List.mem_of_getElem? (i := 652) (by decide +kernel), by decide +kernel⟩
theorem t_653 : (.static y_Law_put : Cond) ∈ tb := List.mem_filter.mpr ⟨List.mem_of_getElem? (i := 653) (by decide +kernel), by decide +kernel⟩
theorem t_918 : (.methodLink R_Law 86 y_Model_put : Cond) ∈ tb := List.mem_filter.mpr ⟨List.mem_of_getElem? (i := 918) (by decide +kernel), by decide +kernel⟩
theorem t_919 : (.instanceMethod y_Model_put : Cond) ∈ tb := List.mem_filter.mpr ⟨List.mem_of_getElem? (i := 919) (by decide +kernel), by decide +kernel⟩
theorem t_920 : (.selects R_Model y_Model_put y_Model_put : Cond) ∈ tb := List.mem_filter.mpr ⟨List.mem_of_getElem? (i := 920) (by decide +kernel), by decide +kernel⟩
theorem t_921 : (.code y_Model_put c_Model_put 6 (some .boolean) : Cond) ∈ tb := List.mem_filter.mpr ⟨List.mem_of_getElem? (i := 921) (by decide +kernel), by decide +kernel⟩
theorem t_692 : (.codeWith y_Law_row c_Law_row 6 (some .int) [((0), (12), (15), (21))] : Cond) ∈ tb := List.mem_filter.mpr ⟨List.mem_of_getElem? (i := 692) (by decide +kernel), by decide +kernel⟩
theorem t_690 : (.methodLink R_Law 87 y_Law_row : Cond) ∈ tb := List.mem_filter.mpr ⟨List.mem_of_getElem? (i := 690) (by decide +kernel), by decide +kernel⟩
theorem t_691 : (.static y_Law_row : Cond) ∈ tb := List.mem_filter.mpr ⟨List.mem_of_getElem? (i := 691) (by decide +kernel), by decide +kernel⟩
theorem t_934 : (.methodLink R_Law 90 y_Model_row : Cond) ∈ tb := List.mem_filter.mpr ⟨List.mem_of_getElem? (i := 934) (by decide +kernel), by decide +kernel⟩
theorem t_935 : (.instanceMethod y_Model_row : Cond) ∈ tb := List.mem_filter.mpr ⟨List.mem_of_getElem? (i := 935) (by decide +kernel), by decide +kernel⟩
theorem t_936 : (.selects R_Model y_Model_row y_Model_row : Cond) ∈ tb := List.mem_filter.mpr ⟨List.mem_of_getElem? (i := 936) (by decide +kernel), by decide +kernel⟩
theorem t_937 : (.code y_Model_row c_Model_row 4 (some .int) : Cond) ∈ tb := List.mem_filter.mpr ⟨List.mem_of_getElem? (i := 937) (by decide +kernel), by decide +kernel⟩
theorem t_700 : (.codeWith y_Law_at c_Law_at 6 (some .int) [((0), (19), (22), (21))] : Cond) ∈ tb := List.mem_filter.mpr ⟨List.mem_of_getElem? (i := 700) (by decide +kernel), by decide +kernel⟩
theorem t_698 : (.methodLink R_Law 91 y_Law_at : Cond) ∈ tb := List.mem_filter.mpr ⟨List.mem_of_getElem? (i := 698) (by decide +kernel), by decide +kernel⟩
theorem t_699 : (.static y_Law_at : Cond) ∈ tb := List.mem_filter.mpr ⟨List.mem_of_getElem? (i := 699) (by decide +kernel), by decide +kernel⟩
theorem t_941 : (.methodLink R_Law 93 y_Model_at : Cond) ∈ tb := List.mem_filter.mpr ⟨List.mem_of_getElem? (i := 941) (by decide +kernel), by decide +kernel⟩
theorem t_942 : (.instanceMethod y_Model_at : Cond) ∈ tb := List.mem_filter.mpr ⟨List.mem_of_getElem? (i := 942) (by decide +kernel), by decide +kernel⟩
theorem t_943 : (.selects R_Model y_Model_at y_Model_at : Cond) ∈ tb := List.mem_filter.mpr ⟨List.mem_of_getElem? (i := 943) (by decide +kernel), by decide +kernel⟩
theorem t_944 : (.code y_Model_at c_Model_at 4 (some .boolean) : Cond) ∈ tb := List.mem_filter.mpr ⟨List.mem_of_getElem? (i := 944) (by decide +kernel), by decide +kernel⟩
theorem t_707 : (.codeWith y_Law_refined c_Law_refined 7 (some .int) [((0), (14), (17), (21)), ((0), (14), (21), (13)), ((0), (14), (25), (35))] : Cond) ∈ tb := List.mem_filter.mpr ⟨List.mem_of_getElem? (i := 707) (by decide +kernel), by decide +kernel⟩
theorem t_705 : (.methodLink R_Law 94 y_Law_refined : Cond) ∈ tb := List.mem_filter.mpr ⟨List.mem_of_getElem? (i := 705) (by decide +kernel), by decide +kernel⟩
theorem t_706 : (.static y_Law_refined : Cond) ∈ tb := List.mem_filter.mpr ⟨List.mem_of_getElem? (i := 706) (by decide +kernel), by decide +kernel⟩
theorem t_945 : (.methodLink R_Law 97 y_Model_refined : Cond) ∈ tb := List.mem_filter.mpr ⟨List.mem_of_getElem? (i := 945) (by decide +kernel), by decide +kernel⟩
theorem t_946 : (.instanceMethod y_Model_refined : Cond) ∈ tb := List.mem_filter.mpr ⟨List.mem_of_getElem? (i := 946) (by decide +kernel), by decide +kernel⟩
theorem t_947 : (.selects R_Model y_Model_refined y_Model_refined : Cond) ∈ tb := List.mem_filter.mpr ⟨List.mem_of_getElem? (i := 947) (by decide +kernel), by decide +kernel⟩
theorem t_948 : (.code y_Model_refined c_Model_refined 8 (some .int) : Cond) ∈ tb := List.mem_filter.mpr ⟨List.mem_of_getElem? (i := 948) (by decide +kernel), by decide +kernel⟩
theorem t_734 : (.codeWith y_Law_export c_Law_export 5 (some .int) [((0), (17), (20), (21))] : Cond) ∈ tb := List.mem_filter.mpr ⟨List.mem_of_getElem? (i := 734) (by decide +kernel), by decide +kernel⟩
theorem t_732 : (.methodLink R_Law 98 y_Law_export : Cond) ∈ tb := List.mem_filter.mpr ⟨List.mem_of_getElem? (i := 732) (by decide +kernel), by decide +kernel⟩
theorem t_733 : (.static y_Law_export : Cond) ∈ tb := List.mem_filter.mpr ⟨List.mem_of_getElem? (i := 733) (by decide +kernel), by decide +kernel⟩
theorem t_956 : (.methodLink R_Law 101 y_Model_export : Cond) ∈ tb := List.mem_filter.mpr ⟨List.mem_of_getElem? (i := 956) (by decide +kernel), by decide +kernel⟩
theorem t_957 : (.instanceMethod y_Model_export : Cond) ∈ tb := List.mem_filter.mpr ⟨List.mem_of_getElem? (i := 957) (by decide +kernel), by decide +kernel⟩
theorem t_958 : (.selects R_Model y_Model_export y_Model_export : Cond) ∈ tb := List.mem_filter.mpr ⟨List.mem_of_getElem? (i := 958) (by decide +kernel), by decide +kernel⟩
theorem t_959 : (.code y_Model_export c_Model_export 4 (some .boolean) : Cond) ∈ tb := List.mem_filter.mpr ⟨List.mem_of_getElem? (i := 959) (by decide +kernel), by decide +kernel⟩
theorem t_280 : (.methodLink R_Law 102 y_SD_write : Cond) ∈ tb := List.mem_filter.mpr ⟨List.mem_of_getElem? (i := 280) (by decide +kernel), by decide +kernel⟩
theorem t_281 : (.instanceMethod y_SD_write : Cond) ∈ tb := List.mem_filter.mpr ⟨List.mem_of_getElem? (i := 281) (by decide +kernel), by decide +kernel⟩
theorem t_282 : (.selects R_SD y_SD_write y_SD_write : Cond) ∈ tb := List.mem_filter.mpr ⟨List.mem_of_getElem? (i := 282) (by decide +kernel), by decide +kernel⟩
theorem t_283 : (.code y_SD_write c_SD_write 1 (some .int) : Cond) ∈ tb := List.mem_filter.mpr ⟨List.mem_of_getElem? (i := 283) (by decide +kernel), by decide +kernel⟩
theorem t_960 : (.methodLink R_Law 105 y_Model_write : Cond) ∈ tb := List.mem_filter.mpr ⟨List.mem_of_getElem? (i := 960) (by decide +kernel), by decide +kernel⟩
theorem t_961 : (.instanceMethod y_Model_write : Cond) ∈ tb := List.mem_filter.mpr ⟨List.mem_of_getElem? (i := 961) (by decide +kernel), by decide +kernel⟩
theorem t_962 : (.selects R_Model y_Model_write y_Model_write : Cond) ∈ tb := List.mem_filter.mpr ⟨List.mem_of_getElem? (i := 962) (by decide +kernel), by decide +kernel⟩
theorem t_963 : (.code y_Model_write c_Model_write 5 (some .int) : Cond) ∈ tb := List.mem_filter.mpr ⟨List.mem_of_getElem? (i := 963) (by decide +kernel), by decide +kernel⟩
theorem t_741 : (.codeWith y_Law_byteAt c_Law_byteAt 4 (some .int) [((0), (9), (12), (21))] : Cond) ∈ tb := List.mem_filter.mpr ⟨List.mem_of_getElem? (i := 741) (by decide +kernel), by decide +kernel⟩
theorem t_739 : (.methodLink R_Law 106 y_Law_byteAt : Cond) ∈ tb := List.mem_filter.mpr ⟨List.mem_of_getElem? (i := 739) (by decide +kernel), by decide +kernel⟩
theorem t_740 : (.static y_Law_byteAt : Cond) ∈ tb := List.mem_filter.mpr ⟨List.mem_of_getElem? (i := 740) (by decide +kernel), by decide +kernel⟩
theorem t_1035 : (.methodLink R_Law 109 y_Model_byteAt : Cond) ∈ tb := List.mem_filter.mpr ⟨List.mem_of_getElem? (i := 1035) (by decide +kernel), by decide +kernel⟩
theorem t_1036 : (.instanceMethod y_Model_byteAt : Cond) ∈ tb := List.mem_filter.mpr ⟨List.mem_of_getElem? (i := 1036) (by decide +kernel), by decide +kernel⟩
theorem t_1037 : (.selects R_Model y_Model_byteAt y_Model_byteAt : Cond) ∈ tb := List.mem_filter.mpr ⟨List.mem_of_getElem? (i := 1037) (by decide +kernel), by decide +kernel⟩
theorem t_1038 : (.code y_Model_byteAt c_Model_byteAt 2 (some .int) : Cond) ∈ tb := List.mem_filter.mpr ⟨List.mem_of_getElem? (i := 1038) (by decide +kernel), by decide +kernel⟩
theorem t_749 : (.codeWith y_Law_feed c_Law_feed 4 (some .int) [((0), (9), (12), (13)), ((0), (9), (15), (15))] : Cond) ∈ tb := List.mem_filter.mpr ⟨List.mem_of_getElem? (i := 749) (by decide +kernel), by decide +kernel⟩
theorem t_747 : (.methodLink R_Law 110 y_Law_feed : Cond) ∈ tb := List.mem_filter.mpr ⟨List.mem_of_getElem? (i := 747) (by decide +kernel), by decide +kernel⟩
theorem t_748 : (.static y_Law_feed : Cond) ∈ tb := List.mem_filter.mpr ⟨List.mem_of_getElem? (i := 748) (by decide +kernel), by decide +kernel⟩
theorem t_1039 : (.methodLink R_Law 112 y_Model_feed : Cond) ∈ tb := List.mem_filter.mpr ⟨List.mem_of_getElem? (i := 1039) (by decide +kernel), by decide +kernel⟩
theorem t_1040 : (.instanceMethod y_Model_feed : Cond) ∈ tb := List.mem_filter.mpr ⟨List.mem_of_getElem? (i := 1040) (by decide +kernel), by decide +kernel⟩
theorem t_1041 : (.selects R_Model y_Model_feed y_Model_feed : Cond) ∈ tb := List.mem_filter.mpr ⟨List.mem_of_getElem? (i := 1041) (by decide +kernel), by decide +kernel⟩
theorem t_1042 : (.code y_Model_feed c_Model_feed 2 (some .int) : Cond) ∈ tb := List.mem_filter.mpr ⟨List.mem_of_getElem? (i := 1042) (by decide +kernel), by decide +kernel⟩
theorem t_759 : (.codeWith y_Law_pass c_Law_pass 3 (some .int) [((0), (8), (11), (15))] : Cond) ∈ tb := List.mem_filter.mpr ⟨List.mem_of_getElem? (i := 759) (by decide +kernel), by decide +kernel⟩
theorem t_757 : (.methodLink R_Law 113 y_Law_pass : Cond) ∈ tb := List.mem_filter.mpr ⟨List.mem_of_getElem? (i := 757) (by decide +kernel), by decide +kernel⟩
theorem t_758 : (.static y_Law_pass : Cond) ∈ tb := List.mem_filter.mpr ⟨List.mem_of_getElem? (i := 758) (by decide +kernel), by decide +kernel⟩
theorem t_1043 : (.methodLink R_Law 116 y_Model_pass : Cond) ∈ tb := List.mem_filter.mpr ⟨List.mem_of_getElem? (i := 1043) (by decide +kernel), by decide +kernel⟩
theorem t_1044 : (.instanceMethod y_Model_pass : Cond) ∈ tb := List.mem_filter.mpr ⟨List.mem_of_getElem? (i := 1044) (by decide +kernel), by decide +kernel⟩
theorem t_1045 : (.selects R_Model y_Model_pass y_Model_pass : Cond) ∈ tb := List.mem_filter.mpr ⟨List.mem_of_getElem? (i := 1045) (by decide +kernel), by decide +kernel⟩
theorem t_1046 : (.code y_Model_pass c_Model_pass 2 (some .int) : Cond) ∈ tb := List.mem_filter.mpr ⟨List.mem_of_getElem? (i := 1046) (by decide +kernel), by decide +kernel⟩
theorem t_433 : (.methodLink R_Law 117 y_SD_read : Cond) ∈ tb := List.mem_filter.mpr ⟨List.mem_of_getElem? (i := 433) (by decide +kernel), by decide +kernel⟩
theorem t_434 : (.instanceMethod y_SD_read : Cond) ∈ tb := List.mem_filter.mpr ⟨List.mem_of_getElem? (i := 434) (by decide +kernel), by decide +kernel⟩
theorem t_435 : (.selects R_SD y_SD_read y_SD_read : Cond) ∈ tb := List.mem_filter.mpr ⟨List.mem_of_getElem? (i := 435) (by decide +kernel), by decide +kernel⟩
theorem t_436 : (.code y_SD_read c_SD_read 3 (some .int) : Cond) ∈ tb := List.mem_filter.mpr ⟨List.mem_of_getElem? (i := 436) (by decide +kernel), by decide +kernel⟩
theorem t_1047 : (.methodLink R_Law 120 y_Model_read : Cond) ∈ tb := List.mem_filter.mpr ⟨List.mem_of_getElem? (i := 1047) (by decide +kernel), by decide +kernel⟩
theorem t_1048 : (.instanceMethod y_Model_read : Cond) ∈ tb := List.mem_filter.mpr ⟨List.mem_of_getElem? (i := 1048) (by decide +kernel), by decide +kernel⟩
theorem t_1049 : (.selects R_Model y_Model_read y_Model_read : Cond) ∈ tb := List.mem_filter.mpr ⟨List.mem_of_getElem? (i := 1049) (by decide +kernel), by decide +kernel⟩
theorem t_1050 : (.code y_Model_read c_Model_read 5 (some .int) : Cond) ∈ tb := List.mem_filter.mpr ⟨List.mem_of_getElem? (i := 1050) (by decide +kernel), by decide +kernel⟩
theorem t_772 : (.codeWith y_Law_told c_Law_told 5 (some .int) [((0), (10), (13), (21)), ((0), (10), (17), (13))] : Cond) ∈ tb := List.mem_filter.mpr ⟨List.mem_of_getElem? (i := 772) (by decide +kernel), by decide +kernel⟩
theorem t_770 : (.methodLink R_Law 121 y_Law_told : Cond) ∈ tb := List.mem_filter.mpr ⟨List.mem_of_getElem? (i := 770) (by decide +kernel), by decide +kernel⟩
theorem t_771 : (.static y_Law_told : Cond) ∈ tb := List.mem_filter.mpr ⟨List.mem_of_getElem? (i := 771) (by decide +kernel), by decide +kernel⟩
theorem t_1083 : (.methodLink R_Law 123 y_Model_told : Cond) ∈ tb := List.mem_filter.mpr ⟨List.mem_of_getElem? (i := 1083) (by decide +kernel), by decide +kernel⟩
theorem t_1084 : (.instanceMethod y_Model_told : Cond) ∈ tb := List.mem_filter.mpr ⟨List.mem_of_getElem? (i := 1084) (by decide +kernel), by decide +kernel⟩
theorem t_1085 : (.selects R_Model y_Model_told y_Model_told : Cond) ∈ tb := List.mem_filter.mpr ⟨List.mem_of_getElem? (i := 1085) (by decide +kernel), by decide +kernel⟩
theorem t_1086 : (.code y_Model_told c_Model_told 5 (some .int) : Cond) ∈ tb := List.mem_filter.mpr ⟨List.mem_of_getElem? (i := 1086) (by decide +kernel), by decide +kernel⟩
theorem t_785 : (.codeWith y_Law_likeness c_Law_likeness 5 (some .int) [((0), (10), (13), (21))] : Cond) ∈ tb := List.mem_filter.mpr ⟨List.mem_of_getElem? (i := 785) (by decide +kernel), by decide +kernel⟩
theorem t_783 : (.methodLink R_Law 124 y_Law_likeness : Cond) ∈ tb := List.mem_filter.mpr ⟨List.mem_of_getElem? (i := 783) (by decide +kernel), by decide +kernel⟩
theorem t_784 : (.static y_Law_likeness : Cond) ∈ tb := List.mem_filter.mpr ⟨List.mem_of_getElem? (i := 784) (by decide +kernel), by decide +kernel⟩
theorem t_1087 : (.methodLink R_Law 126 y_Model_likeness : Cond) ∈ tb := List.mem_filter.mpr ⟨List.mem_of_getElem? (i := 1087) (by decide +kernel), by decide +kernel⟩
theorem t_1088 : (.instanceMethod y_Model_likeness : Cond) ∈ tb := List.mem_filter.mpr ⟨List.mem_of_getElem? (i := 1088) (by decide +kernel), by decide +kernel⟩
theorem t_1089 : (.selects R_Model y_Model_likeness y_Model_likeness : Cond) ∈ tb := List.mem_filter.mpr ⟨List.mem_of_getElem? (i := 1089) (by decide +kernel), by decide +kernel⟩
theorem t_1090 : (.code y_Model_likeness c_Model_likeness 3 (some .int) : Cond) ∈ tb := List.mem_filter.mpr ⟨List.mem_of_getElem? (i := 1090) (by decide +kernel), by decide +kernel⟩
theorem t_796 : (.codeWith y_Law_classes c_Law_classes 4 (some .int) [((0), (9), (12), (13))] : Cond) ∈ tb := List.mem_filter.mpr ⟨List.mem_of_getElem? (i := 796) (by decide +kernel), by decide +kernel⟩
theorem t_794 : (.methodLink R_Law 127 y_Law_classes : Cond) ∈ tb := List.mem_filter.mpr ⟨List.mem_of_getElem? (i := 794) (by decide +kernel), by decide +kernel⟩
theorem t_795 : (.static y_Law_classes : Cond) ∈ tb := List.mem_filter.mpr ⟨List.mem_of_getElem? (i := 795) (by decide +kernel), by decide +kernel⟩
theorem t_1095 : (.methodLink R_Law 129 y_Model_classes : Cond) ∈ tb := List.mem_filter.mpr ⟨List.mem_of_getElem? (i := 1095) (by decide +kernel), by decide +kernel⟩
theorem t_1096 : (.instanceMethod y_Model_classes : Cond) ∈ tb := List.mem_filter.mpr ⟨List.mem_of_getElem? (i := 1096) (by decide +kernel), by decide +kernel⟩
theorem t_1097 : (.selects R_Model y_Model_classes y_Model_classes : Cond) ∈ tb := List.mem_filter.mpr ⟨List.mem_of_getElem? (i := 1097) (by decide +kernel), by decide +kernel⟩
theorem t_1098 : (.code y_Model_classes c_Model_classes 5 (some .int) : Cond) ∈ tb := List.mem_filter.mpr ⟨List.mem_of_getElem? (i := 1098) (by decide +kernel), by decide +kernel⟩
theorem t_813 : (.codeWith y_Law_cls c_Law_cls 4 (some .int) [((0), (9), (12), (21))] : Cond) ∈ tb := List.mem_filter.mpr ⟨List.mem_of_getElem? (i := 813) (by decide +kernel), by decide +kernel⟩
theorem t_811 : (.methodLink R_Law 130 y_Law_cls : Cond) ∈ tb := List.mem_filter.mpr ⟨List.mem_of_getElem? (i := 811) (by decide +kernel), by decide +kernel⟩
theorem t_812 : (.static y_Law_cls : Cond) ∈ tb := List.mem_filter.mpr ⟨List.mem_of_getElem? (i := 812) (by decide +kernel), by decide +kernel⟩
theorem t_1099 : (.methodLink R_Law 132 y_Model_cls : Cond) ∈ tb := List.mem_filter.mpr ⟨List.mem_of_getElem? (i := 1099) (by decide +kernel), by decide +kernel⟩
theorem t_1100 : (.instanceMethod y_Model_cls : Cond) ∈ tb := List.mem_filter.mpr ⟨List.mem_of_getElem? (i := 1100) (by decide +kernel), by decide +kernel⟩
theorem t_1101 : (.selects R_Model y_Model_cls y_Model_cls : Cond) ∈ tb := List.mem_filter.mpr ⟨List.mem_of_getElem? (i := 1101) (by decide +kernel), by decide +kernel⟩
theorem t_1102 : (.code y_Model_cls c_Model_cls 2 (some .int) : Cond) ∈ tb := List.mem_filter.mpr ⟨List.mem_of_getElem? (i := 1102) (by decide +kernel), by decide +kernel⟩
theorem t_546 : (.methodLink R_Law 133 y_SD_count : Cond) ∈ tb := List.mem_filter.mpr ⟨List.mem_of_getElem? (i := 546) (by decide +kernel), by decide +kernel⟩
theorem t_547 : (.instanceMethod y_SD_count : Cond) ∈ tb := List.mem_filter.mpr ⟨List.mem_of_getElem? (i := 547) (by decide +kernel), by decide +kernel⟩
theorem t_548 : (.selects R_SD y_SD_count y_SD_count : Cond) ∈ tb := List.mem_filter.mpr ⟨List.mem_of_getElem? (i := 548) (by decide +kernel), by decide +kernel⟩
theorem t_549 : (.code y_SD_count c_SD_count 2 (some .int) : Cond) ∈ tb := List.mem_filter.mpr ⟨List.mem_of_getElem? (i := 549) (by decide +kernel), by decide +kernel⟩
theorem t_1103 : (.methodLink R_Law 136 y_Model_count : Cond) ∈ tb := List.mem_filter.mpr ⟨List.mem_of_getElem? (i := 1103) (by decide +kernel), by decide +kernel⟩
theorem t_1104 : (.instanceMethod y_Model_count : Cond) ∈ tb := List.mem_filter.mpr ⟨List.mem_of_getElem? (i := 1104) (by decide +kernel), by decide +kernel⟩
theorem t_1105 : (.selects R_Model y_Model_count y_Model_count : Cond) ∈ tb := List.mem_filter.mpr ⟨List.mem_of_getElem? (i := 1105) (by decide +kernel), by decide +kernel⟩
theorem t_1106 : (.code y_Model_count c_Model_count 2 (some .int) : Cond) ∈ tb := List.mem_filter.mpr ⟨List.mem_of_getElem? (i := 1106) (by decide +kernel), by decide +kernel⟩
theorem t_550 : (.methodLink R_Law 137 y_SD_clear : Cond) ∈ tb := List.mem_filter.mpr ⟨List.mem_of_getElem? (i := 550) (by decide +kernel), by decide +kernel⟩
theorem t_551 : (.instanceMethod y_SD_clear : Cond) ∈ tb := List.mem_filter.mpr ⟨List.mem_of_getElem? (i := 551) (by decide +kernel), by decide +kernel⟩
theorem t_552 : (.selects R_SD y_SD_clear y_SD_clear : Cond) ∈ tb := List.mem_filter.mpr ⟨List.mem_of_getElem? (i := 552) (by decide +kernel), by decide +kernel⟩
theorem t_553 : (.code y_SD_clear c_SD_clear 1 none : Cond) ∈ tb := List.mem_filter.mpr ⟨List.mem_of_getElem? (i := 553) (by decide +kernel), by decide +kernel⟩
theorem t_1107 : (.methodLink R_Law 140 y_Model_clear : Cond) ∈ tb := List.mem_filter.mpr ⟨List.mem_of_getElem? (i := 1107) (by decide +kernel), by decide +kernel⟩
theorem t_1108 : (.instanceMethod y_Model_clear : Cond) ∈ tb := List.mem_filter.mpr ⟨List.mem_of_getElem? (i := 1108) (by decide +kernel), by decide +kernel⟩
theorem t_1109 : (.selects R_Model y_Model_clear y_Model_clear : Cond) ∈ tb := List.mem_filter.mpr ⟨List.mem_of_getElem? (i := 1109) (by decide +kernel), by decide +kernel⟩
theorem t_1110 : (.code y_Model_clear c_Model_clear 1 none : Cond) ∈ tb := List.mem_filter.mpr ⟨List.mem_of_getElem? (i := 1110) (by decide +kernel), by decide +kernel⟩
theorem t_74 : (.classLink R_Law 8 R_SD : Cond) ∈ tb := List.mem_filter.mpr ⟨List.mem_of_getElem? (i := 74) (by decide +kernel), by decide +kernel⟩
theorem t_75 : (.instantiable R_SD 7 : Cond) ∈ tb := List.mem_filter.mpr ⟨List.mem_of_getElem? (i := 75) (by decide +kernel), by decide +kernel⟩
theorem t_554 : (.methodLink R_Law 64 y_Law_cell : Cond) ∈ tb := List.mem_filter.mpr ⟨List.mem_of_getElem? (i := 554) (by decide +kernel), by decide +kernel⟩
theorem t_555 : (.static y_Law_cell : Cond) ∈ tb := List.mem_filter.mpr ⟨List.mem_of_getElem? (i := 555) (by decide +kernel), by decide +kernel⟩
theorem t_556 : (.code y_Law_cell c_Law_cell 2 (some .int) : Cond) ∈ tb := List.mem_filter.mpr ⟨List.mem_of_getElem? (i := 556) (by decide +kernel), by decide +kernel⟩
theorem t_78 : (.code y_SD_init c_SD_init 3 none : Cond) ∈ tb := List.mem_filter.mpr ⟨List.mem_of_getElem? (i := 78) (by decide +kernel), by decide +kernel⟩
theorem t_76 : (.methodLink R_Law 70 y_SD_init : Cond) ∈ tb := List.mem_filter.mpr ⟨List.mem_of_getElem? (i := 76) (by decide +kernel), by decide +kernel⟩
theorem t_77 : (.instanceMethod y_SD_init : Cond) ∈ tb := List.mem_filter.mpr ⟨List.mem_of_getElem? (i := 77) (by decide +kernel), by decide +kernel⟩
theorem t_818 : (.classLink R_Law 73 R_Model : Cond) ∈ tb := List.mem_filter.mpr ⟨List.mem_of_getElem? (i := 818) (by decide +kernel), by decide +kernel⟩
theorem t_819 : (.instantiable R_Model 27 : Cond) ∈ tb := List.mem_filter.mpr ⟨List.mem_of_getElem? (i := 819) (by decide +kernel), by decide +kernel⟩
theorem t_822 : (.code y_Model_init c_Model_init 2 none : Cond) ∈ tb := List.mem_filter.mpr ⟨List.mem_of_getElem? (i := 822) (by decide +kernel), by decide +kernel⟩
theorem t_820 : (.methodLink R_Law 75 y_Model_init : Cond) ∈ tb := List.mem_filter.mpr ⟨List.mem_of_getElem? (i := 820) (by decide +kernel), by decide +kernel⟩
theorem t_821 : (.instanceMethod y_Model_init : Cond) ∈ tb := List.mem_filter.mpr ⟨List.mem_of_getElem? (i := 821) (by decide +kernel), by decide +kernel⟩
theorem t_1111 : (.arrayClass .long : Cond) ∈ tb := List.mem_filter.mpr ⟨List.mem_of_getElem? (i := 1111) (by decide +kernel), by decide +kernel⟩
/-! Worlds by their pieces: permutations of appended lists, none of them opened -/
section Pieces
variable {D : va_G} {cl : List vw_C} {A : Nat → Prop} {ws ws' wc wr w1 : va_W} {H H1 : Heap}
theorem pw_P (h : va_P D cl ws H) (hp : ∀ q, q ∈ ws' → q ∈ ws) : va_P D cl ws' H := fun k q hk => by
  obtain ⟨i, hi⟩ := List.getElem?_of_mem (hp q (List.mem_of_getElem? hk))
  exact h i q hi
theorem pw_nd (h : va_D A ws) : (ws.map Prod.fst).Nodup := by
  unfold List.Nodup
  rw [List.pairwise_iff_getElem]
  intro i j hi hj hij e
  rw [List.length_map] at hi hj
  rw [List.getElem_map, List.getElem_map] at e
  have := h.1 i j ws[i] ws[j] (List.getElem?_eq_getElem hi) (List.getElem?_eq_getElem hj) e
  omega
theorem pw_of (h1 : (ws.map Prod.fst).Nodup) (h2 : ∀ q, q ∈ ws → A q.1) : va_D A ws := by
  unfold List.Nodup at h1
  rw [List.pairwise_iff_getElem] at h1
  refine ⟨fun i j p q hi hj e => ?_, fun k q hk => h2 q (List.mem_of_getElem? hk)⟩
  obtain ⟨li, ei⟩ := List.getElem?_eq_some_iff.mp hi
  obtain ⟨lj, ej⟩ := List.getElem?_eq_some_iff.mp hj
  rcases Nat.lt_trichotomy i j with h | h | h
  · have := h1 i j (by rw [List.length_map]; exact li) (by rw [List.length_map]; exact lj) h
    rw [List.getElem_map, List.getElem_map, ei, ej] at this
    exact absurd e this
  · exact h
  · have := h1 j i (by rw [List.length_map]; exact lj) (by rw [List.length_map]; exact li) h
    rw [List.getElem_map, List.getElem_map, ei, ej] at this
    exact absurd e.symm this
theorem pw_all (h : va_D A ws) : ∀ q, q ∈ ws → A q.1 := fun q hq => by
  obtain ⟨i, hi⟩ := List.getElem?_of_mem hq
  exact h.2 i q hi
theorem pw_Dp (h : va_D A ws) (hp : ws.Perm ws') : va_D A ws' := pw_of ((hp.map Prod.fst).nodup_iff.mp (pw_nd h)) (fun q hq => pw_all h q (hp.mem_iff.mpr hq))
theorem pw_D (h : va_D A ws) (hp : ws.Perm (wc ++ wr)) : va_D A wc := by
  have h1 := pw_Dp h hp
  have h2 := pw_nd h1
  rw [List.map_append] at h2
  exact pw_of (List.Nodup.sublist (List.sublist_append_left _ _) h2) (fun q hq => pw_all h1 q (List.mem_append_left _ hq))
theorem pw_R (h : va_D A (wc ++ wr)) : va_D A wr := by
  have h2 := pw_nd h
  rw [List.map_append] at h2
  exact pw_of (List.Nodup.sublist (List.sublist_append_right _ _) h2) (fun q hq => pw_all h q (List.mem_append_right _ hq))
theorem pw_free {H0 : Heap} {locs : List Loc} (hD : va_D A ws) (hS : va_S A H0 H locs) (hA : ∀ q, H0.size ≤ q → A q) (hp : ∀ q, q ∈ wc → q ∈ ws) : ∀ q, va_A wc H.size q → A q := by
  intro q h
  rcases h with ⟨k, e, h⟩ | h
  · exact pw_all hD (q, e) (hp _ (List.mem_of_getElem? h))
  · exact hA q (Nat.le_trans hS.1 h)
theorem pw_join {tys : List (ClassId × FieldType)} {t : State} (hP : va_P D cl ws H) (hD : va_D A ws) (hp : ws.Perm (wc ++ wr)) (ht : t.heap = H1) (hk : ∀ q : Nat, q < H.size → ¬ va_A wc H.size q → H1[q]? = H[q]?) (hF : ∀ q, va_A wc H.size q → A q) (hB : kQ D cl tys wc H.size w1 t) : va_P D cl (wr ++ w1) H1 ∧ va_D A (wr ++ w1) := by
  obtain ⟨hP1, -, hD1⟩ := hB
  rw [ht] at hP1
  have hP' : va_P D cl (wc ++ wr) H := pw_P hP (fun q hq => hp.mem_iff.mpr hq)
  have hD' : va_D A (wc ++ wr) := pw_Dp hD hp
  have hPr : va_P D cl wr H := pw_P hP' (fun q hq => List.mem_append_right _ hq)
  have apart : ∀ (k : Nat) (q : Nat × va_E), wr[k]? = some q → q.1 < H.size ∧ ¬ va_A wc H.size q.1 := by
    intro k q hq
    have hlt := (hPr k q hq).lt
    refine ⟨hlt, fun h => ?_⟩
    rcases h with ⟨i, e, hi⟩ | h
    · have l1 := (List.getElem?_eq_some_iff.mp hi).1
      have e1 : (wc ++ wr)[i]? = some (q.1, e) := by rw [List.getElem?_append_left l1]; exact hi
      have e2 : (wc ++ wr)[wc.length + k]? = some q := by rw [List.getElem?_append_right (by omega), Nat.add_sub_cancel_left]; exact hq
      have := hD'.1 i (wc.length + k) _ _ e1 e2 rfl
      omega
    · omega
  refine ⟨va_P.app (hPr.kept (fun k q hq => hk q.1 (apart k q hq).1 (apart k q hq).2)) hP1, va_D.app (pw_R hD') ⟨hD1.1, fun k q hk => hF _ (hD1.2 k q hk)⟩ (fun i j x y hi hj e => ?_)⟩
  exact (apart i x hi).2 (by rw [e]; exact hD1.2 j y hj)
end Pieces
/-! Permutations of pieces -/
theorem pm_0 {α : Type} (x0 x1 x2 x3 x4 x5 x6 x7 x8 x9 : List α) : (x0 ++ x1 ++ x2 ++ x3 ++ x4 ++ x5 ++ x6 ++ x7 ++ x8 ++ x9).Perm ((x0 ++ x1 ++ x9) ++ (x2 ++ x3 ++ x4 ++ x5 ++ x6 ++ x7 ++ x8)) := by
  classical
  exact List.perm_iff_count.mpr (fun z => by simp only [List.count_append, List.count_nil]; omega)
theorem pm_1 {α : Type} (x0 x1 x2 x3 x4 x5 x6 x7 x8 x9 : List α) : ((x0 ++ x1 ++ x2 ++ x3 ++ x4 ++ x5 ++ x6) ++ (x7 ++ x8 ++ x9)).Perm (x7 ++ x8 ++ x0 ++ x1 ++ x2 ++ x3 ++ x4 ++ x5 ++ x6 ++ x9) := by
  classical
  exact List.perm_iff_count.mpr (fun z => by simp only [List.count_append, List.count_nil]; omega)
theorem pm_2 {α : Type} (x0 x1 x2 x3 x4 x5 x6 x7 x8 x9 : List α) : (x0 ++ x1 ++ x2 ++ x3 ++ x4 ++ x5 ++ x6 ++ x7 ++ x8 ++ x9).Perm (x8 ++ (x0 ++ x1 ++ x2 ++ x3 ++ x4 ++ x5 ++ x6 ++ x7 ++ x9)) := by
  classical
  exact List.perm_iff_count.mpr (fun z => by simp only [List.count_append, List.count_nil]; omega)
theorem pm_3 {α : Type} (x0 x1 x2 x3 x4 x5 x6 x7 x8 x9 : List α) : ((x0 ++ x1 ++ x2 ++ x3 ++ x4 ++ x5 ++ x6 ++ x7 ++ x8) ++ x9).Perm (x0 ++ x1 ++ x2 ++ x3 ++ x4 ++ x5 ++ x6 ++ x7 ++ x9 ++ x8) := by
  classical
  exact List.perm_iff_count.mpr (fun z => by simp only [List.count_append, List.count_nil]; omega)
theorem pm_4 {α : Type} (x0 x1 x2 x3 x4 x5 x6 x7 x8 x9 : List α) : (x0 ++ x1 ++ x2 ++ x3 ++ x4 ++ x5 ++ x6 ++ x7 ++ x8 ++ x9).Perm ((x0 ++ x5 ++ x7 ++ x3 ++ x1) ++ (x2 ++ x4 ++ x6 ++ x8 ++ x9)) := by
  classical
  exact List.perm_iff_count.mpr (fun z => by simp only [List.count_append, List.count_nil]; omega)
theorem pm_5 {α : Type} (x0 x1 x2 x3 x4 x5 x6 x7 x8 x9 : List α) : ((x0 ++ x1 ++ x2 ++ x3 ++ x4) ++ (x5 ++ x6 ++ x7 ++ x8 ++ x9)).Perm (x5 ++ x9 ++ x0 ++ x8 ++ x1 ++ x6 ++ x2 ++ x7 ++ x3 ++ x4) := by
  classical
  exact List.perm_iff_count.mpr (fun z => by simp only [List.count_append, List.count_nil]; omega)
theorem pm_6 {α : Type} (x0 x1 x2 x3 x4 x5 x6 x7 x8 x9 : List α) : (x0 ++ x1 ++ x2 ++ x3 ++ x4 ++ x5 ++ x6 ++ x7 ++ x8 ++ x9).Perm ((x0 ++ x3 ++ x9) ++ (x1 ++ x2 ++ x4 ++ x5 ++ x6 ++ x7 ++ x8)) := by
  classical
  exact List.perm_iff_count.mpr (fun z => by simp only [List.count_append, List.count_nil]; omega)
theorem pm_7 {α : Type} (x0 x1 x2 x3 x4 x5 x6 x7 x8 x9 : List α) : ((x0 ++ x1 ++ x2 ++ x3 ++ x4 ++ x5 ++ x6) ++ (x7 ++ x8 ++ x9)).Perm (x7 ++ x0 ++ x1 ++ x8 ++ x2 ++ x3 ++ x4 ++ x5 ++ x6 ++ x9) := by
  classical
  exact List.perm_iff_count.mpr (fun z => by simp only [List.count_append, List.count_nil]; omega)
theorem pm_8 {α : Type} (x0 x1 x2 x3 x4 x5 x6 x7 x8 x9 : List α) : (x0 ++ x1 ++ x2 ++ x3 ++ x4 ++ x5 ++ x6 ++ x7 ++ x8 ++ x9).Perm ((x0 ++ x4 ++ x9) ++ (x1 ++ x2 ++ x3 ++ x5 ++ x6 ++ x7 ++ x8)) := by
  classical
  exact List.perm_iff_count.mpr (fun z => by simp only [List.count_append, List.count_nil]; omega)
theorem pm_9 {α : Type} (x0 x1 x2 x3 x4 x5 x6 x7 x8 x9 : List α) : ((x0 ++ x1 ++ x2 ++ x3 ++ x4 ++ x5 ++ x6) ++ (x7 ++ x8 ++ x9)).Perm (x7 ++ x0 ++ x1 ++ x2 ++ x8 ++ x3 ++ x4 ++ x5 ++ x6 ++ x9) := by
  classical
  exact List.perm_iff_count.mpr (fun z => by simp only [List.count_append, List.count_nil]; omega)
theorem pm_10 {α : Type} (x0 x1 x2 x3 x4 x5 x6 x7 x8 x9 : List α) : (x0 ++ x1 ++ x2 ++ x3 ++ x4 ++ x5 ++ x6 ++ x7 ++ x8 ++ x9).Perm ((x0 ++ x3 ++ x4 ++ x9) ++ (x1 ++ x2 ++ x5 ++ x6 ++ x7 ++ x8)) := by
  classical
  exact List.perm_iff_count.mpr (fun z => by simp only [List.count_append, List.count_nil]; omega)
theorem pm_11 {α : Type} (x0 x1 x2 x3 x4 x5 x6 x7 x8 x9 : List α) : ((x0 ++ x1 ++ x2 ++ x3 ++ x4 ++ x5) ++ (x6 ++ x7 ++ x8 ++ x9)).Perm (x6 ++ x0 ++ x1 ++ x7 ++ x8 ++ x2 ++ x3 ++ x4 ++ x5 ++ x9) := by
  classical
  exact List.perm_iff_count.mpr (fun z => by simp only [List.count_append, List.count_nil]; omega)
theorem pm_12 {α : Type} (x0 x1 x2 x3 x4 x5 x6 x7 x8 x9 : List α) : (x0 ++ x1 ++ x2 ++ x3 ++ x4 ++ x5 ++ x6 ++ x7 ++ x8 ++ x9).Perm ((x0 ++ x6 ++ x7 ++ x4 ++ x1 ++ x2) ++ (x3 ++ x5 ++ x8 ++ x9)) := by
  classical
  exact List.perm_iff_count.mpr (fun z => by simp only [List.count_append, List.count_nil]; omega)
theorem pm_13 {α : Type} (x0 x1 x2 x3 x4 x5 x6 x7 x8 x9 : List α) : ((x0 ++ x1 ++ x2 ++ x3) ++ (x4 ++ x5 ++ x6 ++ x7 ++ x8 ++ x9)).Perm (x4 ++ x8 ++ x9 ++ x0 ++ x7 ++ x1 ++ x5 ++ x6 ++ x2 ++ x3) := by
  classical
  exact List.perm_iff_count.mpr (fun z => by simp only [List.count_append, List.count_nil]; omega)
theorem pm_14 {α : Type} (x0 x1 x2 x3 x4 x5 x6 x7 x8 x9 : List α) : (x0 ++ x1 ++ x2 ++ x3 ++ x4 ++ x5 ++ x6 ++ x7 ++ x8 ++ x9).Perm (x0 ++ x2 ++ x1 ++ x3 ++ x4 ++ x5 ++ x6 ++ x7 ++ x8 ++ x9) := by
  classical
  exact List.perm_iff_count.mpr (fun z => by simp only [List.count_append, List.count_nil]; omega)
theorem pm_15 {α : Type} (x0 x1 x2 x3 x4 x5 x6 x7 x8 x9 : List α) : (x0 ++ x1 ++ x2 ++ x3 ++ x4 ++ x5 ++ x6 ++ x7 ++ x8 ++ x9).Perm ((x0 ++ x1 ++ x3 ++ x4) ++ (x2 ++ x5 ++ x6 ++ x7 ++ x8 ++ x9)) := by
  classical
  exact List.perm_iff_count.mpr (fun z => by simp only [List.count_append, List.count_nil]; omega)
theorem pm_16 {α : Type} (x0 x1 x2 x3 x4 x5 x6 x7 x8 x9 : List α) : ((x0 ++ x1 ++ x2 ++ x3 ++ x4 ++ x5) ++ (x6 ++ x7 ++ x8 ++ x9)).Perm (x6 ++ x7 ++ x0 ++ x8 ++ x9 ++ x1 ++ x2 ++ x3 ++ x4 ++ x5) := by
  classical
  exact List.perm_iff_count.mpr (fun z => by simp only [List.count_append, List.count_nil]; omega)
