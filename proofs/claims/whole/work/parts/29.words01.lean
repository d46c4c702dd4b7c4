theorem tw_823 : Cond.instanceMethod ⟨"TopicBroker$Properties", "clear", "()V"⟩ ∈ TB := TB_t (tq_4 (List.mem_of_getElem? (i := 103) rfl)) rfl
theorem tw_824 : Cond.selects "TopicBroker$Properties" ⟨"TopicBroker$Properties", "clear", "()V"⟩ ⟨"TopicBroker$Properties", "clear", "()V"⟩ ∈ TB := TB_t (tq_4 (List.mem_of_getElem? (i := 104) rfl)) rfl
theorem tw_825 : Cond.code ⟨"TopicBroker$Properties", "clear", "()V"⟩ prog_6_method_2_code 1 none ∈ TB := TB_t (tq_4 (List.mem_of_getElem? (i := 105) rfl)) rfl
theorem tw_826 : Cond.methodLink "TopicBroker$Properties" 48 ⟨"TopicBroker$Reader", "variable", "()I"⟩ ∈ TB := TB_t (tq_4 (List.mem_of_getElem? (i := 106) rfl)) rfl
theorem tw_827 : Cond.instanceMethod ⟨"TopicBroker$Reader", "variable", "()I"⟩ ∈ TB := TB_t (tq_4 (List.mem_of_getElem? (i := 107) rfl)) rfl
theorem tw_828 : Cond.selects "TopicBroker$Reader" ⟨"TopicBroker$Reader", "variable", "()I"⟩ ⟨"TopicBroker$Reader", "variable", "()I"⟩ ∈ TB := TB_t (tq_4 (List.mem_of_getElem? (i := 108) rfl)) rfl
theorem tw_829 : Cond.code ⟨"TopicBroker$Reader", "variable", "()I"⟩ prog_7_method_10_code 4 (some .int) ∈ TB := TB_t (tq_4 (List.mem_of_getElem? (i := 109) rfl)) rfl
theorem tw_830 : Cond.methodLink "TopicBroker$Properties" 52 ⟨"TopicBroker$Reader", "has", "(I)Z"⟩ ∈ TB := TB_t (tq_4 (List.mem_of_getElem? (i := 110) rfl)) rfl
theorem tw_831 : Cond.methodLink "TopicBroker$Properties" 62 ⟨"TopicBroker$Reader", "left", "()I"⟩ ∈ TB := TB_t (tq_4 (List.mem_of_getElem? (i := 111) rfl)) rfl
theorem tw_832 : Cond.instanceMethod ⟨"TopicBroker$Reader", "left", "()I"⟩ ∈ TB := TB_t (tq_4 (List.mem_of_getElem? (i := 112) rfl)) rfl
theorem tw_833 : Cond.selects "TopicBroker$Reader" ⟨"TopicBroker$Reader", "left", "()I"⟩ ⟨"TopicBroker$Reader", "left", "()I"⟩ ∈ TB := TB_t (tq_4 (List.mem_of_getElem? (i := 113) rfl)) rfl
theorem tw_834 : Cond.code ⟨"TopicBroker$Reader", "left", "()I"⟩ prog_7_method_5_code 1 (some .int) ∈ TB := TB_t (tq_4 (List.mem_of_getElem? (i := 114) rfl)) rfl
theorem tw_835 : Cond.methodLink "TopicBroker$Properties" 65 ⟨"TopicBroker$Reader", "one", "()I"⟩ ∈ TB := TB_t (tq_4 (List.mem_of_getElem? (i := 115) rfl)) rfl
theorem tw_836 : Cond.methodLink "TopicBroker$Properties" 68 ⟨"TopicBroker$Properties", "has", "(I)Z"⟩ ∈ TB := TB_t (tq_4 (List.mem_of_getElem? (i := 116) rfl)) rfl
theorem tw_837 : Cond.instanceMethod ⟨"TopicBroker$Properties", "has", "(I)Z"⟩ ∈ TB := TB_t (tq_4 (List.mem_of_getElem? (i := 117) rfl)) rfl
theorem tw_838 : Cond.selects "TopicBroker$Properties" ⟨"TopicBroker$Properties", "has", "(I)Z"⟩ ⟨"TopicBroker$Properties", "has", "(I)Z"⟩ ∈ TB := TB_t (tq_4 (List.mem_of_getElem? (i := 118) rfl)) rfl
theorem tw_839 : Cond.code ⟨"TopicBroker$Properties", "has", "(I)Z"⟩ prog_6_method_6_code 2 (some .boolean) ∈ TB := TB_t (tq_4 (List.mem_of_getElem? (i := 119) rfl)) rfl
theorem tw_840 : Cond.methodLink "TopicBroker$Properties" 69 ⟨"TopicBroker$Reader", "fail", "(I)V"⟩ ∈ TB := TB_t (tq_4 (List.mem_of_getElem? (i := 120) rfl)) rfl
theorem tw_841 : Cond.methodLink "TopicBroker$Properties" 73 ⟨"TopicBroker$Properties", "value", "(LTopicBroker$Reader;I)J"⟩ ∈ TB := TB_t (tq_4 (List.mem_of_getElem? (i := 121) rfl)) rfl
theorem tw_842 : Cond.instanceMethod ⟨"TopicBroker$Properties", "value", "(LTopicBroker$Reader;I)J"⟩ ∈ TB := TB_t (tq_4 (List.mem_of_getElem? (i := 122) rfl)) rfl
theorem tw_843 : Cond.selects "TopicBroker$Properties" ⟨"TopicBroker$Properties", "value", "(LTopicBroker$Reader;I)J"⟩ ⟨"TopicBroker$Properties", "value", "(LTopicBroker$Reader;I)J"⟩ ∈ TB := TB_t (tq_4 (List.mem_of_getElem? (i := 123) rfl)) rfl
theorem tw_844 : Cond.code ⟨"TopicBroker$Properties", "value", "(LTopicBroker$Reader;I)J"⟩ prog_6_method_4_code 4 (some .long) ∈ TB := TB_t (tq_4 (List.mem_of_getElem? (i := 124) rfl)) rfl
theorem tw_845 : Cond.methodLink "TopicBroker$Properties" 81 ⟨"TopicBroker$Reader", "four", "()J"⟩ ∈ TB := TB_t (tq_4 (List.mem_of_getElem? (i := 125) rfl)) rfl
theorem tw_846 : Cond.instanceMethod ⟨"TopicBroker$Reader", "four", "()J"⟩ ∈ TB := TB_t (tq_4 (List.mem_of_getElem? (i := 126) rfl)) rfl
theorem tw_847 : Cond.selects "TopicBroker$Reader" ⟨"TopicBroker$Reader", "four", "()J"⟩ ⟨"TopicBroker$Reader", "four", "()J"⟩ ∈ TB := TB_t (tq_4 (List.mem_of_getElem? (i := 127) rfl)) rfl
theorem tw_848 : Cond.code ⟨"TopicBroker$Reader", "four", "()J"⟩ prog_7_method_9_code 3 (some .long) ∈ TB := TB_t (tq_4 (List.mem_of_getElem? (i := 128) rfl)) rfl
theorem tw_849 : Cond.methodLink "TopicBroker$Properties" 85 ⟨"TopicBroker$Reader", "two", "()I"⟩ ∈ TB := TB_t (tq_4 (List.mem_of_getElem? (i := 129) rfl)) rfl
theorem tw_850 : Cond.methodLink "TopicBroker$Properties" 88 ⟨"TopicBroker$Reader", "row", "(Z)LTopicBroker$Row;"⟩ ∈ TB := TB_t (tq_4 (List.mem_of_getElem? (i := 130) rfl)) rfl
theorem tw_851 : Cond.methodLink "TopicBroker$Properties" 77 ⟨"TopicBroker$Properties", "addUser", "(II)V"⟩ ∈ TB := TB_t (tq_4 (List.mem_of_getElem? (i := 131) rfl)) rfl
theorem tw_852 : Cond.instanceMethod ⟨"TopicBroker$Properties", "addUser", "(II)V"⟩ ∈ TB := TB_t (tq_4 (List.mem_of_getElem? (i := 132) rfl)) rfl
theorem tw_853 : Cond.selects "TopicBroker$Properties" ⟨"TopicBroker$Properties", "addUser", "(II)V"⟩ ⟨"TopicBroker$Properties", "addUser", "(II)V"⟩ ∈ TB := TB_t (tq_4 (List.mem_of_getElem? (i := 133) rfl)) rfl
theorem tw_854 : Cond.code ⟨"TopicBroker$Properties", "addUser", "(II)V"⟩ prog_6_method_5_code 4 none ∈ TB := TB_t (tq_4 (List.mem_of_getElem? (i := 134) rfl)) rfl
theorem tw_855 : Cond.methodLink "TopicBroker$Properties" 92 ⟨"java/lang/Math", "min", "(II)I"⟩ ∈ TB := TB_t (tq_4 (List.mem_of_getElem? (i := 135) rfl)) rfl
theorem tw_856 : Cond.methodLink "TopicBroker$Properties" 98 ⟨"java/lang/System", "arraycopy", "(Ljava/lang/Object;ILjava/lang/Object;II)V"⟩ ∈ TB := TB_t (tq_4 (List.mem_of_getElem? (i := 136) rfl)) rfl
theorem tw_857 : Cond.methodLink "TopicBroker$Greeting" 68 ⟨"TopicBroker$Properties", "has", "(I)Z"⟩ ∈ TB := TB_t (tq_4 (List.mem_of_getElem? (i := 137) rfl)) rfl
theorem tw_858 : Cond.methodLink "TopicBroker$Greeting" 72 ⟨"TopicBroker$Properties", "get", "(IJ)J"⟩ ∈ TB := TB_t (tq_4 (List.mem_of_getElem? (i := 138) rfl)) rfl
theorem tw_859 : Cond.instanceMethod ⟨"TopicBroker$Properties", "get", "(IJ)J"⟩ ∈ TB := TB_t (tq_4 (List.mem_of_getElem? (i := 139) rfl)) rfl
theorem tw_860 : Cond.selects "TopicBroker$Properties" ⟨"TopicBroker$Properties", "get", "(IJ)J"⟩ ⟨"TopicBroker$Properties", "get", "(IJ)J"⟩ ∈ TB := TB_t (tq_4 (List.mem_of_getElem? (i := 140) rfl)) rfl
theorem tw_861 : Cond.code ⟨"TopicBroker$Properties", "get", "(IJ)J"⟩ prog_6_method_7_code 4 (some .long) ∈ TB := TB_t (tq_4 (List.mem_of_getElem? (i := 141) rfl)) rfl
theorem tw_862 : Cond.constantLong "TopicBroker$Greeting" 80 (65535) ∈ TB := TB_t (tq_4 (List.mem_of_getElem? (i := 142) rfl)) rfl
theorem tw_863 : Cond.constantLong "TopicBroker$Greeting" 85 (-1) ∈ TB := TB_t (tq_4 (List.mem_of_getElem? (i := 143) rfl)) rfl
theorem tw_864 : Cond.methodLink "TopicBroker$Greeting" 101 ⟨"TopicBroker$Greeting", "readWill", "(LTopicBroker$Reader;LTopicBroker$Properties;I)V"⟩ ∈ TB := TB_t (tq_4 (List.mem_of_getElem? (i := 144) rfl)) rfl
theorem tw_865 : Cond.instanceMethod ⟨"TopicBroker$Greeting", "readWill", "(LTopicBroker$Reader;LTopicBroker$Properties;I)V"⟩ ∈ TB := TB_t (tq_4 (List.mem_of_getElem? (i := 145) rfl)) rfl
theorem tw_866 : Cond.selects "TopicBroker$Greeting" ⟨"TopicBroker$Greeting", "readWill", "(LTopicBroker$Reader;LTopicBroker$Properties;I)V"⟩ ⟨"TopicBroker$Greeting", "readWill", "(LTopicBroker$Reader;LTopicBroker$Properties;I)V"⟩ ∈ TB := TB_t (tq_4 (List.mem_of_getElem? (i := 146) rfl)) rfl
theorem tw_867 : Cond.code ⟨"TopicBroker$Greeting", "readWill", "(LTopicBroker$Reader;LTopicBroker$Properties;I)V"⟩ prog_4_method_4_code 6 none ∈ TB := TB_t (tq_4 (List.mem_of_getElem? (i := 147) rfl)) rfl
theorem tw_868 : Cond.constantLong "TopicBroker$Greeting" 108 (274894684942) ∈ TB := TB_t (tq_4 (List.mem_of_getElem? (i := 148) rfl)) rfl
theorem tw_869 : Cond.methodLink "TopicBroker$Greeting" 110 ⟨"TopicBroker$Properties", "checkResponse", "(LTopicBroker$Reader;)V"⟩ ∈ TB := TB_t (tq_4 (List.mem_of_getElem? (i := 149) rfl)) rfl
theorem tw_870 : Cond.instanceMethod ⟨"TopicBroker$Properties", "checkResponse", "(LTopicBroker$Reader;)V"⟩ ∈ TB := TB_t (tq_4 (List.mem_of_getElem? (i := 150) rfl)) rfl
theorem tw_871 : Cond.selects "TopicBroker$Properties" ⟨"TopicBroker$Properties", "checkResponse", "(LTopicBroker$Reader;)V"⟩ ⟨"TopicBroker$Properties", "checkResponse", "(LTopicBroker$Reader;)V"⟩ ∈ TB := TB_t (tq_4 (List.mem_of_getElem? (i := 151) rfl)) rfl
theorem tw_872 : Cond.code ⟨"TopicBroker$Properties", "checkResponse", "(LTopicBroker$Reader;)V"⟩ prog_6_method_8_code 2 none ∈ TB := TB_t (tq_4 (List.mem_of_getElem? (i := 152) rfl)) rfl
theorem tw_873 : Cond.methodLink "TopicBroker$Properties" 104 ⟨"TopicBroker$Row", "isTopic", "()Z"⟩ ∈ TB := TB_t (tq_4 (List.mem_of_getElem? (i := 153) rfl)) rfl
theorem tw_874 : Cond.instanceMethod ⟨"TopicBroker$Row", "isTopic", "()Z"⟩ ∈ TB := TB_t (tq_4 (List.mem_of_getElem? (i := 154) rfl)) rfl
theorem tw_875 : Cond.selects "TopicBroker$Row" ⟨"TopicBroker$Row", "isTopic", "()Z"⟩ ⟨"TopicBroker$Row", "isTopic", "()Z"⟩ ∈ TB := TB_t (tq_4 (List.mem_of_getElem? (i := 155) rfl)) rfl
theorem tw_876 : Cond.code ⟨"TopicBroker$Row", "isTopic", "()Z"⟩ prog_9_method_7_code 2 (some .boolean) ∈ TB := TB_t (tq_4 (List.mem_of_getElem? (i := 156) rfl)) rfl
theorem tw_877 : Cond.methodLink "TopicBroker$Greeting" 114 ⟨"TopicBroker$Row", "isTopic", "()Z"⟩ ∈ TB := TB_t (tq_4 (List.mem_of_getElem? (i := 157) rfl)) rfl
theorem tw_878 : Cond.methodLink "TopicBroker$Greeting" 121 ⟨"TopicBroker$Properties", "message", "(LTopicBroker$Row;LTopicBroker$Row;IZ)LTopicBroker$Message;"⟩ ∈ TB := TB_t (tq_4 (List.mem_of_getElem? (i := 158) rfl)) rfl
theorem tw_879 : Cond.instanceMethod ⟨"TopicBroker$Properties", "message", "(LTopicBroker$Row;LTopicBroker$Row;IZ)LTopicBroker$Message;"⟩ ∈ TB := TB_t (tq_4 (List.mem_of_getElem? (i := 159) rfl)) rfl
theorem tw_880 : Cond.selects "TopicBroker$Properties" ⟨"TopicBroker$Properties", "message", "(LTopicBroker$Row;LTopicBroker$Row;IZ)LTopicBroker$Message;"⟩ ⟨"TopicBroker$Properties", "message", "(LTopicBroker$Row;LTopicBroker$Row;IZ)LTopicBroker$Message;"⟩ ∈ TB := TB_t (tq_4 (List.mem_of_getElem? (i := 160) rfl)) rfl
theorem tw_881 : Cond.code ⟨"TopicBroker$Properties", "message", "(LTopicBroker$Row;LTopicBroker$Row;IZ)LTopicBroker$Message;"⟩ prog_6_method_10_code 6 (some (.object "TopicBroker$Message")) ∈ TB := TB_t (tq_4 (List.mem_of_getElem? (i := 161) rfl)) rfl
theorem tw_882 : Cond.classLink "TopicBroker$Properties" 113 "TopicBroker$Message" ∈ TB := TB_t (tq_4 (List.mem_of_getElem? (i := 162) rfl)) rfl
theorem tw_883 : Cond.instantiable "TopicBroker$Message" 9 ∈ TB := TB_t (tq_4 (List.mem_of_getElem? (i := 163) rfl)) rfl
theorem tw_884 : Cond.methodLink "TopicBroker$Properties" 115 ⟨"TopicBroker$Message", "<init>", "(LTopicBroker$Row;LTopicBroker$Row;IZ)V"⟩ ∈ TB := TB_t (tq_4 (List.mem_of_getElem? (i := 164) rfl)) rfl
theorem tw_885 : Cond.instanceMethod ⟨"TopicBroker$Message", "<init>", "(LTopicBroker$Row;LTopicBroker$Row;IZ)V"⟩ ∈ TB := TB_t (tq_4 (List.mem_of_getElem? (i := 165) rfl)) rfl
theorem tw_886 : Cond.code ⟨"TopicBroker$Message", "<init>", "(LTopicBroker$Row;LTopicBroker$Row;IZ)V"⟩ prog_5_method_1_code 5 none ∈ TB := TB_t (tq_4 (List.mem_of_getElem? (i := 166) rfl)) rfl
theorem tw_887 : Cond.methodLink "TopicBroker$Message" 3 ⟨"java/lang/Object", "<init>", "()V"⟩ ∈ TB := TB_t (tq_4 (List.mem_of_getElem? (i := 167) rfl)) rfl
theorem tw_888 : Cond.fieldLink "TopicBroker$Message" 9 "TopicBroker$Message" "topic" "LTopicBroker$Row;" ∈ TB := TB_t (tq_4 (List.mem_of_getElem? (i := 168) rfl)) rfl
theorem tw_889 : Cond.fieldLink "TopicBroker$Retained" 21 "TopicBroker$Message" "topic" "LTopicBroker$Row;" ∈ TB := TB_t (tq_4 (List.mem_of_getElem? (i := 169) rfl)) rfl
theorem tw_890 : Cond.fieldLink "TopicBroker$Writer" 49 "TopicBroker$Message" "topic" "LTopicBroker$Row;" ∈ TB := TB_t (tq_4 (List.mem_of_getElem? (i := 170) rfl)) rfl
theorem tw_891 : Cond.fieldLink "TopicBroker" 219 "TopicBroker$Message" "topic" "LTopicBroker$Row;" ∈ TB := TB_t (tq_4 (List.mem_of_getElem? (i := 171) rfl)) rfl
theorem tw_892 : Cond.fieldLink "TopicBroker$Message" 15 "TopicBroker$Message" "payload" "LTopicBroker$Row;" ∈ TB := TB_t (tq_4 (List.mem_of_getElem? (i := 172) rfl)) rfl
theorem tw_893 : Cond.fieldLink "TopicBroker$Retained" 31 "TopicBroker$Message" "payload" "LTopicBroker$Row;" ∈ TB := TB_t (tq_4 (List.mem_of_getElem? (i := 173) rfl)) rfl
theorem tw_894 : Cond.fieldLink "TopicBroker$Writer" 100 "TopicBroker$Message" "payload" "LTopicBroker$Row;" ∈ TB := TB_t (tq_4 (List.mem_of_getElem? (i := 174) rfl)) rfl
theorem tw_895 : Cond.fieldLink "TopicBroker" 224 "TopicBroker$Message" "payload" "LTopicBroker$Row;" ∈ TB := TB_t (tq_4 (List.mem_of_getElem? (i := 175) rfl)) rfl
theorem tw_896 : Cond.fieldLink "TopicBroker$Message" 18 "TopicBroker$Message" "quality" "I" ∈ TB := TB_t (tq_4 (List.mem_of_getElem? (i := 176) rfl)) rfl
theorem tw_897 : Cond.fieldLink "TopicBroker" 227 "TopicBroker$Message" "quality" "I" ∈ TB := TB_t (tq_4 (List.mem_of_getElem? (i := 177) rfl)) rfl
theorem tw_898 : Cond.fieldLink "TopicBroker$Message" 22 "TopicBroker$Message" "retain" "Z" ∈ TB := TB_t (tq_4 (List.mem_of_getElem? (i := 178) rfl)) rfl
theorem tw_899 : Cond.fieldLink "TopicBroker" 492 "TopicBroker$Message" "retain" "Z" ∈ TB := TB_t (tq_4 (List.mem_of_getElem? (i := 179) rfl)) rfl
theorem tw_900 : Cond.fieldLink "TopicBroker$Properties" 125 "TopicBroker$Message" "before" "LTopicBroker$Row;" ∈ TB := TB_t (tq_4 (List.mem_of_getElem? (i := 180) rfl)) rfl
theorem tw_901 : Cond.fieldLink "TopicBroker$Writer" 77 "TopicBroker$Message" "before" "LTopicBroker$Row;" ∈ TB := TB_t (tq_4 (List.mem_of_getElem? (i := 181) rfl)) rfl
theorem tw_902 : Cond.fieldLink "TopicBroker$Properties" 131 "TopicBroker$Message" "behind" "LTopicBroker$Row;" ∈ TB := TB_t (tq_4 (List.mem_of_getElem? (i := 182) rfl)) rfl
theorem tw_903 : Cond.fieldLink "TopicBroker$Writer" 80 "TopicBroker$Message" "behind" "LTopicBroker$Row;" ∈ TB := TB_t (tq_4 (List.mem_of_getElem? (i := 183) rfl)) rfl
theorem tw_904 : Cond.fieldLink "TopicBroker$Properties" 140 "TopicBroker$Message" "users" "LTopicBroker$Row;" ∈ TB := TB_t (tq_4 (List.mem_of_getElem? (i := 184) rfl)) rfl
theorem tw_905 : Cond.fieldLink "TopicBroker$Writer" 83 "TopicBroker$Message" "users" "LTopicBroker$Row;" ∈ TB := TB_t (tq_4 (List.mem_of_getElem? (i := 185) rfl)) rfl
theorem tw_906 : Cond.fieldLink "TopicBroker$Message" 26 "TopicBroker$Message" "life" "J" ∈ TB := TB_t (tq_4 (List.mem_of_getElem? (i := 186) rfl)) rfl
theorem tw_907 : Cond.fieldLink "TopicBroker$Properties" 148 "TopicBroker$Message" "life" "J" ∈ TB := TB_t (tq_4 (List.mem_of_getElem? (i := 187) rfl)) rfl
theorem tw_908 : Cond.fieldLink "TopicBroker$Writer" 68 "TopicBroker$Message" "life" "J" ∈ TB := TB_t (tq_4 (List.mem_of_getElem? (i := 188) rfl)) rfl
theorem tw_910 : Cond.fieldLink "TopicBroker$Message" 30 "TopicBroker$Message" "came" "I" ∈ TB := TB_t (tq_4 (List.mem_of_getElem? (i := 190) rfl)) rfl
theorem tw_911 : Cond.fieldLink "TopicBroker" 485 "TopicBroker$Message" "came" "I" ∈ TB := TB_t (tq_4 (List.mem_of_getElem? (i := 191) rfl)) rfl
theorem tw_933 : Cond.methodLink "TopicBroker$Properties" 121 ⟨"TopicBroker$Properties", "raw", "([I)LTopicBroker$Row;"⟩ ∈ TB := TB_t (tq_4 (List.mem_of_getElem? (i := 213) rfl)) rfl
theorem tw_934 : Cond.instanceMethod ⟨"TopicBroker$Properties", "raw", "([I)LTopicBroker$Row;"⟩ ∈ TB := TB_t (tq_4 (List.mem_of_getElem? (i := 214) rfl)) rfl
theorem tw_935 : Cond.selects "TopicBroker$Properties" ⟨"TopicBroker$Properties", "raw", "([I)LTopicBroker$Row;"⟩ ⟨"TopicBroker$Properties", "raw", "([I)LTopicBroker$Row;"⟩ ∈ TB := TB_t (tq_4 (List.mem_of_getElem? (i := 215) rfl)) rfl
theorem tw_936 : Cond.code ⟨"TopicBroker$Properties", "raw", "([I)LTopicBroker$Row;"⟩ prog_6_method_9_code 7 (some (.object "TopicBroker$Row")) ∈ TB := TB_t (tq_4 (List.mem_of_getElem? (i := 216) rfl)) rfl
theorem tw_937 : Cond.classLink "TopicBroker$Properties" 105 "TopicBroker$Row" ∈ TB := TB_t (tq_4 (List.mem_of_getElem? (i := 217) rfl)) rfl
theorem tw_938 : Cond.methodLink "TopicBroker$Properties" 110 ⟨"TopicBroker$Row", "<init>", "([I)V"⟩ ∈ TB := TB_t (tq_4 (List.mem_of_getElem? (i := 218) rfl)) rfl
theorem tw_941 : Cond.methodLink "TopicBroker$Properties" 134 ⟨"java/util/Arrays", "copyOf", "([II)[I"⟩ ∈ TB := TB_t (tq_4 (List.mem_of_getElem? (i := 221) rfl)) rfl
theorem tw_942 : Cond.static ⟨"java/util/Arrays", "copyOf", "([II)[I"⟩ ∈ TB := TB_t (tq_4 (List.mem_of_getElem? (i := 222) rfl)) rfl
theorem tw_943 : Cond.code ⟨"java/util/Arrays", "copyOf", "([II)[I"⟩ prog_30_method_123_code 3 (some (.array .int)) ∈ TB := TB_t (tq_4 (List.mem_of_getElem? (i := 223) rfl)) rfl
theorem tw_944 : Cond.constantLong "TopicBroker$Properties" 142 (-1) ∈ TB := TB_t (tq_4 (List.mem_of_getElem? (i := 224) rfl)) rfl
theorem tw_945 : Cond.methodLink "TopicBroker$Properties" 144 ⟨"TopicBroker$Properties", "get", "(IJ)J"⟩ ∈ TB := TB_t (tq_4 (List.mem_of_getElem? (i := 225) rfl)) rfl
theorem tw_946 : Cond.methodLink "TopicBroker$Greeting" 105 ⟨"TopicBroker$Reader", "finish", "()V"⟩ ∈ TB := TB_t (tq_4 (List.mem_of_getElem? (i := 226) rfl)) rfl
theorem tw_947 : Cond.instanceMethod ⟨"TopicBroker$Reader", "finish", "()V"⟩ ∈ TB := TB_t (tq_4 (List.mem_of_getElem? (i := 227) rfl)) rfl
theorem tw_948 : Cond.selects "TopicBroker$Reader" ⟨"TopicBroker$Reader", "finish", "()V"⟩ ⟨"TopicBroker$Reader", "finish", "()V"⟩ ∈ TB := TB_t (tq_4 (List.mem_of_getElem? (i := 228) rfl)) rfl
theorem tw_949 : Cond.code ⟨"TopicBroker$Reader", "finish", "()V"⟩ prog_7_method_14_code 1 none ∈ TB := TB_t (tq_4 (List.mem_of_getElem? (i := 229) rfl)) rfl
theorem tw_950 : Cond.methodLink "TopicBroker$Reader" 63 ⟨"TopicBroker$Reader", "left", "()I"⟩ ∈ TB := TB_t (tq_4 (List.mem_of_getElem? (i := 230) rfl)) rfl
theorem tw_951 : Cond.methodLink "TopicBroker" 294 ⟨"TopicBroker", "greeted", "()I"⟩ ∈ TB := TB_t (tq_4 (List.mem_of_getElem? (i := 231) rfl)) rfl
theorem tw_953 : Cond.instanceMethod ⟨"TopicBroker", "greeted", "()I"⟩ ∈ TB := TB_t (tq_4 (List.mem_of_getElem? (i := 233) rfl)) rfl
theorem tw_954 : Cond.code ⟨"TopicBroker", "greeted", "()I"⟩ prog_1_method_31_code 1 (some .int) ∈ TB := TB_t (tq_4 (List.mem_of_getElem? (i := 234) rfl)) rfl
theorem tw_955 : Cond.methodLink "TopicBroker" 241 ⟨"TopicBroker", "countSessions", "()I"⟩ ∈ TB := TB_t (tq_4 (List.mem_of_getElem? (i := 235) rfl)) rfl
theorem tw_957 : Cond.instanceMethod ⟨"TopicBroker", "countSessions", "()I"⟩ ∈ TB := TB_t (tq_4 (List.mem_of_getElem? (i := 237) rfl)) rfl
theorem tw_958 : Cond.code ⟨"TopicBroker", "countSessions", "()I"⟩ prog_1_method_23_code 3 (some .int) ∈ TB := TB_t (tq_4 (List.mem_of_getElem? (i := 238) rfl)) rfl
theorem tw_959 : Cond.methodLink "TopicBroker" 363 ⟨"TopicBroker", "find", "(LTopicBroker$Row;)LTopicBroker$Session;"⟩ ∈ TB := TB_t (tq_4 (List.mem_of_getElem? (i := 239) rfl)) rfl
theorem tw_961 : Cond.instanceMethod ⟨"TopicBroker", "find", "(LTopicBroker$Row;)LTopicBroker$Session;"⟩ ∈ TB := TB_t (tq_5 (List.mem_of_getElem? (i := 1) rfl)) rfl
theorem tw_962 : Cond.code ⟨"TopicBroker", "find", "(LTopicBroker$Row;)LTopicBroker$Session;"⟩ prog_1_method_32_code 4 (some (.object "TopicBroker$Session")) ∈ TB := TB_t (tq_5 (List.mem_of_getElem? (i := 2) rfl)) rfl
theorem tw_963 : Cond.methodLink "TopicBroker" 367 ⟨"TopicBroker$Row", "same", "(LTopicBroker$Row;)Z"⟩ ∈ TB := TB_t (tq_5 (List.mem_of_getElem? (i := 3) rfl)) rfl
theorem tw_964 : Cond.instanceMethod ⟨"TopicBroker$Row", "same", "(LTopicBroker$Row;)Z"⟩ ∈ TB := TB_t (tq_5 (List.mem_of_getElem? (i := 4) rfl)) rfl
theorem tw_965 : Cond.selects "TopicBroker$Row" ⟨"TopicBroker$Row", "same", "(LTopicBroker$Row;)Z"⟩ ⟨"TopicBroker$Row", "same", "(LTopicBroker$Row;)Z"⟩ ∈ TB := TB_t (tq_5 (List.mem_of_getElem? (i := 5) rfl)) rfl
theorem tw_966 : Cond.code ⟨"TopicBroker$Row", "same", "(LTopicBroker$Row;)Z"⟩ prog_9_method_4_code 3 (some .boolean) ∈ TB := TB_t (tq_5 (List.mem_of_getElem? (i := 6) rfl)) rfl
theorem tw_967 : Cond.methodLink "TopicBroker" 359 ⟨"TopicBroker$Reader", "fail", "(I)V"⟩ ∈ TB := TB_t (tq_5 (List.mem_of_getElem? (i := 7) rfl)) rfl
theorem tw_968 : Cond.methodLink "TopicBroker" 297 ⟨"TopicBroker", "publish", "(LTopicBroker$Connection;LTopicBroker$Session;I)I"⟩ ∈ TB := TB_t (tq_5 (List.mem_of_getElem? (i := 8) rfl)) rfl
theorem tw_970 : Cond.instanceMethod ⟨"TopicBroker", "publish", "(LTopicBroker$Connection;LTopicBroker$Session;I)I"⟩ ∈ TB := TB_t (tq_5 (List.mem_of_getElem? (i := 10) rfl)) rfl
theorem tw_971 : Cond.code ⟨"TopicBroker", "publish", "(LTopicBroker$Connection;LTopicBroker$Session;I)I"⟩ prog_1_method_39_code 9 (some .int) ∈ TB := TB_t (tq_5 (List.mem_of_getElem? (i := 11) rfl)) rfl
theorem tw_972 : Cond.methodLink "TopicBroker" 451 ⟨"TopicBroker$Reader", "row", "(Z)LTopicBroker$Row;"⟩ ∈ TB := TB_t (tq_5 (List.mem_of_getElem? (i := 12) rfl)) rfl
theorem tw_973 : Cond.methodLink "TopicBroker" 178 ⟨"TopicBroker$Row", "count", "()I"⟩ ∈ TB := TB_t (tq_5 (List.mem_of_getElem? (i := 13) rfl)) rfl
theorem tw_974 : Cond.methodLink "TopicBroker" 455 ⟨"TopicBroker$Row", "isTopic", "()Z"⟩ ∈ TB := TB_t (tq_5 (List.mem_of_getElem? (i := 14) rfl)) rfl
theorem tw_975 : Cond.methodLink "TopicBroker" 459 ⟨"TopicBroker$Reader", "number", "()I"⟩ ∈ TB := TB_t (tq_5 (List.mem_of_getElem? (i := 15) rfl)) rfl
theorem tw_976 : Cond.instanceMethod ⟨"TopicBroker$Reader", "number", "()I"⟩ ∈ TB := TB_t (tq_5 (List.mem_of_getElem? (i := 16) rfl)) rfl
theorem tw_977 : Cond.selects "TopicBroker$Reader" ⟨"TopicBroker$Reader", "number", "()I"⟩ ⟨"TopicBroker$Reader", "number", "()I"⟩ ∈ TB := TB_t (tq_5 (List.mem_of_getElem? (i := 17) rfl)) rfl
theorem tw_978 : Cond.code ⟨"TopicBroker$Reader", "number", "()I"⟩ prog_7_method_11_code 2 (some .int) ∈ TB := TB_t (tq_5 (List.mem_of_getElem? (i := 18) rfl)) rfl
theorem tw_979 : Cond.methodLink "TopicBroker$Reader" 49 ⟨"TopicBroker$Reader", "two", "()I"⟩ ∈ TB := TB_t (tq_5 (List.mem_of_getElem? (i := 19) rfl)) rfl
theorem tw_980 : Cond.constantLong "TopicBroker" 461 (309237646094) ∈ TB := TB_t (tq_5 (List.mem_of_getElem? (i := 20) rfl)) rfl
theorem tw_981 : Cond.methodLink "TopicBroker" 353 ⟨"TopicBroker$Properties", "read", "(LTopicBroker$Reader;J)V"⟩ ∈ TB := TB_t (tq_5 (List.mem_of_getElem? (i := 21) rfl)) rfl
theorem tw_982 : Cond.methodLink "TopicBroker" 463 ⟨"TopicBroker$Properties", "checkResponse", "(LTopicBroker$Reader;)V"⟩ ∈ TB := TB_t (tq_5 (List.mem_of_getElem? (i := 22) rfl)) rfl
theorem tw_983 : Cond.methodLink "TopicBroker" 356 ⟨"TopicBroker$Properties", "get", "(IJ)J"⟩ ∈ TB := TB_t (tq_5 (List.mem_of_getElem? (i := 23) rfl)) rfl
theorem tw_984 : Cond.methodLink "TopicBroker" 467 ⟨"TopicBroker$Properties", "has", "(I)Z"⟩ ∈ TB := TB_t (tq_5 (List.mem_of_getElem? (i := 24) rfl)) rfl
theorem tw_985 : Cond.methodLink "TopicBroker" 471 ⟨"TopicBroker$Connection", "resolve", "(LTopicBroker$Row;I)LTopicBroker$Row;"⟩ ∈ TB := TB_t (tq_5 (List.mem_of_getElem? (i := 25) rfl)) rfl
theorem tw_986 : Cond.instanceMethod ⟨"TopicBroker$Connection", "resolve", "(LTopicBroker$Row;I)LTopicBroker$Row;"⟩ ∈ TB := TB_t (tq_5 (List.mem_of_getElem? (i := 26) rfl)) rfl
theorem tw_987 : Cond.selects "TopicBroker$Connection" ⟨"TopicBroker$Connection", "resolve", "(LTopicBroker$Row;I)LTopicBroker$Row;"⟩ ⟨"TopicBroker$Connection", "resolve", "(LTopicBroker$Row;I)LTopicBroker$Row;"⟩ ∈ TB := TB_t (tq_5 (List.mem_of_getElem? (i := 27) rfl)) rfl
theorem tw_988 : Cond.code ⟨"TopicBroker$Connection", "resolve", "(LTopicBroker$Row;I)LTopicBroker$Row;"⟩ prog_2_method_9_code 4 (some (.object "TopicBroker$Row")) ∈ TB := TB_t (tq_5 (List.mem_of_getElem? (i := 28) rfl)) rfl
theorem tw_989 : Cond.methodLink "TopicBroker$Connection" 79 ⟨"TopicBroker$Row", "count", "()I"⟩ ∈ TB := TB_t (tq_5 (List.mem_of_getElem? (i := 29) rfl)) rfl
theorem tw_990 : Cond.methodLink "TopicBroker" 475 ⟨"TopicBroker$Session", "holds", "(I)Z"⟩ ∈ TB := TB_t (tq_5 (List.mem_of_getElem? (i := 30) rfl)) rfl
theorem tw_991 : Cond.instanceMethod ⟨"TopicBroker$Session", "holds", "(I)Z"⟩ ∈ TB := TB_t (tq_5 (List.mem_of_getElem? (i := 31) rfl)) rfl
theorem tw_992 : Cond.selects "TopicBroker$Session" ⟨"TopicBroker$Session", "holds", "(I)Z"⟩ ⟨"TopicBroker$Session", "holds", "(I)Z"⟩ ∈ TB := TB_t (tq_5 (List.mem_of_getElem? (i := 32) rfl)) rfl
theorem tw_993 : Cond.code ⟨"TopicBroker$Session", "holds", "(I)Z"⟩ prog_10_method_13_code 3 (some .boolean) ∈ TB := TB_t (tq_5 (List.mem_of_getElem? (i := 33) rfl)) rfl
theorem tw_994 : Cond.methodLink "TopicBroker" 443 ⟨"TopicBroker", "answer", "(LTopicBroker$Connection;III)V"⟩ ∈ TB := TB_t (tq_5 (List.mem_of_getElem? (i := 34) rfl)) rfl
theorem tw_996 : Cond.instanceMethod ⟨"TopicBroker", "answer", "(LTopicBroker$Connection;III)V"⟩ ∈ TB := TB_t (tq_5 (List.mem_of_getElem? (i := 36) rfl)) rfl
theorem tw_997 : Cond.code ⟨"TopicBroker", "answer", "(LTopicBroker$Connection;III)V"⟩ prog_1_method_28_code 5 none ∈ TB := TB_t (tq_5 (List.mem_of_getElem? (i := 37) rfl)) rfl
theorem tw_998 : Cond.methodLink "TopicBroker" 322 ⟨"TopicBroker$Writer", "begin", "(I)V"⟩ ∈ TB := TB_t (tq_5 (List.mem_of_getElem? (i := 38) rfl)) rfl
theorem tw_999 : Cond.instanceMethod ⟨"TopicBroker$Writer", "begin", "(I)V"⟩ ∈ TB := TB_t (tq_5 (List.mem_of_getElem? (i := 39) rfl)) rfl
theorem tw_1000 : Cond.selects "TopicBroker$Writer" ⟨"TopicBroker$Writer", "begin", "(I)V"⟩ ⟨"TopicBroker$Writer", "begin", "(I)V"⟩ ∈ TB := TB_t (tq_5 (List.mem_of_getElem? (i := 40) rfl)) rfl
theorem tw_1001 : Cond.code ⟨"TopicBroker$Writer", "begin", "(I)V"⟩ prog_12_method_2_code 2 none ∈ TB := TB_t (tq_5 (List.mem_of_getElem? (i := 41) rfl)) rfl
theorem tw_1002 : Cond.methodLink "TopicBroker" 331 ⟨"TopicBroker$Writer", "two", "(I)V"⟩ ∈ TB := TB_t (tq_5 (List.mem_of_getElem? (i := 42) rfl)) rfl
theorem tw_1003 : Cond.instanceMethod ⟨"TopicBroker$Writer", "two", "(I)V"⟩ ∈ TB := TB_t (tq_5 (List.mem_of_getElem? (i := 43) rfl)) rfl
theorem tw_1004 : Cond.selects "TopicBroker$Writer" ⟨"TopicBroker$Writer", "two", "(I)V"⟩ ⟨"TopicBroker$Writer", "two", "(I)V"⟩ ∈ TB := TB_t (tq_5 (List.mem_of_getElem? (i := 44) rfl)) rfl
theorem tw_1005 : Cond.code ⟨"TopicBroker$Writer", "two", "(I)V"⟩ prog_12_method_4_code 2 none ∈ TB := TB_t (tq_5 (List.mem_of_getElem? (i := 45) rfl)) rfl
theorem tw_1006 : Cond.methodLink "TopicBroker" 324 ⟨"TopicBroker$Writer", "one", "(I)V"⟩ ∈ TB := TB_t (tq_5 (List.mem_of_getElem? (i := 46) rfl)) rfl
theorem tw_1007 : Cond.instanceMethod ⟨"TopicBroker$Writer", "one", "(I)V"⟩ ∈ TB := TB_t (tq_5 (List.mem_of_getElem? (i := 47) rfl)) rfl
theorem tw_1008 : Cond.selects "TopicBroker$Writer" ⟨"TopicBroker$Writer", "one", "(I)V"⟩ ⟨"TopicBroker$Writer", "one", "(I)V"⟩ ∈ TB := TB_t (tq_5 (List.mem_of_getElem? (i := 48) rfl)) rfl
theorem tw_1009 : Cond.code ⟨"TopicBroker$Writer", "one", "(I)V"⟩ prog_12_method_3_code 2 none ∈ TB := TB_t (tq_5 (List.mem_of_getElem? (i := 49) rfl)) rfl
theorem tw_1010 : Cond.methodLink "TopicBroker" 327 ⟨"TopicBroker$Connection", "put", "(LTopicBroker$Writer;)V"⟩ ∈ TB := TB_t (tq_5 (List.mem_of_getElem? (i := 50) rfl)) rfl
theorem tw_1011 : Cond.instanceMethod ⟨"TopicBroker$Connection", "put", "(LTopicBroker$Writer;)V"⟩ ∈ TB := TB_t (tq_5 (List.mem_of_getElem? (i := 51) rfl)) rfl
theorem tw_1012 : Cond.selects "TopicBroker$Connection" ⟨"TopicBroker$Connection", "put", "(LTopicBroker$Writer;)V"⟩ ⟨"TopicBroker$Connection", "put", "(LTopicBroker$Writer;)V"⟩ ∈ TB := TB_t (tq_5 (List.mem_of_getElem? (i := 52) rfl)) rfl
theorem tw_1013 : Cond.code ⟨"TopicBroker$Connection", "put", "(LTopicBroker$Writer;)V"⟩ prog_2_method_7_code 5 none ∈ TB := TB_t (tq_5 (List.mem_of_getElem? (i := 53) rfl)) rfl
theorem tw_1014 : Cond.methodLink "TopicBroker$Connection" 60 ⟨"TopicBroker$Writer", "width", "(I)I"⟩ ∈ TB := TB_t (tq_5 (List.mem_of_getElem? (i := 54) rfl)) rfl
theorem tw_1015 : Cond.instanceMethod ⟨"TopicBroker$Writer", "width", "(I)I"⟩ ∈ TB := TB_t (tq_5 (List.mem_of_getElem? (i := 55) rfl)) rfl
theorem tw_1016 : Cond.selects "TopicBroker$Writer" ⟨"TopicBroker$Writer", "width", "(I)I"⟩ ⟨"TopicBroker$Writer", "width", "(I)I"⟩ ∈ TB := TB_t (tq_5 (List.mem_of_getElem? (i := 56) rfl)) rfl
theorem tw_1017 : Cond.code ⟨"TopicBroker$Writer", "width", "(I)I"⟩ prog_12_method_8_code 2 (some .int) ∈ TB := TB_t (tq_5 (List.mem_of_getElem? (i := 57) rfl)) rfl
theorem tw_1018 : Cond.constant "TopicBroker$Writer" 27 (2097152) ∈ TB := TB_t (tq_5 (List.mem_of_getElem? (i := 58) rfl)) rfl
theorem tw_1019 : Cond.methodLink "TopicBroker$Connection" 70 ⟨"java/lang/System", "arraycopy", "(Ljava/lang/Object;ILjava/lang/Object;II)V"⟩ ∈ TB := TB_t (tq_5 (List.mem_of_getElem? (i := 59) rfl)) rfl
theorem tw_1020 : Cond.methodLink "TopicBroker" 478 ⟨"TopicBroker$Reader", "rest", "()LTopicBroker$Row;"⟩ ∈ TB := TB_t (tq_5 (List.mem_of_getElem? (i := 60) rfl)) rfl
theorem tw_1021 : Cond.instanceMethod ⟨"TopicBroker$Reader", "rest", "()LTopicBroker$Row;"⟩ ∈ TB := TB_t (tq_5 (List.mem_of_getElem? (i := 61) rfl)) rfl
theorem tw_1022 : Cond.selects "TopicBroker$Reader" ⟨"TopicBroker$Reader", "rest", "()LTopicBroker$Row;"⟩ ⟨"TopicBroker$Reader", "rest", "()LTopicBroker$Row;"⟩ ∈ TB := TB_t (tq_5 (List.mem_of_getElem? (i := 62) rfl)) rfl
theorem tw_1023 : Cond.code ⟨"TopicBroker$Reader", "rest", "()LTopicBroker$Row;"⟩ prog_7_method_13_code 1 (some (.object "TopicBroker$Row")) ∈ TB := TB_t (tq_5 (List.mem_of_getElem? (i := 63) rfl)) rfl
theorem tw_1024 : Cond.methodLink "TopicBroker" 481 ⟨"TopicBroker$Properties", "message", "(LTopicBroker$Row;LTopicBroker$Row;IZ)LTopicBroker$Message;"⟩ ∈ TB := TB_t (tq_5 (List.mem_of_getElem? (i := 64) rfl)) rfl
theorem tw_1025 : Cond.methodLink "TopicBroker" 488 ⟨"TopicBroker", "carry", "(LTopicBroker$Connection;LTopicBroker$Session;LTopicBroker$Message;I)V"⟩ ∈ TB := TB_t (tq_5 (List.mem_of_getElem? (i := 65) rfl)) rfl
theorem tw_1027 : Cond.instanceMethod ⟨"TopicBroker", "carry", "(LTopicBroker$Connection;LTopicBroker$Session;LTopicBroker$Message;I)V"⟩ ∈ TB := TB_t (tq_5 (List.mem_of_getElem? (i := 67) rfl)) rfl
theorem tw_1028 : Cond.code ⟨"TopicBroker", "carry", "(LTopicBroker$Connection;LTopicBroker$Session;LTopicBroker$Message;I)V"⟩ prog_1_method_40_code 6 none ∈ TB := TB_t (tq_5 (List.mem_of_getElem? (i := 68) rfl)) rfl
theorem tw_1029 : Cond.methodLink "TopicBroker" 495 ⟨"TopicBroker$Retained", "keep", "(LTopicBroker$Message;I)Z"⟩ ∈ TB := TB_t (tq_5 (List.mem_of_getElem? (i := 69) rfl)) rfl
theorem tw_1030 : Cond.instanceMethod ⟨"TopicBroker$Retained", "keep", "(LTopicBroker$Message;I)Z"⟩ ∈ TB := TB_t (tq_5 (List.mem_of_getElem? (i := 70) rfl)) rfl
theorem tw_1031 : Cond.selects "TopicBroker$Retained" ⟨"TopicBroker$Retained", "keep", "(LTopicBroker$Message;I)Z"⟩ ⟨"TopicBroker$Retained", "keep", "(LTopicBroker$Message;I)Z"⟩ ∈ TB := TB_t (tq_5 (List.mem_of_getElem? (i := 71) rfl)) rfl
theorem tw_1032 : Cond.code ⟨"TopicBroker$Retained", "keep", "(LTopicBroker$Message;I)Z"⟩ prog_8_method_3_code 4 (some .boolean) ∈ TB := TB_t (tq_5 (List.mem_of_getElem? (i := 72) rfl)) rfl
theorem tw_1033 : Cond.methodLink "TopicBroker$Retained" 25 ⟨"TopicBroker$Row", "same", "(LTopicBroker$Row;)Z"⟩ ∈ TB := TB_t (tq_5 (List.mem_of_getElem? (i := 73) rfl)) rfl
theorem tw_1034 : Cond.methodLink "TopicBroker$Retained" 34 ⟨"TopicBroker$Row", "count", "()I"⟩ ∈ TB := TB_t (tq_5 (List.mem_of_getElem? (i := 74) rfl)) rfl
theorem tw_1035 : Cond.methodLink "TopicBroker$Retained" 37 ⟨"TopicBroker$Retained", "discard", "(I)V"⟩ ∈ TB := TB_t (tq_5 (List.mem_of_getElem? (i := 75) rfl)) rfl
theorem tw_1036 : Cond.instanceMethod ⟨"TopicBroker$Retained", "discard", "(I)V"⟩ ∈ TB := TB_t (tq_5 (List.mem_of_getElem? (i := 76) rfl)) rfl
theorem tw_1037 : Cond.selects "TopicBroker$Retained" ⟨"TopicBroker$Retained", "discard", "(I)V"⟩ ⟨"TopicBroker$Retained", "discard", "(I)V"⟩ ∈ TB := TB_t (tq_5 (List.mem_of_getElem? (i := 77) rfl)) rfl
theorem tw_1038 : Cond.code ⟨"TopicBroker$Retained", "discard", "(I)V"⟩ prog_8_method_4_code 3 none ∈ TB := TB_t (tq_5 (List.mem_of_getElem? (i := 78) rfl)) rfl
theorem tw_1039 : Cond.methodLink "TopicBroker$Retained" 41 ⟨"java/lang/Math", "max", "(II)I"⟩ ∈ TB := TB_t (tq_5 (List.mem_of_getElem? (i := 79) rfl)) rfl
theorem tw_1040 : Cond.methodLink "TopicBroker$Retained" 47 ⟨"TopicBroker$Message", "isGone", "(I)Z"⟩ ∈ TB := TB_t (tq_5 (List.mem_of_getElem? (i := 80) rfl)) rfl
theorem tw_1041 : Cond.instanceMethod ⟨"TopicBroker$Message", "isGone", "(I)Z"⟩ ∈ TB := TB_t (tq_5 (List.mem_of_getElem? (i := 81) rfl)) rfl
theorem tw_1042 : Cond.selects "TopicBroker$Message" ⟨"TopicBroker$Message", "isGone", "(I)Z"⟩ ⟨"TopicBroker$Message", "isGone", "(I)Z"⟩ ∈ TB := TB_t (tq_5 (List.mem_of_getElem? (i := 82) rfl)) rfl
theorem tw_1043 : Cond.code ⟨"TopicBroker$Message", "isGone", "(I)Z"⟩ prog_5_method_3_code 2 (some .boolean) ∈ TB := TB_t (tq_5 (List.mem_of_getElem? (i := 83) rfl)) rfl
theorem tw_1044 : Cond.constantLong "TopicBroker$Message" 33 (-1) ∈ TB := TB_t (tq_5 (List.mem_of_getElem? (i := 84) rfl)) rfl
theorem tw_1045 : Cond.methodLink "TopicBroker$Message" 35 ⟨"TopicBroker$Message", "left", "(I)J"⟩ ∈ TB := TB_t (tq_5 (List.mem_of_getElem? (i := 85) rfl)) rfl
theorem tw_1046 : Cond.instanceMethod ⟨"TopicBroker$Message", "left", "(I)J"⟩ ∈ TB := TB_t (tq_5 (List.mem_of_getElem? (i := 86) rfl)) rfl
theorem tw_1047 : Cond.selects "TopicBroker$Message" ⟨"TopicBroker$Message", "left", "(I)J"⟩ ⟨"TopicBroker$Message", "left", "(I)J"⟩ ∈ TB := TB_t (tq_5 (List.mem_of_getElem? (i := 87) rfl)) rfl
theorem tw_1048 : Cond.code ⟨"TopicBroker$Message", "left", "(I)J"⟩ prog_5_method_2_code 4 (some .long) ∈ TB := TB_t (tq_5 (List.mem_of_getElem? (i := 88) rfl)) rfl
theorem tw_1049 : Cond.methodLink "TopicBroker" 498 ⟨"TopicBroker", "distribute", "(LTopicBroker$Message;LTopicBroker$Session;)Z"⟩ ∈ TB := TB_t (tq_5 (List.mem_of_getElem? (i := 89) rfl)) rfl
theorem tw_1051 : Cond.instanceMethod ⟨"TopicBroker", "distribute", "(LTopicBroker$Message;LTopicBroker$Session;)Z"⟩ ∈ TB := TB_t (tq_5 (List.mem_of_getElem? (i := 91) rfl)) rfl
theorem tw_1052 : Cond.code ⟨"TopicBroker", "distribute", "(LTopicBroker$Message;LTopicBroker$Session;)Z"⟩ prog_1_method_41_code 11 (some .boolean) ∈ TB := TB_t (tq_5 (List.mem_of_getElem? (i := 92) rfl)) rfl
theorem tw_1053 : Cond.methodLink "TopicBroker" 505 ⟨"TopicBroker$Subscription", "matches", "(LTopicBroker$Row;)Z"⟩ ∈ TB := TB_t (tq_5 (List.mem_of_getElem? (i := 93) rfl)) rfl
theorem tw_1054 : Cond.instanceMethod ⟨"TopicBroker$Subscription", "matches", "(LTopicBroker$Row;)Z"⟩ ∈ TB := TB_t (tq_5 (List.mem_of_getElem? (i := 94) rfl)) rfl
theorem tw_1055 : Cond.selects "TopicBroker$Subscription" ⟨"TopicBroker$Subscription", "matches", "(LTopicBroker$Row;)Z"⟩ ⟨"TopicBroker$Subscription", "matches", "(LTopicBroker$Row;)Z"⟩ ∈ TB := TB_t (tq_5 (List.mem_of_getElem? (i := 95) rfl)) rfl
theorem tw_1056 : Cond.code ⟨"TopicBroker$Subscription", "matches", "(LTopicBroker$Row;)Z"⟩ prog_11_method_3_code 6 (some .boolean) ∈ TB := TB_t (tq_5 (List.mem_of_getElem? (i := 96) rfl)) rfl
theorem tw_1057 : Cond.methodLink "TopicBroker$Subscription" 17 ⟨"TopicBroker$Row", "at", "(I)I"⟩ ∈ TB := TB_t (tq_5 (List.mem_of_getElem? (i := 97) rfl)) rfl
theorem tw_1058 : Cond.methodLink "TopicBroker$Subscription" 23 ⟨"TopicBroker$Row", "count", "()I"⟩ ∈ TB := TB_t (tq_5 (List.mem_of_getElem? (i := 98) rfl)) rfl
theorem tw_1059 : Cond.methodLink "TopicBroker" 508 ⟨"TopicBroker", "receiver", "(LTopicBroker$Session;LTopicBroker$Subscription;LTopicBroker$Session;)LTopicBroker$Session;"⟩ ∈ TB := TB_t (tq_5 (List.mem_of_getElem? (i := 99) rfl)) rfl
theorem tw_1061 : Cond.instanceMethod ⟨"TopicBroker", "receiver", "(LTopicBroker$Session;LTopicBroker$Subscription;LTopicBroker$Session;)LTopicBroker$Session;"⟩ ∈ TB := TB_t (tq_5 (List.mem_of_getElem? (i := 101) rfl)) rfl
theorem tw_1062 : Cond.code ⟨"TopicBroker", "receiver", "(LTopicBroker$Session;LTopicBroker$Subscription;LTopicBroker$Session;)LTopicBroker$Session;"⟩ prog_1_method_42_code 12 (some (.object "TopicBroker$Session")) ∈ TB := TB_t (tq_5 (List.mem_of_getElem? (i := 102) rfl)) rfl
theorem tw_1063 : Cond.methodLink "TopicBroker" 520 ⟨"TopicBroker$Subscription", "isShared", "()Z"⟩ ∈ TB := TB_t (tq_5 (List.mem_of_getElem? (i := 103) rfl)) rfl
theorem tw_1064 : Cond.instanceMethod ⟨"TopicBroker$Subscription", "isShared", "()Z"⟩ ∈ TB := TB_t (tq_5 (List.mem_of_getElem? (i := 104) rfl)) rfl
theorem tw_1065 : Cond.selects "TopicBroker$Subscription" ⟨"TopicBroker$Subscription", "isShared", "()Z"⟩ ⟨"TopicBroker$Subscription", "isShared", "()Z"⟩ ∈ TB := TB_t (tq_5 (List.mem_of_getElem? (i := 105) rfl)) rfl
theorem tw_1066 : Cond.code ⟨"TopicBroker$Subscription", "isShared", "()Z"⟩ prog_11_method_2_code 1 (some .boolean) ∈ TB := TB_t (tq_5 (List.mem_of_getElem? (i := 106) rfl)) rfl
theorem tw_1067 : Cond.methodLink "TopicBroker" 512 ⟨"TopicBroker$Session", "indexOf", "(LTopicBroker$Row;)I"⟩ ∈ TB := TB_t (tq_5 (List.mem_of_getElem? (i := 107) rfl)) rfl
theorem tw_1068 : Cond.instanceMethod ⟨"TopicBroker$Session", "indexOf", "(LTopicBroker$Row;)I"⟩ ∈ TB := TB_t (tq_5 (List.mem_of_getElem? (i := 108) rfl)) rfl
theorem tw_1069 : Cond.selects "TopicBroker$Session" ⟨"TopicBroker$Session", "indexOf", "(LTopicBroker$Row;)I"⟩ ⟨"TopicBroker$Session", "indexOf", "(LTopicBroker$Row;)I"⟩ ∈ TB := TB_t (tq_5 (List.mem_of_getElem? (i := 109) rfl)) rfl
theorem tw_1070 : Cond.code ⟨"TopicBroker$Session", "indexOf", "(LTopicBroker$Row;)I"⟩ prog_10_method_2_code 3 (some .int) ∈ TB := TB_t (tq_5 (List.mem_of_getElem? (i := 110) rfl)) rfl
theorem tw_1071 : Cond.methodLink "TopicBroker$Session" 44 ⟨"TopicBroker$Row", "same", "(LTopicBroker$Row;)Z"⟩ ∈ TB := TB_t (tq_5 (List.mem_of_getElem? (i := 111) rfl)) rfl
theorem tw_1072 : Cond.methodLink "TopicBroker" 516 ⟨"TopicBroker", "hand", "(LTopicBroker$Session;LTopicBroker$Subscription;LTopicBroker$Message;Z)LTopicBroker$Delivery;"⟩ ∈ TB := TB_t (tq_5 (List.mem_of_getElem? (i := 112) rfl)) rfl
theorem tw_1074 : Cond.instanceMethod ⟨"TopicBroker", "hand", "(LTopicBroker$Session;LTopicBroker$Subscription;LTopicBroker$Message;Z)LTopicBroker$Delivery;"⟩ ∈ TB := TB_t (tq_5 (List.mem_of_getElem? (i := 114) rfl)) rfl
theorem tw_1075 : Cond.code ⟨"TopicBroker", "hand", "(LTopicBroker$Session;LTopicBroker$Subscription;LTopicBroker$Message;Z)LTopicBroker$Delivery;"⟩ prog_1_method_43_code 9 (some (.object "TopicBroker$Delivery")) ∈ TB := TB_t (tq_5 (List.mem_of_getElem? (i := 115) rfl)) rfl
theorem tw_1076 : Cond.methodLink "TopicBroker" 119 ⟨"java/lang/Math", "min", "(II)I"⟩ ∈ TB := TB_t (tq_5 (List.mem_of_getElem? (i := 116) rfl)) rfl
theorem tw_1077 : Cond.methodLink "TopicBroker" 525 ⟨"TopicBroker$Session", "maySend", "()Z"⟩ ∈ TB := TB_t (tq_5 (List.mem_of_getElem? (i := 117) rfl)) rfl
theorem tw_1078 : Cond.instanceMethod ⟨"TopicBroker$Session", "maySend", "()Z"⟩ ∈ TB := TB_t (tq_5 (List.mem_of_getElem? (i := 118) rfl)) rfl
theorem tw_1079 : Cond.selects "TopicBroker$Session" ⟨"TopicBroker$Session", "maySend", "()Z"⟩ ⟨"TopicBroker$Session", "maySend", "()Z"⟩ ∈ TB := TB_t (tq_5 (List.mem_of_getElem? (i := 119) rfl)) rfl
theorem tw_1080 : Cond.code ⟨"TopicBroker$Session", "maySend", "()Z"⟩ prog_10_method_6_code 1 (some .boolean) ∈ TB := TB_t (tq_5 (List.mem_of_getElem? (i := 120) rfl)) rfl
theorem tw_1081 : Cond.methodLink "TopicBroker$Session" 77 ⟨"java/lang/Math", "min", "(II)I"⟩ ∈ TB := TB_t (tq_5 (List.mem_of_getElem? (i := 121) rfl)) rfl
theorem tw_1082 : Cond.methodLink "TopicBroker" 528 ⟨"TopicBroker$Message", "isGone", "(I)Z"⟩ ∈ TB := TB_t (tq_5 (List.mem_of_getElem? (i := 122) rfl)) rfl
theorem tw_1083 : Cond.methodLink "TopicBroker" 531 ⟨"TopicBroker$Delivery", "become", "(LTopicBroker$Message;IZI)V"⟩ ∈ TB := TB_t (tq_5 (List.mem_of_getElem? (i := 123) rfl)) rfl
theorem tw_1084 : Cond.instanceMethod ⟨"TopicBroker$Delivery", "become", "(LTopicBroker$Message;IZI)V"⟩ ∈ TB := TB_t (tq_5 (List.mem_of_getElem? (i := 124) rfl)) rfl
theorem tw_1085 : Cond.selects "TopicBroker$Delivery" ⟨"TopicBroker$Delivery", "become", "(LTopicBroker$Message;IZI)V"⟩ ⟨"TopicBroker$Delivery", "become", "(LTopicBroker$Message;IZI)V"⟩ ∈ TB := TB_t (tq_5 (List.mem_of_getElem? (i := 125) rfl)) rfl
theorem tw_1086 : Cond.code ⟨"TopicBroker$Delivery", "become", "(LTopicBroker$Message;IZI)V"⟩ prog_3_method_2_code 5 none ∈ TB := TB_t (tq_5 (List.mem_of_getElem? (i := 126) rfl)) rfl
theorem tw_1087 : Cond.methodLink "TopicBroker" 535 ⟨"TopicBroker$Session", "queue", "(LTopicBroker$Delivery;)V"⟩ ∈ TB := TB_t (tq_5 (List.mem_of_getElem? (i := 127) rfl)) rfl
theorem tw_1088 : Cond.instanceMethod ⟨"TopicBroker$Session", "queue", "(LTopicBroker$Delivery;)V"⟩ ∈ TB := TB_t (tq_5 (List.mem_of_getElem? (i := 128) rfl)) rfl
theorem tw_1089 : Cond.selects "TopicBroker$Session" ⟨"TopicBroker$Session", "queue", "(LTopicBroker$Delivery;)V"⟩ ⟨"TopicBroker$Session", "queue", "(LTopicBroker$Delivery;)V"⟩ ∈ TB := TB_t (tq_5 (List.mem_of_getElem? (i := 129) rfl)) rfl
theorem tw_1090 : Cond.code ⟨"TopicBroker$Session", "queue", "(LTopicBroker$Delivery;)V"⟩ prog_10_method_11_code 2 none ∈ TB := TB_t (tq_5 (List.mem_of_getElem? (i := 130) rfl)) rfl
theorem tw_1091 : Cond.methodLink "TopicBroker" 539 ⟨"TopicBroker$Session", "depart", "(LTopicBroker$Delivery;)V"⟩ ∈ TB := TB_t (tq_5 (List.mem_of_getElem? (i := 131) rfl)) rfl
theorem tw_1092 : Cond.instanceMethod ⟨"TopicBroker$Session", "depart", "(LTopicBroker$Delivery;)V"⟩ ∈ TB := TB_t (tq_5 (List.mem_of_getElem? (i := 132) rfl)) rfl
theorem tw_1093 : Cond.selects "TopicBroker$Session" ⟨"TopicBroker$Session", "depart", "(LTopicBroker$Delivery;)V"⟩ ⟨"TopicBroker$Session", "depart", "(LTopicBroker$Delivery;)V"⟩ ∈ TB := TB_t (tq_5 (List.mem_of_getElem? (i := 133) rfl)) rfl
theorem tw_1094 : Cond.code ⟨"TopicBroker$Session", "depart", "(LTopicBroker$Delivery;)V"⟩ prog_10_method_9_code 3 none ∈ TB := TB_t (tq_5 (List.mem_of_getElem? (i := 134) rfl)) rfl
theorem tw_1095 : Cond.methodLink "TopicBroker$Session" 87 ⟨"TopicBroker$Session", "isUsed", "(I)Z"⟩ ∈ TB := TB_t (tq_5 (List.mem_of_getElem? (i := 135) rfl)) rfl
theorem tw_1096 : Cond.instanceMethod ⟨"TopicBroker$Session", "isUsed", "(I)Z"⟩ ∈ TB := TB_t (tq_5 (List.mem_of_getElem? (i := 136) rfl)) rfl
theorem tw_1097 : Cond.selects "TopicBroker$Session" ⟨"TopicBroker$Session", "isUsed", "(I)Z"⟩ ⟨"TopicBroker$Session", "isUsed", "(I)Z"⟩ ∈ TB := TB_t (tq_5 (List.mem_of_getElem? (i := 137) rfl)) rfl
theorem tw_1098 : Cond.code ⟨"TopicBroker$Session", "isUsed", "(I)Z"⟩ prog_10_method_8_code 3 (some .boolean) ∈ TB := TB_t (tq_5 (List.mem_of_getElem? (i := 138) rfl)) rfl
theorem tw_1099 : Cond.methodLink "TopicBroker" 447 ⟨"TopicBroker", "deliver", "(LTopicBroker$Session;LTopicBroker$Delivery;Z)V"⟩ ∈ TB := TB_t (tq_5 (List.mem_of_getElem? (i := 139) rfl)) rfl
theorem tw_1101 : Cond.instanceMethod ⟨"TopicBroker", "deliver", "(LTopicBroker$Session;LTopicBroker$Delivery;Z)V"⟩ ∈ TB := TB_t (tq_5 (List.mem_of_getElem? (i := 141) rfl)) rfl
theorem tw_1102 : Cond.code ⟨"TopicBroker", "deliver", "(LTopicBroker$Session;LTopicBroker$Delivery;Z)V"⟩ prog_1_method_44_code 4 none ∈ TB := TB_t (tq_5 (List.mem_of_getElem? (i := 142) rfl)) rfl
theorem tw_1103 : Cond.methodLink "TopicBroker" 542 ⟨"TopicBroker$Writer", "publish", "(LTopicBroker$Delivery;ZI)V"⟩ ∈ TB := TB_t (tq_5 (List.mem_of_getElem? (i := 143) rfl)) rfl
theorem tw_1104 : Cond.instanceMethod ⟨"TopicBroker$Writer", "publish", "(LTopicBroker$Delivery;ZI)V"⟩ ∈ TB := TB_t (tq_5 (List.mem_of_getElem? (i := 144) rfl)) rfl
theorem tw_1105 : Cond.selects "TopicBroker$Writer" ⟨"TopicBroker$Writer", "publish", "(LTopicBroker$Delivery;ZI)V"⟩ ⟨"TopicBroker$Writer", "publish", "(LTopicBroker$Delivery;ZI)V"⟩ ∈ TB := TB_t (tq_5 (List.mem_of_getElem? (i := 145) rfl)) rfl
theorem tw_1106 : Cond.code ⟨"TopicBroker$Writer", "publish", "(LTopicBroker$Delivery;ZI)V"⟩ prog_12_method_10_code 7 none ∈ TB := TB_t (tq_5 (List.mem_of_getElem? (i := 146) rfl)) rfl
theorem tw_1107 : Cond.methodLink "TopicBroker$Writer" 45 ⟨"TopicBroker$Writer", "begin", "(I)V"⟩ ∈ TB := TB_t (tq_5 (List.mem_of_getElem? (i := 147) rfl)) rfl
theorem tw_1108 : Cond.methodLink "TopicBroker$Writer" 55 ⟨"TopicBroker$Row", "count", "()I"⟩ ∈ TB := TB_t (tq_5 (List.mem_of_getElem? (i := 148) rfl)) rfl
theorem tw_1109 : Cond.methodLink "TopicBroker$Writer" 58 ⟨"TopicBroker$Writer", "two", "(I)V"⟩ ∈ TB := TB_t (tq_5 (List.mem_of_getElem? (i := 149) rfl)) rfl
theorem tw_1110 : Cond.methodLink "TopicBroker$Writer" 61 ⟨"TopicBroker$Writer", "raw", "(LTopicBroker$Row;)V"⟩ ∈ TB := TB_t (tq_5 (List.mem_of_getElem? (i := 150) rfl)) rfl
theorem tw_1111 : Cond.instanceMethod ⟨"TopicBroker$Writer", "raw", "(LTopicBroker$Row;)V"⟩ ∈ TB := TB_t (tq_5 (List.mem_of_getElem? (i := 151) rfl)) rfl
theorem tw_1112 : Cond.selects "TopicBroker$Writer" ⟨"TopicBroker$Writer", "raw", "(LTopicBroker$Row;)V"⟩ ⟨"TopicBroker$Writer", "raw", "(LTopicBroker$Row;)V"⟩ ∈ TB := TB_t (tq_5 (List.mem_of_getElem? (i := 152) rfl)) rfl
theorem tw_1113 : Cond.code ⟨"TopicBroker$Writer", "raw", "(LTopicBroker$Row;)V"⟩ prog_12_method_7_code 3 none ∈ TB := TB_t (tq_5 (List.mem_of_getElem? (i := 153) rfl)) rfl
theorem tw_1114 : Cond.constantLong "TopicBroker$Writer" 72 (-1) ∈ TB := TB_t (tq_5 (List.mem_of_getElem? (i := 154) rfl)) rfl
theorem tw_1115 : Cond.methodLink "TopicBroker$Writer" 28 ⟨"TopicBroker$Writer", "width", "(I)I"⟩ ∈ TB := TB_t (tq_5 (List.mem_of_getElem? (i := 155) rfl)) rfl
theorem tw_1116 : Cond.methodLink "TopicBroker$Writer" 86 ⟨"TopicBroker$Writer", "variable", "(I)V"⟩ ∈ TB := TB_t (tq_5 (List.mem_of_getElem? (i := 156) rfl)) rfl
theorem tw_1117 : Cond.instanceMethod ⟨"TopicBroker$Writer", "variable", "(I)V"⟩ ∈ TB := TB_t (tq_5 (List.mem_of_getElem? (i := 157) rfl)) rfl
theorem tw_1118 : Cond.selects "TopicBroker$Writer" ⟨"TopicBroker$Writer", "variable", "(I)V"⟩ ⟨"TopicBroker$Writer", "variable", "(I)V"⟩ ∈ TB := TB_t (tq_5 (List.mem_of_getElem? (i := 158) rfl)) rfl
theorem tw_1119 : Cond.code ⟨"TopicBroker$Writer", "variable", "(I)V"⟩ prog_12_method_6_code 4 none ∈ TB := TB_t (tq_5 (List.mem_of_getElem? (i := 159) rfl)) rfl
theorem tw_1120 : Cond.methodLink "TopicBroker$Writer" 89 ⟨"TopicBroker$Writer", "one", "(I)V"⟩ ∈ TB := TB_t (tq_5 (List.mem_of_getElem? (i := 160) rfl)) rfl
theorem tw_1121 : Cond.methodLink "TopicBroker$Writer" 92 ⟨"TopicBroker$Message", "left", "(I)J"⟩ ∈ TB := TB_t (tq_5 (List.mem_of_getElem? (i := 161) rfl)) rfl
theorem tw_1122 : Cond.methodLink "TopicBroker$Writer" 96 ⟨"TopicBroker$Writer", "four", "(J)V"⟩ ∈ TB := TB_t (tq_5 (List.mem_of_getElem? (i := 162) rfl)) rfl
theorem tw_1123 : Cond.instanceMethod ⟨"TopicBroker$Writer", "four", "(J)V"⟩ ∈ TB := TB_t (tq_5 (List.mem_of_getElem? (i := 163) rfl)) rfl
theorem tw_1124 : Cond.selects "TopicBroker$Writer" ⟨"TopicBroker$Writer", "four", "(J)V"⟩ ⟨"TopicBroker$Writer", "four", "(J)V"⟩ ∈ TB := TB_t (tq_5 (List.mem_of_getElem? (i := 164) rfl)) rfl
theorem tw_1125 : Cond.code ⟨"TopicBroker$Writer", "four", "(J)V"⟩ prog_12_method_5_code 4 none ∈ TB := TB_t (tq_5 (List.mem_of_getElem? (i := 165) rfl)) rfl
theorem tw_1126 : Cond.constantLong "TopicBroker" 233 (-1) ∈ TB := TB_t (tq_5 (List.mem_of_getElem? (i := 166) rfl)) rfl
theorem tw_1127 : Cond.methodLink "TopicBroker" 548 ⟨"TopicBroker$Writer", "total", "()I"⟩ ∈ TB := TB_t (tq_5 (List.mem_of_getElem? (i := 167) rfl)) rfl
theorem tw_1128 : Cond.instanceMethod ⟨"TopicBroker$Writer", "total", "()I"⟩ ∈ TB := TB_t (tq_5 (List.mem_of_getElem? (i := 168) rfl)) rfl
theorem tw_1129 : Cond.selects "TopicBroker$Writer" ⟨"TopicBroker$Writer", "total", "()I"⟩ ⟨"TopicBroker$Writer", "total", "()I"⟩ ∈ TB := TB_t (tq_5 (List.mem_of_getElem? (i := 169) rfl)) rfl
theorem tw_1130 : Cond.code ⟨"TopicBroker$Writer", "total", "()I"⟩ prog_12_method_9_code 1 (some .int) ∈ TB := TB_t (tq_5 (List.mem_of_getElem? (i := 170) rfl)) rfl
theorem tw_1131 : Cond.methodLink "TopicBroker" 551 ⟨"TopicBroker$Session", "arrive", "(LTopicBroker$Delivery;)V"⟩ ∈ TB := TB_t (tq_5 (List.mem_of_getElem? (i := 171) rfl)) rfl
theorem tw_1132 : Cond.instanceMethod ⟨"TopicBroker$Session", "arrive", "(LTopicBroker$Delivery;)V"⟩ ∈ TB := TB_t (tq_5 (List.mem_of_getElem? (i := 172) rfl)) rfl
theorem tw_1133 : Cond.selects "TopicBroker$Session" ⟨"TopicBroker$Session", "arrive", "(LTopicBroker$Delivery;)V"⟩ ⟨"TopicBroker$Session", "arrive", "(LTopicBroker$Delivery;)V"⟩ ∈ TB := TB_t (tq_5 (List.mem_of_getElem? (i := 173) rfl)) rfl
theorem tw_1134 : Cond.code ⟨"TopicBroker$Session", "arrive", "(LTopicBroker$Delivery;)V"⟩ prog_10_method_10_code 4 none ∈ TB := TB_t (tq_5 (List.mem_of_getElem? (i := 174) rfl)) rfl
theorem tw_1135 : Cond.methodLink "TopicBroker" 502 ⟨"TopicBroker$Session", "hold", "(I)V"⟩ ∈ TB := TB_t (tq_5 (List.mem_of_getElem? (i := 175) rfl)) rfl
theorem tw_1136 : Cond.instanceMethod ⟨"TopicBroker$Session", "hold", "(I)V"⟩ ∈ TB := TB_t (tq_5 (List.mem_of_getElem? (i := 176) rfl)) rfl
theorem tw_1137 : Cond.selects "TopicBroker$Session" ⟨"TopicBroker$Session", "hold", "(I)V"⟩ ⟨"TopicBroker$Session", "hold", "(I)V"⟩ ∈ TB := TB_t (tq_5 (List.mem_of_getElem? (i := 177) rfl)) rfl
theorem tw_1138 : Cond.code ⟨"TopicBroker$Session", "hold", "(I)V"⟩ prog_10_method_14_code 2 none ∈ TB := TB_t (tq_5 (List.mem_of_getElem? (i := 178) rfl)) rfl
theorem tw_1139 : Cond.methodLink "TopicBroker" 301 ⟨"TopicBroker", "answered", "(LTopicBroker$Connection;LTopicBroker$Session;II)I"⟩ ∈ TB := TB_t (tq_5 (List.mem_of_getElem? (i := 179) rfl)) rfl
theorem tw_1141 : Cond.instanceMethod ⟨"TopicBroker", "answered", "(LTopicBroker$Connection;LTopicBroker$Session;II)I"⟩ ∈ TB := TB_t (tq_5 (List.mem_of_getElem? (i := 181) rfl)) rfl
theorem tw_1142 : Cond.code ⟨"TopicBroker", "answered", "(LTopicBroker$Connection;LTopicBroker$Session;II)I"⟩ prog_1_method_46_code 8 (some .int) ∈ TB := TB_t (tq_5 (List.mem_of_getElem? (i := 182) rfl)) rfl
theorem tw_1143 : Cond.methodLink "TopicBroker" 334 ⟨"TopicBroker$Reader", "expect", "(II)V"⟩ ∈ TB := TB_t (tq_5 (List.mem_of_getElem? (i := 183) rfl)) rfl
theorem tw_1144 : Cond.methodLink "TopicBroker" 347 ⟨"TopicBroker$Reader", "left", "()I"⟩ ∈ TB := TB_t (tq_5 (List.mem_of_getElem? (i := 184) rfl)) rfl
theorem tw_1145 : Cond.methodLink "TopicBroker" 349 ⟨"TopicBroker$Reader", "one", "()I"⟩ ∈ TB := TB_t (tq_5 (List.mem_of_getElem? (i := 185) rfl)) rfl
theorem tw_1146 : Cond.constantLong "TopicBroker" 560 (277025390592) ∈ TB := TB_t (tq_5 (List.mem_of_getElem? (i := 186) rfl)) rfl
theorem tw_1147 : Cond.methodLink "TopicBroker" 338 ⟨"TopicBroker$Reader", "finish", "()V"⟩ ∈ TB := TB_t (tq_5 (List.mem_of_getElem? (i := 187) rfl)) rfl
theorem tw_1148 : Cond.methodLink "TopicBroker" 562 ⟨"TopicBroker", "received", "(LTopicBroker$Connection;LTopicBroker$Session;II)V"⟩ ∈ TB := TB_t (tq_5 (List.mem_of_getElem? (i := 188) rfl)) rfl
theorem tw_1150 : Cond.instanceMethod ⟨"TopicBroker", "received", "(LTopicBroker$Connection;LTopicBroker$Session;II)V"⟩ ∈ TB := TB_t (tq_5 (List.mem_of_getElem? (i := 190) rfl)) rfl
theorem tw_1151 : Cond.code ⟨"TopicBroker", "received", "(LTopicBroker$Connection;LTopicBroker$Session;II)V"⟩ prog_1_method_47_code 6 none ∈ TB := TB_t (tq_5 (List.mem_of_getElem? (i := 191) rfl)) rfl
theorem tw_1152 : Cond.methodLink "TopicBroker" 569 ⟨"TopicBroker$Session", "onTheWay", "(II)LTopicBroker$Delivery;"⟩ ∈ TB := TB_t (tq_5 (List.mem_of_getElem? (i := 192) rfl)) rfl
theorem tw_1153 : Cond.instanceMethod ⟨"TopicBroker$Session", "onTheWay", "(II)LTopicBroker$Delivery;"⟩ ∈ TB := TB_t (tq_5 (List.mem_of_getElem? (i := 193) rfl)) rfl
theorem tw_1154 : Cond.selects "TopicBroker$Session" ⟨"TopicBroker$Session", "onTheWay", "(II)LTopicBroker$Delivery;"⟩ ⟨"TopicBroker$Session", "onTheWay", "(II)LTopicBroker$Delivery;"⟩ ∈ TB := TB_t (tq_5 (List.mem_of_getElem? (i := 194) rfl)) rfl
theorem tw_1155 : Cond.code ⟨"TopicBroker$Session", "onTheWay", "(II)LTopicBroker$Delivery;"⟩ prog_10_method_7_code 4 (some (.object "TopicBroker$Delivery")) ∈ TB := TB_t (tq_5 (List.mem_of_getElem? (i := 195) rfl)) rfl
theorem tw_1156 : Cond.methodLink "TopicBroker" 396 ⟨"TopicBroker", "goOn", "(LTopicBroker$Session;)V"⟩ ∈ TB := TB_t (tq_5 (List.mem_of_getElem? (i := 196) rfl)) rfl
theorem tw_1158 : Cond.instanceMethod ⟨"TopicBroker", "goOn", "(LTopicBroker$Session;)V"⟩ ∈ TB := TB_t (tq_5 (List.mem_of_getElem? (i := 198) rfl)) rfl
theorem tw_1159 : Cond.code ⟨"TopicBroker", "goOn", "(LTopicBroker$Session;)V"⟩ prog_1_method_45_code 4 none ∈ TB := TB_t (tq_5 (List.mem_of_getElem? (i := 199) rfl)) rfl
