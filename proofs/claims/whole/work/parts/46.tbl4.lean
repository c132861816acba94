set_option maxRecDepth 20000 in
theorem gl_800 : Cond.selects RX11 yX11_holds yX11_holds ∈ lw_tbl := by decide +kernel
set_option maxRecDepth 20000 in
theorem gl_801 : Cond.methodLink RX11 226 yX11_does ∈ lw_tbl := by decide +kernel
set_option maxRecDepth 20000 in
theorem gl_802 : Cond.instanceMethod yX11_does ∈ lw_tbl := by decide +kernel
set_option maxRecDepth 20000 in
theorem gl_803 : Cond.selects RX11 yX11_does yX11_does ∈ lw_tbl := by decide +kernel
set_option maxRecDepth 20000 in
theorem gl_804 : Cond.code yX11_obeys cX11_obeys 3 none ∈ lw_tbl := List.mem_of_getElem? (i := 1143) rfl
set_option maxRecDepth 20000 in
theorem gl_805 : Cond.code yX11_freezes cX11_freezes 7 none ∈ lw_tbl := List.mem_of_getElem? (i := 1189) rfl
set_option maxRecDepth 20000 in
theorem gl_806 : Cond.code yX11_drifts cX11_drifts 6 none ∈ lw_tbl := List.mem_of_getElem? (i := 1193) rfl
set_option maxRecDepth 20000 in
theorem gl_807 : Cond.methodLink RX11 229 yX11_obeys ∈ lw_tbl := by decide +kernel
set_option maxRecDepth 20000 in
theorem gl_808 : Cond.instanceMethod yX11_obeys ∈ lw_tbl := by decide +kernel
set_option maxRecDepth 20000 in
theorem gl_809 : Cond.selects RX11 yX11_obeys yX11_obeys ∈ lw_tbl := by decide +kernel
set_option maxRecDepth 20000 in
theorem gl_810 : Cond.methodLink RX11 232 yX11_freezes ∈ lw_tbl := by decide +kernel
set_option maxRecDepth 20000 in
theorem gl_811 : Cond.instanceMethod yX11_freezes ∈ lw_tbl := by decide +kernel
set_option maxRecDepth 20000 in
theorem gl_812 : Cond.selects RX11 yX11_freezes yX11_freezes ∈ lw_tbl := by decide +kernel
set_option maxRecDepth 20000 in
theorem gl_813 : Cond.methodLink RX11 235 yX11_drifts ∈ lw_tbl := by decide +kernel
set_option maxRecDepth 20000 in
theorem gl_814 : Cond.instanceMethod yX11_drifts ∈ lw_tbl := by decide +kernel
set_option maxRecDepth 20000 in
theorem gl_815 : Cond.selects RX11 yX11_drifts yX11_drifts ∈ lw_tbl := by decide +kernel
set_option maxRecDepth 20000 in
theorem gl_816 : Cond.code yX11_anHour cX11_anHour 6 none ∈ lw_tbl := List.mem_of_getElem? (i := 1139) rfl
set_option maxRecDepth 20000 in
theorem gl_817 : Cond.code yX11_mayGo cX11_mayGo 2 (some .boolean) ∈ lw_tbl := List.mem_of_getElem? (i := 1135) rfl
set_option maxRecDepth 20000 in
theorem gl_818 : Cond.methodLink RX11 238 yX11_mayGo ∈ lw_tbl := by decide +kernel
set_option maxRecDepth 20000 in
theorem gl_819 : Cond.instanceMethod yX11_mayGo ∈ lw_tbl := by decide +kernel
set_option maxRecDepth 20000 in
theorem gl_820 : Cond.selects RX11 yX11_mayGo yX11_mayGo ∈ lw_tbl := by decide +kernel
set_option maxRecDepth 20000 in
theorem gl_821 : Cond.methodLink RX11 241 yX11_anHour ∈ lw_tbl := by decide +kernel
set_option maxRecDepth 20000 in
theorem gl_822 : Cond.instanceMethod yX11_anHour ∈ lw_tbl := by decide +kernel
set_option maxRecDepth 20000 in
theorem gl_823 : Cond.selects RX11 yX11_anHour yX11_anHour ∈ lw_tbl := by decide +kernel
set_option maxRecDepth 20000 in
theorem gl_824 : Cond.code yX11_hours cX11_hours 3 (some .int) ∈ lw_tbl := List.mem_of_getElem? (i := 1131) rfl
set_option maxRecDepth 20000 in
theorem gl_825 : Cond.code yX11_iceOf cX11_iceOf 5 (some .int) ∈ lw_tbl := List.mem_of_getElem? (i := 1205) rfl
set_option maxRecDepth 20000 in
theorem gl_826 : Cond.code yX11_copies cX11_copies 4 none ∈ lw_tbl := List.mem_of_getElem? (i := 1201) rfl
set_option maxRecDepth 20000 in
theorem gl_827 : Cond.methodLink RX11 244 yX11_copies ∈ lw_tbl := by decide +kernel
set_option maxRecDepth 20000 in
theorem gl_828 : Cond.instanceMethod yX11_copies ∈ lw_tbl := by decide +kernel
set_option maxRecDepth 20000 in
theorem gl_829 : Cond.selects RX11 yX11_copies yX11_copies ∈ lw_tbl := by decide +kernel
set_option maxRecDepth 20000 in
theorem gl_830 : Cond.methodLink RX11 247 yX11_iceOf ∈ lw_tbl := by decide +kernel
set_option maxRecDepth 20000 in
theorem gl_831 : Cond.instanceMethod yX11_iceOf ∈ lw_tbl := by decide +kernel
set_option maxRecDepth 20000 in
theorem gl_832 : Cond.selects RX11 yX11_iceOf yX11_iceOf ∈ lw_tbl := by decide +kernel
set_option maxRecDepth 20000 in
theorem gl_833 : Cond.code yX11_ahead cX11_ahead 5 (some .int) ∈ lw_tbl := List.mem_of_getElem? (i := 1197) rfl
set_option maxRecDepth 20000 in
theorem gl_834 : Cond.code yX11_cell cX11_cell 4 (some .int) ∈ lw_tbl := List.mem_of_getElem? (i := 1209) rfl
set_option maxRecDepth 20000 in
theorem gl_835 : Cond.code yX11_tell cX11_tell 3 (some .int) ∈ lw_tbl := List.mem_of_getElem? (i := 1213) rfl
set_option maxRecDepth 20000 in
theorem gl_836 : Cond.code yX11_count cX11_count 2 (some .int) ∈ lw_tbl := List.mem_of_getElem? (i := 1217) rfl
set_option maxRecDepth 20000 in
theorem gl_837 : Cond.code yX11_passage cX11_passage 5 (some .int) ∈ lw_tbl := List.mem_of_getElem? (i := 1221) rfl
set_option maxRecDepth 20000 in
theorem gl_838 : Cond.code yX11_clear cX11_clear 1 none ∈ lw_tbl := List.mem_of_getElem? (i := 1225) rfl
set_option maxRecDepth 20000 in
theorem gl_839 : Cond.code yX11_isOrder cX11_isOrder 3 (some .boolean) ∈ lw_tbl := List.mem_of_getElem? (i := 1233) rfl
set_option maxRecDepth 20000 in
theorem gl_840 : Cond.code yX11_costs cX11_costs 10 (some .int) ∈ lw_tbl := List.mem_of_getElem? (i := 1237) rfl
set_option maxRecDepth 20000 in
theorem gl_841 : Cond.code yX11_turns cX11_turns 9 (some .int) ∈ lw_tbl := List.mem_of_getElem? (i := 1229) rfl
set_option maxRecDepth 20000 in
theorem gl_842 : Cond.methodLink RX11 250 yX11_isOrder ∈ lw_tbl := by decide +kernel
set_option maxRecDepth 20000 in
theorem gl_843 : Cond.instanceMethod yX11_isOrder ∈ lw_tbl := by decide +kernel
set_option maxRecDepth 20000 in
theorem gl_844 : Cond.selects RX11 yX11_isOrder yX11_isOrder ∈ lw_tbl := by decide +kernel
set_option maxRecDepth 20000 in
theorem gl_845 : Cond.methodLink RX11 254 yX11_costs ∈ lw_tbl := by decide +kernel
set_option maxRecDepth 20000 in
theorem gl_846 : Cond.instanceMethod yX11_costs ∈ lw_tbl := by decide +kernel
set_option maxRecDepth 20000 in
theorem gl_847 : Cond.selects RX11 yX11_costs yX11_costs ∈ lw_tbl := by decide +kernel
set_option maxRecDepth 20000 in
theorem gl_848 : Cond.code yX11_turn cX11_turn 2 (some .int) ∈ lw_tbl := List.mem_of_getElem? (i := 1241) rfl
set_option maxRecDepth 20000 in
theorem gl_849 : Cond.code yX11_cost cX11_cost 4 (some .int) ∈ lw_tbl := List.mem_of_getElem? (i := 1245) rfl
set_option maxRecDepth 20000 in
theorem gl_850 : Cond.code yX11_image cX11_image 2 (some .boolean) ∈ lw_tbl := List.mem_of_getElem? (i := 1249) rfl
set_option maxRecDepth 20000 in
theorem gl_851 : Cond.code yX11_again cX11_again 2 (some .boolean) ∈ lw_tbl := List.mem_of_getElem? (i := 1253) rfl
set_option maxRecDepth 20000 in
theorem gl_852 : Cond.code yJ9_max_7cf53 cJ9_max_7cf53 2 (some .int) ∈ lw_tbl := List.mem_of_getElem? (i := 395) rfl
set_option maxRecDepth 20000 in
theorem gl_853 : Cond.code yJ9_min_7cf53 cJ9_min_7cf53 2 (some .int) ∈ lw_tbl := List.mem_of_getElem? (i := 613) rfl
set_option maxRecDepth 20000 in
theorem gl_854 : Cond.classLink RL 7 RX10 ∈ lw_tbl := by decide +kernel
set_option maxRecDepth 20000 in
theorem gl_855 : Cond.instantiable RX10 4 ∈ lw_tbl := by decide +kernel
set_option maxRecDepth 20000 in
theorem gl_856 : Cond.classLink RL 10 RX11 ∈ lw_tbl := by decide +kernel
set_option maxRecDepth 20000 in
theorem gl_857 : Cond.instantiable RX11 20 ∈ lw_tbl := by decide +kernel
set_option maxRecDepth 20000 in
theorem gl_858 : Cond.methodLink RL 9 yX10_init ∈ lw_tbl := by decide +kernel
set_option maxRecDepth 20000 in
theorem gl_859 : Cond.instanceMethod yX10_init ∈ lw_tbl := by decide +kernel
set_option maxRecDepth 20000 in
theorem gl_860 : Cond.methodLink RL 12 yX11_init ∈ lw_tbl := by decide +kernel
set_option maxRecDepth 20000 in
theorem gl_861 : Cond.instanceMethod yX11_init ∈ lw_tbl := by decide +kernel
set_option maxRecDepth 20000 in
theorem gl_862 : Cond.methodLink RL 13 yX10_gulf ∈ lw_tbl := by decide +kernel
set_option maxRecDepth 20000 in
theorem gl_863 : Cond.instanceMethod yX10_gulf ∈ lw_tbl := by decide +kernel
set_option maxRecDepth 20000 in
theorem gl_864 : Cond.selects RX10 yX10_gulf yX10_gulf ∈ lw_tbl := by decide +kernel
set_option maxRecDepth 20000 in
theorem gl_865 : Cond.methodLink RL 17 yX11_gulf ∈ lw_tbl := by decide +kernel
set_option maxRecDepth 20000 in
theorem gl_866 : Cond.instanceMethod yX11_gulf ∈ lw_tbl := by decide +kernel
set_option maxRecDepth 20000 in
theorem gl_867 : Cond.selects RX11 yX11_gulf yX11_gulf ∈ lw_tbl := by decide +kernel
set_option maxRecDepth 20000 in
theorem gl_868 : Cond.methodLink RL 18 yX10_land ∈ lw_tbl := by decide +kernel
set_option maxRecDepth 20000 in
theorem gl_869 : Cond.instanceMethod yX10_land ∈ lw_tbl := by decide +kernel
set_option maxRecDepth 20000 in
theorem gl_870 : Cond.selects RX10 yX10_land yX10_land ∈ lw_tbl := by decide +kernel
set_option maxRecDepth 20000 in
theorem gl_871 : Cond.methodLink RL 22 yX11_land ∈ lw_tbl := by decide +kernel
set_option maxRecDepth 20000 in
theorem gl_872 : Cond.instanceMethod yX11_land ∈ lw_tbl := by decide +kernel
set_option maxRecDepth 20000 in
theorem gl_873 : Cond.selects RX11 yX11_land yX11_land ∈ lw_tbl := by decide +kernel
set_option maxRecDepth 20000 in
theorem gl_874 : Cond.methodLink RL 23 yX10_ice ∈ lw_tbl := by decide +kernel
set_option maxRecDepth 20000 in
theorem gl_875 : Cond.instanceMethod yX10_ice ∈ lw_tbl := by decide +kernel
set_option maxRecDepth 20000 in
theorem gl_876 : Cond.selects RX10 yX10_ice yX10_ice ∈ lw_tbl := by decide +kernel
set_option maxRecDepth 20000 in
theorem gl_877 : Cond.methodLink RL 27 yX11_ice ∈ lw_tbl := by decide +kernel
set_option maxRecDepth 20000 in
theorem gl_878 : Cond.instanceMethod yX11_ice ∈ lw_tbl := by decide +kernel
set_option maxRecDepth 20000 in
theorem gl_879 : Cond.selects RX11 yX11_ice yX11_ice ∈ lw_tbl := by decide +kernel
set_option maxRecDepth 20000 in
theorem gl_880 : Cond.methodLink RL 28 yX10_weather ∈ lw_tbl := by decide +kernel
set_option maxRecDepth 20000 in
theorem gl_881 : Cond.instanceMethod yX10_weather ∈ lw_tbl := by decide +kernel
set_option maxRecDepth 20000 in
theorem gl_882 : Cond.selects RX10 yX10_weather yX10_weather ∈ lw_tbl := by decide +kernel
set_option maxRecDepth 20000 in
theorem gl_883 : Cond.methodLink RL 32 yX11_weather ∈ lw_tbl := by decide +kernel
set_option maxRecDepth 20000 in
theorem gl_884 : Cond.instanceMethod yX11_weather ∈ lw_tbl := by decide +kernel
set_option maxRecDepth 20000 in
theorem gl_885 : Cond.selects RX11 yX11_weather yX11_weather ∈ lw_tbl := by decide +kernel
set_option maxRecDepth 20000 in
theorem gl_886 : Cond.methodLink RL 33 yX10_ship ∈ lw_tbl := by decide +kernel
set_option maxRecDepth 20000 in
theorem gl_887 : Cond.instanceMethod yX10_ship ∈ lw_tbl := by decide +kernel
set_option maxRecDepth 20000 in
theorem gl_888 : Cond.selects RX10 yX10_ship yX10_ship ∈ lw_tbl := by decide +kernel
set_option maxRecDepth 20000 in
theorem gl_889 : Cond.methodLink RL 37 yX11_ship ∈ lw_tbl := by decide +kernel
set_option maxRecDepth 20000 in
theorem gl_890 : Cond.instanceMethod yX11_ship ∈ lw_tbl := by decide +kernel
set_option maxRecDepth 20000 in
theorem gl_891 : Cond.selects RX11 yX11_ship yX11_ship ∈ lw_tbl := by decide +kernel
set_option maxRecDepth 20000 in
theorem gl_892 : Cond.methodLink RL 38 yX10_feed ∈ lw_tbl := by decide +kernel
set_option maxRecDepth 20000 in
theorem gl_893 : Cond.instanceMethod yX10_feed ∈ lw_tbl := by decide +kernel
set_option maxRecDepth 20000 in
theorem gl_894 : Cond.selects RX10 yX10_feed yX10_feed ∈ lw_tbl := by decide +kernel
set_option maxRecDepth 20000 in
theorem gl_895 : Cond.methodLink RL 42 yX11_feed ∈ lw_tbl := by decide +kernel
set_option maxRecDepth 20000 in
theorem gl_896 : Cond.instanceMethod yX11_feed ∈ lw_tbl := by decide +kernel
set_option maxRecDepth 20000 in
theorem gl_897 : Cond.selects RX11 yX11_feed yX11_feed ∈ lw_tbl := by decide +kernel
set_option maxRecDepth 20000 in
theorem gl_898 : Cond.methodLink RL 43 yX10_end ∈ lw_tbl := by decide +kernel
set_option maxRecDepth 20000 in
theorem gl_899 : Cond.instanceMethod yX10_end ∈ lw_tbl := by decide +kernel
set_option maxRecDepth 20000 in
theorem gl_900 : Cond.selects RX10 yX10_end yX10_end ∈ lw_tbl := by decide +kernel
set_option maxRecDepth 20000 in
theorem gl_901 : Cond.methodLink RL 47 yX11_end ∈ lw_tbl := by decide +kernel
set_option maxRecDepth 20000 in
theorem gl_902 : Cond.instanceMethod yX11_end ∈ lw_tbl := by decide +kernel
set_option maxRecDepth 20000 in
theorem gl_903 : Cond.selects RX11 yX11_end yX11_end ∈ lw_tbl := by decide +kernel
set_option maxRecDepth 20000 in
theorem gl_904 : Cond.methodLink RL 48 yX10_orders ∈ lw_tbl := by decide +kernel
set_option maxRecDepth 20000 in
theorem gl_905 : Cond.instanceMethod yX10_orders ∈ lw_tbl := by decide +kernel
set_option maxRecDepth 20000 in
theorem gl_906 : Cond.selects RX10 yX10_orders yX10_orders ∈ lw_tbl := by decide +kernel
set_option maxRecDepth 20000 in
theorem gl_907 : Cond.methodLink RL 51 yX11_orders ∈ lw_tbl := by decide +kernel
set_option maxRecDepth 20000 in
theorem gl_908 : Cond.instanceMethod yX11_orders ∈ lw_tbl := by decide +kernel
set_option maxRecDepth 20000 in
theorem gl_909 : Cond.selects RX11 yX11_orders yX11_orders ∈ lw_tbl := by decide +kernel
set_option maxRecDepth 20000 in
theorem gl_910 : Cond.methodLink RL 52 yX10_fault ∈ lw_tbl := by decide +kernel
set_option maxRecDepth 20000 in
theorem gl_911 : Cond.instanceMethod yX10_fault ∈ lw_tbl := by decide +kernel
set_option maxRecDepth 20000 in
theorem gl_912 : Cond.selects RX10 yX10_fault yX10_fault ∈ lw_tbl := by decide +kernel
set_option maxRecDepth 20000 in
theorem gl_913 : Cond.methodLink RL 55 yX11_fault ∈ lw_tbl := by decide +kernel
set_option maxRecDepth 20000 in
theorem gl_914 : Cond.instanceMethod yX11_fault ∈ lw_tbl := by decide +kernel
set_option maxRecDepth 20000 in
theorem gl_915 : Cond.selects RX11 yX11_fault yX11_fault ∈ lw_tbl := by decide +kernel
set_option maxRecDepth 20000 in
theorem gl_916 : Cond.methodLink RL 56 yX10_call ∈ lw_tbl := by decide +kernel
set_option maxRecDepth 20000 in
theorem gl_917 : Cond.instanceMethod yX10_call ∈ lw_tbl := by decide +kernel
set_option maxRecDepth 20000 in
theorem gl_918 : Cond.selects RX10 yX10_call yX10_call ∈ lw_tbl := by decide +kernel
set_option maxRecDepth 20000 in
theorem gl_919 : Cond.methodLink RL 59 yX11_call ∈ lw_tbl := by decide +kernel
set_option maxRecDepth 20000 in
theorem gl_920 : Cond.instanceMethod yX11_call ∈ lw_tbl := by decide +kernel
set_option maxRecDepth 20000 in
theorem gl_921 : Cond.selects RX11 yX11_call yX11_call ∈ lw_tbl := by decide +kernel
set_option maxRecDepth 20000 in
theorem gl_922 : Cond.methodLink RL 60 yX10_hours ∈ lw_tbl := by decide +kernel
set_option maxRecDepth 20000 in
theorem gl_923 : Cond.instanceMethod yX10_hours ∈ lw_tbl := by decide +kernel
set_option maxRecDepth 20000 in
theorem gl_924 : Cond.selects RX10 yX10_hours yX10_hours ∈ lw_tbl := by decide +kernel
set_option maxRecDepth 20000 in
theorem gl_925 : Cond.methodLink RL 63 yX11_hours ∈ lw_tbl := by decide +kernel
set_option maxRecDepth 20000 in
theorem gl_926 : Cond.instanceMethod yX11_hours ∈ lw_tbl := by decide +kernel
set_option maxRecDepth 20000 in
theorem gl_927 : Cond.selects RX11 yX11_hours yX11_hours ∈ lw_tbl := by decide +kernel
set_option maxRecDepth 20000 in
theorem gl_928 : Cond.methodLink RL 64 yX10_ahead ∈ lw_tbl := by decide +kernel
set_option maxRecDepth 20000 in
theorem gl_929 : Cond.instanceMethod yX10_ahead ∈ lw_tbl := by decide +kernel
set_option maxRecDepth 20000 in
theorem gl_930 : Cond.selects RX10 yX10_ahead yX10_ahead ∈ lw_tbl := by decide +kernel
set_option maxRecDepth 20000 in
theorem gl_931 : Cond.methodLink RL 68 yX11_ahead ∈ lw_tbl := by decide +kernel
set_option maxRecDepth 20000 in
theorem gl_932 : Cond.instanceMethod yX11_ahead ∈ lw_tbl := by decide +kernel
set_option maxRecDepth 20000 in
theorem gl_933 : Cond.selects RX11 yX11_ahead yX11_ahead ∈ lw_tbl := by decide +kernel
set_option maxRecDepth 20000 in
theorem gl_934 : Cond.methodLink RL 69 yX10_cell ∈ lw_tbl := by decide +kernel
set_option maxRecDepth 20000 in
theorem gl_935 : Cond.instanceMethod yX10_cell ∈ lw_tbl := by decide +kernel
set_option maxRecDepth 20000 in
theorem gl_936 : Cond.selects RX10 yX10_cell yX10_cell ∈ lw_tbl := by decide +kernel
set_option maxRecDepth 20000 in
theorem gl_937 : Cond.methodLink RL 72 yX11_cell ∈ lw_tbl := by decide +kernel
set_option maxRecDepth 20000 in
theorem gl_938 : Cond.instanceMethod yX11_cell ∈ lw_tbl := by decide +kernel
set_option maxRecDepth 20000 in
theorem gl_939 : Cond.selects RX11 yX11_cell yX11_cell ∈ lw_tbl := by decide +kernel
set_option maxRecDepth 20000 in
theorem gl_940 : Cond.methodLink RL 73 yX10_tell ∈ lw_tbl := by decide +kernel
set_option maxRecDepth 20000 in
theorem gl_941 : Cond.instanceMethod yX10_tell ∈ lw_tbl := by decide +kernel
set_option maxRecDepth 20000 in
theorem gl_942 : Cond.selects RX10 yX10_tell yX10_tell ∈ lw_tbl := by decide +kernel
set_option maxRecDepth 20000 in
theorem gl_943 : Cond.methodLink RL 77 yX11_tell ∈ lw_tbl := by decide +kernel
set_option maxRecDepth 20000 in
theorem gl_944 : Cond.instanceMethod yX11_tell ∈ lw_tbl := by decide +kernel
set_option maxRecDepth 20000 in
theorem gl_945 : Cond.selects RX11 yX11_tell yX11_tell ∈ lw_tbl := by decide +kernel
set_option maxRecDepth 20000 in
theorem gl_946 : Cond.methodLink RL 78 yX10_count ∈ lw_tbl := by decide +kernel
set_option maxRecDepth 20000 in
theorem gl_947 : Cond.instanceMethod yX10_count ∈ lw_tbl := by decide +kernel
set_option maxRecDepth 20000 in
theorem gl_948 : Cond.selects RX10 yX10_count yX10_count ∈ lw_tbl := by decide +kernel
set_option maxRecDepth 20000 in
theorem gl_949 : Cond.methodLink RL 81 yX11_count ∈ lw_tbl := by decide +kernel
set_option maxRecDepth 20000 in
theorem gl_950 : Cond.instanceMethod yX11_count ∈ lw_tbl := by decide +kernel
set_option maxRecDepth 20000 in
theorem gl_951 : Cond.selects RX11 yX11_count yX11_count ∈ lw_tbl := by decide +kernel
set_option maxRecDepth 20000 in
theorem gl_952 : Cond.methodLink RL 82 yX10_passage ∈ lw_tbl := by decide +kernel
set_option maxRecDepth 20000 in
theorem gl_953 : Cond.instanceMethod yX10_passage ∈ lw_tbl := by decide +kernel
set_option maxRecDepth 20000 in
theorem gl_954 : Cond.selects RX10 yX10_passage yX10_passage ∈ lw_tbl := by decide +kernel
set_option maxRecDepth 20000 in
theorem gl_955 : Cond.methodLink RL 85 yX11_passage ∈ lw_tbl := by decide +kernel
set_option maxRecDepth 20000 in
theorem gl_956 : Cond.instanceMethod yX11_passage ∈ lw_tbl := by decide +kernel
set_option maxRecDepth 20000 in
theorem gl_957 : Cond.selects RX11 yX11_passage yX11_passage ∈ lw_tbl := by decide +kernel
set_option maxRecDepth 20000 in
theorem gl_958 : Cond.methodLink RL 86 yX10_clear ∈ lw_tbl := by decide +kernel
set_option maxRecDepth 20000 in
theorem gl_959 : Cond.instanceMethod yX10_clear ∈ lw_tbl := by decide +kernel
set_option maxRecDepth 20000 in
theorem gl_960 : Cond.selects RX10 yX10_clear yX10_clear ∈ lw_tbl := by decide +kernel
set_option maxRecDepth 20000 in
theorem gl_961 : Cond.methodLink RL 89 yX11_clear ∈ lw_tbl := by decide +kernel
set_option maxRecDepth 20000 in
theorem gl_962 : Cond.instanceMethod yX11_clear ∈ lw_tbl := by decide +kernel
set_option maxRecDepth 20000 in
theorem gl_963 : Cond.selects RX11 yX11_clear yX11_clear ∈ lw_tbl := by decide +kernel
set_option maxRecDepth 20000 in
theorem gl_964 : Cond.methodLink RL 90 yX10_turns ∈ lw_tbl := by decide +kernel
set_option maxRecDepth 20000 in
theorem gl_965 : Cond.instanceMethod yX10_turns ∈ lw_tbl := by decide +kernel
set_option maxRecDepth 20000 in
theorem gl_966 : Cond.selects RX10 yX10_turns yX10_turns ∈ lw_tbl := by decide +kernel
set_option maxRecDepth 20000 in
theorem gl_967 : Cond.methodLink RL 93 yX11_turns ∈ lw_tbl := by decide +kernel
set_option maxRecDepth 20000 in
theorem gl_968 : Cond.instanceMethod yX11_turns ∈ lw_tbl := by decide +kernel
set_option maxRecDepth 20000 in
theorem gl_969 : Cond.selects RX11 yX11_turns yX11_turns ∈ lw_tbl := by decide +kernel
set_option maxRecDepth 20000 in
theorem gl_970 : Cond.methodLink RL 94 yX10_turn ∈ lw_tbl := by decide +kernel
set_option maxRecDepth 20000 in
theorem gl_971 : Cond.instanceMethod yX10_turn ∈ lw_tbl := by decide +kernel
set_option maxRecDepth 20000 in
theorem gl_972 : Cond.selects RX10 yX10_turn yX10_turn ∈ lw_tbl := by decide +kernel
set_option maxRecDepth 20000 in
theorem gl_973 : Cond.methodLink RL 97 yX11_turn ∈ lw_tbl := by decide +kernel
set_option maxRecDepth 20000 in
theorem gl_974 : Cond.instanceMethod yX11_turn ∈ lw_tbl := by decide +kernel
set_option maxRecDepth 20000 in
theorem gl_975 : Cond.selects RX11 yX11_turn yX11_turn ∈ lw_tbl := by decide +kernel
set_option maxRecDepth 20000 in
theorem gl_976 : Cond.methodLink RL 98 yX10_cost ∈ lw_tbl := by decide +kernel
set_option maxRecDepth 20000 in
theorem gl_977 : Cond.instanceMethod yX10_cost ∈ lw_tbl := by decide +kernel
set_option maxRecDepth 20000 in
theorem gl_978 : Cond.selects RX10 yX10_cost yX10_cost ∈ lw_tbl := by decide +kernel
set_option maxRecDepth 20000 in
theorem gl_979 : Cond.methodLink RL 101 yX11_cost ∈ lw_tbl := by decide +kernel
set_option maxRecDepth 20000 in
theorem gl_980 : Cond.instanceMethod yX11_cost ∈ lw_tbl := by decide +kernel
set_option maxRecDepth 20000 in
theorem gl_981 : Cond.selects RX11 yX11_cost yX11_cost ∈ lw_tbl := by decide +kernel
set_option maxRecDepth 20000 in
theorem gl_982 : Cond.methodLink RL 102 yX10_image ∈ lw_tbl := by decide +kernel
set_option maxRecDepth 20000 in
theorem gl_983 : Cond.instanceMethod yX10_image ∈ lw_tbl := by decide +kernel
set_option maxRecDepth 20000 in
theorem gl_984 : Cond.selects RX10 yX10_image yX10_image ∈ lw_tbl := by decide +kernel
set_option maxRecDepth 20000 in
theorem gl_985 : Cond.methodLink RL 106 yX11_image ∈ lw_tbl := by decide +kernel
set_option maxRecDepth 20000 in
theorem gl_986 : Cond.instanceMethod yX11_image ∈ lw_tbl := by decide +kernel
set_option maxRecDepth 20000 in
theorem gl_987 : Cond.selects RX11 yX11_image yX11_image ∈ lw_tbl := by decide +kernel
set_option maxRecDepth 20000 in
theorem gl_988 : Cond.methodLink RL 107 yX10_again ∈ lw_tbl := by decide +kernel
set_option maxRecDepth 20000 in
theorem gl_989 : Cond.instanceMethod yX10_again ∈ lw_tbl := by decide +kernel
set_option maxRecDepth 20000 in
theorem gl_990 : Cond.selects RX10 yX10_again yX10_again ∈ lw_tbl := by decide +kernel
set_option maxRecDepth 20000 in
theorem gl_991 : Cond.methodLink RL 110 yX11_again ∈ lw_tbl := by decide +kernel
set_option maxRecDepth 20000 in
theorem gl_992 : Cond.instanceMethod yX11_again ∈ lw_tbl := by decide +kernel
set_option maxRecDepth 20000 in
theorem gl_993 : Cond.selects RX11 yX11_again yX11_again ∈ lw_tbl := by decide +kernel
