theorem lcz {x y : Int64} (h : x = y) : lg_cmp x y = 0 := by subst h; simp [lg_cmp]
theorem cv_L_100 : CV "SeasonBoundLaw" 100 9 yX9_gift cX9_gift 4 (some FieldType.int) 2 := ⟨mTB 1143 (by decide +kernel) (by decide +kernel), mTB 1144 (by decide +kernel) (by decide +kernel), mTB 1145 (by decide +kernel) (by decide +kernel), mTB 10 (by decide +kernel) (by decide +kernel), mTB 1146 (by decide +kernel) (by decide +kernel), ⟨by decide +kernel, by decide +kernel, by decide +kernel⟩, _, rfl, rfl⟩
theorem cv_L_101 : CV "SeasonBoundLaw" 101 8 yX8_term cX8_term 6 (some FieldType.int) 3 := ⟨mTB 623 (by decide +kernel) (by decide +kernel), mTB 624 (by decide +kernel) (by decide +kernel), mTB 625 (by decide +kernel) (by decide +kernel), mTB 1 (by decide +kernel) (by decide +kernel), mTB 626 (by decide +kernel) (by decide +kernel), ⟨by decide +kernel, by decide +kernel, by decide +kernel⟩, _, rfl, rfl⟩
theorem cv_L_104 : CV "SeasonBoundLaw" 104 9 yX9_term cX9_term 5 (some FieldType.int) 3 := ⟨mTB 1147 (by decide +kernel) (by decide +kernel), mTB 1148 (by decide +kernel) (by decide +kernel), mTB 1149 (by decide +kernel) (by decide +kernel), mTB 10 (by decide +kernel) (by decide +kernel), mTB 1150 (by decide +kernel) (by decide +kernel), ⟨by decide +kernel, by decide +kernel, by decide +kernel⟩, _, rfl, rfl⟩
theorem cv_L_105 : CV "SeasonBoundLaw" 105 8 yX8_kind cX8_kind 5 (some FieldType.int) 3 := ⟨mTB 630 (by decide +kernel) (by decide +kernel), mTB 631 (by decide +kernel) (by decide +kernel), mTB 632 (by decide +kernel) (by decide +kernel), mTB 1 (by decide +kernel) (by decide +kernel), mTB 633 (by decide +kernel) (by decide +kernel), ⟨by decide +kernel, by decide +kernel, by decide +kernel⟩, _, rfl, rfl⟩
theorem cv_L_108 : CV "SeasonBoundLaw" 108 9 yX9_kind cX9_kind 5 (some FieldType.int) 3 := ⟨mTB 1151 (by decide +kernel) (by decide +kernel), mTB 1152 (by decide +kernel) (by decide +kernel), mTB 1153 (by decide +kernel) (by decide +kernel), mTB 10 (by decide +kernel) (by decide +kernel), mTB 1154 (by decide +kernel) (by decide +kernel), ⟨by decide +kernel, by decide +kernel, by decide +kernel⟩, _, rfl, rfl⟩
theorem cv_L_109 : CV "SeasonBoundLaw" 109 8 yX8_luck cX8_luck 10 (some FieldType.long) 5 := ⟨mTB 634 (by decide +kernel) (by decide +kernel), mTB 635 (by decide +kernel) (by decide +kernel), mTB 636 (by decide +kernel) (by decide +kernel), mTB 1 (by decide +kernel) (by decide +kernel), mTB 637 (by decide +kernel) (by decide +kernel), ⟨by decide +kernel, by decide +kernel, by decide +kernel⟩, _, rfl, rfl⟩
theorem cv_L_113 : CV "SeasonBoundLaw" 113 9 yX9_luck cX9_luck 6 (some FieldType.long) 5 := ⟨mTB 1155 (by decide +kernel) (by decide +kernel), mTB 1156 (by decide +kernel) (by decide +kernel), mTB 1157 (by decide +kernel) (by decide +kernel), mTB 10 (by decide +kernel) (by decide +kernel), mTB 1158 (by decide +kernel) (by decide +kernel), ⟨by decide +kernel, by decide +kernel, by decide +kernel⟩, _, rfl, rfl⟩
theorem cv_L_114 : CV "SeasonBoundLaw" 114 8 yX8_mean cX8_mean 8 (some FieldType.long) 3 := ⟨mTB 672 (by decide +kernel) (by decide +kernel), mTB 673 (by decide +kernel) (by decide +kernel), mTB 674 (by decide +kernel) (by decide +kernel), mTB 1 (by decide +kernel) (by decide +kernel), mTB 675 (by decide +kernel) (by decide +kernel), ⟨by decide +kernel, by decide +kernel, by decide +kernel⟩, _, rfl, rfl⟩
theorem cv_L_118 : CV "SeasonBoundLaw" 118 9 yX9_mean cX9_mean 4 (some FieldType.long) 3 := ⟨mTB 1172 (by decide +kernel) (by decide +kernel), mTB 1173 (by decide +kernel) (by decide +kernel), mTB 1174 (by decide +kernel) (by decide +kernel), mTB 10 (by decide +kernel) (by decide +kernel), mTB 1175 (by decide +kernel) (by decide +kernel), ⟨by decide +kernel, by decide +kernel, by decide +kernel⟩, _, rfl, rfl⟩
theorem cv_L_119 : CV "SeasonBoundLaw" 119 8 yX8_see cX8_see 4 (some FieldType.int) 3 := ⟨mTB 680 (by decide +kernel) (by decide +kernel), mTB 681 (by decide +kernel) (by decide +kernel), mTB 682 (by decide +kernel) (by decide +kernel), mTB 1 (by decide +kernel) (by decide +kernel), mTB 683 (by decide +kernel) (by decide +kernel), ⟨by decide +kernel, by decide +kernel, by decide +kernel⟩, _, rfl, rfl⟩
theorem cv_L_122 : CV "SeasonBoundLaw" 122 9 yX9_see cX9_see 5 (some FieldType.int) 3 := ⟨mTB 1176 (by decide +kernel) (by decide +kernel), mTB 1177 (by decide +kernel) (by decide +kernel), mTB 1178 (by decide +kernel) (by decide +kernel), mTB 10 (by decide +kernel) (by decide +kernel), mTB 1179 (by decide +kernel) (by decide +kernel), ⟨by decide +kernel, by decide +kernel, by decide +kernel⟩, _, rfl, rfl⟩
theorem cv_L_123 : CV "SeasonBoundLaw" 123 8 yX8_forget cX8_forget 3 (some FieldType.int) 1 := ⟨mTB 688 (by decide +kernel) (by decide +kernel), mTB 689 (by decide +kernel) (by decide +kernel), mTB 690 (by decide +kernel) (by decide +kernel), mTB 1 (by decide +kernel) (by decide +kernel), mTB 691 (by decide +kernel) (by decide +kernel), ⟨by decide +kernel, by decide +kernel, by decide +kernel⟩, _, rfl, rfl⟩
theorem cv_L_126 : CV "SeasonBoundLaw" 126 9 yX9_forget cX9_forget 2 (some FieldType.int) 1 := ⟨mTB 1180 (by decide +kernel) (by decide +kernel), mTB 1181 (by decide +kernel) (by decide +kernel), mTB 1182 (by decide +kernel) (by decide +kernel), mTB 10 (by decide +kernel) (by decide +kernel), mTB 1183 (by decide +kernel) (by decide +kernel), ⟨by decide +kernel, by decide +kernel, by decide +kernel⟩, _, rfl, rfl⟩
theorem cv_L_127 : CV "SeasonBoundLaw" 127 8 yX8_kinds cX8_kinds 4 (some FieldType.int) 1 := ⟨mTB 692 (by decide +kernel) (by decide +kernel), mTB 693 (by decide +kernel) (by decide +kernel), mTB 694 (by decide +kernel) (by decide +kernel), mTB 1 (by decide +kernel) (by decide +kernel), mTB 695 (by decide +kernel) (by decide +kernel), ⟨by decide +kernel, by decide +kernel, by decide +kernel⟩, _, rfl, rfl⟩
theorem cv_L_13 : CV "SeasonBoundLaw" 13 8 yX8_feed cX8_feed 2 (some FieldType.int) 1 := ⟨mTB 278 (by decide +kernel) (by decide +kernel), mTB 279 (by decide +kernel) (by decide +kernel), mTB 280 (by decide +kernel) (by decide +kernel), mTB 1 (by decide +kernel) (by decide +kernel), mTB 281 (by decide +kernel) (by decide +kernel), ⟨by decide +kernel, by decide +kernel, by decide +kernel⟩, _, rfl, rfl⟩
theorem cv_L_130 : CV "SeasonBoundLaw" 130 9 yX9_kinds cX9_kinds 2 (some FieldType.int) 1 := ⟨mTB 1184 (by decide +kernel) (by decide +kernel), mTB 1185 (by decide +kernel) (by decide +kernel), mTB 1186 (by decide +kernel) (by decide +kernel), mTB 10 (by decide +kernel) (by decide +kernel), mTB 1187 (by decide +kernel) (by decide +kernel), ⟨by decide +kernel, by decide +kernel, by decide +kernel⟩, _, rfl, rfl⟩
theorem cv_L_131 : CV "SeasonBoundLaw" 131 8 yX8_seasons cX8_seasons 4 (some FieldType.int) 1 := ⟨mTB 709 (by decide +kernel) (by decide +kernel), mTB 710 (by decide +kernel) (by decide +kernel), mTB 711 (by decide +kernel) (by decide +kernel), mTB 1 (by decide +kernel) (by decide +kernel), mTB 712 (by decide +kernel) (by decide +kernel), ⟨by decide +kernel, by decide +kernel, by decide +kernel⟩, _, rfl, rfl⟩
theorem cv_L_134 : CV "SeasonBoundLaw" 134 9 yX9_seasons cX9_seasons 2 (some FieldType.int) 1 := ⟨mTB 1196 (by decide +kernel) (by decide +kernel), mTB 1197 (by decide +kernel) (by decide +kernel), mTB 1198 (by decide +kernel) (by decide +kernel), mTB 10 (by decide +kernel) (by decide +kernel), mTB 1199 (by decide +kernel) (by decide +kernel), ⟨by decide +kernel, by decide +kernel, by decide +kernel⟩, _, rfl, rfl⟩
theorem cv_L_135 : CV "SeasonBoundLaw" 135 8 yX8_gifts cX8_gifts 2 (some FieldType.int) 1 := ⟨mTB 713 (by decide +kernel) (by decide +kernel), mTB 714 (by decide +kernel) (by decide +kernel), mTB 715 (by decide +kernel) (by decide +kernel), mTB 1 (by decide +kernel) (by decide +kernel), mTB 716 (by decide +kernel) (by decide +kernel), ⟨by decide +kernel, by decide +kernel, by decide +kernel⟩, _, rfl, rfl⟩
theorem cv_L_138 : CV "SeasonBoundLaw" 138 9 yX9_gifts cX9_gifts 2 (some FieldType.int) 1 := ⟨mTB 1200 (by decide +kernel) (by decide +kernel), mTB 1201 (by decide +kernel) (by decide +kernel), mTB 1202 (by decide +kernel) (by decide +kernel), mTB 10 (by decide +kernel) (by decide +kernel), mTB 1203 (by decide +kernel) (by decide +kernel), ⟨by decide +kernel, by decide +kernel, by decide +kernel⟩, _, rfl, rfl⟩
theorem cv_L_139 : CV "SeasonBoundLaw" 139 8 yX8_ask cX8_ask 9 (some FieldType.int) 2 := ⟨mTB 721 (by decide +kernel) (by decide +kernel), mTB 722 (by decide +kernel) (by decide +kernel), mTB 723 (by decide +kernel) (by decide +kernel), mTB 1 (by decide +kernel) (by decide +kernel), mTB 724 (by decide +kernel) (by decide +kernel), ⟨by decide +kernel, by decide +kernel, by decide +kernel⟩, _, rfl, rfl⟩
theorem cv_L_142 : CV "SeasonBoundLaw" 142 9 yX9_ask cX9_ask 11 (some FieldType.int) 2 := ⟨mTB 1204 (by decide +kernel) (by decide +kernel), mTB 1205 (by decide +kernel) (by decide +kernel), mTB 1206 (by decide +kernel) (by decide +kernel), mTB 10 (by decide +kernel) (by decide +kernel), mTB 1207 (by decide +kernel) (by decide +kernel), ⟨by decide +kernel, by decide +kernel, by decide +kernel⟩, _, rfl, rfl⟩
theorem cv_L_143 : CV "SeasonBoundLaw" 143 8 yX8_drift cX8_drift 8 (some FieldType.int) 3 := ⟨mTB 732 (by decide +kernel) (by decide +kernel), mTB 733 (by decide +kernel) (by decide +kernel), mTB 734 (by decide +kernel) (by decide +kernel), mTB 1 (by decide +kernel) (by decide +kernel), mTB 735 (by decide +kernel) (by decide +kernel), ⟨by decide +kernel, by decide +kernel, by decide +kernel⟩, _, rfl, rfl⟩
theorem cv_L_146 : CV "SeasonBoundLaw" 146 9 yX9_drift cX9_drift 8 (some FieldType.int) 3 := ⟨mTB 1208 (by decide +kernel) (by decide +kernel), mTB 1209 (by decide +kernel) (by decide +kernel), mTB 1210 (by decide +kernel) (by decide +kernel), mTB 10 (by decide +kernel) (by decide +kernel), mTB 1211 (by decide +kernel) (by decide +kernel), ⟨by decide +kernel, by decide +kernel, by decide +kernel⟩, _, rfl, rfl⟩
theorem cv_L_147 : CV "SeasonBoundLaw" 147 8 yX8_keep cX8_keep 3 (some FieldType.int) 1 := ⟨mTB 737 (by decide +kernel) (by decide +kernel), mTB 738 (by decide +kernel) (by decide +kernel), mTB 739 (by decide +kernel) (by decide +kernel), mTB 1 (by decide +kernel) (by decide +kernel), mTB 740 (by decide +kernel) (by decide +kernel), ⟨by decide +kernel, by decide +kernel, by decide +kernel⟩, _, rfl, rfl⟩
theorem cv_L_150 : CV "SeasonBoundLaw" 150 9 yX9_keep cX9_keep 3 (some FieldType.int) 1 := ⟨mTB 1213 (by decide +kernel) (by decide +kernel), mTB 1214 (by decide +kernel) (by decide +kernel), mTB 1215 (by decide +kernel) (by decide +kernel), mTB 10 (by decide +kernel) (by decide +kernel), mTB 1216 (by decide +kernel) (by decide +kernel), ⟨by decide +kernel, by decide +kernel, by decide +kernel⟩, _, rfl, rfl⟩
theorem cv_L_151 : CV "SeasonBoundLaw" 151 8 yX8_back cX8_back 2 (some FieldType.int) 1 := ⟨mTB 744 (by decide +kernel) (by decide +kernel), mTB 745 (by decide +kernel) (by decide +kernel), mTB 746 (by decide +kernel) (by decide +kernel), mTB 1 (by decide +kernel) (by decide +kernel), mTB 747 (by decide +kernel) (by decide +kernel), ⟨by decide +kernel, by decide +kernel, by decide +kernel⟩, _, rfl, rfl⟩
theorem cv_L_154 : CV "SeasonBoundLaw" 154 9 yX9_back cX9_back 2 (some FieldType.int) 1 := ⟨mTB 1221 (by decide +kernel) (by decide +kernel), mTB 1222 (by decide +kernel) (by decide +kernel), mTB 1223 (by decide +kernel) (by decide +kernel), mTB 10 (by decide +kernel) (by decide +kernel), mTB 1224 (by decide +kernel) (by decide +kernel), ⟨by decide +kernel, by decide +kernel, by decide +kernel⟩, _, rfl, rfl⟩
theorem cv_L_155 : CV "SeasonBoundLaw" 155 8 yX8_sheet cX8_sheet 4 (some FieldType.int) 3 := ⟨mTB 748 (by decide +kernel) (by decide +kernel), mTB 749 (by decide +kernel) (by decide +kernel), mTB 750 (by decide +kernel) (by decide +kernel), mTB 1 (by decide +kernel) (by decide +kernel), mTB 751 (by decide +kernel) (by decide +kernel), ⟨by decide +kernel, by decide +kernel, by decide +kernel⟩, _, rfl, rfl⟩
theorem cv_L_158 : CV "SeasonBoundLaw" 158 9 yX9_sheet cX9_sheet 5 (some FieldType.int) 3 := ⟨mTB 1225 (by decide +kernel) (by decide +kernel), mTB 1226 (by decide +kernel) (by decide +kernel), mTB 1227 (by decide +kernel) (by decide +kernel), mTB 10 (by decide +kernel) (by decide +kernel), mTB 1228 (by decide +kernel) (by decide +kernel), ⟨by decide +kernel, by decide +kernel, by decide +kernel⟩, _, rfl, rfl⟩
theorem cv_L_159 : CV "SeasonBoundLaw" 159 8 yX8_lay cX8_lay 6 (some FieldType.int) 3 := ⟨mTB 765 (by decide +kernel) (by decide +kernel), mTB 766 (by decide +kernel) (by decide +kernel), mTB 767 (by decide +kernel) (by decide +kernel), mTB 1 (by decide +kernel) (by decide +kernel), mTB 768 (by decide +kernel) (by decide +kernel), ⟨by decide +kernel, by decide +kernel, by decide +kernel⟩, _, rfl, rfl⟩
theorem cv_L_162 : CV "SeasonBoundLaw" 162 9 yX9_lay cX9_lay 4 (some FieldType.int) 3 := ⟨mTB 1232 (by decide +kernel) (by decide +kernel), mTB 1233 (by decide +kernel) (by decide +kernel), mTB 1234 (by decide +kernel) (by decide +kernel), mTB 10 (by decide +kernel) (by decide +kernel), mTB 1235 (by decide +kernel) (by decide +kernel), ⟨by decide +kernel, by decide +kernel, by decide +kernel⟩, _, rfl, rfl⟩
theorem cv_L_163 : CV "SeasonBoundLaw" 163 8 yX8_read cX8_read 9 (some FieldType.int) 4 := ⟨mTB 782 (by decide +kernel) (by decide +kernel), mTB 783 (by decide +kernel) (by decide +kernel), mTB 784 (by decide +kernel) (by decide +kernel), mTB 1 (by decide +kernel) (by decide +kernel), mTB 785 (by decide +kernel) (by decide +kernel), ⟨by decide +kernel, by decide +kernel, by decide +kernel⟩, _, rfl, rfl⟩
theorem cv_L_167 : CV "SeasonBoundLaw" 167 9 yX9_read cX9_read 11 (some FieldType.int) 4 := ⟨mTB 1236 (by decide +kernel) (by decide +kernel), mTB 1237 (by decide +kernel) (by decide +kernel), mTB 1238 (by decide +kernel) (by decide +kernel), mTB 10 (by decide +kernel) (by decide +kernel), mTB 1239 (by decide +kernel) (by decide +kernel), ⟨by decide +kernel, by decide +kernel, by decide +kernel⟩, _, rfl, rfl⟩
theorem cv_L_168 : CV "SeasonBoundLaw" 168 8 yX8_torn cX8_torn 1 (some FieldType.int) 0 := ⟨mTB 786 (by decide +kernel) (by decide +kernel), mTB 787 (by decide +kernel) (by decide +kernel), mTB 788 (by decide +kernel) (by decide +kernel), mTB 1 (by decide +kernel) (by decide +kernel), mTB 789 (by decide +kernel) (by decide +kernel), ⟨by decide +kernel, by decide +kernel, by decide +kernel⟩, _, rfl, rfl⟩
theorem cv_L_17 : CV "SeasonBoundLaw" 17 9 yX9_feed cX9_feed 2 (some FieldType.int) 1 := ⟨mTB 897 (by decide +kernel) (by decide +kernel), mTB 898 (by decide +kernel) (by decide +kernel), mTB 899 (by decide +kernel) (by decide +kernel), mTB 10 (by decide +kernel) (by decide +kernel), mTB 900 (by decide +kernel) (by decide +kernel), ⟨by decide +kernel, by decide +kernel, by decide +kernel⟩, _, rfl, rfl⟩
theorem cv_L_171 : CV "SeasonBoundLaw" 171 9 yX9_torn cX9_torn 1 (some FieldType.int) 0 := ⟨mTB 1242 (by decide +kernel) (by decide +kernel), mTB 1243 (by decide +kernel) (by decide +kernel), mTB 1244 (by decide +kernel) (by decide +kernel), mTB 10 (by decide +kernel) (by decide +kernel), mTB 1245 (by decide +kernel) (by decide +kernel), ⟨by decide +kernel, by decide +kernel, by decide +kernel⟩, _, rfl, rfl⟩
theorem cv_L_172 : CV "SeasonBoundLaw" 172 8 yX8_count cX8_count 2 (some FieldType.int) 1 := ⟨mTB 790 (by decide +kernel) (by decide +kernel), mTB 791 (by decide +kernel) (by decide +kernel), mTB 792 (by decide +kernel) (by decide +kernel), mTB 1 (by decide +kernel) (by decide +kernel), mTB 793 (by decide +kernel) (by decide +kernel), ⟨by decide +kernel, by decide +kernel, by decide +kernel⟩, _, rfl, rfl⟩
theorem cv_L_175 : CV "SeasonBoundLaw" 175 9 yX9_count cX9_count 4 (some FieldType.int) 1 := ⟨mTB 1246 (by decide +kernel) (by decide +kernel), mTB 1247 (by decide +kernel) (by decide +kernel), mTB 1248 (by decide +kernel) (by decide +kernel), mTB 10 (by decide +kernel) (by decide +kernel), mTB 1249 (by decide +kernel) (by decide +kernel), ⟨by decide +kernel, by decide +kernel, by decide +kernel⟩, _, rfl, rfl⟩
theorem cv_L_18 : CV "SeasonBoundLaw" 18 8 yX8_end cX8_end 3 (some FieldType.int) 1 := ⟨mTB 289 (by decide +kernel) (by decide +kernel), mTB 290 (by decide +kernel) (by decide +kernel), mTB 291 (by decide +kernel) (by decide +kernel), mTB 1 (by decide +kernel) (by decide +kernel), mTB 292 (by decide +kernel) (by decide +kernel), ⟨by decide +kernel, by decide +kernel, by decide +kernel⟩, _, rfl, rfl⟩
theorem cv_L_21 : CV "SeasonBoundLaw" 21 9 yX9_end cX9_end 3 (some FieldType.int) 1 := ⟨mTB 905 (by decide +kernel) (by decide +kernel), mTB 906 (by decide +kernel) (by decide +kernel), mTB 907 (by decide +kernel) (by decide +kernel), mTB 10 (by decide +kernel) (by decide +kernel), mTB 908 (by decide +kernel) (by decide +kernel), ⟨by decide +kernel, by decide +kernel, by decide +kernel⟩, _, rfl, rfl⟩
theorem cv_L_22 : CV "SeasonBoundLaw" 22 8 yX8_text cX8_text 3 (some FieldType.int) 0 := ⟨mTB 293 (by decide +kernel) (by decide +kernel), mTB 294 (by decide +kernel) (by decide +kernel), mTB 295 (by decide +kernel) (by decide +kernel), mTB 1 (by decide +kernel) (by decide +kernel), mTB 296 (by decide +kernel) (by decide +kernel), ⟨by decide +kernel, by decide +kernel, by decide +kernel⟩, _, rfl, rfl⟩
theorem cv_L_26 : CV "SeasonBoundLaw" 26 9 yX9_text cX9_text 2 (some FieldType.int) 0 := ⟨mTB 909 (by decide +kernel) (by decide +kernel), mTB 910 (by decide +kernel) (by decide +kernel), mTB 911 (by decide +kernel) (by decide +kernel), mTB 10 (by decide +kernel) (by decide +kernel), mTB 912 (by decide +kernel) (by decide +kernel), ⟨by decide +kernel, by decide +kernel, by decide +kernel⟩, _, rfl, rfl⟩
theorem cv_L_27 : CV "SeasonBoundLaw" 27 8 yX8_fault cX8_fault 1 (some FieldType.int) 0 := ⟨mTB 468 (by decide +kernel) (by decide +kernel), mTB 469 (by decide +kernel) (by decide +kernel), mTB 470 (by decide +kernel) (by decide +kernel), mTB 1 (by decide +kernel) (by decide +kernel), mTB 471 (by decide +kernel) (by decide +kernel), ⟨by decide +kernel, by decide +kernel, by decide +kernel⟩, _, rfl, rfl⟩
theorem cv_L_30 : CV "SeasonBoundLaw" 30 9 yX9_fault cX9_fault 1 (some FieldType.int) 0 := ⟨mTB 965 (by decide +kernel) (by decide +kernel), mTB 966 (by decide +kernel) (by decide +kernel), mTB 967 (by decide +kernel) (by decide +kernel), mTB 10 (by decide +kernel) (by decide +kernel), mTB 968 (by decide +kernel) (by decide +kernel), ⟨by decide +kernel, by decide +kernel, by decide +kernel⟩, _, rfl, rfl⟩
theorem cv_L_31 : CV "SeasonBoundLaw" 31 8 yX8_rule cX8_rule 2 (some FieldType.int) 1 := ⟨mTB 472 (by decide +kernel) (by decide +kernel), mTB 473 (by decide +kernel) (by decide +kernel), mTB 474 (by decide +kernel) (by decide +kernel), mTB 1 (by decide +kernel) (by decide +kernel), mTB 475 (by decide +kernel) (by decide +kernel), ⟨by decide +kernel, by decide +kernel, by decide +kernel⟩, _, rfl, rfl⟩
theorem cv_L_34 : CV "SeasonBoundLaw" 34 9 yX9_rule cX9_rule 2 (some FieldType.int) 1 := ⟨mTB 969 (by decide +kernel) (by decide +kernel), mTB 970 (by decide +kernel) (by decide +kernel), mTB 971 (by decide +kernel) (by decide +kernel), mTB 10 (by decide +kernel) (by decide +kernel), mTB 972 (by decide +kernel) (by decide +kernel), ⟨by decide +kernel, by decide +kernel, by decide +kernel⟩, _, rfl, rfl⟩
theorem cv_L_35 : CV "SeasonBoundLaw" 35 8 yX8_child cX8_child 4 (some FieldType.int) 2 := ⟨mTB 488 (by decide +kernel) (by decide +kernel), mTB 489 (by decide +kernel) (by decide +kernel), mTB 490 (by decide +kernel) (by decide +kernel), mTB 1 (by decide +kernel) (by decide +kernel), mTB 491 (by decide +kernel) (by decide +kernel), ⟨by decide +kernel, by decide +kernel, by decide +kernel⟩, _, rfl, rfl⟩
theorem cv_L_39 : CV "SeasonBoundLaw" 39 9 yX9_child cX9_child 3 (some FieldType.int) 2 := ⟨mTB 1000 (by decide +kernel) (by decide +kernel), mTB 1001 (by decide +kernel) (by decide +kernel), mTB 1002 (by decide +kernel) (by decide +kernel), mTB 10 (by decide +kernel) (by decide +kernel), mTB 1003 (by decide +kernel) (by decide +kernel), ⟨by decide +kernel, by decide +kernel, by decide +kernel⟩, _, rfl, rfl⟩
theorem cv_L_40 : CV "SeasonBoundLaw" 40 8 yX8_season cX8_season 4 (some FieldType.int) 2 := ⟨mTB 497 (by decide +kernel) (by decide +kernel), mTB 498 (by decide +kernel) (by decide +kernel), mTB 499 (by decide +kernel) (by decide +kernel), mTB 1 (by decide +kernel) (by decide +kernel), mTB 500 (by decide +kernel) (by decide +kernel), ⟨by decide +kernel, by decide +kernel, by decide +kernel⟩, _, rfl, rfl⟩
theorem cv_L_43 : CV "SeasonBoundLaw" 43 9 yX9_season cX9_season 3 (some FieldType.int) 2 := ⟨mTB 1013 (by decide +kernel) (by decide +kernel), mTB 1014 (by decide +kernel) (by decide +kernel), mTB 1015 (by decide +kernel) (by decide +kernel), mTB 10 (by decide +kernel) (by decide +kernel), mTB 1016 (by decide +kernel) (by decide +kernel), ⟨by decide +kernel, by decide +kernel, by decide +kernel⟩, _, rfl, rfl⟩
theorem cv_L_44 : CV "SeasonBoundLaw" 44 8 yX8_alter cX8_alter 6 (some FieldType.int) 3 := ⟨mTB 503 (by decide +kernel) (by decide +kernel), mTB 504 (by decide +kernel) (by decide +kernel), mTB 505 (by decide +kernel) (by decide +kernel), mTB 1 (by decide +kernel) (by decide +kernel), mTB 506 (by decide +kernel) (by decide +kernel), ⟨by decide +kernel, by decide +kernel, by decide +kernel⟩, _, rfl, rfl⟩
theorem cv_L_48 : CV "SeasonBoundLaw" 48 9 yX9_alter cX9_alter 5 (some FieldType.int) 3 := ⟨mTB 1025 (by decide +kernel) (by decide +kernel), mTB 1026 (by decide +kernel) (by decide +kernel), mTB 1027 (by decide +kernel) (by decide +kernel), mTB 10 (by decide +kernel) (by decide +kernel), mTB 1028 (by decide +kernel) (by decide +kernel), ⟨by decide +kernel, by decide +kernel, by decide +kernel⟩, _, rfl, rfl⟩
theorem cv_L_49 : CV "SeasonBoundLaw" 49 8 yX8_set cX8_set 6 (some FieldType.int) 3 := ⟨mTB 510 (by decide +kernel) (by decide +kernel), mTB 511 (by decide +kernel) (by decide +kernel), mTB 512 (by decide +kernel) (by decide +kernel), mTB 1 (by decide +kernel) (by decide +kernel), mTB 513 (by decide +kernel) (by decide +kernel), ⟨by decide +kernel, by decide +kernel, by decide +kernel⟩, _, rfl, rfl⟩
theorem cv_L_52 : CV "SeasonBoundLaw" 52 9 yX9_set cX9_set 5 (some FieldType.int) 3 := ⟨mTB 1037 (by decide +kernel) (by decide +kernel), mTB 1038 (by decide +kernel) (by decide +kernel), mTB 1039 (by decide +kernel) (by decide +kernel), mTB 10 (by decide +kernel) (by decide +kernel), mTB 1040 (by decide +kernel) (by decide +kernel), ⟨by decide +kernel, by decide +kernel, by decide +kernel⟩, _, rfl, rfl⟩
theorem cv_L_53 : CV "SeasonBoundLaw" 53 8 yX8_bind cX8_bind 4 (some FieldType.int) 3 := ⟨mTB 514 (by decide +kernel) (by decide +kernel), mTB 515 (by decide +kernel) (by decide +kernel), mTB 516 (by decide +kernel) (by decide +kernel), mTB 1 (by decide +kernel) (by decide +kernel), mTB 517 (by decide +kernel) (by decide +kernel), ⟨by decide +kernel, by decide +kernel, by decide +kernel⟩, _, rfl, rfl⟩
theorem cv_L_56 : CV "SeasonBoundLaw" 56 9 yX9_bind cX9_bind 6 (some FieldType.int) 3 := ⟨mTB 1042 (by decide +kernel) (by decide +kernel), mTB 1043 (by decide +kernel) (by decide +kernel), mTB 1044 (by decide +kernel) (by decide +kernel), mTB 10 (by decide +kernel) (by decide +kernel), mTB 1045 (by decide +kernel) (by decide +kernel), ⟨by decide +kernel, by decide +kernel, by decide +kernel⟩, _, rfl, rfl⟩
theorem cv_L_57 : CV "SeasonBoundLaw" 57 8 yX8_free cX8_free 4 (some FieldType.int) 1 := ⟨mTB 519 (by decide +kernel) (by decide +kernel), mTB 520 (by decide +kernel) (by decide +kernel), mTB 521 (by decide +kernel) (by decide +kernel), mTB 1 (by decide +kernel) (by decide +kernel), mTB 522 (by decide +kernel) (by decide +kernel), ⟨by decide +kernel, by decide +kernel, by decide +kernel⟩, _, rfl, rfl⟩
theorem cv_L_60 : CV "SeasonBoundLaw" 60 9 yX9_free cX9_free 2 (some FieldType.int) 1 := ⟨mTB 1050 (by decide +kernel) (by decide +kernel), mTB 1051 (by decide +kernel) (by decide +kernel), mTB 1052 (by decide +kernel) (by decide +kernel), mTB 10 (by decide +kernel) (by decide +kernel), mTB 1053 (by decide +kernel) (by decide +kernel), ⟨by decide +kernel, by decide +kernel, by decide +kernel⟩, _, rfl, rfl⟩
theorem cv_L_61 : CV "SeasonBoundLaw" 61 8 yX8_born cX8_born 2 (some FieldType.int) 1 := ⟨mTB 523 (by decide +kernel) (by decide +kernel), mTB 524 (by decide +kernel) (by decide +kernel), mTB 525 (by decide +kernel) (by decide +kernel), mTB 1 (by decide +kernel) (by decide +kernel), mTB 526 (by decide +kernel) (by decide +kernel), ⟨by decide +kernel, by decide +kernel, by decide +kernel⟩, _, rfl, rfl⟩
theorem cv_L_64 : CV "SeasonBoundLaw" 64 9 yX9_born cX9_born 3 (some FieldType.int) 1 := ⟨mTB 1054 (by decide +kernel) (by decide +kernel), mTB 1055 (by decide +kernel) (by decide +kernel), mTB 1056 (by decide +kernel) (by decide +kernel), mTB 10 (by decide +kernel) (by decide +kernel), mTB 1057 (by decide +kernel) (by decide +kernel), ⟨by decide +kernel, by decide +kernel, by decide +kernel⟩, _, rfl, rfl⟩
theorem cv_L_65 : CV "SeasonBoundLaw" 65 8 yX8_weeks cX8_weeks 3 (some FieldType.int) 1 := ⟨mTB 528 (by decide +kernel) (by decide +kernel), mTB 529 (by decide +kernel) (by decide +kernel), mTB 530 (by decide +kernel) (by decide +kernel), mTB 1 (by decide +kernel) (by decide +kernel), mTB 531 (by decide +kernel) (by decide +kernel), ⟨by decide +kernel, by decide +kernel, by decide +kernel⟩, _, rfl, rfl⟩
theorem cv_L_68 : CV "SeasonBoundLaw" 68 9 yX9_weeks cX9_weeks 4 (some FieldType.int) 1 := ⟨mTB 1058 (by decide +kernel) (by decide +kernel), mTB 1059 (by decide +kernel) (by decide +kernel), mTB 1060 (by decide +kernel) (by decide +kernel), mTB 10 (by decide +kernel) (by decide +kernel), mTB 1061 (by decide +kernel) (by decide +kernel), ⟨by decide +kernel, by decide +kernel, by decide +kernel⟩, _, rfl, rfl⟩
theorem cv_L_69 : CV "SeasonBoundLaw" 69 8 yX8_runs cX8_runs 5 (some FieldType.int) 2 := ⟨mTB 552 (by decide +kernel) (by decide +kernel), mTB 553 (by decide +kernel) (by decide +kernel), mTB 554 (by decide +kernel) (by decide +kernel), mTB 1 (by decide +kernel) (by decide +kernel), mTB 555 (by decide +kernel) (by decide +kernel), ⟨by decide +kernel, by decide +kernel, by decide +kernel⟩, _, rfl, rfl⟩
theorem cv_L_72 : CV "SeasonBoundLaw" 72 9 yX9_runs cX9_runs 5 (some FieldType.int) 2 := ⟨mTB 1090 (by decide +kernel) (by decide +kernel), mTB 1091 (by decide +kernel) (by decide +kernel), mTB 1092 (by decide +kernel) (by decide +kernel), mTB 10 (by decide +kernel) (by decide +kernel), mTB 1093 (by decide +kernel) (by decide +kernel), ⟨by decide +kernel, by decide +kernel, by decide +kernel⟩, _, rfl, rfl⟩
theorem cv_L_73 : CV "SeasonBoundLaw" 73 8 yX8_ahead cX8_ahead 5 (some FieldType.int) 3 := ⟨mTB 568 (by decide +kernel) (by decide +kernel), mTB 569 (by decide +kernel) (by decide +kernel), mTB 570 (by decide +kernel) (by decide +kernel), mTB 1 (by decide +kernel) (by decide +kernel), mTB 571 (by decide +kernel) (by decide +kernel), ⟨by decide +kernel, by decide +kernel, by decide +kernel⟩, _, rfl, rfl⟩
theorem cv_L_76 : CV "SeasonBoundLaw" 76 9 yX9_ahead cX9_ahead 4 (some FieldType.int) 3 := ⟨mTB 1103 (by decide +kernel) (by decide +kernel), mTB 1104 (by decide +kernel) (by decide +kernel), mTB 1105 (by decide +kernel) (by decide +kernel), mTB 10 (by decide +kernel) (by decide +kernel), mTB 1106 (by decide +kernel) (by decide +kernel), ⟨by decide +kernel, by decide +kernel, by decide +kernel⟩, _, rfl, rfl⟩
theorem cv_L_77 : CV "SeasonBoundLaw" 77 8 yX8_home cX8_home 3 (some FieldType.int) 1 := ⟨mTB 572 (by decide +kernel) (by decide +kernel), mTB 573 (by decide +kernel) (by decide +kernel), mTB 574 (by decide +kernel) (by decide +kernel), mTB 1 (by decide +kernel) (by decide +kernel), mTB 575 (by decide +kernel) (by decide +kernel), ⟨by decide +kernel, by decide +kernel, by decide +kernel⟩, _, rfl, rfl⟩
theorem cv_L_80 : CV "SeasonBoundLaw" 80 9 yX9_home cX9_home 3 (some FieldType.int) 1 := ⟨mTB 1108 (by decide +kernel) (by decide +kernel), mTB 1109 (by decide +kernel) (by decide +kernel), mTB 1110 (by decide +kernel) (by decide +kernel), mTB 10 (by decide +kernel) (by decide +kernel), mTB 1111 (by decide +kernel) (by decide +kernel), ⟨by decide +kernel, by decide +kernel, by decide +kernel⟩, _, rfl, rfl⟩
theorem cv_L_81 : CV "SeasonBoundLaw" 81 8 yX8_meet cX8_meet 5 (some FieldType.int) 2 := ⟨mTB 576 (by decide +kernel) (by decide +kernel), mTB 577 (by decide +kernel) (by decide +kernel), mTB 578 (by decide +kernel) (by decide +kernel), mTB 1 (by decide +kernel) (by decide +kernel), mTB 579 (by decide +kernel) (by decide +kernel), ⟨by decide +kernel, by decide +kernel, by decide +kernel⟩, _, rfl, rfl⟩
theorem cv_L_84 : CV "SeasonBoundLaw" 84 9 yX9_meet cX9_meet 4 (some FieldType.int) 2 := ⟨mTB 1112 (by decide +kernel) (by decide +kernel), mTB 1113 (by decide +kernel) (by decide +kernel), mTB 1114 (by decide +kernel) (by decide +kernel), mTB 10 (by decide +kernel) (by decide +kernel), mTB 1115 (by decide +kernel) (by decide +kernel), ⟨by decide +kernel, by decide +kernel, by decide +kernel⟩, _, rfl, rfl⟩
theorem cv_L_85 : CV "SeasonBoundLaw" 85 8 yX8_place cX8_place 6 (some FieldType.int) 3 := ⟨mTB 580 (by decide +kernel) (by decide +kernel), mTB 581 (by decide +kernel) (by decide +kernel), mTB 582 (by decide +kernel) (by decide +kernel), mTB 1 (by decide +kernel) (by decide +kernel), mTB 583 (by decide +kernel) (by decide +kernel), ⟨by decide +kernel, by decide +kernel, by decide +kernel⟩, _, rfl, rfl⟩
theorem cv_L_88 : CV "SeasonBoundLaw" 88 9 yX9_place cX9_place 5 (some FieldType.int) 3 := ⟨mTB 1116 (by decide +kernel) (by decide +kernel), mTB 1117 (by decide +kernel) (by decide +kernel), mTB 1118 (by decide +kernel) (by decide +kernel), mTB 10 (by decide +kernel) (by decide +kernel), mTB 1119 (by decide +kernel) (by decide +kernel), ⟨by decide +kernel, by decide +kernel, by decide +kernel⟩, _, rfl, rfl⟩
theorem cv_L_89 : CV "SeasonBoundLaw" 89 8 yX8_swap cX8_swap 5 (some FieldType.int) 2 := ⟨mTB 599 (by decide +kernel) (by decide +kernel), mTB 600 (by decide +kernel) (by decide +kernel), mTB 601 (by decide +kernel) (by decide +kernel), mTB 1 (by decide +kernel) (by decide +kernel), mTB 602 (by decide +kernel) (by decide +kernel), ⟨by decide +kernel, by decide +kernel, by decide +kernel⟩, _, rfl, rfl⟩
theorem cv_L_92 : CV "SeasonBoundLaw" 92 9 yX9_swap cX9_swap 6 (some FieldType.int) 2 := ⟨mTB 1135 (by decide +kernel) (by decide +kernel), mTB 1136 (by decide +kernel) (by decide +kernel), mTB 1137 (by decide +kernel) (by decide +kernel), mTB 10 (by decide +kernel) (by decide +kernel), mTB 1138 (by decide +kernel) (by decide +kernel), ⟨by decide +kernel, by decide +kernel, by decide +kernel⟩, _, rfl, rfl⟩
theorem cv_L_93 : CV "SeasonBoundLaw" 93 8 yX8_span cX8_span 5 (some FieldType.int) 3 := ⟨mTB 615 (by decide +kernel) (by decide +kernel), mTB 616 (by decide +kernel) (by decide +kernel), mTB 617 (by decide +kernel) (by decide +kernel), mTB 1 (by decide +kernel) (by decide +kernel), mTB 618 (by decide +kernel) (by decide +kernel), ⟨by decide +kernel, by decide +kernel, by decide +kernel⟩, _, rfl, rfl⟩
theorem cv_L_96 : CV "SeasonBoundLaw" 96 9 yX9_span cX9_span 5 (some FieldType.int) 3 := ⟨mTB 1139 (by decide +kernel) (by decide +kernel), mTB 1140 (by decide +kernel) (by decide +kernel), mTB 1141 (by decide +kernel) (by decide +kernel), mTB 10 (by decide +kernel) (by decide +kernel), mTB 1142 (by decide +kernel) (by decide +kernel), ⟨by decide +kernel, by decide +kernel, by decide +kernel⟩, _, rfl, rfl⟩
theorem cv_L_97 : CV "SeasonBoundLaw" 97 8 yX8_gift cX8_gift 4 (some FieldType.int) 2 := ⟨mTB 619 (by decide +kernel) (by decide +kernel), mTB 620 (by decide +kernel) (by decide +kernel), mTB 621 (by decide +kernel) (by decide +kernel), mTB 1 (by decide +kernel) (by decide +kernel), mTB 622 (by decide +kernel) (by decide +kernel), ⟨by decide +kernel, by decide +kernel, by decide +kernel⟩, _, rfl, rfl⟩
set_option maxHeartbeats 4000000 in
set_option maxRecDepth 100000 in
theorem lc_feed {p : Program} {l : Launch} {e : Env} {s : State} {m : MethodId} {args : Array Value} {below : List Frame} {meth : Method} {c : Code} {Γ : Cx} {b L : Nat} {xs : Nat → Int32} {Q : State → Prop} {d : Dt} {x3 : Int32} (C0 : Ct Γ p s m args c code 4 "SeasonBoundLaw") (hX : va_X b L xs s s.heap) (hbl : b < s.heap.size) (hbA : ¬ AP Γ b) (hin : ∀ k : Nat, k < 6 → vp_in (x3 + nI k) L) (hI : Inv d) (H : Heap) (locs : List Loc) (ls : Array Slot) (hH : Hs Γ L0 d s H locs) (hl : lv_has ls 4 [(0, .ref b), (1, .ref (ad Γ.2.2.1 0)), (2, .ref (ad Γ.2.2.1 78)), (3, .int x3)])
    (kk : ∀ (d : Dt) (H : Heap) (locs : List Loc), Inv d → Hs Γ L0 d s H locs → W p l e room_1 s m args below meth c H locs 90 3089 Q (F0 m 1473 ls [])) : W p l e room_1 s m args below meth c H locs 90 3089 Q (F0 m 204 ls []) := by
  obtain ⟨hx, hb, hml, hown, hts, hK⟩ := id C0
  have h1 : vp_in (x3 + (1 : Int32)) L := hin 1 (by decide)
  obtain ⟨z1, z2, e1, e2, er, eI⟩ := st_feed hI (xs (x3 + (1 : Int32)).toNatClampNeg)
  refine lv_aload_n hx hb dL_law_204 rfl (lv_at hl 1 rfl) ?_
  refine lv_aload_n hx hb dL_law_205 rfl (lv_at hl 0 rfl) ?_
  refine lv_iload_n hx hb dL_law_206 rfl (lv_at hl 3 rfl) ?_
  refine lv_iconst (v := (1 : Int32)) hx hb dL_law_207 (by decide) ?_
  refine lv_iadd hx hb dL_law_208 ?_
  refine va_sld hx hb hX hbl hbA hH.2 h1 dL_law_209 ?_
  refine r_callVi (rest := []) C0 hH (c_X8_feed Γ l L0 d 0 (xs (x3 + (1 : Int32)).toNatClampNeg) z1 e1) cv_L_13 (by decide) (by decide) rfl hl.1 rfl (Nat.le_of_ble_eq_true rfl) dL_law_210 (by decide) (fun H locs hH => ?_)
  refine lv_aload_n hx hb dL_law_213 rfl (lv_at hl 2 rfl) ?_
  refine lv_aload_n hx hb dL_law_214 rfl (lv_at hl 0 rfl) ?_
  refine lv_iload_n hx hb dL_law_215 rfl (lv_at hl 3 rfl) ?_
  refine lv_iconst (v := (1 : Int32)) hx hb dL_law_216 (by decide) ?_
  refine lv_iadd hx hb dL_law_217 ?_
  refine va_sld hx hb hX hbl hbA hH.2 h1 dL_law_218 ?_
  refine r_callVi (rest := [.int z1.1]) C0 hH (c_X9_feed Γ l L0 z1.2 78 (xs (x3 + (1 : Int32)).toNatClampNeg) z2 e2) cv_L_17 (by decide) (by decide) rfl hl.1 rfl (Nat.le_of_ble_eq_true rfl) dL_law_219 (by decide) (fun H locs hH => ?_)
  refine lv_icmp_eq (tgt := 1473) hx hb dL_law_222 (by decide) (fun _ => ?_) (fun c9 => absurd er c9)
  exact kk z2.2 _ _ eI hH
set_option maxHeartbeats 4000000 in
set_option maxRecDepth 100000 in
theorem lc_end {p : Program} {l : Launch} {e : Env} {s : State} {m : MethodId} {args : Array Value} {below : List Frame} {meth : Method} {c : Code} {Γ : Cx} {b L : Nat} {xs : Nat → Int32} {Q : State → Prop} {d : Dt} {x3 : Int32} (C0 : Ct Γ p s m args c code 4 "SeasonBoundLaw") (hX : va_X b L xs s s.heap) (hbl : b < s.heap.size) (hbA : ¬ AP Γ b) (hin : ∀ k : Nat, k < 6 → vp_in (x3 + nI k) L) (hI : Inv d) (H : Heap) (locs : List Loc) (ls : Array Slot) (hH : Hs Γ L0 d s H locs) (hl : lv_has ls 4 [(0, .ref b), (1, .ref (ad Γ.2.2.1 0)), (2, .ref (ad Γ.2.2.1 78)), (3, .int x3)])
    (kk : ∀ (d : Dt) (H : Heap) (locs : List Loc), Inv d → Hs Γ L0 d s H locs → W p l e room_1 s m args below meth c H locs 90 3089 Q (F0 m 1473 ls [])) : W p l e room_1 s m args below meth c H locs 90 3089 Q (F0 m 227 ls []) := by
  obtain ⟨hx, hb, hml, hown, hts, hK⟩ := id C0
  have h1 : vp_in (x3 + (1 : Int32)) L := hin 1 (by decide)
  obtain ⟨z1, z2, e1, e2, er, eI⟩ := st_end hI (xs (x3 + (1 : Int32)).toNatClampNeg)
  refine lv_aload_n hx hb dL_law_227 rfl (lv_at hl 1 rfl) ?_
  refine lv_aload_n hx hb dL_law_228 rfl (lv_at hl 0 rfl) ?_
  refine lv_iload_n hx hb dL_law_229 rfl (lv_at hl 3 rfl) ?_
  refine lv_iconst (v := (1 : Int32)) hx hb dL_law_230 (by decide) ?_
  refine lv_iadd hx hb dL_law_231 ?_
  refine va_sld hx hb hX hbl hbA hH.2 h1 dL_law_232 ?_
  refine r_callVi (rest := []) C0 hH (c_X8_end Γ l L0 d 0 (xs (x3 + (1 : Int32)).toNatClampNeg) z1 e1) cv_L_18 (by decide) (by decide) rfl hl.1 rfl (Nat.le_of_ble_eq_true rfl) dL_law_233 (by decide) (fun H locs hH => ?_)
  refine lv_aload_n hx hb dL_law_236 rfl (lv_at hl 2 rfl) ?_
  refine lv_aload_n hx hb dL_law_237 rfl (lv_at hl 0 rfl) ?_
  refine lv_iload_n hx hb dL_law_238 rfl (lv_at hl 3 rfl) ?_
  refine lv_iconst (v := (1 : Int32)) hx hb dL_law_239 (by decide) ?_
  refine lv_iadd hx hb dL_law_240 ?_
  refine va_sld hx hb hX hbl hbA hH.2 h1 dL_law_241 ?_
  refine r_callVi (rest := [.int z1.1]) C0 hH (c_X9_end Γ l L0 z1.2 78 (xs (x3 + (1 : Int32)).toNatClampNeg) z2 e2) cv_L_21 (by decide) (by decide) rfl hl.1 rfl (Nat.le_of_ble_eq_true rfl) dL_law_242 (by decide) (fun H locs hH => ?_)
  refine lv_icmp_eq (tgt := 1473) hx hb dL_law_245 (by decide) (fun _ => ?_) (fun c9 => absurd er c9)
  exact kk z2.2 _ _ eI hH
set_option maxHeartbeats 4000000 in
set_option maxRecDepth 100000 in
theorem lc_text {p : Program} {l : Launch} {e : Env} {s : State} {m : MethodId} {args : Array Value} {below : List Frame} {meth : Method} {c : Code} {Γ : Cx} {b L : Nat} {xs : Nat → Int32} {Q : State → Prop} {d : Dt} {x3 : Int32} (C0 : Ct Γ p s m args c code 4 "SeasonBoundLaw") (hX : va_X b L xs s s.heap) (hbl : b < s.heap.size) (hbA : ¬ AP Γ b) (hin : ∀ k : Nat, k < 6 → vp_in (x3 + nI k) L) (hI : Inv d) (H : Heap) (locs : List Loc) (ls : Array Slot) (hH : Hs Γ L0 d s H locs) (hl : lv_has ls 4 [(0, .ref b), (1, .ref (ad Γ.2.2.1 0)), (2, .ref (ad Γ.2.2.1 78)), (3, .int x3)])
    (kk : ∀ (d : Dt) (H : Heap) (locs : List Loc), Inv d → Hs Γ L0 d s H locs → W p l e room_1 s m args below meth c H locs 90 3089 Q (F0 m 1473 ls [])) : W p l e room_1 s m args below meth c H locs 90 3089 Q (F0 m 250 ls []) := by
  obtain ⟨hx, hb, hml, hown, hts, hK⟩ := id C0
  obtain ⟨z1, z2, e1, e2, er, eI⟩ := st_text hI
  refine lv_aload_n hx hb dL_law_250 rfl (lv_at hl 1 rfl) ?_
  refine r_callVi (rest := []) C0 hH (c_X8_text Γ l L0 d 0 z1 e1) cv_L_22 (by decide) (by decide) rfl hl.1 rfl (Nat.le_of_ble_eq_true rfl) dL_law_251 (by decide) (fun H locs hH => ?_)
  refine lv_aload_n hx hb dL_law_254 rfl (lv_at hl 2 rfl) ?_
  refine r_callVi (rest := [.int z1.1]) C0 hH (c_X9_text Γ l L0 z1.2 78 z2 e2) cv_L_26 (by decide) (by decide) rfl hl.1 rfl (Nat.le_of_ble_eq_true rfl) dL_law_255 (by decide) (fun H locs hH => ?_)
  refine lv_icmp_eq (tgt := 1473) hx hb dL_law_258 (by decide) (fun _ => ?_) (fun c9 => absurd er c9)
  exact kk z2.2 _ _ eI hH
set_option maxHeartbeats 4000000 in
set_option maxRecDepth 100000 in
theorem lc_fault {p : Program} {l : Launch} {e : Env} {s : State} {m : MethodId} {args : Array Value} {below : List Frame} {meth : Method} {c : Code} {Γ : Cx} {b L : Nat} {xs : Nat → Int32} {Q : State → Prop} {d : Dt} {x3 : Int32} (C0 : Ct Γ p s m args c code 4 "SeasonBoundLaw") (hX : va_X b L xs s s.heap) (hbl : b < s.heap.size) (hbA : ¬ AP Γ b) (hin : ∀ k : Nat, k < 6 → vp_in (x3 + nI k) L) (hI : Inv d) (H : Heap) (locs : List Loc) (ls : Array Slot) (hH : Hs Γ L0 d s H locs) (hl : lv_has ls 4 [(0, .ref b), (1, .ref (ad Γ.2.2.1 0)), (2, .ref (ad Γ.2.2.1 78)), (3, .int x3)])
    (kk : ∀ (d : Dt) (H : Heap) (locs : List Loc), Inv d → Hs Γ L0 d s H locs → W p l e room_1 s m args below meth c H locs 90 3089 Q (F0 m 1473 ls [])) : W p l e room_1 s m args below meth c H locs 90 3089 Q (F0 m 263 ls []) := by
  obtain ⟨hx, hb, hml, hown, hts, hK⟩ := id C0
  obtain ⟨z1, z2, e1, e2, er, eI⟩ := st_fault hI
  refine lv_aload_n hx hb dL_law_263 rfl (lv_at hl 1 rfl) ?_
  refine r_callVi (rest := []) C0 hH (c_X8_fault Γ l L0 d 0 z1 e1) cv_L_27 (by decide) (by decide) rfl hl.1 rfl (Nat.le_of_ble_eq_true rfl) dL_law_264 (by decide) (fun H locs hH => ?_)
  refine lv_aload_n hx hb dL_law_267 rfl (lv_at hl 2 rfl) ?_
  refine r_callVi (rest := [.int z1]) C0 hH (c_X9_fault Γ l L0 d 78 z2 e2) cv_L_30 (by decide) (by decide) rfl hl.1 rfl (Nat.le_of_ble_eq_true rfl) dL_law_268 (by decide) (fun H locs hH => ?_)
  refine lv_icmp_eq (tgt := 1473) hx hb dL_law_271 (by decide) (fun _ => ?_) (fun c9 => absurd er c9)
  exact kk d _ _ eI hH
set_option maxHeartbeats 4000000 in
set_option maxRecDepth 100000 in
theorem lc_rule {p : Program} {l : Launch} {e : Env} {s : State} {m : MethodId} {args : Array Value} {below : List Frame} {meth : Method} {c : Code} {Γ : Cx} {b L : Nat} {xs : Nat → Int32} {Q : State → Prop} {d : Dt} {x3 : Int32} (C0 : Ct Γ p s m args c code 4 "SeasonBoundLaw") (hX : va_X b L xs s s.heap) (hbl : b < s.heap.size) (hbA : ¬ AP Γ b) (hin : ∀ k : Nat, k < 6 → vp_in (x3 + nI k) L) (hI : Inv d) (H : Heap) (locs : List Loc) (ls : Array Slot) (hH : Hs Γ L0 d s H locs) (hl : lv_has ls 4 [(0, .ref b), (1, .ref (ad Γ.2.2.1 0)), (2, .ref (ad Γ.2.2.1 78)), (3, .int x3)])
    (kk : ∀ (d : Dt) (H : Heap) (locs : List Loc), Inv d → Hs Γ L0 d s H locs → W p l e room_1 s m args below meth c H locs 90 3089 Q (F0 m 1473 ls [])) : W p l e room_1 s m args below meth c H locs 90 3089 Q (F0 m 276 ls []) := by
  obtain ⟨hx, hb, hml, hown, hts, hK⟩ := id C0
  have h1 : vp_in (x3 + (1 : Int32)) L := hin 1 (by decide)
  obtain ⟨z1, z2, e1, e2, er, eI⟩ := st_rule hI (xs (x3 + (1 : Int32)).toNatClampNeg)
  refine lv_aload_n hx hb dL_law_276 rfl (lv_at hl 1 rfl) ?_
  refine lv_aload_n hx hb dL_law_277 rfl (lv_at hl 0 rfl) ?_
  refine lv_iload_n hx hb dL_law_278 rfl (lv_at hl 3 rfl) ?_
  refine lv_iconst (v := (1 : Int32)) hx hb dL_law_279 (by decide) ?_
  refine lv_iadd hx hb dL_law_280 ?_
  refine va_sld hx hb hX hbl hbA hH.2 h1 dL_law_281 ?_
  refine r_callVi (rest := []) C0 hH (c_X8_rule Γ l L0 d 0 (xs (x3 + (1 : Int32)).toNatClampNeg) z1 e1) cv_L_31 (by decide) (by decide) rfl hl.1 rfl (Nat.le_of_ble_eq_true rfl) dL_law_282 (by decide) (fun H locs hH => ?_)
  refine lv_aload_n hx hb dL_law_285 rfl (lv_at hl 2 rfl) ?_
  refine lv_aload_n hx hb dL_law_286 rfl (lv_at hl 0 rfl) ?_
  refine lv_iload_n hx hb dL_law_287 rfl (lv_at hl 3 rfl) ?_
  refine lv_iconst (v := (1 : Int32)) hx hb dL_law_288 (by decide) ?_
  refine lv_iadd hx hb dL_law_289 ?_
  refine va_sld hx hb hX hbl hbA hH.2 h1 dL_law_290 ?_
  refine r_callVi (rest := [.int z1]) C0 hH (c_X9_rule Γ l L0 d 78 (xs (x3 + (1 : Int32)).toNatClampNeg) z2 e2) cv_L_34 (by decide) (by decide) rfl hl.1 rfl (Nat.le_of_ble_eq_true rfl) dL_law_291 (by decide) (fun H locs hH => ?_)
  refine lv_icmp_eq (tgt := 1473) hx hb dL_law_294 (by decide) (fun _ => ?_) (fun c9 => absurd er c9)
  exact kk z2.2 _ _ eI hH
set_option maxHeartbeats 4000000 in
set_option maxRecDepth 100000 in
theorem lc_child {p : Program} {l : Launch} {e : Env} {s : State} {m : MethodId} {args : Array Value} {below : List Frame} {meth : Method} {c : Code} {Γ : Cx} {b L : Nat} {xs : Nat → Int32} {Q : State → Prop} {d : Dt} {x3 : Int32} (C0 : Ct Γ p s m args c code 4 "SeasonBoundLaw") (hX : va_X b L xs s s.heap) (hbl : b < s.heap.size) (hbA : ¬ AP Γ b) (hin : ∀ k : Nat, k < 6 → vp_in (x3 + nI k) L) (hI : Inv d) (H : Heap) (locs : List Loc) (ls : Array Slot) (hH : Hs Γ L0 d s H locs) (hl : lv_has ls 4 [(0, .ref b), (1, .ref (ad Γ.2.2.1 0)), (2, .ref (ad Γ.2.2.1 78)), (3, .int x3)])
    (kk : ∀ (d : Dt) (H : Heap) (locs : List Loc), Inv d → Hs Γ L0 d s H locs → W p l e room_1 s m args below meth c H locs 90 3089 Q (F0 m 1473 ls [])) : W p l e room_1 s m args below meth c H locs 90 3089 Q (F0 m 299 ls []) := by
  obtain ⟨hx, hb, hml, hown, hts, hK⟩ := id C0
  have h1 : vp_in (x3 + (1 : Int32)) L := hin 1 (by decide)
  have h2 : vp_in (x3 + (2 : Int32)) L := hin 2 (by decide)
  obtain ⟨z1, z2, e1, e2, er, eI⟩ := st_child hI (xs (x3 + (1 : Int32)).toNatClampNeg) (xs (x3 + (2 : Int32)).toNatClampNeg)
  refine lv_aload_n hx hb dL_law_299 rfl (lv_at hl 1 rfl) ?_
  refine lv_aload_n hx hb dL_law_300 rfl (lv_at hl 0 rfl) ?_
  refine lv_iload_n hx hb dL_law_301 rfl (lv_at hl 3 rfl) ?_
  refine lv_iconst (v := (1 : Int32)) hx hb dL_law_302 (by decide) ?_
  refine lv_iadd hx hb dL_law_303 ?_
  refine va_sld hx hb hX hbl hbA hH.2 h1 dL_law_304 ?_
  refine lv_aload_n hx hb dL_law_305 rfl (lv_at hl 0 rfl) ?_
  refine lv_iload_n hx hb dL_law_306 rfl (lv_at hl 3 rfl) ?_
  refine lv_iconst (v := (2 : Int32)) hx hb dL_law_307 (by decide) ?_
  refine lv_iadd hx hb dL_law_308 ?_
  refine va_sld hx hb hX hbl hbA hH.2 h2 dL_law_309 ?_
  refine r_callVi (rest := []) C0 hH (c_X8_child Γ l L0 d 0 (xs (x3 + (1 : Int32)).toNatClampNeg) (xs (x3 + (2 : Int32)).toNatClampNeg) z1 e1) cv_L_35 (by decide) (by decide) rfl hl.1 rfl (Nat.le_of_ble_eq_true rfl) dL_law_310 (by decide) (fun H locs hH => ?_)
  refine lv_aload_n hx hb dL_law_313 rfl (lv_at hl 2 rfl) ?_
  refine lv_aload_n hx hb dL_law_314 rfl (lv_at hl 0 rfl) ?_
  refine lv_iload_n hx hb dL_law_315 rfl (lv_at hl 3 rfl) ?_
  refine lv_iconst (v := (1 : Int32)) hx hb dL_law_316 (by decide) ?_
  refine lv_iadd hx hb dL_law_317 ?_
  refine va_sld hx hb hX hbl hbA hH.2 h1 dL_law_318 ?_
  refine lv_aload_n hx hb dL_law_319 rfl (lv_at hl 0 rfl) ?_
  refine lv_iload_n hx hb dL_law_320 rfl (lv_at hl 3 rfl) ?_
  refine lv_iconst (v := (2 : Int32)) hx hb dL_law_321 (by decide) ?_
  refine lv_iadd hx hb dL_law_322 ?_
  refine va_sld hx hb hX hbl hbA hH.2 h2 dL_law_323 ?_
  refine r_callVi (rest := [.int z1]) C0 hH (c_X9_child Γ l L0 d 78 (xs (x3 + (1 : Int32)).toNatClampNeg) (xs (x3 + (2 : Int32)).toNatClampNeg) z2 e2) cv_L_39 (by decide) (by decide) rfl hl.1 rfl (Nat.le_of_ble_eq_true rfl) dL_law_324 (by decide) (fun H locs hH => ?_)
  refine lv_icmp_eq (tgt := 1473) hx hb dL_law_327 (by decide) (fun _ => ?_) (fun c9 => absurd er c9)
  exact kk z2.2 _ _ eI hH
set_option maxHeartbeats 4000000 in
set_option maxRecDepth 100000 in
theorem lc_season {p : Program} {l : Launch} {e : Env} {s : State} {m : MethodId} {args : Array Value} {below : List Frame} {meth : Method} {c : Code} {Γ : Cx} {b L : Nat} {xs : Nat → Int32} {Q : State → Prop} {d : Dt} {x3 : Int32} (C0 : Ct Γ p s m args c code 4 "SeasonBoundLaw") (hX : va_X b L xs s s.heap) (hbl : b < s.heap.size) (hbA : ¬ AP Γ b) (hin : ∀ k : Nat, k < 6 → vp_in (x3 + nI k) L) (hI : Inv d) (H : Heap) (locs : List Loc) (ls : Array Slot) (hH : Hs Γ L0 d s H locs) (hl : lv_has ls 4 [(0, .ref b), (1, .ref (ad Γ.2.2.1 0)), (2, .ref (ad Γ.2.2.1 78)), (3, .int x3)])
    (kk : ∀ (d : Dt) (H : Heap) (locs : List Loc), Inv d → Hs Γ L0 d s H locs → W p l e room_1 s m args below meth c H locs 90 3089 Q (F0 m 1473 ls [])) : W p l e room_1 s m args below meth c H locs 90 3089 Q (F0 m 332 ls []) := by
  obtain ⟨hx, hb, hml, hown, hts, hK⟩ := id C0
  have h1 : vp_in (x3 + (1 : Int32)) L := hin 1 (by decide)
  have h2 : vp_in (x3 + (2 : Int32)) L := hin 2 (by decide)
  obtain ⟨z1, z2, e1, e2, er, eI⟩ := st_season hI (xs (x3 + (1 : Int32)).toNatClampNeg) (xs (x3 + (2 : Int32)).toNatClampNeg)
  refine lv_aload_n hx hb dL_law_332 rfl (lv_at hl 1 rfl) ?_
  refine lv_aload_n hx hb dL_law_333 rfl (lv_at hl 0 rfl) ?_
  refine lv_iload_n hx hb dL_law_334 rfl (lv_at hl 3 rfl) ?_
  refine lv_iconst (v := (1 : Int32)) hx hb dL_law_335 (by decide) ?_
  refine lv_iadd hx hb dL_law_336 ?_
  refine va_sld hx hb hX hbl hbA hH.2 h1 dL_law_337 ?_
  refine lv_aload_n hx hb dL_law_338 rfl (lv_at hl 0 rfl) ?_
  refine lv_iload_n hx hb dL_law_339 rfl (lv_at hl 3 rfl) ?_
  refine lv_iconst (v := (2 : Int32)) hx hb dL_law_340 (by decide) ?_
  refine lv_iadd hx hb dL_law_341 ?_
  refine va_sld hx hb hX hbl hbA hH.2 h2 dL_law_342 ?_
  refine r_callVi (rest := []) C0 hH (c_X8_season Γ l L0 d 0 (xs (x3 + (1 : Int32)).toNatClampNeg) (xs (x3 + (2 : Int32)).toNatClampNeg) z1 e1) cv_L_40 (by decide) (by decide) rfl hl.1 rfl (Nat.le_of_ble_eq_true rfl) dL_law_343 (by decide) (fun H locs hH => ?_)
  refine lv_aload_n hx hb dL_law_346 rfl (lv_at hl 2 rfl) ?_
  refine lv_aload_n hx hb dL_law_347 rfl (lv_at hl 0 rfl) ?_
  refine lv_iload_n hx hb dL_law_348 rfl (lv_at hl 3 rfl) ?_
  refine lv_iconst (v := (1 : Int32)) hx hb dL_law_349 (by decide) ?_
  refine lv_iadd hx hb dL_law_350 ?_
  refine va_sld hx hb hX hbl hbA hH.2 h1 dL_law_351 ?_
  refine lv_aload_n hx hb dL_law_352 rfl (lv_at hl 0 rfl) ?_
  refine lv_iload_n hx hb dL_law_353 rfl (lv_at hl 3 rfl) ?_
  refine lv_iconst (v := (2 : Int32)) hx hb dL_law_354 (by decide) ?_
  refine lv_iadd hx hb dL_law_355 ?_
  refine va_sld hx hb hX hbl hbA hH.2 h2 dL_law_356 ?_
  refine r_callVi (rest := [.int z1]) C0 hH (c_X9_season Γ l L0 d 78 (xs (x3 + (1 : Int32)).toNatClampNeg) (xs (x3 + (2 : Int32)).toNatClampNeg) z2 e2) cv_L_43 (by decide) (by decide) rfl hl.1 rfl (Nat.le_of_ble_eq_true rfl) dL_law_357 (by decide) (fun H locs hH => ?_)
  refine lv_icmp_eq (tgt := 1473) hx hb dL_law_360 (by decide) (fun _ => ?_) (fun c9 => absurd er c9)
  exact kk d _ _ eI hH
set_option maxHeartbeats 4000000 in
set_option maxRecDepth 100000 in
theorem lc_alter {p : Program} {l : Launch} {e : Env} {s : State} {m : MethodId} {args : Array Value} {below : List Frame} {meth : Method} {c : Code} {Γ : Cx} {b L : Nat} {xs : Nat → Int32} {Q : State → Prop} {d : Dt} {x3 : Int32} (C0 : Ct Γ p s m args c code 4 "SeasonBoundLaw") (hX : va_X b L xs s s.heap) (hbl : b < s.heap.size) (hbA : ¬ AP Γ b) (hin : ∀ k : Nat, k < 6 → vp_in (x3 + nI k) L) (hI : Inv d) (H : Heap) (locs : List Loc) (ls : Array Slot) (hH : Hs Γ L0 d s H locs) (hl : lv_has ls 4 [(0, .ref b), (1, .ref (ad Γ.2.2.1 0)), (2, .ref (ad Γ.2.2.1 78)), (3, .int x3)])
    (kk : ∀ (d : Dt) (H : Heap) (locs : List Loc), Inv d → Hs Γ L0 d s H locs → W p l e room_1 s m args below meth c H locs 90 3089 Q (F0 m 1473 ls [])) : W p l e room_1 s m args below meth c H locs 90 3089 Q (F0 m 365 ls []) := by
  obtain ⟨hx, hb, hml, hown, hts, hK⟩ := id C0
  have h1 : vp_in (x3 + (1 : Int32)) L := hin 1 (by decide)
  have h2 : vp_in (x3 + (2 : Int32)) L := hin 2 (by decide)
  have h3 : vp_in (x3 + (3 : Int32)) L := hin 3 (by decide)
  obtain ⟨z1, z2, e1, e2, er, eI⟩ := st_alter hI (xs (x3 + (1 : Int32)).toNatClampNeg) (xs (x3 + (2 : Int32)).toNatClampNeg) (xs (x3 + (3 : Int32)).toNatClampNeg)
  refine lv_aload_n hx hb dL_law_365 rfl (lv_at hl 1 rfl) ?_
  refine lv_aload_n hx hb dL_law_366 rfl (lv_at hl 0 rfl) ?_
  refine lv_iload_n hx hb dL_law_367 rfl (lv_at hl 3 rfl) ?_
  refine lv_iconst (v := (1 : Int32)) hx hb dL_law_368 (by decide) ?_
  refine lv_iadd hx hb dL_law_369 ?_
  refine va_sld hx hb hX hbl hbA hH.2 h1 dL_law_370 ?_
  refine lv_aload_n hx hb dL_law_371 rfl (lv_at hl 0 rfl) ?_
  refine lv_iload_n hx hb dL_law_372 rfl (lv_at hl 3 rfl) ?_
  refine lv_iconst (v := (2 : Int32)) hx hb dL_law_373 (by decide) ?_
  refine lv_iadd hx hb dL_law_374 ?_
  refine va_sld hx hb hX hbl hbA hH.2 h2 dL_law_375 ?_
  refine lv_aload_n hx hb dL_law_376 rfl (lv_at hl 0 rfl) ?_
  refine lv_iload_n hx hb dL_law_377 rfl (lv_at hl 3 rfl) ?_
  refine lv_iconst (v := (3 : Int32)) hx hb dL_law_378 (by decide) ?_
  refine lv_iadd hx hb dL_law_379 ?_
  refine va_sld hx hb hX hbl hbA hH.2 h3 dL_law_380 ?_
  refine r_callVi (rest := []) C0 hH (c_X8_alter Γ l L0 d 0 (xs (x3 + (1 : Int32)).toNatClampNeg) (xs (x3 + (2 : Int32)).toNatClampNeg) (xs (x3 + (3 : Int32)).toNatClampNeg) z1 e1) cv_L_44 (by decide) (by decide) rfl hl.1 rfl (Nat.le_of_ble_eq_true rfl) dL_law_381 (by decide) (fun H locs hH => ?_)
  refine lv_aload_n hx hb dL_law_384 rfl (lv_at hl 2 rfl) ?_
  refine lv_aload_n hx hb dL_law_385 rfl (lv_at hl 0 rfl) ?_
  refine lv_iload_n hx hb dL_law_386 rfl (lv_at hl 3 rfl) ?_
  refine lv_iconst (v := (1 : Int32)) hx hb dL_law_387 (by decide) ?_
  refine lv_iadd hx hb dL_law_388 ?_
  refine va_sld hx hb hX hbl hbA hH.2 h1 dL_law_389 ?_
  refine lv_aload_n hx hb dL_law_390 rfl (lv_at hl 0 rfl) ?_
  refine lv_iload_n hx hb dL_law_391 rfl (lv_at hl 3 rfl) ?_
  refine lv_iconst (v := (2 : Int32)) hx hb dL_law_392 (by decide) ?_
  refine lv_iadd hx hb dL_law_393 ?_
  refine va_sld hx hb hX hbl hbA hH.2 h2 dL_law_394 ?_
  refine lv_aload_n hx hb dL_law_395 rfl (lv_at hl 0 rfl) ?_
  refine lv_iload_n hx hb dL_law_396 rfl (lv_at hl 3 rfl) ?_
  refine lv_iconst (v := (3 : Int32)) hx hb dL_law_397 (by decide) ?_
  refine lv_iadd hx hb dL_law_398 ?_
  refine va_sld hx hb hX hbl hbA hH.2 h3 dL_law_399 ?_
  refine r_callVi (rest := [.int z1.1]) C0 hH (c_X9_alter Γ l L0 z1.2 78 (xs (x3 + (1 : Int32)).toNatClampNeg) (xs (x3 + (2 : Int32)).toNatClampNeg) (xs (x3 + (3 : Int32)).toNatClampNeg) z2 e2) cv_L_48 (by decide) (by decide) rfl hl.1 rfl (Nat.le_of_ble_eq_true rfl) dL_law_400 (by decide) (fun H locs hH => ?_)
  refine lv_icmp_eq (tgt := 1473) hx hb dL_law_403 (by decide) (fun _ => ?_) (fun c9 => absurd er c9)
  exact kk z2.2 _ _ eI hH
set_option maxHeartbeats 4000000 in
set_option maxRecDepth 100000 in
theorem lc_set {p : Program} {l : Launch} {e : Env} {s : State} {m : MethodId} {args : Array Value} {below : List Frame} {meth : Method} {c : Code} {Γ : Cx} {b L : Nat} {xs : Nat → Int32} {Q : State → Prop} {d : Dt} {x3 : Int32} (C0 : Ct Γ p s m args c code 4 "SeasonBoundLaw") (hX : va_X b L xs s s.heap) (hbl : b < s.heap.size) (hbA : ¬ AP Γ b) (hin : ∀ k : Nat, k < 6 → vp_in (x3 + nI k) L) (hI : Inv d) (H : Heap) (locs : List Loc) (ls : Array Slot) (hH : Hs Γ L0 d s H locs) (hl : lv_has ls 4 [(0, .ref b), (1, .ref (ad Γ.2.2.1 0)), (2, .ref (ad Γ.2.2.1 78)), (3, .int x3)])
    (kk : ∀ (d : Dt) (H : Heap) (locs : List Loc), Inv d → Hs Γ L0 d s H locs → W p l e room_1 s m args below meth c H locs 90 3089 Q (F0 m 1473 ls [])) : W p l e room_1 s m args below meth c H locs 90 3089 Q (F0 m 408 ls []) := by
  obtain ⟨hx, hb, hml, hown, hts, hK⟩ := id C0
  have h1 : vp_in (x3 + (1 : Int32)) L := hin 1 (by decide)
  have h2 : vp_in (x3 + (2 : Int32)) L := hin 2 (by decide)
  have h3 : vp_in (x3 + (3 : Int32)) L := hin 3 (by decide)
  obtain ⟨z1, z2, e1, e2, er, eI⟩ := st_set hI (xs (x3 + (1 : Int32)).toNatClampNeg) (xs (x3 + (2 : Int32)).toNatClampNeg) (xs (x3 + (3 : Int32)).toNatClampNeg)
  refine lv_aload_n hx hb dL_law_408 rfl (lv_at hl 1 rfl) ?_
  refine lv_aload_n hx hb dL_law_409 rfl (lv_at hl 0 rfl) ?_
  refine lv_iload_n hx hb dL_law_410 rfl (lv_at hl 3 rfl) ?_
  refine lv_iconst (v := (1 : Int32)) hx hb dL_law_411 (by decide) ?_
  refine lv_iadd hx hb dL_law_412 ?_
  refine va_sld hx hb hX hbl hbA hH.2 h1 dL_law_413 ?_
  refine lv_aload_n hx hb dL_law_414 rfl (lv_at hl 0 rfl) ?_
  refine lv_iload_n hx hb dL_law_415 rfl (lv_at hl 3 rfl) ?_
  refine lv_iconst (v := (2 : Int32)) hx hb dL_law_416 (by decide) ?_
  refine lv_iadd hx hb dL_law_417 ?_
  refine va_sld hx hb hX hbl hbA hH.2 h2 dL_law_418 ?_
  refine lv_aload_n hx hb dL_law_419 rfl (lv_at hl 0 rfl) ?_
  refine lv_iload_n hx hb dL_law_420 rfl (lv_at hl 3 rfl) ?_
  refine lv_iconst (v := (3 : Int32)) hx hb dL_law_421 (by decide) ?_
  refine lv_iadd hx hb dL_law_422 ?_
  refine va_sld hx hb hX hbl hbA hH.2 h3 dL_law_423 ?_
  refine r_callVi (rest := []) C0 hH (c_X8_set Γ l L0 d 0 (xs (x3 + (1 : Int32)).toNatClampNeg) (xs (x3 + (2 : Int32)).toNatClampNeg) (xs (x3 + (3 : Int32)).toNatClampNeg) z1 e1) cv_L_49 (by decide) (by decide) rfl hl.1 rfl (Nat.le_of_ble_eq_true rfl) dL_law_424 (by decide) (fun H locs hH => ?_)
  refine lv_aload_n hx hb dL_law_427 rfl (lv_at hl 2 rfl) ?_
  refine lv_aload_n hx hb dL_law_428 rfl (lv_at hl 0 rfl) ?_
  refine lv_iload_n hx hb dL_law_429 rfl (lv_at hl 3 rfl) ?_
  refine lv_iconst (v := (1 : Int32)) hx hb dL_law_430 (by decide) ?_
  refine lv_iadd hx hb dL_law_431 ?_
  refine va_sld hx hb hX hbl hbA hH.2 h1 dL_law_432 ?_
  refine lv_aload_n hx hb dL_law_433 rfl (lv_at hl 0 rfl) ?_
  refine lv_iload_n hx hb dL_law_434 rfl (lv_at hl 3 rfl) ?_
  refine lv_iconst (v := (2 : Int32)) hx hb dL_law_435 (by decide) ?_
  refine lv_iadd hx hb dL_law_436 ?_
  refine va_sld hx hb hX hbl hbA hH.2 h2 dL_law_437 ?_
  refine lv_aload_n hx hb dL_law_438 rfl (lv_at hl 0 rfl) ?_
  refine lv_iload_n hx hb dL_law_439 rfl (lv_at hl 3 rfl) ?_
  refine lv_iconst (v := (3 : Int32)) hx hb dL_law_440 (by decide) ?_
  refine lv_iadd hx hb dL_law_441 ?_
  refine va_sld hx hb hX hbl hbA hH.2 h3 dL_law_442 ?_
  refine r_callVi (rest := [.int z1.1]) C0 hH (c_X9_set Γ l L0 z1.2 78 (xs (x3 + (1 : Int32)).toNatClampNeg) (xs (x3 + (2 : Int32)).toNatClampNeg) (xs (x3 + (3 : Int32)).toNatClampNeg) z2 e2) cv_L_52 (by decide) (by decide) rfl hl.1 rfl (Nat.le_of_ble_eq_true rfl) dL_law_443 (by decide) (fun H locs hH => ?_)
  refine lv_icmp_eq (tgt := 1473) hx hb dL_law_446 (by decide) (fun _ => ?_) (fun c9 => absurd er c9)
  exact kk z2.2 _ _ eI hH
set_option maxHeartbeats 4000000 in
set_option maxRecDepth 100000 in
theorem lc_bind {p : Program} {l : Launch} {e : Env} {s : State} {m : MethodId} {args : Array Value} {below : List Frame} {meth : Method} {c : Code} {Γ : Cx} {b L : Nat} {xs : Nat → Int32} {Q : State → Prop} {d : Dt} {x3 : Int32} (C0 : Ct Γ p s m args c code 4 "SeasonBoundLaw") (hX : va_X b L xs s s.heap) (hbl : b < s.heap.size) (hbA : ¬ AP Γ b) (hin : ∀ k : Nat, k < 6 → vp_in (x3 + nI k) L) (hI : Inv d) (H : Heap) (locs : List Loc) (ls : Array Slot) (hH : Hs Γ L0 d s H locs) (hl : lv_has ls 4 [(0, .ref b), (1, .ref (ad Γ.2.2.1 0)), (2, .ref (ad Γ.2.2.1 78)), (3, .int x3)])
    (kk : ∀ (d : Dt) (H : Heap) (locs : List Loc), Inv d → Hs Γ L0 d s H locs → W p l e room_1 s m args below meth c H locs 90 3089 Q (F0 m 1473 ls [])) : W p l e room_1 s m args below meth c H locs 90 3089 Q (F0 m 451 ls []) := by
  obtain ⟨hx, hb, hml, hown, hts, hK⟩ := id C0
  have h1 : vp_in (x3 + (1 : Int32)) L := hin 1 (by decide)
  have h2 : vp_in (x3 + (2 : Int32)) L := hin 2 (by decide)
  have h3 : vp_in (x3 + (3 : Int32)) L := hin 3 (by decide)
  obtain ⟨z1, z2, e1, e2, er, eI⟩ := st_bind hI (xs (x3 + (1 : Int32)).toNatClampNeg) (xs (x3 + (2 : Int32)).toNatClampNeg) (xs (x3 + (3 : Int32)).toNatClampNeg)
  refine lv_aload_n hx hb dL_law_451 rfl (lv_at hl 1 rfl) ?_
  refine lv_aload_n hx hb dL_law_452 rfl (lv_at hl 0 rfl) ?_
  refine lv_iload_n hx hb dL_law_453 rfl (lv_at hl 3 rfl) ?_
  refine lv_iconst (v := (1 : Int32)) hx hb dL_law_454 (by decide) ?_
  refine lv_iadd hx hb dL_law_455 ?_
  refine va_sld hx hb hX hbl hbA hH.2 h1 dL_law_456 ?_
  refine lv_aload_n hx hb dL_law_457 rfl (lv_at hl 0 rfl) ?_
  refine lv_iload_n hx hb dL_law_458 rfl (lv_at hl 3 rfl) ?_
  refine lv_iconst (v := (2 : Int32)) hx hb dL_law_459 (by decide) ?_
  refine lv_iadd hx hb dL_law_460 ?_
  refine va_sld hx hb hX hbl hbA hH.2 h2 dL_law_461 ?_
  refine lv_aload_n hx hb dL_law_462 rfl (lv_at hl 0 rfl) ?_
  refine lv_iload_n hx hb dL_law_463 rfl (lv_at hl 3 rfl) ?_
  refine lv_iconst (v := (3 : Int32)) hx hb dL_law_464 (by decide) ?_
  refine lv_iadd hx hb dL_law_465 ?_
  refine va_sld hx hb hX hbl hbA hH.2 h3 dL_law_466 ?_
  refine r_callVi (rest := []) C0 hH (c_X8_bind Γ l L0 d 0 (xs (x3 + (1 : Int32)).toNatClampNeg) (xs (x3 + (2 : Int32)).toNatClampNeg) (xs (x3 + (3 : Int32)).toNatClampNeg) z1 e1) cv_L_53 (by decide) (by decide) rfl hl.1 rfl (Nat.le_of_ble_eq_true rfl) dL_law_467 (by decide) (fun H locs hH => ?_)
  refine lv_aload_n hx hb dL_law_470 rfl (lv_at hl 2 rfl) ?_
  refine lv_aload_n hx hb dL_law_471 rfl (lv_at hl 0 rfl) ?_
  refine lv_iload_n hx hb dL_law_472 rfl (lv_at hl 3 rfl) ?_
  refine lv_iconst (v := (1 : Int32)) hx hb dL_law_473 (by decide) ?_
  refine lv_iadd hx hb dL_law_474 ?_
  refine va_sld hx hb hX hbl hbA hH.2 h1 dL_law_475 ?_
  refine lv_aload_n hx hb dL_law_476 rfl (lv_at hl 0 rfl) ?_
  refine lv_iload_n hx hb dL_law_477 rfl (lv_at hl 3 rfl) ?_
  refine lv_iconst (v := (2 : Int32)) hx hb dL_law_478 (by decide) ?_
  refine lv_iadd hx hb dL_law_479 ?_
  refine va_sld hx hb hX hbl hbA hH.2 h2 dL_law_480 ?_
  refine lv_aload_n hx hb dL_law_481 rfl (lv_at hl 0 rfl) ?_
  refine lv_iload_n hx hb dL_law_482 rfl (lv_at hl 3 rfl) ?_
  refine lv_iconst (v := (3 : Int32)) hx hb dL_law_483 (by decide) ?_
  refine lv_iadd hx hb dL_law_484 ?_
  refine va_sld hx hb hX hbl hbA hH.2 h3 dL_law_485 ?_
  refine r_callVi (rest := [.int z1.1]) C0 hH (c_X9_bind Γ l L0 z1.2 78 (xs (x3 + (1 : Int32)).toNatClampNeg) (xs (x3 + (2 : Int32)).toNatClampNeg) (xs (x3 + (3 : Int32)).toNatClampNeg) z2 e2) cv_L_56 (by decide) (by decide) rfl hl.1 rfl (Nat.le_of_ble_eq_true rfl) dL_law_486 (by decide) (fun H locs hH => ?_)
  refine lv_icmp_eq (tgt := 1473) hx hb dL_law_489 (by decide) (fun _ => ?_) (fun c9 => absurd er c9)
  exact kk z2.2 _ _ eI hH
set_option maxHeartbeats 4000000 in
set_option maxRecDepth 100000 in
theorem lc_free {p : Program} {l : Launch} {e : Env} {s : State} {m : MethodId} {args : Array Value} {below : List Frame} {meth : Method} {c : Code} {Γ : Cx} {b L : Nat} {xs : Nat → Int32} {Q : State → Prop} {d : Dt} {x3 : Int32} (C0 : Ct Γ p s m args c code 4 "SeasonBoundLaw") (hX : va_X b L xs s s.heap) (hbl : b < s.heap.size) (hbA : ¬ AP Γ b) (hin : ∀ k : Nat, k < 6 → vp_in (x3 + nI k) L) (hI : Inv d) (H : Heap) (locs : List Loc) (ls : Array Slot) (hH : Hs Γ L0 d s H locs) (hl : lv_has ls 4 [(0, .ref b), (1, .ref (ad Γ.2.2.1 0)), (2, .ref (ad Γ.2.2.1 78)), (3, .int x3)])
    (kk : ∀ (d : Dt) (H : Heap) (locs : List Loc), Inv d → Hs Γ L0 d s H locs → W p l e room_1 s m args below meth c H locs 90 3089 Q (F0 m 1473 ls [])) : W p l e room_1 s m args below meth c H locs 90 3089 Q (F0 m 494 ls []) := by
  obtain ⟨hx, hb, hml, hown, hts, hK⟩ := id C0
  have h1 : vp_in (x3 + (1 : Int32)) L := hin 1 (by decide)
  obtain ⟨z1, z2, e1, e2, er, eI⟩ := st_free hI (xs (x3 + (1 : Int32)).toNatClampNeg)
  refine lv_aload_n hx hb dL_law_494 rfl (lv_at hl 1 rfl) ?_
  refine lv_aload_n hx hb dL_law_495 rfl (lv_at hl 0 rfl) ?_
  refine lv_iload_n hx hb dL_law_496 rfl (lv_at hl 3 rfl) ?_
  refine lv_iconst (v := (1 : Int32)) hx hb dL_law_497 (by decide) ?_
  refine lv_iadd hx hb dL_law_498 ?_
  refine va_sld hx hb hX hbl hbA hH.2 h1 dL_law_499 ?_
  refine r_callVi (rest := []) C0 hH (c_X8_free Γ l L0 d 0 (xs (x3 + (1 : Int32)).toNatClampNeg) z1 e1) cv_L_57 (by decide) (by decide) rfl hl.1 rfl (Nat.le_of_ble_eq_true rfl) dL_law_500 (by decide) (fun H locs hH => ?_)
  refine lv_aload_n hx hb dL_law_503 rfl (lv_at hl 2 rfl) ?_
  refine lv_aload_n hx hb dL_law_504 rfl (lv_at hl 0 rfl) ?_
  refine lv_iload_n hx hb dL_law_505 rfl (lv_at hl 3 rfl) ?_
  refine lv_iconst (v := (1 : Int32)) hx hb dL_law_506 (by decide) ?_
  refine lv_iadd hx hb dL_law_507 ?_
  refine va_sld hx hb hX hbl hbA hH.2 h1 dL_law_508 ?_
  refine r_callVi (rest := [.int z1.1]) C0 hH (c_X9_free Γ l L0 z1.2 78 (xs (x3 + (1 : Int32)).toNatClampNeg) z2 e2) cv_L_60 (by decide) (by decide) rfl hl.1 rfl (Nat.le_of_ble_eq_true rfl) dL_law_509 (by decide) (fun H locs hH => ?_)
  refine lv_icmp_eq (tgt := 1473) hx hb dL_law_512 (by decide) (fun _ => ?_) (fun c9 => absurd er c9)
  exact kk z2.2 _ _ eI hH
set_option maxHeartbeats 4000000 in
set_option maxRecDepth 100000 in
theorem lc_born {p : Program} {l : Launch} {e : Env} {s : State} {m : MethodId} {args : Array Value} {below : List Frame} {meth : Method} {c : Code} {Γ : Cx} {b L : Nat} {xs : Nat → Int32} {Q : State → Prop} {d : Dt} {x3 : Int32} (C0 : Ct Γ p s m args c code 4 "SeasonBoundLaw") (hX : va_X b L xs s s.heap) (hbl : b < s.heap.size) (hbA : ¬ AP Γ b) (hin : ∀ k : Nat, k < 6 → vp_in (x3 + nI k) L) (hI : Inv d) (H : Heap) (locs : List Loc) (ls : Array Slot) (hH : Hs Γ L0 d s H locs) (hl : lv_has ls 4 [(0, .ref b), (1, .ref (ad Γ.2.2.1 0)), (2, .ref (ad Γ.2.2.1 78)), (3, .int x3)])
    (kk : ∀ (d : Dt) (H : Heap) (locs : List Loc), Inv d → Hs Γ L0 d s H locs → W p l e room_1 s m args below meth c H locs 90 3089 Q (F0 m 1473 ls [])) : W p l e room_1 s m args below meth c H locs 90 3089 Q (F0 m 517 ls []) := by
  obtain ⟨hx, hb, hml, hown, hts, hK⟩ := id C0
  have h1 : vp_in (x3 + (1 : Int32)) L := hin 1 (by decide)
  obtain ⟨z1, z2, e1, e2, er, eI⟩ := st_born hI (xs (x3 + (1 : Int32)).toNatClampNeg)
  refine lv_aload_n hx hb dL_law_517 rfl (lv_at hl 1 rfl) ?_
  refine lv_aload_n hx hb dL_law_518 rfl (lv_at hl 0 rfl) ?_
  refine lv_iload_n hx hb dL_law_519 rfl (lv_at hl 3 rfl) ?_
  refine lv_iconst (v := (1 : Int32)) hx hb dL_law_520 (by decide) ?_
  refine lv_iadd hx hb dL_law_521 ?_
  refine va_sld hx hb hX hbl hbA hH.2 h1 dL_law_522 ?_
  refine r_callVi (rest := []) C0 hH (c_X8_born Γ l L0 d 0 (xs (x3 + (1 : Int32)).toNatClampNeg) z1 e1) cv_L_61 (by decide) (by decide) rfl hl.1 rfl (Nat.le_of_ble_eq_true rfl) dL_law_523 (by decide) (fun H locs hH => ?_)
  refine lv_aload_n hx hb dL_law_526 rfl (lv_at hl 2 rfl) ?_
  refine lv_aload_n hx hb dL_law_527 rfl (lv_at hl 0 rfl) ?_
  refine lv_iload_n hx hb dL_law_528 rfl (lv_at hl 3 rfl) ?_
  refine lv_iconst (v := (1 : Int32)) hx hb dL_law_529 (by decide) ?_
  refine lv_iadd hx hb dL_law_530 ?_
  refine va_sld hx hb hX hbl hbA hH.2 h1 dL_law_531 ?_
  refine r_callVi (rest := [.int z1.1]) C0 hH (c_X9_born Γ l L0 z1.2 78 (xs (x3 + (1 : Int32)).toNatClampNeg) z2 e2) cv_L_64 (by decide) (by decide) rfl hl.1 rfl (Nat.le_of_ble_eq_true rfl) dL_law_532 (by decide) (fun H locs hH => ?_)
  refine lv_icmp_eq (tgt := 1473) hx hb dL_law_535 (by decide) (fun _ => ?_) (fun c9 => absurd er c9)
  exact kk z2.2 _ _ eI hH
set_option maxHeartbeats 4000000 in
set_option maxRecDepth 100000 in
theorem lc_weeks {p : Program} {l : Launch} {e : Env} {s : State} {m : MethodId} {args : Array Value} {below : List Frame} {meth : Method} {c : Code} {Γ : Cx} {b L : Nat} {xs : Nat → Int32} {Q : State → Prop} {d : Dt} {x3 : Int32} (C0 : Ct Γ p s m args c code 4 "SeasonBoundLaw") (hX : va_X b L xs s s.heap) (hbl : b < s.heap.size) (hbA : ¬ AP Γ b) (hin : ∀ k : Nat, k < 6 → vp_in (x3 + nI k) L) (hI : Inv d) (H : Heap) (locs : List Loc) (ls : Array Slot) (hH : Hs Γ L0 d s H locs) (hl : lv_has ls 4 [(0, .ref b), (1, .ref (ad Γ.2.2.1 0)), (2, .ref (ad Γ.2.2.1 78)), (3, .int x3)])
    (kk : ∀ (d : Dt) (H : Heap) (locs : List Loc), Inv d → Hs Γ L0 d s H locs → W p l e room_1 s m args below meth c H locs 90 3089 Q (F0 m 1473 ls [])) : W p l e room_1 s m args below meth c H locs 90 3089 Q (F0 m 540 ls []) := by
  obtain ⟨hx, hb, hml, hown, hts, hK⟩ := id C0
  have h1 : vp_in (x3 + (1 : Int32)) L := hin 1 (by decide)
  obtain ⟨z1, z2, e1, e2, er, eI⟩ := st_weeks hI (xs (x3 + (1 : Int32)).toNatClampNeg)
  refine lv_aload_n hx hb dL_law_540 rfl (lv_at hl 1 rfl) ?_
  refine lv_aload_n hx hb dL_law_541 rfl (lv_at hl 0 rfl) ?_
  refine lv_iload_n hx hb dL_law_542 rfl (lv_at hl 3 rfl) ?_
  refine lv_iconst (v := (1 : Int32)) hx hb dL_law_543 (by decide) ?_
  refine lv_iadd hx hb dL_law_544 ?_
  refine va_sld hx hb hX hbl hbA hH.2 h1 dL_law_545 ?_
  refine r_callVi (rest := []) C0 hH (c_X8_weeks Γ l L0 d 0 (xs (x3 + (1 : Int32)).toNatClampNeg) z1 e1) cv_L_65 (by decide) (by decide) rfl hl.1 rfl (Nat.le_of_ble_eq_true rfl) dL_law_546 (by decide) (fun H locs hH => ?_)
  refine lv_aload_n hx hb dL_law_549 rfl (lv_at hl 2 rfl) ?_
  refine lv_aload_n hx hb dL_law_550 rfl (lv_at hl 0 rfl) ?_
  refine lv_iload_n hx hb dL_law_551 rfl (lv_at hl 3 rfl) ?_
  refine lv_iconst (v := (1 : Int32)) hx hb dL_law_552 (by decide) ?_
  refine lv_iadd hx hb dL_law_553 ?_
  refine va_sld hx hb hX hbl hbA hH.2 h1 dL_law_554 ?_
  refine r_callVi (rest := [.int z1.1]) C0 hH (c_X9_weeks Γ l L0 z1.2 78 (xs (x3 + (1 : Int32)).toNatClampNeg) z2 e2) cv_L_68 (by decide) (by decide) rfl hl.1 rfl (Nat.le_of_ble_eq_true rfl) dL_law_555 (by decide) (fun H locs hH => ?_)
  refine lv_icmp_eq (tgt := 1473) hx hb dL_law_558 (by decide) (fun _ => ?_) (fun c9 => absurd er c9)
  exact kk z2.2 _ _ eI hH
set_option maxHeartbeats 4000000 in
set_option maxRecDepth 100000 in
theorem lc_runs {p : Program} {l : Launch} {e : Env} {s : State} {m : MethodId} {args : Array Value} {below : List Frame} {meth : Method} {c : Code} {Γ : Cx} {b L : Nat} {xs : Nat → Int32} {Q : State → Prop} {d : Dt} {x3 : Int32} (C0 : Ct Γ p s m args c code 4 "SeasonBoundLaw") (hX : va_X b L xs s s.heap) (hbl : b < s.heap.size) (hbA : ¬ AP Γ b) (hin : ∀ k : Nat, k < 6 → vp_in (x3 + nI k) L) (hI : Inv d) (H : Heap) (locs : List Loc) (ls : Array Slot) (hH : Hs Γ L0 d s H locs) (hl : lv_has ls 4 [(0, .ref b), (1, .ref (ad Γ.2.2.1 0)), (2, .ref (ad Γ.2.2.1 78)), (3, .int x3)])
    (kk : ∀ (d : Dt) (H : Heap) (locs : List Loc), Inv d → Hs Γ L0 d s H locs → W p l e room_1 s m args below meth c H locs 90 3089 Q (F0 m 1473 ls [])) : W p l e room_1 s m args below meth c H locs 90 3089 Q (F0 m 563 ls []) := by
  obtain ⟨hx, hb, hml, hown, hts, hK⟩ := id C0
  have h1 : vp_in (x3 + (1 : Int32)) L := hin 1 (by decide)
  have h2 : vp_in (x3 + (2 : Int32)) L := hin 2 (by decide)
  obtain ⟨z1, z2, e1, e2, er, eI⟩ := st_runs hI (xs (x3 + (1 : Int32)).toNatClampNeg) (xs (x3 + (2 : Int32)).toNatClampNeg)
  refine lv_aload_n hx hb dL_law_563 rfl (lv_at hl 1 rfl) ?_
  refine lv_aload_n hx hb dL_law_564 rfl (lv_at hl 0 rfl) ?_
  refine lv_iload_n hx hb dL_law_565 rfl (lv_at hl 3 rfl) ?_
  refine lv_iconst (v := (1 : Int32)) hx hb dL_law_566 (by decide) ?_
  refine lv_iadd hx hb dL_law_567 ?_
  refine va_sld hx hb hX hbl hbA hH.2 h1 dL_law_568 ?_
  refine lv_aload_n hx hb dL_law_569 rfl (lv_at hl 0 rfl) ?_
  refine lv_iload_n hx hb dL_law_570 rfl (lv_at hl 3 rfl) ?_
  refine lv_iconst (v := (2 : Int32)) hx hb dL_law_571 (by decide) ?_
  refine lv_iadd hx hb dL_law_572 ?_
  refine va_sld hx hb hX hbl hbA hH.2 h2 dL_law_573 ?_
  refine r_callVi (rest := []) C0 hH (c_X8_runs Γ l L0 d 0 (xs (x3 + (1 : Int32)).toNatClampNeg) (xs (x3 + (2 : Int32)).toNatClampNeg) z1 e1) cv_L_69 (by decide) (by decide) rfl hl.1 rfl (Nat.le_of_ble_eq_true rfl) dL_law_574 (by decide) (fun H locs hH => ?_)
  refine lv_aload_n hx hb dL_law_577 rfl (lv_at hl 2 rfl) ?_
  refine lv_aload_n hx hb dL_law_578 rfl (lv_at hl 0 rfl) ?_
  refine lv_iload_n hx hb dL_law_579 rfl (lv_at hl 3 rfl) ?_
  refine lv_iconst (v := (1 : Int32)) hx hb dL_law_580 (by decide) ?_
  refine lv_iadd hx hb dL_law_581 ?_
  refine va_sld hx hb hX hbl hbA hH.2 h1 dL_law_582 ?_
  refine lv_aload_n hx hb dL_law_583 rfl (lv_at hl 0 rfl) ?_
  refine lv_iload_n hx hb dL_law_584 rfl (lv_at hl 3 rfl) ?_
  refine lv_iconst (v := (2 : Int32)) hx hb dL_law_585 (by decide) ?_
  refine lv_iadd hx hb dL_law_586 ?_
  refine va_sld hx hb hX hbl hbA hH.2 h2 dL_law_587 ?_
  refine r_callVi (rest := [.int z1.1]) C0 hH (c_X9_runs Γ l L0 z1.2 78 (xs (x3 + (1 : Int32)).toNatClampNeg) (xs (x3 + (2 : Int32)).toNatClampNeg) z2 e2) cv_L_72 (by decide) (by decide) rfl hl.1 rfl (Nat.le_of_ble_eq_true rfl) dL_law_588 (by decide) (fun H locs hH => ?_)
  refine lv_icmp_eq (tgt := 1473) hx hb dL_law_591 (by decide) (fun _ => ?_) (fun c9 => absurd er c9)
  exact kk z2.2 _ _ eI hH
set_option maxHeartbeats 4000000 in
set_option maxRecDepth 100000 in
theorem lc_ahead {p : Program} {l : Launch} {e : Env} {s : State} {m : MethodId} {args : Array Value} {below : List Frame} {meth : Method} {c : Code} {Γ : Cx} {b L : Nat} {xs : Nat → Int32} {Q : State → Prop} {d : Dt} {x3 : Int32} (C0 : Ct Γ p s m args c code 4 "SeasonBoundLaw") (hX : va_X b L xs s s.heap) (hbl : b < s.heap.size) (hbA : ¬ AP Γ b) (hin : ∀ k : Nat, k < 6 → vp_in (x3 + nI k) L) (hI : Inv d) (H : Heap) (locs : List Loc) (ls : Array Slot) (hH : Hs Γ L0 d s H locs) (hl : lv_has ls 4 [(0, .ref b), (1, .ref (ad Γ.2.2.1 0)), (2, .ref (ad Γ.2.2.1 78)), (3, .int x3)])
    (kk : ∀ (d : Dt) (H : Heap) (locs : List Loc), Inv d → Hs Γ L0 d s H locs → W p l e room_1 s m args below meth c H locs 90 3089 Q (F0 m 1473 ls [])) : W p l e room_1 s m args below meth c H locs 90 3089 Q (F0 m 596 ls []) := by
  obtain ⟨hx, hb, hml, hown, hts, hK⟩ := id C0
  have h1 : vp_in (x3 + (1 : Int32)) L := hin 1 (by decide)
  have h2 : vp_in (x3 + (2 : Int32)) L := hin 2 (by decide)
  have h3 : vp_in (x3 + (3 : Int32)) L := hin 3 (by decide)
  obtain ⟨z1, z2, e1, e2, er, eI⟩ := st_ahead hI (xs (x3 + (1 : Int32)).toNatClampNeg) (xs (x3 + (2 : Int32)).toNatClampNeg) (xs (x3 + (3 : Int32)).toNatClampNeg)
  refine lv_aload_n hx hb dL_law_596 rfl (lv_at hl 1 rfl) ?_
  refine lv_aload_n hx hb dL_law_597 rfl (lv_at hl 0 rfl) ?_
  refine lv_iload_n hx hb dL_law_598 rfl (lv_at hl 3 rfl) ?_
  refine lv_iconst (v := (1 : Int32)) hx hb dL_law_599 (by decide) ?_
  refine lv_iadd hx hb dL_law_600 ?_
  refine va_sld hx hb hX hbl hbA hH.2 h1 dL_law_601 ?_
  refine lv_aload_n hx hb dL_law_602 rfl (lv_at hl 0 rfl) ?_
  refine lv_iload_n hx hb dL_law_603 rfl (lv_at hl 3 rfl) ?_
  refine lv_iconst (v := (2 : Int32)) hx hb dL_law_604 (by decide) ?_
  refine lv_iadd hx hb dL_law_605 ?_
  refine va_sld hx hb hX hbl hbA hH.2 h2 dL_law_606 ?_
  refine lv_aload_n hx hb dL_law_607 rfl (lv_at hl 0 rfl) ?_
  refine lv_iload_n hx hb dL_law_608 rfl (lv_at hl 3 rfl) ?_
  refine lv_iconst (v := (3 : Int32)) hx hb dL_law_609 (by decide) ?_
  refine lv_iadd hx hb dL_law_610 ?_
  refine va_sld hx hb hX hbl hbA hH.2 h3 dL_law_611 ?_
  refine r_callVi (rest := []) C0 hH (c_X8_ahead Γ l L0 d 0 (xs (x3 + (1 : Int32)).toNatClampNeg) (xs (x3 + (2 : Int32)).toNatClampNeg) (xs (x3 + (3 : Int32)).toNatClampNeg) z1 e1) cv_L_73 (by decide) (by decide) rfl hl.1 rfl (Nat.le_of_ble_eq_true rfl) dL_law_612 (by decide) (fun H locs hH => ?_)
  refine lv_aload_n hx hb dL_law_615 rfl (lv_at hl 2 rfl) ?_
  refine lv_aload_n hx hb dL_law_616 rfl (lv_at hl 0 rfl) ?_
  refine lv_iload_n hx hb dL_law_617 rfl (lv_at hl 3 rfl) ?_
  refine lv_iconst (v := (1 : Int32)) hx hb dL_law_618 (by decide) ?_
  refine lv_iadd hx hb dL_law_619 ?_
  refine va_sld hx hb hX hbl hbA hH.2 h1 dL_law_620 ?_
  refine lv_aload_n hx hb dL_law_621 rfl (lv_at hl 0 rfl) ?_
  refine lv_iload_n hx hb dL_law_622 rfl (lv_at hl 3 rfl) ?_
  refine lv_iconst (v := (2 : Int32)) hx hb dL_law_623 (by decide) ?_
  refine lv_iadd hx hb dL_law_624 ?_
  refine va_sld hx hb hX hbl hbA hH.2 h2 dL_law_625 ?_
  refine lv_aload_n hx hb dL_law_626 rfl (lv_at hl 0 rfl) ?_
  refine lv_iload_n hx hb dL_law_627 rfl (lv_at hl 3 rfl) ?_
  refine lv_iconst (v := (3 : Int32)) hx hb dL_law_628 (by decide) ?_
  refine lv_iadd hx hb dL_law_629 ?_
  refine va_sld hx hb hX hbl hbA hH.2 h3 dL_law_630 ?_
  refine r_callVi (rest := [.int z1.1]) C0 hH (c_X9_ahead Γ l L0 z1.2 78 (xs (x3 + (1 : Int32)).toNatClampNeg) (xs (x3 + (2 : Int32)).toNatClampNeg) (xs (x3 + (3 : Int32)).toNatClampNeg) z2 e2) cv_L_76 (by decide) (by decide) rfl hl.1 rfl (Nat.le_of_ble_eq_true rfl) dL_law_631 (by decide) (fun H locs hH => ?_)
  refine lv_icmp_eq (tgt := 1473) hx hb dL_law_634 (by decide) (fun _ => ?_) (fun c9 => absurd er c9)
  exact kk z2.2 _ _ eI hH
set_option maxHeartbeats 4000000 in
set_option maxRecDepth 100000 in
theorem lc_home {p : Program} {l : Launch} {e : Env} {s : State} {m : MethodId} {args : Array Value} {below : List Frame} {meth : Method} {c : Code} {Γ : Cx} {b L : Nat} {xs : Nat → Int32} {Q : State → Prop} {d : Dt} {x3 : Int32} (C0 : Ct Γ p s m args c code 4 "SeasonBoundLaw") (hX : va_X b L xs s s.heap) (hbl : b < s.heap.size) (hbA : ¬ AP Γ b) (hin : ∀ k : Nat, k < 6 → vp_in (x3 + nI k) L) (hI : Inv d) (H : Heap) (locs : List Loc) (ls : Array Slot) (hH : Hs Γ L0 d s H locs) (hl : lv_has ls 4 [(0, .ref b), (1, .ref (ad Γ.2.2.1 0)), (2, .ref (ad Γ.2.2.1 78)), (3, .int x3)])
    (kk : ∀ (d : Dt) (H : Heap) (locs : List Loc), Inv d → Hs Γ L0 d s H locs → W p l e room_1 s m args below meth c H locs 90 3089 Q (F0 m 1473 ls [])) : W p l e room_1 s m args below meth c H locs 90 3089 Q (F0 m 639 ls []) := by
  obtain ⟨hx, hb, hml, hown, hts, hK⟩ := id C0
  have h1 : vp_in (x3 + (1 : Int32)) L := hin 1 (by decide)
  obtain ⟨z1, z2, e1, e2, er, eI⟩ := st_home hI (xs (x3 + (1 : Int32)).toNatClampNeg)
  refine lv_aload_n hx hb dL_law_639 rfl (lv_at hl 1 rfl) ?_
  refine lv_aload_n hx hb dL_law_640 rfl (lv_at hl 0 rfl) ?_
  refine lv_iload_n hx hb dL_law_641 rfl (lv_at hl 3 rfl) ?_
  refine lv_iconst (v := (1 : Int32)) hx hb dL_law_642 (by decide) ?_
  refine lv_iadd hx hb dL_law_643 ?_
  refine va_sld hx hb hX hbl hbA hH.2 h1 dL_law_644 ?_
  refine r_callVi (rest := []) C0 hH (c_X8_home Γ l L0 d 0 (xs (x3 + (1 : Int32)).toNatClampNeg) z1 e1) cv_L_77 (by decide) (by decide) rfl hl.1 rfl (Nat.le_of_ble_eq_true rfl) dL_law_645 (by decide) (fun H locs hH => ?_)
  refine lv_aload_n hx hb dL_law_648 rfl (lv_at hl 2 rfl) ?_
  refine lv_aload_n hx hb dL_law_649 rfl (lv_at hl 0 rfl) ?_
  refine lv_iload_n hx hb dL_law_650 rfl (lv_at hl 3 rfl) ?_
  refine lv_iconst (v := (1 : Int32)) hx hb dL_law_651 (by decide) ?_
  refine lv_iadd hx hb dL_law_652 ?_
  refine va_sld hx hb hX hbl hbA hH.2 h1 dL_law_653 ?_
  refine r_callVi (rest := [.int z1.1]) C0 hH (c_X9_home Γ l L0 z1.2 78 (xs (x3 + (1 : Int32)).toNatClampNeg) z2 e2) cv_L_80 (by decide) (by decide) rfl hl.1 rfl (Nat.le_of_ble_eq_true rfl) dL_law_654 (by decide) (fun H locs hH => ?_)
  refine lv_icmp_eq (tgt := 1473) hx hb dL_law_657 (by decide) (fun _ => ?_) (fun c9 => absurd er c9)
  exact kk z2.2 _ _ eI hH
set_option maxHeartbeats 4000000 in
set_option maxRecDepth 100000 in
theorem lc_meet {p : Program} {l : Launch} {e : Env} {s : State} {m : MethodId} {args : Array Value} {below : List Frame} {meth : Method} {c : Code} {Γ : Cx} {b L : Nat} {xs : Nat → Int32} {Q : State → Prop} {d : Dt} {x3 : Int32} (C0 : Ct Γ p s m args c code 4 "SeasonBoundLaw") (hX : va_X b L xs s s.heap) (hbl : b < s.heap.size) (hbA : ¬ AP Γ b) (hin : ∀ k : Nat, k < 6 → vp_in (x3 + nI k) L) (hI : Inv d) (H : Heap) (locs : List Loc) (ls : Array Slot) (hH : Hs Γ L0 d s H locs) (hl : lv_has ls 4 [(0, .ref b), (1, .ref (ad Γ.2.2.1 0)), (2, .ref (ad Γ.2.2.1 78)), (3, .int x3)])
    (kk : ∀ (d : Dt) (H : Heap) (locs : List Loc), Inv d → Hs Γ L0 d s H locs → W p l e room_1 s m args below meth c H locs 90 3089 Q (F0 m 1473 ls [])) : W p l e room_1 s m args below meth c H locs 90 3089 Q (F0 m 662 ls []) := by
  obtain ⟨hx, hb, hml, hown, hts, hK⟩ := id C0
  have h1 : vp_in (x3 + (1 : Int32)) L := hin 1 (by decide)
  have h2 : vp_in (x3 + (2 : Int32)) L := hin 2 (by decide)
  obtain ⟨z1, z2, e1, e2, er, eI⟩ := st_meet hI (xs (x3 + (1 : Int32)).toNatClampNeg) (xs (x3 + (2 : Int32)).toNatClampNeg)
  refine lv_aload_n hx hb dL_law_662 rfl (lv_at hl 1 rfl) ?_
  refine lv_aload_n hx hb dL_law_663 rfl (lv_at hl 0 rfl) ?_
  refine lv_iload_n hx hb dL_law_664 rfl (lv_at hl 3 rfl) ?_
  refine lv_iconst (v := (1 : Int32)) hx hb dL_law_665 (by decide) ?_
  refine lv_iadd hx hb dL_law_666 ?_
  refine va_sld hx hb hX hbl hbA hH.2 h1 dL_law_667 ?_
  refine lv_aload_n hx hb dL_law_668 rfl (lv_at hl 0 rfl) ?_
  refine lv_iload_n hx hb dL_law_669 rfl (lv_at hl 3 rfl) ?_
  refine lv_iconst (v := (2 : Int32)) hx hb dL_law_670 (by decide) ?_
  refine lv_iadd hx hb dL_law_671 ?_
  refine va_sld hx hb hX hbl hbA hH.2 h2 dL_law_672 ?_
  refine r_callVi (rest := []) C0 hH (c_X8_meet Γ l L0 d 0 (xs (x3 + (1 : Int32)).toNatClampNeg) (xs (x3 + (2 : Int32)).toNatClampNeg) z1 e1) cv_L_81 (by decide) (by decide) rfl hl.1 rfl (Nat.le_of_ble_eq_true rfl) dL_law_673 (by decide) (fun H locs hH => ?_)
  refine lv_aload_n hx hb dL_law_676 rfl (lv_at hl 2 rfl) ?_
  refine lv_aload_n hx hb dL_law_677 rfl (lv_at hl 0 rfl) ?_
  refine lv_iload_n hx hb dL_law_678 rfl (lv_at hl 3 rfl) ?_
  refine lv_iconst (v := (1 : Int32)) hx hb dL_law_679 (by decide) ?_
  refine lv_iadd hx hb dL_law_680 ?_
  refine va_sld hx hb hX hbl hbA hH.2 h1 dL_law_681 ?_
  refine lv_aload_n hx hb dL_law_682 rfl (lv_at hl 0 rfl) ?_
  refine lv_iload_n hx hb dL_law_683 rfl (lv_at hl 3 rfl) ?_
  refine lv_iconst (v := (2 : Int32)) hx hb dL_law_684 (by decide) ?_
  refine lv_iadd hx hb dL_law_685 ?_
  refine va_sld hx hb hX hbl hbA hH.2 h2 dL_law_686 ?_
  refine r_callVi (rest := [.int z1.1]) C0 hH (c_X9_meet Γ l L0 z1.2 78 (xs (x3 + (1 : Int32)).toNatClampNeg) (xs (x3 + (2 : Int32)).toNatClampNeg) z2 e2) cv_L_84 (by decide) (by decide) rfl hl.1 rfl (Nat.le_of_ble_eq_true rfl) dL_law_687 (by decide) (fun H locs hH => ?_)
  refine lv_icmp_eq (tgt := 1473) hx hb dL_law_690 (by decide) (fun _ => ?_) (fun c9 => absurd er c9)
  exact kk z2.2 _ _ eI hH
set_option maxHeartbeats 4000000 in
set_option maxRecDepth 100000 in
theorem lc_place {p : Program} {l : Launch} {e : Env} {s : State} {m : MethodId} {args : Array Value} {below : List Frame} {meth : Method} {c : Code} {Γ : Cx} {b L : Nat} {xs : Nat → Int32} {Q : State → Prop} {d : Dt} {x3 : Int32} (C0 : Ct Γ p s m args c code 4 "SeasonBoundLaw") (hX : va_X b L xs s s.heap) (hbl : b < s.heap.size) (hbA : ¬ AP Γ b) (hin : ∀ k : Nat, k < 6 → vp_in (x3 + nI k) L) (hI : Inv d) (H : Heap) (locs : List Loc) (ls : Array Slot) (hH : Hs Γ L0 d s H locs) (hl : lv_has ls 4 [(0, .ref b), (1, .ref (ad Γ.2.2.1 0)), (2, .ref (ad Γ.2.2.1 78)), (3, .int x3)])
    (kk : ∀ (d : Dt) (H : Heap) (locs : List Loc), Inv d → Hs Γ L0 d s H locs → W p l e room_1 s m args below meth c H locs 90 3089 Q (F0 m 1473 ls [])) : W p l e room_1 s m args below meth c H locs 90 3089 Q (F0 m 695 ls []) := by
  obtain ⟨hx, hb, hml, hown, hts, hK⟩ := id C0
  have h1 : vp_in (x3 + (1 : Int32)) L := hin 1 (by decide)
  have h2 : vp_in (x3 + (2 : Int32)) L := hin 2 (by decide)
  have h3 : vp_in (x3 + (3 : Int32)) L := hin 3 (by decide)
  obtain ⟨z1, z2, e1, e2, er, eI⟩ := st_place hI (xs (x3 + (1 : Int32)).toNatClampNeg) (xs (x3 + (2 : Int32)).toNatClampNeg) (xs (x3 + (3 : Int32)).toNatClampNeg)
  refine lv_aload_n hx hb dL_law_695 rfl (lv_at hl 1 rfl) ?_
  refine lv_aload_n hx hb dL_law_696 rfl (lv_at hl 0 rfl) ?_
  refine lv_iload_n hx hb dL_law_697 rfl (lv_at hl 3 rfl) ?_
  refine lv_iconst (v := (1 : Int32)) hx hb dL_law_698 (by decide) ?_
  refine lv_iadd hx hb dL_law_699 ?_
  refine va_sld hx hb hX hbl hbA hH.2 h1 dL_law_700 ?_
  refine lv_aload_n hx hb dL_law_701 rfl (lv_at hl 0 rfl) ?_
  refine lv_iload_n hx hb dL_law_702 rfl (lv_at hl 3 rfl) ?_
  refine lv_iconst (v := (2 : Int32)) hx hb dL_law_703 (by decide) ?_
  refine lv_iadd hx hb dL_law_704 ?_
  refine va_sld hx hb hX hbl hbA hH.2 h2 dL_law_705 ?_
  refine lv_aload_n hx hb dL_law_706 rfl (lv_at hl 0 rfl) ?_
  refine lv_iload_n hx hb dL_law_707 rfl (lv_at hl 3 rfl) ?_
  refine lv_iconst (v := (3 : Int32)) hx hb dL_law_708 (by decide) ?_
  refine lv_iadd hx hb dL_law_709 ?_
  refine va_sld hx hb hX hbl hbA hH.2 h3 dL_law_710 ?_
  refine r_callVi (rest := []) C0 hH (c_X8_place Γ l L0 d 0 (xs (x3 + (1 : Int32)).toNatClampNeg) (xs (x3 + (2 : Int32)).toNatClampNeg) (xs (x3 + (3 : Int32)).toNatClampNeg) z1 e1) cv_L_85 (by decide) (by decide) rfl hl.1 rfl (Nat.le_of_ble_eq_true rfl) dL_law_711 (by decide) (fun H locs hH => ?_)
  refine lv_aload_n hx hb dL_law_714 rfl (lv_at hl 2 rfl) ?_
  refine lv_aload_n hx hb dL_law_715 rfl (lv_at hl 0 rfl) ?_
  refine lv_iload_n hx hb dL_law_716 rfl (lv_at hl 3 rfl) ?_
  refine lv_iconst (v := (1 : Int32)) hx hb dL_law_717 (by decide) ?_
  refine lv_iadd hx hb dL_law_718 ?_
  refine va_sld hx hb hX hbl hbA hH.2 h1 dL_law_719 ?_
  refine lv_aload_n hx hb dL_law_720 rfl (lv_at hl 0 rfl) ?_
  refine lv_iload_n hx hb dL_law_721 rfl (lv_at hl 3 rfl) ?_
  refine lv_iconst (v := (2 : Int32)) hx hb dL_law_722 (by decide) ?_
  refine lv_iadd hx hb dL_law_723 ?_
  refine va_sld hx hb hX hbl hbA hH.2 h2 dL_law_724 ?_
  refine lv_aload_n hx hb dL_law_725 rfl (lv_at hl 0 rfl) ?_
  refine lv_iload_n hx hb dL_law_726 rfl (lv_at hl 3 rfl) ?_
  refine lv_iconst (v := (3 : Int32)) hx hb dL_law_727 (by decide) ?_
  refine lv_iadd hx hb dL_law_728 ?_
  refine va_sld hx hb hX hbl hbA hH.2 h3 dL_law_729 ?_
  refine r_callVi (rest := [.int z1.1]) C0 hH (c_X9_place Γ l L0 z1.2 78 (xs (x3 + (1 : Int32)).toNatClampNeg) (xs (x3 + (2 : Int32)).toNatClampNeg) (xs (x3 + (3 : Int32)).toNatClampNeg) z2 e2) cv_L_88 (by decide) (by decide) rfl hl.1 rfl (Nat.le_of_ble_eq_true rfl) dL_law_730 (by decide) (fun H locs hH => ?_)
  refine lv_icmp_eq (tgt := 1473) hx hb dL_law_733 (by decide) (fun _ => ?_) (fun c9 => absurd er c9)
  exact kk z2.2 _ _ eI hH
set_option maxHeartbeats 4000000 in
set_option maxRecDepth 100000 in
theorem lc_swap {p : Program} {l : Launch} {e : Env} {s : State} {m : MethodId} {args : Array Value} {below : List Frame} {meth : Method} {c : Code} {Γ : Cx} {b L : Nat} {xs : Nat → Int32} {Q : State → Prop} {d : Dt} {x3 : Int32} (C0 : Ct Γ p s m args c code 4 "SeasonBoundLaw") (hX : va_X b L xs s s.heap) (hbl : b < s.heap.size) (hbA : ¬ AP Γ b) (hin : ∀ k : Nat, k < 6 → vp_in (x3 + nI k) L) (hI : Inv d) (H : Heap) (locs : List Loc) (ls : Array Slot) (hH : Hs Γ L0 d s H locs) (hl : lv_has ls 4 [(0, .ref b), (1, .ref (ad Γ.2.2.1 0)), (2, .ref (ad Γ.2.2.1 78)), (3, .int x3)])
    (kk : ∀ (d : Dt) (H : Heap) (locs : List Loc), Inv d → Hs Γ L0 d s H locs → W p l e room_1 s m args below meth c H locs 90 3089 Q (F0 m 1473 ls [])) : W p l e room_1 s m args below meth c H locs 90 3089 Q (F0 m 738 ls []) := by
  obtain ⟨hx, hb, hml, hown, hts, hK⟩ := id C0
  have h1 : vp_in (x3 + (1 : Int32)) L := hin 1 (by decide)
  have h2 : vp_in (x3 + (2 : Int32)) L := hin 2 (by decide)
  obtain ⟨z1, z2, e1, e2, er, eI⟩ := st_swap hI (xs (x3 + (1 : Int32)).toNatClampNeg) (xs (x3 + (2 : Int32)).toNatClampNeg)
  refine lv_aload_n hx hb dL_law_738 rfl (lv_at hl 1 rfl) ?_
  refine lv_aload_n hx hb dL_law_739 rfl (lv_at hl 0 rfl) ?_
  refine lv_iload_n hx hb dL_law_740 rfl (lv_at hl 3 rfl) ?_
  refine lv_iconst (v := (1 : Int32)) hx hb dL_law_741 (by decide) ?_
  refine lv_iadd hx hb dL_law_742 ?_
  refine va_sld hx hb hX hbl hbA hH.2 h1 dL_law_743 ?_
  refine lv_aload_n hx hb dL_law_744 rfl (lv_at hl 0 rfl) ?_
  refine lv_iload_n hx hb dL_law_745 rfl (lv_at hl 3 rfl) ?_
  refine lv_iconst (v := (2 : Int32)) hx hb dL_law_746 (by decide) ?_
  refine lv_iadd hx hb dL_law_747 ?_
  refine va_sld hx hb hX hbl hbA hH.2 h2 dL_law_748 ?_
  refine r_callVi (rest := []) C0 hH (c_X8_swap Γ l L0 d 0 (xs (x3 + (1 : Int32)).toNatClampNeg) (xs (x3 + (2 : Int32)).toNatClampNeg) z1 e1) cv_L_89 (by decide) (by decide) rfl hl.1 rfl (Nat.le_of_ble_eq_true rfl) dL_law_749 (by decide) (fun H locs hH => ?_)
  refine lv_aload_n hx hb dL_law_752 rfl (lv_at hl 2 rfl) ?_
  refine lv_aload_n hx hb dL_law_753 rfl (lv_at hl 0 rfl) ?_
  refine lv_iload_n hx hb dL_law_754 rfl (lv_at hl 3 rfl) ?_
  refine lv_iconst (v := (1 : Int32)) hx hb dL_law_755 (by decide) ?_
  refine lv_iadd hx hb dL_law_756 ?_
  refine va_sld hx hb hX hbl hbA hH.2 h1 dL_law_757 ?_
  refine lv_aload_n hx hb dL_law_758 rfl (lv_at hl 0 rfl) ?_
  refine lv_iload_n hx hb dL_law_759 rfl (lv_at hl 3 rfl) ?_
  refine lv_iconst (v := (2 : Int32)) hx hb dL_law_760 (by decide) ?_
  refine lv_iadd hx hb dL_law_761 ?_
  refine va_sld hx hb hX hbl hbA hH.2 h2 dL_law_762 ?_
  refine r_callVi (rest := [.int z1.1]) C0 hH (c_X9_swap Γ l L0 z1.2 78 (xs (x3 + (1 : Int32)).toNatClampNeg) (xs (x3 + (2 : Int32)).toNatClampNeg) z2 e2) cv_L_92 (by decide) (by decide) rfl hl.1 rfl (Nat.le_of_ble_eq_true rfl) dL_law_763 (by decide) (fun H locs hH => ?_)
  refine lv_icmp_eq (tgt := 1473) hx hb dL_law_766 (by decide) (fun _ => ?_) (fun c9 => absurd er c9)
  exact kk z2.2 _ _ eI hH
set_option maxHeartbeats 4000000 in
set_option maxRecDepth 100000 in
theorem lc_span {p : Program} {l : Launch} {e : Env} {s : State} {m : MethodId} {args : Array Value} {below : List Frame} {meth : Method} {c : Code} {Γ : Cx} {b L : Nat} {xs : Nat → Int32} {Q : State → Prop} {d : Dt} {x3 : Int32} (C0 : Ct Γ p s m args c code 4 "SeasonBoundLaw") (hX : va_X b L xs s s.heap) (hbl : b < s.heap.size) (hbA : ¬ AP Γ b) (hin : ∀ k : Nat, k < 6 → vp_in (x3 + nI k) L) (hI : Inv d) (H : Heap) (locs : List Loc) (ls : Array Slot) (hH : Hs Γ L0 d s H locs) (hl : lv_has ls 4 [(0, .ref b), (1, .ref (ad Γ.2.2.1 0)), (2, .ref (ad Γ.2.2.1 78)), (3, .int x3)])
    (kk : ∀ (d : Dt) (H : Heap) (locs : List Loc), Inv d → Hs Γ L0 d s H locs → W p l e room_1 s m args below meth c H locs 90 3089 Q (F0 m 1473 ls [])) : W p l e room_1 s m args below meth c H locs 90 3089 Q (F0 m 771 ls []) := by
  obtain ⟨hx, hb, hml, hown, hts, hK⟩ := id C0
  have h1 : vp_in (x3 + (1 : Int32)) L := hin 1 (by decide)
  have h2 : vp_in (x3 + (2 : Int32)) L := hin 2 (by decide)
  have h3 : vp_in (x3 + (3 : Int32)) L := hin 3 (by decide)
  obtain ⟨z1, z2, e1, e2, er, eI⟩ := st_span hI (xs (x3 + (1 : Int32)).toNatClampNeg) (xs (x3 + (2 : Int32)).toNatClampNeg) (xs (x3 + (3 : Int32)).toNatClampNeg)
  refine lv_aload_n hx hb dL_law_771 rfl (lv_at hl 1 rfl) ?_
  refine lv_aload_n hx hb dL_law_772 rfl (lv_at hl 0 rfl) ?_
  refine lv_iload_n hx hb dL_law_773 rfl (lv_at hl 3 rfl) ?_
  refine lv_iconst (v := (1 : Int32)) hx hb dL_law_774 (by decide) ?_
  refine lv_iadd hx hb dL_law_775 ?_
  refine va_sld hx hb hX hbl hbA hH.2 h1 dL_law_776 ?_
  refine lv_aload_n hx hb dL_law_777 rfl (lv_at hl 0 rfl) ?_
  refine lv_iload_n hx hb dL_law_778 rfl (lv_at hl 3 rfl) ?_
  refine lv_iconst (v := (2 : Int32)) hx hb dL_law_779 (by decide) ?_
  refine lv_iadd hx hb dL_law_780 ?_
  refine va_sld hx hb hX hbl hbA hH.2 h2 dL_law_781 ?_
  refine lv_aload_n hx hb dL_law_782 rfl (lv_at hl 0 rfl) ?_
  refine lv_iload_n hx hb dL_law_783 rfl (lv_at hl 3 rfl) ?_
  refine lv_iconst (v := (3 : Int32)) hx hb dL_law_784 (by decide) ?_
  refine lv_iadd hx hb dL_law_785 ?_
  refine va_sld hx hb hX hbl hbA hH.2 h3 dL_law_786 ?_
  refine r_callVi (rest := []) C0 hH (c_X8_span Γ l L0 d 0 (xs (x3 + (1 : Int32)).toNatClampNeg) (xs (x3 + (2 : Int32)).toNatClampNeg) (xs (x3 + (3 : Int32)).toNatClampNeg) z1 e1) cv_L_93 (by decide) (by decide) rfl hl.1 rfl (Nat.le_of_ble_eq_true rfl) dL_law_787 (by decide) (fun H locs hH => ?_)
  refine lv_aload_n hx hb dL_law_790 rfl (lv_at hl 2 rfl) ?_
  refine lv_aload_n hx hb dL_law_791 rfl (lv_at hl 0 rfl) ?_
  refine lv_iload_n hx hb dL_law_792 rfl (lv_at hl 3 rfl) ?_
  refine lv_iconst (v := (1 : Int32)) hx hb dL_law_793 (by decide) ?_
  refine lv_iadd hx hb dL_law_794 ?_
  refine va_sld hx hb hX hbl hbA hH.2 h1 dL_law_795 ?_
  refine lv_aload_n hx hb dL_law_796 rfl (lv_at hl 0 rfl) ?_
  refine lv_iload_n hx hb dL_law_797 rfl (lv_at hl 3 rfl) ?_
  refine lv_iconst (v := (2 : Int32)) hx hb dL_law_798 (by decide) ?_
  refine lv_iadd hx hb dL_law_799 ?_
  refine va_sld hx hb hX hbl hbA hH.2 h2 dL_law_800 ?_
  refine lv_aload_n hx hb dL_law_801 rfl (lv_at hl 0 rfl) ?_
  refine lv_iload_n hx hb dL_law_802 rfl (lv_at hl 3 rfl) ?_
  refine lv_iconst (v := (3 : Int32)) hx hb dL_law_803 (by decide) ?_
  refine lv_iadd hx hb dL_law_804 ?_
  refine va_sld hx hb hX hbl hbA hH.2 h3 dL_law_805 ?_
  refine r_callVi (rest := [.int z1.1]) C0 hH (c_X9_span Γ l L0 z1.2 78 (xs (x3 + (1 : Int32)).toNatClampNeg) (xs (x3 + (2 : Int32)).toNatClampNeg) (xs (x3 + (3 : Int32)).toNatClampNeg) z2 e2) cv_L_96 (by decide) (by decide) rfl hl.1 rfl (Nat.le_of_ble_eq_true rfl) dL_law_806 (by decide) (fun H locs hH => ?_)
  refine lv_icmp_eq (tgt := 1473) hx hb dL_law_809 (by decide) (fun _ => ?_) (fun c9 => absurd er c9)
  exact kk z2.2 _ _ eI hH
set_option maxHeartbeats 4000000 in
set_option maxRecDepth 100000 in
theorem lc_gift {p : Program} {l : Launch} {e : Env} {s : State} {m : MethodId} {args : Array Value} {below : List Frame} {meth : Method} {c : Code} {Γ : Cx} {b L : Nat} {xs : Nat → Int32} {Q : State → Prop} {d : Dt} {x3 : Int32} (C0 : Ct Γ p s m args c code 4 "SeasonBoundLaw") (hX : va_X b L xs s s.heap) (hbl : b < s.heap.size) (hbA : ¬ AP Γ b) (hin : ∀ k : Nat, k < 6 → vp_in (x3 + nI k) L) (hI : Inv d) (H : Heap) (locs : List Loc) (ls : Array Slot) (hH : Hs Γ L0 d s H locs) (hl : lv_has ls 4 [(0, .ref b), (1, .ref (ad Γ.2.2.1 0)), (2, .ref (ad Γ.2.2.1 78)), (3, .int x3)])
    (kk : ∀ (d : Dt) (H : Heap) (locs : List Loc), Inv d → Hs Γ L0 d s H locs → W p l e room_1 s m args below meth c H locs 90 3089 Q (F0 m 1473 ls [])) : W p l e room_1 s m args below meth c H locs 90 3089 Q (F0 m 814 ls []) := by
  obtain ⟨hx, hb, hml, hown, hts, hK⟩ := id C0
  have h1 : vp_in (x3 + (1 : Int32)) L := hin 1 (by decide)
  have h2 : vp_in (x3 + (2 : Int32)) L := hin 2 (by decide)
  obtain ⟨z1, z2, e1, e2, er, eI⟩ := st_gift hI (xs (x3 + (1 : Int32)).toNatClampNeg) (xs (x3 + (2 : Int32)).toNatClampNeg)
  refine lv_aload_n hx hb dL_law_814 rfl (lv_at hl 1 rfl) ?_
  refine lv_aload_n hx hb dL_law_815 rfl (lv_at hl 0 rfl) ?_
  refine lv_iload_n hx hb dL_law_816 rfl (lv_at hl 3 rfl) ?_
  refine lv_iconst (v := (1 : Int32)) hx hb dL_law_817 (by decide) ?_
  refine lv_iadd hx hb dL_law_818 ?_
  refine va_sld hx hb hX hbl hbA hH.2 h1 dL_law_819 ?_
  refine lv_aload_n hx hb dL_law_820 rfl (lv_at hl 0 rfl) ?_
  refine lv_iload_n hx hb dL_law_821 rfl (lv_at hl 3 rfl) ?_
  refine lv_iconst (v := (2 : Int32)) hx hb dL_law_822 (by decide) ?_
  refine lv_iadd hx hb dL_law_823 ?_
  refine va_sld hx hb hX hbl hbA hH.2 h2 dL_law_824 ?_
  refine r_callVi (rest := []) C0 hH (c_X8_gift Γ l L0 d 0 (xs (x3 + (1 : Int32)).toNatClampNeg) (xs (x3 + (2 : Int32)).toNatClampNeg) z1 e1) cv_L_97 (by decide) (by decide) rfl hl.1 rfl (Nat.le_of_ble_eq_true rfl) dL_law_825 (by decide) (fun H locs hH => ?_)
  refine lv_aload_n hx hb dL_law_828 rfl (lv_at hl 2 rfl) ?_
  refine lv_aload_n hx hb dL_law_829 rfl (lv_at hl 0 rfl) ?_
  refine lv_iload_n hx hb dL_law_830 rfl (lv_at hl 3 rfl) ?_
  refine lv_iconst (v := (1 : Int32)) hx hb dL_law_831 (by decide) ?_
  refine lv_iadd hx hb dL_law_832 ?_
  refine va_sld hx hb hX hbl hbA hH.2 h1 dL_law_833 ?_
  refine lv_aload_n hx hb dL_law_834 rfl (lv_at hl 0 rfl) ?_
  refine lv_iload_n hx hb dL_law_835 rfl (lv_at hl 3 rfl) ?_
  refine lv_iconst (v := (2 : Int32)) hx hb dL_law_836 (by decide) ?_
  refine lv_iadd hx hb dL_law_837 ?_
  refine va_sld hx hb hX hbl hbA hH.2 h2 dL_law_838 ?_
  refine r_callVi (rest := [.int z1.1]) C0 hH (c_X9_gift Γ l L0 z1.2 78 (xs (x3 + (1 : Int32)).toNatClampNeg) (xs (x3 + (2 : Int32)).toNatClampNeg) z2 e2) cv_L_100 (by decide) (by decide) rfl hl.1 rfl (Nat.le_of_ble_eq_true rfl) dL_law_839 (by decide) (fun H locs hH => ?_)
  refine lv_icmp_eq (tgt := 1473) hx hb dL_law_842 (by decide) (fun _ => ?_) (fun c9 => absurd er c9)
  exact kk z2.2 _ _ eI hH
set_option maxHeartbeats 4000000 in
set_option maxRecDepth 100000 in
theorem lc_term {p : Program} {l : Launch} {e : Env} {s : State} {m : MethodId} {args : Array Value} {below : List Frame} {meth : Method} {c : Code} {Γ : Cx} {b L : Nat} {xs : Nat → Int32} {Q : State → Prop} {d : Dt} {x3 : Int32} (C0 : Ct Γ p s m args c code 4 "SeasonBoundLaw") (hX : va_X b L xs s s.heap) (hbl : b < s.heap.size) (hbA : ¬ AP Γ b) (hin : ∀ k : Nat, k < 6 → vp_in (x3 + nI k) L) (hI : Inv d) (H : Heap) (locs : List Loc) (ls : Array Slot) (hH : Hs Γ L0 d s H locs) (hl : lv_has ls 4 [(0, .ref b), (1, .ref (ad Γ.2.2.1 0)), (2, .ref (ad Γ.2.2.1 78)), (3, .int x3)])
    (kk : ∀ (d : Dt) (H : Heap) (locs : List Loc), Inv d → Hs Γ L0 d s H locs → W p l e room_1 s m args below meth c H locs 90 3089 Q (F0 m 1473 ls [])) : W p l e room_1 s m args below meth c H locs 90 3089 Q (F0 m 847 ls []) := by
  obtain ⟨hx, hb, hml, hown, hts, hK⟩ := id C0
  have h1 : vp_in (x3 + (1 : Int32)) L := hin 1 (by decide)
  have h2 : vp_in (x3 + (2 : Int32)) L := hin 2 (by decide)
  have h3 : vp_in (x3 + (3 : Int32)) L := hin 3 (by decide)
  obtain ⟨z1, z2, e1, e2, er, eI⟩ := st_term hI (xs (x3 + (1 : Int32)).toNatClampNeg) (xs (x3 + (2 : Int32)).toNatClampNeg) (xs (x3 + (3 : Int32)).toNatClampNeg)
  refine lv_aload_n hx hb dL_law_847 rfl (lv_at hl 1 rfl) ?_
  refine lv_aload_n hx hb dL_law_848 rfl (lv_at hl 0 rfl) ?_
  refine lv_iload_n hx hb dL_law_849 rfl (lv_at hl 3 rfl) ?_
  refine lv_iconst (v := (1 : Int32)) hx hb dL_law_850 (by decide) ?_
  refine lv_iadd hx hb dL_law_851 ?_
  refine va_sld hx hb hX hbl hbA hH.2 h1 dL_law_852 ?_
  refine lv_aload_n hx hb dL_law_853 rfl (lv_at hl 0 rfl) ?_
  refine lv_iload_n hx hb dL_law_854 rfl (lv_at hl 3 rfl) ?_
  refine lv_iconst (v := (2 : Int32)) hx hb dL_law_855 (by decide) ?_
  refine lv_iadd hx hb dL_law_856 ?_
  refine va_sld hx hb hX hbl hbA hH.2 h2 dL_law_857 ?_
  refine lv_aload_n hx hb dL_law_858 rfl (lv_at hl 0 rfl) ?_
  refine lv_iload_n hx hb dL_law_859 rfl (lv_at hl 3 rfl) ?_
  refine lv_iconst (v := (3 : Int32)) hx hb dL_law_860 (by decide) ?_
  refine lv_iadd hx hb dL_law_861 ?_
  refine va_sld hx hb hX hbl hbA hH.2 h3 dL_law_862 ?_
  refine r_callVi (rest := []) C0 hH (c_X8_term Γ l L0 d 0 (xs (x3 + (1 : Int32)).toNatClampNeg) (xs (x3 + (2 : Int32)).toNatClampNeg) (xs (x3 + (3 : Int32)).toNatClampNeg) z1 e1) cv_L_101 (by decide) (by decide) rfl hl.1 rfl (Nat.le_of_ble_eq_true rfl) dL_law_863 (by decide) (fun H locs hH => ?_)
  refine lv_aload_n hx hb dL_law_866 rfl (lv_at hl 2 rfl) ?_
  refine lv_aload_n hx hb dL_law_867 rfl (lv_at hl 0 rfl) ?_
  refine lv_iload_n hx hb dL_law_868 rfl (lv_at hl 3 rfl) ?_
  refine lv_iconst (v := (1 : Int32)) hx hb dL_law_869 (by decide) ?_
  refine lv_iadd hx hb dL_law_870 ?_
  refine va_sld hx hb hX hbl hbA hH.2 h1 dL_law_871 ?_
  refine lv_aload_n hx hb dL_law_872 rfl (lv_at hl 0 rfl) ?_
  refine lv_iload_n hx hb dL_law_873 rfl (lv_at hl 3 rfl) ?_
  refine lv_iconst (v := (2 : Int32)) hx hb dL_law_874 (by decide) ?_
  refine lv_iadd hx hb dL_law_875 ?_
  refine va_sld hx hb hX hbl hbA hH.2 h2 dL_law_876 ?_
  refine lv_aload_n hx hb dL_law_877 rfl (lv_at hl 0 rfl) ?_
  refine lv_iload_n hx hb dL_law_878 rfl (lv_at hl 3 rfl) ?_
  refine lv_iconst (v := (3 : Int32)) hx hb dL_law_879 (by decide) ?_
  refine lv_iadd hx hb dL_law_880 ?_
  refine va_sld hx hb hX hbl hbA hH.2 h3 dL_law_881 ?_
  refine r_callVi (rest := [.int z1.1]) C0 hH (c_X9_term Γ l L0 z1.2 78 (xs (x3 + (1 : Int32)).toNatClampNeg) (xs (x3 + (2 : Int32)).toNatClampNeg) (xs (x3 + (3 : Int32)).toNatClampNeg) z2 e2) cv_L_104 (by decide) (by decide) rfl hl.1 rfl (Nat.le_of_ble_eq_true rfl) dL_law_882 (by decide) (fun H locs hH => ?_)
  refine lv_icmp_eq (tgt := 1473) hx hb dL_law_885 (by decide) (fun _ => ?_) (fun c9 => absurd er c9)
  exact kk z2.2 _ _ eI hH
set_option maxHeartbeats 4000000 in
set_option maxRecDepth 100000 in
theorem lc_kind {p : Program} {l : Launch} {e : Env} {s : State} {m : MethodId} {args : Array Value} {below : List Frame} {meth : Method} {c : Code} {Γ : Cx} {b L : Nat} {xs : Nat → Int32} {Q : State → Prop} {d : Dt} {x3 : Int32} (C0 : Ct Γ p s m args c code 4 "SeasonBoundLaw") (hX : va_X b L xs s s.heap) (hbl : b < s.heap.size) (hbA : ¬ AP Γ b) (hin : ∀ k : Nat, k < 6 → vp_in (x3 + nI k) L) (hI : Inv d) (H : Heap) (locs : List Loc) (ls : Array Slot) (hH : Hs Γ L0 d s H locs) (hl : lv_has ls 4 [(0, .ref b), (1, .ref (ad Γ.2.2.1 0)), (2, .ref (ad Γ.2.2.1 78)), (3, .int x3)])
    (kk : ∀ (d : Dt) (H : Heap) (locs : List Loc), Inv d → Hs Γ L0 d s H locs → W p l e room_1 s m args below meth c H locs 90 3089 Q (F0 m 1473 ls [])) : W p l e room_1 s m args below meth c H locs 90 3089 Q (F0 m 890 ls []) := by
  obtain ⟨hx, hb, hml, hown, hts, hK⟩ := id C0
  have h1 : vp_in (x3 + (1 : Int32)) L := hin 1 (by decide)
  have h2 : vp_in (x3 + (2 : Int32)) L := hin 2 (by decide)
  have h3 : vp_in (x3 + (3 : Int32)) L := hin 3 (by decide)
  obtain ⟨z1, z2, e1, e2, er, eI⟩ := st_kind hI (xs (x3 + (1 : Int32)).toNatClampNeg) (xs (x3 + (2 : Int32)).toNatClampNeg) (xs (x3 + (3 : Int32)).toNatClampNeg)
  refine lv_aload_n hx hb dL_law_890 rfl (lv_at hl 1 rfl) ?_
  refine lv_aload_n hx hb dL_law_891 rfl (lv_at hl 0 rfl) ?_
  refine lv_iload_n hx hb dL_law_892 rfl (lv_at hl 3 rfl) ?_
  refine lv_iconst (v := (1 : Int32)) hx hb dL_law_893 (by decide) ?_
  refine lv_iadd hx hb dL_law_894 ?_
  refine va_sld hx hb hX hbl hbA hH.2 h1 dL_law_895 ?_
  refine lv_aload_n hx hb dL_law_896 rfl (lv_at hl 0 rfl) ?_
  refine lv_iload_n hx hb dL_law_897 rfl (lv_at hl 3 rfl) ?_
  refine lv_iconst (v := (2 : Int32)) hx hb dL_law_898 (by decide) ?_
  refine lv_iadd hx hb dL_law_899 ?_
  refine va_sld hx hb hX hbl hbA hH.2 h2 dL_law_900 ?_
  refine lv_aload_n hx hb dL_law_901 rfl (lv_at hl 0 rfl) ?_
  refine lv_iload_n hx hb dL_law_902 rfl (lv_at hl 3 rfl) ?_
  refine lv_iconst (v := (3 : Int32)) hx hb dL_law_903 (by decide) ?_
  refine lv_iadd hx hb dL_law_904 ?_
  refine va_sld hx hb hX hbl hbA hH.2 h3 dL_law_905 ?_
  refine r_callVi (rest := []) C0 hH (c_X8_kind Γ l L0 d 0 (xs (x3 + (1 : Int32)).toNatClampNeg) (xs (x3 + (2 : Int32)).toNatClampNeg) (xs (x3 + (3 : Int32)).toNatClampNeg) z1 e1) cv_L_105 (by decide) (by decide) rfl hl.1 rfl (Nat.le_of_ble_eq_true rfl) dL_law_906 (by decide) (fun H locs hH => ?_)
  refine lv_aload_n hx hb dL_law_909 rfl (lv_at hl 2 rfl) ?_
  refine lv_aload_n hx hb dL_law_910 rfl (lv_at hl 0 rfl) ?_
  refine lv_iload_n hx hb dL_law_911 rfl (lv_at hl 3 rfl) ?_
  refine lv_iconst (v := (1 : Int32)) hx hb dL_law_912 (by decide) ?_
  refine lv_iadd hx hb dL_law_913 ?_
  refine va_sld hx hb hX hbl hbA hH.2 h1 dL_law_914 ?_
  refine lv_aload_n hx hb dL_law_915 rfl (lv_at hl 0 rfl) ?_
  refine lv_iload_n hx hb dL_law_916 rfl (lv_at hl 3 rfl) ?_
  refine lv_iconst (v := (2 : Int32)) hx hb dL_law_917 (by decide) ?_
  refine lv_iadd hx hb dL_law_918 ?_
  refine va_sld hx hb hX hbl hbA hH.2 h2 dL_law_919 ?_
  refine lv_aload_n hx hb dL_law_920 rfl (lv_at hl 0 rfl) ?_
  refine lv_iload_n hx hb dL_law_921 rfl (lv_at hl 3 rfl) ?_
  refine lv_iconst (v := (3 : Int32)) hx hb dL_law_922 (by decide) ?_
  refine lv_iadd hx hb dL_law_923 ?_
  refine va_sld hx hb hX hbl hbA hH.2 h3 dL_law_924 ?_
  refine r_callVi (rest := [.int z1.1]) C0 hH (c_X9_kind Γ l L0 z1.2 78 (xs (x3 + (1 : Int32)).toNatClampNeg) (xs (x3 + (2 : Int32)).toNatClampNeg) (xs (x3 + (3 : Int32)).toNatClampNeg) z2 e2) cv_L_108 (by decide) (by decide) rfl hl.1 rfl (Nat.le_of_ble_eq_true rfl) dL_law_925 (by decide) (fun H locs hH => ?_)
  refine lv_icmp_eq (tgt := 1473) hx hb dL_law_928 (by decide) (fun _ => ?_) (fun c9 => absurd er c9)
  exact kk z2.2 _ _ eI hH
set_option maxHeartbeats 4000000 in
set_option maxRecDepth 100000 in
theorem lc_luck {p : Program} {l : Launch} {e : Env} {s : State} {m : MethodId} {args : Array Value} {below : List Frame} {meth : Method} {c : Code} {Γ : Cx} {b L : Nat} {xs : Nat → Int32} {Q : State → Prop} {d : Dt} {x3 : Int32} (C0 : Ct Γ p s m args c code 4 "SeasonBoundLaw") (hX : va_X b L xs s s.heap) (hbl : b < s.heap.size) (hbA : ¬ AP Γ b) (hin : ∀ k : Nat, k < 6 → vp_in (x3 + nI k) L) (hI : Inv d) (H : Heap) (locs : List Loc) (ls : Array Slot) (hH : Hs Γ L0 d s H locs) (hl : lv_has ls 4 [(0, .ref b), (1, .ref (ad Γ.2.2.1 0)), (2, .ref (ad Γ.2.2.1 78)), (3, .int x3)])
    (kk : ∀ (d : Dt) (H : Heap) (locs : List Loc), Inv d → Hs Γ L0 d s H locs → W p l e room_1 s m args below meth c H locs 90 3089 Q (F0 m 1473 ls [])) : W p l e room_1 s m args below meth c H locs 90 3089 Q (F0 m 933 ls []) := by
  obtain ⟨hx, hb, hml, hown, hts, hK⟩ := id C0
  have h1 : vp_in (x3 + (1 : Int32)) L := hin 1 (by decide)
  have h2 : vp_in (x3 + (2 : Int32)) L := hin 2 (by decide)
  have h3 : vp_in (x3 + (3 : Int32)) L := hin 3 (by decide)
  have h4 : vp_in (x3 + (4 : Int32)) L := hin 4 (by decide)
  have h5 : vp_in (x3 + (5 : Int32)) L := hin 5 (by decide)
  obtain ⟨z1, z2, e1, e2, er, eI⟩ := st_luck hI (xs (x3 + (1 : Int32)).toNatClampNeg) (xs (x3 + (2 : Int32)).toNatClampNeg) (xs (x3 + (3 : Int32)).toNatClampNeg) (xs (x3 + (4 : Int32)).toNatClampNeg) (xs (x3 + (5 : Int32)).toNatClampNeg)
  refine lv_aload_n hx hb dL_law_933 rfl (lv_at hl 1 rfl) ?_
  refine lv_aload_n hx hb dL_law_934 rfl (lv_at hl 0 rfl) ?_
  refine lv_iload_n hx hb dL_law_935 rfl (lv_at hl 3 rfl) ?_
  refine lv_iconst (v := (1 : Int32)) hx hb dL_law_936 (by decide) ?_
  refine lv_iadd hx hb dL_law_937 ?_
  refine va_sld hx hb hX hbl hbA hH.2 h1 dL_law_938 ?_
  refine lv_aload_n hx hb dL_law_939 rfl (lv_at hl 0 rfl) ?_
  refine lv_iload_n hx hb dL_law_940 rfl (lv_at hl 3 rfl) ?_
  refine lv_iconst (v := (2 : Int32)) hx hb dL_law_941 (by decide) ?_
  refine lv_iadd hx hb dL_law_942 ?_
  refine va_sld hx hb hX hbl hbA hH.2 h2 dL_law_943 ?_
  refine lv_aload_n hx hb dL_law_944 rfl (lv_at hl 0 rfl) ?_
  refine lv_iload_n hx hb dL_law_945 rfl (lv_at hl 3 rfl) ?_
  refine lv_iconst (v := (3 : Int32)) hx hb dL_law_946 (by decide) ?_
  refine lv_iadd hx hb dL_law_947 ?_
  refine va_sld hx hb hX hbl hbA hH.2 h3 dL_law_948 ?_
  refine lv_aload_n hx hb dL_law_949 rfl (lv_at hl 0 rfl) ?_
  refine lv_iload_n hx hb dL_law_950 rfl (lv_at hl 3 rfl) ?_
  refine lv_iconst (v := (4 : Int32)) hx hb dL_law_951 (by decide) ?_
  refine lv_iadd hx hb dL_law_952 ?_
  refine va_sld hx hb hX hbl hbA hH.2 h4 dL_law_953 ?_
  refine lv_aload_n hx hb dL_law_954 rfl (lv_at hl 0 rfl) ?_
  refine lv_iload_n hx hb dL_law_955 rfl (lv_at hl 3 rfl) ?_
  refine lv_iconst (v := (5 : Int32)) hx hb dL_law_956 (by decide) ?_
  refine lv_iadd hx hb dL_law_957 ?_
  refine va_sld hx hb hX hbl hbA hH.2 h5 dL_law_958 ?_
  refine r_callVj (rest := []) C0 hH (c_X8_luck Γ l L0 d 0 (xs (x3 + (1 : Int32)).toNatClampNeg) (xs (x3 + (2 : Int32)).toNatClampNeg) (xs (x3 + (3 : Int32)).toNatClampNeg) (xs (x3 + (4 : Int32)).toNatClampNeg) (xs (x3 + (5 : Int32)).toNatClampNeg) z1 e1) cv_L_109 (by decide) (by decide) rfl hl.1 rfl (Nat.le_of_ble_eq_true rfl) dL_law_959 (by decide) (fun H locs hH => ?_)
  refine lv_aload_n hx hb dL_law_962 rfl (lv_at hl 2 rfl) ?_
  refine lv_aload_n hx hb dL_law_963 rfl (lv_at hl 0 rfl) ?_
  refine lv_iload_n hx hb dL_law_964 rfl (lv_at hl 3 rfl) ?_
  refine lv_iconst (v := (1 : Int32)) hx hb dL_law_965 (by decide) ?_
  refine lv_iadd hx hb dL_law_966 ?_
  refine va_sld hx hb hX hbl hbA hH.2 h1 dL_law_967 ?_
  refine lv_aload_n hx hb dL_law_968 rfl (lv_at hl 0 rfl) ?_
  refine lv_iload_n hx hb dL_law_969 rfl (lv_at hl 3 rfl) ?_
  refine lv_iconst (v := (2 : Int32)) hx hb dL_law_970 (by decide) ?_
  refine lv_iadd hx hb dL_law_971 ?_
  refine va_sld hx hb hX hbl hbA hH.2 h2 dL_law_972 ?_
  refine lv_aload_n hx hb dL_law_973 rfl (lv_at hl 0 rfl) ?_
  refine lv_iload_n hx hb dL_law_974 rfl (lv_at hl 3 rfl) ?_
  refine lv_iconst (v := (3 : Int32)) hx hb dL_law_975 (by decide) ?_
  refine lv_iadd hx hb dL_law_976 ?_
  refine va_sld hx hb hX hbl hbA hH.2 h3 dL_law_977 ?_
  refine lv_aload_n hx hb dL_law_978 rfl (lv_at hl 0 rfl) ?_
  refine lv_iload_n hx hb dL_law_979 rfl (lv_at hl 3 rfl) ?_
  refine lv_iconst (v := (4 : Int32)) hx hb dL_law_980 (by decide) ?_
  refine lv_iadd hx hb dL_law_981 ?_
  refine va_sld hx hb hX hbl hbA hH.2 h4 dL_law_982 ?_
  refine lv_aload_n hx hb dL_law_983 rfl (lv_at hl 0 rfl) ?_
  refine lv_iload_n hx hb dL_law_984 rfl (lv_at hl 3 rfl) ?_
  refine lv_iconst (v := (5 : Int32)) hx hb dL_law_985 (by decide) ?_
  refine lv_iadd hx hb dL_law_986 ?_
  refine va_sld hx hb hX hbl hbA hH.2 h5 dL_law_987 ?_
  refine r_callVj (rest := [.long z1.1]) C0 hH (c_X9_luck Γ l L0 z1.2 78 (xs (x3 + (1 : Int32)).toNatClampNeg) (xs (x3 + (2 : Int32)).toNatClampNeg) (xs (x3 + (3 : Int32)).toNatClampNeg) (xs (x3 + (4 : Int32)).toNatClampNeg) (xs (x3 + (5 : Int32)).toNatClampNeg) z2 e2) cv_L_113 (by decide) (by decide) rfl hl.1 rfl (Nat.le_of_ble_eq_true rfl) dL_law_988 (by decide) (fun H locs hH => ?_)
  refine W.lcmp hx hb dL_law_991 ?_
  refine lv_if_eq (tgt := 1473) hx hb dL_law_992 (by decide) (fun _ => ?_) (fun c9 => absurd (lcz er) c9)
  exact kk z2.2 _ _ eI hH
set_option maxHeartbeats 4000000 in
set_option maxRecDepth 100000 in
theorem lc_mean {p : Program} {l : Launch} {e : Env} {s : State} {m : MethodId} {args : Array Value} {below : List Frame} {meth : Method} {c : Code} {Γ : Cx} {b L : Nat} {xs : Nat → Int32} {Q : State → Prop} {d : Dt} {x3 : Int32} (C0 : Ct Γ p s m args c code 4 "SeasonBoundLaw") (hX : va_X b L xs s s.heap) (hbl : b < s.heap.size) (hbA : ¬ AP Γ b) (hin : ∀ k : Nat, k < 6 → vp_in (x3 + nI k) L) (hI : Inv d) (H : Heap) (locs : List Loc) (ls : Array Slot) (hH : Hs Γ L0 d s H locs) (hl : lv_has ls 4 [(0, .ref b), (1, .ref (ad Γ.2.2.1 0)), (2, .ref (ad Γ.2.2.1 78)), (3, .int x3)])
    (kk : ∀ (d : Dt) (H : Heap) (locs : List Loc), Inv d → Hs Γ L0 d s H locs → W p l e room_1 s m args below meth c H locs 90 3089 Q (F0 m 1473 ls [])) : W p l e room_1 s m args below meth c H locs 90 3089 Q (F0 m 997 ls []) := by
  obtain ⟨hx, hb, hml, hown, hts, hK⟩ := id C0
  have h1 : vp_in (x3 + (1 : Int32)) L := hin 1 (by decide)
  have h2 : vp_in (x3 + (2 : Int32)) L := hin 2 (by decide)
  have h3 : vp_in (x3 + (3 : Int32)) L := hin 3 (by decide)
  obtain ⟨z1, z2, e1, e2, er, eI⟩ := st_mean hI (xs (x3 + (1 : Int32)).toNatClampNeg) (xs (x3 + (2 : Int32)).toNatClampNeg) (xs (x3 + (3 : Int32)).toNatClampNeg)
  refine lv_aload_n hx hb dL_law_997 rfl (lv_at hl 1 rfl) ?_
  refine lv_aload_n hx hb dL_law_998 rfl (lv_at hl 0 rfl) ?_
  refine lv_iload_n hx hb dL_law_999 rfl (lv_at hl 3 rfl) ?_
  refine lv_iconst (v := (1 : Int32)) hx hb dL_law_1000 (by decide) ?_
  refine lv_iadd hx hb dL_law_1001 ?_
  refine va_sld hx hb hX hbl hbA hH.2 h1 dL_law_1002 ?_
  refine lv_aload_n hx hb dL_law_1003 rfl (lv_at hl 0 rfl) ?_
  refine lv_iload_n hx hb dL_law_1004 rfl (lv_at hl 3 rfl) ?_
  refine lv_iconst (v := (2 : Int32)) hx hb dL_law_1005 (by decide) ?_
  refine lv_iadd hx hb dL_law_1006 ?_
  refine va_sld hx hb hX hbl hbA hH.2 h2 dL_law_1007 ?_
  refine lv_aload_n hx hb dL_law_1008 rfl (lv_at hl 0 rfl) ?_
  refine lv_iload_n hx hb dL_law_1009 rfl (lv_at hl 3 rfl) ?_
  refine lv_iconst (v := (3 : Int32)) hx hb dL_law_1010 (by decide) ?_
  refine lv_iadd hx hb dL_law_1011 ?_
  refine va_sld hx hb hX hbl hbA hH.2 h3 dL_law_1012 ?_
  refine r_callVj (rest := []) C0 hH (c_X8_mean Γ l L0 d 0 (xs (x3 + (1 : Int32)).toNatClampNeg) (xs (x3 + (2 : Int32)).toNatClampNeg) (xs (x3 + (3 : Int32)).toNatClampNeg) z1 e1) cv_L_114 (by decide) (by decide) rfl hl.1 rfl (Nat.le_of_ble_eq_true rfl) dL_law_1013 (by decide) (fun H locs hH => ?_)
  refine lv_aload_n hx hb dL_law_1016 rfl (lv_at hl 2 rfl) ?_
  refine lv_aload_n hx hb dL_law_1017 rfl (lv_at hl 0 rfl) ?_
  refine lv_iload_n hx hb dL_law_1018 rfl (lv_at hl 3 rfl) ?_
  refine lv_iconst (v := (1 : Int32)) hx hb dL_law_1019 (by decide) ?_
  refine lv_iadd hx hb dL_law_1020 ?_
  refine va_sld hx hb hX hbl hbA hH.2 h1 dL_law_1021 ?_
  refine lv_aload_n hx hb dL_law_1022 rfl (lv_at hl 0 rfl) ?_
  refine lv_iload_n hx hb dL_law_1023 rfl (lv_at hl 3 rfl) ?_
  refine lv_iconst (v := (2 : Int32)) hx hb dL_law_1024 (by decide) ?_
  refine lv_iadd hx hb dL_law_1025 ?_
  refine va_sld hx hb hX hbl hbA hH.2 h2 dL_law_1026 ?_
  refine lv_aload_n hx hb dL_law_1027 rfl (lv_at hl 0 rfl) ?_
  refine lv_iload_n hx hb dL_law_1028 rfl (lv_at hl 3 rfl) ?_
  refine lv_iconst (v := (3 : Int32)) hx hb dL_law_1029 (by decide) ?_
  refine lv_iadd hx hb dL_law_1030 ?_
  refine va_sld hx hb hX hbl hbA hH.2 h3 dL_law_1031 ?_
  refine r_callVj (rest := [.long z1.1]) C0 hH (c_X9_mean Γ l L0 z1.2 78 (xs (x3 + (1 : Int32)).toNatClampNeg) (xs (x3 + (2 : Int32)).toNatClampNeg) (xs (x3 + (3 : Int32)).toNatClampNeg) z2 e2) cv_L_118 (by decide) (by decide) rfl hl.1 rfl (Nat.le_of_ble_eq_true rfl) dL_law_1032 (by decide) (fun H locs hH => ?_)
  refine W.lcmp hx hb dL_law_1035 ?_
  refine lv_if_eq (tgt := 1473) hx hb dL_law_1036 (by decide) (fun _ => ?_) (fun c9 => absurd (lcz er) c9)
  exact kk z2.2 _ _ eI hH
set_option maxHeartbeats 4000000 in
set_option maxRecDepth 100000 in
theorem lc_see {p : Program} {l : Launch} {e : Env} {s : State} {m : MethodId} {args : Array Value} {below : List Frame} {meth : Method} {c : Code} {Γ : Cx} {b L : Nat} {xs : Nat → Int32} {Q : State → Prop} {d : Dt} {x3 : Int32} (C0 : Ct Γ p s m args c code 4 "SeasonBoundLaw") (hX : va_X b L xs s s.heap) (hbl : b < s.heap.size) (hbA : ¬ AP Γ b) (hin : ∀ k : Nat, k < 6 → vp_in (x3 + nI k) L) (hI : Inv d) (H : Heap) (locs : List Loc) (ls : Array Slot) (hH : Hs Γ L0 d s H locs) (hl : lv_has ls 4 [(0, .ref b), (1, .ref (ad Γ.2.2.1 0)), (2, .ref (ad Γ.2.2.1 78)), (3, .int x3)])
    (kk : ∀ (d : Dt) (H : Heap) (locs : List Loc), Inv d → Hs Γ L0 d s H locs → W p l e room_1 s m args below meth c H locs 90 3089 Q (F0 m 1473 ls [])) : W p l e room_1 s m args below meth c H locs 90 3089 Q (F0 m 1041 ls []) := by
  obtain ⟨hx, hb, hml, hown, hts, hK⟩ := id C0
  have h1 : vp_in (x3 + (1 : Int32)) L := hin 1 (by decide)
  have h2 : vp_in (x3 + (2 : Int32)) L := hin 2 (by decide)
  have h3 : vp_in (x3 + (3 : Int32)) L := hin 3 (by decide)
  obtain ⟨z1, z2, e1, e2, er, eI⟩ := st_see hI (xs (x3 + (1 : Int32)).toNatClampNeg) (xs (x3 + (2 : Int32)).toNatClampNeg) (xs (x3 + (3 : Int32)).toNatClampNeg)
  refine lv_aload_n hx hb dL_law_1041 rfl (lv_at hl 1 rfl) ?_
  refine lv_aload_n hx hb dL_law_1042 rfl (lv_at hl 0 rfl) ?_
  refine lv_iload_n hx hb dL_law_1043 rfl (lv_at hl 3 rfl) ?_
  refine lv_iconst (v := (1 : Int32)) hx hb dL_law_1044 (by decide) ?_
  refine lv_iadd hx hb dL_law_1045 ?_
  refine va_sld hx hb hX hbl hbA hH.2 h1 dL_law_1046 ?_
  refine lv_aload_n hx hb dL_law_1047 rfl (lv_at hl 0 rfl) ?_
  refine lv_iload_n hx hb dL_law_1048 rfl (lv_at hl 3 rfl) ?_
  refine lv_iconst (v := (2 : Int32)) hx hb dL_law_1049 (by decide) ?_
  refine lv_iadd hx hb dL_law_1050 ?_
  refine va_sld hx hb hX hbl hbA hH.2 h2 dL_law_1051 ?_
  refine lv_aload_n hx hb dL_law_1052 rfl (lv_at hl 0 rfl) ?_
  refine lv_iload_n hx hb dL_law_1053 rfl (lv_at hl 3 rfl) ?_
  refine lv_iconst (v := (3 : Int32)) hx hb dL_law_1054 (by decide) ?_
  refine lv_iadd hx hb dL_law_1055 ?_
  refine va_sld hx hb hX hbl hbA hH.2 h3 dL_law_1056 ?_
  refine r_callVi (rest := []) C0 hH (c_X8_see Γ l L0 d 0 (xs (x3 + (1 : Int32)).toNatClampNeg) (xs (x3 + (2 : Int32)).toNatClampNeg) (xs (x3 + (3 : Int32)).toNatClampNeg) z1 e1) cv_L_119 (by decide) (by decide) rfl hl.1 rfl (Nat.le_of_ble_eq_true rfl) dL_law_1057 (by decide) (fun H locs hH => ?_)
  refine lv_aload_n hx hb dL_law_1060 rfl (lv_at hl 2 rfl) ?_
  refine lv_aload_n hx hb dL_law_1061 rfl (lv_at hl 0 rfl) ?_
  refine lv_iload_n hx hb dL_law_1062 rfl (lv_at hl 3 rfl) ?_
  refine lv_iconst (v := (1 : Int32)) hx hb dL_law_1063 (by decide) ?_
  refine lv_iadd hx hb dL_law_1064 ?_
  refine va_sld hx hb hX hbl hbA hH.2 h1 dL_law_1065 ?_
  refine lv_aload_n hx hb dL_law_1066 rfl (lv_at hl 0 rfl) ?_
  refine lv_iload_n hx hb dL_law_1067 rfl (lv_at hl 3 rfl) ?_
  refine lv_iconst (v := (2 : Int32)) hx hb dL_law_1068 (by decide) ?_
  refine lv_iadd hx hb dL_law_1069 ?_
  refine va_sld hx hb hX hbl hbA hH.2 h2 dL_law_1070 ?_
  refine lv_aload_n hx hb dL_law_1071 rfl (lv_at hl 0 rfl) ?_
  refine lv_iload_n hx hb dL_law_1072 rfl (lv_at hl 3 rfl) ?_
  refine lv_iconst (v := (3 : Int32)) hx hb dL_law_1073 (by decide) ?_
  refine lv_iadd hx hb dL_law_1074 ?_
  refine va_sld hx hb hX hbl hbA hH.2 h3 dL_law_1075 ?_
  refine r_callVi (rest := [.int z1.1]) C0 hH (c_X9_see Γ l L0 z1.2 78 (xs (x3 + (1 : Int32)).toNatClampNeg) (xs (x3 + (2 : Int32)).toNatClampNeg) (xs (x3 + (3 : Int32)).toNatClampNeg) z2 e2) cv_L_122 (by decide) (by decide) rfl hl.1 rfl (Nat.le_of_ble_eq_true rfl) dL_law_1076 (by decide) (fun H locs hH => ?_)
  refine lv_icmp_eq (tgt := 1473) hx hb dL_law_1079 (by decide) (fun _ => ?_) (fun c9 => absurd er c9)
  exact kk z2.2 _ _ eI hH
set_option maxHeartbeats 4000000 in
set_option maxRecDepth 100000 in
theorem lc_forget {p : Program} {l : Launch} {e : Env} {s : State} {m : MethodId} {args : Array Value} {below : List Frame} {meth : Method} {c : Code} {Γ : Cx} {b L : Nat} {xs : Nat → Int32} {Q : State → Prop} {d : Dt} {x3 : Int32} (C0 : Ct Γ p s m args c code 4 "SeasonBoundLaw") (hX : va_X b L xs s s.heap) (hbl : b < s.heap.size) (hbA : ¬ AP Γ b) (hin : ∀ k : Nat, k < 6 → vp_in (x3 + nI k) L) (hI : Inv d) (H : Heap) (locs : List Loc) (ls : Array Slot) (hH : Hs Γ L0 d s H locs) (hl : lv_has ls 4 [(0, .ref b), (1, .ref (ad Γ.2.2.1 0)), (2, .ref (ad Γ.2.2.1 78)), (3, .int x3)])
    (kk : ∀ (d : Dt) (H : Heap) (locs : List Loc), Inv d → Hs Γ L0 d s H locs → W p l e room_1 s m args below meth c H locs 90 3089 Q (F0 m 1473 ls [])) : W p l e room_1 s m args below meth c H locs 90 3089 Q (F0 m 1084 ls []) := by
  obtain ⟨hx, hb, hml, hown, hts, hK⟩ := id C0
  have h1 : vp_in (x3 + (1 : Int32)) L := hin 1 (by decide)
  obtain ⟨z1, z2, e1, e2, er, eI⟩ := st_forget hI (xs (x3 + (1 : Int32)).toNatClampNeg)
  refine lv_aload_n hx hb dL_law_1084 rfl (lv_at hl 1 rfl) ?_
  refine lv_aload_n hx hb dL_law_1085 rfl (lv_at hl 0 rfl) ?_
  refine lv_iload_n hx hb dL_law_1086 rfl (lv_at hl 3 rfl) ?_
  refine lv_iconst (v := (1 : Int32)) hx hb dL_law_1087 (by decide) ?_
  refine lv_iadd hx hb dL_law_1088 ?_
  refine va_sld hx hb hX hbl hbA hH.2 h1 dL_law_1089 ?_
  refine r_callVi (rest := []) C0 hH (c_X8_forget Γ l L0 d 0 (xs (x3 + (1 : Int32)).toNatClampNeg) z1 e1) cv_L_123 (by decide) (by decide) rfl hl.1 rfl (Nat.le_of_ble_eq_true rfl) dL_law_1090 (by decide) (fun H locs hH => ?_)
  refine lv_aload_n hx hb dL_law_1093 rfl (lv_at hl 2 rfl) ?_
  refine lv_aload_n hx hb dL_law_1094 rfl (lv_at hl 0 rfl) ?_
  refine lv_iload_n hx hb dL_law_1095 rfl (lv_at hl 3 rfl) ?_
  refine lv_iconst (v := (1 : Int32)) hx hb dL_law_1096 (by decide) ?_
  refine lv_iadd hx hb dL_law_1097 ?_
  refine va_sld hx hb hX hbl hbA hH.2 h1 dL_law_1098 ?_
  refine r_callVi (rest := [.int z1.1]) C0 hH (c_X9_forget Γ l L0 z1.2 78 (xs (x3 + (1 : Int32)).toNatClampNeg) z2 e2) cv_L_126 (by decide) (by decide) rfl hl.1 rfl (Nat.le_of_ble_eq_true rfl) dL_law_1099 (by decide) (fun H locs hH => ?_)
  refine lv_icmp_eq (tgt := 1473) hx hb dL_law_1102 (by decide) (fun _ => ?_) (fun c9 => absurd er c9)
  exact kk z2.2 _ _ eI hH
set_option maxHeartbeats 4000000 in
set_option maxRecDepth 100000 in
theorem lc_kinds {p : Program} {l : Launch} {e : Env} {s : State} {m : MethodId} {args : Array Value} {below : List Frame} {meth : Method} {c : Code} {Γ : Cx} {b L : Nat} {xs : Nat → Int32} {Q : State → Prop} {d : Dt} {x3 : Int32} (C0 : Ct Γ p s m args c code 4 "SeasonBoundLaw") (hX : va_X b L xs s s.heap) (hbl : b < s.heap.size) (hbA : ¬ AP Γ b) (hin : ∀ k : Nat, k < 6 → vp_in (x3 + nI k) L) (hI : Inv d) (H : Heap) (locs : List Loc) (ls : Array Slot) (hH : Hs Γ L0 d s H locs) (hl : lv_has ls 4 [(0, .ref b), (1, .ref (ad Γ.2.2.1 0)), (2, .ref (ad Γ.2.2.1 78)), (3, .int x3)])
    (kk : ∀ (d : Dt) (H : Heap) (locs : List Loc), Inv d → Hs Γ L0 d s H locs → W p l e room_1 s m args below meth c H locs 90 3089 Q (F0 m 1473 ls [])) : W p l e room_1 s m args below meth c H locs 90 3089 Q (F0 m 1107 ls []) := by
  obtain ⟨hx, hb, hml, hown, hts, hK⟩ := id C0
  have h1 : vp_in (x3 + (1 : Int32)) L := hin 1 (by decide)
  obtain ⟨z1, z2, e1, e2, er, eI⟩ := st_kinds hI (xs (x3 + (1 : Int32)).toNatClampNeg)
  refine lv_aload_n hx hb dL_law_1107 rfl (lv_at hl 1 rfl) ?_
  refine lv_aload_n hx hb dL_law_1108 rfl (lv_at hl 0 rfl) ?_
  refine lv_iload_n hx hb dL_law_1109 rfl (lv_at hl 3 rfl) ?_
  refine lv_iconst (v := (1 : Int32)) hx hb dL_law_1110 (by decide) ?_
  refine lv_iadd hx hb dL_law_1111 ?_
  refine va_sld hx hb hX hbl hbA hH.2 h1 dL_law_1112 ?_
  refine r_callVi (rest := []) C0 hH (c_X8_kinds Γ l L0 d 0 (xs (x3 + (1 : Int32)).toNatClampNeg) z1 e1) cv_L_127 (by decide) (by decide) rfl hl.1 rfl (Nat.le_of_ble_eq_true rfl) dL_law_1113 (by decide) (fun H locs hH => ?_)
  refine lv_aload_n hx hb dL_law_1116 rfl (lv_at hl 2 rfl) ?_
  refine lv_aload_n hx hb dL_law_1117 rfl (lv_at hl 0 rfl) ?_
  refine lv_iload_n hx hb dL_law_1118 rfl (lv_at hl 3 rfl) ?_
  refine lv_iconst (v := (1 : Int32)) hx hb dL_law_1119 (by decide) ?_
  refine lv_iadd hx hb dL_law_1120 ?_
  refine va_sld hx hb hX hbl hbA hH.2 h1 dL_law_1121 ?_
  refine r_callVi (rest := [.int z1.1]) C0 hH (c_X9_kinds Γ l L0 z1.2 78 (xs (x3 + (1 : Int32)).toNatClampNeg) z2 e2) cv_L_130 (by decide) (by decide) rfl hl.1 rfl (Nat.le_of_ble_eq_true rfl) dL_law_1122 (by decide) (fun H locs hH => ?_)
  refine lv_icmp_eq (tgt := 1473) hx hb dL_law_1125 (by decide) (fun _ => ?_) (fun c9 => absurd er c9)
  exact kk z2.2 _ _ eI hH
set_option maxHeartbeats 4000000 in
set_option maxRecDepth 100000 in
theorem lc_seasons {p : Program} {l : Launch} {e : Env} {s : State} {m : MethodId} {args : Array Value} {below : List Frame} {meth : Method} {c : Code} {Γ : Cx} {b L : Nat} {xs : Nat → Int32} {Q : State → Prop} {d : Dt} {x3 : Int32} (C0 : Ct Γ p s m args c code 4 "SeasonBoundLaw") (hX : va_X b L xs s s.heap) (hbl : b < s.heap.size) (hbA : ¬ AP Γ b) (hin : ∀ k : Nat, k < 6 → vp_in (x3 + nI k) L) (hI : Inv d) (H : Heap) (locs : List Loc) (ls : Array Slot) (hH : Hs Γ L0 d s H locs) (hl : lv_has ls 4 [(0, .ref b), (1, .ref (ad Γ.2.2.1 0)), (2, .ref (ad Γ.2.2.1 78)), (3, .int x3)])
    (kk : ∀ (d : Dt) (H : Heap) (locs : List Loc), Inv d → Hs Γ L0 d s H locs → W p l e room_1 s m args below meth c H locs 90 3089 Q (F0 m 1473 ls [])) : W p l e room_1 s m args below meth c H locs 90 3089 Q (F0 m 1130 ls []) := by
  obtain ⟨hx, hb, hml, hown, hts, hK⟩ := id C0
  have h1 : vp_in (x3 + (1 : Int32)) L := hin 1 (by decide)
  obtain ⟨z1, z2, e1, e2, er, eI⟩ := st_seasons hI (xs (x3 + (1 : Int32)).toNatClampNeg)
  refine lv_aload_n hx hb dL_law_1130 rfl (lv_at hl 1 rfl) ?_
  refine lv_aload_n hx hb dL_law_1131 rfl (lv_at hl 0 rfl) ?_
  refine lv_iload_n hx hb dL_law_1132 rfl (lv_at hl 3 rfl) ?_
  refine lv_iconst (v := (1 : Int32)) hx hb dL_law_1133 (by decide) ?_
  refine lv_iadd hx hb dL_law_1134 ?_
  refine va_sld hx hb hX hbl hbA hH.2 h1 dL_law_1135 ?_
  refine r_callVi (rest := []) C0 hH (c_X8_seasons Γ l L0 d 0 (xs (x3 + (1 : Int32)).toNatClampNeg) z1 e1) cv_L_131 (by decide) (by decide) rfl hl.1 rfl (Nat.le_of_ble_eq_true rfl) dL_law_1136 (by decide) (fun H locs hH => ?_)
  refine lv_aload_n hx hb dL_law_1139 rfl (lv_at hl 2 rfl) ?_
  refine lv_aload_n hx hb dL_law_1140 rfl (lv_at hl 0 rfl) ?_
  refine lv_iload_n hx hb dL_law_1141 rfl (lv_at hl 3 rfl) ?_
  refine lv_iconst (v := (1 : Int32)) hx hb dL_law_1142 (by decide) ?_
  refine lv_iadd hx hb dL_law_1143 ?_
  refine va_sld hx hb hX hbl hbA hH.2 h1 dL_law_1144 ?_
  refine r_callVi (rest := [.int z1.1]) C0 hH (c_X9_seasons Γ l L0 z1.2 78 (xs (x3 + (1 : Int32)).toNatClampNeg) z2 e2) cv_L_134 (by decide) (by decide) rfl hl.1 rfl (Nat.le_of_ble_eq_true rfl) dL_law_1145 (by decide) (fun H locs hH => ?_)
  refine lv_icmp_eq (tgt := 1473) hx hb dL_law_1148 (by decide) (fun _ => ?_) (fun c9 => absurd er c9)
  exact kk z2.2 _ _ eI hH
set_option maxHeartbeats 4000000 in
set_option maxRecDepth 100000 in
theorem lc_gifts {p : Program} {l : Launch} {e : Env} {s : State} {m : MethodId} {args : Array Value} {below : List Frame} {meth : Method} {c : Code} {Γ : Cx} {b L : Nat} {xs : Nat → Int32} {Q : State → Prop} {d : Dt} {x3 : Int32} (C0 : Ct Γ p s m args c code 4 "SeasonBoundLaw") (hX : va_X b L xs s s.heap) (hbl : b < s.heap.size) (hbA : ¬ AP Γ b) (hin : ∀ k : Nat, k < 6 → vp_in (x3 + nI k) L) (hI : Inv d) (H : Heap) (locs : List Loc) (ls : Array Slot) (hH : Hs Γ L0 d s H locs) (hl : lv_has ls 4 [(0, .ref b), (1, .ref (ad Γ.2.2.1 0)), (2, .ref (ad Γ.2.2.1 78)), (3, .int x3)])
    (kk : ∀ (d : Dt) (H : Heap) (locs : List Loc), Inv d → Hs Γ L0 d s H locs → W p l e room_1 s m args below meth c H locs 90 3089 Q (F0 m 1473 ls [])) : W p l e room_1 s m args below meth c H locs 90 3089 Q (F0 m 1153 ls []) := by
  obtain ⟨hx, hb, hml, hown, hts, hK⟩ := id C0
  have h1 : vp_in (x3 + (1 : Int32)) L := hin 1 (by decide)
  obtain ⟨z1, z2, e1, e2, er, eI⟩ := st_gifts hI (xs (x3 + (1 : Int32)).toNatClampNeg)
  refine lv_aload_n hx hb dL_law_1153 rfl (lv_at hl 1 rfl) ?_
  refine lv_aload_n hx hb dL_law_1154 rfl (lv_at hl 0 rfl) ?_
  refine lv_iload_n hx hb dL_law_1155 rfl (lv_at hl 3 rfl) ?_
  refine lv_iconst (v := (1 : Int32)) hx hb dL_law_1156 (by decide) ?_
  refine lv_iadd hx hb dL_law_1157 ?_
  refine va_sld hx hb hX hbl hbA hH.2 h1 dL_law_1158 ?_
  refine r_callVi (rest := []) C0 hH (c_X8_gifts Γ l L0 d 0 (xs (x3 + (1 : Int32)).toNatClampNeg) z1 e1) cv_L_135 (by decide) (by decide) rfl hl.1 rfl (Nat.le_of_ble_eq_true rfl) dL_law_1159 (by decide) (fun H locs hH => ?_)
  refine lv_aload_n hx hb dL_law_1162 rfl (lv_at hl 2 rfl) ?_
  refine lv_aload_n hx hb dL_law_1163 rfl (lv_at hl 0 rfl) ?_
  refine lv_iload_n hx hb dL_law_1164 rfl (lv_at hl 3 rfl) ?_
  refine lv_iconst (v := (1 : Int32)) hx hb dL_law_1165 (by decide) ?_
  refine lv_iadd hx hb dL_law_1166 ?_
  refine va_sld hx hb hX hbl hbA hH.2 h1 dL_law_1167 ?_
  refine r_callVi (rest := [.int z1.1]) C0 hH (c_X9_gifts Γ l L0 z1.2 78 (xs (x3 + (1 : Int32)).toNatClampNeg) z2 e2) cv_L_138 (by decide) (by decide) rfl hl.1 rfl (Nat.le_of_ble_eq_true rfl) dL_law_1168 (by decide) (fun H locs hH => ?_)
  refine lv_icmp_eq (tgt := 1473) hx hb dL_law_1171 (by decide) (fun _ => ?_) (fun c9 => absurd er c9)
  exact kk z2.2 _ _ eI hH
set_option maxHeartbeats 4000000 in
set_option maxRecDepth 100000 in
theorem lc_ask {p : Program} {l : Launch} {e : Env} {s : State} {m : MethodId} {args : Array Value} {below : List Frame} {meth : Method} {c : Code} {Γ : Cx} {b L : Nat} {xs : Nat → Int32} {Q : State → Prop} {d : Dt} {x3 : Int32} (C0 : Ct Γ p s m args c code 4 "SeasonBoundLaw") (hX : va_X b L xs s s.heap) (hbl : b < s.heap.size) (hbA : ¬ AP Γ b) (hin : ∀ k : Nat, k < 6 → vp_in (x3 + nI k) L) (hI : Inv d) (H : Heap) (locs : List Loc) (ls : Array Slot) (hH : Hs Γ L0 d s H locs) (hl : lv_has ls 4 [(0, .ref b), (1, .ref (ad Γ.2.2.1 0)), (2, .ref (ad Γ.2.2.1 78)), (3, .int x3)])
    (kk : ∀ (d : Dt) (H : Heap) (locs : List Loc), Inv d → Hs Γ L0 d s H locs → W p l e room_1 s m args below meth c H locs 90 3089 Q (F0 m 1473 ls [])) : W p l e room_1 s m args below meth c H locs 90 3089 Q (F0 m 1176 ls []) := by
  obtain ⟨hx, hb, hml, hown, hts, hK⟩ := id C0
  have h1 : vp_in (x3 + (1 : Int32)) L := hin 1 (by decide)
  have h2 : vp_in (x3 + (2 : Int32)) L := hin 2 (by decide)
  obtain ⟨z1, z2, e1, e2, er, eI⟩ := st_ask hI (xs (x3 + (1 : Int32)).toNatClampNeg) (xs (x3 + (2 : Int32)).toNatClampNeg)
  refine lv_aload_n hx hb dL_law_1176 rfl (lv_at hl 1 rfl) ?_
  refine lv_aload_n hx hb dL_law_1177 rfl (lv_at hl 0 rfl) ?_
  refine lv_iload_n hx hb dL_law_1178 rfl (lv_at hl 3 rfl) ?_
  refine lv_iconst (v := (1 : Int32)) hx hb dL_law_1179 (by decide) ?_
  refine lv_iadd hx hb dL_law_1180 ?_
  refine va_sld hx hb hX hbl hbA hH.2 h1 dL_law_1181 ?_
  refine lv_aload_n hx hb dL_law_1182 rfl (lv_at hl 0 rfl) ?_
  refine lv_iload_n hx hb dL_law_1183 rfl (lv_at hl 3 rfl) ?_
  refine lv_iconst (v := (2 : Int32)) hx hb dL_law_1184 (by decide) ?_
  refine lv_iadd hx hb dL_law_1185 ?_
  refine va_sld hx hb hX hbl hbA hH.2 h2 dL_law_1186 ?_
  refine r_callVi (rest := []) C0 hH (c_X8_ask Γ l L0 d 0 (xs (x3 + (1 : Int32)).toNatClampNeg) (xs (x3 + (2 : Int32)).toNatClampNeg) z1 e1) cv_L_139 (by decide) (by decide) rfl hl.1 rfl (Nat.le_of_ble_eq_true rfl) dL_law_1187 (by decide) (fun H locs hH => ?_)
  refine lv_aload_n hx hb dL_law_1190 rfl (lv_at hl 2 rfl) ?_
  refine lv_aload_n hx hb dL_law_1191 rfl (lv_at hl 0 rfl) ?_
  refine lv_iload_n hx hb dL_law_1192 rfl (lv_at hl 3 rfl) ?_
  refine lv_iconst (v := (1 : Int32)) hx hb dL_law_1193 (by decide) ?_
  refine lv_iadd hx hb dL_law_1194 ?_
  refine va_sld hx hb hX hbl hbA hH.2 h1 dL_law_1195 ?_
  refine lv_aload_n hx hb dL_law_1196 rfl (lv_at hl 0 rfl) ?_
  refine lv_iload_n hx hb dL_law_1197 rfl (lv_at hl 3 rfl) ?_
  refine lv_iconst (v := (2 : Int32)) hx hb dL_law_1198 (by decide) ?_
  refine lv_iadd hx hb dL_law_1199 ?_
  refine va_sld hx hb hX hbl hbA hH.2 h2 dL_law_1200 ?_
  refine r_callVi (rest := [.int z1.1]) C0 hH (c_X9_ask Γ l L0 z1.2 78 (xs (x3 + (1 : Int32)).toNatClampNeg) (xs (x3 + (2 : Int32)).toNatClampNeg) z2 e2) cv_L_142 (by decide) (by decide) rfl hl.1 rfl (Nat.le_of_ble_eq_true rfl) dL_law_1201 (by decide) (fun H locs hH => ?_)
  refine lv_icmp_eq (tgt := 1473) hx hb dL_law_1204 (by decide) (fun _ => ?_) (fun c9 => absurd er c9)
  exact kk z2.2 _ _ eI hH
set_option maxHeartbeats 4000000 in
set_option maxRecDepth 100000 in
theorem lc_drift {p : Program} {l : Launch} {e : Env} {s : State} {m : MethodId} {args : Array Value} {below : List Frame} {meth : Method} {c : Code} {Γ : Cx} {b L : Nat} {xs : Nat → Int32} {Q : State → Prop} {d : Dt} {x3 : Int32} (C0 : Ct Γ p s m args c code 4 "SeasonBoundLaw") (hX : va_X b L xs s s.heap) (hbl : b < s.heap.size) (hbA : ¬ AP Γ b) (hin : ∀ k : Nat, k < 6 → vp_in (x3 + nI k) L) (hI : Inv d) (H : Heap) (locs : List Loc) (ls : Array Slot) (hH : Hs Γ L0 d s H locs) (hl : lv_has ls 4 [(0, .ref b), (1, .ref (ad Γ.2.2.1 0)), (2, .ref (ad Γ.2.2.1 78)), (3, .int x3)])
    (kk : ∀ (d : Dt) (H : Heap) (locs : List Loc), Inv d → Hs Γ L0 d s H locs → W p l e room_1 s m args below meth c H locs 90 3089 Q (F0 m 1473 ls [])) : W p l e room_1 s m args below meth c H locs 90 3089 Q (F0 m 1209 ls []) := by
  obtain ⟨hx, hb, hml, hown, hts, hK⟩ := id C0
  have h1 : vp_in (x3 + (1 : Int32)) L := hin 1 (by decide)
  have h2 : vp_in (x3 + (2 : Int32)) L := hin 2 (by decide)
  have h3 : vp_in (x3 + (3 : Int32)) L := hin 3 (by decide)
  obtain ⟨z1, z2, e1, e2, er, eI⟩ := st_drift hI (xs (x3 + (1 : Int32)).toNatClampNeg) (xs (x3 + (2 : Int32)).toNatClampNeg) (xs (x3 + (3 : Int32)).toNatClampNeg)
  refine lv_aload_n hx hb dL_law_1209 rfl (lv_at hl 1 rfl) ?_
  refine lv_aload_n hx hb dL_law_1210 rfl (lv_at hl 0 rfl) ?_
  refine lv_iload_n hx hb dL_law_1211 rfl (lv_at hl 3 rfl) ?_
  refine lv_iconst (v := (1 : Int32)) hx hb dL_law_1212 (by decide) ?_
  refine lv_iadd hx hb dL_law_1213 ?_
  refine va_sld hx hb hX hbl hbA hH.2 h1 dL_law_1214 ?_
  refine lv_aload_n hx hb dL_law_1215 rfl (lv_at hl 0 rfl) ?_
  refine lv_iload_n hx hb dL_law_1216 rfl (lv_at hl 3 rfl) ?_
  refine lv_iconst (v := (2 : Int32)) hx hb dL_law_1217 (by decide) ?_
  refine lv_iadd hx hb dL_law_1218 ?_
  refine va_sld hx hb hX hbl hbA hH.2 h2 dL_law_1219 ?_
  refine lv_aload_n hx hb dL_law_1220 rfl (lv_at hl 0 rfl) ?_
  refine lv_iload_n hx hb dL_law_1221 rfl (lv_at hl 3 rfl) ?_
  refine lv_iconst (v := (3 : Int32)) hx hb dL_law_1222 (by decide) ?_
  refine lv_iadd hx hb dL_law_1223 ?_
  refine va_sld hx hb hX hbl hbA hH.2 h3 dL_law_1224 ?_
  refine r_callVi (rest := []) C0 hH (c_X8_drift Γ l L0 d 0 (xs (x3 + (1 : Int32)).toNatClampNeg) (xs (x3 + (2 : Int32)).toNatClampNeg) (xs (x3 + (3 : Int32)).toNatClampNeg) z1 e1) cv_L_143 (by decide) (by decide) rfl hl.1 rfl (Nat.le_of_ble_eq_true rfl) dL_law_1225 (by decide) (fun H locs hH => ?_)
  refine lv_aload_n hx hb dL_law_1228 rfl (lv_at hl 2 rfl) ?_
  refine lv_aload_n hx hb dL_law_1229 rfl (lv_at hl 0 rfl) ?_
  refine lv_iload_n hx hb dL_law_1230 rfl (lv_at hl 3 rfl) ?_
  refine lv_iconst (v := (1 : Int32)) hx hb dL_law_1231 (by decide) ?_
  refine lv_iadd hx hb dL_law_1232 ?_
  refine va_sld hx hb hX hbl hbA hH.2 h1 dL_law_1233 ?_
  refine lv_aload_n hx hb dL_law_1234 rfl (lv_at hl 0 rfl) ?_
  refine lv_iload_n hx hb dL_law_1235 rfl (lv_at hl 3 rfl) ?_
  refine lv_iconst (v := (2 : Int32)) hx hb dL_law_1236 (by decide) ?_
  refine lv_iadd hx hb dL_law_1237 ?_
  refine va_sld hx hb hX hbl hbA hH.2 h2 dL_law_1238 ?_
  refine lv_aload_n hx hb dL_law_1239 rfl (lv_at hl 0 rfl) ?_
  refine lv_iload_n hx hb dL_law_1240 rfl (lv_at hl 3 rfl) ?_
  refine lv_iconst (v := (3 : Int32)) hx hb dL_law_1241 (by decide) ?_
  refine lv_iadd hx hb dL_law_1242 ?_
  refine va_sld hx hb hX hbl hbA hH.2 h3 dL_law_1243 ?_
  refine r_callVi (rest := [.int z1.1]) C0 hH (c_X9_drift Γ l L0 z1.2 78 (xs (x3 + (1 : Int32)).toNatClampNeg) (xs (x3 + (2 : Int32)).toNatClampNeg) (xs (x3 + (3 : Int32)).toNatClampNeg) z2 e2) cv_L_146 (by decide) (by decide) rfl hl.1 rfl (Nat.le_of_ble_eq_true rfl) dL_law_1244 (by decide) (fun H locs hH => ?_)
  refine lv_icmp_eq (tgt := 1473) hx hb dL_law_1247 (by decide) (fun _ => ?_) (fun c9 => absurd er c9)
  exact kk z2.2 _ _ eI hH
set_option maxHeartbeats 4000000 in
set_option maxRecDepth 100000 in
theorem lc_keep {p : Program} {l : Launch} {e : Env} {s : State} {m : MethodId} {args : Array Value} {below : List Frame} {meth : Method} {c : Code} {Γ : Cx} {b L : Nat} {xs : Nat → Int32} {Q : State → Prop} {d : Dt} {x3 : Int32} (C0 : Ct Γ p s m args c code 4 "SeasonBoundLaw") (hX : va_X b L xs s s.heap) (hbl : b < s.heap.size) (hbA : ¬ AP Γ b) (hin : ∀ k : Nat, k < 6 → vp_in (x3 + nI k) L) (hI : Inv d) (H : Heap) (locs : List Loc) (ls : Array Slot) (hH : Hs Γ L0 d s H locs) (hl : lv_has ls 4 [(0, .ref b), (1, .ref (ad Γ.2.2.1 0)), (2, .ref (ad Γ.2.2.1 78)), (3, .int x3)])
    (kk : ∀ (d : Dt) (H : Heap) (locs : List Loc), Inv d → Hs Γ L0 d s H locs → W p l e room_1 s m args below meth c H locs 90 3089 Q (F0 m 1473 ls [])) : W p l e room_1 s m args below meth c H locs 90 3089 Q (F0 m 1252 ls []) := by
  obtain ⟨hx, hb, hml, hown, hts, hK⟩ := id C0
  have h1 : vp_in (x3 + (1 : Int32)) L := hin 1 (by decide)
  obtain ⟨z1, z2, e1, e2, er, eI⟩ := st_keep hI (xs (x3 + (1 : Int32)).toNatClampNeg)
  refine lv_aload_n hx hb dL_law_1252 rfl (lv_at hl 1 rfl) ?_
  refine lv_aload_n hx hb dL_law_1253 rfl (lv_at hl 0 rfl) ?_
  refine lv_iload_n hx hb dL_law_1254 rfl (lv_at hl 3 rfl) ?_
  refine lv_iconst (v := (1 : Int32)) hx hb dL_law_1255 (by decide) ?_
  refine lv_iadd hx hb dL_law_1256 ?_
  refine va_sld hx hb hX hbl hbA hH.2 h1 dL_law_1257 ?_
  refine r_callVi (rest := []) C0 hH (c_X8_keep Γ l L0 d 0 (xs (x3 + (1 : Int32)).toNatClampNeg) z1 e1) cv_L_147 (by decide) (by decide) rfl hl.1 rfl (Nat.le_of_ble_eq_true rfl) dL_law_1258 (by decide) (fun H locs hH => ?_)
  refine lv_aload_n hx hb dL_law_1261 rfl (lv_at hl 2 rfl) ?_
  refine lv_aload_n hx hb dL_law_1262 rfl (lv_at hl 0 rfl) ?_
  refine lv_iload_n hx hb dL_law_1263 rfl (lv_at hl 3 rfl) ?_
  refine lv_iconst (v := (1 : Int32)) hx hb dL_law_1264 (by decide) ?_
  refine lv_iadd hx hb dL_law_1265 ?_
  refine va_sld hx hb hX hbl hbA hH.2 h1 dL_law_1266 ?_
  refine r_callVi (rest := [.int z1.1]) C0 hH (c_X9_keep Γ l L0 z1.2 78 (xs (x3 + (1 : Int32)).toNatClampNeg) z2 e2) cv_L_150 (by decide) (by decide) rfl hl.1 rfl (Nat.le_of_ble_eq_true rfl) dL_law_1267 (by decide) (fun H locs hH => ?_)
  refine lv_icmp_eq (tgt := 1473) hx hb dL_law_1270 (by decide) (fun _ => ?_) (fun c9 => absurd er c9)
  exact kk z2.2 _ _ eI hH
set_option maxHeartbeats 4000000 in
set_option maxRecDepth 100000 in
theorem lc_back {p : Program} {l : Launch} {e : Env} {s : State} {m : MethodId} {args : Array Value} {below : List Frame} {meth : Method} {c : Code} {Γ : Cx} {b L : Nat} {xs : Nat → Int32} {Q : State → Prop} {d : Dt} {x3 : Int32} (C0 : Ct Γ p s m args c code 4 "SeasonBoundLaw") (hX : va_X b L xs s s.heap) (hbl : b < s.heap.size) (hbA : ¬ AP Γ b) (hin : ∀ k : Nat, k < 6 → vp_in (x3 + nI k) L) (hI : Inv d) (H : Heap) (locs : List Loc) (ls : Array Slot) (hH : Hs Γ L0 d s H locs) (hl : lv_has ls 4 [(0, .ref b), (1, .ref (ad Γ.2.2.1 0)), (2, .ref (ad Γ.2.2.1 78)), (3, .int x3)])
    (kk : ∀ (d : Dt) (H : Heap) (locs : List Loc), Inv d → Hs Γ L0 d s H locs → W p l e room_1 s m args below meth c H locs 90 3089 Q (F0 m 1473 ls [])) : W p l e room_1 s m args below meth c H locs 90 3089 Q (F0 m 1275 ls []) := by
  obtain ⟨hx, hb, hml, hown, hts, hK⟩ := id C0
  have h1 : vp_in (x3 + (1 : Int32)) L := hin 1 (by decide)
  obtain ⟨z1, z2, e1, e2, er, eI⟩ := st_back hI (xs (x3 + (1 : Int32)).toNatClampNeg)
  refine lv_aload_n hx hb dL_law_1275 rfl (lv_at hl 1 rfl) ?_
  refine lv_aload_n hx hb dL_law_1276 rfl (lv_at hl 0 rfl) ?_
  refine lv_iload_n hx hb dL_law_1277 rfl (lv_at hl 3 rfl) ?_
  refine lv_iconst (v := (1 : Int32)) hx hb dL_law_1278 (by decide) ?_
  refine lv_iadd hx hb dL_law_1279 ?_
  refine va_sld hx hb hX hbl hbA hH.2 h1 dL_law_1280 ?_
  refine r_callVi (rest := []) C0 hH (c_X8_back Γ l L0 d 0 (xs (x3 + (1 : Int32)).toNatClampNeg) z1 e1) cv_L_151 (by decide) (by decide) rfl hl.1 rfl (Nat.le_of_ble_eq_true rfl) dL_law_1281 (by decide) (fun H locs hH => ?_)
  refine lv_aload_n hx hb dL_law_1284 rfl (lv_at hl 2 rfl) ?_
  refine lv_aload_n hx hb dL_law_1285 rfl (lv_at hl 0 rfl) ?_
  refine lv_iload_n hx hb dL_law_1286 rfl (lv_at hl 3 rfl) ?_
  refine lv_iconst (v := (1 : Int32)) hx hb dL_law_1287 (by decide) ?_
  refine lv_iadd hx hb dL_law_1288 ?_
  refine va_sld hx hb hX hbl hbA hH.2 h1 dL_law_1289 ?_
  refine r_callVi (rest := [.int z1.1]) C0 hH (c_X9_back Γ l L0 z1.2 78 (xs (x3 + (1 : Int32)).toNatClampNeg) z2 e2) cv_L_154 (by decide) (by decide) rfl hl.1 rfl (Nat.le_of_ble_eq_true rfl) dL_law_1290 (by decide) (fun H locs hH => ?_)
  refine lv_icmp_eq (tgt := 1473) hx hb dL_law_1293 (by decide) (fun _ => ?_) (fun c9 => absurd er c9)
  exact kk z2.2 _ _ eI hH
set_option maxHeartbeats 4000000 in
set_option maxRecDepth 100000 in
theorem lc_sheet {p : Program} {l : Launch} {e : Env} {s : State} {m : MethodId} {args : Array Value} {below : List Frame} {meth : Method} {c : Code} {Γ : Cx} {b L : Nat} {xs : Nat → Int32} {Q : State → Prop} {d : Dt} {x3 : Int32} (C0 : Ct Γ p s m args c code 4 "SeasonBoundLaw") (hX : va_X b L xs s s.heap) (hbl : b < s.heap.size) (hbA : ¬ AP Γ b) (hin : ∀ k : Nat, k < 6 → vp_in (x3 + nI k) L) (hI : Inv d) (H : Heap) (locs : List Loc) (ls : Array Slot) (hH : Hs Γ L0 d s H locs) (hl : lv_has ls 4 [(0, .ref b), (1, .ref (ad Γ.2.2.1 0)), (2, .ref (ad Γ.2.2.1 78)), (3, .int x3)])
    (kk : ∀ (d : Dt) (H : Heap) (locs : List Loc), Inv d → Hs Γ L0 d s H locs → W p l e room_1 s m args below meth c H locs 90 3089 Q (F0 m 1473 ls [])) : W p l e room_1 s m args below meth c H locs 90 3089 Q (F0 m 1298 ls []) := by
  obtain ⟨hx, hb, hml, hown, hts, hK⟩ := id C0
  have h1 : vp_in (x3 + (1 : Int32)) L := hin 1 (by decide)
  have h2 : vp_in (x3 + (2 : Int32)) L := hin 2 (by decide)
  have h3 : vp_in (x3 + (3 : Int32)) L := hin 3 (by decide)
  obtain ⟨z1, z2, e1, e2, er, eI⟩ := st_sheet hI (xs (x3 + (1 : Int32)).toNatClampNeg) (xs (x3 + (2 : Int32)).toNatClampNeg) (xs (x3 + (3 : Int32)).toNatClampNeg)
  refine lv_aload_n hx hb dL_law_1298 rfl (lv_at hl 1 rfl) ?_
  refine lv_aload_n hx hb dL_law_1299 rfl (lv_at hl 0 rfl) ?_
  refine lv_iload_n hx hb dL_law_1300 rfl (lv_at hl 3 rfl) ?_
  refine lv_iconst (v := (1 : Int32)) hx hb dL_law_1301 (by decide) ?_
  refine lv_iadd hx hb dL_law_1302 ?_
  refine va_sld hx hb hX hbl hbA hH.2 h1 dL_law_1303 ?_
  refine lv_aload_n hx hb dL_law_1304 rfl (lv_at hl 0 rfl) ?_
  refine lv_iload_n hx hb dL_law_1305 rfl (lv_at hl 3 rfl) ?_
  refine lv_iconst (v := (2 : Int32)) hx hb dL_law_1306 (by decide) ?_
  refine lv_iadd hx hb dL_law_1307 ?_
  refine va_sld hx hb hX hbl hbA hH.2 h2 dL_law_1308 ?_
  refine lv_aload_n hx hb dL_law_1309 rfl (lv_at hl 0 rfl) ?_
  refine lv_iload_n hx hb dL_law_1310 rfl (lv_at hl 3 rfl) ?_
  refine lv_iconst (v := (3 : Int32)) hx hb dL_law_1311 (by decide) ?_
  refine lv_iadd hx hb dL_law_1312 ?_
  refine va_sld hx hb hX hbl hbA hH.2 h3 dL_law_1313 ?_
  refine r_callVi (rest := []) C0 hH (c_X8_sheet Γ l L0 d 0 (xs (x3 + (1 : Int32)).toNatClampNeg) (xs (x3 + (2 : Int32)).toNatClampNeg) (xs (x3 + (3 : Int32)).toNatClampNeg) z1 e1) cv_L_155 (by decide) (by decide) rfl hl.1 rfl (Nat.le_of_ble_eq_true rfl) dL_law_1314 (by decide) (fun H locs hH => ?_)
  refine lv_aload_n hx hb dL_law_1317 rfl (lv_at hl 2 rfl) ?_
  refine lv_aload_n hx hb dL_law_1318 rfl (lv_at hl 0 rfl) ?_
  refine lv_iload_n hx hb dL_law_1319 rfl (lv_at hl 3 rfl) ?_
  refine lv_iconst (v := (1 : Int32)) hx hb dL_law_1320 (by decide) ?_
  refine lv_iadd hx hb dL_law_1321 ?_
  refine va_sld hx hb hX hbl hbA hH.2 h1 dL_law_1322 ?_
  refine lv_aload_n hx hb dL_law_1323 rfl (lv_at hl 0 rfl) ?_
  refine lv_iload_n hx hb dL_law_1324 rfl (lv_at hl 3 rfl) ?_
  refine lv_iconst (v := (2 : Int32)) hx hb dL_law_1325 (by decide) ?_
  refine lv_iadd hx hb dL_law_1326 ?_
  refine va_sld hx hb hX hbl hbA hH.2 h2 dL_law_1327 ?_
  refine lv_aload_n hx hb dL_law_1328 rfl (lv_at hl 0 rfl) ?_
  refine lv_iload_n hx hb dL_law_1329 rfl (lv_at hl 3 rfl) ?_
  refine lv_iconst (v := (3 : Int32)) hx hb dL_law_1330 (by decide) ?_
  refine lv_iadd hx hb dL_law_1331 ?_
  refine va_sld hx hb hX hbl hbA hH.2 h3 dL_law_1332 ?_
  refine r_callVi (rest := [.int z1.1]) C0 hH (c_X9_sheet Γ l L0 z1.2 78 (xs (x3 + (1 : Int32)).toNatClampNeg) (xs (x3 + (2 : Int32)).toNatClampNeg) (xs (x3 + (3 : Int32)).toNatClampNeg) z2 e2) cv_L_158 (by decide) (by decide) rfl hl.1 rfl (Nat.le_of_ble_eq_true rfl) dL_law_1333 (by decide) (fun H locs hH => ?_)
  refine lv_icmp_eq (tgt := 1473) hx hb dL_law_1336 (by decide) (fun _ => ?_) (fun c9 => absurd er c9)
  exact kk z2.2 _ _ eI hH
set_option maxHeartbeats 4000000 in
set_option maxRecDepth 100000 in
theorem lc_lay {p : Program} {l : Launch} {e : Env} {s : State} {m : MethodId} {args : Array Value} {below : List Frame} {meth : Method} {c : Code} {Γ : Cx} {b L : Nat} {xs : Nat → Int32} {Q : State → Prop} {d : Dt} {x3 : Int32} (C0 : Ct Γ p s m args c code 4 "SeasonBoundLaw") (hX : va_X b L xs s s.heap) (hbl : b < s.heap.size) (hbA : ¬ AP Γ b) (hin : ∀ k : Nat, k < 6 → vp_in (x3 + nI k) L) (hI : Inv d) (H : Heap) (locs : List Loc) (ls : Array Slot) (hH : Hs Γ L0 d s H locs) (hl : lv_has ls 4 [(0, .ref b), (1, .ref (ad Γ.2.2.1 0)), (2, .ref (ad Γ.2.2.1 78)), (3, .int x3)])
    (kk : ∀ (d : Dt) (H : Heap) (locs : List Loc), Inv d → Hs Γ L0 d s H locs → W p l e room_1 s m args below meth c H locs 90 3089 Q (F0 m 1473 ls [])) : W p l e room_1 s m args below meth c H locs 90 3089 Q (F0 m 1341 ls []) := by
  obtain ⟨hx, hb, hml, hown, hts, hK⟩ := id C0
  have h1 : vp_in (x3 + (1 : Int32)) L := hin 1 (by decide)
  have h2 : vp_in (x3 + (2 : Int32)) L := hin 2 (by decide)
  have h3 : vp_in (x3 + (3 : Int32)) L := hin 3 (by decide)
  obtain ⟨z1, z2, e1, e2, er, eI⟩ := st_lay hI (xs (x3 + (1 : Int32)).toNatClampNeg) (xs (x3 + (2 : Int32)).toNatClampNeg) (xs (x3 + (3 : Int32)).toNatClampNeg)
  refine lv_aload_n hx hb dL_law_1341 rfl (lv_at hl 1 rfl) ?_
  refine lv_aload_n hx hb dL_law_1342 rfl (lv_at hl 0 rfl) ?_
  refine lv_iload_n hx hb dL_law_1343 rfl (lv_at hl 3 rfl) ?_
  refine lv_iconst (v := (1 : Int32)) hx hb dL_law_1344 (by decide) ?_
  refine lv_iadd hx hb dL_law_1345 ?_
  refine va_sld hx hb hX hbl hbA hH.2 h1 dL_law_1346 ?_
  refine lv_aload_n hx hb dL_law_1347 rfl (lv_at hl 0 rfl) ?_
  refine lv_iload_n hx hb dL_law_1348 rfl (lv_at hl 3 rfl) ?_
  refine lv_iconst (v := (2 : Int32)) hx hb dL_law_1349 (by decide) ?_
  refine lv_iadd hx hb dL_law_1350 ?_
  refine va_sld hx hb hX hbl hbA hH.2 h2 dL_law_1351 ?_
  refine lv_aload_n hx hb dL_law_1352 rfl (lv_at hl 0 rfl) ?_
  refine lv_iload_n hx hb dL_law_1353 rfl (lv_at hl 3 rfl) ?_
  refine lv_iconst (v := (3 : Int32)) hx hb dL_law_1354 (by decide) ?_
  refine lv_iadd hx hb dL_law_1355 ?_
  refine va_sld hx hb hX hbl hbA hH.2 h3 dL_law_1356 ?_
  refine r_callVi (rest := []) C0 hH (c_X8_lay Γ l L0 d 0 (xs (x3 + (1 : Int32)).toNatClampNeg) (xs (x3 + (2 : Int32)).toNatClampNeg) (xs (x3 + (3 : Int32)).toNatClampNeg) z1 e1) cv_L_159 (by decide) (by decide) rfl hl.1 rfl (Nat.le_of_ble_eq_true rfl) dL_law_1357 (by decide) (fun H locs hH => ?_)
  refine lv_aload_n hx hb dL_law_1360 rfl (lv_at hl 2 rfl) ?_
  refine lv_aload_n hx hb dL_law_1361 rfl (lv_at hl 0 rfl) ?_
  refine lv_iload_n hx hb dL_law_1362 rfl (lv_at hl 3 rfl) ?_
  refine lv_iconst (v := (1 : Int32)) hx hb dL_law_1363 (by decide) ?_
  refine lv_iadd hx hb dL_law_1364 ?_
  refine va_sld hx hb hX hbl hbA hH.2 h1 dL_law_1365 ?_
  refine lv_aload_n hx hb dL_law_1366 rfl (lv_at hl 0 rfl) ?_
  refine lv_iload_n hx hb dL_law_1367 rfl (lv_at hl 3 rfl) ?_
  refine lv_iconst (v := (2 : Int32)) hx hb dL_law_1368 (by decide) ?_
  refine lv_iadd hx hb dL_law_1369 ?_
  refine va_sld hx hb hX hbl hbA hH.2 h2 dL_law_1370 ?_
  refine lv_aload_n hx hb dL_law_1371 rfl (lv_at hl 0 rfl) ?_
  refine lv_iload_n hx hb dL_law_1372 rfl (lv_at hl 3 rfl) ?_
  refine lv_iconst (v := (3 : Int32)) hx hb dL_law_1373 (by decide) ?_
  refine lv_iadd hx hb dL_law_1374 ?_
  refine va_sld hx hb hX hbl hbA hH.2 h3 dL_law_1375 ?_
  refine r_callVi (rest := [.int z1.1]) C0 hH (c_X9_lay Γ l L0 z1.2 78 (xs (x3 + (1 : Int32)).toNatClampNeg) (xs (x3 + (2 : Int32)).toNatClampNeg) (xs (x3 + (3 : Int32)).toNatClampNeg) z2 e2) cv_L_162 (by decide) (by decide) rfl hl.1 rfl (Nat.le_of_ble_eq_true rfl) dL_law_1376 (by decide) (fun H locs hH => ?_)
  refine lv_icmp_eq (tgt := 1473) hx hb dL_law_1379 (by decide) (fun _ => ?_) (fun c9 => absurd er c9)
  exact kk z2.2 _ _ eI hH
set_option maxHeartbeats 4000000 in
set_option maxRecDepth 100000 in
theorem lc_read {p : Program} {l : Launch} {e : Env} {s : State} {m : MethodId} {args : Array Value} {below : List Frame} {meth : Method} {c : Code} {Γ : Cx} {b L : Nat} {xs : Nat → Int32} {Q : State → Prop} {d : Dt} {x3 : Int32} (C0 : Ct Γ p s m args c code 4 "SeasonBoundLaw") (hX : va_X b L xs s s.heap) (hbl : b < s.heap.size) (hbA : ¬ AP Γ b) (hin : ∀ k : Nat, k < 6 → vp_in (x3 + nI k) L) (hI : Inv d) (H : Heap) (locs : List Loc) (ls : Array Slot) (hH : Hs Γ L0 d s H locs) (hl : lv_has ls 4 [(0, .ref b), (1, .ref (ad Γ.2.2.1 0)), (2, .ref (ad Γ.2.2.1 78)), (3, .int x3)])
    (kk : ∀ (d : Dt) (H : Heap) (locs : List Loc), Inv d → Hs Γ L0 d s H locs → W p l e room_1 s m args below meth c H locs 90 3089 Q (F0 m 1473 ls [])) : W p l e room_1 s m args below meth c H locs 90 3089 Q (F0 m 1384 ls []) := by
  obtain ⟨hx, hb, hml, hown, hts, hK⟩ := id C0
  have h1 : vp_in (x3 + (1 : Int32)) L := hin 1 (by decide)
  have h2 : vp_in (x3 + (2 : Int32)) L := hin 2 (by decide)
  have h3 : vp_in (x3 + (3 : Int32)) L := hin 3 (by decide)
  have h4 : vp_in (x3 + (4 : Int32)) L := hin 4 (by decide)
  obtain ⟨z1, z2, e1, e2, er, eI⟩ := st_read hI (xs (x3 + (1 : Int32)).toNatClampNeg) (xs (x3 + (2 : Int32)).toNatClampNeg) (xs (x3 + (3 : Int32)).toNatClampNeg) (xs (x3 + (4 : Int32)).toNatClampNeg)
  refine lv_aload_n hx hb dL_law_1384 rfl (lv_at hl 1 rfl) ?_
  refine lv_aload_n hx hb dL_law_1385 rfl (lv_at hl 0 rfl) ?_
  refine lv_iload_n hx hb dL_law_1386 rfl (lv_at hl 3 rfl) ?_
  refine lv_iconst (v := (1 : Int32)) hx hb dL_law_1387 (by decide) ?_
  refine lv_iadd hx hb dL_law_1388 ?_
  refine va_sld hx hb hX hbl hbA hH.2 h1 dL_law_1389 ?_
  refine lv_aload_n hx hb dL_law_1390 rfl (lv_at hl 0 rfl) ?_
  refine lv_iload_n hx hb dL_law_1391 rfl (lv_at hl 3 rfl) ?_
  refine lv_iconst (v := (2 : Int32)) hx hb dL_law_1392 (by decide) ?_
  refine lv_iadd hx hb dL_law_1393 ?_
  refine va_sld hx hb hX hbl hbA hH.2 h2 dL_law_1394 ?_
  refine lv_aload_n hx hb dL_law_1395 rfl (lv_at hl 0 rfl) ?_
  refine lv_iload_n hx hb dL_law_1396 rfl (lv_at hl 3 rfl) ?_
  refine lv_iconst (v := (3 : Int32)) hx hb dL_law_1397 (by decide) ?_
  refine lv_iadd hx hb dL_law_1398 ?_
  refine va_sld hx hb hX hbl hbA hH.2 h3 dL_law_1399 ?_
  refine lv_aload_n hx hb dL_law_1400 rfl (lv_at hl 0 rfl) ?_
  refine lv_iload_n hx hb dL_law_1401 rfl (lv_at hl 3 rfl) ?_
  refine lv_iconst (v := (4 : Int32)) hx hb dL_law_1402 (by decide) ?_
  refine lv_iadd hx hb dL_law_1403 ?_
  refine va_sld hx hb hX hbl hbA hH.2 h4 dL_law_1404 ?_
  refine r_callVi (rest := []) C0 hH (c_X8_read Γ l L0 d 0 (xs (x3 + (1 : Int32)).toNatClampNeg) (xs (x3 + (2 : Int32)).toNatClampNeg) (xs (x3 + (3 : Int32)).toNatClampNeg) (xs (x3 + (4 : Int32)).toNatClampNeg) z1 e1) cv_L_163 (by decide) (by decide) rfl hl.1 rfl (Nat.le_of_ble_eq_true rfl) dL_law_1405 (by decide) (fun H locs hH => ?_)
  refine lv_aload_n hx hb dL_law_1408 rfl (lv_at hl 2 rfl) ?_
  refine lv_aload_n hx hb dL_law_1409 rfl (lv_at hl 0 rfl) ?_
  refine lv_iload_n hx hb dL_law_1410 rfl (lv_at hl 3 rfl) ?_
  refine lv_iconst (v := (1 : Int32)) hx hb dL_law_1411 (by decide) ?_
  refine lv_iadd hx hb dL_law_1412 ?_
  refine va_sld hx hb hX hbl hbA hH.2 h1 dL_law_1413 ?_
  refine lv_aload_n hx hb dL_law_1414 rfl (lv_at hl 0 rfl) ?_
  refine lv_iload_n hx hb dL_law_1415 rfl (lv_at hl 3 rfl) ?_
  refine lv_iconst (v := (2 : Int32)) hx hb dL_law_1416 (by decide) ?_
  refine lv_iadd hx hb dL_law_1417 ?_
  refine va_sld hx hb hX hbl hbA hH.2 h2 dL_law_1418 ?_
  refine lv_aload_n hx hb dL_law_1419 rfl (lv_at hl 0 rfl) ?_
  refine lv_iload_n hx hb dL_law_1420 rfl (lv_at hl 3 rfl) ?_
  refine lv_iconst (v := (3 : Int32)) hx hb dL_law_1421 (by decide) ?_
  refine lv_iadd hx hb dL_law_1422 ?_
  refine va_sld hx hb hX hbl hbA hH.2 h3 dL_law_1423 ?_
  refine lv_aload_n hx hb dL_law_1424 rfl (lv_at hl 0 rfl) ?_
  refine lv_iload_n hx hb dL_law_1425 rfl (lv_at hl 3 rfl) ?_
  refine lv_iconst (v := (4 : Int32)) hx hb dL_law_1426 (by decide) ?_
  refine lv_iadd hx hb dL_law_1427 ?_
  refine va_sld hx hb hX hbl hbA hH.2 h4 dL_law_1428 ?_
  refine r_callVi (rest := [.int z1.1]) C0 hH (c_X9_read Γ l L0 z1.2 78 (xs (x3 + (1 : Int32)).toNatClampNeg) (xs (x3 + (2 : Int32)).toNatClampNeg) (xs (x3 + (3 : Int32)).toNatClampNeg) (xs (x3 + (4 : Int32)).toNatClampNeg) z2 e2) cv_L_167 (by decide) (by decide) rfl hl.1 rfl (Nat.le_of_ble_eq_true rfl) dL_law_1429 (by decide) (fun H locs hH => ?_)
  refine lv_icmp_eq (tgt := 1473) hx hb dL_law_1432 (by decide) (fun _ => ?_) (fun c9 => absurd er c9)
  exact kk z2.2 _ _ eI hH
set_option maxHeartbeats 4000000 in
set_option maxRecDepth 100000 in
theorem lc_torn {p : Program} {l : Launch} {e : Env} {s : State} {m : MethodId} {args : Array Value} {below : List Frame} {meth : Method} {c : Code} {Γ : Cx} {b L : Nat} {xs : Nat → Int32} {Q : State → Prop} {d : Dt} {x3 : Int32} (C0 : Ct Γ p s m args c code 4 "SeasonBoundLaw") (hX : va_X b L xs s s.heap) (hbl : b < s.heap.size) (hbA : ¬ AP Γ b) (hin : ∀ k : Nat, k < 6 → vp_in (x3 + nI k) L) (hI : Inv d) (H : Heap) (locs : List Loc) (ls : Array Slot) (hH : Hs Γ L0 d s H locs) (hl : lv_has ls 4 [(0, .ref b), (1, .ref (ad Γ.2.2.1 0)), (2, .ref (ad Γ.2.2.1 78)), (3, .int x3)])
    (kk : ∀ (d : Dt) (H : Heap) (locs : List Loc), Inv d → Hs Γ L0 d s H locs → W p l e room_1 s m args below meth c H locs 90 3089 Q (F0 m 1473 ls [])) : W p l e room_1 s m args below meth c H locs 90 3089 Q (F0 m 1437 ls []) := by
  obtain ⟨hx, hb, hml, hown, hts, hK⟩ := id C0
  obtain ⟨z1, z2, e1, e2, er, eI⟩ := st_torn hI
  refine lv_aload_n hx hb dL_law_1437 rfl (lv_at hl 1 rfl) ?_
  refine r_callVi (rest := []) C0 hH (c_X8_torn Γ l L0 d 0 z1 e1) cv_L_168 (by decide) (by decide) rfl hl.1 rfl (Nat.le_of_ble_eq_true rfl) dL_law_1438 (by decide) (fun H locs hH => ?_)
  refine lv_aload_n hx hb dL_law_1441 rfl (lv_at hl 2 rfl) ?_
  refine r_callVi (rest := [.int z1]) C0 hH (c_X9_torn Γ l L0 d 78 z2 e2) cv_L_171 (by decide) (by decide) rfl hl.1 rfl (Nat.le_of_ble_eq_true rfl) dL_law_1442 (by decide) (fun H locs hH => ?_)
  refine lv_icmp_eq (tgt := 1473) hx hb dL_law_1445 (by decide) (fun _ => ?_) (fun c9 => absurd er c9)
  exact kk d _ _ eI hH
set_option maxHeartbeats 4000000 in
set_option maxRecDepth 100000 in
theorem lc_count {p : Program} {l : Launch} {e : Env} {s : State} {m : MethodId} {args : Array Value} {below : List Frame} {meth : Method} {c : Code} {Γ : Cx} {b L : Nat} {xs : Nat → Int32} {Q : State → Prop} {d : Dt} {x3 : Int32} (C0 : Ct Γ p s m args c code 4 "SeasonBoundLaw") (hX : va_X b L xs s s.heap) (hbl : b < s.heap.size) (hbA : ¬ AP Γ b) (hin : ∀ k : Nat, k < 6 → vp_in (x3 + nI k) L) (hI : Inv d) (H : Heap) (locs : List Loc) (ls : Array Slot) (hH : Hs Γ L0 d s H locs) (hl : lv_has ls 4 [(0, .ref b), (1, .ref (ad Γ.2.2.1 0)), (2, .ref (ad Γ.2.2.1 78)), (3, .int x3)])
    (kk : ∀ (d : Dt) (H : Heap) (locs : List Loc), Inv d → Hs Γ L0 d s H locs → W p l e room_1 s m args below meth c H locs 90 3089 Q (F0 m 1473 ls [])) : W p l e room_1 s m args below meth c H locs 90 3089 Q (F0 m 1450 ls []) := by
  obtain ⟨hx, hb, hml, hown, hts, hK⟩ := id C0
  have h1 : vp_in (x3 + (1 : Int32)) L := hin 1 (by decide)
  obtain ⟨z1, z2, e1, e2, er, eI⟩ := st_count hI (xs (x3 + (1 : Int32)).toNatClampNeg)
  refine lv_aload_n hx hb dL_law_1450 rfl (lv_at hl 1 rfl) ?_
  refine lv_aload_n hx hb dL_law_1451 rfl (lv_at hl 0 rfl) ?_
  refine lv_iload_n hx hb dL_law_1452 rfl (lv_at hl 3 rfl) ?_
  refine lv_iconst (v := (1 : Int32)) hx hb dL_law_1453 (by decide) ?_
  refine lv_iadd hx hb dL_law_1454 ?_
  refine va_sld hx hb hX hbl hbA hH.2 h1 dL_law_1455 ?_
  refine r_callVi (rest := []) C0 hH (c_X8_count Γ l L0 d 0 (xs (x3 + (1 : Int32)).toNatClampNeg) z1 e1) cv_L_172 (by decide) (by decide) rfl hl.1 rfl (Nat.le_of_ble_eq_true rfl) dL_law_1456 (by decide) (fun H locs hH => ?_)
  refine lv_aload_n hx hb dL_law_1459 rfl (lv_at hl 2 rfl) ?_
  refine lv_aload_n hx hb dL_law_1460 rfl (lv_at hl 0 rfl) ?_
  refine lv_iload_n hx hb dL_law_1461 rfl (lv_at hl 3 rfl) ?_
  refine lv_iconst (v := (1 : Int32)) hx hb dL_law_1462 (by decide) ?_
  refine lv_iadd hx hb dL_law_1463 ?_
  refine va_sld hx hb hX hbl hbA hH.2 h1 dL_law_1464 ?_
  refine r_callVi (rest := [.int z1]) C0 hH (c_X9_count Γ l L0 d 78 (xs (x3 + (1 : Int32)).toNatClampNeg) z2 e2) cv_L_175 (by decide) (by decide) rfl hl.1 rfl (Nat.le_of_ble_eq_true rfl) dL_law_1465 (by decide) (fun H locs hH => ?_)
  refine lv_icmp_eq (tgt := 1473) hx hb dL_law_1468 (by decide) (fun _ => ?_) (fun c9 => absurd er c9)
  exact kk z2.2 _ _ eI hH
