abbrev mL_law : gM := (yL_law, cL_law, 4, (some .boolean))
theorem lk_L_13 : LOK RL 13 mX8_sale := .inl (tbl_t (List.mem_of_getElem? (i := 284) (by decide +kernel)) rfl)
theorem vk_X8_sale : VOK mX8_sale := ⟨(tbl_t (List.mem_of_getElem? (i := 285) (by decide +kernel)) rfl), (tbl_t (List.mem_of_getElem? (i := 286) (by decide +kernel)) rfl)⟩
theorem lk_L_17 : LOK RL 17 mX9_sale := .inl (tbl_t (List.mem_of_getElem? (i := 951) (by decide +kernel)) rfl)
theorem vk_X9_sale : VOK mX9_sale := ⟨(tbl_t (List.mem_of_getElem? (i := 952) (by decide +kernel)) rfl), (tbl_t (List.mem_of_getElem? (i := 953) (by decide +kernel)) rfl)⟩
theorem lk_L_18 : LOK RL 18 mX8_saleIs := .inl (tbl_t (List.mem_of_getElem? (i := 315) (by decide +kernel)) rfl)
theorem vk_X8_saleIs : VOK mX8_saleIs := ⟨(tbl_t (List.mem_of_getElem? (i := 316) (by decide +kernel)) rfl), (tbl_t (List.mem_of_getElem? (i := 317) (by decide +kernel)) rfl)⟩
theorem lk_L_22 : LOK RL 22 mX9_saleIs := .inl (tbl_t (List.mem_of_getElem? (i := 982) (by decide +kernel)) rfl)
theorem vk_X9_saleIs : VOK mX9_saleIs := ⟨(tbl_t (List.mem_of_getElem? (i := 983) (by decide +kernel)) rfl), (tbl_t (List.mem_of_getElem? (i := 984) (by decide +kernel)) rfl)⟩
theorem lk_L_23 : LOK RL 23 mX8_undo := .inl (tbl_t (List.mem_of_getElem? (i := 319) (by decide +kernel)) rfl)
theorem vk_X8_undo : VOK mX8_undo := ⟨(tbl_t (List.mem_of_getElem? (i := 320) (by decide +kernel)) rfl), (tbl_t (List.mem_of_getElem? (i := 321) (by decide +kernel)) rfl)⟩
theorem lk_L_27 : LOK RL 27 mX9_undo := .inl (tbl_t (List.mem_of_getElem? (i := 986) (by decide +kernel)) rfl)
theorem vk_X9_undo : VOK mX9_undo := ⟨(tbl_t (List.mem_of_getElem? (i := 987) (by decide +kernel)) rfl), (tbl_t (List.mem_of_getElem? (i := 988) (by decide +kernel)) rfl)⟩
theorem lk_L_28 : LOK RL 28 mX8_name := .inl (tbl_t (List.mem_of_getElem? (i := 327) (by decide +kernel)) rfl)
theorem vk_X8_name : VOK mX8_name := ⟨(tbl_t (List.mem_of_getElem? (i := 328) (by decide +kernel)) rfl), (tbl_t (List.mem_of_getElem? (i := 329) (by decide +kernel)) rfl)⟩
theorem lk_L_31 : LOK RL 31 mX9_name := .inl (tbl_t (List.mem_of_getElem? (i := 990) (by decide +kernel)) rfl)
theorem vk_X9_name : VOK mX9_name := ⟨(tbl_t (List.mem_of_getElem? (i := 991) (by decide +kernel)) rfl), (tbl_t (List.mem_of_getElem? (i := 992) (by decide +kernel)) rfl)⟩
theorem lk_L_32 : LOK RL 32 mX8_date := .inl (tbl_t (List.mem_of_getElem? (i := 335) (by decide +kernel)) rfl)
theorem vk_X8_date : VOK mX8_date := ⟨(tbl_t (List.mem_of_getElem? (i := 336) (by decide +kernel)) rfl), (tbl_t (List.mem_of_getElem? (i := 337) (by decide +kernel)) rfl)⟩
theorem lk_L_35 : LOK RL 35 mX9_date := .inl (tbl_t (List.mem_of_getElem? (i := 998) (by decide +kernel)) rfl)
theorem vk_X9_date : VOK mX9_date := ⟨(tbl_t (List.mem_of_getElem? (i := 999) (by decide +kernel)) rfl), (tbl_t (List.mem_of_getElem? (i := 1000) (by decide +kernel)) rfl)⟩
theorem lk_L_36 : LOK RL 36 mX8_day := .inl (tbl_t (List.mem_of_getElem? (i := 345) (by decide +kernel)) rfl)
theorem vk_X8_day : VOK mX8_day := ⟨(tbl_t (List.mem_of_getElem? (i := 346) (by decide +kernel)) rfl), (tbl_t (List.mem_of_getElem? (i := 347) (by decide +kernel)) rfl)⟩
theorem lk_L_40 : LOK RL 40 mX9_day := .inl (tbl_t (List.mem_of_getElem? (i := 1010) (by decide +kernel)) rfl)
theorem vk_X9_day : VOK mX9_day := ⟨(tbl_t (List.mem_of_getElem? (i := 1011) (by decide +kernel)) rfl), (tbl_t (List.mem_of_getElem? (i := 1012) (by decide +kernel)) rfl)⟩
theorem lk_L_41 : LOK RL 41 mX8_pass := .inl (tbl_t (List.mem_of_getElem? (i := 362) (by decide +kernel)) rfl)
theorem vk_X8_pass : VOK mX8_pass := ⟨(tbl_t (List.mem_of_getElem? (i := 363) (by decide +kernel)) rfl), (tbl_t (List.mem_of_getElem? (i := 364) (by decide +kernel)) rfl)⟩
theorem lk_L_45 : LOK RL 45 mX9_pass := .inl (tbl_t (List.mem_of_getElem? (i := 1017) (by decide +kernel)) rfl)
theorem vk_X9_pass : VOK mX9_pass := ⟨(tbl_t (List.mem_of_getElem? (i := 1018) (by decide +kernel)) rfl), (tbl_t (List.mem_of_getElem? (i := 1019) (by decide +kernel)) rfl)⟩
theorem lk_L_46 : LOK RL 46 mX8_thing := .inl (tbl_t (List.mem_of_getElem? (i := 366) (by decide +kernel)) rfl)
theorem vk_X8_thing : VOK mX8_thing := ⟨(tbl_t (List.mem_of_getElem? (i := 367) (by decide +kernel)) rfl), (tbl_t (List.mem_of_getElem? (i := 368) (by decide +kernel)) rfl)⟩
theorem lk_L_49 : LOK RL 49 mX9_thing := .inl (tbl_t (List.mem_of_getElem? (i := 1078) (by decide +kernel)) rfl)
theorem vk_X9_thing : VOK mX9_thing := ⟨(tbl_t (List.mem_of_getElem? (i := 1079) (by decide +kernel)) rfl), (tbl_t (List.mem_of_getElem? (i := 1080) (by decide +kernel)) rfl)⟩
theorem lk_L_50 : LOK RL 50 mX8_thingIs := .inl (tbl_t (List.mem_of_getElem? (i := 374) (by decide +kernel)) rfl)
theorem vk_X8_thingIs : VOK mX8_thingIs := ⟨(tbl_t (List.mem_of_getElem? (i := 375) (by decide +kernel)) rfl), (tbl_t (List.mem_of_getElem? (i := 376) (by decide +kernel)) rfl)⟩
theorem lk_L_53 : LOK RL 53 mX9_thingIs := .inl (tbl_t (List.mem_of_getElem? (i := 1082) (by decide +kernel)) rfl)
theorem vk_X9_thingIs : VOK mX9_thingIs := ⟨(tbl_t (List.mem_of_getElem? (i := 1083) (by decide +kernel)) rfl), (tbl_t (List.mem_of_getElem? (i := 1084) (by decide +kernel)) rfl)⟩
theorem lk_L_54 : LOK RL 54 mX8_as := .inl (tbl_t (List.mem_of_getElem? (i := 431) (by decide +kernel)) rfl)
theorem vk_X8_as : VOK mX8_as := ⟨(tbl_t (List.mem_of_getElem? (i := 432) (by decide +kernel)) rfl), (tbl_t (List.mem_of_getElem? (i := 433) (by decide +kernel)) rfl)⟩
theorem lk_L_57 : LOK RL 57 mX9_as := .inl (tbl_t (List.mem_of_getElem? (i := 1132) (by decide +kernel)) rfl)
theorem vk_X9_as : VOK mX9_as := ⟨(tbl_t (List.mem_of_getElem? (i := 1133) (by decide +kernel)) rfl), (tbl_t (List.mem_of_getElem? (i := 1134) (by decide +kernel)) rfl)⟩
theorem lk_L_58 : LOK RL 58 mX8_set := .inl (tbl_t (List.mem_of_getElem? (i := 442) (by decide +kernel)) rfl)
theorem vk_X8_set : VOK mX8_set := ⟨(tbl_t (List.mem_of_getElem? (i := 443) (by decide +kernel)) rfl), (tbl_t (List.mem_of_getElem? (i := 444) (by decide +kernel)) rfl)⟩
theorem lk_L_61 : LOK RL 61 mX9_set := .inl (tbl_t (List.mem_of_getElem? (i := 1139) (by decide +kernel)) rfl)
theorem vk_X9_set : VOK mX9_set := ⟨(tbl_t (List.mem_of_getElem? (i := 1140) (by decide +kernel)) rfl), (tbl_t (List.mem_of_getElem? (i := 1141) (by decide +kernel)) rfl)⟩
theorem lk_L_62 : LOK RL 62 mX8_age := .inl (tbl_t (List.mem_of_getElem? (i := 453) (by decide +kernel)) rfl)
theorem vk_X8_age : VOK mX8_age := ⟨(tbl_t (List.mem_of_getElem? (i := 454) (by decide +kernel)) rfl), (tbl_t (List.mem_of_getElem? (i := 455) (by decide +kernel)) rfl)⟩
theorem lk_L_65 : LOK RL 65 mX9_age := .inl (tbl_t (List.mem_of_getElem? (i := 1143) (by decide +kernel)) rfl)
theorem vk_X9_age : VOK mX9_age := ⟨(tbl_t (List.mem_of_getElem? (i := 1144) (by decide +kernel)) rfl), (tbl_t (List.mem_of_getElem? (i := 1145) (by decide +kernel)) rfl)⟩
theorem lk_L_66 : LOK RL 66 mX8_comes := .inl (tbl_t (List.mem_of_getElem? (i := 458) (by decide +kernel)) rfl)
theorem vk_X8_comes : VOK mX8_comes := ⟨(tbl_t (List.mem_of_getElem? (i := 459) (by decide +kernel)) rfl), (tbl_t (List.mem_of_getElem? (i := 460) (by decide +kernel)) rfl)⟩
theorem lk_L_69 : LOK RL 69 mX9_comes := .inl (tbl_t (List.mem_of_getElem? (i := 1147) (by decide +kernel)) rfl)
theorem vk_X9_comes : VOK mX9_comes := ⟨(tbl_t (List.mem_of_getElem? (i := 1148) (by decide +kernel)) rfl), (tbl_t (List.mem_of_getElem? (i := 1149) (by decide +kernel)) rfl)⟩
theorem lk_L_70 : LOK RL 70 mX8_where := .inl (tbl_t (List.mem_of_getElem? (i := 469) (by decide +kernel)) rfl)
theorem vk_X8_where : VOK mX8_where := ⟨(tbl_t (List.mem_of_getElem? (i := 470) (by decide +kernel)) rfl), (tbl_t (List.mem_of_getElem? (i := 471) (by decide +kernel)) rfl)⟩
theorem lk_L_73 : LOK RL 73 mX9_where := .inl (tbl_t (List.mem_of_getElem? (i := 1155) (by decide +kernel)) rfl)
theorem vk_X9_where : VOK mX9_where := ⟨(tbl_t (List.mem_of_getElem? (i := 1156) (by decide +kernel)) rfl), (tbl_t (List.mem_of_getElem? (i := 1157) (by decide +kernel)) rfl)⟩
theorem lk_L_74 : LOK RL 74 mX8_twins := .inl (tbl_t (List.mem_of_getElem? (i := 473) (by decide +kernel)) rfl)
theorem vk_X8_twins : VOK mX8_twins := ⟨(tbl_t (List.mem_of_getElem? (i := 474) (by decide +kernel)) rfl), (tbl_t (List.mem_of_getElem? (i := 475) (by decide +kernel)) rfl)⟩
theorem lk_L_77 : LOK RL 77 mX9_twins := .inl (tbl_t (List.mem_of_getElem? (i := 1159) (by decide +kernel)) rfl)
theorem vk_X9_twins : VOK mX9_twins := ⟨(tbl_t (List.mem_of_getElem? (i := 1160) (by decide +kernel)) rfl), (tbl_t (List.mem_of_getElem? (i := 1161) (by decide +kernel)) rfl)⟩
theorem ck_L_78 : Cond.constantLong RL 78 4294967295 ∈ tblG := (tbl_t (List.mem_of_getElem? (i := 1341) (by decide +kernel)) rfl)
theorem lk_L_80 : LOK RL 80 mX8_feed := .inl (tbl_t (List.mem_of_getElem? (i := 483) (by decide +kernel)) rfl)
theorem vk_X8_feed : VOK mX8_feed := ⟨(tbl_t (List.mem_of_getElem? (i := 484) (by decide +kernel)) rfl), (tbl_t (List.mem_of_getElem? (i := 485) (by decide +kernel)) rfl)⟩
theorem lk_L_84 : LOK RL 84 mX9_feed := .inl (tbl_t (List.mem_of_getElem? (i := 1021) (by decide +kernel)) rfl)
theorem vk_X9_feed : VOK mX9_feed := ⟨(tbl_t (List.mem_of_getElem? (i := 1022) (by decide +kernel)) rfl), (tbl_t (List.mem_of_getElem? (i := 1023) (by decide +kernel)) rfl)⟩
theorem lk_L_85 : LOK RL 85 mX8_text := .inl (tbl_t (List.mem_of_getElem? (i := 487) (by decide +kernel)) rfl)
theorem vk_X8_text : VOK mX8_text := ⟨(tbl_t (List.mem_of_getElem? (i := 488) (by decide +kernel)) rfl), (tbl_t (List.mem_of_getElem? (i := 489) (by decide +kernel)) rfl)⟩
theorem lk_L_88 : LOK RL 88 mX9_text := .inl (tbl_t (List.mem_of_getElem? (i := 1026) (by decide +kernel)) rfl)
theorem vk_X9_text : VOK mX9_text := ⟨(tbl_t (List.mem_of_getElem? (i := 1027) (by decide +kernel)) rfl), (tbl_t (List.mem_of_getElem? (i := 1028) (by decide +kernel)) rfl)⟩
theorem lk_L_89 : LOK RL 89 mX8_untell := .inl (tbl_t (List.mem_of_getElem? (i := 624) (by decide +kernel)) rfl)
theorem vk_X8_untell : VOK mX8_untell := ⟨(tbl_t (List.mem_of_getElem? (i := 625) (by decide +kernel)) rfl), (tbl_t (List.mem_of_getElem? (i := 626) (by decide +kernel)) rfl)⟩
theorem lk_L_92 : LOK RL 92 mX9_untell := .inl (tbl_t (List.mem_of_getElem? (i := 1070) (by decide +kernel)) rfl)
theorem vk_X9_untell : VOK mX9_untell := ⟨(tbl_t (List.mem_of_getElem? (i := 1071) (by decide +kernel)) rfl), (tbl_t (List.mem_of_getElem? (i := 1072) (by decide +kernel)) rfl)⟩
theorem lk_L_93 : LOK RL 93 mX8_paper := .inl (tbl_t (List.mem_of_getElem? (i := 628) (by decide +kernel)) rfl)
theorem vk_X8_paper : VOK mX8_paper := ⟨(tbl_t (List.mem_of_getElem? (i := 629) (by decide +kernel)) rfl), (tbl_t (List.mem_of_getElem? (i := 630) (by decide +kernel)) rfl)⟩
theorem lk_L_96 : LOK RL 96 mX9_paper := .inl (tbl_t (List.mem_of_getElem? (i := 1167) (by decide +kernel)) rfl)
theorem vk_X9_paper : VOK mX9_paper := ⟨(tbl_t (List.mem_of_getElem? (i := 1168) (by decide +kernel)) rfl), (tbl_t (List.mem_of_getElem? (i := 1169) (by decide +kernel)) rfl)⟩
theorem lk_L_97 : LOK RL 97 mX8_paperIs := .inl (tbl_t (List.mem_of_getElem? (i := 640) (by decide +kernel)) rfl)
theorem vk_X8_paperIs : VOK mX8_paperIs := ⟨(tbl_t (List.mem_of_getElem? (i := 641) (by decide +kernel)) rfl), (tbl_t (List.mem_of_getElem? (i := 642) (by decide +kernel)) rfl)⟩
theorem lk_L_100 : LOK RL 100 mX9_paperIs := .inl (tbl_t (List.mem_of_getElem? (i := 1175) (by decide +kernel)) rfl)
theorem vk_X9_paperIs : VOK mX9_paperIs := ⟨(tbl_t (List.mem_of_getElem? (i := 1176) (by decide +kernel)) rfl), (tbl_t (List.mem_of_getElem? (i := 1177) (by decide +kernel)) rfl)⟩
theorem lk_L_101 : LOK RL 101 mX8_burn := .inl (tbl_t (List.mem_of_getElem? (i := 658) (by decide +kernel)) rfl)
theorem vk_X8_burn : VOK mX8_burn := ⟨(tbl_t (List.mem_of_getElem? (i := 659) (by decide +kernel)) rfl), (tbl_t (List.mem_of_getElem? (i := 660) (by decide +kernel)) rfl)⟩
theorem lk_L_104 : LOK RL 104 mX9_burn := .inl (tbl_t (List.mem_of_getElem? (i := 1187) (by decide +kernel)) rfl)
theorem vk_X9_burn : VOK mX9_burn := ⟨(tbl_t (List.mem_of_getElem? (i := 1188) (by decide +kernel)) rfl), (tbl_t (List.mem_of_getElem? (i := 1189) (by decide +kernel)) rfl)⟩
theorem lk_L_105 : LOK RL 105 mX8_may := .inl (tbl_t (List.mem_of_getElem? (i := 662) (by decide +kernel)) rfl)
theorem vk_X8_may : VOK mX8_may := ⟨(tbl_t (List.mem_of_getElem? (i := 663) (by decide +kernel)) rfl), (tbl_t (List.mem_of_getElem? (i := 664) (by decide +kernel)) rfl)⟩
theorem lk_L_108 : LOK RL 108 mX9_may := .inl (tbl_t (List.mem_of_getElem? (i := 1191) (by decide +kernel)) rfl)
theorem vk_X9_may : VOK mX9_may := ⟨(tbl_t (List.mem_of_getElem? (i := 1192) (by decide +kernel)) rfl), (tbl_t (List.mem_of_getElem? (i := 1193) (by decide +kernel)) rfl)⟩
theorem lk_L_109 : LOK RL 109 mX8_rows := .inl (tbl_t (List.mem_of_getElem? (i := 666) (by decide +kernel)) rfl)
theorem vk_X8_rows : VOK mX8_rows := ⟨(tbl_t (List.mem_of_getElem? (i := 667) (by decide +kernel)) rfl), (tbl_t (List.mem_of_getElem? (i := 668) (by decide +kernel)) rfl)⟩
theorem lk_L_113 : LOK RL 113 mX9_rows := .inl (tbl_t (List.mem_of_getElem? (i := 1195) (by decide +kernel)) rfl)
theorem vk_X9_rows : VOK mX9_rows := ⟨(tbl_t (List.mem_of_getElem? (i := 1196) (by decide +kernel)) rfl), (tbl_t (List.mem_of_getElem? (i := 1197) (by decide +kernel)) rfl)⟩
theorem lk_L_114 : LOK RL 114 mX8_span := .inl (tbl_t (List.mem_of_getElem? (i := 681) (by decide +kernel)) rfl)
theorem vk_X8_span : VOK mX8_span := ⟨(tbl_t (List.mem_of_getElem? (i := 682) (by decide +kernel)) rfl), (tbl_t (List.mem_of_getElem? (i := 683) (by decide +kernel)) rfl)⟩
theorem lk_L_117 : LOK RL 117 mX9_span := .inl (tbl_t (List.mem_of_getElem? (i := 1203) (by decide +kernel)) rfl)
theorem vk_X9_span : VOK mX9_span := ⟨(tbl_t (List.mem_of_getElem? (i := 1204) (by decide +kernel)) rfl), (tbl_t (List.mem_of_getElem? (i := 1205) (by decide +kernel)) rfl)⟩
theorem lk_L_118 : LOK RL 118 mX8_clerk := .inl (tbl_t (List.mem_of_getElem? (i := 693) (by decide +kernel)) rfl)
theorem vk_X8_clerk : VOK mX8_clerk := ⟨(tbl_t (List.mem_of_getElem? (i := 694) (by decide +kernel)) rfl), (tbl_t (List.mem_of_getElem? (i := 695) (by decide +kernel)) rfl)⟩
theorem lk_L_121 : LOK RL 121 mX9_clerk := .inl (tbl_t (List.mem_of_getElem? (i := 1207) (by decide +kernel)) rfl)
theorem vk_X9_clerk : VOK mX9_clerk := ⟨(tbl_t (List.mem_of_getElem? (i := 1208) (by decide +kernel)) rfl), (tbl_t (List.mem_of_getElem? (i := 1209) (by decide +kernel)) rfl)⟩
theorem lk_L_122 : LOK RL 122 mX8_seed := .inl (tbl_t (List.mem_of_getElem? (i := 703) (by decide +kernel)) rfl)
theorem vk_X8_seed : VOK mX8_seed := ⟨(tbl_t (List.mem_of_getElem? (i := 704) (by decide +kernel)) rfl), (tbl_t (List.mem_of_getElem? (i := 705) (by decide +kernel)) rfl)⟩
theorem lk_L_125 : LOK RL 125 mX9_seed := .inl (tbl_t (List.mem_of_getElem? (i := 1216) (by decide +kernel)) rfl)
theorem vk_X9_seed : VOK mX9_seed := ⟨(tbl_t (List.mem_of_getElem? (i := 1217) (by decide +kernel)) rfl), (tbl_t (List.mem_of_getElem? (i := 1218) (by decide +kernel)) rfl)⟩
theorem lk_L_126 : LOK RL 126 mX8_comet := .inl (tbl_t (List.mem_of_getElem? (i := 707) (by decide +kernel)) rfl)
theorem vk_X8_comet : VOK mX8_comet := ⟨(tbl_t (List.mem_of_getElem? (i := 708) (by decide +kernel)) rfl), (tbl_t (List.mem_of_getElem? (i := 709) (by decide +kernel)) rfl)⟩
theorem lk_L_129 : LOK RL 129 mX9_comet := .inl (tbl_t (List.mem_of_getElem? (i := 1220) (by decide +kernel)) rfl)
theorem vk_X9_comet : VOK mX9_comet := ⟨(tbl_t (List.mem_of_getElem? (i := 1221) (by decide +kernel)) rfl), (tbl_t (List.mem_of_getElem? (i := 1222) (by decide +kernel)) rfl)⟩
theorem lk_L_130 : LOK RL 130 mX8_claim := .inl (tbl_t (List.mem_of_getElem? (i := 712) (by decide +kernel)) rfl)
theorem vk_X8_claim : VOK mX8_claim := ⟨(tbl_t (List.mem_of_getElem? (i := 713) (by decide +kernel)) rfl), (tbl_t (List.mem_of_getElem? (i := 714) (by decide +kernel)) rfl)⟩
theorem lk_L_133 : LOK RL 133 mX9_claim := .inl (tbl_t (List.mem_of_getElem? (i := 1224) (by decide +kernel)) rfl)
theorem vk_X9_claim : VOK mX9_claim := ⟨(tbl_t (List.mem_of_getElem? (i := 1225) (by decide +kernel)) rfl), (tbl_t (List.mem_of_getElem? (i := 1226) (by decide +kernel)) rfl)⟩
theorem lk_L_134 : LOK RL 134 mX8_breaks := .inl (tbl_t (List.mem_of_getElem? (i := 720) (by decide +kernel)) rfl)
theorem vk_X8_breaks : VOK mX8_breaks := ⟨(tbl_t (List.mem_of_getElem? (i := 721) (by decide +kernel)) rfl), (tbl_t (List.mem_of_getElem? (i := 722) (by decide +kernel)) rfl)⟩
theorem lk_L_137 : LOK RL 137 mX9_breaks := .inl (tbl_t (List.mem_of_getElem? (i := 1228) (by decide +kernel)) rfl)
theorem vk_X9_breaks : VOK mX9_breaks := ⟨(tbl_t (List.mem_of_getElem? (i := 1229) (by decide +kernel)) rfl), (tbl_t (List.mem_of_getElem? (i := 1230) (by decide +kernel)) rfl)⟩
theorem lk_L_138 : LOK RL 138 mX8_least := .inl (tbl_t (List.mem_of_getElem? (i := 730) (by decide +kernel)) rfl)
theorem vk_X8_least : VOK mX8_least := ⟨(tbl_t (List.mem_of_getElem? (i := 731) (by decide +kernel)) rfl), (tbl_t (List.mem_of_getElem? (i := 732) (by decide +kernel)) rfl)⟩
theorem lk_L_141 : LOK RL 141 mX9_least := .inl (tbl_t (List.mem_of_getElem? (i := 1236) (by decide +kernel)) rfl)
theorem vk_X9_least : VOK mX9_least := ⟨(tbl_t (List.mem_of_getElem? (i := 1237) (by decide +kernel)) rfl), (tbl_t (List.mem_of_getElem? (i := 1238) (by decide +kernel)) rfl)⟩
theorem lk_L_142 : LOK RL 142 mX8_voice := .inl (tbl_t (List.mem_of_getElem? (i := 734) (by decide +kernel)) rfl)
theorem vk_X8_voice : VOK mX8_voice := ⟨(tbl_t (List.mem_of_getElem? (i := 735) (by decide +kernel)) rfl), (tbl_t (List.mem_of_getElem? (i := 736) (by decide +kernel)) rfl)⟩
theorem lk_L_145 : LOK RL 145 mX9_voice := .inl (tbl_t (List.mem_of_getElem? (i := 1240) (by decide +kernel)) rfl)
theorem vk_X9_voice : VOK mX9_voice := ⟨(tbl_t (List.mem_of_getElem? (i := 1241) (by decide +kernel)) rfl), (tbl_t (List.mem_of_getElem? (i := 1242) (by decide +kernel)) rfl)⟩
theorem lk_L_146 : LOK RL 146 mX8_body := .inl (tbl_t (List.mem_of_getElem? (i := 767) (by decide +kernel)) rfl)
theorem vk_X8_body : VOK mX8_body := ⟨(tbl_t (List.mem_of_getElem? (i := 768) (by decide +kernel)) rfl), (tbl_t (List.mem_of_getElem? (i := 769) (by decide +kernel)) rfl)⟩
theorem lk_L_149 : LOK RL 149 mX9_body := .inl (tbl_t (List.mem_of_getElem? (i := 1275) (by decide +kernel)) rfl)
theorem vk_X9_body : VOK mX9_body := ⟨(tbl_t (List.mem_of_getElem? (i := 1276) (by decide +kernel)) rfl), (tbl_t (List.mem_of_getElem? (i := 1277) (by decide +kernel)) rfl)⟩
theorem lk_L_150 : LOK RL 150 mX8_sheet := .inl (tbl_t (List.mem_of_getElem? (i := 771) (by decide +kernel)) rfl)
theorem vk_X8_sheet : VOK mX8_sheet := ⟨(tbl_t (List.mem_of_getElem? (i := 772) (by decide +kernel)) rfl), (tbl_t (List.mem_of_getElem? (i := 773) (by decide +kernel)) rfl)⟩
theorem lk_L_153 : LOK RL 153 mX9_sheet := .inl (tbl_t (List.mem_of_getElem? (i := 1279) (by decide +kernel)) rfl)
theorem vk_X9_sheet : VOK mX9_sheet := ⟨(tbl_t (List.mem_of_getElem? (i := 1280) (by decide +kernel)) rfl), (tbl_t (List.mem_of_getElem? (i := 1281) (by decide +kernel)) rfl)⟩
theorem lk_L_154 : LOK RL 154 mX8_put := .inl (tbl_t (List.mem_of_getElem? (i := 785) (by decide +kernel)) rfl)
theorem vk_X8_put : VOK mX8_put := ⟨(tbl_t (List.mem_of_getElem? (i := 786) (by decide +kernel)) rfl), (tbl_t (List.mem_of_getElem? (i := 787) (by decide +kernel)) rfl)⟩
theorem lk_L_157 : LOK RL 157 mX9_put := .inl (tbl_t (List.mem_of_getElem? (i := 1286) (by decide +kernel)) rfl)
theorem vk_X9_put : VOK mX9_put := ⟨(tbl_t (List.mem_of_getElem? (i := 1287) (by decide +kernel)) rfl), (tbl_t (List.mem_of_getElem? (i := 1288) (by decide +kernel)) rfl)⟩
theorem lk_L_158 : LOK RL 158 mX8_move := .inl (tbl_t (List.mem_of_getElem? (i := 794) (by decide +kernel)) rfl)
theorem vk_X8_move : VOK mX8_move := ⟨(tbl_t (List.mem_of_getElem? (i := 795) (by decide +kernel)) rfl), (tbl_t (List.mem_of_getElem? (i := 796) (by decide +kernel)) rfl)⟩
theorem lk_L_162 : LOK RL 162 mX9_move := .inl (tbl_t (List.mem_of_getElem? (i := 1290) (by decide +kernel)) rfl)
theorem vk_X9_move : VOK mX9_move := ⟨(tbl_t (List.mem_of_getElem? (i := 1291) (by decide +kernel)) rfl), (tbl_t (List.mem_of_getElem? (i := 1292) (by decide +kernel)) rfl)⟩
theorem lk_L_163 : LOK RL 163 mX8_papers := .inl (tbl_t (List.mem_of_getElem? (i := 803) (by decide +kernel)) rfl)
theorem vk_X8_papers : VOK mX8_papers := ⟨(tbl_t (List.mem_of_getElem? (i := 804) (by decide +kernel)) rfl), (tbl_t (List.mem_of_getElem? (i := 805) (by decide +kernel)) rfl)⟩
theorem lk_L_166 : LOK RL 166 mX9_papers := .inl (tbl_t (List.mem_of_getElem? (i := 1294) (by decide +kernel)) rfl)
theorem vk_X9_papers : VOK mX9_papers := ⟨(tbl_t (List.mem_of_getElem? (i := 1295) (by decide +kernel)) rfl), (tbl_t (List.mem_of_getElem? (i := 1296) (by decide +kernel)) rfl)⟩
theorem lk_L_167 : LOK RL 167 mX8_judge := .inl (tbl_t (List.mem_of_getElem? (i := 807) (by decide +kernel)) rfl)
theorem vk_X8_judge : VOK mX8_judge := ⟨(tbl_t (List.mem_of_getElem? (i := 808) (by decide +kernel)) rfl), (tbl_t (List.mem_of_getElem? (i := 809) (by decide +kernel)) rfl)⟩
theorem lk_L_170 : LOK RL 170 mX9_judge := .inl (tbl_t (List.mem_of_getElem? (i := 1302) (by decide +kernel)) rfl)
theorem vk_X9_judge : VOK mX9_judge := ⟨(tbl_t (List.mem_of_getElem? (i := 1303) (by decide +kernel)) rfl), (tbl_t (List.mem_of_getElem? (i := 1304) (by decide +kernel)) rfl)⟩
theorem lk_L_171 : LOK RL 171 mX8_image := .inl (tbl_t (List.mem_of_getElem? (i := 811) (by decide +kernel)) rfl)
theorem vk_X8_image : VOK mX8_image := ⟨(tbl_t (List.mem_of_getElem? (i := 812) (by decide +kernel)) rfl), (tbl_t (List.mem_of_getElem? (i := 813) (by decide +kernel)) rfl)⟩
theorem lk_L_174 : LOK RL 174 mX9_image := .inl (tbl_t (List.mem_of_getElem? (i := 1306) (by decide +kernel)) rfl)
theorem vk_X9_image : VOK mX9_image := ⟨(tbl_t (List.mem_of_getElem? (i := 1307) (by decide +kernel)) rfl), (tbl_t (List.mem_of_getElem? (i := 1308) (by decide +kernel)) rfl)⟩
theorem lk_L_175 : LOK RL 175 mX8_restore := .inl (tbl_t (List.mem_of_getElem? (i := 839) (by decide +kernel)) rfl)
theorem vk_X8_restore : VOK mX8_restore := ⟨(tbl_t (List.mem_of_getElem? (i := 840) (by decide +kernel)) rfl), (tbl_t (List.mem_of_getElem? (i := 841) (by decide +kernel)) rfl)⟩
theorem lk_L_178 : LOK RL 178 mX9_restore := .inl (tbl_t (List.mem_of_getElem? (i := 1313) (by decide +kernel)) rfl)
theorem vk_X9_restore : VOK mX9_restore := ⟨(tbl_t (List.mem_of_getElem? (i := 1314) (by decide +kernel)) rfl), (tbl_t (List.mem_of_getElem? (i := 1315) (by decide +kernel)) rfl)⟩
theorem lk_L_179 : LOK RL 179 mX8_tell := .inl (tbl_t (List.mem_of_getElem? (i := 843) (by decide +kernel)) rfl)
theorem vk_X8_tell : VOK mX8_tell := ⟨(tbl_t (List.mem_of_getElem? (i := 844) (by decide +kernel)) rfl), (tbl_t (List.mem_of_getElem? (i := 845) (by decide +kernel)) rfl)⟩
theorem lk_L_182 : LOK RL 182 mX9_tell := .inl (tbl_t (List.mem_of_getElem? (i := 1317) (by decide +kernel)) rfl)
theorem vk_X9_tell : VOK mX9_tell := ⟨(tbl_t (List.mem_of_getElem? (i := 1318) (by decide +kernel)) rfl), (tbl_t (List.mem_of_getElem? (i := 1319) (by decide +kernel)) rfl)⟩
theorem lk_L_183 : LOK RL 183 mX8_check := .inl (tbl_t (List.mem_of_getElem? (i := 847) (by decide +kernel)) rfl)
theorem vk_X8_check : VOK mX8_check := ⟨(tbl_t (List.mem_of_getElem? (i := 848) (by decide +kernel)) rfl), (tbl_t (List.mem_of_getElem? (i := 849) (by decide +kernel)) rfl)⟩
theorem lk_L_186 : LOK RL 186 mX9_check := .inl (tbl_t (List.mem_of_getElem? (i := 1321) (by decide +kernel)) rfl)
theorem vk_X9_check : VOK mX9_check := ⟨(tbl_t (List.mem_of_getElem? (i := 1322) (by decide +kernel)) rfl), (tbl_t (List.mem_of_getElem? (i := 1323) (by decide +kernel)) rfl)⟩
theorem lk_L_187 : LOK RL 187 mX8_count := .inl (tbl_t (List.mem_of_getElem? (i := 856) (by decide +kernel)) rfl)
theorem vk_X8_count : VOK mX8_count := ⟨(tbl_t (List.mem_of_getElem? (i := 857) (by decide +kernel)) rfl), (tbl_t (List.mem_of_getElem? (i := 858) (by decide +kernel)) rfl)⟩
theorem lk_L_190 : LOK RL 190 mX9_count := .inl (tbl_t (List.mem_of_getElem? (i := 1329) (by decide +kernel)) rfl)
theorem vk_X9_count : VOK mX9_count := ⟨(tbl_t (List.mem_of_getElem? (i := 1330) (by decide +kernel)) rfl), (tbl_t (List.mem_of_getElem? (i := 1331) (by decide +kernel)) rfl)⟩
theorem lk_L_191 : LOK RL 191 mX8_told := .inl (tbl_t (List.mem_of_getElem? (i := 865) (by decide +kernel)) rfl)
theorem vk_X8_told : VOK mX8_told := ⟨(tbl_t (List.mem_of_getElem? (i := 866) (by decide +kernel)) rfl), (tbl_t (List.mem_of_getElem? (i := 867) (by decide +kernel)) rfl)⟩
theorem lk_L_194 : LOK RL 194 mX9_told := .inl (tbl_t (List.mem_of_getElem? (i := 1337) (by decide +kernel)) rfl)
theorem vk_X9_told : VOK mX9_told := ⟨(tbl_t (List.mem_of_getElem? (i := 1338) (by decide +kernel)) rfl), (tbl_t (List.mem_of_getElem? (i := 1339) (by decide +kernel)) rfl)⟩
set_option maxRecDepth 100000 in
set_option maxHeartbeats 4000000 in
theorem wp_L_law_L18 (xs : gX) (d : Nat) (v3 : Int32) (M : Mem) (Q : Int32 → Mem → Prop) (h : (if ((Int32.ofNat xs.1) - 6) < v3 then Q 1 M else (vp_in v3 xs.1 ∧ (if ((xs.2 v3.toNatClampNeg) &&& 63) = 0 then (vp_in (v3 + 1) xs.1 ∧ (vp_in (v3 + 2) xs.1 ∧ (vp_in (v3 + 3) xs.1 ∧ MI xs (d + 7) mX8_sale [.ref 0, .int (xs.2 ((v3 + 1)).toNatClampNeg), .int (xs.2 ((v3 + 2)).toNatClampNeg), .int (xs.2 ((v3 + 3)).toNatClampNeg)] M (fun r7 M8 => (vp_in (v3 + 1) xs.1 ∧ (vp_in (v3 + 2) xs.1 ∧ (vp_in (v3 + 3) xs.1 ∧ MI xs (d + 7) mX9_sale [.ref 64, .int (xs.2 ((v3 + 1)).toNatClampNeg), .int (xs.2 ((v3 + 2)).toNatClampNeg), .int (xs.2 ((v3 + 3)).toNatClampNeg)] M8 (fun r12 M13 => (if r7 = r12 then GW xs (d + 8) mL_law 18 [(0, .ref 3000), (1, .ref 0), (2, .ref 64), (3, .int (v3 + 6))] [] M13 (QI Q) else Q 0 M13))))))))) else (if ((xs.2 v3.toNatClampNeg) &&& 63) = 1 then (vp_in (v3 + 1) xs.1 ∧ (vp_in (v3 + 2) xs.1 ∧ MI xs (d + 7) mX8_saleIs [.ref 0, .int (xs.2 ((v3 + 1)).toNatClampNeg), .int (xs.2 ((v3 + 2)).toNatClampNeg)] M (fun r18 M19 => (vp_in (v3 + 1) xs.1 ∧ (vp_in (v3 + 2) xs.1 ∧ MI xs (d + 7) mX9_saleIs [.ref 64, .int (xs.2 ((v3 + 1)).toNatClampNeg), .int (xs.2 ((v3 + 2)).toNatClampNeg)] M19 (fun r22 M23 => (if r18 = r22 then GW xs (d + 8) mL_law 18 [(0, .ref 3000), (1, .ref 0), (2, .ref 64), (3, .int (v3 + 6))] [] M23 (QI Q) else Q 0 M23))))))) else (if ((xs.2 v3.toNatClampNeg) &&& 63) = 2 then MI xs (d + 7) mX8_undo [.ref 0] M (fun r26 M27 => MI xs (d + 7) mX9_undo [.ref 64] M27 (fun r28 M29 => (if r26 = r28 then GW xs (d + 8) mL_law 18 [(0, .ref 3000), (1, .ref 0), (2, .ref 64), (3, .int (v3 + 6))] [] M29 (QI Q) else Q 0 M29))) else (if ((xs.2 v3.toNatClampNeg) &&& 63) = 3 then (vp_in (v3 + 1) xs.1 ∧ (vp_in (v3 + 2) xs.1 ∧ MI xs (d + 7) mX8_name [.ref 0, .int (xs.2 ((v3 + 1)).toNatClampNeg), .int (xs.2 ((v3 + 2)).toNatClampNeg)] M (fun r34 M35 => (vp_in (v3 + 1) xs.1 ∧ (vp_in (v3 + 2) xs.1 ∧ MI xs (d + 7) mX9_name [.ref 64, .int (xs.2 ((v3 + 1)).toNatClampNeg), .int (xs.2 ((v3 + 2)).toNatClampNeg)] M35 (fun r38 M39 => (if r34 = r38 then GW xs (d + 8) mL_law 18 [(0, .ref 3000), (1, .ref 0), (2, .ref 64), (3, .int (v3 + 6))] [] M39 (QI Q) else Q 0 M39))))))) else (if ((xs.2 v3.toNatClampNeg) &&& 63) = 4 then (vp_in (v3 + 1) xs.1 ∧ (vp_in (v3 + 2) xs.1 ∧ MI xs (d + 7) mX8_date [.ref 0, .int (xs.2 ((v3 + 1)).toNatClampNeg), .int (xs.2 ((v3 + 2)).toNatClampNeg)] M (fun r44 M45 => (vp_in (v3 + 1) xs.1 ∧ (vp_in (v3 + 2) xs.1 ∧ MI xs (d + 7) mX9_date [.ref 64, .int (xs.2 ((v3 + 1)).toNatClampNeg), .int (xs.2 ((v3 + 2)).toNatClampNeg)] M45 (fun r48 M49 => (if r44 = r48 then GW xs (d + 8) mL_law 18 [(0, .ref 3000), (1, .ref 0), (2, .ref 64), (3, .int (v3 + 6))] [] M49 (QI Q) else Q 0 M49))))))) else (if ((xs.2 v3.toNatClampNeg) &&& 63) = 5 then (vp_in (v3 + 1) xs.1 ∧ (vp_in (v3 + 2) xs.1 ∧ (vp_in (v3 + 3) xs.1 ∧ (vp_in (v3 + 4) xs.1 ∧ MI xs (d + 7) mX8_day [.ref 0, .int (xs.2 ((v3 + 1)).toNatClampNeg), .int (xs.2 ((v3 + 2)).toNatClampNeg), .int (xs.2 ((v3 + 3)).toNatClampNeg), .int (xs.2 ((v3 + 4)).toNatClampNeg)] M (fun r56 M57 => (vp_in (v3 + 1) xs.1 ∧ (vp_in (v3 + 2) xs.1 ∧ (vp_in (v3 + 3) xs.1 ∧ (vp_in (v3 + 4) xs.1 ∧ MI xs (d + 7) mX9_day [.ref 64, .int (xs.2 ((v3 + 1)).toNatClampNeg), .int (xs.2 ((v3 + 2)).toNatClampNeg), .int (xs.2 ((v3 + 3)).toNatClampNeg), .int (xs.2 ((v3 + 4)).toNatClampNeg)] M57 (fun r62 M63 => (if r56 = r62 then GW xs (d + 8) mL_law 18 [(0, .ref 3000), (1, .ref 0), (2, .ref 64), (3, .int (v3 + 6))] [] M63 (QI Q) else Q 0 M63))))))))))) else (if ((xs.2 v3.toNatClampNeg) &&& 63) = 6 then (vp_in (v3 + 1) xs.1 ∧ MI xs (d + 7) mX8_pass [.ref 0, .int (xs.2 ((v3 + 1)).toNatClampNeg)] M (fun r67 M68 => (vp_in (v3 + 1) xs.1 ∧ MI xs (d + 7) mX9_pass [.ref 64, .int (xs.2 ((v3 + 1)).toNatClampNeg)] M68 (fun r70 M71 => (if r67 = r70 then GW xs (d + 8) mL_law 18 [(0, .ref 3000), (1, .ref 0), (2, .ref 64), (3, .int (v3 + 6))] [] M71 (QI Q) else Q 0 M71))))) else (if ((xs.2 v3.toNatClampNeg) &&& 63) = 7 then (vp_in (v3 + 1) xs.1 ∧ (vp_in (v3 + 2) xs.1 ∧ (vp_in (v3 + 3) xs.1 ∧ MI xs (d + 7) mX8_thing [.ref 0, .int (xs.2 ((v3 + 1)).toNatClampNeg), .int (xs.2 ((v3 + 2)).toNatClampNeg), .int (xs.2 ((v3 + 3)).toNatClampNeg)] M (fun r77 M78 => (vp_in (v3 + 1) xs.1 ∧ (vp_in (v3 + 2) xs.1 ∧ (vp_in (v3 + 3) xs.1 ∧ MI xs (d + 7) mX9_thing [.ref 64, .int (xs.2 ((v3 + 1)).toNatClampNeg), .int (xs.2 ((v3 + 2)).toNatClampNeg), .int (xs.2 ((v3 + 3)).toNatClampNeg)] M78 (fun r82 M83 => (if r77 = r82 then GW xs (d + 8) mL_law 18 [(0, .ref 3000), (1, .ref 0), (2, .ref 64), (3, .int (v3 + 6))] [] M83 (QI Q) else Q 0 M83))))))))) else (if ((xs.2 v3.toNatClampNeg) &&& 63) = 8 then (vp_in (v3 + 1) xs.1 ∧ (vp_in (v3 + 2) xs.1 ∧ MI xs (d + 7) mX8_thingIs [.ref 0, .int (xs.2 ((v3 + 1)).toNatClampNeg), .int (xs.2 ((v3 + 2)).toNatClampNeg)] M (fun r88 M89 => (vp_in (v3 + 1) xs.1 ∧ (vp_in (v3 + 2) xs.1 ∧ MI xs (d + 7) mX9_thingIs [.ref 64, .int (xs.2 ((v3 + 1)).toNatClampNeg), .int (xs.2 ((v3 + 2)).toNatClampNeg)] M89 (fun r92 M93 => (if r88 = r92 then GW xs (d + 8) mL_law 18 [(0, .ref 3000), (1, .ref 0), (2, .ref 64), (3, .int (v3 + 6))] [] M93 (QI Q) else Q 0 M93))))))) else (if ((xs.2 v3.toNatClampNeg) &&& 63) = 9 then (vp_in (v3 + 1) xs.1 ∧ (vp_in (v3 + 2) xs.1 ∧ MI xs (d + 7) mX8_as [.ref 0, .int (xs.2 ((v3 + 1)).toNatClampNeg), .int (xs.2 ((v3 + 2)).toNatClampNeg)] M (fun r98 M99 => (vp_in (v3 + 1) xs.1 ∧ (vp_in (v3 + 2) xs.1 ∧ MI xs (d + 7) mX9_as [.ref 64, .int (xs.2 ((v3 + 1)).toNatClampNeg), .int (xs.2 ((v3 + 2)).toNatClampNeg)] M99 (fun r102 M103 => (if r98 = r102 then GW xs (d + 8) mL_law 18 [(0, .ref 3000), (1, .ref 0), (2, .ref 64), (3, .int (v3 + 6))] [] M103 (QI Q) else Q 0 M103))))))) else (if ((xs.2 v3.toNatClampNeg) &&& 63) = 10 then (vp_in (v3 + 1) xs.1 ∧ (vp_in (v3 + 2) xs.1 ∧ (vp_in (v3 + 3) xs.1 ∧ MI xs (d + 7) mX8_set [.ref 0, .int (xs.2 ((v3 + 1)).toNatClampNeg), .int (xs.2 ((v3 + 2)).toNatClampNeg), .int (xs.2 ((v3 + 3)).toNatClampNeg)] M (fun r109 M110 => (vp_in (v3 + 1) xs.1 ∧ (vp_in (v3 + 2) xs.1 ∧ (vp_in (v3 + 3) xs.1 ∧ MI xs (d + 7) mX9_set [.ref 64, .int (xs.2 ((v3 + 1)).toNatClampNeg), .int (xs.2 ((v3 + 2)).toNatClampNeg), .int (xs.2 ((v3 + 3)).toNatClampNeg)] M110 (fun r114 M115 => (if r109 = r114 then GW xs (d + 8) mL_law 18 [(0, .ref 3000), (1, .ref 0), (2, .ref 64), (3, .int (v3 + 6))] [] M115 (QI Q) else Q 0 M115))))))))) else (if ((xs.2 v3.toNatClampNeg) &&& 63) = 11 then (vp_in (v3 + 1) xs.1 ∧ (vp_in (v3 + 2) xs.1 ∧ (vp_in (v3 + 3) xs.1 ∧ MI xs (d + 7) mX8_age [.ref 0, .int (xs.2 ((v3 + 1)).toNatClampNeg), .int (xs.2 ((v3 + 2)).toNatClampNeg), .int (xs.2 ((v3 + 3)).toNatClampNeg)] M (fun r121 M122 => (vp_in (v3 + 1) xs.1 ∧ (vp_in (v3 + 2) xs.1 ∧ (vp_in (v3 + 3) xs.1 ∧ MI xs (d + 7) mX9_age [.ref 64, .int (xs.2 ((v3 + 1)).toNatClampNeg), .int (xs.2 ((v3 + 2)).toNatClampNeg), .int (xs.2 ((v3 + 3)).toNatClampNeg)] M122 (fun r126 M127 => (if r121 = r126 then GW xs (d + 8) mL_law 18 [(0, .ref 3000), (1, .ref 0), (2, .ref 64), (3, .int (v3 + 6))] [] M127 (QI Q) else Q 0 M127))))))))) else (if ((xs.2 v3.toNatClampNeg) &&& 63) = 12 then (vp_in (v3 + 1) xs.1 ∧ (vp_in (v3 + 2) xs.1 ∧ (vp_in (v3 + 3) xs.1 ∧ MI xs (d + 7) mX8_comes [.ref 0, .int (xs.2 ((v3 + 1)).toNatClampNeg), .int (xs.2 ((v3 + 2)).toNatClampNeg), .int (xs.2 ((v3 + 3)).toNatClampNeg)] M (fun r133 M134 => (vp_in (v3 + 1) xs.1 ∧ (vp_in (v3 + 2) xs.1 ∧ (vp_in (v3 + 3) xs.1 ∧ MI xs (d + 7) mX9_comes [.ref 64, .int (xs.2 ((v3 + 1)).toNatClampNeg), .int (xs.2 ((v3 + 2)).toNatClampNeg), .int (xs.2 ((v3 + 3)).toNatClampNeg)] M134 (fun r138 M139 => (if r133 = r138 then GW xs (d + 8) mL_law 18 [(0, .ref 3000), (1, .ref 0), (2, .ref 64), (3, .int (v3 + 6))] [] M139 (QI Q) else Q 0 M139))))))))) else (if ((xs.2 v3.toNatClampNeg) &&& 63) = 13 then (vp_in (v3 + 1) xs.1 ∧ (vp_in (v3 + 2) xs.1 ∧ MI xs (d + 7) mX8_where [.ref 0, .int (xs.2 ((v3 + 1)).toNatClampNeg), .int (xs.2 ((v3 + 2)).toNatClampNeg)] M (fun r144 M145 => (vp_in (v3 + 1) xs.1 ∧ (vp_in (v3 + 2) xs.1 ∧ MI xs (d + 7) mX9_where [.ref 64, .int (xs.2 ((v3 + 1)).toNatClampNeg), .int (xs.2 ((v3 + 2)).toNatClampNeg)] M145 (fun r148 M149 => (if r144 = r148 then GW xs (d + 8) mL_law 18 [(0, .ref 3000), (1, .ref 0), (2, .ref 64), (3, .int (v3 + 6))] [] M149 (QI Q) else Q 0 M149))))))) else (if ((xs.2 v3.toNatClampNeg) &&& 63) = 14 then MI xs (d + 7) mX8_twins [.ref 0] M (fun r152 M153 => MI xs (d + 7) mX9_twins [.ref 64] M153 (fun r154 M155 => (if r152 = r154 then GW xs (d + 8) mL_law 18 [(0, .ref 3000), (1, .ref 0), (2, .ref 64), (3, .int (v3 + 6))] [] M155 (QI Q) else Q 0 M155))) else (if ((xs.2 v3.toNatClampNeg) &&& 63) = 15 then (vp_in (v3 + 1) xs.1 ∧ (vp_in (v3 + 2) xs.1 ∧ (vp_in (v3 + 3) xs.1 ∧ MI xs (d + 7) mX8_feed [.ref 0, .long ((((xs.2 ((v3 + 1)).toNatClampNeg).toInt64) <<< ((32 : Int32).toInt64 &&& 63)) ||| ((xs.2 ((v3 + 2)).toNatClampNeg).toInt64 &&& 4294967295)), .int (xs.2 ((v3 + 3)).toNatClampNeg)] M (fun r161 M162 => (vp_in (v3 + 1) xs.1 ∧ (vp_in (v3 + 2) xs.1 ∧ (vp_in (v3 + 3) xs.1 ∧ MI xs (d + 7) mX9_feed [.ref 64, .long ((((xs.2 ((v3 + 1)).toNatClampNeg).toInt64) <<< ((32 : Int32).toInt64 &&& 63)) ||| ((xs.2 ((v3 + 2)).toNatClampNeg).toInt64 &&& 4294967295)), .int (xs.2 ((v3 + 3)).toNatClampNeg)] M162 (fun r166 M167 => (if r161 = r166 then GW xs (d + 8) mL_law 18 [(0, .ref 3000), (1, .ref 0), (2, .ref 64), (3, .int (v3 + 6))] [] M167 (QI Q) else Q 0 M167))))))))) else (if ((xs.2 v3.toNatClampNeg) &&& 63) = 16 then (vp_in (v3 + 1) xs.1 ∧ MI xs (d + 7) mX8_text [.ref 0, .int (xs.2 ((v3 + 1)).toNatClampNeg)] M (fun r171 M172 => (vp_in (v3 + 1) xs.1 ∧ MI xs (d + 7) mX9_text [.ref 64, .int (xs.2 ((v3 + 1)).toNatClampNeg)] M172 (fun r174 M175 => (if r171 = r174 then GW xs (d + 8) mL_law 18 [(0, .ref 3000), (1, .ref 0), (2, .ref 64), (3, .int (v3 + 6))] [] M175 (QI Q) else Q 0 M175))))) else (if ((xs.2 v3.toNatClampNeg) &&& 63) = 17 then (vp_in (v3 + 1) xs.1 ∧ MI xs (d + 7) mX8_untell [.ref 0, .int (xs.2 ((v3 + 1)).toNatClampNeg)] M (fun r179 M180 => (vp_in (v3 + 1) xs.1 ∧ MI xs (d + 7) mX9_untell [.ref 64, .int (xs.2 ((v3 + 1)).toNatClampNeg)] M180 (fun r182 M183 => (if r179 = r182 then GW xs (d + 8) mL_law 18 [(0, .ref 3000), (1, .ref 0), (2, .ref 64), (3, .int (v3 + 6))] [] M183 (QI Q) else Q 0 M183))))) else (if ((xs.2 v3.toNatClampNeg) &&& 63) = 18 then (vp_in (v3 + 1) xs.1 ∧ (vp_in (v3 + 2) xs.1 ∧ MI xs (d + 7) mX8_paper [.ref 0, .int (xs.2 ((v3 + 1)).toNatClampNeg), .int (xs.2 ((v3 + 2)).toNatClampNeg)] M (fun r188 M189 => (vp_in (v3 + 1) xs.1 ∧ (vp_in (v3 + 2) xs.1 ∧ MI xs (d + 7) mX9_paper [.ref 64, .int (xs.2 ((v3 + 1)).toNatClampNeg), .int (xs.2 ((v3 + 2)).toNatClampNeg)] M189 (fun r192 M193 => (if r188 = r192 then GW xs (d + 8) mL_law 18 [(0, .ref 3000), (1, .ref 0), (2, .ref 64), (3, .int (v3 + 6))] [] M193 (QI Q) else Q 0 M193))))))) else (if ((xs.2 v3.toNatClampNeg) &&& 63) = 19 then (vp_in (v3 + 1) xs.1 ∧ (vp_in (v3 + 2) xs.1 ∧ MI xs (d + 7) mX8_paperIs [.ref 0, .int (xs.2 ((v3 + 1)).toNatClampNeg), .int (xs.2 ((v3 + 2)).toNatClampNeg)] M (fun r198 M199 => (vp_in (v3 + 1) xs.1 ∧ (vp_in (v3 + 2) xs.1 ∧ MI xs (d + 7) mX9_paperIs [.ref 64, .int (xs.2 ((v3 + 1)).toNatClampNeg), .int (xs.2 ((v3 + 2)).toNatClampNeg)] M199 (fun r202 M203 => (if r198 = r202 then GW xs (d + 8) mL_law 18 [(0, .ref 3000), (1, .ref 0), (2, .ref 64), (3, .int (v3 + 6))] [] M203 (QI Q) else Q 0 M203))))))) else (if ((xs.2 v3.toNatClampNeg) &&& 63) = 20 then MI xs (d + 7) mX8_burn [.ref 0] M (fun r206 M207 => MI xs (d + 7) mX9_burn [.ref 64] M207 (fun r208 M209 => (if r206 = r208 then GW xs (d + 8) mL_law 18 [(0, .ref 3000), (1, .ref 0), (2, .ref 64), (3, .int (v3 + 6))] [] M209 (QI Q) else Q 0 M209))) else (if ((xs.2 v3.toNatClampNeg) &&& 63) = 21 then (vp_in (v3 + 1) xs.1 ∧ (vp_in (v3 + 2) xs.1 ∧ MI xs (d + 7) mX8_may [.ref 0, .int (xs.2 ((v3 + 1)).toNatClampNeg), .int (xs.2 ((v3 + 2)).toNatClampNeg)] M (fun r214 M215 => (vp_in (v3 + 1) xs.1 ∧ (vp_in (v3 + 2) xs.1 ∧ MI xs (d + 7) mX9_may [.ref 64, .int (xs.2 ((v3 + 1)).toNatClampNeg), .int (xs.2 ((v3 + 2)).toNatClampNeg)] M215 (fun r218 M219 => (if r214 = r218 then GW xs (d + 8) mL_law 18 [(0, .ref 3000), (1, .ref 0), (2, .ref 64), (3, .int (v3 + 6))] [] M219 (QI Q) else Q 0 M219))))))) else (if ((xs.2 v3.toNatClampNeg) &&& 63) = 22 then ML xs (d + 7) mX8_rows [.ref 0] M (fun r222 M223 => ML xs (d + 7) mX9_rows [.ref 64] M223 (fun r224 M225 => (if (lg_cmp r222 r224) = 0 then GW xs (d + 8) mL_law 18 [(0, .ref 3000), (1, .ref 0), (2, .ref 64), (3, .int (v3 + 6))] [] M225 (QI Q) else Q 0 M225))) else (if ((xs.2 v3.toNatClampNeg) &&& 63) = 23 then (vp_in (v3 + 1) xs.1 ∧ (vp_in (v3 + 2) xs.1 ∧ MI xs (d + 7) mX8_span [.ref 0, .int (xs.2 ((v3 + 1)).toNatClampNeg), .int (xs.2 ((v3 + 2)).toNatClampNeg)] M (fun r230 M231 => (vp_in (v3 + 1) xs.1 ∧ (vp_in (v3 + 2) xs.1 ∧ MI xs (d + 7) mX9_span [.ref 64, .int (xs.2 ((v3 + 1)).toNatClampNeg), .int (xs.2 ((v3 + 2)).toNatClampNeg)] M231 (fun r234 M235 => (if r230 = r234 then GW xs (d + 8) mL_law 18 [(0, .ref 3000), (1, .ref 0), (2, .ref 64), (3, .int (v3 + 6))] [] M235 (QI Q) else Q 0 M235))))))) else (if ((xs.2 v3.toNatClampNeg) &&& 63) = 24 then MI xs (d + 7) mX8_clerk [.ref 0] M (fun r238 M239 => MI xs (d + 7) mX9_clerk [.ref 64] M239 (fun r240 M241 => (if r238 = r240 then GW xs (d + 8) mL_law 18 [(0, .ref 3000), (1, .ref 0), (2, .ref 64), (3, .int (v3 + 6))] [] M241 (QI Q) else Q 0 M241))) else (if ((xs.2 v3.toNatClampNeg) &&& 63) = 25 then (vp_in (v3 + 1) xs.1 ∧ MI xs (d + 7) mX8_seed [.ref 0, .int (xs.2 ((v3 + 1)).toNatClampNeg)] M (fun r245 M246 => (vp_in (v3 + 1) xs.1 ∧ MI xs (d + 7) mX9_seed [.ref 64, .int (xs.2 ((v3 + 1)).toNatClampNeg)] M246 (fun r248 M249 => (if r245 = r248 then GW xs (d + 8) mL_law 18 [(0, .ref 3000), (1, .ref 0), (2, .ref 64), (3, .int (v3 + 6))] [] M249 (QI Q) else Q 0 M249))))) else (if ((xs.2 v3.toNatClampNeg) &&& 63) = 26 then (vp_in (v3 + 1) xs.1 ∧ (vp_in (v3 + 2) xs.1 ∧ MI xs (d + 7) mX8_comet [.ref 0, .int (xs.2 ((v3 + 1)).toNatClampNeg), .int (xs.2 ((v3 + 2)).toNatClampNeg)] M (fun r254 M255 => (vp_in (v3 + 1) xs.1 ∧ (vp_in (v3 + 2) xs.1 ∧ MI xs (d + 7) mX9_comet [.ref 64, .int (xs.2 ((v3 + 1)).toNatClampNeg), .int (xs.2 ((v3 + 2)).toNatClampNeg)] M255 (fun r258 M259 => (if r254 = r258 then GW xs (d + 8) mL_law 18 [(0, .ref 3000), (1, .ref 0), (2, .ref 64), (3, .int (v3 + 6))] [] M259 (QI Q) else Q 0 M259))))))) else (if ((xs.2 v3.toNatClampNeg) &&& 63) = 27 then (vp_in (v3 + 1) xs.1 ∧ MI xs (d + 7) mX8_claim [.ref 0, .int (xs.2 ((v3 + 1)).toNatClampNeg)] M (fun r263 M264 => (vp_in (v3 + 1) xs.1 ∧ MI xs (d + 7) mX9_claim [.ref 64, .int (xs.2 ((v3 + 1)).toNatClampNeg)] M264 (fun r266 M267 => (if r263 = r266 then GW xs (d + 8) mL_law 18 [(0, .ref 3000), (1, .ref 0), (2, .ref 64), (3, .int (v3 + 6))] [] M267 (QI Q) else Q 0 M267))))) else (if ((xs.2 v3.toNatClampNeg) &&& 63) = 28 then (vp_in (v3 + 1) xs.1 ∧ (vp_in (v3 + 2) xs.1 ∧ (vp_in (v3 + 3) xs.1 ∧ MI xs (d + 7) mX8_breaks [.ref 0, .int (xs.2 ((v3 + 1)).toNatClampNeg), .int (xs.2 ((v3 + 2)).toNatClampNeg), .int (xs.2 ((v3 + 3)).toNatClampNeg)] M (fun r273 M274 => (vp_in (v3 + 1) xs.1 ∧ (vp_in (v3 + 2) xs.1 ∧ (vp_in (v3 + 3) xs.1 ∧ MI xs (d + 7) mX9_breaks [.ref 64, .int (xs.2 ((v3 + 1)).toNatClampNeg), .int (xs.2 ((v3 + 2)).toNatClampNeg), .int (xs.2 ((v3 + 3)).toNatClampNeg)] M274 (fun r278 M279 => (if r273 = r278 then GW xs (d + 8) mL_law 18 [(0, .ref 3000), (1, .ref 0), (2, .ref 64), (3, .int (v3 + 6))] [] M279 (QI Q) else Q 0 M279))))))))) else (if ((xs.2 v3.toNatClampNeg) &&& 63) = 29 then (vp_in (v3 + 1) xs.1 ∧ (vp_in (v3 + 2) xs.1 ∧ MI xs (d + 7) mX8_least [.ref 0, .int (xs.2 ((v3 + 1)).toNatClampNeg), .int (xs.2 ((v3 + 2)).toNatClampNeg)] M (fun r284 M285 => (vp_in (v3 + 1) xs.1 ∧ (vp_in (v3 + 2) xs.1 ∧ MI xs (d + 7) mX9_least [.ref 64, .int (xs.2 ((v3 + 1)).toNatClampNeg), .int (xs.2 ((v3 + 2)).toNatClampNeg)] M285 (fun r288 M289 => (if r284 = r288 then GW xs (d + 8) mL_law 18 [(0, .ref 3000), (1, .ref 0), (2, .ref 64), (3, .int (v3 + 6))] [] M289 (QI Q) else Q 0 M289))))))) else (if ((xs.2 v3.toNatClampNeg) &&& 63) = 30 then (vp_in (v3 + 1) xs.1 ∧ (vp_in (v3 + 2) xs.1 ∧ (vp_in (v3 + 3) xs.1 ∧ MI xs (d + 7) mX8_voice [.ref 0, .int (xs.2 ((v3 + 1)).toNatClampNeg), .int (xs.2 ((v3 + 2)).toNatClampNeg), .int (xs.2 ((v3 + 3)).toNatClampNeg)] M (fun r295 M296 => (vp_in (v3 + 1) xs.1 ∧ (vp_in (v3 + 2) xs.1 ∧ (vp_in (v3 + 3) xs.1 ∧ MI xs (d + 7) mX9_voice [.ref 64, .int (xs.2 ((v3 + 1)).toNatClampNeg), .int (xs.2 ((v3 + 2)).toNatClampNeg), .int (xs.2 ((v3 + 3)).toNatClampNeg)] M296 (fun r300 M301 => (if r295 = r300 then GW xs (d + 8) mL_law 18 [(0, .ref 3000), (1, .ref 0), (2, .ref 64), (3, .int (v3 + 6))] [] M301 (QI Q) else Q 0 M301))))))))) else (if ((xs.2 v3.toNatClampNeg) &&& 63) = 31 then (vp_in (v3 + 1) xs.1 ∧ MI xs (d + 7) mX8_body [.ref 0, .int (xs.2 ((v3 + 1)).toNatClampNeg)] M (fun r305 M306 => (vp_in (v3 + 1) xs.1 ∧ MI xs (d + 7) mX9_body [.ref 64, .int (xs.2 ((v3 + 1)).toNatClampNeg)] M306 (fun r308 M309 => (if r305 = r308 then GW xs (d + 8) mL_law 18 [(0, .ref 3000), (1, .ref 0), (2, .ref 64), (3, .int (v3 + 6))] [] M309 (QI Q) else Q 0 M309))))) else (if ((xs.2 v3.toNatClampNeg) &&& 63) = 32 then (vp_in (v3 + 1) xs.1 ∧ (vp_in (v3 + 2) xs.1 ∧ (vp_in (v3 + 3) xs.1 ∧ MI xs (d + 7) mX8_sheet [.ref 0, .int (xs.2 ((v3 + 1)).toNatClampNeg), .int (xs.2 ((v3 + 2)).toNatClampNeg), .int (xs.2 ((v3 + 3)).toNatClampNeg)] M (fun r315 M316 => (vp_in (v3 + 1) xs.1 ∧ (vp_in (v3 + 2) xs.1 ∧ (vp_in (v3 + 3) xs.1 ∧ MI xs (d + 7) mX9_sheet [.ref 64, .int (xs.2 ((v3 + 1)).toNatClampNeg), .int (xs.2 ((v3 + 2)).toNatClampNeg), .int (xs.2 ((v3 + 3)).toNatClampNeg)] M316 (fun r320 M321 => (if r315 = r320 then GW xs (d + 8) mL_law 18 [(0, .ref 3000), (1, .ref 0), (2, .ref 64), (3, .int (v3 + 6))] [] M321 (QI Q) else Q 0 M321))))))))) else (if ((xs.2 v3.toNatClampNeg) &&& 63) = 33 then (vp_in (v3 + 1) xs.1 ∧ (vp_in (v3 + 2) xs.1 ∧ (vp_in (v3 + 3) xs.1 ∧ MI xs (d + 7) mX8_put [.ref 0, .int (xs.2 ((v3 + 1)).toNatClampNeg), .int (xs.2 ((v3 + 2)).toNatClampNeg), .int (xs.2 ((v3 + 3)).toNatClampNeg)] M (fun r327 M328 => (vp_in (v3 + 1) xs.1 ∧ (vp_in (v3 + 2) xs.1 ∧ (vp_in (v3 + 3) xs.1 ∧ MI xs (d + 7) mX9_put [.ref 64, .int (xs.2 ((v3 + 1)).toNatClampNeg), .int (xs.2 ((v3 + 2)).toNatClampNeg), .int (xs.2 ((v3 + 3)).toNatClampNeg)] M328 (fun r332 M333 => (if r327 = r332 then GW xs (d + 8) mL_law 18 [(0, .ref 3000), (1, .ref 0), (2, .ref 64), (3, .int (v3 + 6))] [] M333 (QI Q) else Q 0 M333))))))))) else (if ((xs.2 v3.toNatClampNeg) &&& 63) = 34 then (vp_in (v3 + 1) xs.1 ∧ (vp_in (v3 + 2) xs.1 ∧ (vp_in (v3 + 3) xs.1 ∧ (vp_in (v3 + 4) xs.1 ∧ (vp_in (v3 + 5) xs.1 ∧ MI xs (d + 7) mX8_move [.ref 0, .int (xs.2 ((v3 + 1)).toNatClampNeg), .int (xs.2 ((v3 + 2)).toNatClampNeg), .int (xs.2 ((v3 + 3)).toNatClampNeg), .int (xs.2 ((v3 + 4)).toNatClampNeg), .int (xs.2 ((v3 + 5)).toNatClampNeg)] M (fun r341 M342 => (vp_in (v3 + 1) xs.1 ∧ (vp_in (v3 + 2) xs.1 ∧ (vp_in (v3 + 3) xs.1 ∧ (vp_in (v3 + 4) xs.1 ∧ (vp_in (v3 + 5) xs.1 ∧ MI xs (d + 7) mX9_move [.ref 64, .int (xs.2 ((v3 + 1)).toNatClampNeg), .int (xs.2 ((v3 + 2)).toNatClampNeg), .int (xs.2 ((v3 + 3)).toNatClampNeg), .int (xs.2 ((v3 + 4)).toNatClampNeg), .int (xs.2 ((v3 + 5)).toNatClampNeg)] M342 (fun r348 M349 => (if r341 = r348 then GW xs (d + 8) mL_law 18 [(0, .ref 3000), (1, .ref 0), (2, .ref 64), (3, .int (v3 + 6))] [] M349 (QI Q) else Q 0 M349))))))))))))) else (if ((xs.2 v3.toNatClampNeg) &&& 63) = 35 then (vp_in (v3 + 1) xs.1 ∧ MI xs (d + 7) mX8_papers [.ref 0, .int (xs.2 ((v3 + 1)).toNatClampNeg)] M (fun r353 M354 => (vp_in (v3 + 1) xs.1 ∧ MI xs (d + 7) mX9_papers [.ref 64, .int (xs.2 ((v3 + 1)).toNatClampNeg)] M354 (fun r356 M357 => (if r353 = r356 then GW xs (d + 8) mL_law 18 [(0, .ref 3000), (1, .ref 0), (2, .ref 64), (3, .int (v3 + 6))] [] M357 (QI Q) else Q 0 M357))))) else (if ((xs.2 v3.toNatClampNeg) &&& 63) = 36 then (vp_in (v3 + 1) xs.1 ∧ (vp_in (v3 + 2) xs.1 ∧ (vp_in (v3 + 3) xs.1 ∧ MI xs (d + 7) mX8_judge [.ref 0, .int (xs.2 ((v3 + 1)).toNatClampNeg), .int (xs.2 ((v3 + 2)).toNatClampNeg), .int (xs.2 ((v3 + 3)).toNatClampNeg)] M (fun r363 M364 => (vp_in (v3 + 1) xs.1 ∧ (vp_in (v3 + 2) xs.1 ∧ (vp_in (v3 + 3) xs.1 ∧ MI xs (d + 7) mX9_judge [.ref 64, .int (xs.2 ((v3 + 1)).toNatClampNeg), .int (xs.2 ((v3 + 2)).toNatClampNeg), .int (xs.2 ((v3 + 3)).toNatClampNeg)] M364 (fun r368 M369 => (if r363 = r368 then GW xs (d + 8) mL_law 18 [(0, .ref 3000), (1, .ref 0), (2, .ref 64), (3, .int (v3 + 6))] [] M369 (QI Q) else Q 0 M369))))))))) else (if ((xs.2 v3.toNatClampNeg) &&& 63) = 37 then MI xs (d + 7) mX8_image [.ref 0] M (fun r372 M373 => MI xs (d + 7) mX9_image [.ref 64] M373 (fun r374 M375 => (if r372 = r374 then GW xs (d + 8) mL_law 18 [(0, .ref 3000), (1, .ref 0), (2, .ref 64), (3, .int (v3 + 6))] [] M375 (QI Q) else Q 0 M375))) else (if ((xs.2 v3.toNatClampNeg) &&& 63) = 38 then MI xs (d + 7) mX8_restore [.ref 0] M (fun r378 M379 => MI xs (d + 7) mX9_restore [.ref 64] M379 (fun r380 M381 => (if r378 = r380 then GW xs (d + 8) mL_law 18 [(0, .ref 3000), (1, .ref 0), (2, .ref 64), (3, .int (v3 + 6))] [] M381 (QI Q) else Q 0 M381))) else (if ((xs.2 v3.toNatClampNeg) &&& 63) = 39 then (vp_in (v3 + 1) xs.1 ∧ MI xs (d + 7) mX8_tell [.ref 0, .int (xs.2 ((v3 + 1)).toNatClampNeg)] M (fun r385 M386 => (vp_in (v3 + 1) xs.1 ∧ MI xs (d + 7) mX9_tell [.ref 64, .int (xs.2 ((v3 + 1)).toNatClampNeg)] M386 (fun r388 M389 => (if r385 = r388 then GW xs (d + 8) mL_law 18 [(0, .ref 3000), (1, .ref 0), (2, .ref 64), (3, .int (v3 + 6))] [] M389 (QI Q) else Q 0 M389))))) else (if ((xs.2 v3.toNatClampNeg) &&& 63) = 40 then MI xs (d + 7) mX8_check [.ref 0] M (fun r392 M393 => MI xs (d + 7) mX9_check [.ref 64] M393 (fun r394 M395 => (if r392 = r394 then GW xs (d + 8) mL_law 18 [(0, .ref 3000), (1, .ref 0), (2, .ref 64), (3, .int (v3 + 6))] [] M395 (QI Q) else Q 0 M395))) else (if ((xs.2 v3.toNatClampNeg) &&& 63) = 41 then (vp_in (v3 + 1) xs.1 ∧ MI xs (d + 7) mX8_count [.ref 0, .int (xs.2 ((v3 + 1)).toNatClampNeg)] M (fun r399 M400 => (vp_in (v3 + 1) xs.1 ∧ MI xs (d + 7) mX9_count [.ref 64, .int (xs.2 ((v3 + 1)).toNatClampNeg)] M400 (fun r402 M403 => (if r399 = r402 then GW xs (d + 8) mL_law 18 [(0, .ref 3000), (1, .ref 0), (2, .ref 64), (3, .int (v3 + 6))] [] M403 (QI Q) else Q 0 M403))))) else (if ((xs.2 v3.toNatClampNeg) &&& 63) = 42 then (vp_in (v3 + 1) xs.1 ∧ MI xs (d + 7) mX8_told [.ref 0, .int (xs.2 ((v3 + 1)).toNatClampNeg)] M (fun r407 M408 => (vp_in (v3 + 1) xs.1 ∧ MI xs (d + 7) mX9_told [.ref 64, .int (xs.2 ((v3 + 1)).toNatClampNeg)] M408 (fun r410 M411 => (if r407 = r410 then GW xs (d + 8) mL_law 18 [(0, .ref 3000), (1, .ref 0), (2, .ref 64), (3, .int (v3 + 6))] [] M411 (QI Q) else Q 0 M411))))) else GW xs (d + 8) mL_law 18 [(0, .ref 3000), (1, .ref 0), (2, .ref 64), (3, .int (v3 + 6))] [] M (QI Q))))))))))))))))))))))))))))))))))))))))))))))) : GW xs (d + 8) mL_law 18 [(0, .ref 3000), (1, .ref 0), (2, .ref 64), (3, .int v3)] [] M (QI Q) := by
  refine GW.iload_n (pc' := 19) dL_law_18 rfl rfl ?_
  refine GW.aload_n (pc' := 20) dL_law_19 rfl rfl ?_
  refine GW.slen (pc' := 21) dL_law_20 rfl ?_
  refine GW.bipush (pc' := 23) (v := 6) dL_law_21 rfl (by decide) ?_
  refine GW.isub (pc' := 24) dL_law_23 rfl ?_
  refine GW.if_icmpgt (pc' := 27) (tgt := 1566) dL_law_24 rfl (by decide) (ite_i (fun c1 => ?_) (fun c1 => ?_))
  · replace h := ite_t h c1
    refine GW.iconst (pc' := 1567) (v := 1) dL_law_1566 rfl (by decide) ?_
    refine GW.zret dL_law_1567 rfl (by decide) ⟨_, rfl, ?_⟩
    exact h
  · replace h := ite_f h c1
    refine GW.aload_n (pc' := 28) dL_law_27 rfl rfl ?_
    refine GW.iload_n (pc' := 29) dL_law_28 rfl rfl ?_
    obtain ⟨b2, h⟩ := h
    refine GW.sload (pc' := 30) dL_law_29 rfl b2 ?_
    refine GW.bipush (pc' := 32) (v := 63) dL_law_30 rfl (by decide) ?_
    refine GW.iand (pc' := 33) dL_law_32 rfl ?_
    by_cases c3 : ((xs.2 v3.toNatClampNeg) &&& 63) = 0
    · replace h := ite_t h c3
      refine GW.tswIn (v := 0) (tgt := 220) dL_law_33 (by rw [c3]; rfl) (by decide) (by decide) rfl (by decide) ?_
      refine GW.aload_n (pc' := 221) dL_law_220 rfl rfl ?_
      refine GW.aload_n (pc' := 222) dL_law_221 rfl rfl ?_
      refine GW.iload_n (pc' := 223) dL_law_222 rfl rfl ?_
      refine GW.iconst (pc' := 224) (v := 1) dL_law_223 rfl (by decide) ?_
      refine GW.iadd (pc' := 225) dL_law_224 rfl ?_
      obtain ⟨b4, h⟩ := h
      refine GW.sload (pc' := 226) dL_law_225 rfl b4 ?_
      refine GW.aload_n (pc' := 227) dL_law_226 rfl rfl ?_
      refine GW.iload_n (pc' := 228) dL_law_227 rfl rfl ?_
      refine GW.iconst (pc' := 229) (v := 2) dL_law_228 rfl (by decide) ?_
      refine GW.iadd (pc' := 230) dL_law_229 rfl ?_
      obtain ⟨b5, h⟩ := h
      refine GW.sload (pc' := 231) dL_law_230 rfl b5 ?_
      refine GW.aload_n (pc' := 232) dL_law_231 rfl rfl ?_
      refine GW.iload_n (pc' := 233) dL_law_232 rfl rfl ?_
      refine GW.iconst (pc' := 234) (v := 3) dL_law_233 rfl (by decide) ?_
      refine GW.iadd (pc' := 235) dL_law_234 rfl ?_
      obtain ⟨b6, h⟩ := h
      refine GW.sload (pc' := 236) dL_law_235 rfl b6 ?_
      refine GW.callV (pc' := 239) (k := 0) (av := [.int (xs.2 ((v3 + 1)).toNatClampNeg), .int (xs.2 ((v3 + 2)).toNatClampNeg), .int (xs.2 ((v3 + 3)).toNatClampNeg)]) (rest := []) dL_law_236 rfl mk_X8_sale lk_L_13 vk_X8_sale ko_0 rfl rfl (Nat.le_of_ble_eq_true rfl) (bk_i (MI.mono h (fun r7 M8 h => ?_)))
      refine GW.aload_n (pc' := 240) dL_law_239 rfl rfl ?_
      refine GW.aload_n (pc' := 241) dL_law_240 rfl rfl ?_
      refine GW.iload_n (pc' := 242) dL_law_241 rfl rfl ?_
      refine GW.iconst (pc' := 243) (v := 1) dL_law_242 rfl (by decide) ?_
      refine GW.iadd (pc' := 244) dL_law_243 rfl ?_
      obtain ⟨b9, h⟩ := h
      refine GW.sload (pc' := 245) dL_law_244 rfl b9 ?_
      refine GW.aload_n (pc' := 246) dL_law_245 rfl rfl ?_
      refine GW.iload_n (pc' := 247) dL_law_246 rfl rfl ?_
      refine GW.iconst (pc' := 248) (v := 2) dL_law_247 rfl (by decide) ?_
      refine GW.iadd (pc' := 249) dL_law_248 rfl ?_
      obtain ⟨b10, h⟩ := h
      refine GW.sload (pc' := 250) dL_law_249 rfl b10 ?_
      refine GW.aload_n (pc' := 251) dL_law_250 rfl rfl ?_
      refine GW.iload_n (pc' := 252) dL_law_251 rfl rfl ?_
      refine GW.iconst (pc' := 253) (v := 3) dL_law_252 rfl (by decide) ?_
      refine GW.iadd (pc' := 254) dL_law_253 rfl ?_
      obtain ⟨b11, h⟩ := h
      refine GW.sload (pc' := 255) dL_law_254 rfl b11 ?_
      refine GW.callV (pc' := 258) (k := 64) (av := [.int (xs.2 ((v3 + 1)).toNatClampNeg), .int (xs.2 ((v3 + 2)).toNatClampNeg), .int (xs.2 ((v3 + 3)).toNatClampNeg)]) (rest := [.int r7]) dL_law_255 rfl mk_X9_sale lk_L_17 vk_X9_sale ko_64 rfl rfl (Nat.le_of_ble_eq_true rfl) (bk_i (MI.mono h (fun r12 M13 h => ?_)))
      refine GW.if_icmpeq (pc' := 261) (tgt := 1560) dL_law_258 rfl (by decide) (ite_i (fun c14 => ?_) (fun c14 => ?_))
      · replace h := ite_t h c14
        refine GW.iinc (pc' := 1563) (lv' := [(0, .ref 3000), (1, .ref 0), (2, .ref 64), (3, .int (v3 + 6))]) (v := (v3 + 6)) dL_law_1560 rfl rfl (by decide) rfl rfl rfl ?_
        refine GW.goto (tgt := 18) dL_law_1563 (by decide) ?_
        exact h
      · replace h := ite_f h c14
        refine GW.iconst (pc' := 262) (v := 0) dL_law_261 rfl (by decide) ?_
        refine GW.zret dL_law_262 rfl (by decide) ⟨_, rfl, ?_⟩
        exact h
    · replace h := ite_f h c3
      by_cases c15 : ((xs.2 v3.toNatClampNeg) &&& 63) = 1
      · replace h := ite_t h c15
        refine GW.tswIn (v := 1) (tgt := 263) dL_law_33 (by rw [c15]; rfl) (by decide) (by decide) rfl (by decide) ?_
        refine GW.aload_n (pc' := 264) dL_law_263 rfl rfl ?_
        refine GW.aload_n (pc' := 265) dL_law_264 rfl rfl ?_
        refine GW.iload_n (pc' := 266) dL_law_265 rfl rfl ?_
        refine GW.iconst (pc' := 267) (v := 1) dL_law_266 rfl (by decide) ?_
        refine GW.iadd (pc' := 268) dL_law_267 rfl ?_
        obtain ⟨b16, h⟩ := h
        refine GW.sload (pc' := 269) dL_law_268 rfl b16 ?_
        refine GW.aload_n (pc' := 270) dL_law_269 rfl rfl ?_
        refine GW.iload_n (pc' := 271) dL_law_270 rfl rfl ?_
        refine GW.iconst (pc' := 272) (v := 2) dL_law_271 rfl (by decide) ?_
        refine GW.iadd (pc' := 273) dL_law_272 rfl ?_
        obtain ⟨b17, h⟩ := h
        refine GW.sload (pc' := 274) dL_law_273 rfl b17 ?_
        refine GW.callV (pc' := 277) (k := 0) (av := [.int (xs.2 ((v3 + 1)).toNatClampNeg), .int (xs.2 ((v3 + 2)).toNatClampNeg)]) (rest := []) dL_law_274 rfl mk_X8_saleIs lk_L_18 vk_X8_saleIs ko_0 rfl rfl (Nat.le_of_ble_eq_true rfl) (bk_i (MI.mono h (fun r18 M19 h => ?_)))
        refine GW.aload_n (pc' := 278) dL_law_277 rfl rfl ?_
        refine GW.aload_n (pc' := 279) dL_law_278 rfl rfl ?_
        refine GW.iload_n (pc' := 280) dL_law_279 rfl rfl ?_
        refine GW.iconst (pc' := 281) (v := 1) dL_law_280 rfl (by decide) ?_
        refine GW.iadd (pc' := 282) dL_law_281 rfl ?_
        obtain ⟨b20, h⟩ := h
        refine GW.sload (pc' := 283) dL_law_282 rfl b20 ?_
        refine GW.aload_n (pc' := 284) dL_law_283 rfl rfl ?_
        refine GW.iload_n (pc' := 285) dL_law_284 rfl rfl ?_
        refine GW.iconst (pc' := 286) (v := 2) dL_law_285 rfl (by decide) ?_
        refine GW.iadd (pc' := 287) dL_law_286 rfl ?_
        obtain ⟨b21, h⟩ := h
        refine GW.sload (pc' := 288) dL_law_287 rfl b21 ?_
        refine GW.callV (pc' := 291) (k := 64) (av := [.int (xs.2 ((v3 + 1)).toNatClampNeg), .int (xs.2 ((v3 + 2)).toNatClampNeg)]) (rest := [.int r18]) dL_law_288 rfl mk_X9_saleIs lk_L_22 vk_X9_saleIs ko_64 rfl rfl (Nat.le_of_ble_eq_true rfl) (bk_i (MI.mono h (fun r22 M23 h => ?_)))
        refine GW.if_icmpeq (pc' := 294) (tgt := 1560) dL_law_291 rfl (by decide) (ite_i (fun c24 => ?_) (fun c24 => ?_))
        · replace h := ite_t h c24
          refine GW.iinc (pc' := 1563) (lv' := [(0, .ref 3000), (1, .ref 0), (2, .ref 64), (3, .int (v3 + 6))]) (v := (v3 + 6)) dL_law_1560 rfl rfl (by decide) rfl rfl rfl ?_
          refine GW.goto (tgt := 18) dL_law_1563 (by decide) ?_
          exact h
        · replace h := ite_f h c24
          refine GW.iconst (pc' := 295) (v := 0) dL_law_294 rfl (by decide) ?_
          refine GW.zret dL_law_295 rfl (by decide) ⟨_, rfl, ?_⟩
          exact h
      · replace h := ite_f h c15
        by_cases c25 : ((xs.2 v3.toNatClampNeg) &&& 63) = 2
        · replace h := ite_t h c25
          refine GW.tswIn (v := 2) (tgt := 296) dL_law_33 (by rw [c25]; rfl) (by decide) (by decide) rfl (by decide) ?_
          refine GW.aload_n (pc' := 297) dL_law_296 rfl rfl ?_
          refine GW.callV (pc' := 300) (k := 0) (av := []) (rest := []) dL_law_297 rfl mk_X8_undo lk_L_23 vk_X8_undo ko_0 rfl rfl (Nat.le_of_ble_eq_true rfl) (bk_i (MI.mono h (fun r26 M27 h => ?_)))
          refine GW.aload_n (pc' := 301) dL_law_300 rfl rfl ?_
          refine GW.callV (pc' := 304) (k := 64) (av := []) (rest := [.int r26]) dL_law_301 rfl mk_X9_undo lk_L_27 vk_X9_undo ko_64 rfl rfl (Nat.le_of_ble_eq_true rfl) (bk_i (MI.mono h (fun r28 M29 h => ?_)))
          refine GW.if_icmpeq (pc' := 307) (tgt := 1560) dL_law_304 rfl (by decide) (ite_i (fun c30 => ?_) (fun c30 => ?_))
          · replace h := ite_t h c30
            refine GW.iinc (pc' := 1563) (lv' := [(0, .ref 3000), (1, .ref 0), (2, .ref 64), (3, .int (v3 + 6))]) (v := (v3 + 6)) dL_law_1560 rfl rfl (by decide) rfl rfl rfl ?_
            refine GW.goto (tgt := 18) dL_law_1563 (by decide) ?_
            exact h
          · replace h := ite_f h c30
            refine GW.iconst (pc' := 308) (v := 0) dL_law_307 rfl (by decide) ?_
            refine GW.zret dL_law_308 rfl (by decide) ⟨_, rfl, ?_⟩
            exact h
        · replace h := ite_f h c25
          by_cases c31 : ((xs.2 v3.toNatClampNeg) &&& 63) = 3
          · replace h := ite_t h c31
            refine GW.tswIn (v := 3) (tgt := 309) dL_law_33 (by rw [c31]; rfl) (by decide) (by decide) rfl (by decide) ?_
            refine GW.aload_n (pc' := 310) dL_law_309 rfl rfl ?_
            refine GW.aload_n (pc' := 311) dL_law_310 rfl rfl ?_
            refine GW.iload_n (pc' := 312) dL_law_311 rfl rfl ?_
            refine GW.iconst (pc' := 313) (v := 1) dL_law_312 rfl (by decide) ?_
            refine GW.iadd (pc' := 314) dL_law_313 rfl ?_
            obtain ⟨b32, h⟩ := h
            refine GW.sload (pc' := 315) dL_law_314 rfl b32 ?_
            refine GW.aload_n (pc' := 316) dL_law_315 rfl rfl ?_
            refine GW.iload_n (pc' := 317) dL_law_316 rfl rfl ?_
            refine GW.iconst (pc' := 318) (v := 2) dL_law_317 rfl (by decide) ?_
            refine GW.iadd (pc' := 319) dL_law_318 rfl ?_
            obtain ⟨b33, h⟩ := h
            refine GW.sload (pc' := 320) dL_law_319 rfl b33 ?_
            refine GW.callV (pc' := 323) (k := 0) (av := [.int (xs.2 ((v3 + 1)).toNatClampNeg), .int (xs.2 ((v3 + 2)).toNatClampNeg)]) (rest := []) dL_law_320 rfl mk_X8_name lk_L_28 vk_X8_name ko_0 rfl rfl (Nat.le_of_ble_eq_true rfl) (bk_i (MI.mono h (fun r34 M35 h => ?_)))
            refine GW.aload_n (pc' := 324) dL_law_323 rfl rfl ?_
            refine GW.aload_n (pc' := 325) dL_law_324 rfl rfl ?_
            refine GW.iload_n (pc' := 326) dL_law_325 rfl rfl ?_
            refine GW.iconst (pc' := 327) (v := 1) dL_law_326 rfl (by decide) ?_
            refine GW.iadd (pc' := 328) dL_law_327 rfl ?_
            obtain ⟨b36, h⟩ := h
            refine GW.sload (pc' := 329) dL_law_328 rfl b36 ?_
            refine GW.aload_n (pc' := 330) dL_law_329 rfl rfl ?_
            refine GW.iload_n (pc' := 331) dL_law_330 rfl rfl ?_
            refine GW.iconst (pc' := 332) (v := 2) dL_law_331 rfl (by decide) ?_
            refine GW.iadd (pc' := 333) dL_law_332 rfl ?_
            obtain ⟨b37, h⟩ := h
            refine GW.sload (pc' := 334) dL_law_333 rfl b37 ?_
            refine GW.callV (pc' := 337) (k := 64) (av := [.int (xs.2 ((v3 + 1)).toNatClampNeg), .int (xs.2 ((v3 + 2)).toNatClampNeg)]) (rest := [.int r34]) dL_law_334 rfl mk_X9_name lk_L_31 vk_X9_name ko_64 rfl rfl (Nat.le_of_ble_eq_true rfl) (bk_i (MI.mono h (fun r38 M39 h => ?_)))
            refine GW.if_icmpeq (pc' := 340) (tgt := 1560) dL_law_337 rfl (by decide) (ite_i (fun c40 => ?_) (fun c40 => ?_))
            · replace h := ite_t h c40
              refine GW.iinc (pc' := 1563) (lv' := [(0, .ref 3000), (1, .ref 0), (2, .ref 64), (3, .int (v3 + 6))]) (v := (v3 + 6)) dL_law_1560 rfl rfl (by decide) rfl rfl rfl ?_
              refine GW.goto (tgt := 18) dL_law_1563 (by decide) ?_
              exact h
            · replace h := ite_f h c40
              refine GW.iconst (pc' := 341) (v := 0) dL_law_340 rfl (by decide) ?_
              refine GW.zret dL_law_341 rfl (by decide) ⟨_, rfl, ?_⟩
              exact h
          · replace h := ite_f h c31
            by_cases c41 : ((xs.2 v3.toNatClampNeg) &&& 63) = 4
            · replace h := ite_t h c41
              refine GW.tswIn (v := 4) (tgt := 342) dL_law_33 (by rw [c41]; rfl) (by decide) (by decide) rfl (by decide) ?_
              refine GW.aload_n (pc' := 343) dL_law_342 rfl rfl ?_
              refine GW.aload_n (pc' := 344) dL_law_343 rfl rfl ?_
              refine GW.iload_n (pc' := 345) dL_law_344 rfl rfl ?_
              refine GW.iconst (pc' := 346) (v := 1) dL_law_345 rfl (by decide) ?_
              refine GW.iadd (pc' := 347) dL_law_346 rfl ?_
              obtain ⟨b42, h⟩ := h
              refine GW.sload (pc' := 348) dL_law_347 rfl b42 ?_
              refine GW.aload_n (pc' := 349) dL_law_348 rfl rfl ?_
              refine GW.iload_n (pc' := 350) dL_law_349 rfl rfl ?_
              refine GW.iconst (pc' := 351) (v := 2) dL_law_350 rfl (by decide) ?_
              refine GW.iadd (pc' := 352) dL_law_351 rfl ?_
              obtain ⟨b43, h⟩ := h
              refine GW.sload (pc' := 353) dL_law_352 rfl b43 ?_
              refine GW.callV (pc' := 356) (k := 0) (av := [.int (xs.2 ((v3 + 1)).toNatClampNeg), .int (xs.2 ((v3 + 2)).toNatClampNeg)]) (rest := []) dL_law_353 rfl mk_X8_date lk_L_32 vk_X8_date ko_0 rfl rfl (Nat.le_of_ble_eq_true rfl) (bk_i (MI.mono h (fun r44 M45 h => ?_)))
              refine GW.aload_n (pc' := 357) dL_law_356 rfl rfl ?_
              refine GW.aload_n (pc' := 358) dL_law_357 rfl rfl ?_
              refine GW.iload_n (pc' := 359) dL_law_358 rfl rfl ?_
              refine GW.iconst (pc' := 360) (v := 1) dL_law_359 rfl (by decide) ?_
              refine GW.iadd (pc' := 361) dL_law_360 rfl ?_
              obtain ⟨b46, h⟩ := h
              refine GW.sload (pc' := 362) dL_law_361 rfl b46 ?_
              refine GW.aload_n (pc' := 363) dL_law_362 rfl rfl ?_
              refine GW.iload_n (pc' := 364) dL_law_363 rfl rfl ?_
              refine GW.iconst (pc' := 365) (v := 2) dL_law_364 rfl (by decide) ?_
              refine GW.iadd (pc' := 366) dL_law_365 rfl ?_
              obtain ⟨b47, h⟩ := h
              refine GW.sload (pc' := 367) dL_law_366 rfl b47 ?_
              refine GW.callV (pc' := 370) (k := 64) (av := [.int (xs.2 ((v3 + 1)).toNatClampNeg), .int (xs.2 ((v3 + 2)).toNatClampNeg)]) (rest := [.int r44]) dL_law_367 rfl mk_X9_date lk_L_35 vk_X9_date ko_64 rfl rfl (Nat.le_of_ble_eq_true rfl) (bk_i (MI.mono h (fun r48 M49 h => ?_)))
              refine GW.if_icmpeq (pc' := 373) (tgt := 1560) dL_law_370 rfl (by decide) (ite_i (fun c50 => ?_) (fun c50 => ?_))
              · replace h := ite_t h c50
                refine GW.iinc (pc' := 1563) (lv' := [(0, .ref 3000), (1, .ref 0), (2, .ref 64), (3, .int (v3 + 6))]) (v := (v3 + 6)) dL_law_1560 rfl rfl (by decide) rfl rfl rfl ?_
                refine GW.goto (tgt := 18) dL_law_1563 (by decide) ?_
                exact h
              · replace h := ite_f h c50
                refine GW.iconst (pc' := 374) (v := 0) dL_law_373 rfl (by decide) ?_
                refine GW.zret dL_law_374 rfl (by decide) ⟨_, rfl, ?_⟩
                exact h
            · replace h := ite_f h c41
              by_cases c51 : ((xs.2 v3.toNatClampNeg) &&& 63) = 5
              · replace h := ite_t h c51
                refine GW.tswIn (v := 5) (tgt := 375) dL_law_33 (by rw [c51]; rfl) (by decide) (by decide) rfl (by decide) ?_
                refine GW.aload_n (pc' := 376) dL_law_375 rfl rfl ?_
                refine GW.aload_n (pc' := 377) dL_law_376 rfl rfl ?_
                refine GW.iload_n (pc' := 378) dL_law_377 rfl rfl ?_
                refine GW.iconst (pc' := 379) (v := 1) dL_law_378 rfl (by decide) ?_
                refine GW.iadd (pc' := 380) dL_law_379 rfl ?_
                obtain ⟨b52, h⟩ := h
                refine GW.sload (pc' := 381) dL_law_380 rfl b52 ?_
                refine GW.aload_n (pc' := 382) dL_law_381 rfl rfl ?_
                refine GW.iload_n (pc' := 383) dL_law_382 rfl rfl ?_
                refine GW.iconst (pc' := 384) (v := 2) dL_law_383 rfl (by decide) ?_
                refine GW.iadd (pc' := 385) dL_law_384 rfl ?_
                obtain ⟨b53, h⟩ := h
                refine GW.sload (pc' := 386) dL_law_385 rfl b53 ?_
                refine GW.aload_n (pc' := 387) dL_law_386 rfl rfl ?_
                refine GW.iload_n (pc' := 388) dL_law_387 rfl rfl ?_
                refine GW.iconst (pc' := 389) (v := 3) dL_law_388 rfl (by decide) ?_
                refine GW.iadd (pc' := 390) dL_law_389 rfl ?_
                obtain ⟨b54, h⟩ := h
                refine GW.sload (pc' := 391) dL_law_390 rfl b54 ?_
                refine GW.aload_n (pc' := 392) dL_law_391 rfl rfl ?_
                refine GW.iload_n (pc' := 393) dL_law_392 rfl rfl ?_
                refine GW.iconst (pc' := 394) (v := 4) dL_law_393 rfl (by decide) ?_
                refine GW.iadd (pc' := 395) dL_law_394 rfl ?_
                obtain ⟨b55, h⟩ := h
                refine GW.sload (pc' := 396) dL_law_395 rfl b55 ?_
                refine GW.callV (pc' := 399) (k := 0) (av := [.int (xs.2 ((v3 + 1)).toNatClampNeg), .int (xs.2 ((v3 + 2)).toNatClampNeg), .int (xs.2 ((v3 + 3)).toNatClampNeg), .int (xs.2 ((v3 + 4)).toNatClampNeg)]) (rest := []) dL_law_396 rfl mk_X8_day lk_L_36 vk_X8_day ko_0 rfl rfl (Nat.le_of_ble_eq_true rfl) (bk_i (MI.mono h (fun r56 M57 h => ?_)))
                refine GW.aload_n (pc' := 400) dL_law_399 rfl rfl ?_
                refine GW.aload_n (pc' := 401) dL_law_400 rfl rfl ?_
                refine GW.iload_n (pc' := 402) dL_law_401 rfl rfl ?_
                refine GW.iconst (pc' := 403) (v := 1) dL_law_402 rfl (by decide) ?_
                refine GW.iadd (pc' := 404) dL_law_403 rfl ?_
                obtain ⟨b58, h⟩ := h
                refine GW.sload (pc' := 405) dL_law_404 rfl b58 ?_
                refine GW.aload_n (pc' := 406) dL_law_405 rfl rfl ?_
                refine GW.iload_n (pc' := 407) dL_law_406 rfl rfl ?_
                refine GW.iconst (pc' := 408) (v := 2) dL_law_407 rfl (by decide) ?_
                refine GW.iadd (pc' := 409) dL_law_408 rfl ?_
                obtain ⟨b59, h⟩ := h
                refine GW.sload (pc' := 410) dL_law_409 rfl b59 ?_
                refine GW.aload_n (pc' := 411) dL_law_410 rfl rfl ?_
                refine GW.iload_n (pc' := 412) dL_law_411 rfl rfl ?_
                refine GW.iconst (pc' := 413) (v := 3) dL_law_412 rfl (by decide) ?_
                refine GW.iadd (pc' := 414) dL_law_413 rfl ?_
                obtain ⟨b60, h⟩ := h
                refine GW.sload (pc' := 415) dL_law_414 rfl b60 ?_
                refine GW.aload_n (pc' := 416) dL_law_415 rfl rfl ?_
                refine GW.iload_n (pc' := 417) dL_law_416 rfl rfl ?_
                refine GW.iconst (pc' := 418) (v := 4) dL_law_417 rfl (by decide) ?_
                refine GW.iadd (pc' := 419) dL_law_418 rfl ?_
                obtain ⟨b61, h⟩ := h
                refine GW.sload (pc' := 420) dL_law_419 rfl b61 ?_
                refine GW.callV (pc' := 423) (k := 64) (av := [.int (xs.2 ((v3 + 1)).toNatClampNeg), .int (xs.2 ((v3 + 2)).toNatClampNeg), .int (xs.2 ((v3 + 3)).toNatClampNeg), .int (xs.2 ((v3 + 4)).toNatClampNeg)]) (rest := [.int r56]) dL_law_420 rfl mk_X9_day lk_L_40 vk_X9_day ko_64 rfl rfl (Nat.le_of_ble_eq_true rfl) (bk_i (MI.mono h (fun r62 M63 h => ?_)))
                refine GW.if_icmpeq (pc' := 426) (tgt := 1560) dL_law_423 rfl (by decide) (ite_i (fun c64 => ?_) (fun c64 => ?_))
                · replace h := ite_t h c64
                  refine GW.iinc (pc' := 1563) (lv' := [(0, .ref 3000), (1, .ref 0), (2, .ref 64), (3, .int (v3 + 6))]) (v := (v3 + 6)) dL_law_1560 rfl rfl (by decide) rfl rfl rfl ?_
                  refine GW.goto (tgt := 18) dL_law_1563 (by decide) ?_
                  exact h
                · replace h := ite_f h c64
                  refine GW.iconst (pc' := 427) (v := 0) dL_law_426 rfl (by decide) ?_
                  refine GW.zret dL_law_427 rfl (by decide) ⟨_, rfl, ?_⟩
                  exact h
              · replace h := ite_f h c51
                by_cases c65 : ((xs.2 v3.toNatClampNeg) &&& 63) = 6
                · replace h := ite_t h c65
                  refine GW.tswIn (v := 6) (tgt := 428) dL_law_33 (by rw [c65]; rfl) (by decide) (by decide) rfl (by decide) ?_
                  refine GW.aload_n (pc' := 429) dL_law_428 rfl rfl ?_
                  refine GW.aload_n (pc' := 430) dL_law_429 rfl rfl ?_
                  refine GW.iload_n (pc' := 431) dL_law_430 rfl rfl ?_
                  refine GW.iconst (pc' := 432) (v := 1) dL_law_431 rfl (by decide) ?_
                  refine GW.iadd (pc' := 433) dL_law_432 rfl ?_
                  obtain ⟨b66, h⟩ := h
                  refine GW.sload (pc' := 434) dL_law_433 rfl b66 ?_
                  refine GW.callV (pc' := 437) (k := 0) (av := [.int (xs.2 ((v3 + 1)).toNatClampNeg)]) (rest := []) dL_law_434 rfl mk_X8_pass lk_L_41 vk_X8_pass ko_0 rfl rfl (Nat.le_of_ble_eq_true rfl) (bk_i (MI.mono h (fun r67 M68 h => ?_)))
                  refine GW.aload_n (pc' := 438) dL_law_437 rfl rfl ?_
                  refine GW.aload_n (pc' := 439) dL_law_438 rfl rfl ?_
                  refine GW.iload_n (pc' := 440) dL_law_439 rfl rfl ?_
                  refine GW.iconst (pc' := 441) (v := 1) dL_law_440 rfl (by decide) ?_
                  refine GW.iadd (pc' := 442) dL_law_441 rfl ?_
                  obtain ⟨b69, h⟩ := h
                  refine GW.sload (pc' := 443) dL_law_442 rfl b69 ?_
                  refine GW.callV (pc' := 446) (k := 64) (av := [.int (xs.2 ((v3 + 1)).toNatClampNeg)]) (rest := [.int r67]) dL_law_443 rfl mk_X9_pass lk_L_45 vk_X9_pass ko_64 rfl rfl (Nat.le_of_ble_eq_true rfl) (bk_i (MI.mono h (fun r70 M71 h => ?_)))
                  refine GW.if_icmpeq (pc' := 449) (tgt := 1560) dL_law_446 rfl (by decide) (ite_i (fun c72 => ?_) (fun c72 => ?_))
                  · replace h := ite_t h c72
                    refine GW.iinc (pc' := 1563) (lv' := [(0, .ref 3000), (1, .ref 0), (2, .ref 64), (3, .int (v3 + 6))]) (v := (v3 + 6)) dL_law_1560 rfl rfl (by decide) rfl rfl rfl ?_
                    refine GW.goto (tgt := 18) dL_law_1563 (by decide) ?_
                    exact h
                  · replace h := ite_f h c72
                    refine GW.iconst (pc' := 450) (v := 0) dL_law_449 rfl (by decide) ?_
                    refine GW.zret dL_law_450 rfl (by decide) ⟨_, rfl, ?_⟩
                    exact h
                · replace h := ite_f h c65
                  by_cases c73 : ((xs.2 v3.toNatClampNeg) &&& 63) = 7
                  · replace h := ite_t h c73
                    refine GW.tswIn (v := 7) (tgt := 451) dL_law_33 (by rw [c73]; rfl) (by decide) (by decide) rfl (by decide) ?_
                    refine GW.aload_n (pc' := 452) dL_law_451 rfl rfl ?_
                    refine GW.aload_n (pc' := 453) dL_law_452 rfl rfl ?_
                    refine GW.iload_n (pc' := 454) dL_law_453 rfl rfl ?_
                    refine GW.iconst (pc' := 455) (v := 1) dL_law_454 rfl (by decide) ?_
                    refine GW.iadd (pc' := 456) dL_law_455 rfl ?_
                    obtain ⟨b74, h⟩ := h
                    refine GW.sload (pc' := 457) dL_law_456 rfl b74 ?_
                    refine GW.aload_n (pc' := 458) dL_law_457 rfl rfl ?_
                    refine GW.iload_n (pc' := 459) dL_law_458 rfl rfl ?_
                    refine GW.iconst (pc' := 460) (v := 2) dL_law_459 rfl (by decide) ?_
                    refine GW.iadd (pc' := 461) dL_law_460 rfl ?_
                    obtain ⟨b75, h⟩ := h
                    refine GW.sload (pc' := 462) dL_law_461 rfl b75 ?_
                    refine GW.aload_n (pc' := 463) dL_law_462 rfl rfl ?_
                    refine GW.iload_n (pc' := 464) dL_law_463 rfl rfl ?_
                    refine GW.iconst (pc' := 465) (v := 3) dL_law_464 rfl (by decide) ?_
                    refine GW.iadd (pc' := 466) dL_law_465 rfl ?_
                    obtain ⟨b76, h⟩ := h
                    refine GW.sload (pc' := 467) dL_law_466 rfl b76 ?_
                    refine GW.callV (pc' := 470) (k := 0) (av := [.int (xs.2 ((v3 + 1)).toNatClampNeg), .int (xs.2 ((v3 + 2)).toNatClampNeg), .int (xs.2 ((v3 + 3)).toNatClampNeg)]) (rest := []) dL_law_467 rfl mk_X8_thing lk_L_46 vk_X8_thing ko_0 rfl rfl (Nat.le_of_ble_eq_true rfl) (bk_i (MI.mono h (fun r77 M78 h => ?_)))
                    refine GW.aload_n (pc' := 471) dL_law_470 rfl rfl ?_
                    refine GW.aload_n (pc' := 472) dL_law_471 rfl rfl ?_
                    refine GW.iload_n (pc' := 473) dL_law_472 rfl rfl ?_
                    refine GW.iconst (pc' := 474) (v := 1) dL_law_473 rfl (by decide) ?_
                    refine GW.iadd (pc' := 475) dL_law_474 rfl ?_
                    obtain ⟨b79, h⟩ := h
                    refine GW.sload (pc' := 476) dL_law_475 rfl b79 ?_
                    refine GW.aload_n (pc' := 477) dL_law_476 rfl rfl ?_
                    refine GW.iload_n (pc' := 478) dL_law_477 rfl rfl ?_
                    refine GW.iconst (pc' := 479) (v := 2) dL_law_478 rfl (by decide) ?_
                    refine GW.iadd (pc' := 480) dL_law_479 rfl ?_
                    obtain ⟨b80, h⟩ := h
                    refine GW.sload (pc' := 481) dL_law_480 rfl b80 ?_
                    refine GW.aload_n (pc' := 482) dL_law_481 rfl rfl ?_
                    refine GW.iload_n (pc' := 483) dL_law_482 rfl rfl ?_
                    refine GW.iconst (pc' := 484) (v := 3) dL_law_483 rfl (by decide) ?_
                    refine GW.iadd (pc' := 485) dL_law_484 rfl ?_
                    obtain ⟨b81, h⟩ := h
                    refine GW.sload (pc' := 486) dL_law_485 rfl b81 ?_
                    refine GW.callV (pc' := 489) (k := 64) (av := [.int (xs.2 ((v3 + 1)).toNatClampNeg), .int (xs.2 ((v3 + 2)).toNatClampNeg), .int (xs.2 ((v3 + 3)).toNatClampNeg)]) (rest := [.int r77]) dL_law_486 rfl mk_X9_thing lk_L_49 vk_X9_thing ko_64 rfl rfl (Nat.le_of_ble_eq_true rfl) (bk_i (MI.mono h (fun r82 M83 h => ?_)))
                    refine GW.if_icmpeq (pc' := 492) (tgt := 1560) dL_law_489 rfl (by decide) (ite_i (fun c84 => ?_) (fun c84 => ?_))
                    · replace h := ite_t h c84
                      refine GW.iinc (pc' := 1563) (lv' := [(0, .ref 3000), (1, .ref 0), (2, .ref 64), (3, .int (v3 + 6))]) (v := (v3 + 6)) dL_law_1560 rfl rfl (by decide) rfl rfl rfl ?_
                      refine GW.goto (tgt := 18) dL_law_1563 (by decide) ?_
                      exact h
                    · replace h := ite_f h c84
                      refine GW.iconst (pc' := 493) (v := 0) dL_law_492 rfl (by decide) ?_
                      refine GW.zret dL_law_493 rfl (by decide) ⟨_, rfl, ?_⟩
                      exact h
                  · replace h := ite_f h c73
                    by_cases c85 : ((xs.2 v3.toNatClampNeg) &&& 63) = 8
                    · replace h := ite_t h c85
                      refine GW.tswIn (v := 8) (tgt := 494) dL_law_33 (by rw [c85]; rfl) (by decide) (by decide) rfl (by decide) ?_
                      refine GW.aload_n (pc' := 495) dL_law_494 rfl rfl ?_
                      refine GW.aload_n (pc' := 496) dL_law_495 rfl rfl ?_
                      refine GW.iload_n (pc' := 497) dL_law_496 rfl rfl ?_
                      refine GW.iconst (pc' := 498) (v := 1) dL_law_497 rfl (by decide) ?_
                      refine GW.iadd (pc' := 499) dL_law_498 rfl ?_
                      obtain ⟨b86, h⟩ := h
                      refine GW.sload (pc' := 500) dL_law_499 rfl b86 ?_
                      refine GW.aload_n (pc' := 501) dL_law_500 rfl rfl ?_
                      refine GW.iload_n (pc' := 502) dL_law_501 rfl rfl ?_
                      refine GW.iconst (pc' := 503) (v := 2) dL_law_502 rfl (by decide) ?_
                      refine GW.iadd (pc' := 504) dL_law_503 rfl ?_
                      obtain ⟨b87, h⟩ := h
                      refine GW.sload (pc' := 505) dL_law_504 rfl b87 ?_
                      refine GW.callV (pc' := 508) (k := 0) (av := [.int (xs.2 ((v3 + 1)).toNatClampNeg), .int (xs.2 ((v3 + 2)).toNatClampNeg)]) (rest := []) dL_law_505 rfl mk_X8_thingIs lk_L_50 vk_X8_thingIs ko_0 rfl rfl (Nat.le_of_ble_eq_true rfl) (bk_i (MI.mono h (fun r88 M89 h => ?_)))
                      refine GW.aload_n (pc' := 509) dL_law_508 rfl rfl ?_
                      refine GW.aload_n (pc' := 510) dL_law_509 rfl rfl ?_
                      refine GW.iload_n (pc' := 511) dL_law_510 rfl rfl ?_
                      refine GW.iconst (pc' := 512) (v := 1) dL_law_511 rfl (by decide) ?_
                      refine GW.iadd (pc' := 513) dL_law_512 rfl ?_
                      obtain ⟨b90, h⟩ := h
                      refine GW.sload (pc' := 514) dL_law_513 rfl b90 ?_
                      refine GW.aload_n (pc' := 515) dL_law_514 rfl rfl ?_
                      refine GW.iload_n (pc' := 516) dL_law_515 rfl rfl ?_
                      refine GW.iconst (pc' := 517) (v := 2) dL_law_516 rfl (by decide) ?_
                      refine GW.iadd (pc' := 518) dL_law_517 rfl ?_
                      obtain ⟨b91, h⟩ := h
                      refine GW.sload (pc' := 519) dL_law_518 rfl b91 ?_
                      refine GW.callV (pc' := 522) (k := 64) (av := [.int (xs.2 ((v3 + 1)).toNatClampNeg), .int (xs.2 ((v3 + 2)).toNatClampNeg)]) (rest := [.int r88]) dL_law_519 rfl mk_X9_thingIs lk_L_53 vk_X9_thingIs ko_64 rfl rfl (Nat.le_of_ble_eq_true rfl) (bk_i (MI.mono h (fun r92 M93 h => ?_)))
                      refine GW.if_icmpeq (pc' := 525) (tgt := 1560) dL_law_522 rfl (by decide) (ite_i (fun c94 => ?_) (fun c94 => ?_))
                      · replace h := ite_t h c94
                        refine GW.iinc (pc' := 1563) (lv' := [(0, .ref 3000), (1, .ref 0), (2, .ref 64), (3, .int (v3 + 6))]) (v := (v3 + 6)) dL_law_1560 rfl rfl (by decide) rfl rfl rfl ?_
                        refine GW.goto (tgt := 18) dL_law_1563 (by decide) ?_
                        exact h
                      · replace h := ite_f h c94
                        refine GW.iconst (pc' := 526) (v := 0) dL_law_525 rfl (by decide) ?_
                        refine GW.zret dL_law_526 rfl (by decide) ⟨_, rfl, ?_⟩
                        exact h
                    · replace h := ite_f h c85
                      by_cases c95 : ((xs.2 v3.toNatClampNeg) &&& 63) = 9
                      · replace h := ite_t h c95
                        refine GW.tswIn (v := 9) (tgt := 527) dL_law_33 (by rw [c95]; rfl) (by decide) (by decide) rfl (by decide) ?_
                        refine GW.aload_n (pc' := 528) dL_law_527 rfl rfl ?_
                        refine GW.aload_n (pc' := 529) dL_law_528 rfl rfl ?_
                        refine GW.iload_n (pc' := 530) dL_law_529 rfl rfl ?_
                        refine GW.iconst (pc' := 531) (v := 1) dL_law_530 rfl (by decide) ?_
                        refine GW.iadd (pc' := 532) dL_law_531 rfl ?_
                        obtain ⟨b96, h⟩ := h
                        refine GW.sload (pc' := 533) dL_law_532 rfl b96 ?_
                        refine GW.aload_n (pc' := 534) dL_law_533 rfl rfl ?_
                        refine GW.iload_n (pc' := 535) dL_law_534 rfl rfl ?_
                        refine GW.iconst (pc' := 536) (v := 2) dL_law_535 rfl (by decide) ?_
                        refine GW.iadd (pc' := 537) dL_law_536 rfl ?_
                        obtain ⟨b97, h⟩ := h
                        refine GW.sload (pc' := 538) dL_law_537 rfl b97 ?_
                        refine GW.callV (pc' := 541) (k := 0) (av := [.int (xs.2 ((v3 + 1)).toNatClampNeg), .int (xs.2 ((v3 + 2)).toNatClampNeg)]) (rest := []) dL_law_538 rfl mk_X8_as lk_L_54 vk_X8_as ko_0 rfl rfl (Nat.le_of_ble_eq_true rfl) (bk_i (MI.mono h (fun r98 M99 h => ?_)))
                        refine GW.aload_n (pc' := 542) dL_law_541 rfl rfl ?_
                        refine GW.aload_n (pc' := 543) dL_law_542 rfl rfl ?_
                        refine GW.iload_n (pc' := 544) dL_law_543 rfl rfl ?_
                        refine GW.iconst (pc' := 545) (v := 1) dL_law_544 rfl (by decide) ?_
                        refine GW.iadd (pc' := 546) dL_law_545 rfl ?_
                        obtain ⟨b100, h⟩ := h
                        refine GW.sload (pc' := 547) dL_law_546 rfl b100 ?_
                        refine GW.aload_n (pc' := 548) dL_law_547 rfl rfl ?_
                        refine GW.iload_n (pc' := 549) dL_law_548 rfl rfl ?_
                        refine GW.iconst (pc' := 550) (v := 2) dL_law_549 rfl (by decide) ?_
                        refine GW.iadd (pc' := 551) dL_law_550 rfl ?_
                        obtain ⟨b101, h⟩ := h
                        refine GW.sload (pc' := 552) dL_law_551 rfl b101 ?_
                        refine GW.callV (pc' := 555) (k := 64) (av := [.int (xs.2 ((v3 + 1)).toNatClampNeg), .int (xs.2 ((v3 + 2)).toNatClampNeg)]) (rest := [.int r98]) dL_law_552 rfl mk_X9_as lk_L_57 vk_X9_as ko_64 rfl rfl (Nat.le_of_ble_eq_true rfl) (bk_i (MI.mono h (fun r102 M103 h => ?_)))
                        refine GW.if_icmpeq (pc' := 558) (tgt := 1560) dL_law_555 rfl (by decide) (ite_i (fun c104 => ?_) (fun c104 => ?_))
                        · replace h := ite_t h c104
                          refine GW.iinc (pc' := 1563) (lv' := [(0, .ref 3000), (1, .ref 0), (2, .ref 64), (3, .int (v3 + 6))]) (v := (v3 + 6)) dL_law_1560 rfl rfl (by decide) rfl rfl rfl ?_
                          refine GW.goto (tgt := 18) dL_law_1563 (by decide) ?_
                          exact h
                        · replace h := ite_f h c104
                          refine GW.iconst (pc' := 559) (v := 0) dL_law_558 rfl (by decide) ?_
                          refine GW.zret dL_law_559 rfl (by decide) ⟨_, rfl, ?_⟩
                          exact h
                      · replace h := ite_f h c95
                        by_cases c105 : ((xs.2 v3.toNatClampNeg) &&& 63) = 10
                        · replace h := ite_t h c105
                          refine GW.tswIn (v := 10) (tgt := 560) dL_law_33 (by rw [c105]; rfl) (by decide) (by decide) rfl (by decide) ?_
                          refine GW.aload_n (pc' := 561) dL_law_560 rfl rfl ?_
                          refine GW.aload_n (pc' := 562) dL_law_561 rfl rfl ?_
                          refine GW.iload_n (pc' := 563) dL_law_562 rfl rfl ?_
                          refine GW.iconst (pc' := 564) (v := 1) dL_law_563 rfl (by decide) ?_
                          refine GW.iadd (pc' := 565) dL_law_564 rfl ?_
                          obtain ⟨b106, h⟩ := h
                          refine GW.sload (pc' := 566) dL_law_565 rfl b106 ?_
                          refine GW.aload_n (pc' := 567) dL_law_566 rfl rfl ?_
                          refine GW.iload_n (pc' := 568) dL_law_567 rfl rfl ?_
                          refine GW.iconst (pc' := 569) (v := 2) dL_law_568 rfl (by decide) ?_
                          refine GW.iadd (pc' := 570) dL_law_569 rfl ?_
                          obtain ⟨b107, h⟩ := h
                          refine GW.sload (pc' := 571) dL_law_570 rfl b107 ?_
                          refine GW.aload_n (pc' := 572) dL_law_571 rfl rfl ?_
                          refine GW.iload_n (pc' := 573) dL_law_572 rfl rfl ?_
                          refine GW.iconst (pc' := 574) (v := 3) dL_law_573 rfl (by decide) ?_
                          refine GW.iadd (pc' := 575) dL_law_574 rfl ?_
                          obtain ⟨b108, h⟩ := h
                          refine GW.sload (pc' := 576) dL_law_575 rfl b108 ?_
                          refine GW.callV (pc' := 579) (k := 0) (av := [.int (xs.2 ((v3 + 1)).toNatClampNeg), .int (xs.2 ((v3 + 2)).toNatClampNeg), .int (xs.2 ((v3 + 3)).toNatClampNeg)]) (rest := []) dL_law_576 rfl mk_X8_set lk_L_58 vk_X8_set ko_0 rfl rfl (Nat.le_of_ble_eq_true rfl) (bk_i (MI.mono h (fun r109 M110 h => ?_)))
                          refine GW.aload_n (pc' := 580) dL_law_579 rfl rfl ?_
                          refine GW.aload_n (pc' := 581) dL_law_580 rfl rfl ?_
                          refine GW.iload_n (pc' := 582) dL_law_581 rfl rfl ?_
                          refine GW.iconst (pc' := 583) (v := 1) dL_law_582 rfl (by decide) ?_
                          refine GW.iadd (pc' := 584) dL_law_583 rfl ?_
                          obtain ⟨b111, h⟩ := h
                          refine GW.sload (pc' := 585) dL_law_584 rfl b111 ?_
                          refine GW.aload_n (pc' := 586) dL_law_585 rfl rfl ?_
                          refine GW.iload_n (pc' := 587) dL_law_586 rfl rfl ?_
                          refine GW.iconst (pc' := 588) (v := 2) dL_law_587 rfl (by decide) ?_
                          refine GW.iadd (pc' := 589) dL_law_588 rfl ?_
                          obtain ⟨b112, h⟩ := h
                          refine GW.sload (pc' := 590) dL_law_589 rfl b112 ?_
                          refine GW.aload_n (pc' := 591) dL_law_590 rfl rfl ?_
                          refine GW.iload_n (pc' := 592) dL_law_591 rfl rfl ?_
                          refine GW.iconst (pc' := 593) (v := 3) dL_law_592 rfl (by decide) ?_
                          refine GW.iadd (pc' := 594) dL_law_593 rfl ?_
                          obtain ⟨b113, h⟩ := h
                          refine GW.sload (pc' := 595) dL_law_594 rfl b113 ?_
                          refine GW.callV (pc' := 598) (k := 64) (av := [.int (xs.2 ((v3 + 1)).toNatClampNeg), .int (xs.2 ((v3 + 2)).toNatClampNeg), .int (xs.2 ((v3 + 3)).toNatClampNeg)]) (rest := [.int r109]) dL_law_595 rfl mk_X9_set lk_L_61 vk_X9_set ko_64 rfl rfl (Nat.le_of_ble_eq_true rfl) (bk_i (MI.mono h (fun r114 M115 h => ?_)))
                          refine GW.if_icmpeq (pc' := 601) (tgt := 1560) dL_law_598 rfl (by decide) (ite_i (fun c116 => ?_) (fun c116 => ?_))
                          · replace h := ite_t h c116
                            refine GW.iinc (pc' := 1563) (lv' := [(0, .ref 3000), (1, .ref 0), (2, .ref 64), (3, .int (v3 + 6))]) (v := (v3 + 6)) dL_law_1560 rfl rfl (by decide) rfl rfl rfl ?_
                            refine GW.goto (tgt := 18) dL_law_1563 (by decide) ?_
                            exact h
                          · replace h := ite_f h c116
                            refine GW.iconst (pc' := 602) (v := 0) dL_law_601 rfl (by decide) ?_
                            refine GW.zret dL_law_602 rfl (by decide) ⟨_, rfl, ?_⟩
                            exact h
                        · replace h := ite_f h c105
                          by_cases c117 : ((xs.2 v3.toNatClampNeg) &&& 63) = 11
                          · replace h := ite_t h c117
                            refine GW.tswIn (v := 11) (tgt := 603) dL_law_33 (by rw [c117]; rfl) (by decide) (by decide) rfl (by decide) ?_
                            refine GW.aload_n (pc' := 604) dL_law_603 rfl rfl ?_
                            refine GW.aload_n (pc' := 605) dL_law_604 rfl rfl ?_
                            refine GW.iload_n (pc' := 606) dL_law_605 rfl rfl ?_
                            refine GW.iconst (pc' := 607) (v := 1) dL_law_606 rfl (by decide) ?_
                            refine GW.iadd (pc' := 608) dL_law_607 rfl ?_
                            obtain ⟨b118, h⟩ := h
                            refine GW.sload (pc' := 609) dL_law_608 rfl b118 ?_
                            refine GW.aload_n (pc' := 610) dL_law_609 rfl rfl ?_
                            refine GW.iload_n (pc' := 611) dL_law_610 rfl rfl ?_
                            refine GW.iconst (pc' := 612) (v := 2) dL_law_611 rfl (by decide) ?_
                            refine GW.iadd (pc' := 613) dL_law_612 rfl ?_
                            obtain ⟨b119, h⟩ := h
                            refine GW.sload (pc' := 614) dL_law_613 rfl b119 ?_
                            refine GW.aload_n (pc' := 615) dL_law_614 rfl rfl ?_
                            refine GW.iload_n (pc' := 616) dL_law_615 rfl rfl ?_
                            refine GW.iconst (pc' := 617) (v := 3) dL_law_616 rfl (by decide) ?_
                            refine GW.iadd (pc' := 618) dL_law_617 rfl ?_
                            obtain ⟨b120, h⟩ := h
                            refine GW.sload (pc' := 619) dL_law_618 rfl b120 ?_
                            refine GW.callV (pc' := 622) (k := 0) (av := [.int (xs.2 ((v3 + 1)).toNatClampNeg), .int (xs.2 ((v3 + 2)).toNatClampNeg), .int (xs.2 ((v3 + 3)).toNatClampNeg)]) (rest := []) dL_law_619 rfl mk_X8_age lk_L_62 vk_X8_age ko_0 rfl rfl (Nat.le_of_ble_eq_true rfl) (bk_i (MI.mono h (fun r121 M122 h => ?_)))
                            refine GW.aload_n (pc' := 623) dL_law_622 rfl rfl ?_
                            refine GW.aload_n (pc' := 624) dL_law_623 rfl rfl ?_
                            refine GW.iload_n (pc' := 625) dL_law_624 rfl rfl ?_
                            refine GW.iconst (pc' := 626) (v := 1) dL_law_625 rfl (by decide) ?_
                            refine GW.iadd (pc' := 627) dL_law_626 rfl ?_
                            obtain ⟨b123, h⟩ := h
                            refine GW.sload (pc' := 628) dL_law_627 rfl b123 ?_
                            refine GW.aload_n (pc' := 629) dL_law_628 rfl rfl ?_
                            refine GW.iload_n (pc' := 630) dL_law_629 rfl rfl ?_
                            refine GW.iconst (pc' := 631) (v := 2) dL_law_630 rfl (by decide) ?_
                            refine GW.iadd (pc' := 632) dL_law_631 rfl ?_
                            obtain ⟨b124, h⟩ := h
                            refine GW.sload (pc' := 633) dL_law_632 rfl b124 ?_
                            refine GW.aload_n (pc' := 634) dL_law_633 rfl rfl ?_
                            refine GW.iload_n (pc' := 635) dL_law_634 rfl rfl ?_
                            refine GW.iconst (pc' := 636) (v := 3) dL_law_635 rfl (by decide) ?_
                            refine GW.iadd (pc' := 637) dL_law_636 rfl ?_
                            obtain ⟨b125, h⟩ := h
                            refine GW.sload (pc' := 638) dL_law_637 rfl b125 ?_
                            refine GW.callV (pc' := 641) (k := 64) (av := [.int (xs.2 ((v3 + 1)).toNatClampNeg), .int (xs.2 ((v3 + 2)).toNatClampNeg), .int (xs.2 ((v3 + 3)).toNatClampNeg)]) (rest := [.int r121]) dL_law_638 rfl mk_X9_age lk_L_65 vk_X9_age ko_64 rfl rfl (Nat.le_of_ble_eq_true rfl) (bk_i (MI.mono h (fun r126 M127 h => ?_)))
                            refine GW.if_icmpeq (pc' := 644) (tgt := 1560) dL_law_641 rfl (by decide) (ite_i (fun c128 => ?_) (fun c128 => ?_))
                            · replace h := ite_t h c128
                              refine GW.iinc (pc' := 1563) (lv' := [(0, .ref 3000), (1, .ref 0), (2, .ref 64), (3, .int (v3 + 6))]) (v := (v3 + 6)) dL_law_1560 rfl rfl (by decide) rfl rfl rfl ?_
                              refine GW.goto (tgt := 18) dL_law_1563 (by decide) ?_
                              exact h
                            · replace h := ite_f h c128
                              refine GW.iconst (pc' := 645) (v := 0) dL_law_644 rfl (by decide) ?_
                              refine GW.zret dL_law_645 rfl (by decide) ⟨_, rfl, ?_⟩
                              exact h
                          · replace h := ite_f h c117
                            by_cases c129 : ((xs.2 v3.toNatClampNeg) &&& 63) = 12
                            · replace h := ite_t h c129
                              refine GW.tswIn (v := 12) (tgt := 646) dL_law_33 (by rw [c129]; rfl) (by decide) (by decide) rfl (by decide) ?_
                              refine GW.aload_n (pc' := 647) dL_law_646 rfl rfl ?_
                              refine GW.aload_n (pc' := 648) dL_law_647 rfl rfl ?_
                              refine GW.iload_n (pc' := 649) dL_law_648 rfl rfl ?_
                              refine GW.iconst (pc' := 650) (v := 1) dL_law_649 rfl (by decide) ?_
                              refine GW.iadd (pc' := 651) dL_law_650 rfl ?_
                              obtain ⟨b130, h⟩ := h
                              refine GW.sload (pc' := 652) dL_law_651 rfl b130 ?_
                              refine GW.aload_n (pc' := 653) dL_law_652 rfl rfl ?_
                              refine GW.iload_n (pc' := 654) dL_law_653 rfl rfl ?_
                              refine GW.iconst (pc' := 655) (v := 2) dL_law_654 rfl (by decide) ?_
                              refine GW.iadd (pc' := 656) dL_law_655 rfl ?_
                              obtain ⟨b131, h⟩ := h
                              refine GW.sload (pc' := 657) dL_law_656 rfl b131 ?_
                              refine GW.aload_n (pc' := 658) dL_law_657 rfl rfl ?_
                              refine GW.iload_n (pc' := 659) dL_law_658 rfl rfl ?_
                              refine GW.iconst (pc' := 660) (v := 3) dL_law_659 rfl (by decide) ?_
                              refine GW.iadd (pc' := 661) dL_law_660 rfl ?_
                              obtain ⟨b132, h⟩ := h
                              refine GW.sload (pc' := 662) dL_law_661 rfl b132 ?_
                              refine GW.callV (pc' := 665) (k := 0) (av := [.int (xs.2 ((v3 + 1)).toNatClampNeg), .int (xs.2 ((v3 + 2)).toNatClampNeg), .int (xs.2 ((v3 + 3)).toNatClampNeg)]) (rest := []) dL_law_662 rfl mk_X8_comes lk_L_66 vk_X8_comes ko_0 rfl rfl (Nat.le_of_ble_eq_true rfl) (bk_i (MI.mono h (fun r133 M134 h => ?_)))
                              refine GW.aload_n (pc' := 666) dL_law_665 rfl rfl ?_
                              refine GW.aload_n (pc' := 667) dL_law_666 rfl rfl ?_
                              refine GW.iload_n (pc' := 668) dL_law_667 rfl rfl ?_
                              refine GW.iconst (pc' := 669) (v := 1) dL_law_668 rfl (by decide) ?_
                              refine GW.iadd (pc' := 670) dL_law_669 rfl ?_
                              obtain ⟨b135, h⟩ := h
                              refine GW.sload (pc' := 671) dL_law_670 rfl b135 ?_
                              refine GW.aload_n (pc' := 672) dL_law_671 rfl rfl ?_
                              refine GW.iload_n (pc' := 673) dL_law_672 rfl rfl ?_
                              refine GW.iconst (pc' := 674) (v := 2) dL_law_673 rfl (by decide) ?_
                              refine GW.iadd (pc' := 675) dL_law_674 rfl ?_
                              obtain ⟨b136, h⟩ := h
                              refine GW.sload (pc' := 676) dL_law_675 rfl b136 ?_
                              refine GW.aload_n (pc' := 677) dL_law_676 rfl rfl ?_
                              refine GW.iload_n (pc' := 678) dL_law_677 rfl rfl ?_
                              refine GW.iconst (pc' := 679) (v := 3) dL_law_678 rfl (by decide) ?_
                              refine GW.iadd (pc' := 680) dL_law_679 rfl ?_
                              obtain ⟨b137, h⟩ := h
                              refine GW.sload (pc' := 681) dL_law_680 rfl b137 ?_
                              refine GW.callV (pc' := 684) (k := 64) (av := [.int (xs.2 ((v3 + 1)).toNatClampNeg), .int (xs.2 ((v3 + 2)).toNatClampNeg), .int (xs.2 ((v3 + 3)).toNatClampNeg)]) (rest := [.int r133]) dL_law_681 rfl mk_X9_comes lk_L_69 vk_X9_comes ko_64 rfl rfl (Nat.le_of_ble_eq_true rfl) (bk_i (MI.mono h (fun r138 M139 h => ?_)))
                              refine GW.if_icmpeq (pc' := 687) (tgt := 1560) dL_law_684 rfl (by decide) (ite_i (fun c140 => ?_) (fun c140 => ?_))
                              · replace h := ite_t h c140
                                refine GW.iinc (pc' := 1563) (lv' := [(0, .ref 3000), (1, .ref 0), (2, .ref 64), (3, .int (v3 + 6))]) (v := (v3 + 6)) dL_law_1560 rfl rfl (by decide) rfl rfl rfl ?_
                                refine GW.goto (tgt := 18) dL_law_1563 (by decide) ?_
                                exact h
                              · replace h := ite_f h c140
                                refine GW.iconst (pc' := 688) (v := 0) dL_law_687 rfl (by decide) ?_
                                refine GW.zret dL_law_688 rfl (by decide) ⟨_, rfl, ?_⟩
                                exact h
                            · replace h := ite_f h c129
                              by_cases c141 : ((xs.2 v3.toNatClampNeg) &&& 63) = 13
                              · replace h := ite_t h c141
                                refine GW.tswIn (v := 13) (tgt := 689) dL_law_33 (by rw [c141]; rfl) (by decide) (by decide) rfl (by decide) ?_
                                refine GW.aload_n (pc' := 690) dL_law_689 rfl rfl ?_
                                refine GW.aload_n (pc' := 691) dL_law_690 rfl rfl ?_
                                refine GW.iload_n (pc' := 692) dL_law_691 rfl rfl ?_
                                refine GW.iconst (pc' := 693) (v := 1) dL_law_692 rfl (by decide) ?_
                                refine GW.iadd (pc' := 694) dL_law_693 rfl ?_
                                obtain ⟨b142, h⟩ := h
                                refine GW.sload (pc' := 695) dL_law_694 rfl b142 ?_
                                refine GW.aload_n (pc' := 696) dL_law_695 rfl rfl ?_
                                refine GW.iload_n (pc' := 697) dL_law_696 rfl rfl ?_
                                refine GW.iconst (pc' := 698) (v := 2) dL_law_697 rfl (by decide) ?_
                                refine GW.iadd (pc' := 699) dL_law_698 rfl ?_
                                obtain ⟨b143, h⟩ := h
                                refine GW.sload (pc' := 700) dL_law_699 rfl b143 ?_
                                refine GW.callV (pc' := 703) (k := 0) (av := [.int (xs.2 ((v3 + 1)).toNatClampNeg), .int (xs.2 ((v3 + 2)).toNatClampNeg)]) (rest := []) dL_law_700 rfl mk_X8_where lk_L_70 vk_X8_where ko_0 rfl rfl (Nat.le_of_ble_eq_true rfl) (bk_i (MI.mono h (fun r144 M145 h => ?_)))
                                refine GW.aload_n (pc' := 704) dL_law_703 rfl rfl ?_
                                refine GW.aload_n (pc' := 705) dL_law_704 rfl rfl ?_
                                refine GW.iload_n (pc' := 706) dL_law_705 rfl rfl ?_
                                refine GW.iconst (pc' := 707) (v := 1) dL_law_706 rfl (by decide) ?_
                                refine GW.iadd (pc' := 708) dL_law_707 rfl ?_
                                obtain ⟨b146, h⟩ := h
                                refine GW.sload (pc' := 709) dL_law_708 rfl b146 ?_
                                refine GW.aload_n (pc' := 710) dL_law_709 rfl rfl ?_
                                refine GW.iload_n (pc' := 711) dL_law_710 rfl rfl ?_
                                refine GW.iconst (pc' := 712) (v := 2) dL_law_711 rfl (by decide) ?_
                                refine GW.iadd (pc' := 713) dL_law_712 rfl ?_
                                obtain ⟨b147, h⟩ := h
                                refine GW.sload (pc' := 714) dL_law_713 rfl b147 ?_
                                refine GW.callV (pc' := 717) (k := 64) (av := [.int (xs.2 ((v3 + 1)).toNatClampNeg), .int (xs.2 ((v3 + 2)).toNatClampNeg)]) (rest := [.int r144]) dL_law_714 rfl mk_X9_where lk_L_73 vk_X9_where ko_64 rfl rfl (Nat.le_of_ble_eq_true rfl) (bk_i (MI.mono h (fun r148 M149 h => ?_)))
                                refine GW.if_icmpeq (pc' := 720) (tgt := 1560) dL_law_717 rfl (by decide) (ite_i (fun c150 => ?_) (fun c150 => ?_))
                                · replace h := ite_t h c150
                                  refine GW.iinc (pc' := 1563) (lv' := [(0, .ref 3000), (1, .ref 0), (2, .ref 64), (3, .int (v3 + 6))]) (v := (v3 + 6)) dL_law_1560 rfl rfl (by decide) rfl rfl rfl ?_
                                  refine GW.goto (tgt := 18) dL_law_1563 (by decide) ?_
                                  exact h
                                · replace h := ite_f h c150
                                  refine GW.iconst (pc' := 721) (v := 0) dL_law_720 rfl (by decide) ?_
                                  refine GW.zret dL_law_721 rfl (by decide) ⟨_, rfl, ?_⟩
                                  exact h
                              · replace h := ite_f h c141
                                by_cases c151 : ((xs.2 v3.toNatClampNeg) &&& 63) = 14
                                · replace h := ite_t h c151
                                  refine GW.tswIn (v := 14) (tgt := 722) dL_law_33 (by rw [c151]; rfl) (by decide) (by decide) rfl (by decide) ?_
                                  refine GW.aload_n (pc' := 723) dL_law_722 rfl rfl ?_
                                  refine GW.callV (pc' := 726) (k := 0) (av := []) (rest := []) dL_law_723 rfl mk_X8_twins lk_L_74 vk_X8_twins ko_0 rfl rfl (Nat.le_of_ble_eq_true rfl) (bk_i (MI.mono h (fun r152 M153 h => ?_)))
                                  refine GW.aload_n (pc' := 727) dL_law_726 rfl rfl ?_
                                  refine GW.callV (pc' := 730) (k := 64) (av := []) (rest := [.int r152]) dL_law_727 rfl mk_X9_twins lk_L_77 vk_X9_twins ko_64 rfl rfl (Nat.le_of_ble_eq_true rfl) (bk_i (MI.mono h (fun r154 M155 h => ?_)))
                                  refine GW.if_icmpeq (pc' := 733) (tgt := 1560) dL_law_730 rfl (by decide) (ite_i (fun c156 => ?_) (fun c156 => ?_))
                                  · replace h := ite_t h c156
                                    refine GW.iinc (pc' := 1563) (lv' := [(0, .ref 3000), (1, .ref 0), (2, .ref 64), (3, .int (v3 + 6))]) (v := (v3 + 6)) dL_law_1560 rfl rfl (by decide) rfl rfl rfl ?_
                                    refine GW.goto (tgt := 18) dL_law_1563 (by decide) ?_
                                    exact h
                                  · replace h := ite_f h c156
                                    refine GW.iconst (pc' := 734) (v := 0) dL_law_733 rfl (by decide) ?_
                                    refine GW.zret dL_law_734 rfl (by decide) ⟨_, rfl, ?_⟩
                                    exact h
                                · replace h := ite_f h c151
                                  by_cases c157 : ((xs.2 v3.toNatClampNeg) &&& 63) = 15
                                  · replace h := ite_t h c157
                                    refine GW.tswIn (v := 15) (tgt := 735) dL_law_33 (by rw [c157]; rfl) (by decide) (by decide) rfl (by decide) ?_
                                    refine GW.aload_n (pc' := 736) dL_law_735 rfl rfl ?_
                                    refine GW.aload_n (pc' := 737) dL_law_736 rfl rfl ?_
                                    refine GW.iload_n (pc' := 738) dL_law_737 rfl rfl ?_
                                    refine GW.iconst (pc' := 739) (v := 1) dL_law_738 rfl (by decide) ?_
                                    refine GW.iadd (pc' := 740) dL_law_739 rfl ?_
                                    obtain ⟨b158, h⟩ := h
                                    refine GW.sload (pc' := 741) dL_law_740 rfl b158 ?_
                                    refine GW.i2l (pc' := 742) dL_law_741 rfl ?_
                                    refine GW.bipush (pc' := 744) (v := 32) dL_law_742 rfl (by decide) ?_
                                    refine GW.lshl (pc' := 745) dL_law_744 rfl ?_
                                    refine GW.aload_n (pc' := 746) dL_law_745 rfl rfl ?_
                                    refine GW.iload_n (pc' := 747) dL_law_746 rfl rfl ?_
                                    refine GW.iconst (pc' := 748) (v := 2) dL_law_747 rfl (by decide) ?_
                                    refine GW.iadd (pc' := 749) dL_law_748 rfl ?_
                                    obtain ⟨b159, h⟩ := h
                                    refine GW.sload (pc' := 750) dL_law_749 rfl b159 ?_
                                    refine GW.i2l (pc' := 751) dL_law_750 rfl ?_
                                    refine GW.ldc2 (pc' := 754) (v := 4294967295) dL_law_751 rfl ck_L_78 ?_
                                    refine GW.land (pc' := 755) dL_law_754 rfl ?_
                                    refine GW.lor (pc' := 756) dL_law_755 rfl ?_
                                    refine GW.aload_n (pc' := 757) dL_law_756 rfl rfl ?_
                                    refine GW.iload_n (pc' := 758) dL_law_757 rfl rfl ?_
                                    refine GW.iconst (pc' := 759) (v := 3) dL_law_758 rfl (by decide) ?_
                                    refine GW.iadd (pc' := 760) dL_law_759 rfl ?_
                                    obtain ⟨b160, h⟩ := h
                                    refine GW.sload (pc' := 761) dL_law_760 rfl b160 ?_
                                    refine GW.callV (pc' := 764) (k := 0) (av := [.long ((((xs.2 ((v3 + 1)).toNatClampNeg).toInt64) <<< ((32 : Int32).toInt64 &&& 63)) ||| ((xs.2 ((v3 + 2)).toNatClampNeg).toInt64 &&& 4294967295)), .int (xs.2 ((v3 + 3)).toNatClampNeg)]) (rest := []) dL_law_761 rfl mk_X8_feed lk_L_80 vk_X8_feed ko_0 rfl rfl (Nat.le_of_ble_eq_true rfl) (bk_i (MI.mono h (fun r161 M162 h => ?_)))
                                    refine GW.aload_n (pc' := 765) dL_law_764 rfl rfl ?_
                                    refine GW.aload_n (pc' := 766) dL_law_765 rfl rfl ?_
                                    refine GW.iload_n (pc' := 767) dL_law_766 rfl rfl ?_
                                    refine GW.iconst (pc' := 768) (v := 1) dL_law_767 rfl (by decide) ?_
                                    refine GW.iadd (pc' := 769) dL_law_768 rfl ?_
                                    obtain ⟨b163, h⟩ := h
                                    refine GW.sload (pc' := 770) dL_law_769 rfl b163 ?_
                                    refine GW.i2l (pc' := 771) dL_law_770 rfl ?_
                                    refine GW.bipush (pc' := 773) (v := 32) dL_law_771 rfl (by decide) ?_
                                    refine GW.lshl (pc' := 774) dL_law_773 rfl ?_
                                    refine GW.aload_n (pc' := 775) dL_law_774 rfl rfl ?_
                                    refine GW.iload_n (pc' := 776) dL_law_775 rfl rfl ?_
                                    refine GW.iconst (pc' := 777) (v := 2) dL_law_776 rfl (by decide) ?_
                                    refine GW.iadd (pc' := 778) dL_law_777 rfl ?_
                                    obtain ⟨b164, h⟩ := h
                                    refine GW.sload (pc' := 779) dL_law_778 rfl b164 ?_
                                    refine GW.i2l (pc' := 780) dL_law_779 rfl ?_
                                    refine GW.ldc2 (pc' := 783) (v := 4294967295) dL_law_780 rfl ck_L_78 ?_
                                    refine GW.land (pc' := 784) dL_law_783 rfl ?_
                                    refine GW.lor (pc' := 785) dL_law_784 rfl ?_
                                    refine GW.aload_n (pc' := 786) dL_law_785 rfl rfl ?_
                                    refine GW.iload_n (pc' := 787) dL_law_786 rfl rfl ?_
                                    refine GW.iconst (pc' := 788) (v := 3) dL_law_787 rfl (by decide) ?_
                                    refine GW.iadd (pc' := 789) dL_law_788 rfl ?_
                                    obtain ⟨b165, h⟩ := h
                                    refine GW.sload (pc' := 790) dL_law_789 rfl b165 ?_
                                    refine GW.callV (pc' := 793) (k := 64) (av := [.long ((((xs.2 ((v3 + 1)).toNatClampNeg).toInt64) <<< ((32 : Int32).toInt64 &&& 63)) ||| ((xs.2 ((v3 + 2)).toNatClampNeg).toInt64 &&& 4294967295)), .int (xs.2 ((v3 + 3)).toNatClampNeg)]) (rest := [.int r161]) dL_law_790 rfl mk_X9_feed lk_L_84 vk_X9_feed ko_64 rfl rfl (Nat.le_of_ble_eq_true rfl) (bk_i (MI.mono h (fun r166 M167 h => ?_)))
                                    refine GW.if_icmpeq (pc' := 796) (tgt := 1560) dL_law_793 rfl (by decide) (ite_i (fun c168 => ?_) (fun c168 => ?_))
                                    · replace h := ite_t h c168
                                      refine GW.iinc (pc' := 1563) (lv' := [(0, .ref 3000), (1, .ref 0), (2, .ref 64), (3, .int (v3 + 6))]) (v := (v3 + 6)) dL_law_1560 rfl rfl (by decide) rfl rfl rfl ?_
                                      refine GW.goto (tgt := 18) dL_law_1563 (by decide) ?_
                                      exact h
                                    · replace h := ite_f h c168
                                      refine GW.iconst (pc' := 797) (v := 0) dL_law_796 rfl (by decide) ?_
                                      refine GW.zret dL_law_797 rfl (by decide) ⟨_, rfl, ?_⟩
                                      exact h
                                  · replace h := ite_f h c157
                                    by_cases c169 : ((xs.2 v3.toNatClampNeg) &&& 63) = 16
                                    · replace h := ite_t h c169
                                      refine GW.tswIn (v := 16) (tgt := 798) dL_law_33 (by rw [c169]; rfl) (by decide) (by decide) rfl (by decide) ?_
                                      refine GW.aload_n (pc' := 799) dL_law_798 rfl rfl ?_
                                      refine GW.aload_n (pc' := 800) dL_law_799 rfl rfl ?_
                                      refine GW.iload_n (pc' := 801) dL_law_800 rfl rfl ?_
                                      refine GW.iconst (pc' := 802) (v := 1) dL_law_801 rfl (by decide) ?_
                                      refine GW.iadd (pc' := 803) dL_law_802 rfl ?_
                                      obtain ⟨b170, h⟩ := h
                                      refine GW.sload (pc' := 804) dL_law_803 rfl b170 ?_
                                      refine GW.callV (pc' := 807) (k := 0) (av := [.int (xs.2 ((v3 + 1)).toNatClampNeg)]) (rest := []) dL_law_804 rfl mk_X8_text lk_L_85 vk_X8_text ko_0 rfl rfl (Nat.le_of_ble_eq_true rfl) (bk_i (MI.mono h (fun r171 M172 h => ?_)))
                                      refine GW.aload_n (pc' := 808) dL_law_807 rfl rfl ?_
                                      refine GW.aload_n (pc' := 809) dL_law_808 rfl rfl ?_
                                      refine GW.iload_n (pc' := 810) dL_law_809 rfl rfl ?_
                                      refine GW.iconst (pc' := 811) (v := 1) dL_law_810 rfl (by decide) ?_
                                      refine GW.iadd (pc' := 812) dL_law_811 rfl ?_
                                      obtain ⟨b173, h⟩ := h
                                      refine GW.sload (pc' := 813) dL_law_812 rfl b173 ?_
                                      refine GW.callV (pc' := 816) (k := 64) (av := [.int (xs.2 ((v3 + 1)).toNatClampNeg)]) (rest := [.int r171]) dL_law_813 rfl mk_X9_text lk_L_88 vk_X9_text ko_64 rfl rfl (Nat.le_of_ble_eq_true rfl) (bk_i (MI.mono h (fun r174 M175 h => ?_)))
                                      refine GW.if_icmpeq (pc' := 819) (tgt := 1560) dL_law_816 rfl (by decide) (ite_i (fun c176 => ?_) (fun c176 => ?_))
                                      · replace h := ite_t h c176
                                        refine GW.iinc (pc' := 1563) (lv' := [(0, .ref 3000), (1, .ref 0), (2, .ref 64), (3, .int (v3 + 6))]) (v := (v3 + 6)) dL_law_1560 rfl rfl (by decide) rfl rfl rfl ?_
                                        refine GW.goto (tgt := 18) dL_law_1563 (by decide) ?_
                                        exact h
                                      · replace h := ite_f h c176
                                        refine GW.iconst (pc' := 820) (v := 0) dL_law_819 rfl (by decide) ?_
                                        refine GW.zret dL_law_820 rfl (by decide) ⟨_, rfl, ?_⟩
                                        exact h
                                    · replace h := ite_f h c169
                                      by_cases c177 : ((xs.2 v3.toNatClampNeg) &&& 63) = 17
                                      · replace h := ite_t h c177
                                        refine GW.tswIn (v := 17) (tgt := 821) dL_law_33 (by rw [c177]; rfl) (by decide) (by decide) rfl (by decide) ?_
                                        refine GW.aload_n (pc' := 822) dL_law_821 rfl rfl ?_
                                        refine GW.aload_n (pc' := 823) dL_law_822 rfl rfl ?_
                                        refine GW.iload_n (pc' := 824) dL_law_823 rfl rfl ?_
                                        refine GW.iconst (pc' := 825) (v := 1) dL_law_824 rfl (by decide) ?_
                                        refine GW.iadd (pc' := 826) dL_law_825 rfl ?_
                                        obtain ⟨b178, h⟩ := h
                                        refine GW.sload (pc' := 827) dL_law_826 rfl b178 ?_
                                        refine GW.callV (pc' := 830) (k := 0) (av := [.int (xs.2 ((v3 + 1)).toNatClampNeg)]) (rest := []) dL_law_827 rfl mk_X8_untell lk_L_89 vk_X8_untell ko_0 rfl rfl (Nat.le_of_ble_eq_true rfl) (bk_i (MI.mono h (fun r179 M180 h => ?_)))
                                        refine GW.aload_n (pc' := 831) dL_law_830 rfl rfl ?_
                                        refine GW.aload_n (pc' := 832) dL_law_831 rfl rfl ?_
                                        refine GW.iload_n (pc' := 833) dL_law_832 rfl rfl ?_
                                        refine GW.iconst (pc' := 834) (v := 1) dL_law_833 rfl (by decide) ?_
                                        refine GW.iadd (pc' := 835) dL_law_834 rfl ?_
                                        obtain ⟨b181, h⟩ := h
                                        refine GW.sload (pc' := 836) dL_law_835 rfl b181 ?_
                                        refine GW.callV (pc' := 839) (k := 64) (av := [.int (xs.2 ((v3 + 1)).toNatClampNeg)]) (rest := [.int r179]) dL_law_836 rfl mk_X9_untell lk_L_92 vk_X9_untell ko_64 rfl rfl (Nat.le_of_ble_eq_true rfl) (bk_i (MI.mono h (fun r182 M183 h => ?_)))
                                        refine GW.if_icmpeq (pc' := 842) (tgt := 1560) dL_law_839 rfl (by decide) (ite_i (fun c184 => ?_) (fun c184 => ?_))
                                        · replace h := ite_t h c184
                                          refine GW.iinc (pc' := 1563) (lv' := [(0, .ref 3000), (1, .ref 0), (2, .ref 64), (3, .int (v3 + 6))]) (v := (v3 + 6)) dL_law_1560 rfl rfl (by decide) rfl rfl rfl ?_
                                          refine GW.goto (tgt := 18) dL_law_1563 (by decide) ?_
                                          exact h
                                        · replace h := ite_f h c184
                                          refine GW.iconst (pc' := 843) (v := 0) dL_law_842 rfl (by decide) ?_
                                          refine GW.zret dL_law_843 rfl (by decide) ⟨_, rfl, ?_⟩
                                          exact h
                                      · replace h := ite_f h c177
                                        by_cases c185 : ((xs.2 v3.toNatClampNeg) &&& 63) = 18
                                        · replace h := ite_t h c185
                                          refine GW.tswIn (v := 18) (tgt := 844) dL_law_33 (by rw [c185]; rfl) (by decide) (by decide) rfl (by decide) ?_
                                          refine GW.aload_n (pc' := 845) dL_law_844 rfl rfl ?_
                                          refine GW.aload_n (pc' := 846) dL_law_845 rfl rfl ?_
                                          refine GW.iload_n (pc' := 847) dL_law_846 rfl rfl ?_
                                          refine GW.iconst (pc' := 848) (v := 1) dL_law_847 rfl (by decide) ?_
                                          refine GW.iadd (pc' := 849) dL_law_848 rfl ?_
                                          obtain ⟨b186, h⟩ := h
                                          refine GW.sload (pc' := 850) dL_law_849 rfl b186 ?_
                                          refine GW.aload_n (pc' := 851) dL_law_850 rfl rfl ?_
                                          refine GW.iload_n (pc' := 852) dL_law_851 rfl rfl ?_
                                          refine GW.iconst (pc' := 853) (v := 2) dL_law_852 rfl (by decide) ?_
                                          refine GW.iadd (pc' := 854) dL_law_853 rfl ?_
                                          obtain ⟨b187, h⟩ := h
                                          refine GW.sload (pc' := 855) dL_law_854 rfl b187 ?_
                                          refine GW.callV (pc' := 858) (k := 0) (av := [.int (xs.2 ((v3 + 1)).toNatClampNeg), .int (xs.2 ((v3 + 2)).toNatClampNeg)]) (rest := []) dL_law_855 rfl mk_X8_paper lk_L_93 vk_X8_paper ko_0 rfl rfl (Nat.le_of_ble_eq_true rfl) (bk_i (MI.mono h (fun r188 M189 h => ?_)))
                                          refine GW.aload_n (pc' := 859) dL_law_858 rfl rfl ?_
                                          refine GW.aload_n (pc' := 860) dL_law_859 rfl rfl ?_
                                          refine GW.iload_n (pc' := 861) dL_law_860 rfl rfl ?_
                                          refine GW.iconst (pc' := 862) (v := 1) dL_law_861 rfl (by decide) ?_
                                          refine GW.iadd (pc' := 863) dL_law_862 rfl ?_
                                          obtain ⟨b190, h⟩ := h
                                          refine GW.sload (pc' := 864) dL_law_863 rfl b190 ?_
                                          refine GW.aload_n (pc' := 865) dL_law_864 rfl rfl ?_
                                          refine GW.iload_n (pc' := 866) dL_law_865 rfl rfl ?_
                                          refine GW.iconst (pc' := 867) (v := 2) dL_law_866 rfl (by decide) ?_
                                          refine GW.iadd (pc' := 868) dL_law_867 rfl ?_
                                          obtain ⟨b191, h⟩ := h
                                          refine GW.sload (pc' := 869) dL_law_868 rfl b191 ?_
                                          refine GW.callV (pc' := 872) (k := 64) (av := [.int (xs.2 ((v3 + 1)).toNatClampNeg), .int (xs.2 ((v3 + 2)).toNatClampNeg)]) (rest := [.int r188]) dL_law_869 rfl mk_X9_paper lk_L_96 vk_X9_paper ko_64 rfl rfl (Nat.le_of_ble_eq_true rfl) (bk_i (MI.mono h (fun r192 M193 h => ?_)))
                                          refine GW.if_icmpeq (pc' := 875) (tgt := 1560) dL_law_872 rfl (by decide) (ite_i (fun c194 => ?_) (fun c194 => ?_))
                                          · replace h := ite_t h c194
                                            refine GW.iinc (pc' := 1563) (lv' := [(0, .ref 3000), (1, .ref 0), (2, .ref 64), (3, .int (v3 + 6))]) (v := (v3 + 6)) dL_law_1560 rfl rfl (by decide) rfl rfl rfl ?_
                                            refine GW.goto (tgt := 18) dL_law_1563 (by decide) ?_
                                            exact h
                                          · replace h := ite_f h c194
                                            refine GW.iconst (pc' := 876) (v := 0) dL_law_875 rfl (by decide) ?_
                                            refine GW.zret dL_law_876 rfl (by decide) ⟨_, rfl, ?_⟩
                                            exact h
                                        · replace h := ite_f h c185
                                          by_cases c195 : ((xs.2 v3.toNatClampNeg) &&& 63) = 19
                                          · replace h := ite_t h c195
                                            refine GW.tswIn (v := 19) (tgt := 877) dL_law_33 (by rw [c195]; rfl) (by decide) (by decide) rfl (by decide) ?_
                                            refine GW.aload_n (pc' := 878) dL_law_877 rfl rfl ?_
                                            refine GW.aload_n (pc' := 879) dL_law_878 rfl rfl ?_
                                            refine GW.iload_n (pc' := 880) dL_law_879 rfl rfl ?_
                                            refine GW.iconst (pc' := 881) (v := 1) dL_law_880 rfl (by decide) ?_
                                            refine GW.iadd (pc' := 882) dL_law_881 rfl ?_
                                            obtain ⟨b196, h⟩ := h
                                            refine GW.sload (pc' := 883) dL_law_882 rfl b196 ?_
                                            refine GW.aload_n (pc' := 884) dL_law_883 rfl rfl ?_
                                            refine GW.iload_n (pc' := 885) dL_law_884 rfl rfl ?_
                                            refine GW.iconst (pc' := 886) (v := 2) dL_law_885 rfl (by decide) ?_
                                            refine GW.iadd (pc' := 887) dL_law_886 rfl ?_
                                            obtain ⟨b197, h⟩ := h
                                            refine GW.sload (pc' := 888) dL_law_887 rfl b197 ?_
                                            refine GW.callV (pc' := 891) (k := 0) (av := [.int (xs.2 ((v3 + 1)).toNatClampNeg), .int (xs.2 ((v3 + 2)).toNatClampNeg)]) (rest := []) dL_law_888 rfl mk_X8_paperIs lk_L_97 vk_X8_paperIs ko_0 rfl rfl (Nat.le_of_ble_eq_true rfl) (bk_i (MI.mono h (fun r198 M199 h => ?_)))
                                            refine GW.aload_n (pc' := 892) dL_law_891 rfl rfl ?_
                                            refine GW.aload_n (pc' := 893) dL_law_892 rfl rfl ?_
                                            refine GW.iload_n (pc' := 894) dL_law_893 rfl rfl ?_
                                            refine GW.iconst (pc' := 895) (v := 1) dL_law_894 rfl (by decide) ?_
                                            refine GW.iadd (pc' := 896) dL_law_895 rfl ?_
                                            obtain ⟨b200, h⟩ := h
                                            refine GW.sload (pc' := 897) dL_law_896 rfl b200 ?_
                                            refine GW.aload_n (pc' := 898) dL_law_897 rfl rfl ?_
                                            refine GW.iload_n (pc' := 899) dL_law_898 rfl rfl ?_
                                            refine GW.iconst (pc' := 900) (v := 2) dL_law_899 rfl (by decide) ?_
                                            refine GW.iadd (pc' := 901) dL_law_900 rfl ?_
                                            obtain ⟨b201, h⟩ := h
                                            refine GW.sload (pc' := 902) dL_law_901 rfl b201 ?_
                                            refine GW.callV (pc' := 905) (k := 64) (av := [.int (xs.2 ((v3 + 1)).toNatClampNeg), .int (xs.2 ((v3 + 2)).toNatClampNeg)]) (rest := [.int r198]) dL_law_902 rfl mk_X9_paperIs lk_L_100 vk_X9_paperIs ko_64 rfl rfl (Nat.le_of_ble_eq_true rfl) (bk_i (MI.mono h (fun r202 M203 h => ?_)))
                                            refine GW.if_icmpeq (pc' := 908) (tgt := 1560) dL_law_905 rfl (by decide) (ite_i (fun c204 => ?_) (fun c204 => ?_))
                                            · replace h := ite_t h c204
                                              refine GW.iinc (pc' := 1563) (lv' := [(0, .ref 3000), (1, .ref 0), (2, .ref 64), (3, .int (v3 + 6))]) (v := (v3 + 6)) dL_law_1560 rfl rfl (by decide) rfl rfl rfl ?_
                                              refine GW.goto (tgt := 18) dL_law_1563 (by decide) ?_
                                              exact h
                                            · replace h := ite_f h c204
                                              refine GW.iconst (pc' := 909) (v := 0) dL_law_908 rfl (by decide) ?_
                                              refine GW.zret dL_law_909 rfl (by decide) ⟨_, rfl, ?_⟩
                                              exact h
                                          · replace h := ite_f h c195
                                            by_cases c205 : ((xs.2 v3.toNatClampNeg) &&& 63) = 20
                                            · replace h := ite_t h c205
                                              refine GW.tswIn (v := 20) (tgt := 910) dL_law_33 (by rw [c205]; rfl) (by decide) (by decide) rfl (by decide) ?_
                                              refine GW.aload_n (pc' := 911) dL_law_910 rfl rfl ?_
                                              refine GW.callV (pc' := 914) (k := 0) (av := []) (rest := []) dL_law_911 rfl mk_X8_burn lk_L_101 vk_X8_burn ko_0 rfl rfl (Nat.le_of_ble_eq_true rfl) (bk_i (MI.mono h (fun r206 M207 h => ?_)))
                                              refine GW.aload_n (pc' := 915) dL_law_914 rfl rfl ?_
                                              refine GW.callV (pc' := 918) (k := 64) (av := []) (rest := [.int r206]) dL_law_915 rfl mk_X9_burn lk_L_104 vk_X9_burn ko_64 rfl rfl (Nat.le_of_ble_eq_true rfl) (bk_i (MI.mono h (fun r208 M209 h => ?_)))
                                              refine GW.if_icmpeq (pc' := 921) (tgt := 1560) dL_law_918 rfl (by decide) (ite_i (fun c210 => ?_) (fun c210 => ?_))
                                              · replace h := ite_t h c210
                                                refine GW.iinc (pc' := 1563) (lv' := [(0, .ref 3000), (1, .ref 0), (2, .ref 64), (3, .int (v3 + 6))]) (v := (v3 + 6)) dL_law_1560 rfl rfl (by decide) rfl rfl rfl ?_
                                                refine GW.goto (tgt := 18) dL_law_1563 (by decide) ?_
                                                exact h
                                              · replace h := ite_f h c210
                                                refine GW.iconst (pc' := 922) (v := 0) dL_law_921 rfl (by decide) ?_
                                                refine GW.zret dL_law_922 rfl (by decide) ⟨_, rfl, ?_⟩
                                                exact h
                                            · replace h := ite_f h c205
                                              by_cases c211 : ((xs.2 v3.toNatClampNeg) &&& 63) = 21
                                              · replace h := ite_t h c211
                                                refine GW.tswIn (v := 21) (tgt := 923) dL_law_33 (by rw [c211]; rfl) (by decide) (by decide) rfl (by decide) ?_
                                                refine GW.aload_n (pc' := 924) dL_law_923 rfl rfl ?_
                                                refine GW.aload_n (pc' := 925) dL_law_924 rfl rfl ?_
                                                refine GW.iload_n (pc' := 926) dL_law_925 rfl rfl ?_
                                                refine GW.iconst (pc' := 927) (v := 1) dL_law_926 rfl (by decide) ?_
                                                refine GW.iadd (pc' := 928) dL_law_927 rfl ?_
                                                obtain ⟨b212, h⟩ := h
                                                refine GW.sload (pc' := 929) dL_law_928 rfl b212 ?_
                                                refine GW.aload_n (pc' := 930) dL_law_929 rfl rfl ?_
                                                refine GW.iload_n (pc' := 931) dL_law_930 rfl rfl ?_
                                                refine GW.iconst (pc' := 932) (v := 2) dL_law_931 rfl (by decide) ?_
                                                refine GW.iadd (pc' := 933) dL_law_932 rfl ?_
                                                obtain ⟨b213, h⟩ := h
                                                refine GW.sload (pc' := 934) dL_law_933 rfl b213 ?_
                                                refine GW.callV (pc' := 937) (k := 0) (av := [.int (xs.2 ((v3 + 1)).toNatClampNeg), .int (xs.2 ((v3 + 2)).toNatClampNeg)]) (rest := []) dL_law_934 rfl mk_X8_may lk_L_105 vk_X8_may ko_0 rfl rfl (Nat.le_of_ble_eq_true rfl) (bk_i (MI.mono h (fun r214 M215 h => ?_)))
                                                refine GW.aload_n (pc' := 938) dL_law_937 rfl rfl ?_
                                                refine GW.aload_n (pc' := 939) dL_law_938 rfl rfl ?_
                                                refine GW.iload_n (pc' := 940) dL_law_939 rfl rfl ?_
                                                refine GW.iconst (pc' := 941) (v := 1) dL_law_940 rfl (by decide) ?_
                                                refine GW.iadd (pc' := 942) dL_law_941 rfl ?_
                                                obtain ⟨b216, h⟩ := h
                                                refine GW.sload (pc' := 943) dL_law_942 rfl b216 ?_
                                                refine GW.aload_n (pc' := 944) dL_law_943 rfl rfl ?_
                                                refine GW.iload_n (pc' := 945) dL_law_944 rfl rfl ?_
                                                refine GW.iconst (pc' := 946) (v := 2) dL_law_945 rfl (by decide) ?_
                                                refine GW.iadd (pc' := 947) dL_law_946 rfl ?_
                                                obtain ⟨b217, h⟩ := h
                                                refine GW.sload (pc' := 948) dL_law_947 rfl b217 ?_
                                                refine GW.callV (pc' := 951) (k := 64) (av := [.int (xs.2 ((v3 + 1)).toNatClampNeg), .int (xs.2 ((v3 + 2)).toNatClampNeg)]) (rest := [.int r214]) dL_law_948 rfl mk_X9_may lk_L_108 vk_X9_may ko_64 rfl rfl (Nat.le_of_ble_eq_true rfl) (bk_i (MI.mono h (fun r218 M219 h => ?_)))
                                                refine GW.if_icmpeq (pc' := 954) (tgt := 1560) dL_law_951 rfl (by decide) (ite_i (fun c220 => ?_) (fun c220 => ?_))
                                                · replace h := ite_t h c220
                                                  refine GW.iinc (pc' := 1563) (lv' := [(0, .ref 3000), (1, .ref 0), (2, .ref 64), (3, .int (v3 + 6))]) (v := (v3 + 6)) dL_law_1560 rfl rfl (by decide) rfl rfl rfl ?_
                                                  refine GW.goto (tgt := 18) dL_law_1563 (by decide) ?_
                                                  exact h
                                                · replace h := ite_f h c220
                                                  refine GW.iconst (pc' := 955) (v := 0) dL_law_954 rfl (by decide) ?_
                                                  refine GW.zret dL_law_955 rfl (by decide) ⟨_, rfl, ?_⟩
                                                  exact h
                                              · replace h := ite_f h c211
                                                by_cases c221 : ((xs.2 v3.toNatClampNeg) &&& 63) = 22
                                                · replace h := ite_t h c221
                                                  refine GW.tswIn (v := 22) (tgt := 956) dL_law_33 (by rw [c221]; rfl) (by decide) (by decide) rfl (by decide) ?_
                                                  refine GW.aload_n (pc' := 957) dL_law_956 rfl rfl ?_
                                                  refine GW.callV (pc' := 960) (k := 0) (av := []) (rest := []) dL_law_957 rfl mk_X8_rows lk_L_109 vk_X8_rows ko_0 rfl rfl (Nat.le_of_ble_eq_true rfl) (bk_l (ML.mono h (fun r222 M223 h => ?_)))
                                                  refine GW.aload_n (pc' := 961) dL_law_960 rfl rfl ?_
                                                  refine GW.callV (pc' := 964) (k := 64) (av := []) (rest := [.long r222]) dL_law_961 rfl mk_X9_rows lk_L_113 vk_X9_rows ko_64 rfl rfl (Nat.le_of_ble_eq_true rfl) (bk_l (ML.mono h (fun r224 M225 h => ?_)))
                                                  refine GW.lcmp (pc' := 965) dL_law_964 rfl ?_
                                                  refine GW.ifeq (pc' := 968) (tgt := 1560) dL_law_965 rfl (by decide) (ite_i (fun c226 => ?_) (fun c226 => ?_))
                                                  · replace h := ite_t h c226
                                                    refine GW.iinc (pc' := 1563) (lv' := [(0, .ref 3000), (1, .ref 0), (2, .ref 64), (3, .int (v3 + 6))]) (v := (v3 + 6)) dL_law_1560 rfl rfl (by decide) rfl rfl rfl ?_
                                                    refine GW.goto (tgt := 18) dL_law_1563 (by decide) ?_
                                                    exact h
                                                  · replace h := ite_f h c226
                                                    refine GW.iconst (pc' := 969) (v := 0) dL_law_968 rfl (by decide) ?_
                                                    refine GW.zret dL_law_969 rfl (by decide) ⟨_, rfl, ?_⟩
                                                    exact h
                                                · replace h := ite_f h c221
                                                  by_cases c227 : ((xs.2 v3.toNatClampNeg) &&& 63) = 23
                                                  · replace h := ite_t h c227
                                                    refine GW.tswIn (v := 23) (tgt := 970) dL_law_33 (by rw [c227]; rfl) (by decide) (by decide) rfl (by decide) ?_
                                                    refine GW.aload_n (pc' := 971) dL_law_970 rfl rfl ?_
                                                    refine GW.aload_n (pc' := 972) dL_law_971 rfl rfl ?_
                                                    refine GW.iload_n (pc' := 973) dL_law_972 rfl rfl ?_
                                                    refine GW.iconst (pc' := 974) (v := 1) dL_law_973 rfl (by decide) ?_
                                                    refine GW.iadd (pc' := 975) dL_law_974 rfl ?_
                                                    obtain ⟨b228, h⟩ := h
                                                    refine GW.sload (pc' := 976) dL_law_975 rfl b228 ?_
                                                    refine GW.aload_n (pc' := 977) dL_law_976 rfl rfl ?_
                                                    refine GW.iload_n (pc' := 978) dL_law_977 rfl rfl ?_
                                                    refine GW.iconst (pc' := 979) (v := 2) dL_law_978 rfl (by decide) ?_
                                                    refine GW.iadd (pc' := 980) dL_law_979 rfl ?_
                                                    obtain ⟨b229, h⟩ := h
                                                    refine GW.sload (pc' := 981) dL_law_980 rfl b229 ?_
                                                    refine GW.callV (pc' := 984) (k := 0) (av := [.int (xs.2 ((v3 + 1)).toNatClampNeg), .int (xs.2 ((v3 + 2)).toNatClampNeg)]) (rest := []) dL_law_981 rfl mk_X8_span lk_L_114 vk_X8_span ko_0 rfl rfl (Nat.le_of_ble_eq_true rfl) (bk_i (MI.mono h (fun r230 M231 h => ?_)))
                                                    refine GW.aload_n (pc' := 985) dL_law_984 rfl rfl ?_
                                                    refine GW.aload_n (pc' := 986) dL_law_985 rfl rfl ?_
                                                    refine GW.iload_n (pc' := 987) dL_law_986 rfl rfl ?_
                                                    refine GW.iconst (pc' := 988) (v := 1) dL_law_987 rfl (by decide) ?_
                                                    refine GW.iadd (pc' := 989) dL_law_988 rfl ?_
                                                    obtain ⟨b232, h⟩ := h
                                                    refine GW.sload (pc' := 990) dL_law_989 rfl b232 ?_
                                                    refine GW.aload_n (pc' := 991) dL_law_990 rfl rfl ?_
                                                    refine GW.iload_n (pc' := 992) dL_law_991 rfl rfl ?_
                                                    refine GW.iconst (pc' := 993) (v := 2) dL_law_992 rfl (by decide) ?_
                                                    refine GW.iadd (pc' := 994) dL_law_993 rfl ?_
                                                    obtain ⟨b233, h⟩ := h
                                                    refine GW.sload (pc' := 995) dL_law_994 rfl b233 ?_
                                                    refine GW.callV (pc' := 998) (k := 64) (av := [.int (xs.2 ((v3 + 1)).toNatClampNeg), .int (xs.2 ((v3 + 2)).toNatClampNeg)]) (rest := [.int r230]) dL_law_995 rfl mk_X9_span lk_L_117 vk_X9_span ko_64 rfl rfl (Nat.le_of_ble_eq_true rfl) (bk_i (MI.mono h (fun r234 M235 h => ?_)))
                                                    refine GW.if_icmpeq (pc' := 1001) (tgt := 1560) dL_law_998 rfl (by decide) (ite_i (fun c236 => ?_) (fun c236 => ?_))
                                                    · replace h := ite_t h c236
                                                      refine GW.iinc (pc' := 1563) (lv' := [(0, .ref 3000), (1, .ref 0), (2, .ref 64), (3, .int (v3 + 6))]) (v := (v3 + 6)) dL_law_1560 rfl rfl (by decide) rfl rfl rfl ?_
                                                      refine GW.goto (tgt := 18) dL_law_1563 (by decide) ?_
                                                      exact h
                                                    · replace h := ite_f h c236
                                                      refine GW.iconst (pc' := 1002) (v := 0) dL_law_1001 rfl (by decide) ?_
                                                      refine GW.zret dL_law_1002 rfl (by decide) ⟨_, rfl, ?_⟩
                                                      exact h
                                                  · replace h := ite_f h c227
                                                    by_cases c237 : ((xs.2 v3.toNatClampNeg) &&& 63) = 24
                                                    · replace h := ite_t h c237
                                                      refine GW.tswIn (v := 24) (tgt := 1003) dL_law_33 (by rw [c237]; rfl) (by decide) (by decide) rfl (by decide) ?_
                                                      refine GW.aload_n (pc' := 1004) dL_law_1003 rfl rfl ?_
                                                      refine GW.callV (pc' := 1007) (k := 0) (av := []) (rest := []) dL_law_1004 rfl mk_X8_clerk lk_L_118 vk_X8_clerk ko_0 rfl rfl (Nat.le_of_ble_eq_true rfl) (bk_i (MI.mono h (fun r238 M239 h => ?_)))
                                                      refine GW.aload_n (pc' := 1008) dL_law_1007 rfl rfl ?_
                                                      refine GW.callV (pc' := 1011) (k := 64) (av := []) (rest := [.int r238]) dL_law_1008 rfl mk_X9_clerk lk_L_121 vk_X9_clerk ko_64 rfl rfl (Nat.le_of_ble_eq_true rfl) (bk_i (MI.mono h (fun r240 M241 h => ?_)))
                                                      refine GW.if_icmpeq (pc' := 1014) (tgt := 1560) dL_law_1011 rfl (by decide) (ite_i (fun c242 => ?_) (fun c242 => ?_))
                                                      · replace h := ite_t h c242
                                                        refine GW.iinc (pc' := 1563) (lv' := [(0, .ref 3000), (1, .ref 0), (2, .ref 64), (3, .int (v3 + 6))]) (v := (v3 + 6)) dL_law_1560 rfl rfl (by decide) rfl rfl rfl ?_
                                                        refine GW.goto (tgt := 18) dL_law_1563 (by decide) ?_
                                                        exact h
                                                      · replace h := ite_f h c242
                                                        refine GW.iconst (pc' := 1015) (v := 0) dL_law_1014 rfl (by decide) ?_
                                                        refine GW.zret dL_law_1015 rfl (by decide) ⟨_, rfl, ?_⟩
                                                        exact h
                                                    · replace h := ite_f h c237
                                                      by_cases c243 : ((xs.2 v3.toNatClampNeg) &&& 63) = 25
                                                      · replace h := ite_t h c243
                                                        refine GW.tswIn (v := 25) (tgt := 1016) dL_law_33 (by rw [c243]; rfl) (by decide) (by decide) rfl (by decide) ?_
                                                        refine GW.aload_n (pc' := 1017) dL_law_1016 rfl rfl ?_
                                                        refine GW.aload_n (pc' := 1018) dL_law_1017 rfl rfl ?_
                                                        refine GW.iload_n (pc' := 1019) dL_law_1018 rfl rfl ?_
                                                        refine GW.iconst (pc' := 1020) (v := 1) dL_law_1019 rfl (by decide) ?_
                                                        refine GW.iadd (pc' := 1021) dL_law_1020 rfl ?_
                                                        obtain ⟨b244, h⟩ := h
                                                        refine GW.sload (pc' := 1022) dL_law_1021 rfl b244 ?_
                                                        refine GW.callV (pc' := 1025) (k := 0) (av := [.int (xs.2 ((v3 + 1)).toNatClampNeg)]) (rest := []) dL_law_1022 rfl mk_X8_seed lk_L_122 vk_X8_seed ko_0 rfl rfl (Nat.le_of_ble_eq_true rfl) (bk_i (MI.mono h (fun r245 M246 h => ?_)))
                                                        refine GW.aload_n (pc' := 1026) dL_law_1025 rfl rfl ?_
                                                        refine GW.aload_n (pc' := 1027) dL_law_1026 rfl rfl ?_
                                                        refine GW.iload_n (pc' := 1028) dL_law_1027 rfl rfl ?_
                                                        refine GW.iconst (pc' := 1029) (v := 1) dL_law_1028 rfl (by decide) ?_
                                                        refine GW.iadd (pc' := 1030) dL_law_1029 rfl ?_
                                                        obtain ⟨b247, h⟩ := h
                                                        refine GW.sload (pc' := 1031) dL_law_1030 rfl b247 ?_
                                                        refine GW.callV (pc' := 1034) (k := 64) (av := [.int (xs.2 ((v3 + 1)).toNatClampNeg)]) (rest := [.int r245]) dL_law_1031 rfl mk_X9_seed lk_L_125 vk_X9_seed ko_64 rfl rfl (Nat.le_of_ble_eq_true rfl) (bk_i (MI.mono h (fun r248 M249 h => ?_)))
                                                        refine GW.if_icmpeq (pc' := 1037) (tgt := 1560) dL_law_1034 rfl (by decide) (ite_i (fun c250 => ?_) (fun c250 => ?_))
                                                        · replace h := ite_t h c250
                                                          refine GW.iinc (pc' := 1563) (lv' := [(0, .ref 3000), (1, .ref 0), (2, .ref 64), (3, .int (v3 + 6))]) (v := (v3 + 6)) dL_law_1560 rfl rfl (by decide) rfl rfl rfl ?_
                                                          refine GW.goto (tgt := 18) dL_law_1563 (by decide) ?_
                                                          exact h
                                                        · replace h := ite_f h c250
                                                          refine GW.iconst (pc' := 1038) (v := 0) dL_law_1037 rfl (by decide) ?_
                                                          refine GW.zret dL_law_1038 rfl (by decide) ⟨_, rfl, ?_⟩
                                                          exact h
                                                      · replace h := ite_f h c243
                                                        by_cases c251 : ((xs.2 v3.toNatClampNeg) &&& 63) = 26
                                                        · replace h := ite_t h c251
                                                          refine GW.tswIn (v := 26) (tgt := 1039) dL_law_33 (by rw [c251]; rfl) (by decide) (by decide) rfl (by decide) ?_
                                                          refine GW.aload_n (pc' := 1040) dL_law_1039 rfl rfl ?_
                                                          refine GW.aload_n (pc' := 1041) dL_law_1040 rfl rfl ?_
                                                          refine GW.iload_n (pc' := 1042) dL_law_1041 rfl rfl ?_
                                                          refine GW.iconst (pc' := 1043) (v := 1) dL_law_1042 rfl (by decide) ?_
                                                          refine GW.iadd (pc' := 1044) dL_law_1043 rfl ?_
                                                          obtain ⟨b252, h⟩ := h
                                                          refine GW.sload (pc' := 1045) dL_law_1044 rfl b252 ?_
                                                          refine GW.aload_n (pc' := 1046) dL_law_1045 rfl rfl ?_
                                                          refine GW.iload_n (pc' := 1047) dL_law_1046 rfl rfl ?_
                                                          refine GW.iconst (pc' := 1048) (v := 2) dL_law_1047 rfl (by decide) ?_
                                                          refine GW.iadd (pc' := 1049) dL_law_1048 rfl ?_
                                                          obtain ⟨b253, h⟩ := h
                                                          refine GW.sload (pc' := 1050) dL_law_1049 rfl b253 ?_
                                                          refine GW.callV (pc' := 1053) (k := 0) (av := [.int (xs.2 ((v3 + 1)).toNatClampNeg), .int (xs.2 ((v3 + 2)).toNatClampNeg)]) (rest := []) dL_law_1050 rfl mk_X8_comet lk_L_126 vk_X8_comet ko_0 rfl rfl (Nat.le_of_ble_eq_true rfl) (bk_i (MI.mono h (fun r254 M255 h => ?_)))
                                                          refine GW.aload_n (pc' := 1054) dL_law_1053 rfl rfl ?_
                                                          refine GW.aload_n (pc' := 1055) dL_law_1054 rfl rfl ?_
                                                          refine GW.iload_n (pc' := 1056) dL_law_1055 rfl rfl ?_
                                                          refine GW.iconst (pc' := 1057) (v := 1) dL_law_1056 rfl (by decide) ?_
                                                          refine GW.iadd (pc' := 1058) dL_law_1057 rfl ?_
                                                          obtain ⟨b256, h⟩ := h
                                                          refine GW.sload (pc' := 1059) dL_law_1058 rfl b256 ?_
                                                          refine GW.aload_n (pc' := 1060) dL_law_1059 rfl rfl ?_
                                                          refine GW.iload_n (pc' := 1061) dL_law_1060 rfl rfl ?_
                                                          refine GW.iconst (pc' := 1062) (v := 2) dL_law_1061 rfl (by decide) ?_
                                                          refine GW.iadd (pc' := 1063) dL_law_1062 rfl ?_
                                                          obtain ⟨b257, h⟩ := h
                                                          refine GW.sload (pc' := 1064) dL_law_1063 rfl b257 ?_
                                                          refine GW.callV (pc' := 1067) (k := 64) (av := [.int (xs.2 ((v3 + 1)).toNatClampNeg), .int (xs.2 ((v3 + 2)).toNatClampNeg)]) (rest := [.int r254]) dL_law_1064 rfl mk_X9_comet lk_L_129 vk_X9_comet ko_64 rfl rfl (Nat.le_of_ble_eq_true rfl) (bk_i (MI.mono h (fun r258 M259 h => ?_)))
                                                          refine GW.if_icmpeq (pc' := 1070) (tgt := 1560) dL_law_1067 rfl (by decide) (ite_i (fun c260 => ?_) (fun c260 => ?_))
                                                          · replace h := ite_t h c260
                                                            refine GW.iinc (pc' := 1563) (lv' := [(0, .ref 3000), (1, .ref 0), (2, .ref 64), (3, .int (v3 + 6))]) (v := (v3 + 6)) dL_law_1560 rfl rfl (by decide) rfl rfl rfl ?_
                                                            refine GW.goto (tgt := 18) dL_law_1563 (by decide) ?_
                                                            exact h
                                                          · replace h := ite_f h c260
                                                            refine GW.iconst (pc' := 1071) (v := 0) dL_law_1070 rfl (by decide) ?_
                                                            refine GW.zret dL_law_1071 rfl (by decide) ⟨_, rfl, ?_⟩
                                                            exact h
                                                        · replace h := ite_f h c251
                                                          by_cases c261 : ((xs.2 v3.toNatClampNeg) &&& 63) = 27
                                                          · replace h := ite_t h c261
                                                            refine GW.tswIn (v := 27) (tgt := 1072) dL_law_33 (by rw [c261]; rfl) (by decide) (by decide) rfl (by decide) ?_
                                                            refine GW.aload_n (pc' := 1073) dL_law_1072 rfl rfl ?_
                                                            refine GW.aload_n (pc' := 1074) dL_law_1073 rfl rfl ?_
                                                            refine GW.iload_n (pc' := 1075) dL_law_1074 rfl rfl ?_
                                                            refine GW.iconst (pc' := 1076) (v := 1) dL_law_1075 rfl (by decide) ?_
                                                            refine GW.iadd (pc' := 1077) dL_law_1076 rfl ?_
                                                            obtain ⟨b262, h⟩ := h
                                                            refine GW.sload (pc' := 1078) dL_law_1077 rfl b262 ?_
                                                            refine GW.callV (pc' := 1081) (k := 0) (av := [.int (xs.2 ((v3 + 1)).toNatClampNeg)]) (rest := []) dL_law_1078 rfl mk_X8_claim lk_L_130 vk_X8_claim ko_0 rfl rfl (Nat.le_of_ble_eq_true rfl) (bk_i (MI.mono h (fun r263 M264 h => ?_)))
                                                            refine GW.aload_n (pc' := 1082) dL_law_1081 rfl rfl ?_
                                                            refine GW.aload_n (pc' := 1083) dL_law_1082 rfl rfl ?_
                                                            refine GW.iload_n (pc' := 1084) dL_law_1083 rfl rfl ?_
                                                            refine GW.iconst (pc' := 1085) (v := 1) dL_law_1084 rfl (by decide) ?_
                                                            refine GW.iadd (pc' := 1086) dL_law_1085 rfl ?_
                                                            obtain ⟨b265, h⟩ := h
                                                            refine GW.sload (pc' := 1087) dL_law_1086 rfl b265 ?_
                                                            refine GW.callV (pc' := 1090) (k := 64) (av := [.int (xs.2 ((v3 + 1)).toNatClampNeg)]) (rest := [.int r263]) dL_law_1087 rfl mk_X9_claim lk_L_133 vk_X9_claim ko_64 rfl rfl (Nat.le_of_ble_eq_true rfl) (bk_i (MI.mono h (fun r266 M267 h => ?_)))
                                                            refine GW.if_icmpeq (pc' := 1093) (tgt := 1560) dL_law_1090 rfl (by decide) (ite_i (fun c268 => ?_) (fun c268 => ?_))
                                                            · replace h := ite_t h c268
                                                              refine GW.iinc (pc' := 1563) (lv' := [(0, .ref 3000), (1, .ref 0), (2, .ref 64), (3, .int (v3 + 6))]) (v := (v3 + 6)) dL_law_1560 rfl rfl (by decide) rfl rfl rfl ?_
                                                              refine GW.goto (tgt := 18) dL_law_1563 (by decide) ?_
                                                              exact h
                                                            · replace h := ite_f h c268
                                                              refine GW.iconst (pc' := 1094) (v := 0) dL_law_1093 rfl (by decide) ?_
                                                              refine GW.zret dL_law_1094 rfl (by decide) ⟨_, rfl, ?_⟩
                                                              exact h
                                                          · replace h := ite_f h c261
                                                            by_cases c269 : ((xs.2 v3.toNatClampNeg) &&& 63) = 28
                                                            · replace h := ite_t h c269
                                                              refine GW.tswIn (v := 28) (tgt := 1095) dL_law_33 (by rw [c269]; rfl) (by decide) (by decide) rfl (by decide) ?_
                                                              refine GW.aload_n (pc' := 1096) dL_law_1095 rfl rfl ?_
                                                              refine GW.aload_n (pc' := 1097) dL_law_1096 rfl rfl ?_
                                                              refine GW.iload_n (pc' := 1098) dL_law_1097 rfl rfl ?_
                                                              refine GW.iconst (pc' := 1099) (v := 1) dL_law_1098 rfl (by decide) ?_
                                                              refine GW.iadd (pc' := 1100) dL_law_1099 rfl ?_
                                                              obtain ⟨b270, h⟩ := h
                                                              refine GW.sload (pc' := 1101) dL_law_1100 rfl b270 ?_
                                                              refine GW.aload_n (pc' := 1102) dL_law_1101 rfl rfl ?_
                                                              refine GW.iload_n (pc' := 1103) dL_law_1102 rfl rfl ?_
                                                              refine GW.iconst (pc' := 1104) (v := 2) dL_law_1103 rfl (by decide) ?_
                                                              refine GW.iadd (pc' := 1105) dL_law_1104 rfl ?_
                                                              obtain ⟨b271, h⟩ := h
                                                              refine GW.sload (pc' := 1106) dL_law_1105 rfl b271 ?_
                                                              refine GW.aload_n (pc' := 1107) dL_law_1106 rfl rfl ?_
                                                              refine GW.iload_n (pc' := 1108) dL_law_1107 rfl rfl ?_
                                                              refine GW.iconst (pc' := 1109) (v := 3) dL_law_1108 rfl (by decide) ?_
                                                              refine GW.iadd (pc' := 1110) dL_law_1109 rfl ?_
                                                              obtain ⟨b272, h⟩ := h
                                                              refine GW.sload (pc' := 1111) dL_law_1110 rfl b272 ?_
                                                              refine GW.callV (pc' := 1114) (k := 0) (av := [.int (xs.2 ((v3 + 1)).toNatClampNeg), .int (xs.2 ((v3 + 2)).toNatClampNeg), .int (xs.2 ((v3 + 3)).toNatClampNeg)]) (rest := []) dL_law_1111 rfl mk_X8_breaks lk_L_134 vk_X8_breaks ko_0 rfl rfl (Nat.le_of_ble_eq_true rfl) (bk_i (MI.mono h (fun r273 M274 h => ?_)))
                                                              refine GW.aload_n (pc' := 1115) dL_law_1114 rfl rfl ?_
                                                              refine GW.aload_n (pc' := 1116) dL_law_1115 rfl rfl ?_
                                                              refine GW.iload_n (pc' := 1117) dL_law_1116 rfl rfl ?_
                                                              refine GW.iconst (pc' := 1118) (v := 1) dL_law_1117 rfl (by decide) ?_
                                                              refine GW.iadd (pc' := 1119) dL_law_1118 rfl ?_
                                                              obtain ⟨b275, h⟩ := h
                                                              refine GW.sload (pc' := 1120) dL_law_1119 rfl b275 ?_
                                                              refine GW.aload_n (pc' := 1121) dL_law_1120 rfl rfl ?_
                                                              refine GW.iload_n (pc' := 1122) dL_law_1121 rfl rfl ?_
                                                              refine GW.iconst (pc' := 1123) (v := 2) dL_law_1122 rfl (by decide) ?_
                                                              refine GW.iadd (pc' := 1124) dL_law_1123 rfl ?_
                                                              obtain ⟨b276, h⟩ := h
                                                              refine GW.sload (pc' := 1125) dL_law_1124 rfl b276 ?_
                                                              refine GW.aload_n (pc' := 1126) dL_law_1125 rfl rfl ?_
                                                              refine GW.iload_n (pc' := 1127) dL_law_1126 rfl rfl ?_
                                                              refine GW.iconst (pc' := 1128) (v := 3) dL_law_1127 rfl (by decide) ?_
                                                              refine GW.iadd (pc' := 1129) dL_law_1128 rfl ?_
                                                              obtain ⟨b277, h⟩ := h
                                                              refine GW.sload (pc' := 1130) dL_law_1129 rfl b277 ?_
                                                              refine GW.callV (pc' := 1133) (k := 64) (av := [.int (xs.2 ((v3 + 1)).toNatClampNeg), .int (xs.2 ((v3 + 2)).toNatClampNeg), .int (xs.2 ((v3 + 3)).toNatClampNeg)]) (rest := [.int r273]) dL_law_1130 rfl mk_X9_breaks lk_L_137 vk_X9_breaks ko_64 rfl rfl (Nat.le_of_ble_eq_true rfl) (bk_i (MI.mono h (fun r278 M279 h => ?_)))
                                                              refine GW.if_icmpeq (pc' := 1136) (tgt := 1560) dL_law_1133 rfl (by decide) (ite_i (fun c280 => ?_) (fun c280 => ?_))
                                                              · replace h := ite_t h c280
                                                                refine GW.iinc (pc' := 1563) (lv' := [(0, .ref 3000), (1, .ref 0), (2, .ref 64), (3, .int (v3 + 6))]) (v := (v3 + 6)) dL_law_1560 rfl rfl (by decide) rfl rfl rfl ?_
                                                                refine GW.goto (tgt := 18) dL_law_1563 (by decide) ?_
                                                                exact h
                                                              · replace h := ite_f h c280
                                                                refine GW.iconst (pc' := 1137) (v := 0) dL_law_1136 rfl (by decide) ?_
                                                                refine GW.zret dL_law_1137 rfl (by decide) ⟨_, rfl, ?_⟩
                                                                exact h
                                                            · replace h := ite_f h c269
                                                              by_cases c281 : ((xs.2 v3.toNatClampNeg) &&& 63) = 29
                                                              · replace h := ite_t h c281
                                                                refine GW.tswIn (v := 29) (tgt := 1138) dL_law_33 (by rw [c281]; rfl) (by decide) (by decide) rfl (by decide) ?_
                                                                refine GW.aload_n (pc' := 1139) dL_law_1138 rfl rfl ?_
                                                                refine GW.aload_n (pc' := 1140) dL_law_1139 rfl rfl ?_
                                                                refine GW.iload_n (pc' := 1141) dL_law_1140 rfl rfl ?_
                                                                refine GW.iconst (pc' := 1142) (v := 1) dL_law_1141 rfl (by decide) ?_
                                                                refine GW.iadd (pc' := 1143) dL_law_1142 rfl ?_
                                                                obtain ⟨b282, h⟩ := h
                                                                refine GW.sload (pc' := 1144) dL_law_1143 rfl b282 ?_
                                                                refine GW.aload_n (pc' := 1145) dL_law_1144 rfl rfl ?_
                                                                refine GW.iload_n (pc' := 1146) dL_law_1145 rfl rfl ?_
                                                                refine GW.iconst (pc' := 1147) (v := 2) dL_law_1146 rfl (by decide) ?_
                                                                refine GW.iadd (pc' := 1148) dL_law_1147 rfl ?_
                                                                obtain ⟨b283, h⟩ := h
                                                                refine GW.sload (pc' := 1149) dL_law_1148 rfl b283 ?_
                                                                refine GW.callV (pc' := 1152) (k := 0) (av := [.int (xs.2 ((v3 + 1)).toNatClampNeg), .int (xs.2 ((v3 + 2)).toNatClampNeg)]) (rest := []) dL_law_1149 rfl mk_X8_least lk_L_138 vk_X8_least ko_0 rfl rfl (Nat.le_of_ble_eq_true rfl) (bk_i (MI.mono h (fun r284 M285 h => ?_)))
                                                                refine GW.aload_n (pc' := 1153) dL_law_1152 rfl rfl ?_
                                                                refine GW.aload_n (pc' := 1154) dL_law_1153 rfl rfl ?_
                                                                refine GW.iload_n (pc' := 1155) dL_law_1154 rfl rfl ?_
                                                                refine GW.iconst (pc' := 1156) (v := 1) dL_law_1155 rfl (by decide) ?_
                                                                refine GW.iadd (pc' := 1157) dL_law_1156 rfl ?_
                                                                obtain ⟨b286, h⟩ := h
                                                                refine GW.sload (pc' := 1158) dL_law_1157 rfl b286 ?_
                                                                refine GW.aload_n (pc' := 1159) dL_law_1158 rfl rfl ?_
                                                                refine GW.iload_n (pc' := 1160) dL_law_1159 rfl rfl ?_
                                                                refine GW.iconst (pc' := 1161) (v := 2) dL_law_1160 rfl (by decide) ?_
                                                                refine GW.iadd (pc' := 1162) dL_law_1161 rfl ?_
                                                                obtain ⟨b287, h⟩ := h
                                                                refine GW.sload (pc' := 1163) dL_law_1162 rfl b287 ?_
                                                                refine GW.callV (pc' := 1166) (k := 64) (av := [.int (xs.2 ((v3 + 1)).toNatClampNeg), .int (xs.2 ((v3 + 2)).toNatClampNeg)]) (rest := [.int r284]) dL_law_1163 rfl mk_X9_least lk_L_141 vk_X9_least ko_64 rfl rfl (Nat.le_of_ble_eq_true rfl) (bk_i (MI.mono h (fun r288 M289 h => ?_)))
                                                                refine GW.if_icmpeq (pc' := 1169) (tgt := 1560) dL_law_1166 rfl (by decide) (ite_i (fun c290 => ?_) (fun c290 => ?_))
                                                                · replace h := ite_t h c290
                                                                  refine GW.iinc (pc' := 1563) (lv' := [(0, .ref 3000), (1, .ref 0), (2, .ref 64), (3, .int (v3 + 6))]) (v := (v3 + 6)) dL_law_1560 rfl rfl (by decide) rfl rfl rfl ?_
                                                                  refine GW.goto (tgt := 18) dL_law_1563 (by decide) ?_
                                                                  exact h
                                                                · replace h := ite_f h c290
                                                                  refine GW.iconst (pc' := 1170) (v := 0) dL_law_1169 rfl (by decide) ?_
                                                                  refine GW.zret dL_law_1170 rfl (by decide) ⟨_, rfl, ?_⟩
                                                                  exact h
                                                              · replace h := ite_f h c281
                                                                by_cases c291 : ((xs.2 v3.toNatClampNeg) &&& 63) = 30
                                                                · replace h := ite_t h c291
                                                                  refine GW.tswIn (v := 30) (tgt := 1171) dL_law_33 (by rw [c291]; rfl) (by decide) (by decide) rfl (by decide) ?_
                                                                  refine GW.aload_n (pc' := 1172) dL_law_1171 rfl rfl ?_
                                                                  refine GW.aload_n (pc' := 1173) dL_law_1172 rfl rfl ?_
                                                                  refine GW.iload_n (pc' := 1174) dL_law_1173 rfl rfl ?_
                                                                  refine GW.iconst (pc' := 1175) (v := 1) dL_law_1174 rfl (by decide) ?_
                                                                  refine GW.iadd (pc' := 1176) dL_law_1175 rfl ?_
                                                                  obtain ⟨b292, h⟩ := h
                                                                  refine GW.sload (pc' := 1177) dL_law_1176 rfl b292 ?_
                                                                  refine GW.aload_n (pc' := 1178) dL_law_1177 rfl rfl ?_
                                                                  refine GW.iload_n (pc' := 1179) dL_law_1178 rfl rfl ?_
                                                                  refine GW.iconst (pc' := 1180) (v := 2) dL_law_1179 rfl (by decide) ?_
                                                                  refine GW.iadd (pc' := 1181) dL_law_1180 rfl ?_
                                                                  obtain ⟨b293, h⟩ := h
                                                                  refine GW.sload (pc' := 1182) dL_law_1181 rfl b293 ?_
                                                                  refine GW.aload_n (pc' := 1183) dL_law_1182 rfl rfl ?_
                                                                  refine GW.iload_n (pc' := 1184) dL_law_1183 rfl rfl ?_
                                                                  refine GW.iconst (pc' := 1185) (v := 3) dL_law_1184 rfl (by decide) ?_
                                                                  refine GW.iadd (pc' := 1186) dL_law_1185 rfl ?_
                                                                  obtain ⟨b294, h⟩ := h
                                                                  refine GW.sload (pc' := 1187) dL_law_1186 rfl b294 ?_
                                                                  refine GW.callV (pc' := 1190) (k := 0) (av := [.int (xs.2 ((v3 + 1)).toNatClampNeg), .int (xs.2 ((v3 + 2)).toNatClampNeg), .int (xs.2 ((v3 + 3)).toNatClampNeg)]) (rest := []) dL_law_1187 rfl mk_X8_voice lk_L_142 vk_X8_voice ko_0 rfl rfl (Nat.le_of_ble_eq_true rfl) (bk_i (MI.mono h (fun r295 M296 h => ?_)))
                                                                  refine GW.aload_n (pc' := 1191) dL_law_1190 rfl rfl ?_
                                                                  refine GW.aload_n (pc' := 1192) dL_law_1191 rfl rfl ?_
                                                                  refine GW.iload_n (pc' := 1193) dL_law_1192 rfl rfl ?_
                                                                  refine GW.iconst (pc' := 1194) (v := 1) dL_law_1193 rfl (by decide) ?_
                                                                  refine GW.iadd (pc' := 1195) dL_law_1194 rfl ?_
                                                                  obtain ⟨b297, h⟩ := h
                                                                  refine GW.sload (pc' := 1196) dL_law_1195 rfl b297 ?_
                                                                  refine GW.aload_n (pc' := 1197) dL_law_1196 rfl rfl ?_
                                                                  refine GW.iload_n (pc' := 1198) dL_law_1197 rfl rfl ?_
                                                                  refine GW.iconst (pc' := 1199) (v := 2) dL_law_1198 rfl (by decide) ?_
                                                                  refine GW.iadd (pc' := 1200) dL_law_1199 rfl ?_
                                                                  obtain ⟨b298, h⟩ := h
                                                                  refine GW.sload (pc' := 1201) dL_law_1200 rfl b298 ?_
                                                                  refine GW.aload_n (pc' := 1202) dL_law_1201 rfl rfl ?_
                                                                  refine GW.iload_n (pc' := 1203) dL_law_1202 rfl rfl ?_
                                                                  refine GW.iconst (pc' := 1204) (v := 3) dL_law_1203 rfl (by decide) ?_
                                                                  refine GW.iadd (pc' := 1205) dL_law_1204 rfl ?_
                                                                  obtain ⟨b299, h⟩ := h
                                                                  refine GW.sload (pc' := 1206) dL_law_1205 rfl b299 ?_
                                                                  refine GW.callV (pc' := 1209) (k := 64) (av := [.int (xs.2 ((v3 + 1)).toNatClampNeg), .int (xs.2 ((v3 + 2)).toNatClampNeg), .int (xs.2 ((v3 + 3)).toNatClampNeg)]) (rest := [.int r295]) dL_law_1206 rfl mk_X9_voice lk_L_145 vk_X9_voice ko_64 rfl rfl (Nat.le_of_ble_eq_true rfl) (bk_i (MI.mono h (fun r300 M301 h => ?_)))
                                                                  refine GW.if_icmpeq (pc' := 1212) (tgt := 1560) dL_law_1209 rfl (by decide) (ite_i (fun c302 => ?_) (fun c302 => ?_))
                                                                  · replace h := ite_t h c302
                                                                    refine GW.iinc (pc' := 1563) (lv' := [(0, .ref 3000), (1, .ref 0), (2, .ref 64), (3, .int (v3 + 6))]) (v := (v3 + 6)) dL_law_1560 rfl rfl (by decide) rfl rfl rfl ?_
                                                                    refine GW.goto (tgt := 18) dL_law_1563 (by decide) ?_
                                                                    exact h
                                                                  · replace h := ite_f h c302
                                                                    refine GW.iconst (pc' := 1213) (v := 0) dL_law_1212 rfl (by decide) ?_
                                                                    refine GW.zret dL_law_1213 rfl (by decide) ⟨_, rfl, ?_⟩
                                                                    exact h
                                                                · replace h := ite_f h c291
                                                                  by_cases c303 : ((xs.2 v3.toNatClampNeg) &&& 63) = 31
                                                                  · replace h := ite_t h c303
                                                                    refine GW.tswIn (v := 31) (tgt := 1214) dL_law_33 (by rw [c303]; rfl) (by decide) (by decide) rfl (by decide) ?_
                                                                    refine GW.aload_n (pc' := 1215) dL_law_1214 rfl rfl ?_
                                                                    refine GW.aload_n (pc' := 1216) dL_law_1215 rfl rfl ?_
                                                                    refine GW.iload_n (pc' := 1217) dL_law_1216 rfl rfl ?_
                                                                    refine GW.iconst (pc' := 1218) (v := 1) dL_law_1217 rfl (by decide) ?_
                                                                    refine GW.iadd (pc' := 1219) dL_law_1218 rfl ?_
                                                                    obtain ⟨b304, h⟩ := h
                                                                    refine GW.sload (pc' := 1220) dL_law_1219 rfl b304 ?_
                                                                    refine GW.callV (pc' := 1223) (k := 0) (av := [.int (xs.2 ((v3 + 1)).toNatClampNeg)]) (rest := []) dL_law_1220 rfl mk_X8_body lk_L_146 vk_X8_body ko_0 rfl rfl (Nat.le_of_ble_eq_true rfl) (bk_i (MI.mono h (fun r305 M306 h => ?_)))
                                                                    refine GW.aload_n (pc' := 1224) dL_law_1223 rfl rfl ?_
                                                                    refine GW.aload_n (pc' := 1225) dL_law_1224 rfl rfl ?_
                                                                    refine GW.iload_n (pc' := 1226) dL_law_1225 rfl rfl ?_
                                                                    refine GW.iconst (pc' := 1227) (v := 1) dL_law_1226 rfl (by decide) ?_
                                                                    refine GW.iadd (pc' := 1228) dL_law_1227 rfl ?_
                                                                    obtain ⟨b307, h⟩ := h
                                                                    refine GW.sload (pc' := 1229) dL_law_1228 rfl b307 ?_
                                                                    refine GW.callV (pc' := 1232) (k := 64) (av := [.int (xs.2 ((v3 + 1)).toNatClampNeg)]) (rest := [.int r305]) dL_law_1229 rfl mk_X9_body lk_L_149 vk_X9_body ko_64 rfl rfl (Nat.le_of_ble_eq_true rfl) (bk_i (MI.mono h (fun r308 M309 h => ?_)))
                                                                    refine GW.if_icmpeq (pc' := 1235) (tgt := 1560) dL_law_1232 rfl (by decide) (ite_i (fun c310 => ?_) (fun c310 => ?_))
                                                                    · replace h := ite_t h c310
                                                                      refine GW.iinc (pc' := 1563) (lv' := [(0, .ref 3000), (1, .ref 0), (2, .ref 64), (3, .int (v3 + 6))]) (v := (v3 + 6)) dL_law_1560 rfl rfl (by decide) rfl rfl rfl ?_
                                                                      refine GW.goto (tgt := 18) dL_law_1563 (by decide) ?_
                                                                      exact h
                                                                    · replace h := ite_f h c310
                                                                      refine GW.iconst (pc' := 1236) (v := 0) dL_law_1235 rfl (by decide) ?_
                                                                      refine GW.zret dL_law_1236 rfl (by decide) ⟨_, rfl, ?_⟩
                                                                      exact h
                                                                  · replace h := ite_f h c303
                                                                    by_cases c311 : ((xs.2 v3.toNatClampNeg) &&& 63) = 32
                                                                    · replace h := ite_t h c311
                                                                      refine GW.tswIn (v := 32) (tgt := 1237) dL_law_33 (by rw [c311]; rfl) (by decide) (by decide) rfl (by decide) ?_
                                                                      refine GW.aload_n (pc' := 1238) dL_law_1237 rfl rfl ?_
                                                                      refine GW.aload_n (pc' := 1239) dL_law_1238 rfl rfl ?_
                                                                      refine GW.iload_n (pc' := 1240) dL_law_1239 rfl rfl ?_
                                                                      refine GW.iconst (pc' := 1241) (v := 1) dL_law_1240 rfl (by decide) ?_
                                                                      refine GW.iadd (pc' := 1242) dL_law_1241 rfl ?_
                                                                      obtain ⟨b312, h⟩ := h
                                                                      refine GW.sload (pc' := 1243) dL_law_1242 rfl b312 ?_
                                                                      refine GW.aload_n (pc' := 1244) dL_law_1243 rfl rfl ?_
                                                                      refine GW.iload_n (pc' := 1245) dL_law_1244 rfl rfl ?_
                                                                      refine GW.iconst (pc' := 1246) (v := 2) dL_law_1245 rfl (by decide) ?_
                                                                      refine GW.iadd (pc' := 1247) dL_law_1246 rfl ?_
                                                                      obtain ⟨b313, h⟩ := h
                                                                      refine GW.sload (pc' := 1248) dL_law_1247 rfl b313 ?_
                                                                      refine GW.aload_n (pc' := 1249) dL_law_1248 rfl rfl ?_
                                                                      refine GW.iload_n (pc' := 1250) dL_law_1249 rfl rfl ?_
                                                                      refine GW.iconst (pc' := 1251) (v := 3) dL_law_1250 rfl (by decide) ?_
                                                                      refine GW.iadd (pc' := 1252) dL_law_1251 rfl ?_
                                                                      obtain ⟨b314, h⟩ := h
                                                                      refine GW.sload (pc' := 1253) dL_law_1252 rfl b314 ?_
                                                                      refine GW.callV (pc' := 1256) (k := 0) (av := [.int (xs.2 ((v3 + 1)).toNatClampNeg), .int (xs.2 ((v3 + 2)).toNatClampNeg), .int (xs.2 ((v3 + 3)).toNatClampNeg)]) (rest := []) dL_law_1253 rfl mk_X8_sheet lk_L_150 vk_X8_sheet ko_0 rfl rfl (Nat.le_of_ble_eq_true rfl) (bk_i (MI.mono h (fun r315 M316 h => ?_)))
                                                                      refine GW.aload_n (pc' := 1257) dL_law_1256 rfl rfl ?_
                                                                      refine GW.aload_n (pc' := 1258) dL_law_1257 rfl rfl ?_
                                                                      refine GW.iload_n (pc' := 1259) dL_law_1258 rfl rfl ?_
                                                                      refine GW.iconst (pc' := 1260) (v := 1) dL_law_1259 rfl (by decide) ?_
                                                                      refine GW.iadd (pc' := 1261) dL_law_1260 rfl ?_
                                                                      obtain ⟨b317, h⟩ := h
                                                                      refine GW.sload (pc' := 1262) dL_law_1261 rfl b317 ?_
                                                                      refine GW.aload_n (pc' := 1263) dL_law_1262 rfl rfl ?_
                                                                      refine GW.iload_n (pc' := 1264) dL_law_1263 rfl rfl ?_
                                                                      refine GW.iconst (pc' := 1265) (v := 2) dL_law_1264 rfl (by decide) ?_
                                                                      refine GW.iadd (pc' := 1266) dL_law_1265 rfl ?_
                                                                      obtain ⟨b318, h⟩ := h
                                                                      refine GW.sload (pc' := 1267) dL_law_1266 rfl b318 ?_
                                                                      refine GW.aload_n (pc' := 1268) dL_law_1267 rfl rfl ?_
                                                                      refine GW.iload_n (pc' := 1269) dL_law_1268 rfl rfl ?_
                                                                      refine GW.iconst (pc' := 1270) (v := 3) dL_law_1269 rfl (by decide) ?_
                                                                      refine GW.iadd (pc' := 1271) dL_law_1270 rfl ?_
                                                                      obtain ⟨b319, h⟩ := h
                                                                      refine GW.sload (pc' := 1272) dL_law_1271 rfl b319 ?_
                                                                      refine GW.callV (pc' := 1275) (k := 64) (av := [.int (xs.2 ((v3 + 1)).toNatClampNeg), .int (xs.2 ((v3 + 2)).toNatClampNeg), .int (xs.2 ((v3 + 3)).toNatClampNeg)]) (rest := [.int r315]) dL_law_1272 rfl mk_X9_sheet lk_L_153 vk_X9_sheet ko_64 rfl rfl (Nat.le_of_ble_eq_true rfl) (bk_i (MI.mono h (fun r320 M321 h => ?_)))
                                                                      refine GW.if_icmpeq (pc' := 1278) (tgt := 1560) dL_law_1275 rfl (by decide) (ite_i (fun c322 => ?_) (fun c322 => ?_))
                                                                      · replace h := ite_t h c322
                                                                        refine GW.iinc (pc' := 1563) (lv' := [(0, .ref 3000), (1, .ref 0), (2, .ref 64), (3, .int (v3 + 6))]) (v := (v3 + 6)) dL_law_1560 rfl rfl (by decide) rfl rfl rfl ?_
                                                                        refine GW.goto (tgt := 18) dL_law_1563 (by decide) ?_
                                                                        exact h
                                                                      · replace h := ite_f h c322
                                                                        refine GW.iconst (pc' := 1279) (v := 0) dL_law_1278 rfl (by decide) ?_
                                                                        refine GW.zret dL_law_1279 rfl (by decide) ⟨_, rfl, ?_⟩
                                                                        exact h
                                                                    · replace h := ite_f h c311
                                                                      by_cases c323 : ((xs.2 v3.toNatClampNeg) &&& 63) = 33
                                                                      · replace h := ite_t h c323
                                                                        refine GW.tswIn (v := 33) (tgt := 1280) dL_law_33 (by rw [c323]; rfl) (by decide) (by decide) rfl (by decide) ?_
                                                                        refine GW.aload_n (pc' := 1281) dL_law_1280 rfl rfl ?_
                                                                        refine GW.aload_n (pc' := 1282) dL_law_1281 rfl rfl ?_
                                                                        refine GW.iload_n (pc' := 1283) dL_law_1282 rfl rfl ?_
                                                                        refine GW.iconst (pc' := 1284) (v := 1) dL_law_1283 rfl (by decide) ?_
                                                                        refine GW.iadd (pc' := 1285) dL_law_1284 rfl ?_
                                                                        obtain ⟨b324, h⟩ := h
                                                                        refine GW.sload (pc' := 1286) dL_law_1285 rfl b324 ?_
                                                                        refine GW.aload_n (pc' := 1287) dL_law_1286 rfl rfl ?_
                                                                        refine GW.iload_n (pc' := 1288) dL_law_1287 rfl rfl ?_
                                                                        refine GW.iconst (pc' := 1289) (v := 2) dL_law_1288 rfl (by decide) ?_
                                                                        refine GW.iadd (pc' := 1290) dL_law_1289 rfl ?_
                                                                        obtain ⟨b325, h⟩ := h
                                                                        refine GW.sload (pc' := 1291) dL_law_1290 rfl b325 ?_
                                                                        refine GW.aload_n (pc' := 1292) dL_law_1291 rfl rfl ?_
                                                                        refine GW.iload_n (pc' := 1293) dL_law_1292 rfl rfl ?_
                                                                        refine GW.iconst (pc' := 1294) (v := 3) dL_law_1293 rfl (by decide) ?_
                                                                        refine GW.iadd (pc' := 1295) dL_law_1294 rfl ?_
                                                                        obtain ⟨b326, h⟩ := h
                                                                        refine GW.sload (pc' := 1296) dL_law_1295 rfl b326 ?_
                                                                        refine GW.callV (pc' := 1299) (k := 0) (av := [.int (xs.2 ((v3 + 1)).toNatClampNeg), .int (xs.2 ((v3 + 2)).toNatClampNeg), .int (xs.2 ((v3 + 3)).toNatClampNeg)]) (rest := []) dL_law_1296 rfl mk_X8_put lk_L_154 vk_X8_put ko_0 rfl rfl (Nat.le_of_ble_eq_true rfl) (bk_i (MI.mono h (fun r327 M328 h => ?_)))
                                                                        refine GW.aload_n (pc' := 1300) dL_law_1299 rfl rfl ?_
                                                                        refine GW.aload_n (pc' := 1301) dL_law_1300 rfl rfl ?_
                                                                        refine GW.iload_n (pc' := 1302) dL_law_1301 rfl rfl ?_
                                                                        refine GW.iconst (pc' := 1303) (v := 1) dL_law_1302 rfl (by decide) ?_
                                                                        refine GW.iadd (pc' := 1304) dL_law_1303 rfl ?_
                                                                        obtain ⟨b329, h⟩ := h
                                                                        refine GW.sload (pc' := 1305) dL_law_1304 rfl b329 ?_
                                                                        refine GW.aload_n (pc' := 1306) dL_law_1305 rfl rfl ?_
                                                                        refine GW.iload_n (pc' := 1307) dL_law_1306 rfl rfl ?_
                                                                        refine GW.iconst (pc' := 1308) (v := 2) dL_law_1307 rfl (by decide) ?_
                                                                        refine GW.iadd (pc' := 1309) dL_law_1308 rfl ?_
                                                                        obtain ⟨b330, h⟩ := h
                                                                        refine GW.sload (pc' := 1310) dL_law_1309 rfl b330 ?_
                                                                        refine GW.aload_n (pc' := 1311) dL_law_1310 rfl rfl ?_
                                                                        refine GW.iload_n (pc' := 1312) dL_law_1311 rfl rfl ?_
                                                                        refine GW.iconst (pc' := 1313) (v := 3) dL_law_1312 rfl (by decide) ?_
                                                                        refine GW.iadd (pc' := 1314) dL_law_1313 rfl ?_
                                                                        obtain ⟨b331, h⟩ := h
                                                                        refine GW.sload (pc' := 1315) dL_law_1314 rfl b331 ?_
                                                                        refine GW.callV (pc' := 1318) (k := 64) (av := [.int (xs.2 ((v3 + 1)).toNatClampNeg), .int (xs.2 ((v3 + 2)).toNatClampNeg), .int (xs.2 ((v3 + 3)).toNatClampNeg)]) (rest := [.int r327]) dL_law_1315 rfl mk_X9_put lk_L_157 vk_X9_put ko_64 rfl rfl (Nat.le_of_ble_eq_true rfl) (bk_i (MI.mono h (fun r332 M333 h => ?_)))
                                                                        refine GW.if_icmpeq (pc' := 1321) (tgt := 1560) dL_law_1318 rfl (by decide) (ite_i (fun c334 => ?_) (fun c334 => ?_))
                                                                        · replace h := ite_t h c334
                                                                          refine GW.iinc (pc' := 1563) (lv' := [(0, .ref 3000), (1, .ref 0), (2, .ref 64), (3, .int (v3 + 6))]) (v := (v3 + 6)) dL_law_1560 rfl rfl (by decide) rfl rfl rfl ?_
                                                                          refine GW.goto (tgt := 18) dL_law_1563 (by decide) ?_
                                                                          exact h
                                                                        · replace h := ite_f h c334
                                                                          refine GW.iconst (pc' := 1322) (v := 0) dL_law_1321 rfl (by decide) ?_
                                                                          refine GW.zret dL_law_1322 rfl (by decide) ⟨_, rfl, ?_⟩
                                                                          exact h
                                                                      · replace h := ite_f h c323
                                                                        by_cases c335 : ((xs.2 v3.toNatClampNeg) &&& 63) = 34
                                                                        · replace h := ite_t h c335
                                                                          refine GW.tswIn (v := 34) (tgt := 1323) dL_law_33 (by rw [c335]; rfl) (by decide) (by decide) rfl (by decide) ?_
                                                                          refine GW.aload_n (pc' := 1324) dL_law_1323 rfl rfl ?_
                                                                          refine GW.aload_n (pc' := 1325) dL_law_1324 rfl rfl ?_
                                                                          refine GW.iload_n (pc' := 1326) dL_law_1325 rfl rfl ?_
                                                                          refine GW.iconst (pc' := 1327) (v := 1) dL_law_1326 rfl (by decide) ?_
                                                                          refine GW.iadd (pc' := 1328) dL_law_1327 rfl ?_
                                                                          obtain ⟨b336, h⟩ := h
                                                                          refine GW.sload (pc' := 1329) dL_law_1328 rfl b336 ?_
                                                                          refine GW.aload_n (pc' := 1330) dL_law_1329 rfl rfl ?_
                                                                          refine GW.iload_n (pc' := 1331) dL_law_1330 rfl rfl ?_
                                                                          refine GW.iconst (pc' := 1332) (v := 2) dL_law_1331 rfl (by decide) ?_
                                                                          refine GW.iadd (pc' := 1333) dL_law_1332 rfl ?_
                                                                          obtain ⟨b337, h⟩ := h
                                                                          refine GW.sload (pc' := 1334) dL_law_1333 rfl b337 ?_
                                                                          refine GW.aload_n (pc' := 1335) dL_law_1334 rfl rfl ?_
                                                                          refine GW.iload_n (pc' := 1336) dL_law_1335 rfl rfl ?_
                                                                          refine GW.iconst (pc' := 1337) (v := 3) dL_law_1336 rfl (by decide) ?_
                                                                          refine GW.iadd (pc' := 1338) dL_law_1337 rfl ?_
                                                                          obtain ⟨b338, h⟩ := h
                                                                          refine GW.sload (pc' := 1339) dL_law_1338 rfl b338 ?_
                                                                          refine GW.aload_n (pc' := 1340) dL_law_1339 rfl rfl ?_
                                                                          refine GW.iload_n (pc' := 1341) dL_law_1340 rfl rfl ?_
                                                                          refine GW.iconst (pc' := 1342) (v := 4) dL_law_1341 rfl (by decide) ?_
                                                                          refine GW.iadd (pc' := 1343) dL_law_1342 rfl ?_
                                                                          obtain ⟨b339, h⟩ := h
                                                                          refine GW.sload (pc' := 1344) dL_law_1343 rfl b339 ?_
                                                                          refine GW.aload_n (pc' := 1345) dL_law_1344 rfl rfl ?_
                                                                          refine GW.iload_n (pc' := 1346) dL_law_1345 rfl rfl ?_
                                                                          refine GW.iconst (pc' := 1347) (v := 5) dL_law_1346 rfl (by decide) ?_
                                                                          refine GW.iadd (pc' := 1348) dL_law_1347 rfl ?_
                                                                          obtain ⟨b340, h⟩ := h
                                                                          refine GW.sload (pc' := 1349) dL_law_1348 rfl b340 ?_
                                                                          refine GW.callV (pc' := 1352) (k := 0) (av := [.int (xs.2 ((v3 + 1)).toNatClampNeg), .int (xs.2 ((v3 + 2)).toNatClampNeg), .int (xs.2 ((v3 + 3)).toNatClampNeg), .int (xs.2 ((v3 + 4)).toNatClampNeg), .int (xs.2 ((v3 + 5)).toNatClampNeg)]) (rest := []) dL_law_1349 rfl mk_X8_move lk_L_158 vk_X8_move ko_0 rfl rfl (Nat.le_of_ble_eq_true rfl) (bk_i (MI.mono h (fun r341 M342 h => ?_)))
                                                                          refine GW.aload_n (pc' := 1353) dL_law_1352 rfl rfl ?_
                                                                          refine GW.aload_n (pc' := 1354) dL_law_1353 rfl rfl ?_
                                                                          refine GW.iload_n (pc' := 1355) dL_law_1354 rfl rfl ?_
                                                                          refine GW.iconst (pc' := 1356) (v := 1) dL_law_1355 rfl (by decide) ?_
                                                                          refine GW.iadd (pc' := 1357) dL_law_1356 rfl ?_
                                                                          obtain ⟨b343, h⟩ := h
                                                                          refine GW.sload (pc' := 1358) dL_law_1357 rfl b343 ?_
                                                                          refine GW.aload_n (pc' := 1359) dL_law_1358 rfl rfl ?_
                                                                          refine GW.iload_n (pc' := 1360) dL_law_1359 rfl rfl ?_
                                                                          refine GW.iconst (pc' := 1361) (v := 2) dL_law_1360 rfl (by decide) ?_
                                                                          refine GW.iadd (pc' := 1362) dL_law_1361 rfl ?_
                                                                          obtain ⟨b344, h⟩ := h
                                                                          refine GW.sload (pc' := 1363) dL_law_1362 rfl b344 ?_
                                                                          refine GW.aload_n (pc' := 1364) dL_law_1363 rfl rfl ?_
                                                                          refine GW.iload_n (pc' := 1365) dL_law_1364 rfl rfl ?_
                                                                          refine GW.iconst (pc' := 1366) (v := 3) dL_law_1365 rfl (by decide) ?_
                                                                          refine GW.iadd (pc' := 1367) dL_law_1366 rfl ?_
                                                                          obtain ⟨b345, h⟩ := h
                                                                          refine GW.sload (pc' := 1368) dL_law_1367 rfl b345 ?_
                                                                          refine GW.aload_n (pc' := 1369) dL_law_1368 rfl rfl ?_
                                                                          refine GW.iload_n (pc' := 1370) dL_law_1369 rfl rfl ?_
                                                                          refine GW.iconst (pc' := 1371) (v := 4) dL_law_1370 rfl (by decide) ?_
                                                                          refine GW.iadd (pc' := 1372) dL_law_1371 rfl ?_
                                                                          obtain ⟨b346, h⟩ := h
                                                                          refine GW.sload (pc' := 1373) dL_law_1372 rfl b346 ?_
                                                                          refine GW.aload_n (pc' := 1374) dL_law_1373 rfl rfl ?_
                                                                          refine GW.iload_n (pc' := 1375) dL_law_1374 rfl rfl ?_
                                                                          refine GW.iconst (pc' := 1376) (v := 5) dL_law_1375 rfl (by decide) ?_
                                                                          refine GW.iadd (pc' := 1377) dL_law_1376 rfl ?_
                                                                          obtain ⟨b347, h⟩ := h
                                                                          refine GW.sload (pc' := 1378) dL_law_1377 rfl b347 ?_
                                                                          refine GW.callV (pc' := 1381) (k := 64) (av := [.int (xs.2 ((v3 + 1)).toNatClampNeg), .int (xs.2 ((v3 + 2)).toNatClampNeg), .int (xs.2 ((v3 + 3)).toNatClampNeg), .int (xs.2 ((v3 + 4)).toNatClampNeg), .int (xs.2 ((v3 + 5)).toNatClampNeg)]) (rest := [.int r341]) dL_law_1378 rfl mk_X9_move lk_L_162 vk_X9_move ko_64 rfl rfl (Nat.le_of_ble_eq_true rfl) (bk_i (MI.mono h (fun r348 M349 h => ?_)))
                                                                          refine GW.if_icmpeq (pc' := 1384) (tgt := 1560) dL_law_1381 rfl (by decide) (ite_i (fun c350 => ?_) (fun c350 => ?_))
                                                                          · replace h := ite_t h c350
                                                                            refine GW.iinc (pc' := 1563) (lv' := [(0, .ref 3000), (1, .ref 0), (2, .ref 64), (3, .int (v3 + 6))]) (v := (v3 + 6)) dL_law_1560 rfl rfl (by decide) rfl rfl rfl ?_
                                                                            refine GW.goto (tgt := 18) dL_law_1563 (by decide) ?_
                                                                            exact h
                                                                          · replace h := ite_f h c350
                                                                            refine GW.iconst (pc' := 1385) (v := 0) dL_law_1384 rfl (by decide) ?_
                                                                            refine GW.zret dL_law_1385 rfl (by decide) ⟨_, rfl, ?_⟩
                                                                            exact h
                                                                        · replace h := ite_f h c335
                                                                          by_cases c351 : ((xs.2 v3.toNatClampNeg) &&& 63) = 35
                                                                          · replace h := ite_t h c351
                                                                            refine GW.tswIn (v := 35) (tgt := 1386) dL_law_33 (by rw [c351]; rfl) (by decide) (by decide) rfl (by decide) ?_
                                                                            refine GW.aload_n (pc' := 1387) dL_law_1386 rfl rfl ?_
                                                                            refine GW.aload_n (pc' := 1388) dL_law_1387 rfl rfl ?_
                                                                            refine GW.iload_n (pc' := 1389) dL_law_1388 rfl rfl ?_
                                                                            refine GW.iconst (pc' := 1390) (v := 1) dL_law_1389 rfl (by decide) ?_
                                                                            refine GW.iadd (pc' := 1391) dL_law_1390 rfl ?_
                                                                            obtain ⟨b352, h⟩ := h
                                                                            refine GW.sload (pc' := 1392) dL_law_1391 rfl b352 ?_
                                                                            refine GW.callV (pc' := 1395) (k := 0) (av := [.int (xs.2 ((v3 + 1)).toNatClampNeg)]) (rest := []) dL_law_1392 rfl mk_X8_papers lk_L_163 vk_X8_papers ko_0 rfl rfl (Nat.le_of_ble_eq_true rfl) (bk_i (MI.mono h (fun r353 M354 h => ?_)))
                                                                            refine GW.aload_n (pc' := 1396) dL_law_1395 rfl rfl ?_
                                                                            refine GW.aload_n (pc' := 1397) dL_law_1396 rfl rfl ?_
                                                                            refine GW.iload_n (pc' := 1398) dL_law_1397 rfl rfl ?_
                                                                            refine GW.iconst (pc' := 1399) (v := 1) dL_law_1398 rfl (by decide) ?_
                                                                            refine GW.iadd (pc' := 1400) dL_law_1399 rfl ?_
                                                                            obtain ⟨b355, h⟩ := h
                                                                            refine GW.sload (pc' := 1401) dL_law_1400 rfl b355 ?_
                                                                            refine GW.callV (pc' := 1404) (k := 64) (av := [.int (xs.2 ((v3 + 1)).toNatClampNeg)]) (rest := [.int r353]) dL_law_1401 rfl mk_X9_papers lk_L_166 vk_X9_papers ko_64 rfl rfl (Nat.le_of_ble_eq_true rfl) (bk_i (MI.mono h (fun r356 M357 h => ?_)))
                                                                            refine GW.if_icmpeq (pc' := 1407) (tgt := 1560) dL_law_1404 rfl (by decide) (ite_i (fun c358 => ?_) (fun c358 => ?_))
                                                                            · replace h := ite_t h c358
                                                                              refine GW.iinc (pc' := 1563) (lv' := [(0, .ref 3000), (1, .ref 0), (2, .ref 64), (3, .int (v3 + 6))]) (v := (v3 + 6)) dL_law_1560 rfl rfl (by decide) rfl rfl rfl ?_
                                                                              refine GW.goto (tgt := 18) dL_law_1563 (by decide) ?_
                                                                              exact h
                                                                            · replace h := ite_f h c358
                                                                              refine GW.iconst (pc' := 1408) (v := 0) dL_law_1407 rfl (by decide) ?_
                                                                              refine GW.zret dL_law_1408 rfl (by decide) ⟨_, rfl, ?_⟩
                                                                              exact h
                                                                          · replace h := ite_f h c351
                                                                            by_cases c359 : ((xs.2 v3.toNatClampNeg) &&& 63) = 36
                                                                            · replace h := ite_t h c359
                                                                              refine GW.tswIn (v := 36) (tgt := 1409) dL_law_33 (by rw [c359]; rfl) (by decide) (by decide) rfl (by decide) ?_
                                                                              refine GW.aload_n (pc' := 1410) dL_law_1409 rfl rfl ?_
                                                                              refine GW.aload_n (pc' := 1411) dL_law_1410 rfl rfl ?_
                                                                              refine GW.iload_n (pc' := 1412) dL_law_1411 rfl rfl ?_
                                                                              refine GW.iconst (pc' := 1413) (v := 1) dL_law_1412 rfl (by decide) ?_
                                                                              refine GW.iadd (pc' := 1414) dL_law_1413 rfl ?_
                                                                              obtain ⟨b360, h⟩ := h
                                                                              refine GW.sload (pc' := 1415) dL_law_1414 rfl b360 ?_
                                                                              refine GW.aload_n (pc' := 1416) dL_law_1415 rfl rfl ?_
                                                                              refine GW.iload_n (pc' := 1417) dL_law_1416 rfl rfl ?_
                                                                              refine GW.iconst (pc' := 1418) (v := 2) dL_law_1417 rfl (by decide) ?_
                                                                              refine GW.iadd (pc' := 1419) dL_law_1418 rfl ?_
                                                                              obtain ⟨b361, h⟩ := h
                                                                              refine GW.sload (pc' := 1420) dL_law_1419 rfl b361 ?_
                                                                              refine GW.aload_n (pc' := 1421) dL_law_1420 rfl rfl ?_
                                                                              refine GW.iload_n (pc' := 1422) dL_law_1421 rfl rfl ?_
                                                                              refine GW.iconst (pc' := 1423) (v := 3) dL_law_1422 rfl (by decide) ?_
                                                                              refine GW.iadd (pc' := 1424) dL_law_1423 rfl ?_
                                                                              obtain ⟨b362, h⟩ := h
                                                                              refine GW.sload (pc' := 1425) dL_law_1424 rfl b362 ?_
                                                                              refine GW.callV (pc' := 1428) (k := 0) (av := [.int (xs.2 ((v3 + 1)).toNatClampNeg), .int (xs.2 ((v3 + 2)).toNatClampNeg), .int (xs.2 ((v3 + 3)).toNatClampNeg)]) (rest := []) dL_law_1425 rfl mk_X8_judge lk_L_167 vk_X8_judge ko_0 rfl rfl (Nat.le_of_ble_eq_true rfl) (bk_i (MI.mono h (fun r363 M364 h => ?_)))
                                                                              refine GW.aload_n (pc' := 1429) dL_law_1428 rfl rfl ?_
                                                                              refine GW.aload_n (pc' := 1430) dL_law_1429 rfl rfl ?_
                                                                              refine GW.iload_n (pc' := 1431) dL_law_1430 rfl rfl ?_
                                                                              refine GW.iconst (pc' := 1432) (v := 1) dL_law_1431 rfl (by decide) ?_
                                                                              refine GW.iadd (pc' := 1433) dL_law_1432 rfl ?_
                                                                              obtain ⟨b365, h⟩ := h
                                                                              refine GW.sload (pc' := 1434) dL_law_1433 rfl b365 ?_
                                                                              refine GW.aload_n (pc' := 1435) dL_law_1434 rfl rfl ?_
                                                                              refine GW.iload_n (pc' := 1436) dL_law_1435 rfl rfl ?_
                                                                              refine GW.iconst (pc' := 1437) (v := 2) dL_law_1436 rfl (by decide) ?_
                                                                              refine GW.iadd (pc' := 1438) dL_law_1437 rfl ?_
                                                                              obtain ⟨b366, h⟩ := h
                                                                              refine GW.sload (pc' := 1439) dL_law_1438 rfl b366 ?_
                                                                              refine GW.aload_n (pc' := 1440) dL_law_1439 rfl rfl ?_
                                                                              refine GW.iload_n (pc' := 1441) dL_law_1440 rfl rfl ?_
                                                                              refine GW.iconst (pc' := 1442) (v := 3) dL_law_1441 rfl (by decide) ?_
                                                                              refine GW.iadd (pc' := 1443) dL_law_1442 rfl ?_
                                                                              obtain ⟨b367, h⟩ := h
                                                                              refine GW.sload (pc' := 1444) dL_law_1443 rfl b367 ?_
                                                                              refine GW.callV (pc' := 1447) (k := 64) (av := [.int (xs.2 ((v3 + 1)).toNatClampNeg), .int (xs.2 ((v3 + 2)).toNatClampNeg), .int (xs.2 ((v3 + 3)).toNatClampNeg)]) (rest := [.int r363]) dL_law_1444 rfl mk_X9_judge lk_L_170 vk_X9_judge ko_64 rfl rfl (Nat.le_of_ble_eq_true rfl) (bk_i (MI.mono h (fun r368 M369 h => ?_)))
                                                                              refine GW.if_icmpeq (pc' := 1450) (tgt := 1560) dL_law_1447 rfl (by decide) (ite_i (fun c370 => ?_) (fun c370 => ?_))
                                                                              · replace h := ite_t h c370
                                                                                refine GW.iinc (pc' := 1563) (lv' := [(0, .ref 3000), (1, .ref 0), (2, .ref 64), (3, .int (v3 + 6))]) (v := (v3 + 6)) dL_law_1560 rfl rfl (by decide) rfl rfl rfl ?_
                                                                                refine GW.goto (tgt := 18) dL_law_1563 (by decide) ?_
                                                                                exact h
                                                                              · replace h := ite_f h c370
                                                                                refine GW.iconst (pc' := 1451) (v := 0) dL_law_1450 rfl (by decide) ?_
                                                                                refine GW.zret dL_law_1451 rfl (by decide) ⟨_, rfl, ?_⟩
                                                                                exact h
                                                                            · replace h := ite_f h c359
                                                                              by_cases c371 : ((xs.2 v3.toNatClampNeg) &&& 63) = 37
                                                                              · replace h := ite_t h c371
                                                                                refine GW.tswIn (v := 37) (tgt := 1452) dL_law_33 (by rw [c371]; rfl) (by decide) (by decide) rfl (by decide) ?_
                                                                                refine GW.aload_n (pc' := 1453) dL_law_1452 rfl rfl ?_
                                                                                refine GW.callV (pc' := 1456) (k := 0) (av := []) (rest := []) dL_law_1453 rfl mk_X8_image lk_L_171 vk_X8_image ko_0 rfl rfl (Nat.le_of_ble_eq_true rfl) (bk_i (MI.mono h (fun r372 M373 h => ?_)))
                                                                                refine GW.aload_n (pc' := 1457) dL_law_1456 rfl rfl ?_
                                                                                refine GW.callV (pc' := 1460) (k := 64) (av := []) (rest := [.int r372]) dL_law_1457 rfl mk_X9_image lk_L_174 vk_X9_image ko_64 rfl rfl (Nat.le_of_ble_eq_true rfl) (bk_i (MI.mono h (fun r374 M375 h => ?_)))
                                                                                refine GW.if_icmpeq (pc' := 1463) (tgt := 1560) dL_law_1460 rfl (by decide) (ite_i (fun c376 => ?_) (fun c376 => ?_))
                                                                                · replace h := ite_t h c376
                                                                                  refine GW.iinc (pc' := 1563) (lv' := [(0, .ref 3000), (1, .ref 0), (2, .ref 64), (3, .int (v3 + 6))]) (v := (v3 + 6)) dL_law_1560 rfl rfl (by decide) rfl rfl rfl ?_
                                                                                  refine GW.goto (tgt := 18) dL_law_1563 (by decide) ?_
                                                                                  exact h
                                                                                · replace h := ite_f h c376
                                                                                  refine GW.iconst (pc' := 1464) (v := 0) dL_law_1463 rfl (by decide) ?_
                                                                                  refine GW.zret dL_law_1464 rfl (by decide) ⟨_, rfl, ?_⟩
                                                                                  exact h
                                                                              · replace h := ite_f h c371
                                                                                by_cases c377 : ((xs.2 v3.toNatClampNeg) &&& 63) = 38
                                                                                · replace h := ite_t h c377
                                                                                  refine GW.tswIn (v := 38) (tgt := 1465) dL_law_33 (by rw [c377]; rfl) (by decide) (by decide) rfl (by decide) ?_
                                                                                  refine GW.aload_n (pc' := 1466) dL_law_1465 rfl rfl ?_
                                                                                  refine GW.callV (pc' := 1469) (k := 0) (av := []) (rest := []) dL_law_1466 rfl mk_X8_restore lk_L_175 vk_X8_restore ko_0 rfl rfl (Nat.le_of_ble_eq_true rfl) (bk_i (MI.mono h (fun r378 M379 h => ?_)))
                                                                                  refine GW.aload_n (pc' := 1470) dL_law_1469 rfl rfl ?_
                                                                                  refine GW.callV (pc' := 1473) (k := 64) (av := []) (rest := [.int r378]) dL_law_1470 rfl mk_X9_restore lk_L_178 vk_X9_restore ko_64 rfl rfl (Nat.le_of_ble_eq_true rfl) (bk_i (MI.mono h (fun r380 M381 h => ?_)))
                                                                                  refine GW.if_icmpeq (pc' := 1476) (tgt := 1560) dL_law_1473 rfl (by decide) (ite_i (fun c382 => ?_) (fun c382 => ?_))
                                                                                  · replace h := ite_t h c382
                                                                                    refine GW.iinc (pc' := 1563) (lv' := [(0, .ref 3000), (1, .ref 0), (2, .ref 64), (3, .int (v3 + 6))]) (v := (v3 + 6)) dL_law_1560 rfl rfl (by decide) rfl rfl rfl ?_
                                                                                    refine GW.goto (tgt := 18) dL_law_1563 (by decide) ?_
                                                                                    exact h
                                                                                  · replace h := ite_f h c382
                                                                                    refine GW.iconst (pc' := 1477) (v := 0) dL_law_1476 rfl (by decide) ?_
                                                                                    refine GW.zret dL_law_1477 rfl (by decide) ⟨_, rfl, ?_⟩
                                                                                    exact h
                                                                                · replace h := ite_f h c377
                                                                                  by_cases c383 : ((xs.2 v3.toNatClampNeg) &&& 63) = 39
                                                                                  · replace h := ite_t h c383
                                                                                    refine GW.tswIn (v := 39) (tgt := 1478) dL_law_33 (by rw [c383]; rfl) (by decide) (by decide) rfl (by decide) ?_
                                                                                    refine GW.aload_n (pc' := 1479) dL_law_1478 rfl rfl ?_
                                                                                    refine GW.aload_n (pc' := 1480) dL_law_1479 rfl rfl ?_
                                                                                    refine GW.iload_n (pc' := 1481) dL_law_1480 rfl rfl ?_
                                                                                    refine GW.iconst (pc' := 1482) (v := 1) dL_law_1481 rfl (by decide) ?_
                                                                                    refine GW.iadd (pc' := 1483) dL_law_1482 rfl ?_
                                                                                    obtain ⟨b384, h⟩ := h
                                                                                    refine GW.sload (pc' := 1484) dL_law_1483 rfl b384 ?_
                                                                                    refine GW.callV (pc' := 1487) (k := 0) (av := [.int (xs.2 ((v3 + 1)).toNatClampNeg)]) (rest := []) dL_law_1484 rfl mk_X8_tell lk_L_179 vk_X8_tell ko_0 rfl rfl (Nat.le_of_ble_eq_true rfl) (bk_i (MI.mono h (fun r385 M386 h => ?_)))
                                                                                    refine GW.aload_n (pc' := 1488) dL_law_1487 rfl rfl ?_
                                                                                    refine GW.aload_n (pc' := 1489) dL_law_1488 rfl rfl ?_
                                                                                    refine GW.iload_n (pc' := 1490) dL_law_1489 rfl rfl ?_
                                                                                    refine GW.iconst (pc' := 1491) (v := 1) dL_law_1490 rfl (by decide) ?_
                                                                                    refine GW.iadd (pc' := 1492) dL_law_1491 rfl ?_
                                                                                    obtain ⟨b387, h⟩ := h
                                                                                    refine GW.sload (pc' := 1493) dL_law_1492 rfl b387 ?_
                                                                                    refine GW.callV (pc' := 1496) (k := 64) (av := [.int (xs.2 ((v3 + 1)).toNatClampNeg)]) (rest := [.int r385]) dL_law_1493 rfl mk_X9_tell lk_L_182 vk_X9_tell ko_64 rfl rfl (Nat.le_of_ble_eq_true rfl) (bk_i (MI.mono h (fun r388 M389 h => ?_)))
                                                                                    refine GW.if_icmpeq (pc' := 1499) (tgt := 1560) dL_law_1496 rfl (by decide) (ite_i (fun c390 => ?_) (fun c390 => ?_))
                                                                                    · replace h := ite_t h c390
                                                                                      refine GW.iinc (pc' := 1563) (lv' := [(0, .ref 3000), (1, .ref 0), (2, .ref 64), (3, .int (v3 + 6))]) (v := (v3 + 6)) dL_law_1560 rfl rfl (by decide) rfl rfl rfl ?_
                                                                                      refine GW.goto (tgt := 18) dL_law_1563 (by decide) ?_
                                                                                      exact h
                                                                                    · replace h := ite_f h c390
                                                                                      refine GW.iconst (pc' := 1500) (v := 0) dL_law_1499 rfl (by decide) ?_
                                                                                      refine GW.zret dL_law_1500 rfl (by decide) ⟨_, rfl, ?_⟩
                                                                                      exact h
                                                                                  · replace h := ite_f h c383
                                                                                    by_cases c391 : ((xs.2 v3.toNatClampNeg) &&& 63) = 40
                                                                                    · replace h := ite_t h c391
                                                                                      refine GW.tswIn (v := 40) (tgt := 1501) dL_law_33 (by rw [c391]; rfl) (by decide) (by decide) rfl (by decide) ?_
                                                                                      refine GW.aload_n (pc' := 1502) dL_law_1501 rfl rfl ?_
                                                                                      refine GW.callV (pc' := 1505) (k := 0) (av := []) (rest := []) dL_law_1502 rfl mk_X8_check lk_L_183 vk_X8_check ko_0 rfl rfl (Nat.le_of_ble_eq_true rfl) (bk_i (MI.mono h (fun r392 M393 h => ?_)))
                                                                                      refine GW.aload_n (pc' := 1506) dL_law_1505 rfl rfl ?_
                                                                                      refine GW.callV (pc' := 1509) (k := 64) (av := []) (rest := [.int r392]) dL_law_1506 rfl mk_X9_check lk_L_186 vk_X9_check ko_64 rfl rfl (Nat.le_of_ble_eq_true rfl) (bk_i (MI.mono h (fun r394 M395 h => ?_)))
                                                                                      refine GW.if_icmpeq (pc' := 1512) (tgt := 1560) dL_law_1509 rfl (by decide) (ite_i (fun c396 => ?_) (fun c396 => ?_))
                                                                                      · replace h := ite_t h c396
                                                                                        refine GW.iinc (pc' := 1563) (lv' := [(0, .ref 3000), (1, .ref 0), (2, .ref 64), (3, .int (v3 + 6))]) (v := (v3 + 6)) dL_law_1560 rfl rfl (by decide) rfl rfl rfl ?_
                                                                                        refine GW.goto (tgt := 18) dL_law_1563 (by decide) ?_
                                                                                        exact h
                                                                                      · replace h := ite_f h c396
                                                                                        refine GW.iconst (pc' := 1513) (v := 0) dL_law_1512 rfl (by decide) ?_
                                                                                        refine GW.zret dL_law_1513 rfl (by decide) ⟨_, rfl, ?_⟩
                                                                                        exact h
                                                                                    · replace h := ite_f h c391
                                                                                      by_cases c397 : ((xs.2 v3.toNatClampNeg) &&& 63) = 41
                                                                                      · replace h := ite_t h c397
                                                                                        refine GW.tswIn (v := 41) (tgt := 1514) dL_law_33 (by rw [c397]; rfl) (by decide) (by decide) rfl (by decide) ?_
                                                                                        refine GW.aload_n (pc' := 1515) dL_law_1514 rfl rfl ?_
                                                                                        refine GW.aload_n (pc' := 1516) dL_law_1515 rfl rfl ?_
                                                                                        refine GW.iload_n (pc' := 1517) dL_law_1516 rfl rfl ?_
                                                                                        refine GW.iconst (pc' := 1518) (v := 1) dL_law_1517 rfl (by decide) ?_
                                                                                        refine GW.iadd (pc' := 1519) dL_law_1518 rfl ?_
                                                                                        obtain ⟨b398, h⟩ := h
                                                                                        refine GW.sload (pc' := 1520) dL_law_1519 rfl b398 ?_
                                                                                        refine GW.callV (pc' := 1523) (k := 0) (av := [.int (xs.2 ((v3 + 1)).toNatClampNeg)]) (rest := []) dL_law_1520 rfl mk_X8_count lk_L_187 vk_X8_count ko_0 rfl rfl (Nat.le_of_ble_eq_true rfl) (bk_i (MI.mono h (fun r399 M400 h => ?_)))
                                                                                        refine GW.aload_n (pc' := 1524) dL_law_1523 rfl rfl ?_
                                                                                        refine GW.aload_n (pc' := 1525) dL_law_1524 rfl rfl ?_
                                                                                        refine GW.iload_n (pc' := 1526) dL_law_1525 rfl rfl ?_
                                                                                        refine GW.iconst (pc' := 1527) (v := 1) dL_law_1526 rfl (by decide) ?_
                                                                                        refine GW.iadd (pc' := 1528) dL_law_1527 rfl ?_
                                                                                        obtain ⟨b401, h⟩ := h
                                                                                        refine GW.sload (pc' := 1529) dL_law_1528 rfl b401 ?_
                                                                                        refine GW.callV (pc' := 1532) (k := 64) (av := [.int (xs.2 ((v3 + 1)).toNatClampNeg)]) (rest := [.int r399]) dL_law_1529 rfl mk_X9_count lk_L_190 vk_X9_count ko_64 rfl rfl (Nat.le_of_ble_eq_true rfl) (bk_i (MI.mono h (fun r402 M403 h => ?_)))
                                                                                        refine GW.if_icmpeq (pc' := 1535) (tgt := 1560) dL_law_1532 rfl (by decide) (ite_i (fun c404 => ?_) (fun c404 => ?_))
                                                                                        · replace h := ite_t h c404
                                                                                          refine GW.iinc (pc' := 1563) (lv' := [(0, .ref 3000), (1, .ref 0), (2, .ref 64), (3, .int (v3 + 6))]) (v := (v3 + 6)) dL_law_1560 rfl rfl (by decide) rfl rfl rfl ?_
                                                                                          refine GW.goto (tgt := 18) dL_law_1563 (by decide) ?_
                                                                                          exact h
                                                                                        · replace h := ite_f h c404
                                                                                          refine GW.iconst (pc' := 1536) (v := 0) dL_law_1535 rfl (by decide) ?_
                                                                                          refine GW.zret dL_law_1536 rfl (by decide) ⟨_, rfl, ?_⟩
                                                                                          exact h
                                                                                      · replace h := ite_f h c397
                                                                                        by_cases c405 : ((xs.2 v3.toNatClampNeg) &&& 63) = 42
                                                                                        · replace h := ite_t h c405
                                                                                          refine GW.tswIn (v := 42) (tgt := 1537) dL_law_33 (by rw [c405]; rfl) (by decide) (by decide) rfl (by decide) ?_
                                                                                          refine GW.aload_n (pc' := 1538) dL_law_1537 rfl rfl ?_
                                                                                          refine GW.aload_n (pc' := 1539) dL_law_1538 rfl rfl ?_
                                                                                          refine GW.iload_n (pc' := 1540) dL_law_1539 rfl rfl ?_
                                                                                          refine GW.iconst (pc' := 1541) (v := 1) dL_law_1540 rfl (by decide) ?_
                                                                                          refine GW.iadd (pc' := 1542) dL_law_1541 rfl ?_
                                                                                          obtain ⟨b406, h⟩ := h
                                                                                          refine GW.sload (pc' := 1543) dL_law_1542 rfl b406 ?_
                                                                                          refine GW.callV (pc' := 1546) (k := 0) (av := [.int (xs.2 ((v3 + 1)).toNatClampNeg)]) (rest := []) dL_law_1543 rfl mk_X8_told lk_L_191 vk_X8_told ko_0 rfl rfl (Nat.le_of_ble_eq_true rfl) (bk_i (MI.mono h (fun r407 M408 h => ?_)))
                                                                                          refine GW.aload_n (pc' := 1547) dL_law_1546 rfl rfl ?_
                                                                                          refine GW.aload_n (pc' := 1548) dL_law_1547 rfl rfl ?_
                                                                                          refine GW.iload_n (pc' := 1549) dL_law_1548 rfl rfl ?_
                                                                                          refine GW.iconst (pc' := 1550) (v := 1) dL_law_1549 rfl (by decide) ?_
                                                                                          refine GW.iadd (pc' := 1551) dL_law_1550 rfl ?_
                                                                                          obtain ⟨b409, h⟩ := h
                                                                                          refine GW.sload (pc' := 1552) dL_law_1551 rfl b409 ?_
                                                                                          refine GW.callV (pc' := 1555) (k := 64) (av := [.int (xs.2 ((v3 + 1)).toNatClampNeg)]) (rest := [.int r407]) dL_law_1552 rfl mk_X9_told lk_L_194 vk_X9_told ko_64 rfl rfl (Nat.le_of_ble_eq_true rfl) (bk_i (MI.mono h (fun r410 M411 h => ?_)))
                                                                                          refine GW.if_icmpeq (pc' := 1558) (tgt := 1560) dL_law_1555 rfl (by decide) (ite_i (fun c412 => ?_) (fun c412 => ?_))
                                                                                          · replace h := ite_t h c412
                                                                                            refine GW.iinc (pc' := 1563) (lv' := [(0, .ref 3000), (1, .ref 0), (2, .ref 64), (3, .int (v3 + 6))]) (v := (v3 + 6)) dL_law_1560 rfl rfl (by decide) rfl rfl rfl ?_
                                                                                            refine GW.goto (tgt := 18) dL_law_1563 (by decide) ?_
                                                                                            exact h
                                                                                          · replace h := ite_f h c412
                                                                                            refine GW.iconst (pc' := 1559) (v := 0) dL_law_1558 rfl (by decide) ?_
                                                                                            refine GW.zret dL_law_1559 rfl (by decide) ⟨_, rfl, ?_⟩
                                                                                            exact h
                                                                                        · replace h := ite_f h c405
                                                                                          refine GW.tswOut (tgt := 1560) dL_law_33 (by have qc3 := lv_neT c3 (rfl : _ = (0 : Int)); have qc15 := lv_neT c15 (rfl : _ = (1 : Int)); have qc25 := lv_neT c25 (rfl : _ = (2 : Int)); have qc31 := lv_neT c31 (rfl : _ = (3 : Int)); have qc41 := lv_neT c41 (rfl : _ = (4 : Int)); have qc51 := lv_neT c51 (rfl : _ = (5 : Int)); have qc65 := lv_neT c65 (rfl : _ = (6 : Int)); have qc73 := lv_neT c73 (rfl : _ = (7 : Int)); have qc85 := lv_neT c85 (rfl : _ = (8 : Int)); have qc95 := lv_neT c95 (rfl : _ = (9 : Int)); have qc105 := lv_neT c105 (rfl : _ = (10 : Int)); have qc117 := lv_neT c117 (rfl : _ = (11 : Int)); have qc129 := lv_neT c129 (rfl : _ = (12 : Int)); have qc141 := lv_neT c141 (rfl : _ = (13 : Int)); have qc151 := lv_neT c151 (rfl : _ = (14 : Int)); have qc157 := lv_neT c157 (rfl : _ = (15 : Int)); have qc169 := lv_neT c169 (rfl : _ = (16 : Int)); have qc177 := lv_neT c177 (rfl : _ = (17 : Int)); have qc185 := lv_neT c185 (rfl : _ = (18 : Int)); have qc195 := lv_neT c195 (rfl : _ = (19 : Int)); have qc205 := lv_neT c205 (rfl : _ = (20 : Int)); have qc211 := lv_neT c211 (rfl : _ = (21 : Int)); have qc221 := lv_neT c221 (rfl : _ = (22 : Int)); have qc227 := lv_neT c227 (rfl : _ = (23 : Int)); have qc237 := lv_neT c237 (rfl : _ = (24 : Int)); have qc243 := lv_neT c243 (rfl : _ = (25 : Int)); have qc251 := lv_neT c251 (rfl : _ = (26 : Int)); have qc261 := lv_neT c261 (rfl : _ = (27 : Int)); have qc269 := lv_neT c269 (rfl : _ = (28 : Int)); have qc281 := lv_neT c281 (rfl : _ = (29 : Int)); have qc291 := lv_neT c291 (rfl : _ = (30 : Int)); have qc303 := lv_neT c303 (rfl : _ = (31 : Int)); have qc311 := lv_neT c311 (rfl : _ = (32 : Int)); have qc323 := lv_neT c323 (rfl : _ = (33 : Int)); have qc335 := lv_neT c335 (rfl : _ = (34 : Int)); have qc351 := lv_neT c351 (rfl : _ = (35 : Int)); have qc359 := lv_neT c359 (rfl : _ = (36 : Int)); have qc371 := lv_neT c371 (rfl : _ = (37 : Int)); have qc377 := lv_neT c377 (rfl : _ = (38 : Int)); have qc383 := lv_neT c383 (rfl : _ = (39 : Int)); have qc391 := lv_neT c391 (rfl : _ = (40 : Int)); have qc397 := lv_neT c397 (rfl : _ = (41 : Int)); have qc405 := lv_neT c405 (rfl : _ = (42 : Int)); omega) (by decide) ?_
                                                                                          refine GW.iinc (pc' := 1563) (lv' := [(0, .ref 3000), (1, .ref 0), (2, .ref 64), (3, .int (v3 + 6))]) (v := (v3 + 6)) dL_law_1560 rfl rfl (by decide) rfl rfl rfl ?_
                                                                                          refine GW.goto (tgt := 18) dL_law_1563 (by decide) ?_
                                                                                          exact h
