theorem z01 {x : Int32} (h : x = 0 ∨ x = 1) : narrow .boolean (.int x) = .int x ∧ fits .boolean (.int x) = true := by rcases h with rfl | rfl <;> exact ⟨rfl, rfl⟩
theorem ko_str {x : Int32} : KOK (strK x) "java/lang/String" := by
  unfold strK
  split
  · exact .inr ⟨1, by decide, rfl, rfl⟩
  · split
    · exact .inr ⟨2, by decide, rfl, rfl⟩
    · exact .inr ⟨0, by decide, rfl, rfl⟩
abbrev mJ0_indexOf_0f7a4 : gM := (yJ0_indexOf_0f7a4, cJ0_indexOf_0f7a4, 2, (some .int))
theorem mk_J0_indexOf_0f7a4 : MOK mJ0_indexOf_0f7a4 1 := ⟨(tbl_t (List.mem_of_getElem? (i := 523) (by decide +kernel)) rfl), (tbl_t (List.mem_of_getElem? (i := 13) (by decide +kernel)) rfl), ⟨by decide +kernel, by decide +kernel, by decide +kernel⟩, by decide, by decide +kernel⟩
abbrev mJ0_indexOf_7cf53 : gM := (yJ0_indexOf_7cf53, cJ0_indexOf_7cf53, 3, (some .int))
theorem mk_J0_indexOf_7cf53 : MOK mJ0_indexOf_7cf53 2 := ⟨(tbl_t (List.mem_of_getElem? (i := 527) (by decide +kernel)) rfl), (tbl_t (List.mem_of_getElem? (i := 13) (by decide +kernel)) rfl), ⟨by decide +kernel, by decide +kernel, by decide +kernel⟩, by decide, by decide +kernel⟩
theorem lk_J0_633 : LOK RJ0 633 mJ0_indexOf_7cf53 := .inl (tbl_t (List.mem_of_getElem? (i := 524) (by decide +kernel)) rfl)
theorem vk_J0_indexOf_7cf53 : VOK mJ0_indexOf_7cf53 := ⟨(tbl_t (List.mem_of_getElem? (i := 525) (by decide +kernel)) rfl), (tbl_t (List.mem_of_getElem? (i := 526) (by decide +kernel)) rfl)⟩
abbrev mJ0_isLatin1_aae02 : gM := (yJ0_isLatin1_aae02, cJ0_isLatin1_aae02, 1, (some .boolean))
theorem mk_J0_isLatin1_aae02 : MOK mJ0_isLatin1_aae02 0 := ⟨(tbl_t (List.mem_of_getElem? (i := 531) (by decide +kernel)) rfl), (tbl_t (List.mem_of_getElem? (i := 13) (by decide +kernel)) rfl), ⟨by decide +kernel, by decide +kernel, by decide +kernel⟩, by decide, by decide +kernel⟩
theorem lk_J0_492 : LOK RJ0 492 mJ0_isLatin1_aae02 := .inl (tbl_t (List.mem_of_getElem? (i := 528) (by decide +kernel)) rfl)
theorem vk_J0_isLatin1_aae02 : VOK mJ0_isLatin1_aae02 := ⟨(tbl_t (List.mem_of_getElem? (i := 529) (by decide +kernel)) rfl), (tbl_t (List.mem_of_getElem? (i := 530) (by decide +kernel)) rfl)⟩
theorem xk_J0_38 : Cond.fieldLink RJ0 38 "java/lang/String" "COMPACT_STRINGS" "Z" ∈ tblG := (tbl_t (List.mem_of_getElem? (i := 532) (by decide +kernel)) rfl)
theorem xk_J0_15 : Cond.fieldLink RJ0 15 "java/lang/String" "coder" "B" ∈ tblG := (tbl_t (List.mem_of_getElem? (i := 1342) (by decide +kernel)) rfl)
theorem xk_J0_9 : Cond.fieldLink RJ0 9 "java/lang/String" "value" "[B" ∈ tblG := (tbl_t (List.mem_of_getElem? (i := 1343) (by decide +kernel)) rfl)
abbrev mJ0_length_8abf5 : gM := (yJ0_length_8abf5, cJ0_length_8abf5, 1, (some .int))
theorem mk_J0_length_8abf5 : MOK mJ0_length_8abf5 0 := ⟨(tbl_t (List.mem_of_getElem? (i := 537) (by decide +kernel)) rfl), (tbl_t (List.mem_of_getElem? (i := 13) (by decide +kernel)) rfl), ⟨by decide +kernel, by decide +kernel, by decide +kernel⟩, by decide, by decide +kernel⟩
theorem lk_J0_505 : LOK RJ0 505 mJ0_length_8abf5 := .inl (tbl_t (List.mem_of_getElem? (i := 534) (by decide +kernel)) rfl)
theorem vk_J0_length_8abf5 : VOK mJ0_length_8abf5 := ⟨(tbl_t (List.mem_of_getElem? (i := 535) (by decide +kernel)) rfl), (tbl_t (List.mem_of_getElem? (i := 536) (by decide +kernel)) rfl)⟩
abbrev mJ0_coder_7d493 : gM := (yJ0_coder_7d493, cJ0_coder_7d493, 1, (some .byte))
theorem mk_J0_coder_7d493 : MOK mJ0_coder_7d493 0 := ⟨(tbl_t (List.mem_of_getElem? (i := 541) (by decide +kernel)) rfl), (tbl_t (List.mem_of_getElem? (i := 13) (by decide +kernel)) rfl), ⟨by decide +kernel, by decide +kernel, by decide +kernel⟩, by decide, by decide +kernel⟩
theorem lk_J0_335 : LOK RJ0 335 mJ0_coder_7d493 := .inl (tbl_t (List.mem_of_getElem? (i := 538) (by decide +kernel)) rfl)
theorem vk_J0_coder_7d493 : VOK mJ0_coder_7d493 := ⟨(tbl_t (List.mem_of_getElem? (i := 539) (by decide +kernel)) rfl), (tbl_t (List.mem_of_getElem? (i := 540) (by decide +kernel)) rfl)⟩
abbrev mJ1_indexOf_4cfef : gM := (yJ1_indexOf_4cfef, cJ1_indexOf_4cfef, 4, (some .int))
theorem mk_J1_indexOf_4cfef : MOK mJ1_indexOf_4cfef 4 := ⟨(tbl_t (List.mem_of_getElem? (i := 544) (by decide +kernel)) rfl), (tbl_t (List.mem_of_getElem? (i := 14) (by decide +kernel)) rfl), ⟨by decide +kernel, by decide +kernel, by decide +kernel⟩, by decide, by decide +kernel⟩
theorem lk_J0_637 : LOK RJ0 637 mJ1_indexOf_4cfef := .inl (tbl_t (List.mem_of_getElem? (i := 542) (by decide +kernel)) rfl)
theorem sk_J1_indexOf_4cfef : SOK mJ1_indexOf_4cfef := (tbl_t (List.mem_of_getElem? (i := 543) (by decide +kernel)) rfl)
abbrev mJ1_canEncode_9a6ad : gM := (yJ1_canEncode_9a6ad, cJ1_canEncode_9a6ad, 1, (some .boolean))
theorem mk_J1_canEncode_9a6ad : MOK mJ1_canEncode_9a6ad 1 := ⟨(tbl_t (List.mem_of_getElem? (i := 547) (by decide +kernel)) rfl), (tbl_t (List.mem_of_getElem? (i := 14) (by decide +kernel)) rfl), ⟨by decide +kernel, by decide +kernel, by decide +kernel⟩, by decide, by decide +kernel⟩
theorem lk_J1_88 : LOK RJ1 88 mJ1_canEncode_9a6ad := .inl (tbl_t (List.mem_of_getElem? (i := 545) (by decide +kernel)) rfl)
theorem sk_J1_canEncode_9a6ad : SOK mJ1_canEncode_9a6ad := (tbl_t (List.mem_of_getElem? (i := 546) (by decide +kernel)) rfl)
theorem zk_J1_92 : XOK RJ1 92 := ⟨(tbl_t (List.mem_of_getElem? (i := 548) (by decide +kernel)) rfl), (tbl_t (List.mem_of_getElem? (i := 360) (by decide +kernel)) rfl), (tbl_t (List.mem_of_getElem? (i := 11) (by decide +kernel)) rfl), (tbl_t (List.mem_of_getElem? (i := 361) (by decide +kernel)) rfl)⟩
theorem zk_J1_38 : NOK RJ1 38 := ⟨(tbl_t (List.mem_of_getElem? (i := 549) (by decide +kernel)) rfl), (tbl_t (List.mem_of_getElem? (i := 357) (by decide +kernel)) rfl), (tbl_t (List.mem_of_getElem? (i := 11) (by decide +kernel)) rfl), (tbl_t (List.mem_of_getElem? (i := 358) (by decide +kernel)) rfl)⟩
abbrev mJ1_indexOfChar_4cfef : gM := (yJ1_indexOfChar_4cfef, cJ1_indexOfChar_4cfef, 6, (some .int))
theorem mk_J1_indexOfChar_4cfef : MOK mJ1_indexOfChar_4cfef 4 := ⟨(tbl_t (List.mem_of_getElem? (i := 552) (by decide +kernel)) rfl), (tbl_t (List.mem_of_getElem? (i := 14) (by decide +kernel)) rfl), ⟨by decide +kernel, by decide +kernel, by decide +kernel⟩, by decide, by decide +kernel⟩
theorem lk_J1_95 : LOK RJ1 95 mJ1_indexOfChar_4cfef := .inl (tbl_t (List.mem_of_getElem? (i := 550) (by decide +kernel)) rfl)
theorem sk_J1_indexOfChar_4cfef : SOK mJ1_indexOfChar_4cfef := (tbl_t (List.mem_of_getElem? (i := 551) (by decide +kernel)) rfl)
abbrev mX9_told : gM := (yX9_told, cX9_told, 2, (some .int))
theorem mk_X9_told : MOK mX9_told 1 := ⟨(tbl_t (List.mem_of_getElem? (i := 1340) (by decide +kernel)) rfl), (tbl_t (List.mem_of_getElem? (i := 10) (by decide +kernel)) rfl), ⟨by decide +kernel, by decide +kernel, by decide +kernel⟩, by decide, by decide +kernel⟩
abbrev mX9_in : gM := (yX9_in, cX9_in, 3, (some .boolean))
theorem mk_X9_in : MOK mX9_in 3 := ⟨(tbl_t (List.mem_of_getElem? (i := 961) (by decide +kernel)) rfl), (tbl_t (List.mem_of_getElem? (i := 10) (by decide +kernel)) rfl), ⟨by decide +kernel, by decide +kernel, by decide +kernel⟩, by decide, by decide +kernel⟩
theorem lk_X9_63 : LOK RX9 63 mX9_in := .inl (tbl_t (List.mem_of_getElem? (i := 959) (by decide +kernel)) rfl)
theorem sk_X9_in : SOK mX9_in := (tbl_t (List.mem_of_getElem? (i := 960) (by decide +kernel)) rfl)
abbrev mX9_error : gM := (yX9_error, cX9_error, 2, (some .int))
theorem mk_X9_error : MOK mX9_error 1 := ⟨(tbl_t (List.mem_of_getElem? (i := 976) (by decide +kernel)) rfl), (tbl_t (List.mem_of_getElem? (i := 10) (by decide +kernel)) rfl), ⟨by decide +kernel, by decide +kernel, by decide +kernel⟩, by decide, by decide +kernel⟩
theorem lk_X9_83 : LOK RX9 83 mX9_error := .inl (tbl_t (List.mem_of_getElem? (i := 973) (by decide +kernel)) rfl)
theorem vk_X9_error : VOK mX9_error := ⟨(tbl_t (List.mem_of_getElem? (i := 975) (by decide +kernel)) rfl), (tbl_p (List.mem_of_getElem? (i := 65) (by decide +kernel)) rfl)⟩
theorem ko_64 : KOK 64 RX9 := .inl ⟨9, 25, TX9, 25, rfl, rfl⟩
theorem ix_X9_w : ∀ w ∈ u_ws RX9 TX9 25, w ∈ tables_1 ∧ goodWord w = true := by decide +kernel
theorem ix_X9 : ∀ w ∈ u_ws RX9 TX9 25, w ∈ tblG := fun w hw => tbl_t (ix_X9_w w hw).1 (ix_X9_w w hw).2
theorem fk_X9_16 : FOK RX9 16 9 3 := ⟨RX9, TX9, 25, rfl, by decide, ix_X9, (.inl (tbl_t (List.mem_of_getElem? (i := 878) (by decide +kernel)) rfl))⟩
theorem ck_X9_62 : Cond.constant RX9 62 (-1000000000) ∈ tblG := (tbl_t (List.mem_of_getElem? (i := 977) (by decide +kernel)) rfl)
abbrev mX8_told : gM := (yX8_told, cX8_told, 2, (some .int))
theorem mk_X8_told : MOK mX8_told 1 := ⟨(tbl_t (List.mem_of_getElem? (i := 868) (by decide +kernel)) rfl), (tbl_t (List.mem_of_getElem? (i := 1) (by decide +kernel)) rfl), ⟨by decide +kernel, by decide +kernel, by decide +kernel⟩, by decide, by decide +kernel⟩
abbrev mX8_error : gM := (yX8_error, cX8_error, 2, (some .int))
theorem mk_X8_error : MOK mX8_error 1 := ⟨(tbl_t (List.mem_of_getElem? (i := 309) (by decide +kernel)) rfl), (tbl_t (List.mem_of_getElem? (i := 1) (by decide +kernel)) rfl), ⟨by decide +kernel, by decide +kernel, by decide +kernel⟩, by decide, by decide +kernel⟩
theorem lk_X8_48 : LOK RX8 48 mX8_error := .inl (tbl_t (List.mem_of_getElem? (i := 306) (by decide +kernel)) rfl)
theorem vk_X8_error : VOK mX8_error := ⟨(tbl_t (List.mem_of_getElem? (i := 308) (by decide +kernel)) rfl), (tbl_p (List.mem_of_getElem? (i := 3) (by decide +kernel)) rfl)⟩
theorem ko_0 : KOK 0 RX8 := .inl ⟨8, 7, TX8, 7, rfl, rfl⟩
theorem ix_X8_w : ∀ w ∈ u_ws RX8 TX8 7, w ∈ tables_1 ∧ goodWord w = true := by decide +kernel
theorem ix_X8 : ∀ w ∈ u_ws RX8 TX8 7, w ∈ tblG := fun w hw => tbl_t (ix_X8_w w hw).1 (ix_X8_w w hw).2
theorem fk_X8_39 : FOK RX8 39 8 5 := ⟨RX8, TX8, 7, rfl, by decide, ix_X8, (.inl (tbl_t (List.mem_of_getElem? (i := 267) (by decide +kernel)) rfl))⟩
theorem ck_X8_310 : Cond.constant RX8 310 (-1000000000) ∈ tblG := (tbl_t (List.mem_of_getElem? (i := 310) (by decide +kernel)) rfl)
abbrev mX9_count : gM := (yX9_count, cX9_count, 2, (some .int))
theorem mk_X9_count : MOK mX9_count 1 := ⟨(tbl_t (List.mem_of_getElem? (i := 1332) (by decide +kernel)) rfl), (tbl_t (List.mem_of_getElem? (i := 10) (by decide +kernel)) rfl), ⟨by decide +kernel, by decide +kernel, by decide +kernel⟩, by decide, by decide +kernel⟩
theorem fk_X9_7 : FOK RX9 7 9 0 := ⟨RX9, TX9, 25, rfl, by decide, ix_X9, (.inl (tbl_t (List.mem_of_getElem? (i := 875) (by decide +kernel)) rfl))⟩
theorem fk_X9_219 : FOK RX9 219 9 18 := ⟨RX9, TX9, 25, rfl, by decide, ix_X9, (.inl (tbl_t (List.mem_of_getElem? (i := 893) (by decide +kernel)) rfl))⟩
abbrev mX9_allWorth : gM := (yX9_allWorth, cX9_allWorth, 3, (some .int))
theorem mk_X9_allWorth : MOK mX9_allWorth 0 := ⟨(tbl_t (List.mem_of_getElem? (i := 1336) (by decide +kernel)) rfl), (tbl_t (List.mem_of_getElem? (i := 10) (by decide +kernel)) rfl), ⟨by decide +kernel, by decide +kernel, by decide +kernel⟩, by decide, by decide +kernel⟩
theorem lk_X9_270 : LOK RX9 270 mX9_allWorth := .inl (tbl_t (List.mem_of_getElem? (i := 1333) (by decide +kernel)) rfl)
theorem vk_X9_allWorth : VOK mX9_allWorth := ⟨(tbl_t (List.mem_of_getElem? (i := 1335) (by decide +kernel)) rfl), (tbl_p (List.mem_of_getElem? (i := 107) (by decide +kernel)) rfl)⟩
abbrev mX9_findNames : gM := (yX9_findNames, cX9_findNames, 4, none)
theorem mk_X9_findNames : MOK mX9_findNames 0 := ⟨(tbl_t (List.mem_of_getElem? (i := 997) (by decide +kernel)) rfl), (tbl_t (List.mem_of_getElem? (i := 10) (by decide +kernel)) rfl), ⟨by decide +kernel, by decide +kernel, by decide +kernel⟩, by decide, by decide +kernel⟩
theorem lk_X9_91 : LOK RX9 91 mX9_findNames := .inl (tbl_t (List.mem_of_getElem? (i := 994) (by decide +kernel)) rfl)
theorem vk_X9_findNames : VOK mX9_findNames := ⟨(tbl_t (List.mem_of_getElem? (i := 996) (by decide +kernel)) rfl), (tbl_p (List.mem_of_getElem? (i := 67) (by decide +kernel)) rfl)⟩
abbrev mX9_worth : gM := (yX9_worth, cX9_worth, 3, (some .int))
theorem mk_X9_worth : MOK mX9_worth 1 := ⟨(tbl_t (List.mem_of_getElem? (i := 1131) (by decide +kernel)) rfl), (tbl_t (List.mem_of_getElem? (i := 10) (by decide +kernel)) rfl), ⟨by decide +kernel, by decide +kernel, by decide +kernel⟩, by decide, by decide +kernel⟩
theorem lk_X9_188 : LOK RX9 188 mX9_worth := .inl (tbl_t (List.mem_of_getElem? (i := 1128) (by decide +kernel)) rfl)
theorem vk_X9_worth : VOK mX9_worth := ⟨(tbl_t (List.mem_of_getElem? (i := 1130) (by decide +kernel)) rfl), (tbl_p (List.mem_of_getElem? (i := 89) (by decide +kernel)) rfl)⟩
abbrev mX9_ageNow : gM := (yX9_ageNow, cX9_ageNow, 2, (some .int))
theorem mk_X9_ageNow : MOK mX9_ageNow 1 := ⟨(tbl_t (List.mem_of_getElem? (i := 1093) (by decide +kernel)) rfl), (tbl_t (List.mem_of_getElem? (i := 10) (by decide +kernel)) rfl), ⟨by decide +kernel, by decide +kernel, by decide +kernel⟩, by decide, by decide +kernel⟩
theorem lk_X9_182 : LOK RX9 182 mX9_ageNow := .inl (tbl_t (List.mem_of_getElem? (i := 1090) (by decide +kernel)) rfl)
theorem vk_X9_ageNow : VOK mX9_ageNow := ⟨(tbl_t (List.mem_of_getElem? (i := 1092) (by decide +kernel)) rfl), (tbl_p (List.mem_of_getElem? (i := 81) (by decide +kernel)) rfl)⟩
abbrev mX9_its : gM := (yX9_its, cX9_its, 3, (some .int))
theorem mk_X9_its : MOK mX9_its 2 := ⟨(tbl_t (List.mem_of_getElem? (i := 1097) (by decide +kernel)) rfl), (tbl_t (List.mem_of_getElem? (i := 10) (by decide +kernel)) rfl), ⟨by decide +kernel, by decide +kernel, by decide +kernel⟩, by decide, by decide +kernel⟩
theorem lk_X9_158 : LOK RX9 158 mX9_its := .inl (tbl_t (List.mem_of_getElem? (i := 1094) (by decide +kernel)) rfl)
theorem vk_X9_its : VOK mX9_its := ⟨(tbl_t (List.mem_of_getElem? (i := 1096) (by decide +kernel)) rfl), (tbl_p (List.mem_of_getElem? (i := 82) (by decide +kernel)) rfl)⟩
abbrev mX9_ageOf : gM := (yX9_ageOf, cX9_ageOf, 8, (some .int))
theorem mk_X9_ageOf : MOK mX9_ageOf 3 := ⟨(tbl_t (List.mem_of_getElem? (i := 1101) (by decide +kernel)) rfl), (tbl_t (List.mem_of_getElem? (i := 10) (by decide +kernel)) rfl), ⟨by decide +kernel, by decide +kernel, by decide +kernel⟩, by decide, by decide +kernel⟩
theorem lk_X9_179 : LOK RX9 179 mX9_ageOf := .inl (tbl_t (List.mem_of_getElem? (i := 1098) (by decide +kernel)) rfl)
theorem vk_X9_ageOf : VOK mX9_ageOf := ⟨(tbl_t (List.mem_of_getElem? (i := 1100) (by decide +kernel)) rfl), (tbl_p (List.mem_of_getElem? (i := 83) (by decide +kernel)) rfl)⟩
abbrev mX9_hasText : gM := (yX9_hasText, cX9_hasText, 2, (some .boolean))
theorem mk_X9_hasText : MOK mX9_hasText 1 := ⟨(tbl_t (List.mem_of_getElem? (i := 1077) (by decide +kernel)) rfl), (tbl_t (List.mem_of_getElem? (i := 10) (by decide +kernel)) rfl), ⟨by decide +kernel, by decide +kernel, by decide +kernel⟩, by decide, by decide +kernel⟩
theorem lk_X9_152 : LOK RX9 152 mX9_hasText := .inl (tbl_t (List.mem_of_getElem? (i := 1074) (by decide +kernel)) rfl)
theorem vk_X9_hasText : VOK mX9_hasText := ⟨(tbl_t (List.mem_of_getElem? (i := 1076) (by decide +kernel)) rfl), (tbl_p (List.mem_of_getElem? (i := 79) (by decide +kernel)) rfl)⟩
theorem fk_X9_25 : FOK RX9 25 9 10 := ⟨RX9, TX9, 25, rfl, by decide, ix_X9, (.inl (tbl_t (List.mem_of_getElem? (i := 885) (by decide +kernel)) rfl))⟩
abbrev mX9_worked : gM := (yX9_worked, cX9_worked, 7, (some .int))
theorem mk_X9_worked : MOK mX9_worked 1 := ⟨(tbl_t (List.mem_of_getElem? (i := 1121) (by decide +kernel)) rfl), (tbl_t (List.mem_of_getElem? (i := 10) (by decide +kernel)) rfl), ⟨by decide +kernel, by decide +kernel, by decide +kernel⟩, by decide, by decide +kernel⟩
theorem lk_X9_161 : LOK RX9 161 mX9_worked := .inl (tbl_t (List.mem_of_getElem? (i := 1118) (by decide +kernel)) rfl)
theorem vk_X9_worked : VOK mX9_worked := ⟨(tbl_t (List.mem_of_getElem? (i := 1120) (by decide +kernel)) rfl), (tbl_p (List.mem_of_getElem? (i := 88) (by decide +kernel)) rfl)⟩
abbrev mX9_held : gM := (yX9_held, cX9_held, 3, (some .int))
theorem mk_X9_held : MOK mX9_held 3 := ⟨(tbl_t (List.mem_of_getElem? (i := 1127) (by decide +kernel)) rfl), (tbl_t (List.mem_of_getElem? (i := 10) (by decide +kernel)) rfl), ⟨by decide +kernel, by decide +kernel, by decide +kernel⟩, by decide, by decide +kernel⟩
theorem lk_X9_164 : LOK RX9 164 mX9_held := .inl (tbl_t (List.mem_of_getElem? (i := 1125) (by decide +kernel)) rfl)
theorem sk_X9_held : SOK mX9_held := (tbl_t (List.mem_of_getElem? (i := 1126) (by decide +kernel)) rfl)
theorem fk_X9_28 : FOK RX9 28 9 11 := ⟨RX9, TX9, 25, rfl, by decide, ix_X9, (.inl (tbl_t (List.mem_of_getElem? (i := 886) (by decide +kernel)) rfl))⟩
abbrev mX9_joined : gM := (yX9_joined, cX9_joined, 3, (some .int))
theorem mk_X9_joined : MOK mX9_joined 3 := ⟨(tbl_t (List.mem_of_getElem? (i := 1124) (by decide +kernel)) rfl), (tbl_t (List.mem_of_getElem? (i := 10) (by decide +kernel)) rfl), ⟨by decide +kernel, by decide +kernel, by decide +kernel⟩, by decide, by decide +kernel⟩
theorem lk_X9_155 : LOK RX9 155 mX9_joined := .inl (tbl_t (List.mem_of_getElem? (i := 1122) (by decide +kernel)) rfl)
theorem sk_X9_joined : SOK mX9_joined := (tbl_t (List.mem_of_getElem? (i := 1123) (by decide +kernel)) rfl)
abbrev mX9_bookYears : gM := (yX9_bookYears, cX9_bookYears, 6, (some .int))
theorem mk_X9_bookYears : MOK mX9_bookYears 3 := ⟨(tbl_t (List.mem_of_getElem? (i := 1105) (by decide +kernel)) rfl), (tbl_t (List.mem_of_getElem? (i := 10) (by decide +kernel)) rfl), ⟨by decide +kernel, by decide +kernel, by decide +kernel⟩, by decide, by decide +kernel⟩
theorem lk_X9_167 : LOK RX9 167 mX9_bookYears := .inl (tbl_t (List.mem_of_getElem? (i := 1102) (by decide +kernel)) rfl)
theorem vk_X9_bookYears : VOK mX9_bookYears := ⟨(tbl_t (List.mem_of_getElem? (i := 1104) (by decide +kernel)) rfl), (tbl_p (List.mem_of_getElem? (i := 84) (by decide +kernel)) rfl)⟩
abbrev mX9_unlike : gM := (yX9_unlike, cX9_unlike, 6, (some .int))
theorem mk_X9_unlike : MOK mX9_unlike 3 := ⟨(tbl_t (List.mem_of_getElem? (i := 1109) (by decide +kernel)) rfl), (tbl_t (List.mem_of_getElem? (i := 10) (by decide +kernel)) rfl), ⟨by decide +kernel, by decide +kernel, by decide +kernel⟩, by decide, by decide +kernel⟩
theorem lk_X9_170 : LOK RX9 170 mX9_unlike := .inl (tbl_t (List.mem_of_getElem? (i := 1106) (by decide +kernel)) rfl)
theorem vk_X9_unlike : VOK mX9_unlike := ⟨(tbl_t (List.mem_of_getElem? (i := 1108) (by decide +kernel)) rfl), (tbl_p (List.mem_of_getElem? (i := 85) (by decide +kernel)) rfl)⟩
abbrev mX9_salesOf : gM := (yX9_salesOf, cX9_salesOf, 4, (some .int))
theorem mk_X9_salesOf : MOK mX9_salesOf 1 := ⟨(tbl_t (List.mem_of_getElem? (i := 1113) (by decide +kernel)) rfl), (tbl_t (List.mem_of_getElem? (i := 10) (by decide +kernel)) rfl), ⟨by decide +kernel, by decide +kernel, by decide +kernel⟩, by decide, by decide +kernel⟩
theorem lk_X9_173 : LOK RX9 173 mX9_salesOf := .inl (tbl_t (List.mem_of_getElem? (i := 1110) (by decide +kernel)) rfl)
theorem vk_X9_salesOf : VOK mX9_salesOf := ⟨(tbl_t (List.mem_of_getElem? (i := 1112) (by decide +kernel)) rfl), (tbl_p (List.mem_of_getElem? (i := 86) (by decide +kernel)) rfl)⟩
abbrev mX9_toldAge : gM := (yX9_toldAge, cX9_toldAge, 4, (some .int))
theorem mk_X9_toldAge : MOK mX9_toldAge 3 := ⟨(tbl_t (List.mem_of_getElem? (i := 1117) (by decide +kernel)) rfl), (tbl_t (List.mem_of_getElem? (i := 10) (by decide +kernel)) rfl), ⟨by decide +kernel, by decide +kernel, by decide +kernel⟩, by decide, by decide +kernel⟩
theorem lk_X9_176 : LOK RX9 176 mX9_toldAge := .inl (tbl_t (List.mem_of_getElem? (i := 1114) (by decide +kernel)) rfl)
theorem vk_X9_toldAge : VOK mX9_toldAge := ⟨(tbl_t (List.mem_of_getElem? (i := 1116) (by decide +kernel)) rfl), (tbl_p (List.mem_of_getElem? (i := 87) (by decide +kernel)) rfl)⟩
theorem fk_X9_19 : FOK RX9 19 9 4 := ⟨RX9, TX9, 25, rfl, by decide, ix_X9, (.inl (tbl_t (List.mem_of_getElem? (i := 879) (by decide +kernel)) rfl))⟩
abbrev mX9_of : gM := (yX9_of, cX9_of, 3, (some .int))
theorem mk_X9_of : MOK mX9_of 2 := ⟨(tbl_t (List.mem_of_getElem? (i := 972) (by decide +kernel)) rfl), (tbl_t (List.mem_of_getElem? (i := 10) (by decide +kernel)) rfl), ⟨by decide +kernel, by decide +kernel, by decide +kernel⟩, by decide, by decide +kernel⟩
theorem lk_X9_68 : LOK RX9 68 mX9_of := .inl (tbl_t (List.mem_of_getElem? (i := 969) (by decide +kernel)) rfl)
theorem vk_X9_of : VOK mX9_of := ⟨(tbl_t (List.mem_of_getElem? (i := 971) (by decide +kernel)) rfl), (tbl_p (List.mem_of_getElem? (i := 64) (by decide +kernel)) rfl)⟩
abbrev mX9_nameOf : gM := (yX9_nameOf, cX9_nameOf, 3, (some .int))
theorem mk_X9_nameOf : MOK mX9_nameOf 2 := ⟨(tbl_t (List.mem_of_getElem? (i := 1009) (by decide +kernel)) rfl), (tbl_t (List.mem_of_getElem? (i := 10) (by decide +kernel)) rfl), ⟨by decide +kernel, by decide +kernel, by decide +kernel⟩, by decide, by decide +kernel⟩
theorem lk_X9_97 : LOK RX9 97 mX9_nameOf := .inl (tbl_t (List.mem_of_getElem? (i := 1006) (by decide +kernel)) rfl)
theorem vk_X9_nameOf : VOK mX9_nameOf := ⟨(tbl_t (List.mem_of_getElem? (i := 1008) (by decide +kernel)) rfl), (tbl_p (List.mem_of_getElem? (i := 68) (by decide +kernel)) rfl)⟩
abbrev mX9_has : gM := (yX9_has, cX9_has, 6, (some .boolean))
theorem mk_X9_has : MOK mX9_has 3 := ⟨(tbl_t (List.mem_of_getElem? (i := 968) (by decide +kernel)) rfl), (tbl_t (List.mem_of_getElem? (i := 10) (by decide +kernel)) rfl), ⟨by decide +kernel, by decide +kernel, by decide +kernel⟩, by decide, by decide +kernel⟩
theorem lk_X9_72 : LOK RX9 72 mX9_has := .inl (tbl_t (List.mem_of_getElem? (i := 965) (by decide +kernel)) rfl)
theorem vk_X9_has : VOK mX9_has := ⟨(tbl_t (List.mem_of_getElem? (i := 967) (by decide +kernel)) rfl), (tbl_p (List.mem_of_getElem? (i := 63) (by decide +kernel)) rfl)⟩
abbrev mX8_count : gM := (yX8_count, cX8_count, 2, (some .int))
theorem mk_X8_count : MOK mX8_count 1 := ⟨(tbl_t (List.mem_of_getElem? (i := 859) (by decide +kernel)) rfl), (tbl_t (List.mem_of_getElem? (i := 1) (by decide +kernel)) rfl), ⟨by decide +kernel, by decide +kernel, by decide +kernel⟩, by decide, by decide +kernel⟩
theorem fk_X8_12 : FOK RX8 12 8 0 := ⟨RX8, TX8, 7, rfl, by decide, ix_X8, (.inl (tbl_t (List.mem_of_getElem? (i := 262) (by decide +kernel)) rfl))⟩
theorem ix_X7_w : ∀ w ∈ u_ws RX7 TX7 14, w ∈ tables_1 ∧ goodWord w = true := by decide +kernel
theorem ix_X7 : ∀ w ∈ u_ws RX7 TX7 14, w ∈ tblG := fun w hw => tbl_t (ix_X7_w w hw).1 (ix_X7_w w hw).2
theorem fk_X8_52 : FOK RX8 52 7 0 := ⟨RX7, TX7, 14, rfl, by decide, ix_X7, (.inr ⟨"SoldYear", (nst_in (List.mem_of_getElem? (i := 131) (by decide +kernel)) rfl)⟩)⟩
theorem ix_X6_w : ∀ w ∈ u_ws RX6 TX6 5, w ∈ tables_1 ∧ goodWord w = true := by decide +kernel
theorem ix_X6 : ∀ w ∈ u_ws RX6 TX6 5, w ∈ tblG := fun w hw => tbl_t (ix_X6_w w hw).1 (ix_X6_w w hw).2
theorem fk_X8_62 : FOK RX8 62 6 4 := ⟨RX6, TX6, 5, rfl, by decide, ix_X6, (.inr ⟨"SoldYear", (nst_in (List.mem_of_getElem? (i := 47) (by decide +kernel)) rfl)⟩)⟩
theorem fk_X8_99 : FOK RX8 99 7 1 := ⟨RX7, TX7, 14, rfl, by decide, ix_X7, (.inr ⟨"SoldYear", (nst_in (List.mem_of_getElem? (i := 133) (by decide +kernel)) rfl)⟩)⟩
theorem ix_X3_w : ∀ w ∈ u_ws RX3 TX3 2, w ∈ tables_1 ∧ goodWord w = true := by decide +kernel
theorem ix_X3 : ∀ w ∈ u_ws RX3 TX3 2, w ∈ tblG := fun w hw => tbl_t (ix_X3_w w hw).1 (ix_X3_w w hw).2
theorem fk_X8_103 : FOK RX8 103 3 1 := ⟨RX3, TX3, 2, rfl, by decide, ix_X3, (.inr ⟨"SoldYear", (nst_in (List.mem_of_getElem? (i := 69) (by decide +kernel)) rfl)⟩)⟩
theorem fk_X8_183 : FOK RX8 183 7 2 := ⟨RX7, TX7, 14, rfl, by decide, ix_X7, (.inr ⟨"SoldYear", (nst_in (List.mem_of_getElem? (i := 135) (by decide +kernel)) rfl)⟩)⟩
theorem ix_X2_w : ∀ w ∈ u_ws RX2 TX2 7, w ∈ tables_1 ∧ goodWord w = true := by decide +kernel
theorem ix_X2 : ∀ w ∈ u_ws RX2 TX2 7, w ∈ tblG := fun w hw => tbl_t (ix_X2_w w hw).1 (ix_X2_w w hw).2
theorem fk_X8_192 : FOK RX8 192 2 2 := ⟨RX2, TX2, 7, rfl, by decide, ix_X2, (.inr ⟨"SoldYear", (nst_in (List.mem_of_getElem? (i := 87) (by decide +kernel)) rfl)⟩)⟩
theorem fk_X8_96 : FOK RX8 96 7 9 := ⟨RX7, TX7, 14, rfl, by decide, ix_X7, (.inr ⟨"SoldYear", (nst_in (List.mem_of_getElem? (i := 147) (by decide +kernel)) rfl)⟩)⟩
theorem fk_X8_143 : FOK RX8 143 7 6 := ⟨RX7, TX7, 14, rfl, by decide, ix_X7, (.inr ⟨"SoldYear", (nst_in (List.mem_of_getElem? (i := 141) (by decide +kernel)) rfl)⟩)⟩
theorem fk_X8_292 : FOK RX8 292 7 8 := ⟨RX7, TX7, 14, rfl, by decide, ix_X7, (.inr ⟨"SoldYear", (nst_in (List.mem_of_getElem? (i := 145) (by decide +kernel)) rfl)⟩)⟩
theorem fk_X8_29 : FOK RX8 29 8 3 := ⟨RX8, TX8, 7, rfl, by decide, ix_X8, (.inl (tbl_t (List.mem_of_getElem? (i := 265) (by decide +kernel)) rfl))⟩
theorem ix_X0_w : ∀ w ∈ u_ws RX0 TX0 6, w ∈ tables_1 ∧ goodWord w = true := by decide +kernel
theorem ix_X0 : ∀ w ∈ u_ws RX0 TX0 6, w ∈ tblG := fun w hw => tbl_t (ix_X0_w w hw).1 (ix_X0_w w hw).2
theorem fk_X8_254 : FOK RX8 254 0 1 := ⟨RX0, TX0, 6, rfl, by decide, ix_X0, (.inr ⟨"SoldYear", (nst_in (List.mem_of_getElem? (i := 223) (by decide +kernel)) rfl)⟩)⟩
theorem fk_X8_224 : FOK RX8 224 7 10 := ⟨RX7, TX7, 14, rfl, by decide, ix_X7, (.inr ⟨"SoldYear", (nst_in (List.mem_of_getElem? (i := 149) (by decide +kernel)) rfl)⟩)⟩
abbrev mX7_worthOfAll : gM := (yX7_worthOfAll, cX7_worthOfAll, 3, (some .int))
theorem mk_X7_worthOfAll : MOK mX7_worthOfAll 0 := ⟨(tbl_t (List.mem_of_getElem? (i := 863) (by decide +kernel)) rfl), (tbl_t (List.mem_of_getElem? (i := 2) (by decide +kernel)) rfl), ⟨by decide +kernel, by decide +kernel, by decide +kernel⟩, by decide, by decide +kernel⟩
theorem lk_X8_307 : LOK RX8 307 mX7_worthOfAll := .inr ⟨"SoldYear", (nst_in (List.mem_of_getElem? (i := 860) (by decide +kernel)) rfl)⟩
theorem vk_X7_worthOfAll : VOK mX7_worthOfAll := ⟨(tbl_t (List.mem_of_getElem? (i := 862) (by decide +kernel)) rfl), (tbl_p (List.mem_of_getElem? (i := 61) (by decide +kernel)) rfl)⟩
theorem ko_1 : KOK 1 RX7 := .inl ⟨7, 14, TX7, 14, rfl, rfl⟩
theorem fk_X7_21 : FOK RX7 21 7 1 := ⟨RX7, TX7, 14, rfl, by decide, ix_X7, (.inl (tbl_t (List.mem_of_getElem? (i := 132) (by decide +kernel)) rfl))⟩
theorem fk_X7_102 : FOK RX7 102 3 1 := ⟨RX3, TX3, 2, rfl, by decide, ix_X3, (.inr ⟨"SoldYear", (nst_in (List.mem_of_getElem? (i := 70) (by decide +kernel)) rfl)⟩)⟩
abbrev mX7_worthNow : gM := (yX7_worthNow, cX7_worthNow, 5, (some .int))
theorem mk_X7_worthNow : MOK mX7_worthNow 1 := ⟨(tbl_t (List.mem_of_getElem? (i := 429) (by decide +kernel)) rfl), (tbl_t (List.mem_of_getElem? (i := 2) (by decide +kernel)) rfl), ⟨by decide +kernel, by decide +kernel, by decide +kernel⟩, by decide, by decide +kernel⟩
theorem lk_X7_105 : LOK RX7 105 mX7_worthNow := .inl (tbl_t (List.mem_of_getElem? (i := 864) (by decide +kernel)) rfl)
theorem vk_X7_worthNow : VOK mX7_worthNow := ⟨(tbl_t (List.mem_of_getElem? (i := 428) (by decide +kernel)) rfl), (tbl_p (List.mem_of_getElem? (i := 19) (by decide +kernel)) rfl)⟩
abbrev mX7_ageNow : gM := (yX7_ageNow, cX7_ageNow, 2, (some .int))
theorem mk_X7_ageNow : MOK mX7_ageNow 1 := ⟨(tbl_t (List.mem_of_getElem? (i := 390) (by decide +kernel)) rfl), (tbl_t (List.mem_of_getElem? (i := 2) (by decide +kernel)) rfl), ⟨by decide +kernel, by decide +kernel, by decide +kernel⟩, by decide, by decide +kernel⟩
theorem lk_X7_99 : LOK RX7 99 mX7_ageNow := .inl (tbl_t (List.mem_of_getElem? (i := 430) (by decide +kernel)) rfl)
theorem vk_X7_ageNow : VOK mX7_ageNow := ⟨(tbl_t (List.mem_of_getElem? (i := 389) (by decide +kernel)) rfl), (tbl_p (List.mem_of_getElem? (i := 12) (by decide +kernel)) rfl)⟩
abbrev mX3_fact : gM := (yX3_fact, cX3_fact, 4, (some .int))
theorem mk_X3_fact : MOK mX3_fact 2 := ⟨(tbl_t (List.mem_of_getElem? (i := 385) (by decide +kernel)) rfl), (tbl_t (List.mem_of_getElem? (i := 4) (by decide +kernel)) rfl), ⟨by decide +kernel, by decide +kernel, by decide +kernel⟩, by decide, by decide +kernel⟩
theorem lk_X7_57 : LOK RX7 57 mX3_fact := .inr ⟨"SoldYear", (nst_in (List.mem_of_getElem? (i := 391) (by decide +kernel)) rfl)⟩
theorem vk_X3_fact : VOK mX3_fact := ⟨(tbl_t (List.mem_of_getElem? (i := 384) (by decide +kernel)) rfl), (tbl_p (List.mem_of_getElem? (i := 11) (by decide +kernel)) rfl)⟩
theorem ko_20 : KOK 20 RX3 := .inl ⟨3, 2, TX3, 2, rfl, rfl⟩
theorem fk_X7_61 : FOK RX7 61 7 9 := ⟨RX7, TX7, 14, rfl, by decide, ix_X7, (.inl (tbl_t (List.mem_of_getElem? (i := 146) (by decide +kernel)) rfl))⟩
abbrev mX7_ageOf : gM := (yX7_ageOf, cX7_ageOf, 7, (some .int))
theorem mk_X7_ageOf : MOK mX7_ageOf 3 := ⟨(tbl_t (List.mem_of_getElem? (i := 395) (by decide +kernel)) rfl), (tbl_t (List.mem_of_getElem? (i := 2) (by decide +kernel)) rfl), ⟨by decide +kernel, by decide +kernel, by decide +kernel⟩, by decide, by decide +kernel⟩
theorem lk_X7_64 : LOK RX7 64 mX7_ageOf := .inl (tbl_t (List.mem_of_getElem? (i := 392) (by decide +kernel)) rfl)
theorem vk_X7_ageOf : VOK mX7_ageOf := ⟨(tbl_t (List.mem_of_getElem? (i := 394) (by decide +kernel)) rfl), (tbl_p (List.mem_of_getElem? (i := 13) (by decide +kernel)) rfl)⟩
theorem fk_X7_39 : FOK RX7 39 7 4 := ⟨RX7, TX7, 14, rfl, by decide, ix_X7, (.inl (tbl_t (List.mem_of_getElem? (i := 137) (by decide +kernel)) rfl))⟩
theorem ix_X1_w : ∀ w ∈ u_ws RX1 TX1 4, w ∈ tables_1 ∧ goodWord w = true := by decide +kernel
theorem ix_X1 : ∀ w ∈ u_ws RX1 TX1 4, w ∈ tblG := fun w hw => tbl_t (ix_X1_w w hw).1 (ix_X1_w w hw).2
theorem fk_X7_89 : FOK RX7 89 1 3 := ⟨RX1, TX1, 4, rfl, by decide, ix_X1, (.inr ⟨"SoldYear", (nst_in (List.mem_of_getElem? (i := 119) (by decide +kernel)) rfl)⟩)⟩
abbrev mX8_hold : gM := (yX8_hold, cX8_hold, 3, (some .int))
theorem mk_X8_hold : MOK mX8_hold 3 := ⟨(tbl_t (List.mem_of_getElem? (i := 423) (by decide +kernel)) rfl), (tbl_t (List.mem_of_getElem? (i := 1) (by decide +kernel)) rfl), ⟨by decide +kernel, by decide +kernel, by decide +kernel⟩, by decide, by decide +kernel⟩
theorem lk_X7_96 : LOK RX7 96 mX8_hold := .inr ⟨"SoldYear", (nst_in (List.mem_of_getElem? (i := 421) (by decide +kernel)) rfl)⟩
theorem sk_X8_hold : SOK mX8_hold := (tbl_t (List.mem_of_getElem? (i := 422) (by decide +kernel)) rfl)
abbrev mX1_value : gM := (yX1_value, cX1_value, 7, (some .int))
theorem mk_X1_value : MOK mX1_value 3 := ⟨(tbl_t (List.mem_of_getElem? (i := 417) (by decide +kernel)) rfl), (tbl_t (List.mem_of_getElem? (i := 6) (by decide +kernel)) rfl), ⟨by decide +kernel, by decide +kernel, by decide +kernel⟩, by decide, by decide +kernel⟩
theorem lk_X7_93 : LOK RX7 93 mX1_value := .inr ⟨"SoldYear", (nst_in (List.mem_of_getElem? (i := 414) (by decide +kernel)) rfl)⟩
theorem vk_X1_value : VOK mX1_value := ⟨(tbl_t (List.mem_of_getElem? (i := 416) (by decide +kernel)) rfl), (tbl_p (List.mem_of_getElem? (i := 18) (by decide +kernel)) rfl)⟩
theorem ko_32 : KOK 32 RX1 := .inl ⟨1, 4, TX1, 4, rfl, rfl⟩
theorem zk_X8_311 : NOK RX8 311 := ⟨(tbl_t (List.mem_of_getElem? (i := 424) (by decide +kernel)) rfl), (tbl_t (List.mem_of_getElem? (i := 357) (by decide +kernel)) rfl), (tbl_t (List.mem_of_getElem? (i := 11) (by decide +kernel)) rfl), (tbl_t (List.mem_of_getElem? (i := 358) (by decide +kernel)) rfl)⟩
theorem zk_X8_298 : XOK RX8 298 := ⟨(tbl_t (List.mem_of_getElem? (i := 425) (by decide +kernel)) rfl), (tbl_t (List.mem_of_getElem? (i := 360) (by decide +kernel)) rfl), (tbl_t (List.mem_of_getElem? (i := 11) (by decide +kernel)) rfl), (tbl_t (List.mem_of_getElem? (i := 361) (by decide +kernel)) rfl)⟩
abbrev mX7_ageByBook : gM := (yX7_ageByBook, cX7_ageByBook, 6, (some .int))
theorem mk_X7_ageByBook : MOK mX7_ageByBook 3 := ⟨(tbl_t (List.mem_of_getElem? (i := 399) (by decide +kernel)) rfl), (tbl_t (List.mem_of_getElem? (i := 2) (by decide +kernel)) rfl), ⟨by decide +kernel, by decide +kernel, by decide +kernel⟩, by decide, by decide +kernel⟩
theorem lk_X7_68 : LOK RX7 68 mX7_ageByBook := .inl (tbl_t (List.mem_of_getElem? (i := 396) (by decide +kernel)) rfl)
theorem vk_X7_ageByBook : VOK mX7_ageByBook := ⟨(tbl_t (List.mem_of_getElem? (i := 398) (by decide +kernel)) rfl), (tbl_p (List.mem_of_getElem? (i := 14) (by decide +kernel)) rfl)⟩
theorem fk_X7_12 : FOK RX7 12 7 0 := ⟨RX7, TX7, 14, rfl, by decide, ix_X7, (.inl (tbl_t (List.mem_of_getElem? (i := 130) (by decide +kernel)) rfl))⟩
abbrev mX6_turnsOfName : gM := (yX6_turnsOfName, cX6_turnsOfName, 8, (some .int))
theorem mk_X6_turnsOfName : MOK mX6_turnsOfName 3 := ⟨(tbl_t (List.mem_of_getElem? (i := 405) (by decide +kernel)) rfl), (tbl_t (List.mem_of_getElem? (i := 3) (by decide +kernel)) rfl), ⟨by decide +kernel, by decide +kernel, by decide +kernel⟩, by decide, by decide +kernel⟩
theorem lk_X7_71 : LOK RX7 71 mX6_turnsOfName := .inr ⟨"SoldYear", (nst_in (List.mem_of_getElem? (i := 402) (by decide +kernel)) rfl)⟩
theorem vk_X6_turnsOfName : VOK mX6_turnsOfName := ⟨(tbl_t (List.mem_of_getElem? (i := 404) (by decide +kernel)) rfl), (tbl_p (List.mem_of_getElem? (i := 15) (by decide +kernel)) rfl)⟩
theorem ko_15 : KOK 15 RX6 := .inl ⟨6, 5, TX6, 5, rfl, rfl⟩
theorem zk_X7_74 : XOK RX7 74 := ⟨(tbl_t (List.mem_of_getElem? (i := 401) (by decide +kernel)) rfl), (tbl_t (List.mem_of_getElem? (i := 360) (by decide +kernel)) rfl), (tbl_t (List.mem_of_getElem? (i := 11) (by decide +kernel)) rfl), (tbl_t (List.mem_of_getElem? (i := 361) (by decide +kernel)) rfl)⟩
abbrev mX6_partsOf : gM := (yX6_partsOf, cX6_partsOf, 4, (some .int))
theorem mk_X6_partsOf : MOK mX6_partsOf 1 := ⟨(tbl_t (List.mem_of_getElem? (i := 409) (by decide +kernel)) rfl), (tbl_t (List.mem_of_getElem? (i := 3) (by decide +kernel)) rfl), ⟨by decide +kernel, by decide +kernel, by decide +kernel⟩, by decide, by decide +kernel⟩
theorem lk_X7_79 : LOK RX7 79 mX6_partsOf := .inr ⟨"SoldYear", (nst_in (List.mem_of_getElem? (i := 406) (by decide +kernel)) rfl)⟩
theorem vk_X6_partsOf : VOK mX6_partsOf := ⟨(tbl_t (List.mem_of_getElem? (i := 408) (by decide +kernel)) rfl), (tbl_p (List.mem_of_getElem? (i := 16) (by decide +kernel)) rfl)⟩
abbrev mX7_ageByLaw : gM := (yX7_ageByLaw, cX7_ageByLaw, 4, (some .int))
theorem mk_X7_ageByLaw : MOK mX7_ageByLaw 3 := ⟨(tbl_t (List.mem_of_getElem? (i := 413) (by decide +kernel)) rfl), (tbl_t (List.mem_of_getElem? (i := 2) (by decide +kernel)) rfl), ⟨by decide +kernel, by decide +kernel, by decide +kernel⟩, by decide, by decide +kernel⟩
theorem lk_X7_83 : LOK RX7 83 mX7_ageByLaw := .inl (tbl_t (List.mem_of_getElem? (i := 410) (by decide +kernel)) rfl)
theorem vk_X7_ageByLaw : VOK mX7_ageByLaw := ⟨(tbl_t (List.mem_of_getElem? (i := 412) (by decide +kernel)) rfl), (tbl_p (List.mem_of_getElem? (i := 17) (by decide +kernel)) rfl)⟩
theorem fk_X7_35 : FOK RX7 35 7 3 := ⟨RX7, TX7, 14, rfl, by decide, ix_X7, (.inl (tbl_t (List.mem_of_getElem? (i := 136) (by decide +kernel)) rfl))⟩
theorem ko_29 : KOK 29 RX1 := .inl ⟨1, 4, TX1, 4, rfl, rfl⟩
theorem fk_X1_24 : FOK RX1 24 1 2 := ⟨RX1, TX1, 4, rfl, by decide, ix_X1, (.inl (tbl_t (List.mem_of_getElem? (i := 117) (by decide +kernel)) rfl))⟩
theorem fk_X1_9 : FOK RX1 9 1 0 := ⟨RX1, TX1, 4, rfl, by decide, ix_X1, (.inl (tbl_t (List.mem_of_getElem? (i := 115) (by decide +kernel)) rfl))⟩
theorem fk_X1_15 : FOK RX1 15 1 1 := ⟨RX1, TX1, 4, rfl, by decide, ix_X1, (.inl (tbl_t (List.mem_of_getElem? (i := 116) (by decide +kernel)) rfl))⟩
abbrev mX1_joined : gM := (yX1_joined, cX1_joined, 3, (some .int))
theorem mk_X1_joined : MOK mX1_joined 3 := ⟨(tbl_t (List.mem_of_getElem? (i := 420) (by decide +kernel)) rfl), (tbl_t (List.mem_of_getElem? (i := 6) (by decide +kernel)) rfl), ⟨by decide +kernel, by decide +kernel, by decide +kernel⟩, by decide, by decide +kernel⟩
theorem lk_X1_38 : LOK RX1 38 mX1_joined := .inl (tbl_t (List.mem_of_getElem? (i := 418) (by decide +kernel)) rfl)
theorem sk_X1_joined : SOK mX1_joined := (tbl_t (List.mem_of_getElem? (i := 419) (by decide +kernel)) rfl)
abbrev mX6_nameOf : gM := (yX6_nameOf, cX6_nameOf, 6, (some .int))
theorem mk_X6_nameOf : MOK mX6_nameOf 2 := ⟨(tbl_t (List.mem_of_getElem? (i := 334) (by decide +kernel)) rfl), (tbl_t (List.mem_of_getElem? (i := 3) (by decide +kernel)) rfl), ⟨by decide +kernel, by decide +kernel, by decide +kernel⟩, by decide, by decide +kernel⟩
theorem lk_X7_86 : LOK RX7 86 mX6_nameOf := .inr ⟨"SoldYear", (nst_in (List.mem_of_getElem? (i := 400) (by decide +kernel)) rfl)⟩
theorem vk_X6_nameOf : VOK mX6_nameOf := ⟨(tbl_t (List.mem_of_getElem? (i := 333) (by decide +kernel)) rfl), (tbl_p (List.mem_of_getElem? (i := 6) (by decide +kernel)) rfl)⟩
theorem fk_X6_24 : FOK RX6 24 6 4 := ⟨RX6, TX6, 5, rfl, by decide, ix_X6, (.inl (tbl_t (List.mem_of_getElem? (i := 46) (by decide +kernel)) rfl))⟩
theorem fk_X6_21 : FOK RX6 21 6 3 := ⟨RX6, TX6, 5, rfl, by decide, ix_X6, (.inl (tbl_t (List.mem_of_getElem? (i := 45) (by decide +kernel)) rfl))⟩
theorem fk_X6_15 : FOK RX6 15 6 1 := ⟨RX6, TX6, 5, rfl, by decide, ix_X6, (.inl (tbl_t (List.mem_of_getElem? (i := 41) (by decide +kernel)) rfl))⟩
theorem fk_X6_9 : FOK RX6 9 6 0 := ⟨RX6, TX6, 5, rfl, by decide, ix_X6, (.inl (tbl_t (List.mem_of_getElem? (i := 39) (by decide +kernel)) rfl))⟩
theorem fk_X6_18 : FOK RX6 18 6 2 := ⟨RX6, TX6, 5, rfl, by decide, ix_X6, (.inl (tbl_t (List.mem_of_getElem? (i := 43) (by decide +kernel)) rfl))⟩
theorem fk_X3_9 : FOK RX3 9 3 0 := ⟨RX3, TX3, 2, rfl, by decide, ix_X3, (.inl (tbl_t (List.mem_of_getElem? (i := 67) (by decide +kernel)) rfl))⟩
abbrev mX8_isWithin : gM := (yX8_isWithin, cX8_isWithin, 2, (some .boolean))
theorem mk_X8_isWithin : MOK mX8_isWithin 2 := ⟨(tbl_t (List.mem_of_getElem? (i := 297) (by decide +kernel)) rfl), (tbl_t (List.mem_of_getElem? (i := 1) (by decide +kernel)) rfl), ⟨by decide +kernel, by decide +kernel, by decide +kernel⟩, by decide, by decide +kernel⟩
theorem lk_X3_19 : LOK RX3 19 mX8_isWithin := .inr ⟨"SoldYear", (nst_in (List.mem_of_getElem? (i := 386) (by decide +kernel)) rfl)⟩
theorem sk_X8_isWithin : SOK mX8_isWithin := (tbl_t (List.mem_of_getElem? (i := 296) (by decide +kernel)) rfl)
theorem lk_X6_32 : LOK RX6 32 mX6_nameOf := .inl (tbl_t (List.mem_of_getElem? (i := 344) (by decide +kernel)) rfl)
abbrev mX6_hasPart : gM := (yX6_hasPart, cX6_hasPart, 3, (some .boolean))
theorem mk_X6_hasPart : MOK mX6_hasPart 2 := ⟨(tbl_t (List.mem_of_getElem? (i := 305) (by decide +kernel)) rfl), (tbl_t (List.mem_of_getElem? (i := 3) (by decide +kernel)) rfl), ⟨by decide +kernel, by decide +kernel, by decide +kernel⟩, by decide, by decide +kernel⟩
theorem lk_X6_28 : LOK RX6 28 mX6_hasPart := .inl (tbl_t (List.mem_of_getElem? (i := 302) (by decide +kernel)) rfl)
theorem vk_X6_hasPart : VOK mX6_hasPart := ⟨(tbl_t (List.mem_of_getElem? (i := 304) (by decide +kernel)) rfl), (tbl_p (List.mem_of_getElem? (i := 2) (by decide +kernel)) rfl)⟩
abbrev mX9_check : gM := (yX9_check, cX9_check, 3, (some .int))
theorem mk_X9_check : MOK mX9_check 0 := ⟨(tbl_t (List.mem_of_getElem? (i := 1324) (by decide +kernel)) rfl), (tbl_t (List.mem_of_getElem? (i := 10) (by decide +kernel)) rfl), ⟨by decide +kernel, by decide +kernel, by decide +kernel⟩, by decide, by decide +kernel⟩
abbrev mX9_findMay : gM := (yX9_findMay, cX9_findMay, 5, none)
theorem mk_X9_findMay : MOK mX9_findMay 0 := ⟨(tbl_t (List.mem_of_getElem? (i := 1186) (by decide +kernel)) rfl), (tbl_t (List.mem_of_getElem? (i := 10) (by decide +kernel)) rfl), ⟨by decide +kernel, by decide +kernel, by decide +kernel⟩, by decide, by decide +kernel⟩
theorem lk_X9_206 : LOK RX9 206 mX9_findMay := .inl (tbl_t (List.mem_of_getElem? (i := 1183) (by decide +kernel)) rfl)
theorem vk_X9_findMay : VOK mX9_findMay := ⟨(tbl_t (List.mem_of_getElem? (i := 1185) (by decide +kernel)) rfl), (tbl_p (List.mem_of_getElem? (i := 94) (by decide +kernel)) rfl)⟩
abbrev mX9_isPaper : gM := (yX9_isPaper, cX9_isPaper, 2, (some .boolean))
theorem mk_X9_isPaper : MOK mX9_isPaper 1 := ⟨(tbl_t (List.mem_of_getElem? (i := 1182) (by decide +kernel)) rfl), (tbl_t (List.mem_of_getElem? (i := 10) (by decide +kernel)) rfl), ⟨by decide +kernel, by decide +kernel, by decide +kernel⟩, by decide, by decide +kernel⟩
theorem lk_X9_203 : LOK RX9 203 mX9_isPaper := .inl (tbl_t (List.mem_of_getElem? (i := 1179) (by decide +kernel)) rfl)
theorem vk_X9_isPaper : VOK mX9_isPaper := ⟨(tbl_t (List.mem_of_getElem? (i := 1181) (by decide +kernel)) rfl), (tbl_p (List.mem_of_getElem? (i := 93) (by decide +kernel)) rfl)⟩
abbrev mX9_mayBe : gM := (yX9_mayBe, cX9_mayBe, 5, (some .boolean))
theorem mk_X9_mayBe : MOK mX9_mayBe 2 := ⟨(tbl_t (List.mem_of_getElem? (i := 1328) (by decide +kernel)) rfl), (tbl_t (List.mem_of_getElem? (i := 10) (by decide +kernel)) rfl), ⟨by decide +kernel, by decide +kernel, by decide +kernel⟩, by decide, by decide +kernel⟩
theorem lk_X9_267 : LOK RX9 267 mX9_mayBe := .inl (tbl_t (List.mem_of_getElem? (i := 1325) (by decide +kernel)) rfl)
theorem vk_X9_mayBe : VOK mX9_mayBe := ⟨(tbl_t (List.mem_of_getElem? (i := 1327) (by decide +kernel)) rfl), (tbl_p (List.mem_of_getElem? (i := 106) (by decide +kernel)) rfl)⟩
theorem fk_X9_34 : FOK RX9 34 9 13 := ⟨RX9, TX9, 25, rfl, by decide, ix_X9, (.inl (tbl_t (List.mem_of_getElem? (i := 888) (by decide +kernel)) rfl))⟩
theorem fk_X9_31 : FOK RX9 31 9 12 := ⟨RX9, TX9, 25, rfl, by decide, ix_X9, (.inl (tbl_t (List.mem_of_getElem? (i := 887) (by decide +kernel)) rfl))⟩
abbrev mX8_check : gM := (yX8_check, cX8_check, 5, (some .int))
theorem mk_X8_check : MOK mX8_check 0 := ⟨(tbl_t (List.mem_of_getElem? (i := 850) (by decide +kernel)) rfl), (tbl_t (List.mem_of_getElem? (i := 1) (by decide +kernel)) rfl), ⟨by decide +kernel, by decide +kernel, by decide +kernel⟩, by decide, by decide +kernel⟩
theorem fp_X8_292 : FPK RX8 292 7 8 .int := ⟨RX7, TX7, 14, tyX7, rfl, by decide, ix_X7, (.inr ⟨"SoldYear", (nst_in (List.mem_of_getElem? (i := 145) (by decide +kernel)) rfl)⟩), tyX7_ok, nmX7, rfl, by decide +kernel⟩
theorem fk_X8_295 : FOK RX8 295 7 7 := ⟨RX7, TX7, 14, rfl, by decide, ix_X7, (.inr ⟨"SoldYear", (nst_in (List.mem_of_getElem? (i := 143) (by decide +kernel)) rfl)⟩)⟩
abbrev mX2_mayBe : gM := (yX2_mayBe, cX2_mayBe, 4, (some .boolean))
theorem mk_X2_mayBe : MOK mX2_mayBe 3 := ⟨(tbl_t (List.mem_of_getElem? (i := 854) (by decide +kernel)) rfl), (tbl_t (List.mem_of_getElem? (i := 5) (by decide +kernel)) rfl), ⟨by decide +kernel, by decide +kernel, by decide +kernel⟩, by decide, by decide +kernel⟩
theorem lk_X8_303 : LOK RX8 303 mX2_mayBe := .inr ⟨"SoldYear", (nst_in (List.mem_of_getElem? (i := 851) (by decide +kernel)) rfl)⟩
theorem vk_X2_mayBe : VOK mX2_mayBe := ⟨(tbl_t (List.mem_of_getElem? (i := 853) (by decide +kernel)) rfl), (tbl_p (List.mem_of_getElem? (i := 60) (by decide +kernel)) rfl)⟩
theorem ko_22 : KOK 22 RX2 := .inl ⟨2, 7, TX2, 7, rfl, rfl⟩
theorem ck_X2_50 : Cond.constant RX2 50 73000 ∈ tblG := (tbl_t (List.mem_of_getElem? (i := 680) (by decide +kernel)) rfl)
theorem lk_X2_51 : LOK RX2 51 mX8_isWithin := .inr ⟨"SoldYear", (nst_in (List.mem_of_getElem? (i := 855) (by decide +kernel)) rfl)⟩
theorem fk_X2_15 : FOK RX2 15 2 1 := ⟨RX2, TX2, 7, rfl, by decide, ix_X2, (.inl (tbl_t (List.mem_of_getElem? (i := 84) (by decide +kernel)) rfl))⟩
theorem fk_X2_9 : FOK RX2 9 2 0 := ⟨RX2, TX2, 7, rfl, by decide, ix_X2, (.inl (tbl_t (List.mem_of_getElem? (i := 82) (by decide +kernel)) rfl))⟩
abbrev mX6_isNamedAnywhere : gM := (yX6_isNamedAnywhere, cX6_isNamedAnywhere, 4, (some .boolean))
theorem mk_X6_isNamedAnywhere : MOK mX6_isNamedAnywhere 2 := ⟨(tbl_t (List.mem_of_getElem? (i := 657) (by decide +kernel)) rfl), (tbl_t (List.mem_of_getElem? (i := 3) (by decide +kernel)) rfl), ⟨by decide +kernel, by decide +kernel, by decide +kernel⟩, by decide, by decide +kernel⟩
theorem lk_X2_44 : LOK RX2 44 mX6_isNamedAnywhere := .inr ⟨"SoldYear", (nst_in (List.mem_of_getElem? (i := 654) (by decide +kernel)) rfl)⟩
theorem vk_X6_isNamedAnywhere : VOK mX6_isNamedAnywhere := ⟨(tbl_t (List.mem_of_getElem? (i := 656) (by decide +kernel)) rfl), (tbl_p (List.mem_of_getElem? (i := 38) (by decide +kernel)) rfl)⟩
abbrev mX9_tell : gM := (yX9_tell, cX9_tell, 2, (some .int))
theorem mk_X9_tell : MOK mX9_tell 1 := ⟨(tbl_t (List.mem_of_getElem? (i := 1320) (by decide +kernel)) rfl), (tbl_t (List.mem_of_getElem? (i := 10) (by decide +kernel)) rfl), ⟨by decide +kernel, by decide +kernel, by decide +kernel⟩, by decide, by decide +kernel⟩
abbrev mX8_tell : gM := (yX8_tell, cX8_tell, 2, (some .int))
theorem mk_X8_tell : MOK mX8_tell 1 := ⟨(tbl_t (List.mem_of_getElem? (i := 846) (by decide +kernel)) rfl), (tbl_t (List.mem_of_getElem? (i := 1) (by decide +kernel)) rfl), ⟨by decide +kernel, by decide +kernel, by decide +kernel⟩, by decide, by decide +kernel⟩
abbrev mX9_restore : gM := (yX9_restore, cX9_restore, 1, (some .int))
theorem mk_X9_restore : MOK mX9_restore 0 := ⟨(tbl_t (List.mem_of_getElem? (i := 1316) (by decide +kernel)) rfl), (tbl_t (List.mem_of_getElem? (i := 10) (by decide +kernel)) rfl), ⟨by decide +kernel, by decide +kernel, by decide +kernel⟩, by decide, by decide +kernel⟩
theorem fk_X9_264 : FOK RX9 264 9 2 := ⟨RX9, TX9, 25, rfl, by decide, ix_X9, (.inl (tbl_t (List.mem_of_getElem? (i := 877) (by decide +kernel)) rfl))⟩
theorem fk_X9_13 : FOK RX9 13 9 1 := ⟨RX9, TX9, 25, rfl, by decide, ix_X9, (.inl (tbl_t (List.mem_of_getElem? (i := 876) (by decide +kernel)) rfl))⟩
abbrev mX9_carry : gM := (yX9_carry, cX9_carry, 3, none)
theorem mk_X9_carry : MOK mX9_carry 2 := ⟨(tbl_t (List.mem_of_getElem? (i := 1312) (by decide +kernel)) rfl), (tbl_t (List.mem_of_getElem? (i := 10) (by decide +kernel)) rfl), ⟨by decide +kernel, by decide +kernel, by decide +kernel⟩, by decide, by decide +kernel⟩
theorem lk_X9_260 : LOK RX9 260 mX9_carry := .inl (tbl_t (List.mem_of_getElem? (i := 1310) (by decide +kernel)) rfl)
theorem sk_X9_carry : SOK mX9_carry := (tbl_t (List.mem_of_getElem? (i := 1311) (by decide +kernel)) rfl)
abbrev mX8_restore : gM := (yX8_restore, cX8_restore, 1, (some .int))
theorem mk_X8_restore : MOK mX8_restore 0 := ⟨(tbl_t (List.mem_of_getElem? (i := 842) (by decide +kernel)) rfl), (tbl_t (List.mem_of_getElem? (i := 1) (by decide +kernel)) rfl), ⟨by decide +kernel, by decide +kernel, by decide +kernel⟩, by decide, by decide +kernel⟩
theorem fk_X8_289 : FOK RX8 289 8 6 := ⟨RX8, TX8, 7, rfl, by decide, ix_X8, (.inl (tbl_t (List.mem_of_getElem? (i := 268) (by decide +kernel)) rfl))⟩
theorem fk_X8_16 : FOK RX8 16 8 1 := ⟨RX8, TX8, 7, rfl, by decide, ix_X8, (.inl (tbl_t (List.mem_of_getElem? (i := 263) (by decide +kernel)) rfl))⟩
abbrev mX7_become : gM := (yX7_become, cX7_become, 2, none)
theorem mk_X7_become : MOK mX7_become 1 := ⟨(tbl_t (List.mem_of_getElem? (i := 818) (by decide +kernel)) rfl), (tbl_t (List.mem_of_getElem? (i := 2) (by decide +kernel)) rfl), ⟨by decide +kernel, by decide +kernel, by decide +kernel⟩, by decide, by decide +kernel⟩
theorem lk_X8_285 : LOK RX8 285 mX7_become := .inr ⟨"SoldYear", (nst_in (List.mem_of_getElem? (i := 815) (by decide +kernel)) rfl)⟩
theorem vk_X7_become : VOK mX7_become := ⟨(tbl_t (List.mem_of_getElem? (i := 817) (by decide +kernel)) rfl), (tbl_p (List.mem_of_getElem? (i := 55) (by decide +kernel)) rfl)⟩
abbrev mX6_become : gM := (yX6_become, cX6_become, 2, none)
theorem mk_X6_become : MOK mX6_become 1 := ⟨(tbl_t (List.mem_of_getElem? (i := 822) (by decide +kernel)) rfl), (tbl_t (List.mem_of_getElem? (i := 3) (by decide +kernel)) rfl), ⟨by decide +kernel, by decide +kernel, by decide +kernel⟩, by decide, by decide +kernel⟩
theorem lk_X7_129 : LOK RX7 129 mX6_become := .inr ⟨"SoldYear", (nst_in (List.mem_of_getElem? (i := 819) (by decide +kernel)) rfl)⟩
theorem vk_X6_become : VOK mX6_become := ⟨(tbl_t (List.mem_of_getElem? (i := 821) (by decide +kernel)) rfl), (tbl_p (List.mem_of_getElem? (i := 56) (by decide +kernel)) rfl)⟩
abbrev mX3_become : gM := (yX3_become, cX3_become, 2, none)
theorem mk_X3_become : MOK mX3_become 1 := ⟨(tbl_t (List.mem_of_getElem? (i := 827) (by decide +kernel)) rfl), (tbl_t (List.mem_of_getElem? (i := 4) (by decide +kernel)) rfl), ⟨by decide +kernel, by decide +kernel, by decide +kernel⟩, by decide, by decide +kernel⟩
theorem lk_X7_133 : LOK RX7 133 mX3_become := .inr ⟨"SoldYear", (nst_in (List.mem_of_getElem? (i := 824) (by decide +kernel)) rfl)⟩
theorem vk_X3_become : VOK mX3_become := ⟨(tbl_t (List.mem_of_getElem? (i := 826) (by decide +kernel)) rfl), (tbl_p (List.mem_of_getElem? (i := 57) (by decide +kernel)) rfl)⟩
theorem fk_X7_28 : FOK RX7 28 7 2 := ⟨RX7, TX7, 14, rfl, by decide, ix_X7, (.inl (tbl_t (List.mem_of_getElem? (i := 134) (by decide +kernel)) rfl))⟩
abbrev mX2_become : gM := (yX2_become, cX2_become, 2, none)
theorem mk_X2_become : MOK mX2_become 1 := ⟨(tbl_t (List.mem_of_getElem? (i := 832) (by decide +kernel)) rfl), (tbl_t (List.mem_of_getElem? (i := 5) (by decide +kernel)) rfl), ⟨by decide +kernel, by decide +kernel, by decide +kernel⟩, by decide, by decide +kernel⟩
theorem lk_X7_136 : LOK RX7 136 mX2_become := .inr ⟨"SoldYear", (nst_in (List.mem_of_getElem? (i := 829) (by decide +kernel)) rfl)⟩
theorem vk_X2_become : VOK mX2_become := ⟨(tbl_t (List.mem_of_getElem? (i := 831) (by decide +kernel)) rfl), (tbl_p (List.mem_of_getElem? (i := 58) (by decide +kernel)) rfl)⟩
abbrev mX1_become : gM := (yX1_become, cX1_become, 2, none)
theorem mk_X1_become : MOK mX1_become 1 := ⟨(tbl_t (List.mem_of_getElem? (i := 836) (by decide +kernel)) rfl), (tbl_t (List.mem_of_getElem? (i := 6) (by decide +kernel)) rfl), ⟨by decide +kernel, by decide +kernel, by decide +kernel⟩, by decide, by decide +kernel⟩
theorem lk_X7_139 : LOK RX7 139 mX1_become := .inr ⟨"SoldYear", (nst_in (List.mem_of_getElem? (i := 833) (by decide +kernel)) rfl)⟩
theorem vk_X1_become : VOK mX1_become := ⟨(tbl_t (List.mem_of_getElem? (i := 835) (by decide +kernel)) rfl), (tbl_p (List.mem_of_getElem? (i := 59) (by decide +kernel)) rfl)⟩
abbrev mX1_take : gM := (yX1_take, cX1_take, 3, none)
theorem mk_X1_take : MOK mX1_take 2 := ⟨(tbl_t (List.mem_of_getElem? (i := 621) (by decide +kernel)) rfl), (tbl_t (List.mem_of_getElem? (i := 6) (by decide +kernel)) rfl), ⟨by decide +kernel, by decide +kernel, by decide +kernel⟩, by decide, by decide +kernel⟩
theorem lk_X1_42 : LOK RX1 42 mX1_take := .inl (tbl_t (List.mem_of_getElem? (i := 837) (by decide +kernel)) rfl)
theorem vk_X1_take : VOK mX1_take := ⟨(tbl_t (List.mem_of_getElem? (i := 620) (by decide +kernel)) rfl), (tbl_p (List.mem_of_getElem? (i := 33) (by decide +kernel)) rfl)⟩
theorem fk_X1_34 : FOK RX1 34 1 3 := ⟨RX1, TX1, 4, rfl, by decide, ix_X1, (.inl (tbl_t (List.mem_of_getElem? (i := 118) (by decide +kernel)) rfl))⟩
theorem fp_X1_34 : FPK RX1 34 1 3 .boolean := ⟨RX1, TX1, 4, tyX1, rfl, by decide, ix_X1, (.inl (tbl_t (List.mem_of_getElem? (i := 118) (by decide +kernel)) rfl)), tyX1_ok, nmX1, rfl, by decide +kernel⟩
theorem fk_X7_42 : FOK RX7 42 7 5 := ⟨RX7, TX7, 14, rfl, by decide, ix_X7, (.inl (tbl_t (List.mem_of_getElem? (i := 138) (by decide +kernel)) rfl))⟩
theorem ak_X7_142 : AOK RX7 142 := ⟨(tbl_t (List.mem_of_getElem? (i := 838) (by decide +kernel)) rfl), (tbl_t (List.mem_of_getElem? (i := 500) (by decide +kernel)) rfl), (tbl_t (List.mem_of_getElem? (i := 499) (by decide +kernel)) rfl), (tbl_t (List.mem_of_getElem? (i := 12) (by decide +kernel)) rfl)⟩
theorem fk_X7_148 : FOK RX7 148 7 6 := ⟨RX7, TX7, 14, rfl, by decide, ix_X7, (.inl (tbl_t (List.mem_of_getElem? (i := 140) (by decide +kernel)) rfl))⟩
theorem fp_X7_148 : FPK RX7 148 7 6 .int := ⟨RX7, TX7, 14, tyX7, rfl, by decide, ix_X7, (.inl (tbl_t (List.mem_of_getElem? (i := 140) (by decide +kernel)) rfl)), tyX7_ok, nmX7, rfl, by decide +kernel⟩
theorem fk_X7_46 : FOK RX7 46 7 7 := ⟨RX7, TX7, 14, rfl, by decide, ix_X7, (.inl (tbl_t (List.mem_of_getElem? (i := 142) (by decide +kernel)) rfl))⟩
theorem fk_X7_151 : FOK RX7 151 7 8 := ⟨RX7, TX7, 14, rfl, by decide, ix_X7, (.inl (tbl_t (List.mem_of_getElem? (i := 144) (by decide +kernel)) rfl))⟩
theorem fp_X7_151 : FPK RX7 151 7 8 .int := ⟨RX7, TX7, 14, tyX7, rfl, by decide, ix_X7, (.inl (tbl_t (List.mem_of_getElem? (i := 144) (by decide +kernel)) rfl)), tyX7_ok, nmX7, rfl, by decide +kernel⟩
theorem fp_X7_61 : FPK RX7 61 7 9 .int := ⟨RX7, TX7, 14, tyX7, rfl, by decide, ix_X7, (.inl (tbl_t (List.mem_of_getElem? (i := 146) (by decide +kernel)) rfl)), tyX7_ok, nmX7, rfl, by decide +kernel⟩
theorem fk_X7_49 : FOK RX7 49 7 10 := ⟨RX7, TX7, 14, rfl, by decide, ix_X7, (.inl (tbl_t (List.mem_of_getElem? (i := 148) (by decide +kernel)) rfl))⟩
theorem fp_X7_49 : FPK RX7 49 7 10 .int := ⟨RX7, TX7, 14, tyX7, rfl, by decide, ix_X7, (.inl (tbl_t (List.mem_of_getElem? (i := 148) (by decide +kernel)) rfl)), tyX7_ok, nmX7, rfl, by decide +kernel⟩
theorem fk_X7_118 : FOK RX7 118 7 11 := ⟨RX7, TX7, 14, rfl, by decide, ix_X7, (.inl (tbl_t (List.mem_of_getElem? (i := 150) (by decide +kernel)) rfl))⟩
theorem fp_X7_118 : FPK RX7 118 7 11 .int := ⟨RX7, TX7, 14, tyX7, rfl, by decide, ix_X7, (.inl (tbl_t (List.mem_of_getElem? (i := 150) (by decide +kernel)) rfl)), tyX7_ok, nmX7, rfl, by decide +kernel⟩
theorem fk_X7_115 : FOK RX7 115 7 12 := ⟨RX7, TX7, 14, rfl, by decide, ix_X7, (.inl (tbl_t (List.mem_of_getElem? (i := 152) (by decide +kernel)) rfl))⟩
theorem fp_X7_115 : FPK RX7 115 7 12 .int := ⟨RX7, TX7, 14, tyX7, rfl, by decide, ix_X7, (.inl (tbl_t (List.mem_of_getElem? (i := 152) (by decide +kernel)) rfl)), tyX7_ok, nmX7, rfl, by decide +kernel⟩
theorem ak_X6_44 : AOK RX6 44 := ⟨(tbl_t (List.mem_of_getElem? (i := 823) (by decide +kernel)) rfl), (tbl_t (List.mem_of_getElem? (i := 500) (by decide +kernel)) rfl), (tbl_t (List.mem_of_getElem? (i := 499) (by decide +kernel)) rfl), (tbl_t (List.mem_of_getElem? (i := 12) (by decide +kernel)) rfl)⟩
theorem fp_X6_24 : FPK RX6 24 6 4 .int := ⟨RX6, TX6, 5, tyX6, rfl, by decide, ix_X6, (.inl (tbl_t (List.mem_of_getElem? (i := 46) (by decide +kernel)) rfl)), tyX6_ok, nmX6, rfl, by decide +kernel⟩
theorem ak_X3_30 : AOK RX3 30 := ⟨(tbl_t (List.mem_of_getElem? (i := 828) (by decide +kernel)) rfl), (tbl_t (List.mem_of_getElem? (i := 500) (by decide +kernel)) rfl), (tbl_t (List.mem_of_getElem? (i := 499) (by decide +kernel)) rfl), (tbl_t (List.mem_of_getElem? (i := 12) (by decide +kernel)) rfl)⟩
theorem fk_X3_15 : FOK RX3 15 3 1 := ⟨RX3, TX3, 2, rfl, by decide, ix_X3, (.inl (tbl_t (List.mem_of_getElem? (i := 68) (by decide +kernel)) rfl))⟩
theorem fp_X3_15 : FPK RX3 15 3 1 .int := ⟨RX3, TX3, 2, tyX3, rfl, by decide, ix_X3, (.inl (tbl_t (List.mem_of_getElem? (i := 68) (by decide +kernel)) rfl)), tyX3_ok, nmX3, rfl, by decide +kernel⟩
theorem ak_X2_62 : AOK RX2 62 := ⟨(tbl_t (List.mem_of_getElem? (i := 679) (by decide +kernel)) rfl), (tbl_t (List.mem_of_getElem? (i := 500) (by decide +kernel)) rfl), (tbl_t (List.mem_of_getElem? (i := 499) (by decide +kernel)) rfl), (tbl_t (List.mem_of_getElem? (i := 12) (by decide +kernel)) rfl)⟩
theorem fk_X2_31 : FOK RX2 31 2 2 := ⟨RX2, TX2, 7, rfl, by decide, ix_X2, (.inl (tbl_t (List.mem_of_getElem? (i := 86) (by decide +kernel)) rfl))⟩
theorem fp_X2_31 : FPK RX2 31 2 2 .int := ⟨RX2, TX2, 7, tyX2, rfl, by decide, ix_X2, (.inl (tbl_t (List.mem_of_getElem? (i := 86) (by decide +kernel)) rfl)), tyX2_ok, nmX2, rfl, by decide +kernel⟩
theorem zk_X1_18 : NOK RX1 18 := ⟨(tbl_t (List.mem_of_getElem? (i := 622) (by decide +kernel)) rfl), (tbl_t (List.mem_of_getElem? (i := 357) (by decide +kernel)) rfl), (tbl_t (List.mem_of_getElem? (i := 11) (by decide +kernel)) rfl), (tbl_t (List.mem_of_getElem? (i := 358) (by decide +kernel)) rfl)⟩
theorem fp_X1_24 : FPK RX1 24 1 2 .int := ⟨RX1, TX1, 4, tyX1, rfl, by decide, ix_X1, (.inl (tbl_t (List.mem_of_getElem? (i := 117) (by decide +kernel)) rfl)), tyX1_ok, nmX1, rfl, by decide +kernel⟩
theorem ak_X1_28 : AOK RX1 28 := ⟨(tbl_t (List.mem_of_getElem? (i := 623) (by decide +kernel)) rfl), (tbl_t (List.mem_of_getElem? (i := 500) (by decide +kernel)) rfl), (tbl_t (List.mem_of_getElem? (i := 499) (by decide +kernel)) rfl), (tbl_t (List.mem_of_getElem? (i := 12) (by decide +kernel)) rfl)⟩
abbrev mX9_image : gM := (yX9_image, cX9_image, 1, (some .int))
theorem mk_X9_image : MOK mX9_image 0 := ⟨(tbl_t (List.mem_of_getElem? (i := 1309) (by decide +kernel)) rfl), (tbl_t (List.mem_of_getElem? (i := 10) (by decide +kernel)) rfl), ⟨by decide +kernel, by decide +kernel, by decide +kernel⟩, by decide, by decide +kernel⟩
theorem fp_X9_264 : FPK RX9 264 9 2 .int := ⟨RX9, TX9, 25, tyX9, rfl, by decide, ix_X9, (.inl (tbl_t (List.mem_of_getElem? (i := 877) (by decide +kernel)) rfl)), tyX9_ok, nmX9, rfl, by decide +kernel⟩
abbrev mX8_image : gM := (yX8_image, cX8_image, 1, (some .int))
theorem mk_X8_image : MOK mX8_image 0 := ⟨(tbl_t (List.mem_of_getElem? (i := 814) (by decide +kernel)) rfl), (tbl_t (List.mem_of_getElem? (i := 1) (by decide +kernel)) rfl), ⟨by decide +kernel, by decide +kernel, by decide +kernel⟩, by decide, by decide +kernel⟩
theorem ko_2 : KOK 2 RX7 := .inl ⟨7, 14, TX7, 14, rfl, rfl⟩
theorem fp_X8_289 : FPK RX8 289 8 6 .int := ⟨RX8, TX8, 7, tyX8, rfl, by decide, ix_X8, (.inl (tbl_t (List.mem_of_getElem? (i := 268) (by decide +kernel)) rfl)), tyX8_ok, nmX8, rfl, by decide +kernel⟩
theorem ko_38 : KOK 38 RX6 := .inl ⟨6, 5, TX6, 5, rfl, rfl⟩
theorem ko_43 : KOK 43 RX3 := .inl ⟨3, 2, TX3, 2, rfl, rfl⟩
theorem ko_45 : KOK 45 RX2 := .inl ⟨2, 7, TX2, 7, rfl, rfl⟩
theorem ko_52 : KOK 52 RX1 := .inl ⟨1, 4, TX1, 4, rfl, rfl⟩
theorem ko_55 : KOK 55 RX1 := .inl ⟨1, 4, TX1, 4, rfl, rfl⟩
abbrev mX9_judge : gM := (yX9_judge, cX9_judge, 6, (some .int))
theorem mk_X9_judge : MOK mX9_judge 3 := ⟨(tbl_t (List.mem_of_getElem? (i := 1305) (by decide +kernel)) rfl), (tbl_t (List.mem_of_getElem? (i := 10) (by decide +kernel)) rfl), ⟨by decide +kernel, by decide +kernel, by decide +kernel⟩, by decide, by decide +kernel⟩
abbrev mX9_isCounty : gM := (yX9_isCounty, cX9_isCounty, 1, (some .boolean))
theorem mk_X9_isCounty : MOK mX9_isCounty 1 := ⟨(tbl_t (List.mem_of_getElem? (i := 964) (by decide +kernel)) rfl), (tbl_t (List.mem_of_getElem? (i := 10) (by decide +kernel)) rfl), ⟨by decide +kernel, by decide +kernel, by decide +kernel⟩, by decide, by decide +kernel⟩
theorem lk_X9_75 : LOK RX9 75 mX9_isCounty := .inl (tbl_t (List.mem_of_getElem? (i := 962) (by decide +kernel)) rfl)
theorem sk_X9_isCounty : SOK mX9_isCounty := (tbl_t (List.mem_of_getElem? (i := 963) (by decide +kernel)) rfl)
abbrev mX9_lacks : gM := (yX9_lacks, cX9_lacks, 2, (some .int))
theorem mk_X9_lacks : MOK mX9_lacks 1 := ⟨(tbl_t (List.mem_of_getElem? (i := 1301) (by decide +kernel)) rfl), (tbl_t (List.mem_of_getElem? (i := 10) (by decide +kernel)) rfl), ⟨by decide +kernel, by decide +kernel, by decide +kernel⟩, by decide, by decide +kernel⟩
theorem lk_X9_257 : LOK RX9 257 mX9_lacks := .inl (tbl_t (List.mem_of_getElem? (i := 1298) (by decide +kernel)) rfl)
theorem vk_X9_lacks : VOK mX9_lacks := ⟨(tbl_t (List.mem_of_getElem? (i := 1300) (by decide +kernel)) rfl), (tbl_p (List.mem_of_getElem? (i := 105) (by decide +kernel)) rfl)⟩
abbrev mX9_isSheet : gM := (yX9_isSheet, cX9_isSheet, 1, (some .boolean))
theorem mk_X9_isSheet : MOK mX9_isSheet 1 := ⟨(tbl_t (List.mem_of_getElem? (i := 1285) (by decide +kernel)) rfl), (tbl_t (List.mem_of_getElem? (i := 10) (by decide +kernel)) rfl), ⟨by decide +kernel, by decide +kernel, by decide +kernel⟩, by decide, by decide +kernel⟩
theorem lk_X9_254 : LOK RX9 254 mX9_isSheet := .inl (tbl_t (List.mem_of_getElem? (i := 1283) (by decide +kernel)) rfl)
theorem sk_X9_isSheet : SOK mX9_isSheet := (tbl_t (List.mem_of_getElem? (i := 1284) (by decide +kernel)) rfl)
theorem fk_X9_50 : FOK RX9 50 9 21 := ⟨RX9, TX9, 25, rfl, by decide, ix_X9, (.inl (tbl_t (List.mem_of_getElem? (i := 896) (by decide +kernel)) rfl))⟩
theorem fk_X9_53 : FOK RX9 53 9 22 := ⟨RX9, TX9, 25, rfl, by decide, ix_X9, (.inl (tbl_t (List.mem_of_getElem? (i := 897) (by decide +kernel)) rfl))⟩
theorem fk_X9_56 : FOK RX9 56 9 23 := ⟨RX9, TX9, 25, rfl, by decide, ix_X9, (.inl (tbl_t (List.mem_of_getElem? (i := 898) (by decide +kernel)) rfl))⟩
abbrev mX8_judge : gM := (yX8_judge, cX8_judge, 6, (some .int))
theorem mk_X8_judge : MOK mX8_judge 3 := ⟨(tbl_t (List.mem_of_getElem? (i := 810) (by decide +kernel)) rfl), (tbl_t (List.mem_of_getElem? (i := 1) (by decide +kernel)) rfl), ⟨by decide +kernel, by decide +kernel, by decide +kernel⟩, by decide, by decide +kernel⟩
theorem lk_X8_66 : LOK RX8 66 mX8_isWithin := .inl (tbl_t (List.mem_of_getElem? (i := 295) (by decide +kernel)) rfl)
theorem fk_X8_35 : FOK RX8 35 8 4 := ⟨RX8, TX8, 7, rfl, by decide, ix_X8, (.inl (tbl_t (List.mem_of_getElem? (i := 266) (by decide +kernel)) rfl))⟩
theorem ix_X5_w : ∀ w ∈ u_ws RX5 TX5 3, w ∈ tables_1 ∧ goodWord w = true := by decide +kernel
theorem ix_X5 : ∀ w ∈ u_ws RX5 TX5 3, w ∈ tblG := fun w hw => tbl_t (ix_X5_w w hw).1 (ix_X5_w w hw).2
theorem fk_X8_266 : FOK RX8 266 5 1 := ⟨RX5, TX5, 3, rfl, by decide, ix_X5, (.inr ⟨"SoldYear", (nst_in (List.mem_of_getElem? (i := 252) (by decide +kernel)) rfl)⟩)⟩
theorem fk_X8_269 : FOK RX8 269 5 2 := ⟨RX5, TX5, 3, rfl, by decide, ix_X5, (.inr ⟨"SoldYear", (nst_in (List.mem_of_getElem? (i := 254) (by decide +kernel)) rfl)⟩)⟩
theorem fk_X8_276 : FOK RX8 276 5 0 := ⟨RX5, TX5, 3, rfl, by decide, ix_X5, (.inr ⟨"SoldYear", (nst_in (List.mem_of_getElem? (i := 250) (by decide +kernel)) rfl)⟩)⟩
theorem lk_X8_82 : LOK RX8 82 mX6_nameOf := .inr ⟨"SoldYear", (nst_in (List.mem_of_getElem? (i := 331) (by decide +kernel)) rfl)⟩
abbrev mX9_papers : gM := (yX9_papers, cX9_papers, 5, (some .int))
theorem mk_X9_papers : MOK mX9_papers 1 := ⟨(tbl_t (List.mem_of_getElem? (i := 1297) (by decide +kernel)) rfl), (tbl_t (List.mem_of_getElem? (i := 10) (by decide +kernel)) rfl), ⟨by decide +kernel, by decide +kernel, by decide +kernel⟩, by decide, by decide +kernel⟩
abbrev mX9_isDate : gM := (yX9_isDate, cX9_isDate, 2, (some .boolean))
theorem mk_X9_isDate : MOK mX9_isDate 2 := ⟨(tbl_t (List.mem_of_getElem? (i := 1016) (by decide +kernel)) rfl), (tbl_t (List.mem_of_getElem? (i := 10) (by decide +kernel)) rfl), ⟨by decide +kernel, by decide +kernel, by decide +kernel⟩, by decide, by decide +kernel⟩
theorem lk_X9_100 : LOK RX9 100 mX9_isDate := .inl (tbl_t (List.mem_of_getElem? (i := 1014) (by decide +kernel)) rfl)
theorem sk_X9_isDate : SOK mX9_isDate := (tbl_t (List.mem_of_getElem? (i := 1015) (by decide +kernel)) rfl)
abbrev mX9_addPaper : gM := (yX9_addPaper, cX9_addPaper, 3, none)
theorem mk_X9_addPaper : MOK mX9_addPaper 2 := ⟨(tbl_t (List.mem_of_getElem? (i := 1174) (by decide +kernel)) rfl), (tbl_t (List.mem_of_getElem? (i := 10) (by decide +kernel)) rfl), ⟨by decide +kernel, by decide +kernel, by decide +kernel⟩, by decide, by decide +kernel⟩
theorem lk_X9_200 : LOK RX9 200 mX9_addPaper := .inl (tbl_t (List.mem_of_getElem? (i := 1171) (by decide +kernel)) rfl)
theorem vk_X9_addPaper : VOK mX9_addPaper := ⟨(tbl_t (List.mem_of_getElem? (i := 1173) (by decide +kernel)) rfl), (tbl_p (List.mem_of_getElem? (i := 92) (by decide +kernel)) rfl)⟩
abbrev mX8_papers : gM := (yX8_papers, cX8_papers, 5, (some .int))
theorem mk_X8_papers : MOK mX8_papers 1 := ⟨(tbl_t (List.mem_of_getElem? (i := 806) (by decide +kernel)) rfl), (tbl_t (List.mem_of_getElem? (i := 1) (by decide +kernel)) rfl), ⟨by decide +kernel, by decide +kernel, by decide +kernel⟩, by decide, by decide +kernel⟩
abbrev mX8_paperRefusal : gM := (yX8_paperRefusal, cX8_paperRefusal, 3, (some .int))
theorem mk_X8_paperRefusal : MOK mX8_paperRefusal 2 := ⟨(tbl_t (List.mem_of_getElem? (i := 635) (by decide +kernel)) rfl), (tbl_t (List.mem_of_getElem? (i := 1) (by decide +kernel)) rfl), ⟨by decide +kernel, by decide +kernel, by decide +kernel⟩, by decide, by decide +kernel⟩
theorem lk_X8_180 : LOK RX8 180 mX8_paperRefusal := .inl (tbl_t (List.mem_of_getElem? (i := 632) (by decide +kernel)) rfl)
theorem vk_X8_paperRefusal : VOK mX8_paperRefusal := ⟨(tbl_t (List.mem_of_getElem? (i := 634) (by decide +kernel)) rfl), (tbl_p (List.mem_of_getElem? (i := 34) (by decide +kernel)) rfl)⟩
abbrev mX8_isDate : gM := (yX8_isDate, cX8_isDate, 2, (some .boolean))
theorem mk_X8_isDate : MOK mX8_isDate 2 := ⟨(tbl_t (List.mem_of_getElem? (i := 351) (by decide +kernel)) rfl), (tbl_t (List.mem_of_getElem? (i := 1) (by decide +kernel)) rfl), ⟨by decide +kernel, by decide +kernel, by decide +kernel⟩, by decide, by decide +kernel⟩
theorem lk_X8_90 : LOK RX8 90 mX8_isDate := .inl (tbl_t (List.mem_of_getElem? (i := 349) (by decide +kernel)) rfl)
theorem sk_X8_isDate : SOK mX8_isDate := (tbl_t (List.mem_of_getElem? (i := 350) (by decide +kernel)) rfl)
abbrev mX2_add : gM := (yX2_add, cX2_add, 3, none)
theorem mk_X2_add : MOK mX2_add 2 := ⟨(tbl_t (List.mem_of_getElem? (i := 639) (by decide +kernel)) rfl), (tbl_t (List.mem_of_getElem? (i := 5) (by decide +kernel)) rfl), ⟨by decide +kernel, by decide +kernel, by decide +kernel⟩, by decide, by decide +kernel⟩
theorem lk_X8_187 : LOK RX8 187 mX2_add := .inr ⟨"SoldYear", (nst_in (List.mem_of_getElem? (i := 636) (by decide +kernel)) rfl)⟩
theorem vk_X2_add : VOK mX2_add := ⟨(tbl_t (List.mem_of_getElem? (i := 638) (by decide +kernel)) rfl), (tbl_p (List.mem_of_getElem? (i := 35) (by decide +kernel)) rfl)⟩
abbrev mX9_move : gM := (yX9_move, cX9_move, 7, (some .int))
theorem mk_X9_move : MOK mX9_move 5 := ⟨(tbl_t (List.mem_of_getElem? (i := 1293) (by decide +kernel)) rfl), (tbl_t (List.mem_of_getElem? (i := 10) (by decide +kernel)) rfl), ⟨by decide +kernel, by decide +kernel, by decide +kernel⟩, by decide, by decide +kernel⟩
theorem fk_X9_59 : FOK RX9 59 9 24 := ⟨RX9, TX9, 25, rfl, by decide, ix_X9, (.inl (tbl_t (List.mem_of_getElem? (i := 899) (by decide +kernel)) rfl))⟩
abbrev mX8_move : gM := (yX8_move, cX8_move, 8, (some .int))
theorem mk_X8_move : MOK mX8_move 5 := ⟨(tbl_t (List.mem_of_getElem? (i := 797) (by decide +kernel)) rfl), (tbl_t (List.mem_of_getElem? (i := 1) (by decide +kernel)) rfl), ⟨by decide +kernel, by decide +kernel, by decide +kernel⟩, by decide, by decide +kernel⟩
abbrev mX5_holds : gM := (yX5_holds, cX5_holds, 3, (some .boolean))
theorem mk_X5_holds : MOK mX5_holds 2 := ⟨(tbl_t (List.mem_of_getElem? (i := 801) (by decide +kernel)) rfl), (tbl_t (List.mem_of_getElem? (i := 9) (by decide +kernel)) rfl), ⟨by decide +kernel, by decide +kernel, by decide +kernel⟩, by decide, by decide +kernel⟩
theorem lk_X8_273 : LOK RX8 273 mX5_holds := .inr ⟨"SoldYear", (nst_in (List.mem_of_getElem? (i := 798) (by decide +kernel)) rfl)⟩
theorem vk_X5_holds : VOK mX5_holds := ⟨(tbl_t (List.mem_of_getElem? (i := 800) (by decide +kernel)) rfl), (tbl_p (List.mem_of_getElem? (i := 54) (by decide +kernel)) rfl)⟩
theorem ko_7 : KOK 7 RX5 := .inl ⟨5, 3, TX5, 3, rfl, rfl⟩
theorem fk_X5_19 : FOK RX5 19 5 2 := ⟨RX5, TX5, 3, rfl, by decide, ix_X5, (.inl (tbl_t (List.mem_of_getElem? (i := 253) (by decide +kernel)) rfl))⟩
theorem ak_X8_279 : AOK RX8 279 := ⟨(tbl_t (List.mem_of_getElem? (i := 802) (by decide +kernel)) rfl), (tbl_t (List.mem_of_getElem? (i := 500) (by decide +kernel)) rfl), (tbl_t (List.mem_of_getElem? (i := 499) (by decide +kernel)) rfl), (tbl_t (List.mem_of_getElem? (i := 12) (by decide +kernel)) rfl)⟩
theorem ko_8 : KOK 8 RX5 := .inl ⟨5, 3, TX5, 3, rfl, rfl⟩
theorem ko_9 : KOK 9 RX5 := .inl ⟨5, 3, TX5, 3, rfl, rfl⟩
theorem ko_10 : KOK 10 RX5 := .inl ⟨5, 3, TX5, 3, rfl, rfl⟩
abbrev mX9_put : gM := (yX9_put, cX9_put, 5, (some .int))
theorem mk_X9_put : MOK mX9_put 3 := ⟨(tbl_t (List.mem_of_getElem? (i := 1289) (by decide +kernel)) rfl), (tbl_t (List.mem_of_getElem? (i := 10) (by decide +kernel)) rfl), ⟨by decide +kernel, by decide +kernel, by decide +kernel⟩, by decide, by decide +kernel⟩
abbrev mX8_put : gM := (yX8_put, cX8_put, 4, (some .int))
theorem mk_X8_put : MOK mX8_put 3 := ⟨(tbl_t (List.mem_of_getElem? (i := 788) (by decide +kernel)) rfl), (tbl_t (List.mem_of_getElem? (i := 1) (by decide +kernel)) rfl), ⟨by decide +kernel, by decide +kernel, by decide +kernel⟩, by decide, by decide +kernel⟩
abbrev mX5_write : gM := (yX5_write, cX5_write, 3, none)
theorem mk_X5_write : MOK mX5_write 2 := ⟨(tbl_t (List.mem_of_getElem? (i := 792) (by decide +kernel)) rfl), (tbl_t (List.mem_of_getElem? (i := 9) (by decide +kernel)) rfl), ⟨by decide +kernel, by decide +kernel, by decide +kernel⟩, by decide, by decide +kernel⟩
theorem lk_X8_270 : LOK RX8 270 mX5_write := .inr ⟨"SoldYear", (nst_in (List.mem_of_getElem? (i := 789) (by decide +kernel)) rfl)⟩
theorem vk_X5_write : VOK mX5_write := ⟨(tbl_t (List.mem_of_getElem? (i := 791) (by decide +kernel)) rfl), (tbl_p (List.mem_of_getElem? (i := 53) (by decide +kernel)) rfl)⟩
theorem lk_X5_28 : LOK RX5 28 mX8_isWithin := .inr ⟨"SoldYear", (nst_in (List.mem_of_getElem? (i := 793) (by decide +kernel)) rfl)⟩
theorem fk_X5_9 : FOK RX5 9 5 0 := ⟨RX5, TX5, 3, rfl, by decide, ix_X5, (.inl (tbl_t (List.mem_of_getElem? (i := 249) (by decide +kernel)) rfl))⟩
theorem fk_X5_15 : FOK RX5 15 5 1 := ⟨RX5, TX5, 3, rfl, by decide, ix_X5, (.inl (tbl_t (List.mem_of_getElem? (i := 251) (by decide +kernel)) rfl))⟩
abbrev mX9_sheet : gM := (yX9_sheet, cX9_sheet, 5, (some .int))
theorem mk_X9_sheet : MOK mX9_sheet 3 := ⟨(tbl_t (List.mem_of_getElem? (i := 1282) (by decide +kernel)) rfl), (tbl_t (List.mem_of_getElem? (i := 10) (by decide +kernel)) rfl), ⟨by decide +kernel, by decide +kernel, by decide +kernel⟩, by decide, by decide +kernel⟩
abbrev mX8_sheet : gM := (yX8_sheet, cX8_sheet, 4, (some .int))
theorem mk_X8_sheet : MOK mX8_sheet 3 := ⟨(tbl_t (List.mem_of_getElem? (i := 774) (by decide +kernel)) rfl), (tbl_t (List.mem_of_getElem? (i := 1) (by decide +kernel)) rfl), ⟨by decide +kernel, by decide +kernel, by decide +kernel⟩, by decide, by decide +kernel⟩
abbrev mX8_isWidth : gM := (yX8_isWidth, cX8_isWidth, 1, (some .boolean))
theorem mk_X8_isWidth : MOK mX8_isWidth 1 := ⟨(tbl_t (List.mem_of_getElem? (i := 777) (by decide +kernel)) rfl), (tbl_t (List.mem_of_getElem? (i := 1) (by decide +kernel)) rfl), ⟨by decide +kernel, by decide +kernel, by decide +kernel⟩, by decide, by decide +kernel⟩
theorem lk_X8_260 : LOK RX8 260 mX8_isWidth := .inl (tbl_t (List.mem_of_getElem? (i := 775) (by decide +kernel)) rfl)
theorem sk_X8_isWidth : SOK mX8_isWidth := (tbl_t (List.mem_of_getElem? (i := 776) (by decide +kernel)) rfl)
abbrev mX5_renew : gM := (yX5_renew, cX5_renew, 3, none)
theorem mk_X5_renew : MOK mX5_renew 2 := ⟨(tbl_t (List.mem_of_getElem? (i := 781) (by decide +kernel)) rfl), (tbl_t (List.mem_of_getElem? (i := 9) (by decide +kernel)) rfl), ⟨by decide +kernel, by decide +kernel, by decide +kernel⟩, by decide, by decide +kernel⟩
theorem lk_X8_263 : LOK RX8 263 mX5_renew := .inr ⟨"SoldYear", (nst_in (List.mem_of_getElem? (i := 778) (by decide +kernel)) rfl)⟩
theorem vk_X5_renew : VOK mX5_renew := ⟨(tbl_t (List.mem_of_getElem? (i := 780) (by decide +kernel)) rfl), (tbl_p (List.mem_of_getElem? (i := 52) (by decide +kernel)) rfl)⟩
theorem fp_X5_15 : FPK RX5 15 5 1 .int := ⟨RX5, TX5, 3, tyX5, rfl, by decide, ix_X5, (.inl (tbl_t (List.mem_of_getElem? (i := 251) (by decide +kernel)) rfl)), tyX5_ok, nmX5, rfl, by decide +kernel⟩
theorem fp_X5_19 : FPK RX5 19 5 2 .int := ⟨RX5, TX5, 3, tyX5, rfl, by decide, ix_X5, (.inl (tbl_t (List.mem_of_getElem? (i := 253) (by decide +kernel)) rfl)), tyX5_ok, nmX5, rfl, by decide +kernel⟩
abbrev mJ7_fill_53178 : gM := (yJ7_fill_53178, cJ7_fill_53178, 4, none)
theorem mk_J7_fill_53178 : MOK mJ7_fill_53178 2 := ⟨(tbl_t (List.mem_of_getElem? (i := 784) (by decide +kernel)) rfl), (tbl_t (List.mem_of_getElem? (i := 18) (by decide +kernel)) rfl), ⟨by decide +kernel, by decide +kernel, by decide +kernel⟩, by decide, by decide +kernel⟩
theorem lk_X5_22 : LOK RX5 22 mJ7_fill_53178 := .inl (tbl_t (List.mem_of_getElem? (i := 782) (by decide +kernel)) rfl)
theorem sk_J7_fill_53178 : SOK mJ7_fill_53178 := (tbl_t (List.mem_of_getElem? (i := 783) (by decide +kernel)) rfl)
abbrev mX9_body : gM := (yX9_body, cX9_body, 2, (some .int))
theorem mk_X9_body : MOK mX9_body 1 := ⟨(tbl_t (List.mem_of_getElem? (i := 1278) (by decide +kernel)) rfl), (tbl_t (List.mem_of_getElem? (i := 10) (by decide +kernel)) rfl), ⟨by decide +kernel, by decide +kernel, by decide +kernel⟩, by decide, by decide +kernel⟩
theorem fk_X9_47 : FOK RX9 47 9 17 := ⟨RX9, TX9, 25, rfl, by decide, ix_X9, (.inl (tbl_t (List.mem_of_getElem? (i := 892) (by decide +kernel)) rfl))⟩
abbrev mX8_body : gM := (yX8_body, cX8_body, 2, (some .int))
theorem mk_X8_body : MOK mX8_body 1 := ⟨(tbl_t (List.mem_of_getElem? (i := 770) (by decide +kernel)) rfl), (tbl_t (List.mem_of_getElem? (i := 1) (by decide +kernel)) rfl), ⟨by decide +kernel, by decide +kernel, by decide +kernel⟩, by decide, by decide +kernel⟩
theorem fk_X8_257 : FOK RX8 257 0 0 := ⟨RX0, TX0, 6, rfl, by decide, ix_X0, (.inr ⟨"SoldYear", (nst_in (List.mem_of_getElem? (i := 221) (by decide +kernel)) rfl)⟩)⟩
abbrev mX9_voice : gM := (yX9_voice, cX9_voice, 6, (some .int))
theorem mk_X9_voice : MOK mX9_voice 3 := ⟨(tbl_t (List.mem_of_getElem? (i := 1243) (by decide +kernel)) rfl), (tbl_t (List.mem_of_getElem? (i := 10) (by decide +kernel)) rfl), ⟨by decide +kernel, by decide +kernel, by decide +kernel⟩, by decide, by decide +kernel⟩
abbrev mX9_isThing : gM := (yX9_isThing, cX9_isThing, 2, (some .boolean))
theorem mk_X9_isThing : MOK mX9_isThing 1 := ⟨(tbl_t (List.mem_of_getElem? (i := 1089) (by decide +kernel)) rfl), (tbl_t (List.mem_of_getElem? (i := 10) (by decide +kernel)) rfl), ⟨by decide +kernel, by decide +kernel, by decide +kernel⟩, by decide, by decide +kernel⟩
theorem lk_X9_185 : LOK RX9 185 mX9_isThing := .inl (tbl_t (List.mem_of_getElem? (i := 1086) (by decide +kernel)) rfl)
theorem vk_X9_isThing : VOK mX9_isThing := ⟨(tbl_t (List.mem_of_getElem? (i := 1088) (by decide +kernel)) rfl), (tbl_p (List.mem_of_getElem? (i := 80) (by decide +kernel)) rfl)⟩
theorem fp_X9_219 : FPK RX9 219 9 18 .int := ⟨RX9, TX9, 25, tyX9, rfl, by decide, ix_X9, (.inl (tbl_t (List.mem_of_getElem? (i := 893) (by decide +kernel)) rfl)), tyX9_ok, nmX9, rfl, by decide +kernel⟩
theorem fp_X9_222 : FPK RX9 222 9 19 .int := ⟨RX9, TX9, 25, tyX9, rfl, by decide, ix_X9, (.inl (tbl_t (List.mem_of_getElem? (i := 894) (by decide +kernel)) rfl)), tyX9_ok, nmX9, rfl, by decide +kernel⟩
theorem fp_X9_247 : FPK RX9 247 9 20 .boolean := ⟨RX9, TX9, 25, tyX9, rfl, by decide, ix_X9, (.inl (tbl_t (List.mem_of_getElem? (i := 895) (by decide +kernel)) rfl)), tyX9_ok, nmX9, rfl, by decide +kernel⟩
abbrev mX9_kindNow : gM := (yX9_kindNow, cX9_kindNow, 1, (some .int))
theorem mk_X9_kindNow : MOK mX9_kindNow 0 := ⟨(tbl_t (List.mem_of_getElem? (i := 1247) (by decide +kernel)) rfl), (tbl_t (List.mem_of_getElem? (i := 10) (by decide +kernel)) rfl), ⟨by decide +kernel, by decide +kernel, by decide +kernel⟩, by decide, by decide +kernel⟩
theorem lk_X9_235 : LOK RX9 235 mX9_kindNow := .inl (tbl_t (List.mem_of_getElem? (i := 1244) (by decide +kernel)) rfl)
theorem vk_X9_kindNow : VOK mX9_kindNow := ⟨(tbl_t (List.mem_of_getElem? (i := 1246) (by decide +kernel)) rfl), (tbl_p (List.mem_of_getElem? (i := 98) (by decide +kernel)) rfl)⟩
theorem fk_X9_222 : FOK RX9 222 9 19 := ⟨RX9, TX9, 25, rfl, by decide, ix_X9, (.inl (tbl_t (List.mem_of_getElem? (i := 894) (by decide +kernel)) rfl))⟩
abbrev mX9_datesBy : gM := (yX9_datesBy, cX9_datesBy, 3, (some .int))
theorem mk_X9_datesBy : MOK mX9_datesBy 2 := ⟨(tbl_t (List.mem_of_getElem? (i := 1251) (by decide +kernel)) rfl), (tbl_t (List.mem_of_getElem? (i := 10) (by decide +kernel)) rfl), ⟨by decide +kernel, by decide +kernel, by decide +kernel⟩, by decide, by decide +kernel⟩
theorem lk_X9_232 : LOK RX9 232 mX9_datesBy := .inl (tbl_t (List.mem_of_getElem? (i := 1248) (by decide +kernel)) rfl)
theorem vk_X9_datesBy : VOK mX9_datesBy := ⟨(tbl_t (List.mem_of_getElem? (i := 1250) (by decide +kernel)) rfl), (tbl_p (List.mem_of_getElem? (i := 99) (by decide +kernel)) rfl)⟩
theorem fk_X9_247 : FOK RX9 247 9 20 := ⟨RX9, TX9, 25, rfl, by decide, ix_X9, (.inl (tbl_t (List.mem_of_getElem? (i := 895) (by decide +kernel)) rfl))⟩
abbrev mX9_agesBy : gM := (yX9_agesBy, cX9_agesBy, 3, (some .int))
theorem mk_X9_agesBy : MOK mX9_agesBy 2 := ⟨(tbl_t (List.mem_of_getElem? (i := 1262) (by decide +kernel)) rfl), (tbl_t (List.mem_of_getElem? (i := 10) (by decide +kernel)) rfl), ⟨by decide +kernel, by decide +kernel, by decide +kernel⟩, by decide, by decide +kernel⟩
theorem lk_X9_238 : LOK RX9 238 mX9_agesBy := .inl (tbl_t (List.mem_of_getElem? (i := 1259) (by decide +kernel)) rfl)
theorem vk_X9_agesBy : VOK mX9_agesBy := ⟨(tbl_t (List.mem_of_getElem? (i := 1261) (by decide +kernel)) rfl), (tbl_p (List.mem_of_getElem? (i := 101) (by decide +kernel)) rfl)⟩
abbrev mX9_duesBy : gM := (yX9_duesBy, cX9_duesBy, 3, (some .int))
theorem mk_X9_duesBy : MOK mX9_duesBy 2 := ⟨(tbl_t (List.mem_of_getElem? (i := 1270) (by decide +kernel)) rfl), (tbl_t (List.mem_of_getElem? (i := 10) (by decide +kernel)) rfl), ⟨by decide +kernel, by decide +kernel, by decide +kernel⟩, by decide, by decide +kernel⟩
theorem lk_X9_244 : LOK RX9 244 mX9_duesBy := .inl (tbl_t (List.mem_of_getElem? (i := 1267) (by decide +kernel)) rfl)
theorem vk_X9_duesBy : VOK mX9_duesBy := ⟨(tbl_t (List.mem_of_getElem? (i := 1269) (by decide +kernel)) rfl), (tbl_p (List.mem_of_getElem? (i := 103) (by decide +kernel)) rfl)⟩
abbrev mX9_partsBy : gM := (yX9_partsBy, cX9_partsBy, 5, (some .int))
theorem mk_X9_partsBy : MOK mX9_partsBy 2 := ⟨(tbl_t (List.mem_of_getElem? (i := 1274) (by decide +kernel)) rfl), (tbl_t (List.mem_of_getElem? (i := 10) (by decide +kernel)) rfl), ⟨by decide +kernel, by decide +kernel, by decide +kernel⟩, by decide, by decide +kernel⟩
theorem lk_X9_251 : LOK RX9 251 mX9_partsBy := .inl (tbl_t (List.mem_of_getElem? (i := 1271) (by decide +kernel)) rfl)
theorem vk_X9_partsBy : VOK mX9_partsBy := ⟨(tbl_t (List.mem_of_getElem? (i := 1273) (by decide +kernel)) rfl), (tbl_p (List.mem_of_getElem? (i := 104) (by decide +kernel)) rfl)⟩
abbrev mX9_begins : gM := (yX9_begins, cX9_begins, 2, none)
theorem mk_X9_begins : MOK mX9_begins 1 := ⟨(tbl_t (List.mem_of_getElem? (i := 1255) (by decide +kernel)) rfl), (tbl_t (List.mem_of_getElem? (i := 10) (by decide +kernel)) rfl), ⟨by decide +kernel, by decide +kernel, by decide +kernel⟩, by decide, by decide +kernel⟩
theorem lk_X9_225 : LOK RX9 225 mX9_begins := .inl (tbl_t (List.mem_of_getElem? (i := 1252) (by decide +kernel)) rfl)
theorem vk_X9_begins : VOK mX9_begins := ⟨(tbl_t (List.mem_of_getElem? (i := 1254) (by decide +kernel)) rfl), (tbl_p (List.mem_of_getElem? (i := 100) (by decide +kernel)) rfl)⟩
abbrev mX9_mNow : gM := (yX9_mNow, cX9_mNow, 1, (some .int))
theorem mk_X9_mNow : MOK mX9_mNow 0 := ⟨(tbl_t (List.mem_of_getElem? (i := 1266) (by decide +kernel)) rfl), (tbl_t (List.mem_of_getElem? (i := 10) (by decide +kernel)) rfl), ⟨by decide +kernel, by decide +kernel, by decide +kernel⟩, by decide, by decide +kernel⟩
theorem lk_X9_241 : LOK RX9 241 mX9_mNow := .inl (tbl_t (List.mem_of_getElem? (i := 1263) (by decide +kernel)) rfl)
theorem vk_X9_mNow : VOK mX9_mNow := ⟨(tbl_t (List.mem_of_getElem? (i := 1265) (by decide +kernel)) rfl), (tbl_p (List.mem_of_getElem? (i := 102) (by decide +kernel)) rfl)⟩
abbrev mX9_above : gM := (yX9_above, cX9_above, 1, (some .int))
theorem mk_X9_above : MOK mX9_above 1 := ⟨(tbl_t (List.mem_of_getElem? (i := 1258) (by decide +kernel)) rfl), (tbl_t (List.mem_of_getElem? (i := 10) (by decide +kernel)) rfl), ⟨by decide +kernel, by decide +kernel, by decide +kernel⟩, by decide, by decide +kernel⟩
theorem lk_X9_229 : LOK RX9 229 mX9_above := .inl (tbl_t (List.mem_of_getElem? (i := 1256) (by decide +kernel)) rfl)
theorem sk_X9_above : SOK mX9_above := (tbl_t (List.mem_of_getElem? (i := 1257) (by decide +kernel)) rfl)
abbrev mX8_voice : gM := (yX8_voice, cX8_voice, 5, (some .int))
theorem mk_X8_voice : MOK mX8_voice 3 := ⟨(tbl_t (List.mem_of_getElem? (i := 737) (by decide +kernel)) rfl), (tbl_t (List.mem_of_getElem? (i := 1) (by decide +kernel)) rfl), ⟨by decide +kernel, by decide +kernel, by decide +kernel⟩, by decide, by decide +kernel⟩
abbrev mX8_isThing : gM := (yX8_isThing, cX8_isThing, 2, (some .boolean))
theorem mk_X8_isThing : MOK mX8_isThing 1 := ⟨(tbl_t (List.mem_of_getElem? (i := 381) (by decide +kernel)) rfl), (tbl_t (List.mem_of_getElem? (i := 1) (by decide +kernel)) rfl), ⟨by decide +kernel, by decide +kernel, by decide +kernel⟩, by decide, by decide +kernel⟩
theorem lk_X8_109 : LOK RX8 109 mX8_isThing := .inl (tbl_t (List.mem_of_getElem? (i := 378) (by decide +kernel)) rfl)
theorem vk_X8_isThing : VOK mX8_isThing := ⟨(tbl_t (List.mem_of_getElem? (i := 380) (by decide +kernel)) rfl), (tbl_p (List.mem_of_getElem? (i := 10) (by decide +kernel)) rfl)⟩
abbrev mX0_sing : gM := (yX0_sing, cX0_sing, 5, (some .int))
theorem mk_X0_sing : MOK mX0_sing 4 := ⟨(tbl_t (List.mem_of_getElem? (i := 741) (by decide +kernel)) rfl), (tbl_t (List.mem_of_getElem? (i := 8) (by decide +kernel)) rfl), ⟨by decide +kernel, by decide +kernel, by decide +kernel⟩, by decide, by decide +kernel⟩
theorem lk_X8_247 : LOK RX8 247 mX0_sing := .inr ⟨"SoldYear", (nst_in (List.mem_of_getElem? (i := 738) (by decide +kernel)) rfl)⟩
theorem vk_X0_sing : VOK mX0_sing := ⟨(tbl_t (List.mem_of_getElem? (i := 740) (by decide +kernel)) rfl), (tbl_p (List.mem_of_getElem? (i := 46) (by decide +kernel)) rfl)⟩
theorem ko_4 : KOK 4 RX0 := .inl ⟨0, 6, TX0, 6, rfl, rfl⟩
theorem fk_X8_251 : FOK RX8 251 0 2 := ⟨RX0, TX0, 6, rfl, by decide, ix_X0, (.inr ⟨"SoldYear", (nst_in (List.mem_of_getElem? (i := 225) (by decide +kernel)) rfl)⟩)⟩
theorem fp_X0_15 : FPK RX0 15 0 1 .int := ⟨RX0, TX0, 6, tyX0, rfl, by decide, ix_X0, (.inl (tbl_t (List.mem_of_getElem? (i := 222) (by decide +kernel)) rfl)), tyX0_ok, nmX0, rfl, by decide +kernel⟩
theorem fp_X0_19 : FPK RX0 19 0 2 .boolean := ⟨RX0, TX0, 6, tyX0, rfl, by decide, ix_X0, (.inl (tbl_t (List.mem_of_getElem? (i := 224) (by decide +kernel)) rfl)), tyX0_ok, nmX0, rfl, by decide +kernel⟩
theorem fp_X0_23 : FPK RX0 23 0 3 .int := ⟨RX0, TX0, 6, tyX0, rfl, by decide, ix_X0, (.inl (tbl_t (List.mem_of_getElem? (i := 226) (by decide +kernel)) rfl)), tyX0_ok, nmX0, rfl, by decide +kernel⟩
theorem lk_X0_26 : LOK RX0 26 mX3_fact := .inr ⟨"SoldYear", (nst_in (List.mem_of_getElem? (i := 742) (by decide +kernel)) rfl)⟩
theorem fp_X0_32 : FPK RX0 32 0 4 .int := ⟨RX0, TX0, 6, tyX0, rfl, by decide, ix_X0, (.inl (tbl_t (List.mem_of_getElem? (i := 227) (by decide +kernel)) rfl)), tyX0_ok, nmX0, rfl, by decide +kernel⟩
theorem fp_X0_35 : FPK RX0 35 0 5 .int := ⟨RX0, TX0, 6, tyX0, rfl, by decide, ix_X0, (.inl (tbl_t (List.mem_of_getElem? (i := 228) (by decide +kernel)) rfl)), tyX0_ok, nmX0, rfl, by decide +kernel⟩
theorem fk_X0_32 : FOK RX0 32 0 4 := ⟨RX0, TX0, 6, rfl, by decide, ix_X0, (.inl (tbl_t (List.mem_of_getElem? (i := 227) (by decide +kernel)) rfl))⟩
abbrev mX0_call : gM := (yX0_call, cX0_call, 8, (some .int))
theorem mk_X0_call : MOK mX0_call 4 := ⟨(tbl_t (List.mem_of_getElem? (i := 746) (by decide +kernel)) rfl), (tbl_t (List.mem_of_getElem? (i := 8) (by decide +kernel)) rfl), ⟨by decide +kernel, by decide +kernel, by decide +kernel⟩, by decide, by decide +kernel⟩
theorem lk_X0_38 : LOK RX0 38 mX0_call := .inl (tbl_t (List.mem_of_getElem? (i := 743) (by decide +kernel)) rfl)
theorem vk_X0_call : VOK mX0_call := ⟨(tbl_t (List.mem_of_getElem? (i := 745) (by decide +kernel)) rfl), (tbl_p (List.mem_of_getElem? (i := 47) (by decide +kernel)) rfl)⟩
theorem lk_X0_42 : LOK RX0 42 mX8_isWithin := .inr ⟨"SoldYear", (nst_in (List.mem_of_getElem? (i := 747) (by decide +kernel)) rfl)⟩
theorem gk_X0_46 : Cond.fieldLink RX0 46 "SoldYear" "BODIES" "[I" ∈ tblG ∨ ∃ host, Cond.fieldLinkNest RX0 46 "SoldYear" "BODIES" "[I" host ∈ nstG := .inr ⟨"SoldYear", (nst_in (List.mem_of_getElem? (i := 748) (by decide +kernel)) rfl)⟩
theorem gk_X0_53 : Cond.fieldLink RX0 53 "SoldYear" "ABOVE" "[I" ∈ tblG ∨ ∃ host, Cond.fieldLinkNest RX0 53 "SoldYear" "ABOVE" "[I" host ∈ nstG := .inr ⟨"SoldYear", (nst_in (List.mem_of_getElem? (i := 762) (by decide +kernel)) rfl)⟩
abbrev mX0_work : gM := (yX0_work, cX0_work, 4, (some .int))
theorem mk_X0_work : MOK mX0_work 3 := ⟨(tbl_t (List.mem_of_getElem? (i := 753) (by decide +kernel)) rfl), (tbl_t (List.mem_of_getElem? (i := 8) (by decide +kernel)) rfl), ⟨by decide +kernel, by decide +kernel, by decide +kernel⟩, by decide, by decide +kernel⟩
theorem lk_X0_49 : LOK RX0 49 mX0_work := .inl (tbl_t (List.mem_of_getElem? (i := 750) (by decide +kernel)) rfl)
theorem vk_X0_work : VOK mX0_work := ⟨(tbl_t (List.mem_of_getElem? (i := 752) (by decide +kernel)) rfl), (tbl_p (List.mem_of_getElem? (i := 48) (by decide +kernel)) rfl)⟩
abbrev mX0_note : gM := (yX0_note, cX0_note, 2, none)
theorem mk_X0_note : MOK mX0_note 1 := ⟨(tbl_t (List.mem_of_getElem? (i := 757) (by decide +kernel)) rfl), (tbl_t (List.mem_of_getElem? (i := 8) (by decide +kernel)) rfl), ⟨by decide +kernel, by decide +kernel, by decide +kernel⟩, by decide, by decide +kernel⟩
theorem lk_X0_56 : LOK RX0 56 mX0_note := .inl (tbl_t (List.mem_of_getElem? (i := 754) (by decide +kernel)) rfl)
theorem vk_X0_note : VOK mX0_note := ⟨(tbl_t (List.mem_of_getElem? (i := 756) (by decide +kernel)) rfl), (tbl_p (List.mem_of_getElem? (i := 49) (by decide +kernel)) rfl)⟩
theorem fk_X0_15 : FOK RX0 15 0 1 := ⟨RX0, TX0, 6, rfl, by decide, ix_X0, (.inl (tbl_t (List.mem_of_getElem? (i := 222) (by decide +kernel)) rfl))⟩
theorem fk_X0_9 : FOK RX0 9 0 0 := ⟨RX0, TX0, 6, rfl, by decide, ix_X0, (.inl (tbl_t (List.mem_of_getElem? (i := 220) (by decide +kernel)) rfl))⟩
theorem fk_X0_23 : FOK RX0 23 0 3 := ⟨RX0, TX0, 6, rfl, by decide, ix_X0, (.inl (tbl_t (List.mem_of_getElem? (i := 226) (by decide +kernel)) rfl))⟩
theorem fk_X0_35 : FOK RX0 35 0 5 := ⟨RX0, TX0, 6, rfl, by decide, ix_X0, (.inl (tbl_t (List.mem_of_getElem? (i := 228) (by decide +kernel)) rfl))⟩
abbrev mX0_part : gM := (yX0_part, cX0_part, 3, (some .int))
theorem mk_X0_part : MOK mX0_part 1 := ⟨(tbl_t (List.mem_of_getElem? (i := 761) (by decide +kernel)) rfl), (tbl_t (List.mem_of_getElem? (i := 8) (by decide +kernel)) rfl), ⟨by decide +kernel, by decide +kernel, by decide +kernel⟩, by decide, by decide +kernel⟩
theorem lk_X0_60 : LOK RX0 60 mX0_part := .inl (tbl_t (List.mem_of_getElem? (i := 758) (by decide +kernel)) rfl)
theorem vk_X0_part : VOK mX0_part := ⟨(tbl_t (List.mem_of_getElem? (i := 760) (by decide +kernel)) rfl), (tbl_p (List.mem_of_getElem? (i := 50) (by decide +kernel)) rfl)⟩
abbrev mX0_partAndAge : gM := (yX0_partAndAge, cX0_partAndAge, 4, (some .int))
theorem mk_X0_partAndAge : MOK mX0_partAndAge 2 := ⟨(tbl_t (List.mem_of_getElem? (i := 766) (by decide +kernel)) rfl), (tbl_t (List.mem_of_getElem? (i := 8) (by decide +kernel)) rfl), ⟨by decide +kernel, by decide +kernel, by decide +kernel⟩, by decide, by decide +kernel⟩
theorem lk_X0_64 : LOK RX0 64 mX0_partAndAge := .inl (tbl_t (List.mem_of_getElem? (i := 763) (by decide +kernel)) rfl)
theorem vk_X0_partAndAge : VOK mX0_partAndAge := ⟨(tbl_t (List.mem_of_getElem? (i := 765) (by decide +kernel)) rfl), (tbl_p (List.mem_of_getElem? (i := 51) (by decide +kernel)) rfl)⟩
theorem fk_X0_19 : FOK RX0 19 0 2 := ⟨RX0, TX0, 6, rfl, by decide, ix_X0, (.inl (tbl_t (List.mem_of_getElem? (i := 224) (by decide +kernel)) rfl))⟩
abbrev mX9_least : gM := (yX9_least, cX9_least, 7, (some .int))
theorem mk_X9_least : MOK mX9_least 2 := ⟨(tbl_t (List.mem_of_getElem? (i := 1239) (by decide +kernel)) rfl), (tbl_t (List.mem_of_getElem? (i := 10) (by decide +kernel)) rfl), ⟨by decide +kernel, by decide +kernel, by decide +kernel⟩, by decide, by decide +kernel⟩
abbrev mX9_whyNotSold : gM := (yX9_whyNotSold, cX9_whyNotSold, 5, (some .int))
theorem mk_X9_whyNotSold : MOK mX9_whyNotSold 3 := ⟨(tbl_t (List.mem_of_getElem? (i := 958) (by decide +kernel)) rfl), (tbl_t (List.mem_of_getElem? (i := 10) (by decide +kernel)) rfl), ⟨by decide +kernel, by decide +kernel, by decide +kernel⟩, by decide, by decide +kernel⟩
theorem lk_X9_79 : LOK RX9 79 mX9_whyNotSold := .inl (tbl_t (List.mem_of_getElem? (i := 955) (by decide +kernel)) rfl)
theorem vk_X9_whyNotSold : VOK mX9_whyNotSold := ⟨(tbl_t (List.mem_of_getElem? (i := 957) (by decide +kernel)) rfl), (tbl_p (List.mem_of_getElem? (i := 62) (by decide +kernel)) rfl)⟩
abbrev mX9_breaksBy : gM := (yX9_breaksBy, cX9_breaksBy, 6, (some .int))
theorem mk_X9_breaksBy : MOK mX9_breaksBy 3 := ⟨(tbl_t (List.mem_of_getElem? (i := 1235) (by decide +kernel)) rfl), (tbl_t (List.mem_of_getElem? (i := 10) (by decide +kernel)) rfl), ⟨by decide +kernel, by decide +kernel, by decide +kernel⟩, by decide, by decide +kernel⟩
theorem lk_X9_216 : LOK RX9 216 mX9_breaksBy := .inl (tbl_t (List.mem_of_getElem? (i := 1232) (by decide +kernel)) rfl)
theorem vk_X9_breaksBy : VOK mX9_breaksBy := ⟨(tbl_t (List.mem_of_getElem? (i := 1234) (by decide +kernel)) rfl), (tbl_p (List.mem_of_getElem? (i := 97) (by decide +kernel)) rfl)⟩
theorem fk_X9_44 : FOK RX9 44 9 16 := ⟨RX9, TX9, 25, rfl, by decide, ix_X9, (.inl (tbl_t (List.mem_of_getElem? (i := 891) (by decide +kernel)) rfl))⟩
abbrev mX9_sells : gM := (yX9_sells, cX9_sells, 5, none)
theorem mk_X9_sells : MOK mX9_sells 3 := ⟨(tbl_t (List.mem_of_getElem? (i := 981) (by decide +kernel)) rfl), (tbl_t (List.mem_of_getElem? (i := 10) (by decide +kernel)) rfl), ⟨by decide +kernel, by decide +kernel, by decide +kernel⟩, by decide, by decide +kernel⟩
theorem lk_X9_87 : LOK RX9 87 mX9_sells := .inl (tbl_t (List.mem_of_getElem? (i := 978) (by decide +kernel)) rfl)
theorem vk_X9_sells : VOK mX9_sells := ⟨(tbl_t (List.mem_of_getElem? (i := 980) (by decide +kernel)) rfl), (tbl_p (List.mem_of_getElem? (i := 66) (by decide +kernel)) rfl)⟩
abbrev mX8_least : gM := (yX8_least, cX8_least, 7, (some .int))
theorem mk_X8_least : MOK mX8_least 2 := ⟨(tbl_t (List.mem_of_getElem? (i := 733) (by decide +kernel)) rfl), (tbl_t (List.mem_of_getElem? (i := 1) (by decide +kernel)) rfl), ⟨by decide +kernel, by decide +kernel, by decide +kernel⟩, by decide, by decide +kernel⟩
abbrev mX8_isTrade : gM := (yX8_isTrade, cX8_isTrade, 2, (some .boolean))
theorem mk_X8_isTrade : MOK mX8_isTrade 2 := ⟨(tbl_t (List.mem_of_getElem? (i := 294) (by decide +kernel)) rfl), (tbl_t (List.mem_of_getElem? (i := 1) (by decide +kernel)) rfl), ⟨by decide +kernel, by decide +kernel, by decide +kernel⟩, by decide, by decide +kernel⟩
theorem lk_X8_240 : LOK RX8 240 mX8_isTrade := .inl (tbl_t (List.mem_of_getElem? (i := 292) (by decide +kernel)) rfl)
theorem sk_X8_isTrade : SOK mX8_isTrade := (tbl_t (List.mem_of_getElem? (i := 293) (by decide +kernel)) rfl)
abbrev mX6_isFree : gM := (yX6_isFree, cX6_isFree, 5, (some .boolean))
theorem mk_X6_isFree : MOK mX6_isFree 3 := ⟨(tbl_t (List.mem_of_getElem? (i := 301) (by decide +kernel)) rfl), (tbl_t (List.mem_of_getElem? (i := 3) (by decide +kernel)) rfl), ⟨by decide +kernel, by decide +kernel, by decide +kernel⟩, by decide, by decide +kernel⟩
theorem lk_X8_243 : LOK RX8 243 mX6_isFree := .inr ⟨"SoldYear", (nst_in (List.mem_of_getElem? (i := 298) (by decide +kernel)) rfl)⟩
theorem vk_X6_isFree : VOK mX6_isFree := ⟨(tbl_t (List.mem_of_getElem? (i := 300) (by decide +kernel)) rfl), (tbl_p (List.mem_of_getElem? (i := 1) (by decide +kernel)) rfl)⟩
abbrev mX7_breaksBy : gM := (yX7_breaksBy, cX7_breaksBy, 6, (some .int))
theorem mk_X7_breaksBy : MOK mX7_breaksBy 3 := ⟨(tbl_t (List.mem_of_getElem? (i := 727) (by decide +kernel)) rfl), (tbl_t (List.mem_of_getElem? (i := 2) (by decide +kernel)) rfl), ⟨by decide +kernel, by decide +kernel, by decide +kernel⟩, by decide, by decide +kernel⟩
theorem lk_X8_237 : LOK RX8 237 mX7_breaksBy := .inr ⟨"SoldYear", (nst_in (List.mem_of_getElem? (i := 724) (by decide +kernel)) rfl)⟩
theorem vk_X7_breaksBy : VOK mX7_breaksBy := ⟨(tbl_t (List.mem_of_getElem? (i := 726) (by decide +kernel)) rfl), (tbl_p (List.mem_of_getElem? (i := 45) (by decide +kernel)) rfl)⟩
theorem fk_X7_121 : FOK RX7 121 6 4 := ⟨RX6, TX6, 5, rfl, by decide, ix_X6, (.inr ⟨"SoldYear", (nst_in (List.mem_of_getElem? (i := 48) (by decide +kernel)) rfl)⟩)⟩
theorem fk_X7_53 : FOK RX7 53 7 13 := ⟨RX7, TX7, 14, rfl, by decide, ix_X7, (.inl (tbl_t (List.mem_of_getElem? (i := 154) (by decide +kernel)) rfl))⟩
abbrev mX6_add : gM := (yX6_add, cX6_add, 5, none)
theorem mk_X6_add : MOK mX6_add 3 := ⟨(tbl_t (List.mem_of_getElem? (i := 314) (by decide +kernel)) rfl), (tbl_t (List.mem_of_getElem? (i := 3) (by decide +kernel)) rfl), ⟨by decide +kernel, by decide +kernel, by decide +kernel⟩, by decide, by decide +kernel⟩
theorem lk_X7_122 : LOK RX7 122 mX6_add := .inr ⟨"SoldYear", (nst_in (List.mem_of_getElem? (i := 728) (by decide +kernel)) rfl)⟩
theorem vk_X6_add : VOK mX6_add := ⟨(tbl_t (List.mem_of_getElem? (i := 313) (by decide +kernel)) rfl), (tbl_p (List.mem_of_getElem? (i := 4) (by decide +kernel)) rfl)⟩
abbrev mX6_removeLast : gM := (yX6_removeLast, cX6_removeLast, 3, none)
theorem mk_X6_removeLast : MOK mX6_removeLast 0 := ⟨(tbl_t (List.mem_of_getElem? (i := 326) (by decide +kernel)) rfl), (tbl_t (List.mem_of_getElem? (i := 3) (by decide +kernel)) rfl), ⟨by decide +kernel, by decide +kernel, by decide +kernel⟩, by decide, by decide +kernel⟩
theorem lk_X7_126 : LOK RX7 126 mX6_removeLast := .inr ⟨"SoldYear", (nst_in (List.mem_of_getElem? (i := 729) (by decide +kernel)) rfl)⟩
theorem vk_X6_removeLast : VOK mX6_removeLast := ⟨(tbl_t (List.mem_of_getElem? (i := 325) (by decide +kernel)) rfl), (tbl_p (List.mem_of_getElem? (i := 5) (by decide +kernel)) rfl)⟩
abbrev mX9_breaks : gM := (yX9_breaks, cX9_breaks, 5, (some .int))
theorem mk_X9_breaks : MOK mX9_breaks 3 := ⟨(tbl_t (List.mem_of_getElem? (i := 1231) (by decide +kernel)) rfl), (tbl_t (List.mem_of_getElem? (i := 10) (by decide +kernel)) rfl), ⟨by decide +kernel, by decide +kernel, by decide +kernel⟩, by decide, by decide +kernel⟩
abbrev mX8_breaks : gM := (yX8_breaks, cX8_breaks, 5, (some .int))
theorem mk_X8_breaks : MOK mX8_breaks 3 := ⟨(tbl_t (List.mem_of_getElem? (i := 723) (by decide +kernel)) rfl), (tbl_t (List.mem_of_getElem? (i := 1) (by decide +kernel)) rfl), ⟨by decide +kernel, by decide +kernel, by decide +kernel⟩, by decide, by decide +kernel⟩
abbrev mX8_saleRefusal : gM := (yX8_saleRefusal, cX8_saleRefusal, 4, (some .int))
theorem mk_X8_saleRefusal : MOK mX8_saleRefusal 3 := ⟨(tbl_t (List.mem_of_getElem? (i := 291) (by decide +kernel)) rfl), (tbl_t (List.mem_of_getElem? (i := 1) (by decide +kernel)) rfl), ⟨by decide +kernel, by decide +kernel, by decide +kernel⟩, by decide, by decide +kernel⟩
theorem lk_X8_44 : LOK RX8 44 mX8_saleRefusal := .inl (tbl_t (List.mem_of_getElem? (i := 288) (by decide +kernel)) rfl)
theorem vk_X8_saleRefusal : VOK mX8_saleRefusal := ⟨(tbl_t (List.mem_of_getElem? (i := 290) (by decide +kernel)) rfl), (tbl_p (List.mem_of_getElem? (i := 0) (by decide +kernel)) rfl)⟩
abbrev mX9_claim : gM := (yX9_claim, cX9_claim, 5, (some .int))
theorem mk_X9_claim : MOK mX9_claim 1 := ⟨(tbl_t (List.mem_of_getElem? (i := 1227) (by decide +kernel)) rfl), (tbl_t (List.mem_of_getElem? (i := 10) (by decide +kernel)) rfl), ⟨by decide +kernel, by decide +kernel, by decide +kernel⟩, by decide, by decide +kernel⟩
abbrev mX8_claim : gM := (yX8_claim, cX8_claim, 4, (some .int))
theorem mk_X8_claim : MOK mX8_claim 1 := ⟨(tbl_t (List.mem_of_getElem? (i := 715) (by decide +kernel)) rfl), (tbl_t (List.mem_of_getElem? (i := 1) (by decide +kernel)) rfl), ⟨by decide +kernel, by decide +kernel, by decide +kernel⟩, by decide, by decide +kernel⟩
theorem fk_X8_230 : FOK RX8 230 7 12 := ⟨RX7, TX7, 14, rfl, by decide, ix_X7, (.inr ⟨"SoldYear", (nst_in (List.mem_of_getElem? (i := 153) (by decide +kernel)) rfl)⟩)⟩
abbrev mX7_isCometIn : gM := (yX7_isCometIn, cX7_isCometIn, 4, (some .boolean))
theorem mk_X7_isCometIn : MOK mX7_isCometIn 2 := ⟨(tbl_t (List.mem_of_getElem? (i := 719) (by decide +kernel)) rfl), (tbl_t (List.mem_of_getElem? (i := 2) (by decide +kernel)) rfl), ⟨by decide +kernel, by decide +kernel, by decide +kernel⟩, by decide, by decide +kernel⟩
theorem lk_X8_234 : LOK RX8 234 mX7_isCometIn := .inr ⟨"SoldYear", (nst_in (List.mem_of_getElem? (i := 716) (by decide +kernel)) rfl)⟩
theorem vk_X7_isCometIn : VOK mX7_isCometIn := ⟨(tbl_t (List.mem_of_getElem? (i := 718) (by decide +kernel)) rfl), (tbl_p (List.mem_of_getElem? (i := 44) (by decide +kernel)) rfl)⟩
abbrev mX9_comet : gM := (yX9_comet, cX9_comet, 3, (some .int))
theorem mk_X9_comet : MOK mX9_comet 2 := ⟨(tbl_t (List.mem_of_getElem? (i := 1223) (by decide +kernel)) rfl), (tbl_t (List.mem_of_getElem? (i := 10) (by decide +kernel)) rfl), ⟨by decide +kernel, by decide +kernel, by decide +kernel⟩, by decide, by decide +kernel⟩
abbrev mX9_isDay : gM := (yX9_isDay, cX9_isDay, 1, (some .boolean))
theorem mk_X9_isDay : MOK mX9_isDay 1 := ⟨(tbl_t (List.mem_of_getElem? (i := 1004) (by decide +kernel)) rfl), (tbl_t (List.mem_of_getElem? (i := 10) (by decide +kernel)) rfl), ⟨by decide +kernel, by decide +kernel, by decide +kernel⟩, by decide, by decide +kernel⟩
theorem lk_X9_94 : LOK RX9 94 mX9_isDay := .inl (tbl_t (List.mem_of_getElem? (i := 1002) (by decide +kernel)) rfl)
theorem sk_X9_isDay : SOK mX9_isDay := (tbl_t (List.mem_of_getElem? (i := 1003) (by decide +kernel)) rfl)
theorem ck_X9_67 : Cond.constant RX9 67 72999 ∈ tblG := (tbl_t (List.mem_of_getElem? (i := 1005) (by decide +kernel)) rfl)
abbrev mX8_comet : gM := (yX8_comet, cX8_comet, 3, (some .int))
theorem mk_X8_comet : MOK mX8_comet 2 := ⟨(tbl_t (List.mem_of_getElem? (i := 710) (by decide +kernel)) rfl), (tbl_t (List.mem_of_getElem? (i := 1) (by decide +kernel)) rfl), ⟨by decide +kernel, by decide +kernel, by decide +kernel⟩, by decide, by decide +kernel⟩
theorem ck_X8_86 : Cond.constant RX8 86 73000 ∈ tblG := (tbl_t (List.mem_of_getElem? (i := 339) (by decide +kernel)) rfl)
abbrev mX8_isTerm : gM := (yX8_isTerm, cX8_isTerm, 1, (some .boolean))
theorem mk_X8_isTerm : MOK mX8_isTerm 1 := ⟨(tbl_t (List.mem_of_getElem? (i := 464) (by decide +kernel)) rfl), (tbl_t (List.mem_of_getElem? (i := 1) (by decide +kernel)) rfl), ⟨by decide +kernel, by decide +kernel, by decide +kernel⟩, by decide, by decide +kernel⟩
theorem lk_X8_134 : LOK RX8 134 mX8_isTerm := .inl (tbl_t (List.mem_of_getElem? (i := 462) (by decide +kernel)) rfl)
theorem sk_X8_isTerm : SOK mX8_isTerm := (tbl_t (List.mem_of_getElem? (i := 463) (by decide +kernel)) rfl)
theorem fp_X8_227 : FPK RX8 227 7 11 .int := ⟨RX7, TX7, 14, tyX7, rfl, by decide, ix_X7, (.inr ⟨"SoldYear", (nst_in (List.mem_of_getElem? (i := 151) (by decide +kernel)) rfl)⟩), tyX7_ok, nmX7, rfl, by decide +kernel⟩
theorem fp_X8_230 : FPK RX8 230 7 12 .int := ⟨RX7, TX7, 14, tyX7, rfl, by decide, ix_X7, (.inr ⟨"SoldYear", (nst_in (List.mem_of_getElem? (i := 153) (by decide +kernel)) rfl)⟩), tyX7_ok, nmX7, rfl, by decide +kernel⟩
theorem ck_X8_233 : Cond.constant RX8 233 72999 ∈ tblG := (tbl_t (List.mem_of_getElem? (i := 711) (by decide +kernel)) rfl)
abbrev mX9_seed : gM := (yX9_seed, cX9_seed, 3, (some .int))
theorem mk_X9_seed : MOK mX9_seed 1 := ⟨(tbl_t (List.mem_of_getElem? (i := 1219) (by decide +kernel)) rfl), (tbl_t (List.mem_of_getElem? (i := 10) (by decide +kernel)) rfl), ⟨by decide +kernel, by decide +kernel, by decide +kernel⟩, by decide, by decide +kernel⟩
abbrev mX8_seed : gM := (yX8_seed, cX8_seed, 3, (some .int))
theorem mk_X8_seed : MOK mX8_seed 1 := ⟨(tbl_t (List.mem_of_getElem? (i := 706) (by decide +kernel)) rfl), (tbl_t (List.mem_of_getElem? (i := 1) (by decide +kernel)) rfl), ⟨by decide +kernel, by decide +kernel, by decide +kernel⟩, by decide, by decide +kernel⟩
theorem fp_X8_224 : FPK RX8 224 7 10 .int := ⟨RX7, TX7, 14, tyX7, rfl, by decide, ix_X7, (.inr ⟨"SoldYear", (nst_in (List.mem_of_getElem? (i := 149) (by decide +kernel)) rfl)⟩), tyX7_ok, nmX7, rfl, by decide +kernel⟩
abbrev mX9_clerk : gM := (yX9_clerk, cX9_clerk, 5, (some .int))
theorem mk_X9_clerk : MOK mX9_clerk 0 := ⟨(tbl_t (List.mem_of_getElem? (i := 1210) (by decide +kernel)) rfl), (tbl_t (List.mem_of_getElem? (i := 10) (by decide +kernel)) rfl), ⟨by decide +kernel, by decide +kernel, by decide +kernel⟩, by decide, by decide +kernel⟩
abbrev mX9_draw : gM := (yX9_draw, cX9_draw, 1, (some .int))
theorem mk_X9_draw : MOK mX9_draw 0 := ⟨(tbl_t (List.mem_of_getElem? (i := 1214) (by decide +kernel)) rfl), (tbl_t (List.mem_of_getElem? (i := 10) (by decide +kernel)) rfl), ⟨by decide +kernel, by decide +kernel, by decide +kernel⟩, by decide, by decide +kernel⟩
theorem lk_X9_213 : LOK RX9 213 mX9_draw := .inl (tbl_t (List.mem_of_getElem? (i := 1211) (by decide +kernel)) rfl)
theorem vk_X9_draw : VOK mX9_draw := ⟨(tbl_t (List.mem_of_getElem? (i := 1213) (by decide +kernel)) rfl), (tbl_p (List.mem_of_getElem? (i := 96) (by decide +kernel)) rfl)⟩
theorem ck_X9_212 : Cond.constant RX9 212 1103515245 ∈ tblG := (tbl_t (List.mem_of_getElem? (i := 1215) (by decide +kernel)) rfl)
abbrev mX8_clerk : gM := (yX8_clerk, cX8_clerk, 7, (some .int))
theorem mk_X8_clerk : MOK mX8_clerk 0 := ⟨(tbl_t (List.mem_of_getElem? (i := 696) (by decide +kernel)) rfl), (tbl_t (List.mem_of_getElem? (i := 1) (by decide +kernel)) rfl), ⟨by decide +kernel, by decide +kernel, by decide +kernel⟩, by decide, by decide +kernel⟩
theorem fk_X8_200 : FOK RX8 200 2 0 := ⟨RX2, TX2, 7, rfl, by decide, ix_X2, (.inr ⟨"SoldYear", (nst_in (List.mem_of_getElem? (i := 83) (by decide +kernel)) rfl)⟩)⟩
abbrev mX7_draw : gM := (yX7_draw, cX7_draw, 1, (some .int))
theorem mk_X7_draw : MOK mX7_draw 0 := ⟨(tbl_t (List.mem_of_getElem? (i := 700) (by decide +kernel)) rfl), (tbl_t (List.mem_of_getElem? (i := 2) (by decide +kernel)) rfl), ⟨by decide +kernel, by decide +kernel, by decide +kernel⟩, by decide, by decide +kernel⟩
theorem lk_X8_217 : LOK RX8 217 mX7_draw := .inr ⟨"SoldYear", (nst_in (List.mem_of_getElem? (i := 697) (by decide +kernel)) rfl)⟩
theorem vk_X7_draw : VOK mX7_draw := ⟨(tbl_t (List.mem_of_getElem? (i := 699) (by decide +kernel)) rfl), (tbl_p (List.mem_of_getElem? (i := 43) (by decide +kernel)) rfl)⟩
theorem ck_X7_56 : Cond.constant RX7 56 1103515245 ∈ tblG := (tbl_t (List.mem_of_getElem? (i := 701) (by decide +kernel)) rfl)
theorem lk_X8_221 : LOK RX8 221 mX8_hold := .inl (tbl_t (List.mem_of_getElem? (i := 702) (by decide +kernel)) rfl)
abbrev mX9_span : gM := (yX9_span, cX9_span, 6, (some .int))
theorem mk_X9_span : MOK mX9_span 2 := ⟨(tbl_t (List.mem_of_getElem? (i := 1206) (by decide +kernel)) rfl), (tbl_t (List.mem_of_getElem? (i := 10) (by decide +kernel)) rfl), ⟨by decide +kernel, by decide +kernel, by decide +kernel⟩, by decide, by decide +kernel⟩
abbrev mX9_findRows : gM := (yX9_findRows, cX9_findRows, 5, none)
theorem mk_X9_findRows : MOK mX9_findRows 0 := ⟨(tbl_t (List.mem_of_getElem? (i := 1202) (by decide +kernel)) rfl), (tbl_t (List.mem_of_getElem? (i := 10) (by decide +kernel)) rfl), ⟨by decide +kernel, by decide +kernel, by decide +kernel⟩, by decide, by decide +kernel⟩
theorem lk_X9_209 : LOK RX9 209 mX9_findRows := .inl (tbl_t (List.mem_of_getElem? (i := 1199) (by decide +kernel)) rfl)
theorem vk_X9_findRows : VOK mX9_findRows := ⟨(tbl_t (List.mem_of_getElem? (i := 1201) (by decide +kernel)) rfl), (tbl_p (List.mem_of_getElem? (i := 95) (by decide +kernel)) rfl)⟩
theorem fk_X9_37 : FOK RX9 37 9 14 := ⟨RX9, TX9, 25, rfl, by decide, ix_X9, (.inl (tbl_t (List.mem_of_getElem? (i := 889) (by decide +kernel)) rfl))⟩
theorem fk_X9_41 : FOK RX9 41 9 15 := ⟨RX9, TX9, 25, rfl, by decide, ix_X9, (.inl (tbl_t (List.mem_of_getElem? (i := 890) (by decide +kernel)) rfl))⟩
abbrev mX8_span : gM := (yX8_span, cX8_span, 4, (some .int))
theorem mk_X8_span : MOK mX8_span 2 := ⟨(tbl_t (List.mem_of_getElem? (i := 684) (by decide +kernel)) rfl), (tbl_t (List.mem_of_getElem? (i := 1) (by decide +kernel)) rfl), ⟨by decide +kernel, by decide +kernel, by decide +kernel⟩, by decide, by decide +kernel⟩
abbrev mX8_isPaper : gM := (yX8_isPaper, cX8_isPaper, 2, (some .boolean))
theorem mk_X8_isPaper : MOK mX8_isPaper 1 := ⟨(tbl_t (List.mem_of_getElem? (i := 647) (by decide +kernel)) rfl), (tbl_t (List.mem_of_getElem? (i := 1) (by decide +kernel)) rfl), ⟨by decide +kernel, by decide +kernel, by decide +kernel⟩, by decide, by decide +kernel⟩
theorem lk_X8_193 : LOK RX8 193 mX8_isPaper := .inl (tbl_t (List.mem_of_getElem? (i := 644) (by decide +kernel)) rfl)
theorem vk_X8_isPaper : VOK mX8_isPaper := ⟨(tbl_t (List.mem_of_getElem? (i := 646) (by decide +kernel)) rfl), (tbl_p (List.mem_of_getElem? (i := 36) (by decide +kernel)) rfl)⟩
abbrev mX2_leastOf : gM := (yX2_leastOf, cX2_leastOf, 8, (some .int))
theorem mk_X2_leastOf : MOK mX2_leastOf 2 := ⟨(tbl_t (List.mem_of_getElem? (i := 688) (by decide +kernel)) rfl), (tbl_t (List.mem_of_getElem? (i := 5) (by decide +kernel)) rfl), ⟨by decide +kernel, by decide +kernel, by decide +kernel⟩, by decide, by decide +kernel⟩
theorem lk_X8_211 : LOK RX8 211 mX2_leastOf := .inr ⟨"SoldYear", (nst_in (List.mem_of_getElem? (i := 685) (by decide +kernel)) rfl)⟩
theorem vk_X2_leastOf : VOK mX2_leastOf := ⟨(tbl_t (List.mem_of_getElem? (i := 687) (by decide +kernel)) rfl), (tbl_p (List.mem_of_getElem? (i := 41) (by decide +kernel)) rfl)⟩
abbrev mX2_greatestOf : gM := (yX2_greatestOf, cX2_greatestOf, 7, (some .int))
theorem mk_X2_greatestOf : MOK mX2_greatestOf 2 := ⟨(tbl_t (List.mem_of_getElem? (i := 692) (by decide +kernel)) rfl), (tbl_t (List.mem_of_getElem? (i := 5) (by decide +kernel)) rfl), ⟨by decide +kernel, by decide +kernel, by decide +kernel⟩, by decide, by decide +kernel⟩
theorem lk_X8_214 : LOK RX8 214 mX2_greatestOf := .inr ⟨"SoldYear", (nst_in (List.mem_of_getElem? (i := 689) (by decide +kernel)) rfl)⟩
theorem vk_X2_greatestOf : VOK mX2_greatestOf := ⟨(tbl_t (List.mem_of_getElem? (i := 691) (by decide +kernel)) rfl), (tbl_p (List.mem_of_getElem? (i := 42) (by decide +kernel)) rfl)⟩
abbrev mX2_listDays : gM := (yX2_listDays, cX2_listDays, 6, (some .int))
theorem mk_X2_listDays : MOK mX2_listDays 2 := ⟨(tbl_t (List.mem_of_getElem? (i := 651) (by decide +kernel)) rfl), (tbl_t (List.mem_of_getElem? (i := 5) (by decide +kernel)) rfl), ⟨by decide +kernel, by decide +kernel, by decide +kernel⟩, by decide, by decide +kernel⟩
theorem lk_X2_54 : LOK RX2 54 mX2_listDays := .inl (tbl_t (List.mem_of_getElem? (i := 674) (by decide +kernel)) rfl)
theorem vk_X2_listDays : VOK mX2_listDays := ⟨(tbl_t (List.mem_of_getElem? (i := 650) (by decide +kernel)) rfl), (tbl_p (List.mem_of_getElem? (i := 37) (by decide +kernel)) rfl)⟩
theorem fk_X2_18 : FOK RX2 18 2 3 := ⟨RX2, TX2, 7, rfl, by decide, ix_X2, (.inl (tbl_t (List.mem_of_getElem? (i := 88) (by decide +kernel)) rfl))⟩
theorem zk_X2_35 : NOK RX2 35 := ⟨(tbl_t (List.mem_of_getElem? (i := 652) (by decide +kernel)) rfl), (tbl_t (List.mem_of_getElem? (i := 357) (by decide +kernel)) rfl), (tbl_t (List.mem_of_getElem? (i := 11) (by decide +kernel)) rfl), (tbl_t (List.mem_of_getElem? (i := 358) (by decide +kernel)) rfl)⟩
theorem zk_X2_41 : XOK RX2 41 := ⟨(tbl_t (List.mem_of_getElem? (i := 653) (by decide +kernel)) rfl), (tbl_t (List.mem_of_getElem? (i := 360) (by decide +kernel)) rfl), (tbl_t (List.mem_of_getElem? (i := 11) (by decide +kernel)) rfl), (tbl_t (List.mem_of_getElem? (i := 361) (by decide +kernel)) rfl)⟩
abbrev mX9_rows : gM := (yX9_rows, cX9_rows, 4, (some .long))
theorem mk_X9_rows : MOK mX9_rows 0 := ⟨(tbl_t (List.mem_of_getElem? (i := 1198) (by decide +kernel)) rfl), (tbl_t (List.mem_of_getElem? (i := 10) (by decide +kernel)) rfl), ⟨by decide +kernel, by decide +kernel, by decide +kernel⟩, by decide, by decide +kernel⟩
abbrev mX8_rows : gM := (yX8_rows, cX8_rows, 1, (some .long))
theorem mk_X8_rows : MOK mX8_rows 0 := ⟨(tbl_t (List.mem_of_getElem? (i := 669) (by decide +kernel)) rfl), (tbl_t (List.mem_of_getElem? (i := 1) (by decide +kernel)) rfl), ⟨by decide +kernel, by decide +kernel, by decide +kernel⟩, by decide, by decide +kernel⟩
abbrev mX2_countRows : gM := (yX2_countRows, cX2_countRows, 6, (some .long))
theorem mk_X2_countRows : MOK mX2_countRows 1 := ⟨(tbl_t (List.mem_of_getElem? (i := 673) (by decide +kernel)) rfl), (tbl_t (List.mem_of_getElem? (i := 5) (by decide +kernel)) rfl), ⟨by decide +kernel, by decide +kernel, by decide +kernel⟩, by decide, by decide +kernel⟩
theorem lk_X8_207 : LOK RX8 207 mX2_countRows := .inr ⟨"SoldYear", (nst_in (List.mem_of_getElem? (i := 670) (by decide +kernel)) rfl)⟩
theorem vk_X2_countRows : VOK mX2_countRows := ⟨(tbl_t (List.mem_of_getElem? (i := 672) (by decide +kernel)) rfl), (tbl_p (List.mem_of_getElem? (i := 39) (by decide +kernel)) rfl)⟩
theorem fk_X2_25 : FOK RX2 25 2 5 := ⟨RX2, TX2, 7, rfl, by decide, ix_X2, (.inl (tbl_t (List.mem_of_getElem? (i := 91) (by decide +kernel)) rfl))⟩
theorem fk_X2_28 : FOK RX2 28 2 6 := ⟨RX2, TX2, 7, rfl, by decide, ix_X2, (.inl (tbl_t (List.mem_of_getElem? (i := 92) (by decide +kernel)) rfl))⟩
abbrev mX2_waysBefore : gM := (yX2_waysBefore, cX2_waysBefore, 6, (some .long))
theorem mk_X2_waysBefore : MOK mX2_waysBefore 2 := ⟨(tbl_t (List.mem_of_getElem? (i := 678) (by decide +kernel)) rfl), (tbl_t (List.mem_of_getElem? (i := 5) (by decide +kernel)) rfl), ⟨by decide +kernel, by decide +kernel, by decide +kernel⟩, by decide, by decide +kernel⟩
theorem lk_X2_58 : LOK RX2 58 mX2_waysBefore := .inl (tbl_t (List.mem_of_getElem? (i := 675) (by decide +kernel)) rfl)
theorem vk_X2_waysBefore : VOK mX2_waysBefore := ⟨(tbl_t (List.mem_of_getElem? (i := 677) (by decide +kernel)) rfl), (tbl_p (List.mem_of_getElem? (i := 40) (by decide +kernel)) rfl)⟩
theorem fk_X2_21 : FOK RX2 21 2 4 := ⟨RX2, TX2, 7, rfl, by decide, ix_X2, (.inl (tbl_t (List.mem_of_getElem? (i := 90) (by decide +kernel)) rfl))⟩
abbrev mX9_may : gM := (yX9_may, cX9_may, 3, (some .int))
theorem mk_X9_may : MOK mX9_may 2 := ⟨(tbl_t (List.mem_of_getElem? (i := 1194) (by decide +kernel)) rfl), (tbl_t (List.mem_of_getElem? (i := 10) (by decide +kernel)) rfl), ⟨by decide +kernel, by decide +kernel, by decide +kernel⟩, by decide, by decide +kernel⟩
abbrev mX8_may : gM := (yX8_may, cX8_may, 4, (some .int))
theorem mk_X8_may : MOK mX8_may 2 := ⟨(tbl_t (List.mem_of_getElem? (i := 665) (by decide +kernel)) rfl), (tbl_t (List.mem_of_getElem? (i := 1) (by decide +kernel)) rfl), ⟨by decide +kernel, by decide +kernel, by decide +kernel⟩, by decide, by decide +kernel⟩
theorem lk_X8_196 : LOK RX8 196 mX2_listDays := .inr ⟨"SoldYear", (nst_in (List.mem_of_getElem? (i := 648) (by decide +kernel)) rfl)⟩
theorem fk_X8_204 : FOK RX8 204 2 3 := ⟨RX2, TX2, 7, rfl, by decide, ix_X2, (.inr ⟨"SoldYear", (nst_in (List.mem_of_getElem? (i := 89) (by decide +kernel)) rfl)⟩)⟩
abbrev mX9_burn : gM := (yX9_burn, cX9_burn, 1, (some .int))
theorem mk_X9_burn : MOK mX9_burn 0 := ⟨(tbl_t (List.mem_of_getElem? (i := 1190) (by decide +kernel)) rfl), (tbl_t (List.mem_of_getElem? (i := 10) (by decide +kernel)) rfl), ⟨by decide +kernel, by decide +kernel, by decide +kernel⟩, by decide, by decide +kernel⟩
abbrev mX8_burn : gM := (yX8_burn, cX8_burn, 1, (some .int))
theorem mk_X8_burn : MOK mX8_burn 0 := ⟨(tbl_t (List.mem_of_getElem? (i := 661) (by decide +kernel)) rfl), (tbl_t (List.mem_of_getElem? (i := 1) (by decide +kernel)) rfl), ⟨by decide +kernel, by decide +kernel, by decide +kernel⟩, by decide, by decide +kernel⟩
theorem fp_X8_192 : FPK RX8 192 2 2 .int := ⟨RX2, TX2, 7, tyX2, rfl, by decide, ix_X2, (.inr ⟨"SoldYear", (nst_in (List.mem_of_getElem? (i := 87) (by decide +kernel)) rfl)⟩), tyX2_ok, nmX2, rfl, by decide +kernel⟩
abbrev mX9_paperIs : gM := (yX9_paperIs, cX9_paperIs, 3, (some .int))
theorem mk_X9_paperIs : MOK mX9_paperIs 2 := ⟨(tbl_t (List.mem_of_getElem? (i := 1178) (by decide +kernel)) rfl), (tbl_t (List.mem_of_getElem? (i := 10) (by decide +kernel)) rfl), ⟨by decide +kernel, by decide +kernel, by decide +kernel⟩, by decide, by decide +kernel⟩
abbrev mX8_paperIs : gM := (yX8_paperIs, cX8_paperIs, 3, (some .int))
theorem mk_X8_paperIs : MOK mX8_paperIs 2 := ⟨(tbl_t (List.mem_of_getElem? (i := 643) (by decide +kernel)) rfl), (tbl_t (List.mem_of_getElem? (i := 1) (by decide +kernel)) rfl), ⟨by decide +kernel, by decide +kernel, by decide +kernel⟩, by decide, by decide +kernel⟩
theorem fk_X8_201 : FOK RX8 201 2 1 := ⟨RX2, TX2, 7, rfl, by decide, ix_X2, (.inr ⟨"SoldYear", (nst_in (List.mem_of_getElem? (i := 85) (by decide +kernel)) rfl)⟩)⟩
abbrev mX9_paper : gM := (yX9_paper, cX9_paper, 3, (some .int))
theorem mk_X9_paper : MOK mX9_paper 2 := ⟨(tbl_t (List.mem_of_getElem? (i := 1170) (by decide +kernel)) rfl), (tbl_t (List.mem_of_getElem? (i := 10) (by decide +kernel)) rfl), ⟨by decide +kernel, by decide +kernel, by decide +kernel⟩, by decide, by decide +kernel⟩
abbrev mX8_paper : gM := (yX8_paper, cX8_paper, 4, (some .int))
theorem mk_X8_paper : MOK mX8_paper 2 := ⟨(tbl_t (List.mem_of_getElem? (i := 631) (by decide +kernel)) rfl), (tbl_t (List.mem_of_getElem? (i := 1) (by decide +kernel)) rfl), ⟨by decide +kernel, by decide +kernel, by decide +kernel⟩, by decide, by decide +kernel⟩
abbrev mX9_untell : gM := (yX9_untell, cX9_untell, 3, (some .int))
theorem mk_X9_untell : MOK mX9_untell 1 := ⟨(tbl_t (List.mem_of_getElem? (i := 1073) (by decide +kernel)) rfl), (tbl_t (List.mem_of_getElem? (i := 10) (by decide +kernel)) rfl), ⟨by decide +kernel, by decide +kernel, by decide +kernel⟩, by decide, by decide +kernel⟩
abbrev mX8_untell : gM := (yX8_untell, cX8_untell, 4, (some .int))
theorem mk_X8_untell : MOK mX8_untell 1 := ⟨(tbl_t (List.mem_of_getElem? (i := 627) (by decide +kernel)) rfl), (tbl_t (List.mem_of_getElem? (i := 1) (by decide +kernel)) rfl), ⟨by decide +kernel, by decide +kernel, by decide +kernel⟩, by decide, by decide +kernel⟩
abbrev mX7_lawOf : gM := (yX7_lawOf, cX7_lawOf, 2, (some (.object "SoldYear$Law")))
theorem mk_X7_lawOf : MOK mX7_lawOf 1 := ⟨(tbl_t (List.mem_of_getElem? (i := 617) (by decide +kernel)) rfl), (tbl_t (List.mem_of_getElem? (i := 2) (by decide +kernel)) rfl), ⟨by decide +kernel, by decide +kernel, by decide +kernel⟩, by decide, by decide +kernel⟩
theorem lk_X8_160 : LOK RX8 160 mX7_lawOf := .inr ⟨"SoldYear", (nst_in (List.mem_of_getElem? (i := 614) (by decide +kernel)) rfl)⟩
theorem vk_X7_lawOf : VOK mX7_lawOf := ⟨(tbl_t (List.mem_of_getElem? (i := 616) (by decide +kernel)) rfl), (tbl_p (List.mem_of_getElem? (i := 32) (by decide +kernel)) rfl)⟩
theorem fk_X8_176 : FOK RX8 176 1 3 := ⟨RX1, TX1, 4, rfl, by decide, ix_X1, (.inr ⟨"SoldYear", (nst_in (List.mem_of_getElem? (i := 120) (by decide +kernel)) rfl)⟩)⟩
theorem fp_X8_176 : FPK RX8 176 1 3 .boolean := ⟨RX1, TX1, 4, tyX1, rfl, by decide, ix_X1, (.inr ⟨"SoldYear", (nst_in (List.mem_of_getElem? (i := 120) (by decide +kernel)) rfl)⟩), tyX1_ok, nmX1, rfl, by decide +kernel⟩
abbrev mX9_text : gM := (yX9_text, cX9_text, 5, (some .int))
theorem mk_X9_text : MOK mX9_text 1 := ⟨(tbl_t (List.mem_of_getElem? (i := 1029) (by decide +kernel)) rfl), (tbl_t (List.mem_of_getElem? (i := 10) (by decide +kernel)) rfl), ⟨by decide +kernel, by decide +kernel, by decide +kernel⟩, by decide, by decide +kernel⟩
theorem fp_X9_110 : FPK RX9 110 9 8 .int := ⟨RX9, TX9, 25, tyX9, rfl, by decide, ix_X9, (.inl (tbl_t (List.mem_of_getElem? (i := 883) (by decide +kernel)) rfl)), tyX9_ok, nmX9, rfl, by decide +kernel⟩
theorem fp_X9_106 : FPK RX9 106 9 5 .int := ⟨RX9, TX9, 25, tyX9, rfl, by decide, ix_X9, (.inl (tbl_t (List.mem_of_getElem? (i := 880) (by decide +kernel)) rfl)), tyX9_ok, nmX9, rfl, by decide +kernel⟩
theorem fp_X9_140 : FPK RX9 140 9 6 .int := ⟨RX9, TX9, 25, tyX9, rfl, by decide, ix_X9, (.inl (tbl_t (List.mem_of_getElem? (i := 881) (by decide +kernel)) rfl)), tyX9_ok, nmX9, rfl, by decide +kernel⟩
theorem fp_X9_113 : FPK RX9 113 9 7 .int := ⟨RX9, TX9, 25, tyX9, rfl, by decide, ix_X9, (.inl (tbl_t (List.mem_of_getElem? (i := 882) (by decide +kernel)) rfl)), tyX9_ok, nmX9, rfl, by decide +kernel⟩
abbrev mX9_whole : gM := (yX9_whole, cX9_whole, 1, (some .boolean))
theorem mk_X9_whole : MOK mX9_whole 0 := ⟨(tbl_t (List.mem_of_getElem? (i := 1033) (by decide +kernel)) rfl), (tbl_t (List.mem_of_getElem? (i := 10) (by decide +kernel)) rfl), ⟨by decide +kernel, by decide +kernel, by decide +kernel⟩, by decide, by decide +kernel⟩
theorem lk_X9_149 : LOK RX9 149 mX9_whole := .inl (tbl_t (List.mem_of_getElem? (i := 1030) (by decide +kernel)) rfl)
theorem vk_X9_whole : VOK mX9_whole := ⟨(tbl_t (List.mem_of_getElem? (i := 1032) (by decide +kernel)) rfl), (tbl_p (List.mem_of_getElem? (i := 69) (by decide +kernel)) rfl)⟩
theorem fk_X9_106 : FOK RX9 106 9 5 := ⟨RX9, TX9, 25, rfl, by decide, ix_X9, (.inl (tbl_t (List.mem_of_getElem? (i := 880) (by decide +kernel)) rfl))⟩
theorem fk_X9_113 : FOK RX9 113 9 7 := ⟨RX9, TX9, 25, rfl, by decide, ix_X9, (.inl (tbl_t (List.mem_of_getElem? (i := 882) (by decide +kernel)) rfl))⟩
theorem fk_X9_22 : FOK RX9 22 9 9 := ⟨RX9, TX9, 25, rfl, by decide, ix_X9, (.inl (tbl_t (List.mem_of_getElem? (i := 884) (by decide +kernel)) rfl))⟩
abbrev mX9_both : gM := (yX9_both, cX9_both, 1, (some .boolean))
theorem mk_X9_both : MOK mX9_both 0 := ⟨(tbl_t (List.mem_of_getElem? (i := 1037) (by decide +kernel)) rfl), (tbl_t (List.mem_of_getElem? (i := 10) (by decide +kernel)) rfl), ⟨by decide +kernel, by decide +kernel, by decide +kernel⟩, by decide, by decide +kernel⟩
theorem lk_X9_116 : LOK RX9 116 mX9_both := .inl (tbl_t (List.mem_of_getElem? (i := 1034) (by decide +kernel)) rfl)
theorem vk_X9_both : VOK mX9_both := ⟨(tbl_t (List.mem_of_getElem? (i := 1036) (by decide +kernel)) rfl), (tbl_p (List.mem_of_getElem? (i := 70) (by decide +kernel)) rfl)⟩
abbrev mX9_look : gM := (yX9_look, cX9_look, 1, (some .int))
theorem mk_X9_look : MOK mX9_look 0 := ⟨(tbl_t (List.mem_of_getElem? (i := 1057) (by decide +kernel)) rfl), (tbl_t (List.mem_of_getElem? (i := 10) (by decide +kernel)) rfl), ⟨by decide +kernel, by decide +kernel, by decide +kernel⟩, by decide, by decide +kernel⟩
theorem lk_X9_120 : LOK RX9 120 mX9_look := .inl (tbl_t (List.mem_of_getElem? (i := 1054) (by decide +kernel)) rfl)
theorem vk_X9_look : VOK mX9_look := ⟨(tbl_t (List.mem_of_getElem? (i := 1056) (by decide +kernel)) rfl), (tbl_p (List.mem_of_getElem? (i := 75) (by decide +kernel)) rfl)⟩
abbrev mX9_lays : gM := (yX9_lays, cX9_lays, 3, none)
theorem mk_X9_lays : MOK mX9_lays 2 := ⟨(tbl_t (List.mem_of_getElem? (i := 1065) (by decide +kernel)) rfl), (tbl_t (List.mem_of_getElem? (i := 10) (by decide +kernel)) rfl), ⟨by decide +kernel, by decide +kernel, by decide +kernel⟩, by decide, by decide +kernel⟩
theorem lk_X9_124 : LOK RX9 124 mX9_lays := .inl (tbl_t (List.mem_of_getElem? (i := 1062) (by decide +kernel)) rfl)
theorem vk_X9_lays : VOK mX9_lays := ⟨(tbl_t (List.mem_of_getElem? (i := 1064) (by decide +kernel)) rfl), (tbl_p (List.mem_of_getElem? (i := 77) (by decide +kernel)) rfl)⟩
abbrev mX9_compared : gM := (yX9_compared, cX9_compared, 2, (some .boolean))
theorem mk_X9_compared : MOK mX9_compared 0 := ⟨(tbl_t (List.mem_of_getElem? (i := 1041) (by decide +kernel)) rfl), (tbl_t (List.mem_of_getElem? (i := 10) (by decide +kernel)) rfl), ⟨by decide +kernel, by decide +kernel, by decide +kernel⟩, by decide, by decide +kernel⟩
theorem lk_X9_128 : LOK RX9 128 mX9_compared := .inl (tbl_t (List.mem_of_getElem? (i := 1038) (by decide +kernel)) rfl)
theorem vk_X9_compared : VOK mX9_compared := ⟨(tbl_t (List.mem_of_getElem? (i := 1040) (by decide +kernel)) rfl), (tbl_p (List.mem_of_getElem? (i := 71) (by decide +kernel)) rfl)⟩
abbrev mX9_sum : gM := (yX9_sum, cX9_sum, 2, (some .boolean))
theorem mk_X9_sum : MOK mX9_sum 0 := ⟨(tbl_t (List.mem_of_getElem? (i := 1045) (by decide +kernel)) rfl), (tbl_t (List.mem_of_getElem? (i := 10) (by decide +kernel)) rfl), ⟨by decide +kernel, by decide +kernel, by decide +kernel⟩, by decide, by decide +kernel⟩
theorem lk_X9_131 : LOK RX9 131 mX9_sum := .inl (tbl_t (List.mem_of_getElem? (i := 1042) (by decide +kernel)) rfl)
theorem vk_X9_sum : VOK mX9_sum := ⟨(tbl_t (List.mem_of_getElem? (i := 1044) (by decide +kernel)) rfl), (tbl_p (List.mem_of_getElem? (i := 72) (by decide +kernel)) rfl)⟩
abbrev mX9_product : gM := (yX9_product, cX9_product, 2, (some .boolean))
theorem mk_X9_product : MOK mX9_product 0 := ⟨(tbl_t (List.mem_of_getElem? (i := 1049) (by decide +kernel)) rfl), (tbl_t (List.mem_of_getElem? (i := 10) (by decide +kernel)) rfl), ⟨by decide +kernel, by decide +kernel, by decide +kernel⟩, by decide, by decide +kernel⟩
theorem lk_X9_134 : LOK RX9 134 mX9_product := .inl (tbl_t (List.mem_of_getElem? (i := 1046) (by decide +kernel)) rfl)
theorem vk_X9_product : VOK mX9_product := ⟨(tbl_t (List.mem_of_getElem? (i := 1048) (by decide +kernel)) rfl), (tbl_p (List.mem_of_getElem? (i := 73) (by decide +kernel)) rfl)⟩
abbrev mX9_one : gM := (yX9_one, cX9_one, 4, (some .boolean))
theorem mk_X9_one : MOK mX9_one 0 := ⟨(tbl_t (List.mem_of_getElem? (i := 1053) (by decide +kernel)) rfl), (tbl_t (List.mem_of_getElem? (i := 10) (by decide +kernel)) rfl), ⟨by decide +kernel, by decide +kernel, by decide +kernel⟩, by decide, by decide +kernel⟩
theorem lk_X9_137 : LOK RX9 137 mX9_one := .inl (tbl_t (List.mem_of_getElem? (i := 1050) (by decide +kernel)) rfl)
theorem vk_X9_one : VOK mX9_one := ⟨(tbl_t (List.mem_of_getElem? (i := 1052) (by decide +kernel)) rfl), (tbl_p (List.mem_of_getElem? (i := 74) (by decide +kernel)) rfl)⟩
abbrev mX9_isName : gM := (yX9_isName, cX9_isName, 2, (some .boolean))
theorem mk_X9_isName : MOK mX9_isName 1 := ⟨(tbl_t (List.mem_of_getElem? (i := 1061) (by decide +kernel)) rfl), (tbl_t (List.mem_of_getElem? (i := 10) (by decide +kernel)) rfl), ⟨by decide +kernel, by decide +kernel, by decide +kernel⟩, by decide, by decide +kernel⟩
theorem lk_X9_143 : LOK RX9 143 mX9_isName := .inl (tbl_t (List.mem_of_getElem? (i := 1058) (by decide +kernel)) rfl)
theorem vk_X9_isName : VOK mX9_isName := ⟨(tbl_t (List.mem_of_getElem? (i := 1060) (by decide +kernel)) rfl), (tbl_p (List.mem_of_getElem? (i := 76) (by decide +kernel)) rfl)⟩
abbrev mX9_opens : gM := (yX9_opens, cX9_opens, 1, (some .boolean))
theorem mk_X9_opens : MOK mX9_opens 0 := ⟨(tbl_t (List.mem_of_getElem? (i := 1069) (by decide +kernel)) rfl), (tbl_t (List.mem_of_getElem? (i := 10) (by decide +kernel)) rfl), ⟨by decide +kernel, by decide +kernel, by decide +kernel⟩, by decide, by decide +kernel⟩
theorem lk_X9_146 : LOK RX9 146 mX9_opens := .inl (tbl_t (List.mem_of_getElem? (i := 1066) (by decide +kernel)) rfl)
theorem vk_X9_opens : VOK mX9_opens := ⟨(tbl_t (List.mem_of_getElem? (i := 1068) (by decide +kernel)) rfl), (tbl_p (List.mem_of_getElem? (i := 78) (by decide +kernel)) rfl)⟩
theorem fk_X9_140 : FOK RX9 140 9 6 := ⟨RX9, TX9, 25, rfl, by decide, ix_X9, (.inl (tbl_t (List.mem_of_getElem? (i := 881) (by decide +kernel)) rfl))⟩
theorem fk_X9_110 : FOK RX9 110 9 8 := ⟨RX9, TX9, 25, rfl, by decide, ix_X9, (.inl (tbl_t (List.mem_of_getElem? (i := 883) (by decide +kernel)) rfl))⟩
abbrev mX8_text : gM := (yX8_text, cX8_text, 3, (some .int))
theorem mk_X8_text : MOK mX8_text 1 := ⟨(tbl_t (List.mem_of_getElem? (i := 490) (by decide +kernel)) rfl), (tbl_t (List.mem_of_getElem? (i := 1) (by decide +kernel)) rfl), ⟨by decide +kernel, by decide +kernel, by decide +kernel⟩, by decide, by decide +kernel⟩
theorem fk_X8_22 : FOK RX8 22 8 2 := ⟨RX8, TX8, 7, rfl, by decide, ix_X8, (.inl (tbl_t (List.mem_of_getElem? (i := 264) (by decide +kernel)) rfl))⟩
theorem fk_X8_146 : FOK RX8 146 7 5 := ⟨RX7, TX7, 14, rfl, by decide, ix_X7, (.inr ⟨"SoldYear", (nst_in (List.mem_of_getElem? (i := 139) (by decide +kernel)) rfl)⟩)⟩
abbrev mX4_reads : gM := (yX4_reads, cX4_reads, 4, (some .boolean))
theorem mk_X4_reads : MOK mX4_reads 3 := ⟨(tbl_t (List.mem_of_getElem? (i := 496) (by decide +kernel)) rfl), (tbl_t (List.mem_of_getElem? (i := 7) (by decide +kernel)) rfl), ⟨by decide +kernel, by decide +kernel, by decide +kernel⟩, by decide, by decide +kernel⟩
theorem lk_X8_153 : LOK RX8 153 mX4_reads := .inr ⟨"SoldYear", (nst_in (List.mem_of_getElem? (i := 493) (by decide +kernel)) rfl)⟩
theorem vk_X4_reads : VOK mX4_reads := ⟨(tbl_t (List.mem_of_getElem? (i := 495) (by decide +kernel)) rfl), (tbl_p (List.mem_of_getElem? (i := 24) (by decide +kernel)) rfl)⟩
theorem ko_3 : KOK 3 RX4 := .inl ⟨4, 6, TX4, 6, rfl, rfl⟩
theorem fp_X8_143 : FPK RX8 143 7 6 .int := ⟨RX7, TX7, 14, tyX7, rfl, by decide, ix_X7, (.inr ⟨"SoldYear", (nst_in (List.mem_of_getElem? (i := 141) (by decide +kernel)) rfl)⟩), tyX7_ok, nmX7, rfl, by decide +kernel⟩
theorem ix_X4_w : ∀ w ∈ u_ws RX4 TX4 6, w ∈ tables_1 ∧ goodWord w = true := by decide +kernel
theorem ix_X4 : ∀ w ∈ u_ws RX4 TX4 6, w ∈ tblG := fun w hw => tbl_t (ix_X4_w w hw).1 (ix_X4_w w hw).2
theorem fk_X8_157 : FOK RX8 157 4 4 := ⟨RX4, TX4, 6, rfl, by decide, ix_X4, (.inr ⟨"SoldYear", (nst_in (List.mem_of_getElem? (i := 198) (by decide +kernel)) rfl)⟩)⟩
theorem fk_X8_164 : FOK RX8 164 4 1 := ⟨RX4, TX4, 6, rfl, by decide, ix_X4, (.inr ⟨"SoldYear", (nst_in (List.mem_of_getElem? (i := 193) (by decide +kernel)) rfl)⟩)⟩
theorem fk_X8_167 : FOK RX8 167 4 2 := ⟨RX4, TX4, 6, rfl, by decide, ix_X4, (.inr ⟨"SoldYear", (nst_in (List.mem_of_getElem? (i := 195) (by decide +kernel)) rfl)⟩)⟩
theorem lk_X8_170 : LOK RX8 170 mX1_take := .inr ⟨"SoldYear", (nst_in (List.mem_of_getElem? (i := 618) (by decide +kernel)) rfl)⟩
theorem zk_X4_24 : NOK RX4 24 := ⟨(tbl_t (List.mem_of_getElem? (i := 497) (by decide +kernel)) rfl), (tbl_t (List.mem_of_getElem? (i := 357) (by decide +kernel)) rfl), (tbl_t (List.mem_of_getElem? (i := 11) (by decide +kernel)) rfl), (tbl_t (List.mem_of_getElem? (i := 358) (by decide +kernel)) rfl)⟩
theorem fp_X4_30 : FPK RX4 30 4 3 .int := ⟨RX4, TX4, 6, tyX4, rfl, by decide, ix_X4, (.inl (tbl_t (List.mem_of_getElem? (i := 196) (by decide +kernel)) rfl)), tyX4_ok, nmX4, rfl, by decide +kernel⟩
theorem fk_X4_9 : FOK RX4 9 4 0 := ⟨RX4, TX4, 6, rfl, by decide, ix_X4, (.inl (tbl_t (List.mem_of_getElem? (i := 191) (by decide +kernel)) rfl))⟩
theorem fk_X4_30 : FOK RX4 30 4 3 := ⟨RX4, TX4, 6, rfl, by decide, ix_X4, (.inl (tbl_t (List.mem_of_getElem? (i := 196) (by decide +kernel)) rfl))⟩
theorem ak_X4_34 : AOK RX4 34 := ⟨(tbl_t (List.mem_of_getElem? (i := 498) (by decide +kernel)) rfl), (tbl_t (List.mem_of_getElem? (i := 500) (by decide +kernel)) rfl), (tbl_t (List.mem_of_getElem? (i := 499) (by decide +kernel)) rfl), (tbl_t (List.mem_of_getElem? (i := 12) (by decide +kernel)) rfl)⟩
theorem fp_X4_20 : FPK RX4 20 4 5 (.object "java/lang/String") := ⟨RX4, TX4, 6, tyX4, rfl, by decide, ix_X4, (.inl (tbl_t (List.mem_of_getElem? (i := 199) (by decide +kernel)) rfl)), tyX4_ok, nmX4, rfl, by decide +kernel⟩
theorem fp_X4_40 : FPK RX4 40 4 4 .int := ⟨RX4, TX4, 6, tyX4, rfl, by decide, ix_X4, (.inl (tbl_t (List.mem_of_getElem? (i := 197) (by decide +kernel)) rfl)), tyX4_ok, nmX4, rfl, by decide +kernel⟩
theorem fp_X4_43 : FPK RX4 43 4 2 .int := ⟨RX4, TX4, 6, tyX4, rfl, by decide, ix_X4, (.inl (tbl_t (List.mem_of_getElem? (i := 194) (by decide +kernel)) rfl)), tyX4_ok, nmX4, rfl, by decide +kernel⟩
abbrev mX4_readChain : gM := (yX4_readChain, cX4_readChain, 7, (some .boolean))
theorem mk_X4_readChain : MOK mX4_readChain 2 := ⟨(tbl_t (List.mem_of_getElem? (i := 504) (by decide +kernel)) rfl), (tbl_t (List.mem_of_getElem? (i := 7) (by decide +kernel)) rfl), ⟨by decide +kernel, by decide +kernel, by decide +kernel⟩, by decide, by decide +kernel⟩
theorem lk_X4_46 : LOK RX4 46 mX4_readChain := .inl (tbl_t (List.mem_of_getElem? (i := 501) (by decide +kernel)) rfl)
theorem vk_X4_readChain : VOK mX4_readChain := ⟨(tbl_t (List.mem_of_getElem? (i := 503) (by decide +kernel)) rfl), (tbl_p (List.mem_of_getElem? (i := 25) (by decide +kernel)) rfl)⟩
theorem fk_X4_40 : FOK RX4 40 4 4 := ⟨RX4, TX4, 6, rfl, by decide, ix_X4, (.inl (tbl_t (List.mem_of_getElem? (i := 197) (by decide +kernel)) rfl))⟩
abbrev mX4_readOne : gM := (yX4_readOne, cX4_readOne, 4, (some .boolean))
theorem mk_X4_readOne : MOK mX4_readOne 1 := ⟨(tbl_t (List.mem_of_getElem? (i := 508) (by decide +kernel)) rfl), (tbl_t (List.mem_of_getElem? (i := 7) (by decide +kernel)) rfl), ⟨by decide +kernel, by decide +kernel, by decide +kernel⟩, by decide, by decide +kernel⟩
theorem lk_X4_50 : LOK RX4 50 mX4_readOne := .inl (tbl_t (List.mem_of_getElem? (i := 505) (by decide +kernel)) rfl)
theorem vk_X4_readOne : VOK mX4_readOne := ⟨(tbl_t (List.mem_of_getElem? (i := 507) (by decide +kernel)) rfl), (tbl_p (List.mem_of_getElem? (i := 26) (by decide +kernel)) rfl)⟩
abbrev mX4_isSignOf : gM := (yX4_isSignOf, cX4_isSignOf, 2, (some .boolean))
theorem mk_X4_isSignOf : MOK mX4_isSignOf 1 := ⟨(tbl_t (List.mem_of_getElem? (i := 613) (by decide +kernel)) rfl), (tbl_t (List.mem_of_getElem? (i := 7) (by decide +kernel)) rfl), ⟨by decide +kernel, by decide +kernel, by decide +kernel⟩, by decide, by decide +kernel⟩
theorem lk_X4_54 : LOK RX4 54 mX4_isSignOf := .inl (tbl_t (List.mem_of_getElem? (i := 610) (by decide +kernel)) rfl)
theorem vk_X4_isSignOf : VOK mX4_isSignOf := ⟨(tbl_t (List.mem_of_getElem? (i := 612) (by decide +kernel)) rfl), (tbl_p (List.mem_of_getElem? (i := 31) (by decide +kernel)) rfl)⟩
abbrev mX4_write : gM := (yX4_write, cX4_write, 2, none)
theorem mk_X4_write : MOK mX4_write 1 := ⟨(tbl_t (List.mem_of_getElem? (i := 519) (by decide +kernel)) rfl), (tbl_t (List.mem_of_getElem? (i := 7) (by decide +kernel)) rfl), ⟨by decide +kernel, by decide +kernel, by decide +kernel⟩, by decide, by decide +kernel⟩
theorem lk_X4_57 : LOK RX4 57 mX4_write := .inl (tbl_t (List.mem_of_getElem? (i := 516) (by decide +kernel)) rfl)
theorem vk_X4_write : VOK mX4_write := ⟨(tbl_t (List.mem_of_getElem? (i := 518) (by decide +kernel)) rfl), (tbl_p (List.mem_of_getElem? (i := 28) (by decide +kernel)) rfl)⟩
theorem fk_X4_43 : FOK RX4 43 4 2 := ⟨RX4, TX4, 6, rfl, by decide, ix_X4, (.inl (tbl_t (List.mem_of_getElem? (i := 194) (by decide +kernel)) rfl))⟩
theorem fk_X4_15 : FOK RX4 15 4 1 := ⟨RX4, TX4, 6, rfl, by decide, ix_X4, (.inl (tbl_t (List.mem_of_getElem? (i := 192) (by decide +kernel)) rfl))⟩
abbrev mX4_isDigit : gM := (yX4_isDigit, cX4_isDigit, 1, (some .boolean))
theorem mk_X4_isDigit : MOK mX4_isDigit 1 := ⟨(tbl_t (List.mem_of_getElem? (i := 511) (by decide +kernel)) rfl), (tbl_t (List.mem_of_getElem? (i := 7) (by decide +kernel)) rfl), ⟨by decide +kernel, by decide +kernel, by decide +kernel⟩, by decide, by decide +kernel⟩
theorem lk_X4_61 : LOK RX4 61 mX4_isDigit := .inl (tbl_t (List.mem_of_getElem? (i := 509) (by decide +kernel)) rfl)
theorem sk_X4_isDigit : SOK mX4_isDigit := (tbl_t (List.mem_of_getElem? (i := 510) (by decide +kernel)) rfl)
theorem fk_X4_20 : FOK RX4 20 4 5 := ⟨RX4, TX4, 6, rfl, by decide, ix_X4, (.inl (tbl_t (List.mem_of_getElem? (i := 199) (by decide +kernel)) rfl))⟩
theorem lk_X4_67 : LOK RX4 67 mJ0_indexOf_0f7a4 := .inl (tbl_t (List.mem_of_getElem? (i := 520) (by decide +kernel)) rfl)
theorem vk_J0_indexOf_0f7a4 : VOK mJ0_indexOf_0f7a4 := ⟨(tbl_t (List.mem_of_getElem? (i := 521) (by decide +kernel)) rfl), (tbl_t (List.mem_of_getElem? (i := 522) (by decide +kernel)) rfl)⟩
abbrev mX4_readNot : gM := (yX4_readNot, cX4_readNot, 3, (some .boolean))
theorem mk_X4_readNot : MOK mX4_readNot 1 := ⟨(tbl_t (List.mem_of_getElem? (i := 605) (by decide +kernel)) rfl), (tbl_t (List.mem_of_getElem? (i := 7) (by decide +kernel)) rfl), ⟨by decide +kernel, by decide +kernel, by decide +kernel⟩, by decide, by decide +kernel⟩
theorem lk_X4_73 : LOK RX4 73 mX4_readNot := .inl (tbl_t (List.mem_of_getElem? (i := 602) (by decide +kernel)) rfl)
theorem vk_X4_readNot : VOK mX4_readNot := ⟨(tbl_t (List.mem_of_getElem? (i := 604) (by decide +kernel)) rfl), (tbl_p (List.mem_of_getElem? (i := 29) (by decide +kernel)) rfl)⟩
abbrev mX4_readBrackets : gM := (yX4_readBrackets, cX4_readBrackets, 2, (some .boolean))
theorem mk_X4_readBrackets : MOK mX4_readBrackets 1 := ⟨(tbl_t (List.mem_of_getElem? (i := 609) (by decide +kernel)) rfl), (tbl_t (List.mem_of_getElem? (i := 7) (by decide +kernel)) rfl), ⟨by decide +kernel, by decide +kernel, by decide +kernel⟩, by decide, by decide +kernel⟩
theorem lk_X4_76 : LOK RX4 76 mX4_readBrackets := .inl (tbl_t (List.mem_of_getElem? (i := 606) (by decide +kernel)) rfl)
theorem vk_X4_readBrackets : VOK mX4_readBrackets := ⟨(tbl_t (List.mem_of_getElem? (i := 608) (by decide +kernel)) rfl), (tbl_p (List.mem_of_getElem? (i := 30) (by decide +kernel)) rfl)⟩
abbrev mX4_readNumber : gM := (yX4_readNumber, cX4_readNumber, 3, none)
theorem mk_X4_readNumber : MOK mX4_readNumber 0 := ⟨(tbl_t (List.mem_of_getElem? (i := 515) (by decide +kernel)) rfl), (tbl_t (List.mem_of_getElem? (i := 7) (by decide +kernel)) rfl), ⟨by decide +kernel, by decide +kernel, by decide +kernel⟩, by decide, by decide +kernel⟩
theorem lk_X4_64 : LOK RX4 64 mX4_readNumber := .inl (tbl_t (List.mem_of_getElem? (i := 512) (by decide +kernel)) rfl)
theorem vk_X4_readNumber : VOK mX4_readNumber := ⟨(tbl_t (List.mem_of_getElem? (i := 514) (by decide +kernel)) rfl), (tbl_p (List.mem_of_getElem? (i := 27) (by decide +kernel)) rfl)⟩
abbrev mX9_feed : gM := (yX9_feed, cX9_feed, 5, (some .int))
theorem mk_X9_feed : MOK mX9_feed 2 := ⟨(tbl_t (List.mem_of_getElem? (i := 1024) (by decide +kernel)) rfl), (tbl_t (List.mem_of_getElem? (i := 10) (by decide +kernel)) rfl), ⟨by decide +kernel, by decide +kernel, by decide +kernel⟩, by decide, by decide +kernel⟩
theorem ck_X9_104 : Cond.constantLong RX9 104 255 ∈ tblG := (tbl_t (List.mem_of_getElem? (i := 1025) (by decide +kernel)) rfl)
abbrev mX8_feed : gM := (yX8_feed, cX8_feed, 5, (some .int))
theorem mk_X8_feed : MOK mX8_feed 2 := ⟨(tbl_t (List.mem_of_getElem? (i := 486) (by decide +kernel)) rfl), (tbl_t (List.mem_of_getElem? (i := 1) (by decide +kernel)) rfl), ⟨by decide +kernel, by decide +kernel, by decide +kernel⟩, by decide, by decide +kernel⟩
abbrev mX9_twins : gM := (yX9_twins, cX9_twins, 4, (some .int))
theorem mk_X9_twins : MOK mX9_twins 0 := ⟨(tbl_t (List.mem_of_getElem? (i := 1162) (by decide +kernel)) rfl), (tbl_t (List.mem_of_getElem? (i := 10) (by decide +kernel)) rfl), ⟨by decide +kernel, by decide +kernel, by decide +kernel⟩, by decide, by decide +kernel⟩
abbrev mX9_areTwins : gM := (yX9_areTwins, cX9_areTwins, 6, (some .boolean))
theorem mk_X9_areTwins : MOK mX9_areTwins 2 := ⟨(tbl_t (List.mem_of_getElem? (i := 1166) (by decide +kernel)) rfl), (tbl_t (List.mem_of_getElem? (i := 10) (by decide +kernel)) rfl), ⟨by decide +kernel, by decide +kernel, by decide +kernel⟩, by decide, by decide +kernel⟩
theorem lk_X9_197 : LOK RX9 197 mX9_areTwins := .inl (tbl_t (List.mem_of_getElem? (i := 1163) (by decide +kernel)) rfl)
theorem vk_X9_areTwins : VOK mX9_areTwins := ⟨(tbl_t (List.mem_of_getElem? (i := 1165) (by decide +kernel)) rfl), (tbl_p (List.mem_of_getElem? (i := 91) (by decide +kernel)) rfl)⟩
abbrev mX9_isUnder : gM := (yX9_isUnder, cX9_isUnder, 2, (some .boolean))
theorem mk_X9_isUnder : MOK mX9_isUnder 2 := ⟨(tbl_t (List.mem_of_getElem? (i := 1138) (by decide +kernel)) rfl), (tbl_t (List.mem_of_getElem? (i := 10) (by decide +kernel)) rfl), ⟨by decide +kernel, by decide +kernel, by decide +kernel⟩, by decide, by decide +kernel⟩
theorem lk_X9_191 : LOK RX9 191 mX9_isUnder := .inl (tbl_t (List.mem_of_getElem? (i := 1136) (by decide +kernel)) rfl)
theorem sk_X9_isUnder : SOK mX9_isUnder := (tbl_t (List.mem_of_getElem? (i := 1137) (by decide +kernel)) rfl)
abbrev mX8_twins : gM := (yX8_twins, cX8_twins, 4, (some .int))
theorem mk_X8_twins : MOK mX8_twins 0 := ⟨(tbl_t (List.mem_of_getElem? (i := 476) (by decide +kernel)) rfl), (tbl_t (List.mem_of_getElem? (i := 1) (by decide +kernel)) rfl), ⟨by decide +kernel, by decide +kernel, by decide +kernel⟩, by decide, by decide +kernel⟩
abbrev mX7_areTwins : gM := (yX7_areTwins, cX7_areTwins, 6, (some .boolean))
theorem mk_X7_areTwins : MOK mX7_areTwins 2 := ⟨(tbl_t (List.mem_of_getElem? (i := 480) (by decide +kernel)) rfl), (tbl_t (List.mem_of_getElem? (i := 2) (by decide +kernel)) rfl), ⟨by decide +kernel, by decide +kernel, by decide +kernel⟩, by decide, by decide +kernel⟩
theorem lk_X8_140 : LOK RX8 140 mX7_areTwins := .inr ⟨"SoldYear", (nst_in (List.mem_of_getElem? (i := 477) (by decide +kernel)) rfl)⟩
theorem vk_X7_areTwins : VOK mX7_areTwins := ⟨(tbl_t (List.mem_of_getElem? (i := 479) (by decide +kernel)) rfl), (tbl_p (List.mem_of_getElem? (i := 23) (by decide +kernel)) rfl)⟩
abbrev mX3_isOf : gM := (yX3_isOf, cX3_isOf, 5, (some .boolean))
theorem mk_X3_isOf : MOK mX3_isOf 2 := ⟨(tbl_t (List.mem_of_getElem? (i := 438) (by decide +kernel)) rfl), (tbl_t (List.mem_of_getElem? (i := 4) (by decide +kernel)) rfl), ⟨by decide +kernel, by decide +kernel, by decide +kernel⟩, by decide, by decide +kernel⟩
theorem lk_X7_108 : LOK RX7 108 mX3_isOf := .inr ⟨"SoldYear", (nst_in (List.mem_of_getElem? (i := 481) (by decide +kernel)) rfl)⟩
theorem vk_X3_isOf : VOK mX3_isOf := ⟨(tbl_t (List.mem_of_getElem? (i := 437) (by decide +kernel)) rfl), (tbl_p (List.mem_of_getElem? (i := 20) (by decide +kernel)) rfl)⟩
abbrev mX6_dateOf : gM := (yX6_dateOf, cX6_dateOf, 3, (some .int))
theorem mk_X6_dateOf : MOK mX6_dateOf 2 := ⟨(tbl_t (List.mem_of_getElem? (i := 343) (by decide +kernel)) rfl), (tbl_t (List.mem_of_getElem? (i := 3) (by decide +kernel)) rfl), ⟨by decide +kernel, by decide +kernel, by decide +kernel⟩, by decide, by decide +kernel⟩
theorem lk_X7_112 : LOK RX7 112 mX6_dateOf := .inr ⟨"SoldYear", (nst_in (List.mem_of_getElem? (i := 482) (by decide +kernel)) rfl)⟩
theorem vk_X6_dateOf : VOK mX6_dateOf := ⟨(tbl_t (List.mem_of_getElem? (i := 342) (by decide +kernel)) rfl), (tbl_p (List.mem_of_getElem? (i := 7) (by decide +kernel)) rfl)⟩
theorem lk_X3_23 : LOK RX3 23 mX3_fact := .inl (tbl_t (List.mem_of_getElem? (i := 439) (by decide +kernel)) rfl)
theorem gk_X3_27 : Cond.fieldLink RX3 27 "SoldYear" "ABOVE" "[I" ∈ tblG ∨ ∃ host, Cond.fieldLinkNest RX3 27 "SoldYear" "ABOVE" "[I" host ∈ nstG := .inr ⟨"SoldYear", (nst_in (List.mem_of_getElem? (i := 440) (by decide +kernel)) rfl)⟩
abbrev mX9_where : gM := (yX9_where, cX9_where, 7, (some .int))
theorem mk_X9_where : MOK mX9_where 2 := ⟨(tbl_t (List.mem_of_getElem? (i := 1158) (by decide +kernel)) rfl), (tbl_t (List.mem_of_getElem? (i := 10) (by decide +kernel)) rfl), ⟨by decide +kernel, by decide +kernel, by decide +kernel⟩, by decide, by decide +kernel⟩
abbrev mX9_comesAt : gM := (yX9_comesAt, cX9_comesAt, 8, (some .int))
theorem mk_X9_comesAt : MOK mX9_comesAt 3 := ⟨(tbl_t (List.mem_of_getElem? (i := 1154) (by decide +kernel)) rfl), (tbl_t (List.mem_of_getElem? (i := 10) (by decide +kernel)) rfl), ⟨by decide +kernel, by decide +kernel, by decide +kernel⟩, by decide, by decide +kernel⟩
theorem lk_X9_194 : LOK RX9 194 mX9_comesAt := .inl (tbl_t (List.mem_of_getElem? (i := 1151) (by decide +kernel)) rfl)
theorem vk_X9_comesAt : VOK mX9_comesAt := ⟨(tbl_t (List.mem_of_getElem? (i := 1153) (by decide +kernel)) rfl), (tbl_p (List.mem_of_getElem? (i := 90) (by decide +kernel)) rfl)⟩
abbrev mX8_where : gM := (yX8_where, cX8_where, 7, (some .int))
theorem mk_X8_where : MOK mX8_where 2 := ⟨(tbl_t (List.mem_of_getElem? (i := 472) (by decide +kernel)) rfl), (tbl_t (List.mem_of_getElem? (i := 1) (by decide +kernel)) rfl), ⟨by decide +kernel, by decide +kernel, by decide +kernel⟩, by decide, by decide +kernel⟩
abbrev mX7_dayOfAge : gM := (yX7_dayOfAge, cX7_dayOfAge, 8, (some .int))
theorem mk_X7_dayOfAge : MOK mX7_dayOfAge 3 := ⟨(tbl_t (List.mem_of_getElem? (i := 468) (by decide +kernel)) rfl), (tbl_t (List.mem_of_getElem? (i := 2) (by decide +kernel)) rfl), ⟨by decide +kernel, by decide +kernel, by decide +kernel⟩, by decide, by decide +kernel⟩
theorem lk_X8_137 : LOK RX8 137 mX7_dayOfAge := .inr ⟨"SoldYear", (nst_in (List.mem_of_getElem? (i := 465) (by decide +kernel)) rfl)⟩
theorem vk_X7_dayOfAge : VOK mX7_dayOfAge := ⟨(tbl_t (List.mem_of_getElem? (i := 467) (by decide +kernel)) rfl), (tbl_p (List.mem_of_getElem? (i := 22) (by decide +kernel)) rfl)⟩
abbrev mX9_comes : gM := (yX9_comes, cX9_comes, 5, (some .int))
theorem mk_X9_comes : MOK mX9_comes 3 := ⟨(tbl_t (List.mem_of_getElem? (i := 1150) (by decide +kernel)) rfl), (tbl_t (List.mem_of_getElem? (i := 10) (by decide +kernel)) rfl), ⟨by decide +kernel, by decide +kernel, by decide +kernel⟩, by decide, by decide +kernel⟩
abbrev mX8_comes : gM := (yX8_comes, cX8_comes, 5, (some .int))
theorem mk_X8_comes : MOK mX8_comes 3 := ⟨(tbl_t (List.mem_of_getElem? (i := 461) (by decide +kernel)) rfl), (tbl_t (List.mem_of_getElem? (i := 1) (by decide +kernel)) rfl), ⟨by decide +kernel, by decide +kernel, by decide +kernel⟩, by decide, by decide +kernel⟩
abbrev mX9_age : gM := (yX9_age, cX9_age, 4, (some .int))
theorem mk_X9_age : MOK mX9_age 3 := ⟨(tbl_t (List.mem_of_getElem? (i := 1146) (by decide +kernel)) rfl), (tbl_t (List.mem_of_getElem? (i := 10) (by decide +kernel)) rfl), ⟨by decide +kernel, by decide +kernel, by decide +kernel⟩, by decide, by decide +kernel⟩
abbrev mX8_age : gM := (yX8_age, cX8_age, 4, (some .int))
theorem mk_X8_age : MOK mX8_age 3 := ⟨(tbl_t (List.mem_of_getElem? (i := 456) (by decide +kernel)) rfl), (tbl_t (List.mem_of_getElem? (i := 1) (by decide +kernel)) rfl), ⟨by decide +kernel, by decide +kernel, by decide +kernel⟩, by decide, by decide +kernel⟩
theorem lk_X8_131 : LOK RX8 131 mX7_ageOf := .inr ⟨"SoldYear", (nst_in (List.mem_of_getElem? (i := 457) (by decide +kernel)) rfl)⟩
abbrev mX9_set : gM := (yX9_set, cX9_set, 6, (some .int))
theorem mk_X9_set : MOK mX9_set 3 := ⟨(tbl_t (List.mem_of_getElem? (i := 1142) (by decide +kernel)) rfl), (tbl_t (List.mem_of_getElem? (i := 10) (by decide +kernel)) rfl), ⟨by decide +kernel, by decide +kernel, by decide +kernel⟩, by decide, by decide +kernel⟩
abbrev mX8_set : gM := (yX8_set, cX8_set, 4, (some .int))
theorem mk_X8_set : MOK mX8_set 3 := ⟨(tbl_t (List.mem_of_getElem? (i := 445) (by decide +kernel)) rfl), (tbl_t (List.mem_of_getElem? (i := 1) (by decide +kernel)) rfl), ⟨by decide +kernel, by decide +kernel, by decide +kernel⟩, by decide, by decide +kernel⟩
abbrev mX8_factBound : gM := (yX8_factBound, cX8_factBound, 1, (some .int))
theorem mk_X8_factBound : MOK mX8_factBound 1 := ⟨(tbl_t (List.mem_of_getElem? (i := 448) (by decide +kernel)) rfl), (tbl_t (List.mem_of_getElem? (i := 1) (by decide +kernel)) rfl), ⟨by decide +kernel, by decide +kernel, by decide +kernel⟩, by decide, by decide +kernel⟩
theorem lk_X8_125 : LOK RX8 125 mX8_factBound := .inl (tbl_t (List.mem_of_getElem? (i := 446) (by decide +kernel)) rfl)
theorem sk_X8_factBound : SOK mX8_factBound := (tbl_t (List.mem_of_getElem? (i := 447) (by decide +kernel)) rfl)
abbrev mX3_change : gM := (yX3_change, cX3_change, 6, (some .int))
theorem mk_X3_change : MOK mX3_change 3 := ⟨(tbl_t (List.mem_of_getElem? (i := 452) (by decide +kernel)) rfl), (tbl_t (List.mem_of_getElem? (i := 4) (by decide +kernel)) rfl), ⟨by decide +kernel, by decide +kernel, by decide +kernel⟩, by decide, by decide +kernel⟩
theorem lk_X8_128 : LOK RX8 128 mX3_change := .inr ⟨"SoldYear", (nst_in (List.mem_of_getElem? (i := 449) (by decide +kernel)) rfl)⟩
theorem vk_X3_change : VOK mX3_change := ⟨(tbl_t (List.mem_of_getElem? (i := 451) (by decide +kernel)) rfl), (tbl_p (List.mem_of_getElem? (i := 21) (by decide +kernel)) rfl)⟩
abbrev mX9_as : gM := (yX9_as, cX9_as, 3, (some .int))
theorem mk_X9_as : MOK mX9_as 2 := ⟨(tbl_t (List.mem_of_getElem? (i := 1135) (by decide +kernel)) rfl), (tbl_t (List.mem_of_getElem? (i := 10) (by decide +kernel)) rfl), ⟨by decide +kernel, by decide +kernel, by decide +kernel⟩, by decide, by decide +kernel⟩
abbrev mX8_as : gM := (yX8_as, cX8_as, 3, (some .int))
theorem mk_X8_as : MOK mX8_as 2 := ⟨(tbl_t (List.mem_of_getElem? (i := 434) (by decide +kernel)) rfl), (tbl_t (List.mem_of_getElem? (i := 1) (by decide +kernel)) rfl), ⟨by decide +kernel, by decide +kernel, by decide +kernel⟩, by decide, by decide +kernel⟩
theorem lk_X8_122 : LOK RX8 122 mX3_isOf := .inr ⟨"SoldYear", (nst_in (List.mem_of_getElem? (i := 435) (by decide +kernel)) rfl)⟩
theorem lk_X8_113 : LOK RX8 113 mX3_fact := .inr ⟨"SoldYear", (nst_in (List.mem_of_getElem? (i := 382) (by decide +kernel)) rfl)⟩
abbrev mX9_thingIs : gM := (yX9_thingIs, cX9_thingIs, 3, (some .int))
theorem mk_X9_thingIs : MOK mX9_thingIs 2 := ⟨(tbl_t (List.mem_of_getElem? (i := 1085) (by decide +kernel)) rfl), (tbl_t (List.mem_of_getElem? (i := 10) (by decide +kernel)) rfl), ⟨by decide +kernel, by decide +kernel, by decide +kernel⟩, by decide, by decide +kernel⟩
abbrev mX8_thingIs : gM := (yX8_thingIs, cX8_thingIs, 3, (some .int))
theorem mk_X8_thingIs : MOK mX8_thingIs 2 := ⟨(tbl_t (List.mem_of_getElem? (i := 377) (by decide +kernel)) rfl), (tbl_t (List.mem_of_getElem? (i := 1) (by decide +kernel)) rfl), ⟨by decide +kernel, by decide +kernel, by decide +kernel⟩, by decide, by decide +kernel⟩
theorem lk_X8_116 : LOK RX8 116 mX7_ageNow := .inr ⟨"SoldYear", (nst_in (List.mem_of_getElem? (i := 387) (by decide +kernel)) rfl)⟩
theorem lk_X8_119 : LOK RX8 119 mX7_worthNow := .inr ⟨"SoldYear", (nst_in (List.mem_of_getElem? (i := 426) (by decide +kernel)) rfl)⟩
abbrev mX9_thing : gM := (yX9_thing, cX9_thing, 5, (some .int))
theorem mk_X9_thing : MOK mX9_thing 3 := ⟨(tbl_t (List.mem_of_getElem? (i := 1081) (by decide +kernel)) rfl), (tbl_t (List.mem_of_getElem? (i := 10) (by decide +kernel)) rfl), ⟨by decide +kernel, by decide +kernel, by decide +kernel⟩, by decide, by decide +kernel⟩
abbrev mX8_thing : gM := (yX8_thing, cX8_thing, 4, (some .int))
theorem mk_X8_thing : MOK mX8_thing 3 := ⟨(tbl_t (List.mem_of_getElem? (i := 369) (by decide +kernel)) rfl), (tbl_t (List.mem_of_getElem? (i := 1) (by decide +kernel)) rfl), ⟨by decide +kernel, by decide +kernel, by decide +kernel⟩, by decide, by decide +kernel⟩
abbrev mX3_add : gM := (yX3_add, cX3_add, 5, none)
theorem mk_X3_add : MOK mX3_add 4 := ⟨(tbl_t (List.mem_of_getElem? (i := 373) (by decide +kernel)) rfl), (tbl_t (List.mem_of_getElem? (i := 4) (by decide +kernel)) rfl), ⟨by decide +kernel, by decide +kernel, by decide +kernel⟩, by decide, by decide +kernel⟩
theorem lk_X8_106 : LOK RX8 106 mX3_add := .inr ⟨"SoldYear", (nst_in (List.mem_of_getElem? (i := 370) (by decide +kernel)) rfl)⟩
theorem vk_X3_add : VOK mX3_add := ⟨(tbl_t (List.mem_of_getElem? (i := 372) (by decide +kernel)) rfl), (tbl_p (List.mem_of_getElem? (i := 9) (by decide +kernel)) rfl)⟩
abbrev mX9_pass : gM := (yX9_pass, cX9_pass, 2, (some .int))
theorem mk_X9_pass : MOK mX9_pass 1 := ⟨(tbl_t (List.mem_of_getElem? (i := 1020) (by decide +kernel)) rfl), (tbl_t (List.mem_of_getElem? (i := 10) (by decide +kernel)) rfl), ⟨by decide +kernel, by decide +kernel, by decide +kernel⟩, by decide, by decide +kernel⟩
abbrev mX8_pass : gM := (yX8_pass, cX8_pass, 2, (some .int))
theorem mk_X8_pass : MOK mX8_pass 1 := ⟨(tbl_t (List.mem_of_getElem? (i := 365) (by decide +kernel)) rfl), (tbl_t (List.mem_of_getElem? (i := 1) (by decide +kernel)) rfl), ⟨by decide +kernel, by decide +kernel, by decide +kernel⟩, by decide, by decide +kernel⟩
theorem fp_X8_96 : FPK RX8 96 7 9 .int := ⟨RX7, TX7, 14, tyX7, rfl, by decide, ix_X7, (.inr ⟨"SoldYear", (nst_in (List.mem_of_getElem? (i := 147) (by decide +kernel)) rfl)⟩), tyX7_ok, nmX7, rfl, by decide +kernel⟩
abbrev mX9_day : gM := (yX9_day, cX9_day, 7, (some .int))
theorem mk_X9_day : MOK mX9_day 4 := ⟨(tbl_t (List.mem_of_getElem? (i := 1013) (by decide +kernel)) rfl), (tbl_t (List.mem_of_getElem? (i := 10) (by decide +kernel)) rfl), ⟨by decide +kernel, by decide +kernel, by decide +kernel⟩, by decide, by decide +kernel⟩
abbrev mX8_day : gM := (yX8_day, cX8_day, 6, (some .int))
theorem mk_X8_day : MOK mX8_day 4 := ⟨(tbl_t (List.mem_of_getElem? (i := 348) (by decide +kernel)) rfl), (tbl_t (List.mem_of_getElem? (i := 1) (by decide +kernel)) rfl), ⟨by decide +kernel, by decide +kernel, by decide +kernel⟩, by decide, by decide +kernel⟩
abbrev mX6_yearNamed : gM := (yX6_yearNamed, cX6_yearNamed, 6, (some .int))
theorem mk_X6_yearNamed : MOK mX6_yearNamed 3 := ⟨(tbl_t (List.mem_of_getElem? (i := 355) (by decide +kernel)) rfl), (tbl_t (List.mem_of_getElem? (i := 3) (by decide +kernel)) rfl), ⟨by decide +kernel, by decide +kernel, by decide +kernel⟩, by decide, by decide +kernel⟩
theorem lk_X8_93 : LOK RX8 93 mX6_yearNamed := .inr ⟨"SoldYear", (nst_in (List.mem_of_getElem? (i := 352) (by decide +kernel)) rfl)⟩
theorem vk_X6_yearNamed : VOK mX6_yearNamed := ⟨(tbl_t (List.mem_of_getElem? (i := 354) (by decide +kernel)) rfl), (tbl_p (List.mem_of_getElem? (i := 8) (by decide +kernel)) rfl)⟩
theorem zk_X6_36 : NOK RX6 36 := ⟨(tbl_t (List.mem_of_getElem? (i := 356) (by decide +kernel)) rfl), (tbl_t (List.mem_of_getElem? (i := 357) (by decide +kernel)) rfl), (tbl_t (List.mem_of_getElem? (i := 11) (by decide +kernel)) rfl), (tbl_t (List.mem_of_getElem? (i := 358) (by decide +kernel)) rfl)⟩
theorem zk_X6_41 : XOK RX6 41 := ⟨(tbl_t (List.mem_of_getElem? (i := 359) (by decide +kernel)) rfl), (tbl_t (List.mem_of_getElem? (i := 360) (by decide +kernel)) rfl), (tbl_t (List.mem_of_getElem? (i := 11) (by decide +kernel)) rfl), (tbl_t (List.mem_of_getElem? (i := 361) (by decide +kernel)) rfl)⟩
abbrev mX9_date : gM := (yX9_date, cX9_date, 3, (some .int))
theorem mk_X9_date : MOK mX9_date 2 := ⟨(tbl_t (List.mem_of_getElem? (i := 1001) (by decide +kernel)) rfl), (tbl_t (List.mem_of_getElem? (i := 10) (by decide +kernel)) rfl), ⟨by decide +kernel, by decide +kernel, by decide +kernel⟩, by decide, by decide +kernel⟩
abbrev mX8_date : gM := (yX8_date, cX8_date, 3, (some .int))
theorem mk_X8_date : MOK mX8_date 2 := ⟨(tbl_t (List.mem_of_getElem? (i := 338) (by decide +kernel)) rfl), (tbl_t (List.mem_of_getElem? (i := 1) (by decide +kernel)) rfl), ⟨by decide +kernel, by decide +kernel, by decide +kernel⟩, by decide, by decide +kernel⟩
theorem lk_X8_87 : LOK RX8 87 mX6_dateOf := .inr ⟨"SoldYear", (nst_in (List.mem_of_getElem? (i := 340) (by decide +kernel)) rfl)⟩
abbrev mX9_name : gM := (yX9_name, cX9_name, 3, (some .int))
theorem mk_X9_name : MOK mX9_name 2 := ⟨(tbl_t (List.mem_of_getElem? (i := 993) (by decide +kernel)) rfl), (tbl_t (List.mem_of_getElem? (i := 10) (by decide +kernel)) rfl), ⟨by decide +kernel, by decide +kernel, by decide +kernel⟩, by decide, by decide +kernel⟩
abbrev mX8_name : gM := (yX8_name, cX8_name, 3, (some .int))
theorem mk_X8_name : MOK mX8_name 2 := ⟨(tbl_t (List.mem_of_getElem? (i := 330) (by decide +kernel)) rfl), (tbl_t (List.mem_of_getElem? (i := 1) (by decide +kernel)) rfl), ⟨by decide +kernel, by decide +kernel, by decide +kernel⟩, by decide, by decide +kernel⟩
abbrev mX9_undo : gM := (yX9_undo, cX9_undo, 1, (some .int))
theorem mk_X9_undo : MOK mX9_undo 0 := ⟨(tbl_t (List.mem_of_getElem? (i := 989) (by decide +kernel)) rfl), (tbl_t (List.mem_of_getElem? (i := 10) (by decide +kernel)) rfl), ⟨by decide +kernel, by decide +kernel, by decide +kernel⟩, by decide, by decide +kernel⟩
abbrev mX8_undo : gM := (yX8_undo, cX8_undo, 1, (some .int))
theorem mk_X8_undo : MOK mX8_undo 0 := ⟨(tbl_t (List.mem_of_getElem? (i := 322) (by decide +kernel)) rfl), (tbl_t (List.mem_of_getElem? (i := 1) (by decide +kernel)) rfl), ⟨by decide +kernel, by decide +kernel, by decide +kernel⟩, by decide, by decide +kernel⟩
theorem lk_X8_79 : LOK RX8 79 mX6_removeLast := .inr ⟨"SoldYear", (nst_in (List.mem_of_getElem? (i := 323) (by decide +kernel)) rfl)⟩
abbrev mX9_saleIs : gM := (yX9_saleIs, cX9_saleIs, 3, (some .int))
theorem mk_X9_saleIs : MOK mX9_saleIs 2 := ⟨(tbl_t (List.mem_of_getElem? (i := 985) (by decide +kernel)) rfl), (tbl_t (List.mem_of_getElem? (i := 10) (by decide +kernel)) rfl), ⟨by decide +kernel, by decide +kernel, by decide +kernel⟩, by decide, by decide +kernel⟩
abbrev mX8_saleIs : gM := (yX8_saleIs, cX8_saleIs, 3, (some .int))
theorem mk_X8_saleIs : MOK mX8_saleIs 2 := ⟨(tbl_t (List.mem_of_getElem? (i := 318) (by decide +kernel)) rfl), (tbl_t (List.mem_of_getElem? (i := 1) (by decide +kernel)) rfl), ⟨by decide +kernel, by decide +kernel, by decide +kernel⟩, by decide, by decide +kernel⟩
theorem fk_X8_70 : FOK RX8 70 6 0 := ⟨RX6, TX6, 5, rfl, by decide, ix_X6, (.inr ⟨"SoldYear", (nst_in (List.mem_of_getElem? (i := 40) (by decide +kernel)) rfl)⟩)⟩
theorem fk_X8_73 : FOK RX8 73 6 1 := ⟨RX6, TX6, 5, rfl, by decide, ix_X6, (.inr ⟨"SoldYear", (nst_in (List.mem_of_getElem? (i := 42) (by decide +kernel)) rfl)⟩)⟩
theorem fk_X8_76 : FOK RX8 76 6 2 := ⟨RX6, TX6, 5, rfl, by decide, ix_X6, (.inr ⟨"SoldYear", (nst_in (List.mem_of_getElem? (i := 44) (by decide +kernel)) rfl)⟩)⟩
abbrev mX9_sale : gM := (yX9_sale, cX9_sale, 5, (some .int))
theorem mk_X9_sale : MOK mX9_sale 3 := ⟨(tbl_t (List.mem_of_getElem? (i := 954) (by decide +kernel)) rfl), (tbl_t (List.mem_of_getElem? (i := 10) (by decide +kernel)) rfl), ⟨by decide +kernel, by decide +kernel, by decide +kernel⟩, by decide, by decide +kernel⟩
abbrev mX8_sale : gM := (yX8_sale, cX8_sale, 5, (some .int))
theorem mk_X8_sale : MOK mX8_sale 3 := ⟨(tbl_t (List.mem_of_getElem? (i := 287) (by decide +kernel)) rfl), (tbl_t (List.mem_of_getElem? (i := 1) (by decide +kernel)) rfl), ⟨by decide +kernel, by decide +kernel, by decide +kernel⟩, by decide, by decide +kernel⟩
theorem lk_X8_56 : LOK RX8 56 mX6_add := .inr ⟨"SoldYear", (nst_in (List.mem_of_getElem? (i := 311) (by decide +kernel)) rfl)⟩
