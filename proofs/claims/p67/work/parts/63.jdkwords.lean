/-! ===== the JDK's calls on a StringBuilder: their words; rules over the law's memory ===== -/
set_option maxRecDepth 100000 in
theorem jw_ens : am_jw "java/lang/AbstractStringBuilder" 100 (am_q 11).1 c_JASB_ensureCapacityInternal.1 := ⟨am_Wmem (List.mem_of_getElem? (i := 543) rfl) rfl, am_Wmem (List.mem_of_getElem? (i := 545) rfl) rfl, am_Wmem (List.mem_of_getElem? (i := 1253) rfl) rfl, am_Wmem (List.mem_of_getElem? (i := 46) rfl) rfl⟩
set_option maxRecDepth 100000 in
theorem jw_lat : am_jw "java/lang/AbstractStringBuilder" 83 (am_q 11).1 c_JASB_isLatin1.1 := ⟨am_Wmem (List.mem_of_getElem? (i := 577) rfl) rfl, am_Wmem (List.mem_of_getElem? (i := 578) rfl) rfl, am_Wmem (List.mem_of_getElem? (i := 580) rfl) rfl, am_Wmem (List.mem_of_getElem? (i := 46) rfl) rfl⟩
set_option maxRecDepth 100000 in
theorem jw_put : am_jw "java/lang/AbstractStringBuilder" 208 (am_q 11).1 c_JASB_putStringAt.1 := ⟨am_Wmem (List.mem_of_getElem? (i := 609) rfl) rfl, am_Wmem (List.mem_of_getElem? (i := 611) rfl) rfl, am_Wmem (List.mem_of_getElem? (i := 1257) rfl) rfl, am_Wmem (List.mem_of_getElem? (i := 46) rfl) rfl⟩
set_option maxRecDepth 100000 in
theorem jw_cap : am_jw "java/lang/AbstractStringBuilder" 104 (am_q 11).1 c_JASB_newCapacity.1 := ⟨am_Wmem (List.mem_of_getElem? (i := 547) rfl) rfl, am_Wmem (List.mem_of_getElem? (i := 549) rfl) rfl, am_Wmem (List.mem_of_getElem? (i := 1256) rfl) rfl, am_Wmem (List.mem_of_getElem? (i := 46) rfl) rfl⟩
set_option maxRecDepth 100000 in
theorem jw_inf : am_jw "java/lang/AbstractStringBuilder" 397 (am_q 11).1 c_JASB_inflateIfNeededFor.1 := ⟨am_Wmem (List.mem_of_getElem? (i := 613) rfl) rfl, am_Wmem (List.mem_of_getElem? (i := 615) rfl) rfl, am_Wmem (List.mem_of_getElem? (i := 1255) rfl) rfl, am_Wmem (List.mem_of_getElem? (i := 46) rfl) rfl⟩
set_option maxRecDepth 100000 in
theorem jw_val : am_jw "java/lang/String" 552 (am_q 11).1 c_JASB_getValue.1 := ⟨am_Wmem (List.mem_of_getElem? (i := 704) rfl) rfl, am_Wmem (List.mem_of_getElem? (i := 705) rfl) rfl, am_Wmem (List.mem_of_getElem? (i := 707) rfl) rfl, am_Wmem (List.mem_of_getElem? (i := 46) rfl) rfl⟩
set_option maxRecDepth 100000 in
theorem jw_lat2 : am_jw "java/lang/String" 1047 (am_q 11).1 c_JASB_isLatin1.1 := ⟨am_Wmem (List.mem_of_getElem? (i := 717) rfl) rfl, am_Wmem (List.mem_of_getElem? (i := 578) rfl) rfl, am_Wmem (List.mem_of_getElem? (i := 580) rfl) rfl, am_Wmem (List.mem_of_getElem? (i := 46) rfl) rfl⟩
set_option maxRecDepth 100000 in
theorem jw_s_len_coder : am_jw "java/lang/String" 335 "java/lang/String" c_JString_coder.1 := ⟨am_Wmem (List.mem_of_getElem? (i := 510) rfl) rfl, am_Wmem (List.mem_of_getElem? (i := 511) rfl) rfl, am_Wmem (List.mem_of_getElem? (i := 512) rfl) rfl, am_Wmem (List.mem_of_getElem? (i := 48) rfl) rfl⟩
set_option maxRecDepth 100000 in
theorem jw_s_chr_lat : am_jw "java/lang/String" 492 "java/lang/String" c_JString_isLatin1.1 := ⟨am_Wmem (List.mem_of_getElem? (i := 762) rfl) rfl, am_Wmem (List.mem_of_getElem? (i := 763) rfl) rfl, am_Wmem (List.mem_of_getElem? (i := 764) rfl) rfl, am_Wmem (List.mem_of_getElem? (i := 48) rfl) rfl⟩
set_option maxRecDepth 100000 in
theorem jw_s_gb_coder : am_jw "java/lang/String" 335 "java/lang/String" c_JString_coder.1 := ⟨am_Wmem (List.mem_of_getElem? (i := 510) rfl) rfl, am_Wmem (List.mem_of_getElem? (i := 511) rfl) rfl, am_Wmem (List.mem_of_getElem? (i := 512) rfl) rfl, am_Wmem (List.mem_of_getElem? (i := 48) rfl) rfl⟩
set_option maxRecDepth 100000 in
theorem jw_b_len : am_jw "java/lang/AbstractStringBuilder" 32 "java/lang/String" c_JString_length.1 := ⟨am_Wmem (List.mem_of_getElem? (i := 506) rfl) rfl, am_Wmem (List.mem_of_getElem? (i := 507) rfl) rfl, am_Wmem (List.mem_of_getElem? (i := 508) rfl) rfl, am_Wmem (List.mem_of_getElem? (i := 48) rfl) rfl⟩
set_option maxRecDepth 100000 in
theorem jw_b_coder : am_jw "java/lang/AbstractStringBuilder" 40 "java/lang/String" c_JString_coder.1 := ⟨am_Wmem (List.mem_of_getElem? (i := 518) rfl) rfl, am_Wmem (List.mem_of_getElem? (i := 511) rfl) rfl, am_Wmem (List.mem_of_getElem? (i := 512) rfl) rfl, am_Wmem (List.mem_of_getElem? (i := 48) rfl) rfl⟩
set_option maxRecDepth 100000 in
theorem jw_b_gb : am_jw "java/lang/AbstractStringBuilder" 399 "java/lang/String" c_JString_getBytes.1 := ⟨am_Wmem (List.mem_of_getElem? (i := 636) rfl) rfl, am_Wmem (List.mem_of_getElem? (i := 637) rfl) rfl, am_Wmem (List.mem_of_getElem? (i := 638) rfl) rfl, am_Wmem (List.mem_of_getElem? (i := 48) rfl) rfl⟩
set_option maxRecDepth 100000 in
theorem jw_l_len : am_jw "RankDeskLaw" 8 "java/lang/String" c_JString_length.1 := ⟨am_Wmem (List.mem_of_getElem? (i := 754) rfl) rfl, am_Wmem (List.mem_of_getElem? (i := 507) rfl) rfl, am_Wmem (List.mem_of_getElem? (i := 508) rfl) rfl, am_Wmem (List.mem_of_getElem? (i := 48) rfl) rfl⟩
set_option maxRecDepth 100000 in
theorem jw_l_chr : am_jw "RankDeskLaw" 14 "java/lang/String" c_JString_charAt.1 := ⟨am_Wmem (List.mem_of_getElem? (i := 758) rfl) rfl, am_Wmem (List.mem_of_getElem? (i := 759) rfl) rfl, am_Wmem (List.mem_of_getElem? (i := 760) rfl) rfl, am_Wmem (List.mem_of_getElem? (i := 48) rfl) rfl⟩
set_option maxRecDepth 100000 in
theorem jw_brd : am_jw "java/lang/StringBuilder" 23 (am_q 11).1 c_JSB_append_s.1 := ⟨am_Wmem (List.mem_of_getElem? (i := 532) rfl) rfl, am_Wmem (List.mem_of_getElem? (i := 533) rfl) rfl, am_Wmem (List.mem_of_getElem? (i := 534) rfl) rfl, am_Wmem (List.mem_of_getElem? (i := 47) rfl) rfl⟩
set_option maxRecDepth 100000 in
theorem jw_l_s : am_jw "RankDeskLaw" 70 (am_q 11).1 c_JSB_append_s.1 := ⟨am_Wmem (List.mem_of_getElem? (i := 680) rfl) rfl, am_Wmem (List.mem_of_getElem? (i := 533) rfl) rfl, am_Wmem (List.mem_of_getElem? (i := 534) rfl) rfl, am_Wmem (List.mem_of_getElem? (i := 47) rfl) rfl⟩
set_option maxRecDepth 100000 in
theorem jw_l_i : am_jw "RankDeskLaw" 65 (am_q 11).1 c_JSB_append_i.1 := ⟨am_Wmem (List.mem_of_getElem? (i := 654) rfl) rfl, am_Wmem (List.mem_of_getElem? (i := 655) rfl) rfl, am_Wmem (List.mem_of_getElem? (i := 656) rfl) rfl, am_Wmem (List.mem_of_getElem? (i := 47) rfl) rfl⟩
set_option maxRecDepth 100000 in
theorem jw_l_t : am_jw "RankDeskLaw" 83 (am_q 11).1 c_JSB_toString.1 := ⟨am_Wmem (List.mem_of_getElem? (i := 691) rfl) rfl, am_Wmem (List.mem_of_getElem? (i := 692) rfl) rfl, am_Wmem (List.mem_of_getElem? (i := 693) rfl) rfl, am_Wmem (List.mem_of_getElem? (i := 47) rfl) rfl⟩
set_option maxRecDepth 100000 in
theorem ju_app : Cond.methodLink "java/lang/AbstractStringBuilder" 43 ({ cls := "java/lang/AbstractStringBuilder", name := "append", desc := "(Ljava/lang/String;)Ljava/lang/AbstractStringBuilder;" } : MethodName) ∈ am_W ∧ Cond.sameMethod "java/lang/AbstractStringBuilder" "java/lang/AbstractStringBuilder" "append" "(Ljava/lang/String;)Ljava/lang/AbstractStringBuilder;" ∈ am_W ∧ Cond.selects (am_q 11).1 ({ cls := "java/lang/AbstractStringBuilder", name := "append", desc := "(Ljava/lang/String;)Ljava/lang/AbstractStringBuilder;" } : MethodName) c_JSB_append_b.1.1 ∈ am_W ∧ Cond.instanceMethod c_JSB_append_b.1.1 ∈ am_W ∧ Cond.initialized c_JSB_append_b.1.1.cls ∈ am_W := ⟨am_Wmem (List.mem_of_getElem? (i := 526) rfl) rfl, am_Wmem (List.mem_of_getElem? (i := 528) rfl) rfl, am_Wmem (List.mem_of_getElem? (i := 529) rfl) rfl, am_Wmem (List.mem_of_getElem? (i := 530) rfl) rfl, am_Wmem (List.mem_of_getElem? (i := 47) rfl) rfl⟩
set_option maxRecDepth 100000 in
theorem jy_app : Cond.instanceMethod ⟨"java/lang/AbstractStringBuilder", "append", "(Ljava/lang/String;)Ljava/lang/AbstractStringBuilder;"⟩ ∈ am_W ∧ ∃ by0 ml0 rt0, Cond.code ⟨"java/lang/AbstractStringBuilder", "append", "(Ljava/lang/String;)Ljava/lang/AbstractStringBuilder;"⟩ by0 ml0 rt0 ∈ am_W := ⟨am_Wmem (List.mem_of_getElem? (i := 527) rfl) rfl, _, _, _, am_Wmem (List.mem_of_getElem? (i := 538) rfl) rfl⟩
set_option maxRecDepth 100000 in
theorem ju_len : Cond.methodLink "java/lang/String" 549 ({ cls := "java/lang/AbstractStringBuilder", name := "length", desc := "()I" } : MethodName) ∈ am_W ∧ Cond.sameMethod "java/lang/AbstractStringBuilder" "java/lang/AbstractStringBuilder" "length" "()I" ∈ am_W ∧ Cond.selects (am_q 11).1 ({ cls := "java/lang/AbstractStringBuilder", name := "length", desc := "()I" } : MethodName) c_JSB_length.1.1 ∈ am_W ∧ Cond.instanceMethod c_JSB_length.1.1 ∈ am_W ∧ Cond.initialized c_JSB_length.1.1.cls ∈ am_W := ⟨am_Wmem (List.mem_of_getElem? (i := 709) rfl) rfl, am_Wmem (List.mem_of_getElem? (i := 711) rfl) rfl, am_Wmem (List.mem_of_getElem? (i := 712) rfl) rfl, am_Wmem (List.mem_of_getElem? (i := 713) rfl) rfl, am_Wmem (List.mem_of_getElem? (i := 47) rfl) rfl⟩
set_option maxRecDepth 100000 in
theorem jy_len : Cond.instanceMethod ⟨"java/lang/AbstractStringBuilder", "length", "()I"⟩ ∈ am_W ∧ ∃ by0 ml0 rt0, Cond.code ⟨"java/lang/AbstractStringBuilder", "length", "()I"⟩ by0 ml0 rt0 ∈ am_W := ⟨am_Wmem (List.mem_of_getElem? (i := 710) rfl) rfl, _, _, _, am_Wmem (List.mem_of_getElem? (i := 716) rfl) rfl⟩
set_option maxRecDepth 100000 in
theorem jp_apps : Cond.methodLink "java/lang/StringBuilder" 29 c_JASB_append_s.1.1 ∈ am_W ∧ Cond.sameMethod c_JASB_append_s.1.1.cls c_JASB_append_s.1.1.cls c_JASB_append_s.1.1.name c_JASB_append_s.1.1.desc ∈ am_W ∧ Cond.superclass "java/lang/StringBuilder" c_JASB_append_s.1.1.cls ∈ am_W ∧ Cond.instanceMethod c_JASB_append_s.1.1 ∈ am_W ∧ Cond.initialized c_JASB_append_s.1.1.cls ∈ am_W := ⟨am_Wmem (List.mem_of_getElem? (i := 536) rfl) rfl, am_Wmem (List.mem_of_getElem? (i := 528) rfl) rfl, am_Wmem (List.mem_of_getElem? (i := 537) rfl) rfl, am_Wmem (List.mem_of_getElem? (i := 527) rfl) rfl, am_Wmem (List.mem_of_getElem? (i := 46) rfl) rfl⟩
set_option maxRecDepth 100000 in
theorem jp_appi : Cond.methodLink "java/lang/StringBuilder" 53 c_JASB_append_i.1.1 ∈ am_W ∧ Cond.sameMethod c_JASB_append_i.1.1.cls c_JASB_append_i.1.1.cls c_JASB_append_i.1.1.name c_JASB_append_i.1.1.desc ∈ am_W ∧ Cond.superclass "java/lang/StringBuilder" c_JASB_append_i.1.1.cls ∈ am_W ∧ Cond.instanceMethod c_JASB_append_i.1.1 ∈ am_W ∧ Cond.initialized c_JASB_append_i.1.1.cls ∈ am_W := ⟨am_Wmem (List.mem_of_getElem? (i := 658) rfl) rfl, am_Wmem (List.mem_of_getElem? (i := 1251) rfl) rfl, am_Wmem (List.mem_of_getElem? (i := 537) rfl) rfl, am_Wmem (List.mem_of_getElem? (i := 659) rfl) rfl, am_Wmem (List.mem_of_getElem? (i := 46) rfl) rfl⟩
set_option maxRecDepth 100000 in
theorem jp_len : Cond.methodLink "java/lang/StringBuilder" 343 c_JASB_length.1.1 ∈ am_W ∧ Cond.sameMethod c_JASB_length.1.1.cls c_JASB_length.1.1.cls c_JASB_length.1.1.name c_JASB_length.1.1.desc ∈ am_W ∧ Cond.superclass "java/lang/StringBuilder" c_JASB_length.1.1.cls ∈ am_W ∧ Cond.instanceMethod c_JASB_length.1.1 ∈ am_W ∧ Cond.initialized c_JASB_length.1.1.cls ∈ am_W := ⟨am_Wmem (List.mem_of_getElem? (i := 715) rfl) rfl, am_Wmem (List.mem_of_getElem? (i := 711) rfl) rfl, am_Wmem (List.mem_of_getElem? (i := 537) rfl) rfl, am_Wmem (List.mem_of_getElem? (i := 710) rfl) rfl, am_Wmem (List.mem_of_getElem? (i := 46) rfl) rfl⟩
set_option maxRecDepth 100000 in
theorem jn_nat : Cond.native arraycopyName ∈ am_W := am_Wmem (List.mem_of_getElem? (i := 576) rfl) rfl
set_option maxRecDepth 100000 in
theorem jn_sta : Cond.static arraycopyName ∈ am_W := am_Wmem (List.mem_of_getElem? (i := 575) rfl) rfl
set_option maxRecDepth 100000 in
theorem jn_ini : Cond.initialized "java/lang/System" ∈ am_W := am_Wmem (List.mem_of_getElem? (i := 53) rfl) rfl
set_option maxRecDepth 100000 in
theorem jn_arr : Cond.methodLink "java/util/Arrays" 150 arraycopyName ∈ am_W := am_Wmem (List.mem_of_getElem? (i := 574) rfl) rfl
set_option maxRecDepth 100000 in
theorem jn_str : Cond.methodLink "java/lang/String" 212 arraycopyName ∈ am_W := am_Wmem (List.mem_of_getElem? (i := 640) rfl) rfl
set_option maxRecDepth 100000 in
theorem jn_cl : Cond.methodLink "java/util/Arrays" 310 ⟨"[B", "clone", "()Ljava/lang/Object;"⟩ ∈ am_W ∧ Cond.sameMethod "[B" "java/lang/Object" "clone" "()Ljava/lang/Object;" ∈ am_W ∧ Cond.native ⟨"java/lang/Object", "clone", "()Ljava/lang/Object;"⟩ ∈ am_W ∧ Cond.instanceMethod ⟨"java/lang/Object", "clone", "()Ljava/lang/Object;"⟩ ∈ am_W ∧ Cond.selects "[B" ⟨"[B", "clone", "()Ljava/lang/Object;"⟩ ⟨"java/lang/Object", "clone", "()Ljava/lang/Object;"⟩ ∈ am_W ∧ Cond.classLink "java/util/Arrays" 311 "[B" ∈ am_W := ⟨am_Wmem (List.mem_of_getElem? (i := 564) rfl) rfl, am_Wmem (List.mem_of_getElem? (i := 565) rfl) rfl, am_Wmem (List.mem_of_getElem? (i := 566) rfl) rfl, am_Wmem (List.mem_of_getElem? (i := 567) rfl) rfl, am_Wmem (List.mem_of_getElem? (i := 568) rfl) rfl, am_Wmem (List.mem_of_getElem? (i := 570) rfl) rfl⟩
set_option maxRecDepth 100000 in
theorem jn_cc : Cond.castable "[B" "java/lang/Cloneable" ∈ am_N := am_Nmem (List.mem_of_getElem? (i := 569) rfl) rfl
set_option maxRecDepth 100000 in
theorem jf_cs : Cond.fieldLink "java/lang/AbstractStringBuilder" 18 "java/lang/String" "COMPACT_STRINGS" "Z" ∈ am_W := am_Wmem (List.mem_of_getElem? (i := 582) rfl) rfl
set_option maxRecDepth 100000 in
theorem jf_css : Cond.fieldLink "java/lang/String" 38 "java/lang/String" "COMPACT_STRINGS" "Z" ∈ am_W := am_Wmem (List.mem_of_getElem? (i := 514) rfl) rfl
set_option maxRecDepth 100000 in
theorem jf_dgO : Cond.fieldLink "java/lang/Integer" 83 "java/lang/Integer" "DigitOnes" "[B" ∈ am_W := am_Wmem (List.mem_of_getElem? (i := 667) rfl) rfl
set_option maxRecDepth 100000 in
theorem jf_dgT : Cond.fieldLink "java/lang/Integer" 87 "java/lang/Integer" "DigitTens" "[B" ∈ am_W := am_Wmem (List.mem_of_getElem? (i := 669) rfl) rfl
set_option maxRecDepth 100000 in
theorem jf_prm : Cond.fieldLink "RankDeskLaw" 40 "RankDeskLaw" "PRIMES" "[I" ∈ am_W := am_Wmem (List.mem_of_getElem? (i := 491) rfl) rfl
set_option maxRecDepth 100000 in
theorem jf_val : Cond.fieldLink "java/lang/String" 9 "java/lang/String" "value" "[B" ∈ am_W := am_Wmem (List.mem_of_getElem? (i := 740) rfl) rfl
set_option maxRecDepth 100000 in
theorem jf_cod : Cond.fieldLink "java/lang/String" 15 "java/lang/String" "coder" "B" ∈ am_W := am_Wmem (List.mem_of_getElem? (i := 741) rfl) rfl
