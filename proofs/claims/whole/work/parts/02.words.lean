/-! the words of the tables that every method of this claim is given -/
def sg_W0 : List Cond := lw_tbl.filter goodWord
def sg_nest : Cond → Bool
  | .fieldLinkNest .. => true
  | .methodLinkNest .. => true
  | .arrayOver (.object _) => true
  | .castable .. => true
  | .declares _ => true
  | _ => false
def sg_WN : List Cond := tables_1.filter sg_nest
theorem sg_W0_ok : GoodIn lw_tbl sg_W0 := fun w h => ⟨(List.mem_filter.mp h).1, good_of_word (List.mem_filter.mp h).2⟩
theorem sg_mp {w : Cond} (h : w ∈ k2_sels lw_privs) (hg : goodWord w = true) : w ∈ sg_W0 := List.mem_filter.mpr ⟨List.mem_append_left _ h, hg⟩
theorem sg_mt1 {w : Cond} (h : w ∈ tables_1_1) : w ∈ tables_1 := List.mem_append_left _ h
theorem sg_m1 {w : Cond} (h : w ∈ tables_1_1) (hg : goodWord w = true) : w ∈ sg_W0 := List.mem_filter.mpr ⟨List.mem_append_right _ (sg_mt1 h), hg⟩
theorem sg_n1 {w : Cond} (h : w ∈ tables_1_1) (hg : sg_nest w = true) : w ∈ sg_WN := List.mem_filter.mpr ⟨sg_mt1 h, hg⟩
theorem sg_mt2 {w : Cond} (h : w ∈ tables_1_2) : w ∈ tables_1 := List.mem_append_right _ (List.mem_append_left _ h)
theorem sg_m2 {w : Cond} (h : w ∈ tables_1_2) (hg : goodWord w = true) : w ∈ sg_W0 := List.mem_filter.mpr ⟨List.mem_append_right _ (sg_mt2 h), hg⟩
theorem sg_n2 {w : Cond} (h : w ∈ tables_1_2) (hg : sg_nest w = true) : w ∈ sg_WN := List.mem_filter.mpr ⟨sg_mt2 h, hg⟩
theorem sg_mt3 {w : Cond} (h : w ∈ tables_1_3) : w ∈ tables_1 := List.mem_append_right _ (List.mem_append_right _ (List.mem_append_left _ h))
theorem sg_m3 {w : Cond} (h : w ∈ tables_1_3) (hg : goodWord w = true) : w ∈ sg_W0 := List.mem_filter.mpr ⟨List.mem_append_right _ (sg_mt3 h), hg⟩
theorem sg_n3 {w : Cond} (h : w ∈ tables_1_3) (hg : sg_nest w = true) : w ∈ sg_WN := List.mem_filter.mpr ⟨sg_mt3 h, hg⟩
theorem sg_mt4 {w : Cond} (h : w ∈ tables_1_4) : w ∈ tables_1 := List.mem_append_right _ (List.mem_append_right _ (List.mem_append_right _ (List.mem_append_left _ h)))
theorem sg_m4 {w : Cond} (h : w ∈ tables_1_4) (hg : goodWord w = true) : w ∈ sg_W0 := List.mem_filter.mpr ⟨List.mem_append_right _ (sg_mt4 h), hg⟩
theorem sg_n4 {w : Cond} (h : w ∈ tables_1_4) (hg : sg_nest w = true) : w ∈ sg_WN := List.mem_filter.mpr ⟨sg_mt4 h, hg⟩
theorem sg_mt5 {w : Cond} (h : w ∈ tables_1_5) : w ∈ tables_1 := List.mem_append_right _ (List.mem_append_right _ (List.mem_append_right _ (List.mem_append_right _ (List.mem_append_left _ h))))
theorem sg_m5 {w : Cond} (h : w ∈ tables_1_5) (hg : goodWord w = true) : w ∈ sg_W0 := List.mem_filter.mpr ⟨List.mem_append_right _ (sg_mt5 h), hg⟩
theorem sg_n5 {w : Cond} (h : w ∈ tables_1_5) (hg : sg_nest w = true) : w ∈ sg_WN := List.mem_filter.mpr ⟨sg_mt5 h, hg⟩
theorem sg_mt6 {w : Cond} (h : w ∈ tables_1_6) : w ∈ tables_1 := List.mem_append_right _ (List.mem_append_right _ (List.mem_append_right _ (List.mem_append_right _ (List.mem_append_right _ (List.mem_append_left _ h)))))
theorem sg_m6 {w : Cond} (h : w ∈ tables_1_6) (hg : goodWord w = true) : w ∈ sg_W0 := List.mem_filter.mpr ⟨List.mem_append_right _ (sg_mt6 h), hg⟩
theorem sg_n6 {w : Cond} (h : w ∈ tables_1_6) (hg : sg_nest w = true) : w ∈ sg_WN := List.mem_filter.mpr ⟨sg_mt6 h, hg⟩
theorem sg_mt7 {w : Cond} (h : w ∈ tables_1_7) : w ∈ tables_1 := List.mem_append_right _ (List.mem_append_right _ (List.mem_append_right _ (List.mem_append_right _ (List.mem_append_right _ (List.mem_append_right _ (List.mem_append_left _ h))))))
theorem sg_m7 {w : Cond} (h : w ∈ tables_1_7) (hg : goodWord w = true) : w ∈ sg_W0 := List.mem_filter.mpr ⟨List.mem_append_right _ (sg_mt7 h), hg⟩
theorem sg_n7 {w : Cond} (h : w ∈ tables_1_7) (hg : sg_nest w = true) : w ∈ sg_WN := List.mem_filter.mpr ⟨sg_mt7 h, hg⟩
theorem sg_mt8 {w : Cond} (h : w ∈ tables_1_8) : w ∈ tables_1 := List.mem_append_right _ (List.mem_append_right _ (List.mem_append_right _ (List.mem_append_right _ (List.mem_append_right _ (List.mem_append_right _ (List.mem_append_right _ (h)))))))
theorem sg_m8 {w : Cond} (h : w ∈ tables_1_8) (hg : goodWord w = true) : w ∈ sg_W0 := List.mem_filter.mpr ⟨List.mem_append_right _ (sg_mt8 h), hg⟩
theorem sg_n8 {w : Cond} (h : w ∈ tables_1_8) (hg : sg_nest w = true) : w ∈ sg_WN := List.mem_filter.mpr ⟨sg_mt8 h, hg⟩
theorem kw_0 : Cond.selects RX1 yX1_readLine yX1_readLine ∈ sg_W0 := sg_mp (List.mem_of_getElem? (i := 0) rfl) rfl
theorem kw_1 : Cond.selects RX1 yX1_readPieces yX1_readPieces ∈ sg_W0 := sg_mp (List.mem_of_getElem? (i := 1) rfl) rfl
theorem kw_2 : Cond.selects RX11 yX11_closeText yX11_closeText ∈ sg_W0 := sg_mp (List.mem_of_getElem? (i := 2) rfl) rfl
theorem kw_3 : Cond.selects RX11 yX11_forgetAnswers yX11_forgetAnswers ∈ sg_W0 := sg_mp (List.mem_of_getElem? (i := 3) rfl) rfl
theorem kw_4 : Cond.selects RX1 yX1_stiffness yX1_stiffness ∈ sg_W0 := sg_mp (List.mem_of_getElem? (i := 4) rfl) rfl
theorem kw_5 : Cond.selects RX0 yX0_isPlace yX0_isPlace ∈ sg_W0 := sg_mp (List.mem_of_getElem? (i := 5) rfl) rfl
theorem kw_6 : Cond.selects RX0 yX0_leastTone yX0_leastTone ∈ sg_W0 := sg_mp (List.mem_of_getElem? (i := 6) rfl) rfl
theorem kw_7 : Cond.selects RX0 yX0_enoughAlone yX0_enoughAlone ∈ sg_W0 := sg_mp (List.mem_of_getElem? (i := 7) rfl) rfl
theorem kw_8 : Cond.selects RX0 yX0_reaches yX0_reaches ∈ sg_W0 := sg_mp (List.mem_of_getElem? (i := 8) rfl) rfl
theorem kw_9 : Cond.selects RX0 yX0_firstOfRun yX0_firstOfRun ∈ sg_W0 := sg_mp (List.mem_of_getElem? (i := 9) rfl) rfl
theorem kw_10 : Cond.selects RX0 yX0_lastOfRun yX0_lastOfRun ∈ sg_W0 := sg_mp (List.mem_of_getElem? (i := 10) rfl) rfl
theorem kw_11 : Cond.selects RX0 yX0_isTwice yX0_isTwice ∈ sg_W0 := sg_mp (List.mem_of_getElem? (i := 11) rfl) rfl
theorem kw_12 : Cond.selects RX0 yX0_rings yX0_rings ∈ sg_W0 := sg_mp (List.mem_of_getElem? (i := 12) rfl) rfl
theorem kw_13 : Cond.selects RX0 yX0_tellStrengths yX0_tellStrengths ∈ sg_W0 := sg_mp (List.mem_of_getElem? (i := 13) rfl) rfl
theorem kw_14 : Cond.selects RX3 yX3_readMove yX3_readMove ∈ sg_W0 := sg_mp (List.mem_of_getElem? (i := 14) rfl) rfl
theorem kw_15 : Cond.selects RX3 yX3_readTicks yX3_readTicks ∈ sg_W0 := sg_mp (List.mem_of_getElem? (i := 15) rfl) rfl
theorem kw_16 : Cond.selects RX3 yX3_move yX3_move ∈ sg_W0 := sg_mp (List.mem_of_getElem? (i := 16) rfl) rfl
theorem kw_17 : Cond.selects RX3 yX3_pass yX3_pass ∈ sg_W0 := sg_mp (List.mem_of_getElem? (i := 17) rfl) rfl
theorem kw_18 : Cond.selects RX3 yX3_shake yX3_shake ∈ sg_W0 := sg_mp (List.mem_of_getElem? (i := 18) rfl) rfl
theorem kw_19 : Cond.selects RX11 yX11_hearBook yX11_hearBook ∈ sg_W0 := sg_mp (List.mem_of_getElem? (i := 19) rfl) rfl
theorem kw_20 : Cond.selects RX11 yX11_listenTo yX11_listenTo ∈ sg_W0 := sg_mp (List.mem_of_getElem? (i := 20) rfl) rfl
theorem kw_21 : Cond.selects RX0 yX0_mostKept yX0_mostKept ∈ sg_W0 := sg_mp (List.mem_of_getElem? (i := 21) rfl) rfl
theorem kw_22 : Cond.selects RX6 yX6_costFrom yX6_costFrom ∈ sg_W0 := sg_mp (List.mem_of_getElem? (i := 22) rfl) rfl
theorem kw_23 : Cond.selects RX6 yX6_cheapestNext yX6_cheapestNext ∈ sg_W0 := sg_mp (List.mem_of_getElem? (i := 23) rfl) rfl
theorem kw_24 : Cond.selects RX6 yX6_costAt yX6_costAt ∈ sg_W0 := sg_mp (List.mem_of_getElem? (i := 24) rfl) rfl
theorem kw_25 : Cond.selects RX6 yX6_setCost yX6_setCost ∈ sg_W0 := sg_mp (List.mem_of_getElem? (i := 25) rfl) rfl
theorem kw_26 : Cond.selects RX11 yX11_hearParts yX11_hearParts ∈ sg_W0 := sg_mp (List.mem_of_getElem? (i := 26) rfl) rfl
theorem kw_27 : Cond.selects RX11 yX11_nearestPart yX11_nearestPart ∈ sg_W0 := sg_mp (List.mem_of_getElem? (i := 27) rfl) rfl
theorem kw_28 : Cond.selects RX11 yX11_tellsTones yX11_tellsTones ∈ sg_W0 := sg_mp (List.mem_of_getElem? (i := 28) rfl) rfl
theorem kw_29 : Cond.selects RX11 yX11_isFitting yX11_isFitting ∈ sg_W0 := sg_mp (List.mem_of_getElem? (i := 29) rfl) rfl
theorem kw_30 : Cond.selects RX11 yX11_rangeOfTrial yX11_rangeOfTrial ∈ sg_W0 := sg_mp (List.mem_of_getElem? (i := 30) rfl) rfl
theorem kw_31 : Cond.selects RX5 yX5_readCond yX5_readCond ∈ sg_W0 := sg_mp (List.mem_of_getElem? (i := 31) rfl) rfl
theorem kw_32 : Cond.selects RX5 yX5_readAll yX5_readAll ∈ sg_W0 := sg_mp (List.mem_of_getElem? (i := 32) rfl) rfl
theorem kw_33 : Cond.selects RX5 yX5_readOne yX5_readOne ∈ sg_W0 := sg_mp (List.mem_of_getElem? (i := 33) rfl) rfl
theorem kw_34 : Cond.selects RX5 yX5_addStep yX5_addStep ∈ sg_W0 := sg_mp (List.mem_of_getElem? (i := 34) rfl) rfl
theorem kw_35 : Cond.selects RX11 yX11_askTicks yX11_askTicks ∈ sg_W0 := sg_mp (List.mem_of_getElem? (i := 35) rfl) rfl
theorem kw_36 : Cond.selects RX5 yX5_isSo yX5_isSo ∈ sg_W0 := sg_mp (List.mem_of_getElem? (i := 36) rfl) rfl
theorem kw_37 : Cond.selects RX5 yX5_compares yX5_compares ∈ sg_W0 := sg_mp (List.mem_of_getElem? (i := 37) rfl) rfl
theorem kw_38 : Cond.selects "java/lang/Throwable" ⟨"java/lang/Throwable", "fillInStackTrace", "(I)Ljava/lang/Throwable;"⟩ ⟨"java/lang/Throwable", "fillInStackTrace", "(I)Ljava/lang/Throwable;"⟩ ∈ sg_W0 := sg_mp (List.mem_of_getElem? (i := 38) rfl) rfl
theorem kw_39 : Cond.selects RX12 yX12_come yX12_come ∈ sg_W0 := sg_mp (List.mem_of_getElem? (i := 39) rfl) rfl
theorem kw_40 : Cond.selects RX12 yX12_begin yX12_begin ∈ sg_W0 := sg_mp (List.mem_of_getElem? (i := 40) rfl) rfl
theorem kw_41 : Cond.selects RX12 yX12_lay yX12_lay ∈ sg_W0 := sg_mp (List.mem_of_getElem? (i := 41) rfl) rfl
theorem kw_42 : Cond.selects RX12 yX12_takeTape yX12_takeTape ∈ sg_W0 := sg_mp (List.mem_of_getElem? (i := 42) rfl) rfl
theorem kw_43 : Cond.selects RX12 yX12_go yX12_go ∈ sg_W0 := sg_mp (List.mem_of_getElem? (i := 43) rfl) rfl
theorem kw_44 : Cond.selects RX12 yX12_byteAt yX12_byteAt ∈ sg_W0 := sg_mp (List.mem_of_getElem? (i := 44) rfl) rfl
theorem kw_45 : Cond.selects RX12 yX12_readLine yX12_readLine ∈ sg_W0 := sg_mp (List.mem_of_getElem? (i := 45) rfl) rfl
theorem kw_46 : Cond.selects RX12 yX12_isWord yX12_isWord ∈ sg_W0 := sg_mp (List.mem_of_getElem? (i := 46) rfl) rfl
theorem kw_47 : Cond.selects RX12 yX12_bad yX12_bad ∈ sg_W0 := sg_mp (List.mem_of_getElem? (i := 47) rfl) rfl
theorem kw_48 : Cond.selects RX12 yX12_readNumber yX12_readNumber ∈ sg_W0 := sg_mp (List.mem_of_getElem? (i := 48) rfl) rfl
theorem kw_49 : Cond.selects RX12 yX12_readEnd yX12_readEnd ∈ sg_W0 := sg_mp (List.mem_of_getElem? (i := 49) rfl) rfl
theorem kw_50 : Cond.selects RX12 yX12_isSign yX12_isSign ∈ sg_W0 := sg_mp (List.mem_of_getElem? (i := 50) rfl) rfl
theorem kw_51 : Cond.selects RX12 yX12_readSigned yX12_readSigned ∈ sg_W0 := sg_mp (List.mem_of_getElem? (i := 51) rfl) rfl
theorem kw_52 : Cond.selects RX12 yX12_pieces yX12_pieces ∈ sg_W0 := sg_mp (List.mem_of_getElem? (i := 52) rfl) rfl
theorem kw_53 : Cond.selects RX12 yX12_refuse yX12_refuse ∈ sg_W0 := sg_mp (List.mem_of_getElem? (i := 53) rfl) rfl
theorem kw_54 : Cond.selects RX12 yX12_stiffness yX12_stiffness ∈ sg_W0 := sg_mp (List.mem_of_getElem? (i := 54) rfl) rfl
theorem kw_55 : Cond.selects RX12 yX12_layBend yX12_layBend ∈ sg_W0 := sg_mp (List.mem_of_getElem? (i := 55) rfl) rfl
theorem kw_56 : Cond.selects RX12 yX12_isShutIn yX12_isShutIn ∈ sg_W0 := sg_mp (List.mem_of_getElem? (i := 56) rfl) rfl
theorem kw_57 : Cond.selects RX12 yX12_toneOf yX12_toneOf ∈ sg_W0 := sg_mp (List.mem_of_getElem? (i := 57) rfl) rfl
theorem kw_58 : Cond.selects RX12 yX12_phases yX12_phases ∈ sg_W0 := sg_mp (List.mem_of_getElem? (i := 58) rfl) rfl
theorem kw_59 : Cond.selects RX12 yX12_isShut yX12_isShut ∈ sg_W0 := sg_mp (List.mem_of_getElem? (i := 59) rfl) rfl
theorem kw_60 : Cond.selects RX12 yX12_isTwice yX12_isTwice ∈ sg_W0 := sg_mp (List.mem_of_getElem? (i := 60) rfl) rfl
theorem kw_61 : Cond.selects RX12 yX12_rings yX12_rings ∈ sg_W0 := sg_mp (List.mem_of_getElem? (i := 61) rfl) rfl
theorem kw_62 : Cond.selects RX12 yX12_strengthAt yX12_strengthAt ∈ sg_W0 := sg_mp (List.mem_of_getElem? (i := 62) rfl) rfl
theorem kw_63 : Cond.selects RX12 yX12_readStep yX12_readStep ∈ sg_W0 := sg_mp (List.mem_of_getElem? (i := 63) rfl) rfl
theorem kw_64 : Cond.selects RX12 yX12_readTime yX12_readTime ∈ sg_W0 := sg_mp (List.mem_of_getElem? (i := 64) rfl) rfl
theorem kw_65 : Cond.selects RX12 yX12_readWord yX12_readWord ∈ sg_W0 := sg_mp (List.mem_of_getElem? (i := 65) rfl) rfl
theorem kw_66 : Cond.selects RX12 yX12_readLast yX12_readLast ∈ sg_W0 := sg_mp (List.mem_of_getElem? (i := 66) rfl) rfl
theorem kw_67 : Cond.selects RX12 yX12_tickTo yX12_tickTo ∈ sg_W0 := sg_mp (List.mem_of_getElem? (i := 67) rfl) rfl
theorem kw_68 : Cond.selects RX12 yX12_voiceOf yX12_voiceOf ∈ sg_W0 := sg_mp (List.mem_of_getElem? (i := 68) rfl) rfl
theorem kw_69 : Cond.selects RX12 yX12_voiceBy yX12_voiceBy ∈ sg_W0 := sg_mp (List.mem_of_getElem? (i := 69) rfl) rfl
theorem kw_70 : Cond.selects RX12 yX12_bends yX12_bends ∈ sg_W0 := sg_mp (List.mem_of_getElem? (i := 70) rfl) rfl
theorem kw_71 : Cond.selects RX12 yX12_isWritten yX12_isWritten ∈ sg_W0 := sg_mp (List.mem_of_getElem? (i := 71) rfl) rfl
theorem kw_72 : Cond.selects RX12 yX12_aOf yX12_aOf ∈ sg_W0 := sg_mp (List.mem_of_getElem? (i := 72) rfl) rfl
theorem kw_73 : Cond.selects RX12 yX12_bOf yX12_bOf ∈ sg_W0 := sg_mp (List.mem_of_getElem? (i := 73) rfl) rfl
theorem kw_74 : Cond.selects RX12 yX12_sing yX12_sing ∈ sg_W0 := sg_mp (List.mem_of_getElem? (i := 74) rfl) rfl
theorem kw_75 : Cond.selects RX12 yX12_way yX12_way ∈ sg_W0 := sg_mp (List.mem_of_getElem? (i := 75) rfl) rfl
theorem kw_76 : Cond.selects RX12 yX12_isNear yX12_isNear ∈ sg_W0 := sg_mp (List.mem_of_getElem? (i := 76) rfl) rfl
theorem kw_77 : Cond.selects RX12 yX12_isThere yX12_isThere ∈ sg_W0 := sg_mp (List.mem_of_getElem? (i := 77) rfl) rfl
theorem kw_78 : Cond.selects RX12 yX12_isBladeOf yX12_isBladeOf ∈ sg_W0 := sg_mp (List.mem_of_getElem? (i := 78) rfl) rfl
theorem kw_79 : Cond.selects RX12 yX12_rangeBy yX12_rangeBy ∈ sg_W0 := sg_mp (List.mem_of_getElem? (i := 79) rfl) rfl
theorem kw_80 : Cond.selects RX12 yX12_readOr yX12_readOr ∈ sg_W0 := sg_mp (List.mem_of_getElem? (i := 80) rfl) rfl
theorem kw_81 : Cond.selects RX12 yX12_readAnd yX12_readAnd ∈ sg_W0 := sg_mp (List.mem_of_getElem? (i := 81) rfl) rfl
theorem kw_82 : Cond.selects RX12 yX12_readOne yX12_readOne ∈ sg_W0 := sg_mp (List.mem_of_getElem? (i := 82) rfl) rfl
theorem kw_83 : Cond.selects RX12 yX12_readBracket yX12_readBracket ∈ sg_W0 := sg_mp (List.mem_of_getElem? (i := 83) rfl) rfl
theorem kw_84 : Cond.selects RX12 yX12_readNot yX12_readNot ∈ sg_W0 := sg_mp (List.mem_of_getElem? (i := 84) rfl) rfl
theorem kw_85 : Cond.selects RX12 yX12_lays yX12_lays ∈ sg_W0 := sg_mp (List.mem_of_getElem? (i := 85) rfl) rfl
theorem kw_86 : Cond.selects RX12 yX12_readCompare yX12_readCompare ∈ sg_W0 := sg_mp (List.mem_of_getElem? (i := 86) rfl) rfl
theorem kw_87 : Cond.selects RX12 yX12_isSo yX12_isSo ∈ sg_W0 := sg_mp (List.mem_of_getElem? (i := 87) rfl) rfl
theorem kw_88 : Cond.selects RX12 yX12_valueOf yX12_valueOf ∈ sg_W0 := sg_mp (List.mem_of_getElem? (i := 88) rfl) rfl
theorem kw_89 : Cond.initialized RL ∈ sg_W0 := sg_m1 (List.mem_of_getElem? (i := 0) rfl) rfl
theorem kw_90 : Cond.initialized RX11 ∈ sg_W0 := sg_m1 (List.mem_of_getElem? (i := 1) rfl) rfl
theorem kw_91 : Cond.initialized RX8 ∈ sg_W0 := sg_m1 (List.mem_of_getElem? (i := 2) rfl) rfl
theorem kw_92 : Cond.initialized RX9 ∈ sg_W0 := sg_m1 (List.mem_of_getElem? (i := 3) rfl) rfl
theorem kw_93 : Cond.initialized RX7 ∈ sg_W0 := sg_m1 (List.mem_of_getElem? (i := 4) rfl) rfl
theorem kw_94 : Cond.initialized RX1 ∈ sg_W0 := sg_m1 (List.mem_of_getElem? (i := 5) rfl) rfl
theorem kw_95 : Cond.initialized RX3 ∈ sg_W0 := sg_m1 (List.mem_of_getElem? (i := 6) rfl) rfl
theorem kw_96 : Cond.initialized RX5 ∈ sg_W0 := sg_m1 (List.mem_of_getElem? (i := 7) rfl) rfl
theorem kw_97 : Cond.initialized RX4 ∈ sg_W0 := sg_m1 (List.mem_of_getElem? (i := 8) rfl) rfl
theorem kw_98 : Cond.initialized RJ9 ∈ sg_W0 := sg_m1 (List.mem_of_getElem? (i := 9) rfl) rfl
theorem kw_99 : Cond.initialized RX2 ∈ sg_W0 := sg_m1 (List.mem_of_getElem? (i := 10) rfl) rfl
theorem kw_100 : Cond.initialized RX0 ∈ sg_W0 := sg_m1 (List.mem_of_getElem? (i := 11) rfl) rfl
theorem kw_101 : Cond.initialized RX10 ∈ sg_W0 := sg_m1 (List.mem_of_getElem? (i := 12) rfl) rfl
theorem kw_102 : Cond.initialized RX6 ∈ sg_W0 := sg_m1 (List.mem_of_getElem? (i := 13) rfl) rfl
theorem kw_103 : Cond.initialized RX12 ∈ sg_W0 := sg_m1 (List.mem_of_getElem? (i := 14) rfl) rfl
theorem kw_104 : Cond.initialized RJ0 ∈ sg_W0 := sg_m1 (List.mem_of_getElem? (i := 15) rfl) rfl
theorem kw_105 : Cond.initialized RJ1 ∈ sg_W0 := sg_m1 (List.mem_of_getElem? (i := 16) rfl) rfl
theorem kw_106 : Cond.initialized RJ3 ∈ sg_W0 := sg_m1 (List.mem_of_getElem? (i := 17) rfl) rfl
theorem kw_107 : Cond.initialized RJ2 ∈ sg_W0 := sg_m1 (List.mem_of_getElem? (i := 18) rfl) rfl
theorem kw_108 : Cond.initialized "java/lang/Throwable" ∈ sg_W0 := sg_m1 (List.mem_of_getElem? (i := 19) rfl) rfl
theorem kw_109 : Cond.initialized "java/lang/Exception" ∈ sg_W0 := sg_m1 (List.mem_of_getElem? (i := 20) rfl) rfl
theorem kw_110 : Cond.initialized "java/lang/RuntimeException" ∈ sg_W0 := sg_m1 (List.mem_of_getElem? (i := 21) rfl) rfl
theorem kw_111 : Cond.initialized "java/util/NoSuchElementException" ∈ sg_W0 := sg_m1 (List.mem_of_getElem? (i := 22) rfl) rfl
theorem kw_112 : Cond.classLink RL 8 RX11 ∈ sg_W0 := sg_m1 (List.mem_of_getElem? (i := 23) rfl) rfl
theorem kw_113 : Cond.instantiable RX11 19 ∈ sg_W0 := sg_m1 (List.mem_of_getElem? (i := 24) rfl) rfl
theorem kw_114 : Cond.methodLink RL 22 yX11_init ∈ sg_W0 := sg_m1 (List.mem_of_getElem? (i := 25) rfl) rfl
theorem kw_115 : Cond.instanceMethod yX11_init ∈ sg_W0 := sg_m1 (List.mem_of_getElem? (i := 26) rfl) rfl
theorem kw_116 : Cond.code yX11_init cX11_init 1 none ∈ sg_W0 := sg_m1 (List.mem_of_getElem? (i := 27) rfl) rfl
theorem kw_117 : Cond.methodLink RX11 1 ⟨"java/lang/Object", "<init>", "()V"⟩ ∈ sg_W0 := sg_m1 (List.mem_of_getElem? (i := 28) rfl) rfl
theorem kw_118 : Cond.instanceMethod ⟨"java/lang/Object", "<init>", "()V"⟩ ∈ sg_W0 := sg_m1 (List.mem_of_getElem? (i := 29) rfl) rfl
theorem kw_119 : Cond.code ⟨"java/lang/Object", "<init>", "()V"⟩ object_method_1_code 1 none ∈ sg_W0 := sg_m1 (List.mem_of_getElem? (i := 30) rfl) rfl
theorem kw_120 : Cond.classLink RX11 7 RX8 ∈ sg_W0 := sg_m1 (List.mem_of_getElem? (i := 31) rfl) rfl
theorem kw_121 : Cond.instantiable RX8 2 ∈ sg_W0 := sg_m1 (List.mem_of_getElem? (i := 32) rfl) rfl
theorem kw_122 : Cond.methodLinkNest RX11 9 yX8_init RX11 ∈ sg_WN := sg_n1 (List.mem_of_getElem? (i := 33) rfl) rfl
theorem kw_123 : Cond.instanceMethod yX8_init ∈ sg_W0 := sg_m1 (List.mem_of_getElem? (i := 34) rfl) rfl
theorem kw_124 : Cond.code yX8_init cX8_init 1 none ∈ sg_W0 := sg_m1 (List.mem_of_getElem? (i := 35) rfl) rfl
theorem kw_125 : Cond.methodLink RX8 3 ⟨"java/lang/Object", "<init>", "()V"⟩ ∈ sg_W0 := sg_m1 (List.mem_of_getElem? (i := 36) rfl) rfl
theorem kw_126 : Cond.fieldLink RX8 9 RX8 "bytes" "[I" ∈ sg_W0 := sg_m1 (List.mem_of_getElem? (i := 37) rfl) rfl
theorem kw_127 : Cond.fieldLink RX8 15 RX8 "size" "I" ∈ sg_W0 := sg_m1 (List.mem_of_getElem? (i := 38) rfl) rfl
theorem kw_128 : Cond.fieldLinkNest RX11 122 RX8 "size" "I" RX11 ∈ sg_WN := sg_n1 (List.mem_of_getElem? (i := 39) rfl) rfl
theorem kw_129 : Cond.fieldLinkNest RX6 30 RX8 "size" "I" RX11 ∈ sg_WN := sg_n1 (List.mem_of_getElem? (i := 40) rfl) rfl
theorem kw_130 : Cond.fieldLinkNest RX9 48 RX8 "size" "I" RX11 ∈ sg_WN := sg_n1 (List.mem_of_getElem? (i := 41) rfl) rfl
theorem kw_131 : Cond.arrayClass .int ∈ sg_W0 := sg_m1 (List.mem_of_getElem? (i := 47) rfl) rfl
theorem kw_132 : Cond.classLink RX11 16 RX9 ∈ sg_W0 := sg_m1 (List.mem_of_getElem? (i := 48) rfl) rfl
theorem kw_133 : Cond.instantiable RX9 8 ∈ sg_W0 := sg_m1 (List.mem_of_getElem? (i := 49) rfl) rfl
theorem kw_134 : Cond.methodLink RX11 18 yX9_init ∈ sg_W0 := sg_m1 (List.mem_of_getElem? (i := 50) rfl) rfl
theorem kw_135 : Cond.instanceMethod yX9_init ∈ sg_W0 := sg_m1 (List.mem_of_getElem? (i := 51) rfl) rfl
theorem kw_136 : Cond.code yX9_init cX9_init 2 none ∈ sg_W0 := sg_m1 (List.mem_of_getElem? (i := 52) rfl) rfl
theorem kw_137 : Cond.methodLink RX9 1 ⟨"java/lang/Object", "<init>", "()V"⟩ ∈ sg_W0 := sg_m1 (List.mem_of_getElem? (i := 53) rfl) rfl
theorem kw_138 : Cond.fieldLink RX9 31 RX9 "tape" "LSingingSaw$Tape;" ∈ sg_W0 := sg_m1 (List.mem_of_getElem? (i := 54) rfl) rfl
theorem kw_139 : Cond.fieldLink RX9 7 RX9 "limit" "I" ∈ sg_W0 := sg_m1 (List.mem_of_getElem? (i := 55) rfl) rfl
theorem kw_140 : Cond.fieldLink RX9 13 RX9 "kind" "I" ∈ sg_W0 := sg_m1 (List.mem_of_getElem? (i := 56) rfl) rfl
theorem kw_141 : Cond.fieldLink RX9 16 RX9 "start" "I" ∈ sg_W0 := sg_m1 (List.mem_of_getElem? (i := 57) rfl) rfl
theorem kw_142 : Cond.fieldLink RX9 19 RX9 "stop" "I" ∈ sg_W0 := sg_m1 (List.mem_of_getElem? (i := 58) rfl) rfl
theorem kw_143 : Cond.fieldLink RX9 22 RX9 "value" "I" ∈ sg_W0 := sg_m1 (List.mem_of_getElem? (i := 59) rfl) rfl
theorem kw_144 : Cond.fieldLink RX9 25 RX9 "fault" "I" ∈ sg_W0 := sg_m1 (List.mem_of_getElem? (i := 60) rfl) rfl
theorem kw_145 : Cond.fieldLinkNest RX11 135 RX9 "fault" "I" RX11 ∈ sg_WN := sg_n1 (List.mem_of_getElem? (i := 61) rfl) rfl
theorem kw_146 : Cond.fieldLinkNest RX5 74 RX9 "fault" "I" RX11 ∈ sg_WN := sg_n1 (List.mem_of_getElem? (i := 62) rfl) rfl
theorem kw_147 : Cond.fieldLinkNest RX1 116 RX9 "fault" "I" RX11 ∈ sg_WN := sg_n1 (List.mem_of_getElem? (i := 63) rfl) rfl
theorem kw_148 : Cond.fieldLink RX9 28 RX9 "faultPlace" "I" ∈ sg_W0 := sg_m1 (List.mem_of_getElem? (i := 64) rfl) rfl
theorem kw_149 : Cond.fieldLinkNest RX11 343 RX9 "faultPlace" "I" RX11 ∈ sg_WN := sg_n1 (List.mem_of_getElem? (i := 65) rfl) rfl
theorem kw_150 : Cond.classLink RX11 25 RX7 ∈ sg_W0 := sg_m1 (List.mem_of_getElem? (i := 83) rfl) rfl
theorem kw_151 : Cond.instantiable RX7 5 ∈ sg_W0 := sg_m1 (List.mem_of_getElem? (i := 84) rfl) rfl
theorem kw_152 : Cond.classLink RX11 27 RX1 ∈ sg_W0 := sg_m1 (List.mem_of_getElem? (i := 85) rfl) rfl
theorem kw_153 : Cond.instantiable RX1 7 ∈ sg_W0 := sg_m1 (List.mem_of_getElem? (i := 86) rfl) rfl
theorem kw_154 : Cond.methodLinkNest RX11 29 yX1_init RX11 ∈ sg_WN := sg_n1 (List.mem_of_getElem? (i := 87) rfl) rfl
theorem kw_155 : Cond.instanceMethod yX1_init ∈ sg_W0 := sg_m1 (List.mem_of_getElem? (i := 88) rfl) rfl
theorem kw_156 : Cond.code yX1_init cX1_init 1 none ∈ sg_W0 := sg_m1 (List.mem_of_getElem? (i := 89) rfl) rfl
theorem kw_157 : Cond.methodLink RX1 3 ⟨"java/lang/Object", "<init>", "()V"⟩ ∈ sg_W0 := sg_m1 (List.mem_of_getElem? (i := 90) rfl) rfl
theorem kw_158 : Cond.fieldLink RX1 9 RX1 "widths" "[I" ∈ sg_W0 := sg_m1 (List.mem_of_getElem? (i := 91) rfl) rfl
theorem kw_159 : Cond.fieldLink RX1 15 RX1 "thicks" "[I" ∈ sg_W0 := sg_m1 (List.mem_of_getElem? (i := 92) rfl) rfl
theorem kw_160 : Cond.fieldLinkNest RX0 71 RX1 "thicks" "[I" RX11 ∈ sg_WN := sg_n1 (List.mem_of_getElem? (i := 93) rfl) rfl
theorem kw_161 : Cond.fieldLink RX1 18 RX1 "teeth" "[I" ∈ sg_W0 := sg_m1 (List.mem_of_getElem? (i := 94) rfl) rfl
theorem kw_162 : Cond.fieldLink RX1 21 RX1 "owns" "[I" ∈ sg_W0 := sg_m1 (List.mem_of_getElem? (i := 95) rfl) rfl
theorem kw_163 : Cond.fieldLink RX1 24 RX1 "size" "I" ∈ sg_W0 := sg_m1 (List.mem_of_getElem? (i := 96) rfl) rfl
theorem kw_164 : Cond.fieldLinkNest RX0 53 RX1 "size" "I" RX11 ∈ sg_WN := sg_n1 (List.mem_of_getElem? (i := 97) rfl) rfl
theorem kw_165 : Cond.fieldLinkNest RX11 138 RX1 "size" "I" RX11 ∈ sg_WN := sg_n1 (List.mem_of_getElem? (i := 98) rfl) rfl
theorem kw_166 : Cond.fieldLink RX1 28 RX1 "unit" "I" ∈ sg_W0 := sg_m1 (List.mem_of_getElem? (i := 99) rfl) rfl
theorem kw_167 : Cond.fieldLinkNest RX0 62 RX1 "unit" "I" RX11 ∈ sg_WN := sg_n1 (List.mem_of_getElem? (i := 100) rfl) rfl
theorem kw_168 : Cond.fieldLinkNest RX11 337 RX1 "unit" "I" RX11 ∈ sg_WN := sg_n1 (List.mem_of_getElem? (i := 101) rfl) rfl
theorem kw_169 : Cond.fieldLink RX1 31 RX1 "bear" "I" ∈ sg_W0 := sg_m1 (List.mem_of_getElem? (i := 102) rfl) rfl
theorem kw_170 : Cond.fieldLinkNest RX0 77 RX1 "bear" "I" RX11 ∈ sg_WN := sg_n1 (List.mem_of_getElem? (i := 103) rfl) rfl
theorem kw_171 : Cond.fieldLinkNest RX11 340 RX1 "bear" "I" RX11 ∈ sg_WN := sg_n1 (List.mem_of_getElem? (i := 104) rfl) rfl
theorem kw_172 : Cond.classLink RX11 30 RX3 ∈ sg_W0 := sg_m1 (List.mem_of_getElem? (i := 120) rfl) rfl
theorem kw_173 : Cond.instantiable RX3 5 ∈ sg_W0 := sg_m1 (List.mem_of_getElem? (i := 121) rfl) rfl
theorem kw_174 : Cond.methodLinkNest RX11 32 yX3_init RX11 ∈ sg_WN := sg_n1 (List.mem_of_getElem? (i := 122) rfl) rfl
theorem kw_175 : Cond.instanceMethod yX3_init ∈ sg_W0 := sg_m1 (List.mem_of_getElem? (i := 123) rfl) rfl
theorem kw_176 : Cond.code yX3_init cX3_init 1 none ∈ sg_W0 := sg_m1 (List.mem_of_getElem? (i := 124) rfl) rfl
theorem kw_177 : Cond.methodLink RX3 3 ⟨"java/lang/Object", "<init>", "()V"⟩ ∈ sg_W0 := sg_m1 (List.mem_of_getElem? (i := 125) rfl) rfl
theorem kw_178 : Cond.fieldLink RX3 9 RX3 "knees" "[I" ∈ sg_W0 := sg_m1 (List.mem_of_getElem? (i := 126) rfl) rfl
theorem kw_179 : Cond.fieldLink RX3 15 RX3 "tips" "[I" ∈ sg_W0 := sg_m1 (List.mem_of_getElem? (i := 127) rfl) rfl
theorem kw_180 : Cond.fieldLink RX3 18 RX3 "size" "I" ∈ sg_W0 := sg_m1 (List.mem_of_getElem? (i := 128) rfl) rfl
theorem kw_181 : Cond.fieldLinkNest RX11 216 RX3 "size" "I" RX11 ∈ sg_WN := sg_n1 (List.mem_of_getElem? (i := 129) rfl) rfl
theorem kw_182 : Cond.fieldLink RX3 22 RX3 "a" "I" ∈ sg_W0 := sg_m1 (List.mem_of_getElem? (i := 130) rfl) rfl
theorem kw_183 : Cond.fieldLink RX3 25 RX3 "b" "I" ∈ sg_W0 := sg_m1 (List.mem_of_getElem? (i := 131) rfl) rfl
theorem kw_184 : Cond.classLink RX11 33 RX5 ∈ sg_W0 := sg_m1 (List.mem_of_getElem? (i := 143) rfl) rfl
theorem kw_185 : Cond.instantiable RX5 4 ∈ sg_W0 := sg_m1 (List.mem_of_getElem? (i := 144) rfl) rfl
theorem kw_186 : Cond.methodLinkNest RX11 35 yX5_init RX11 ∈ sg_WN := sg_n1 (List.mem_of_getElem? (i := 145) rfl) rfl
theorem kw_187 : Cond.instanceMethod yX5_init ∈ sg_W0 := sg_m1 (List.mem_of_getElem? (i := 146) rfl) rfl
theorem kw_188 : Cond.code yX5_init cX5_init 1 none ∈ sg_W0 := sg_m1 (List.mem_of_getElem? (i := 147) rfl) rfl
theorem kw_189 : Cond.methodLink RX5 3 ⟨"java/lang/Object", "<init>", "()V"⟩ ∈ sg_W0 := sg_m1 (List.mem_of_getElem? (i := 148) rfl) rfl
theorem kw_190 : Cond.classLink RX5 9 RX4 ∈ sg_W0 := sg_m1 (List.mem_of_getElem? (i := 149) rfl) rfl
theorem kw_191 : Cond.instantiable RX4 3 ∈ sg_W0 := sg_m1 (List.mem_of_getElem? (i := 150) rfl) rfl
theorem kw_192 : Cond.methodLink RX5 13 yX4_init ∈ sg_W0 := sg_m1 (List.mem_of_getElem? (i := 151) rfl) rfl
theorem kw_193 : Cond.instanceMethod yX4_init ∈ sg_W0 := sg_m1 (List.mem_of_getElem? (i := 152) rfl) rfl
theorem kw_194 : Cond.code yX4_init cX4_init 2 none ∈ sg_W0 := sg_m1 (List.mem_of_getElem? (i := 153) rfl) rfl
theorem kw_195 : Cond.methodLink RX4 3 ⟨"java/lang/Object", "<init>", "()V"⟩ ∈ sg_W0 := sg_m1 (List.mem_of_getElem? (i := 154) rfl) rfl
theorem kw_196 : Cond.methodLink RX4 19 yJ9_max_7cf53 ∈ sg_W0 := sg_m1 (List.mem_of_getElem? (i := 155) rfl) rfl
theorem kw_197 : Cond.static yJ9_max_7cf53 ∈ sg_W0 := sg_m1 (List.mem_of_getElem? (i := 156) rfl) rfl
theorem kw_198 : Cond.code yJ9_max_7cf53 cJ9_max_7cf53 2 (some .int) ∈ sg_W0 := sg_m1 (List.mem_of_getElem? (i := 157) rfl) rfl
theorem kw_199 : Cond.fieldLink RX4 25 RX4 "items" "[I" ∈ sg_W0 := sg_m1 (List.mem_of_getElem? (i := 158) rfl) rfl
theorem kw_200 : Cond.fieldLink RX4 9 RX4 "size" "I" ∈ sg_W0 := sg_m1 (List.mem_of_getElem? (i := 159) rfl) rfl
theorem kw_201 : Cond.fieldLinkNest RX6 47 RX4 "size" "I" RX11 ∈ sg_WN := sg_n1 (List.mem_of_getElem? (i := 160) rfl) rfl
theorem kw_202 : Cond.fieldLinkNest RX0 90 RX4 "size" "I" RX11 ∈ sg_WN := sg_n1 (List.mem_of_getElem? (i := 161) rfl) rfl
theorem kw_203 : Cond.fieldLinkNest RX5 112 RX4 "size" "I" RX11 ∈ sg_WN := sg_n1 (List.mem_of_getElem? (i := 162) rfl) rfl
theorem kw_204 : Cond.fieldLinkNest RX11 181 RX4 "size" "I" RX11 ∈ sg_WN := sg_n1 (List.mem_of_getElem? (i := 163) rfl) rfl
theorem kw_205 : Cond.fieldLink RX4 15 RX4 "isFresh" "Z" ∈ sg_W0 := sg_m1 (List.mem_of_getElem? (i := 164) rfl) rfl
theorem kw_206 : Cond.fieldLinkNest RX11 346 RX4 "isFresh" "Z" RX11 ∈ sg_WN := sg_n1 (List.mem_of_getElem? (i := 165) rfl) rfl
theorem kw_207 : Cond.fieldLink RX5 16 RX5 "kinds" "LSingingSaw$Row;" ∈ sg_W0 := sg_m1 (List.mem_of_getElem? (i := 173) rfl) rfl
theorem kw_208 : Cond.fieldLink RX5 20 RX5 "signs" "LSingingSaw$Row;" ∈ sg_W0 := sg_m1 (List.mem_of_getElem? (i := 174) rfl) rfl
theorem kw_209 : Cond.fieldLink RX5 23 RX5 "numbers" "LSingingSaw$Row;" ∈ sg_W0 := sg_m1 (List.mem_of_getElem? (i := 175) rfl) rfl
theorem kw_210 : Cond.fieldLink RX5 26 RX5 "ones" "I" ∈ sg_W0 := sg_m1 (List.mem_of_getElem? (i := 176) rfl) rfl
theorem kw_211 : Cond.fieldLinkNest RX11 328 RX5 "ones" "I" RX11 ∈ sg_WN := sg_n1 (List.mem_of_getElem? (i := 177) rfl) rfl
theorem kw_212 : Cond.methodLink RX11 36 yX7_init ∈ sg_W0 := sg_m1 (List.mem_of_getElem? (i := 187) rfl) rfl
theorem kw_213 : Cond.instanceMethod yX7_init ∈ sg_W0 := sg_m1 (List.mem_of_getElem? (i := 188) rfl) rfl
theorem kw_214 : Cond.code yX7_init cX7_init 4 none ∈ sg_W0 := sg_m1 (List.mem_of_getElem? (i := 189) rfl) rfl
theorem kw_215 : Cond.methodLink RX7 3 ⟨"java/lang/Object", "<init>", "()V"⟩ ∈ sg_W0 := sg_m1 (List.mem_of_getElem? (i := 190) rfl) rfl
theorem kw_216 : Cond.classLink RX7 9 RX2 ∈ sg_W0 := sg_m1 (List.mem_of_getElem? (i := 191) rfl) rfl
theorem kw_217 : Cond.instantiable RX2 3 ∈ sg_W0 := sg_m1 (List.mem_of_getElem? (i := 192) rfl) rfl
theorem kw_218 : Cond.methodLinkNest RX7 11 yX2_init RX11 ∈ sg_WN := sg_n1 (List.mem_of_getElem? (i := 193) rfl) rfl
theorem kw_219 : Cond.instanceMethod yX2_init ∈ sg_W0 := sg_m1 (List.mem_of_getElem? (i := 194) rfl) rfl
theorem kw_220 : Cond.code yX2_init cX2_init 1 none ∈ sg_W0 := sg_m1 (List.mem_of_getElem? (i := 195) rfl) rfl
theorem kw_221 : Cond.methodLink RX2 3 ⟨"java/lang/Object", "<init>", "()V"⟩ ∈ sg_W0 := sg_m1 (List.mem_of_getElem? (i := 196) rfl) rfl
theorem kw_222 : Cond.classLink RX2 9 RX4 ∈ sg_W0 := sg_m1 (List.mem_of_getElem? (i := 197) rfl) rfl
theorem kw_223 : Cond.methodLink RX2 11 yX4_init ∈ sg_W0 := sg_m1 (List.mem_of_getElem? (i := 198) rfl) rfl
theorem kw_224 : Cond.fieldLink RX2 14 RX2 "knees" "LSingingSaw$Row;" ∈ sg_W0 := sg_m1 (List.mem_of_getElem? (i := 199) rfl) rfl
theorem kw_225 : Cond.fieldLinkNest RX11 352 RX2 "knees" "LSingingSaw$Row;" RX11 ∈ sg_WN := sg_n1 (List.mem_of_getElem? (i := 200) rfl) rfl
theorem kw_226 : Cond.fieldLink RX2 20 RX2 "tips" "LSingingSaw$Row;" ∈ sg_W0 := sg_m1 (List.mem_of_getElem? (i := 201) rfl) rfl
theorem kw_227 : Cond.fieldLinkNest RX11 355 RX2 "tips" "LSingingSaw$Row;" RX11 ∈ sg_WN := sg_n1 (List.mem_of_getElem? (i := 202) rfl) rfl
theorem kw_228 : Cond.fieldLink RX2 23 RX2 "size" "I" ∈ sg_W0 := sg_m1 (List.mem_of_getElem? (i := 203) rfl) rfl
theorem kw_229 : Cond.fieldLinkNest RX6 48 RX2 "size" "I" RX11 ∈ sg_WN := sg_n1 (List.mem_of_getElem? (i := 204) rfl) rfl
theorem kw_230 : Cond.fieldLinkNest RX11 241 RX2 "size" "I" RX11 ∈ sg_WN := sg_n1 (List.mem_of_getElem? (i := 205) rfl) rfl
theorem kw_231 : Cond.classLink RX7 18 RX1 ∈ sg_W0 := sg_m1 (List.mem_of_getElem? (i := 213) rfl) rfl
theorem kw_232 : Cond.arrayOver (.object RX1) ∈ sg_WN := sg_n1 (List.mem_of_getElem? (i := 214) rfl) rfl
theorem kw_233 : Cond.fieldLink RX7 24 RX7 "blade" "LSingingSaw$Blade;" ∈ sg_W0 := sg_m1 (List.mem_of_getElem? (i := 215) rfl) rfl
theorem kw_234 : Cond.fieldLinkNest RX11 112 RX7 "blade" "LSingingSaw$Blade;" RX11 ∈ sg_WN := sg_n1 (List.mem_of_getElem? (i := 216) rfl) rfl
theorem kw_235 : Cond.fieldLink RX7 28 RX7 "hand" "LSingingSaw$Hand;" ∈ sg_W0 := sg_m1 (List.mem_of_getElem? (i := 217) rfl) rfl
theorem kw_236 : Cond.fieldLinkNest RX11 212 RX7 "hand" "LSingingSaw$Hand;" RX11 ∈ sg_WN := sg_n1 (List.mem_of_getElem? (i := 218) rfl) rfl
theorem kw_237 : Cond.fieldLink RX7 32 RX7 "sentence" "LSingingSaw$Sentence;" ∈ sg_W0 := sg_m1 (List.mem_of_getElem? (i := 219) rfl) rfl
theorem kw_238 : Cond.fieldLinkNest RX11 324 RX7 "sentence" "LSingingSaw$Sentence;" RX11 ∈ sg_WN := sg_n1 (List.mem_of_getElem? (i := 220) rfl) rfl
theorem kw_239 : Cond.fieldLink RX7 12 RX7 "book" "LSingingSaw$Book;" ∈ sg_W0 := sg_m1 (List.mem_of_getElem? (i := 221) rfl) rfl
theorem kw_240 : Cond.fieldLinkNest RX11 237 RX7 "book" "LSingingSaw$Book;" RX11 ∈ sg_WN := sg_n1 (List.mem_of_getElem? (i := 222) rfl) rfl
theorem kw_241 : Cond.fieldLink RX7 20 RX7 "shelf" "[LSingingSaw$Blade;" ∈ sg_W0 := sg_m1 (List.mem_of_getElem? (i := 223) rfl) rfl
theorem kw_242 : Cond.fieldLinkNest RX11 300 RX7 "shelf" "[LSingingSaw$Blade;" RX11 ∈ sg_WN := sg_n1 (List.mem_of_getElem? (i := 224) rfl) rfl
theorem kw_243 : Cond.arrayOver (.object RX7) ∈ sg_WN := sg_n1 (List.mem_of_getElem? (i := 236) rfl) rfl
theorem kw_244 : Cond.classLink RX11 51 RX0 ∈ sg_W0 := sg_m1 (List.mem_of_getElem? (i := 237) rfl) rfl
theorem kw_245 : Cond.instantiable RX0 11 ∈ sg_W0 := sg_m1 (List.mem_of_getElem? (i := 238) rfl) rfl
theorem kw_246 : Cond.methodLinkNest RX11 53 yX0_init RX11 ∈ sg_WN := sg_n1 (List.mem_of_getElem? (i := 239) rfl) rfl
theorem kw_247 : Cond.instanceMethod yX0_init ∈ sg_W0 := sg_m2 (List.mem_of_getElem? (i := 0) rfl) rfl
theorem kw_248 : Cond.code yX0_init cX0_init 1 none ∈ sg_W0 := sg_m2 (List.mem_of_getElem? (i := 1) rfl) rfl
theorem kw_249 : Cond.methodLink RX0 3 ⟨"java/lang/Object", "<init>", "()V"⟩ ∈ sg_W0 := sg_m2 (List.mem_of_getElem? (i := 2) rfl) rfl
theorem kw_250 : Cond.classLink RX0 18 RX4 ∈ sg_W0 := sg_m2 (List.mem_of_getElem? (i := 3) rfl) rfl
theorem kw_251 : Cond.methodLink RX0 20 yX4_init ∈ sg_W0 := sg_m2 (List.mem_of_getElem? (i := 4) rfl) rfl
theorem kw_252 : Cond.fieldLink RX0 9 RX0 "heights" "[I" ∈ sg_W0 := sg_m2 (List.mem_of_getElem? (i := 5) rfl) rfl
theorem kw_253 : Cond.fieldLink RX0 15 RX0 "walls" "[I" ∈ sg_W0 := sg_m2 (List.mem_of_getElem? (i := 6) rfl) rfl
theorem kw_254 : Cond.fieldLink RX0 23 RX0 "places" "LSingingSaw$Row;" ∈ sg_W0 := sg_m2 (List.mem_of_getElem? (i := 7) rfl) rfl
theorem kw_255 : Cond.fieldLinkNest RX11 178 RX0 "places" "LSingingSaw$Row;" RX11 ∈ sg_WN := sg_n2 (List.mem_of_getElem? (i := 8) rfl) rfl
theorem kw_256 : Cond.fieldLinkNest RX5 141 RX0 "places" "LSingingSaw$Row;" RX11 ∈ sg_WN := sg_n2 (List.mem_of_getElem? (i := 9) rfl) rfl
theorem kw_257 : Cond.fieldLink RX0 27 RX0 "size" "I" ∈ sg_W0 := sg_m2 (List.mem_of_getElem? (i := 10) rfl) rfl
theorem kw_258 : Cond.fieldLink RX0 31 RX0 "unit" "I" ∈ sg_W0 := sg_m2 (List.mem_of_getElem? (i := 11) rfl) rfl
theorem kw_259 : Cond.fieldLink RX0 34 RX0 "brokenAt" "I" ∈ sg_W0 := sg_m2 (List.mem_of_getElem? (i := 12) rfl) rfl
theorem kw_260 : Cond.fieldLinkNest RX11 175 RX0 "brokenAt" "I" RX11 ∈ sg_WN := sg_n2 (List.mem_of_getElem? (i := 13) rfl) rfl
theorem kw_261 : Cond.fieldLinkNest RX5 143 RX0 "brokenAt" "I" RX11 ∈ sg_WN := sg_n2 (List.mem_of_getElem? (i := 14) rfl) rfl
theorem kw_262 : Cond.fieldLink RX0 37 RX0 "mostStrain" "I" ∈ sg_W0 := sg_m2 (List.mem_of_getElem? (i := 15) rfl) rfl
theorem kw_263 : Cond.fieldLinkNest RX5 138 RX0 "mostStrain" "I" RX11 ∈ sg_WN := sg_n2 (List.mem_of_getElem? (i := 16) rfl) rfl
theorem kw_264 : Cond.fieldLink RX0 40 RX0 "voice" "I" ∈ sg_W0 := sg_m2 (List.mem_of_getElem? (i := 17) rfl) rfl
theorem kw_265 : Cond.fieldLinkNest RX5 123 RX0 "voice" "I" RX11 ∈ sg_WN := sg_n2 (List.mem_of_getElem? (i := 18) rfl) rfl
theorem kw_266 : Cond.fieldLinkNest RX11 228 RX0 "voice" "I" RX11 ∈ sg_WN := sg_n2 (List.mem_of_getElem? (i := 19) rfl) rfl
theorem kw_267 : Cond.fieldLink RX0 43 RX0 "voicePiece" "I" ∈ sg_W0 := sg_m2 (List.mem_of_getElem? (i := 20) rfl) rfl
theorem kw_268 : Cond.fieldLinkNest RX5 132 RX0 "voicePiece" "I" RX11 ∈ sg_WN := sg_n2 (List.mem_of_getElem? (i := 21) rfl) rfl
theorem kw_269 : Cond.fieldLinkNest RX11 231 RX0 "voicePiece" "I" RX11 ∈ sg_WN := sg_n2 (List.mem_of_getElem? (i := 22) rfl) rfl
theorem kw_270 : Cond.fieldLink RX0 46 RX0 "voiceRings" "I" ∈ sg_W0 := sg_m2 (List.mem_of_getElem? (i := 23) rfl) rfl
theorem kw_271 : Cond.fieldLinkNest RX5 135 RX0 "voiceRings" "I" RX11 ∈ sg_WN := sg_n2 (List.mem_of_getElem? (i := 24) rfl) rfl
theorem kw_272 : Cond.fieldLinkNest RX11 234 RX0 "voiceRings" "I" RX11 ∈ sg_WN := sg_n2 (List.mem_of_getElem? (i := 25) rfl) rfl
theorem kw_273 : Cond.fieldLink RX0 49 RX0 "voiceTwice" "Z" ∈ sg_W0 := sg_m2 (List.mem_of_getElem? (i := 26) rfl) rfl
theorem kw_274 : Cond.fieldLinkNest RX5 146 RX0 "voiceTwice" "Z" RX11 ∈ sg_WN := sg_n2 (List.mem_of_getElem? (i := 27) rfl) rfl
theorem kw_275 : Cond.classLink RX11 58 RX10 ∈ sg_W0 := sg_m2 (List.mem_of_getElem? (i := 51) rfl) rfl
theorem kw_276 : Cond.instantiable RX10 7 ∈ sg_W0 := sg_m2 (List.mem_of_getElem? (i := 52) rfl) rfl
theorem kw_277 : Cond.methodLinkNest RX11 60 yX10_init RX11 ∈ sg_WN := sg_n2 (List.mem_of_getElem? (i := 53) rfl) rfl
theorem kw_278 : Cond.instanceMethod yX10_init ∈ sg_W0 := sg_m2 (List.mem_of_getElem? (i := 54) rfl) rfl
theorem kw_279 : Cond.code yX10_init cX10_init 1 none ∈ sg_W0 := sg_m2 (List.mem_of_getElem? (i := 55) rfl) rfl
theorem kw_280 : Cond.methodLink RX10 3 ⟨"java/lang/Object", "<init>", "()V"⟩ ∈ sg_W0 := sg_m2 (List.mem_of_getElem? (i := 56) rfl) rfl
theorem kw_281 : Cond.classLink RX10 9 RX4 ∈ sg_W0 := sg_m2 (List.mem_of_getElem? (i := 57) rfl) rfl
theorem kw_282 : Cond.methodLink RX10 11 yX4_init ∈ sg_W0 := sg_m2 (List.mem_of_getElem? (i := 58) rfl) rfl
theorem kw_283 : Cond.fieldLink RX10 14 RX10 "strengths" "LSingingSaw$Row;" ∈ sg_W0 := sg_m2 (List.mem_of_getElem? (i := 59) rfl) rfl
theorem kw_284 : Cond.fieldLinkNest RX11 208 RX10 "strengths" "LSingingSaw$Row;" RX11 ∈ sg_WN := sg_n2 (List.mem_of_getElem? (i := 60) rfl) rfl
theorem kw_285 : Cond.fieldLinkNest RX0 147 RX10 "strengths" "LSingingSaw$Row;" RX11 ∈ sg_WN := sg_n2 (List.mem_of_getElem? (i := 61) rfl) rfl
theorem kw_286 : Cond.fieldLink RX10 20 RX10 "pitch" "I" ∈ sg_W0 := sg_m2 (List.mem_of_getElem? (i := 62) rfl) rfl
theorem kw_287 : Cond.fieldLinkNest RX0 97 RX10 "pitch" "I" RX11 ∈ sg_WN := sg_n2 (List.mem_of_getElem? (i := 63) rfl) rfl
theorem kw_288 : Cond.fieldLinkNest RX11 189 RX10 "pitch" "I" RX11 ∈ sg_WN := sg_n2 (List.mem_of_getElem? (i := 64) rfl) rfl
theorem kw_289 : Cond.fieldLink RX10 24 RX10 "first" "I" ∈ sg_W0 := sg_m2 (List.mem_of_getElem? (i := 65) rfl) rfl
theorem kw_290 : Cond.fieldLinkNest RX0 105 RX10 "first" "I" RX11 ∈ sg_WN := sg_n2 (List.mem_of_getElem? (i := 66) rfl) rfl
theorem kw_291 : Cond.fieldLinkNest RX11 192 RX10 "first" "I" RX11 ∈ sg_WN := sg_n2 (List.mem_of_getElem? (i := 67) rfl) rfl
theorem kw_292 : Cond.fieldLink RX10 27 RX10 "last" "I" ∈ sg_W0 := sg_m2 (List.mem_of_getElem? (i := 68) rfl) rfl
theorem kw_293 : Cond.fieldLinkNest RX0 111 RX10 "last" "I" RX11 ∈ sg_WN := sg_n2 (List.mem_of_getElem? (i := 69) rfl) rfl
theorem kw_294 : Cond.fieldLinkNest RX11 195 RX10 "last" "I" RX11 ∈ sg_WN := sg_n2 (List.mem_of_getElem? (i := 70) rfl) rfl
theorem kw_295 : Cond.fieldLink RX10 30 RX10 "rings" "I" ∈ sg_W0 := sg_m2 (List.mem_of_getElem? (i := 71) rfl) rfl
theorem kw_296 : Cond.fieldLinkNest RX0 127 RX10 "rings" "I" RX11 ∈ sg_WN := sg_n2 (List.mem_of_getElem? (i := 72) rfl) rfl
theorem kw_297 : Cond.fieldLinkNest RX11 205 RX10 "rings" "I" RX11 ∈ sg_WN := sg_n2 (List.mem_of_getElem? (i := 73) rfl) rfl
theorem kw_298 : Cond.fieldLink RX10 33 RX10 "kept" "Z" ∈ sg_W0 := sg_m2 (List.mem_of_getElem? (i := 74) rfl) rfl
theorem kw_299 : Cond.fieldLinkNest RX0 114 RX10 "kept" "Z" RX11 ∈ sg_WN := sg_n2 (List.mem_of_getElem? (i := 75) rfl) rfl
theorem kw_300 : Cond.fieldLinkNest RX11 198 RX10 "kept" "Z" RX11 ∈ sg_WN := sg_n2 (List.mem_of_getElem? (i := 76) rfl) rfl
theorem kw_301 : Cond.fieldLink RX10 37 RX10 "twice" "Z" ∈ sg_W0 := sg_m2 (List.mem_of_getElem? (i := 77) rfl) rfl
theorem kw_302 : Cond.fieldLinkNest RX0 121 RX10 "twice" "Z" RX11 ∈ sg_WN := sg_n2 (List.mem_of_getElem? (i := 78) rfl) rfl
theorem kw_303 : Cond.fieldLinkNest RX11 202 RX10 "twice" "Z" RX11 ∈ sg_WN := sg_n2 (List.mem_of_getElem? (i := 79) rfl) rfl
theorem kw_304 : Cond.classLink RX11 71 RX6 ∈ sg_W0 := sg_m2 (List.mem_of_getElem? (i := 95) rfl) rfl
theorem kw_305 : Cond.instantiable RX6 3 ∈ sg_W0 := sg_m2 (List.mem_of_getElem? (i := 96) rfl) rfl
theorem kw_306 : Cond.methodLinkNest RX11 73 yX6_init RX11 ∈ sg_WN := sg_n2 (List.mem_of_getElem? (i := 97) rfl) rfl
theorem kw_307 : Cond.instanceMethod yX6_init ∈ sg_W0 := sg_m2 (List.mem_of_getElem? (i := 98) rfl) rfl
theorem kw_308 : Cond.code yX6_init cX6_init 1 none ∈ sg_W0 := sg_m2 (List.mem_of_getElem? (i := 99) rfl) rfl
theorem kw_309 : Cond.methodLink RX6 3 ⟨"java/lang/Object", "<init>", "()V"⟩ ∈ sg_W0 := sg_m2 (List.mem_of_getElem? (i := 100) rfl) rfl
theorem kw_310 : Cond.classLink RX6 15 RX4 ∈ sg_W0 := sg_m2 (List.mem_of_getElem? (i := 101) rfl) rfl
theorem kw_311 : Cond.methodLink RX6 17 yX4_init ∈ sg_W0 := sg_m2 (List.mem_of_getElem? (i := 102) rfl) rfl
theorem kw_312 : Cond.fieldLink RX6 9 RX6 "costs" "[I" ∈ sg_W0 := sg_m2 (List.mem_of_getElem? (i := 103) rfl) rfl
theorem kw_313 : Cond.fieldLink RX6 20 RX6 "notes" "LSingingSaw$Row;" ∈ sg_W0 := sg_m2 (List.mem_of_getElem? (i := 104) rfl) rfl
theorem kw_314 : Cond.fieldLink RX6 24 RX6 "bends" "LSingingSaw$Row;" ∈ sg_W0 := sg_m2 (List.mem_of_getElem? (i := 105) rfl) rfl
theorem kw_315 : Cond.fieldLinkNest RX11 265 RX6 "bends" "LSingingSaw$Row;" RX11 ∈ sg_WN := sg_n2 (List.mem_of_getElem? (i := 106) rfl) rfl
theorem kw_316 : Cond.classLink RX11 78 RX4 ∈ sg_W0 := sg_m2 (List.mem_of_getElem? (i := 114) rfl) rfl
theorem kw_317 : Cond.methodLink RX11 80 yX4_init ∈ sg_W0 := sg_m2 (List.mem_of_getElem? (i := 115) rfl) rfl
theorem kw_318 : Cond.methodLink RX11 115 yX1_addAlike ∈ sg_W0 := sg_m2 (List.mem_of_getElem? (i := 116) rfl) rfl
theorem kw_319 : Cond.instanceMethod yX1_addAlike ∈ sg_W0 := sg_m2 (List.mem_of_getElem? (i := 117) rfl) rfl
theorem kw_320 : Cond.selects RX1 yX1_addAlike yX1_addAlike ∈ sg_W0 := sg_m2 (List.mem_of_getElem? (i := 118) rfl) rfl
theorem kw_321 : Cond.code yX1_addAlike cX1_addAlike 7 none ∈ sg_W0 := sg_m2 (List.mem_of_getElem? (i := 119) rfl) rfl
theorem kw_322 : Cond.methodLink RX11 119 yX1_fillUntold ∈ sg_W0 := sg_m2 (List.mem_of_getElem? (i := 120) rfl) rfl
theorem kw_323 : Cond.instanceMethod yX1_fillUntold ∈ sg_W0 := sg_m2 (List.mem_of_getElem? (i := 121) rfl) rfl
theorem kw_324 : Cond.selects RX1 yX1_fillUntold yX1_fillUntold ∈ sg_W0 := sg_m2 (List.mem_of_getElem? (i := 122) rfl) rfl
theorem kw_325 : Cond.code yX1_fillUntold cX1_fillUntold 1 none ∈ sg_W0 := sg_m2 (List.mem_of_getElem? (i := 123) rfl) rfl
theorem kw_326 : Cond.fieldLink RX11 10 RX11 "tape" "LSingingSaw$Tape;" ∈ sg_W0 := sg_m2 (List.mem_of_getElem? (i := 124) rfl) rfl
theorem kw_327 : Cond.fieldLink RX11 21 RX11 "tokens" "LSingingSaw$Tokens;" ∈ sg_W0 := sg_m2 (List.mem_of_getElem? (i := 125) rfl) rfl
theorem kw_328 : Cond.fieldLink RX11 39 RX11 "now" "LSingingSaw$State;" ∈ sg_W0 := sg_m2 (List.mem_of_getElem? (i := 126) rfl) rfl
theorem kw_329 : Cond.fieldLink RX11 43 RX11 "images" "[LSingingSaw$State;" ∈ sg_W0 := sg_m2 (List.mem_of_getElem? (i := 127) rfl) rfl
theorem kw_330 : Cond.fieldLink RX11 47 RX11 "trial" "LSingingSaw$Blade;" ∈ sg_W0 := sg_m2 (List.mem_of_getElem? (i := 128) rfl) rfl
theorem kw_331 : Cond.fieldLink RX11 54 RX11 "bent" "LSingingSaw$Bent;" ∈ sg_W0 := sg_m2 (List.mem_of_getElem? (i := 129) rfl) rfl
theorem kw_332 : Cond.fieldLink RX11 61 RX11 "latest" "LSingingSaw$Tone;" ∈ sg_W0 := sg_m2 (List.mem_of_getElem? (i := 130) rfl) rfl
theorem kw_333 : Cond.fieldLink RX11 65 RX11 "wanted" "LSingingSaw$Tone;" ∈ sg_W0 := sg_m2 (List.mem_of_getElem? (i := 131) rfl) rfl
theorem kw_334 : Cond.fieldLink RX11 68 RX11 "shunned" "LSingingSaw$Tone;" ∈ sg_W0 := sg_m2 (List.mem_of_getElem? (i := 132) rfl) rfl
theorem kw_335 : Cond.fieldLink RX11 74 RX11 "tune" "LSingingSaw$Song;" ∈ sg_W0 := sg_m2 (List.mem_of_getElem? (i := 133) rfl) rfl
theorem kw_336 : Cond.fieldLink RX11 83 RX11 "found" "LSingingSaw$Row;" ∈ sg_W0 := sg_m2 (List.mem_of_getElem? (i := 134) rfl) rfl
theorem kw_337 : Cond.fieldLink RX11 87 RX11 "steps" "LSingingSaw$Row;" ∈ sg_W0 := sg_m2 (List.mem_of_getElem? (i := 135) rfl) rfl
theorem kw_338 : Cond.fieldLink RX11 90 RX11 "partVoices" "LSingingSaw$Row;" ∈ sg_W0 := sg_m2 (List.mem_of_getElem? (i := 136) rfl) rfl
theorem kw_339 : Cond.fieldLink RX11 93 RX11 "bookVoices" "LSingingSaw$Row;" ∈ sg_W0 := sg_m2 (List.mem_of_getElem? (i := 137) rfl) rfl
theorem kw_340 : Cond.fieldLink RX11 96 RX11 "bookPieces" "LSingingSaw$Row;" ∈ sg_W0 := sg_m2 (List.mem_of_getElem? (i := 138) rfl) rfl
theorem kw_341 : Cond.fieldLink RX11 99 RX11 "trueTicks" "LSingingSaw$Row;" ∈ sg_W0 := sg_m2 (List.mem_of_getElem? (i := 139) rfl) rfl
theorem kw_342 : Cond.fieldLink RX11 102 RX11 "faultKind" "I" ∈ sg_W0 := sg_m2 (List.mem_of_getElem? (i := 140) rfl) rfl
theorem kw_343 : Cond.fieldLink RX11 106 RX11 "bestWorth" "I" ∈ sg_W0 := sg_m2 (List.mem_of_getElem? (i := 141) rfl) rfl
theorem kw_344 : Cond.fieldLink RX11 109 RX11 "formRange" "I" ∈ sg_W0 := sg_m2 (List.mem_of_getElem? (i := 142) rfl) rfl
theorem kw_345 : Cond.methodLink RL 26 yX11_feed ∈ sg_W0 := sg_m2 (List.mem_of_getElem? (i := 182) rfl) rfl
theorem kw_346 : Cond.instanceMethod yX11_feed ∈ sg_W0 := sg_m2 (List.mem_of_getElem? (i := 183) rfl) rfl
theorem kw_347 : Cond.selects RX11 yX11_feed yX11_feed ∈ sg_W0 := sg_m2 (List.mem_of_getElem? (i := 184) rfl) rfl
theorem kw_348 : Cond.code yX11_feed cX11_feed 6 (some .int) ∈ sg_W0 := sg_m2 (List.mem_of_getElem? (i := 185) rfl) rfl
theorem kw_349 : Cond.methodLink RX11 125 yX8_append ∈ sg_W0 := sg_m2 (List.mem_of_getElem? (i := 186) rfl) rfl
theorem kw_350 : Cond.instanceMethod yX8_append ∈ sg_W0 := sg_m2 (List.mem_of_getElem? (i := 187) rfl) rfl
theorem kw_351 : Cond.selects RX8 yX8_append yX8_append ∈ sg_W0 := sg_m2 (List.mem_of_getElem? (i := 188) rfl) rfl
theorem kw_352 : Cond.code yX8_append cX8_append 3 none ∈ sg_W0 := sg_m2 (List.mem_of_getElem? (i := 189) rfl) rfl
theorem kw_353 : Cond.methodLink RL 31 yX11_end ∈ sg_W0 := sg_m2 (List.mem_of_getElem? (i := 190) rfl) rfl
theorem kw_354 : Cond.instanceMethod yX11_end ∈ sg_W0 := sg_m2 (List.mem_of_getElem? (i := 191) rfl) rfl
theorem kw_355 : Cond.selects RX11 yX11_end yX11_end ∈ sg_W0 := sg_m2 (List.mem_of_getElem? (i := 192) rfl) rfl
theorem kw_356 : Cond.code yX11_end cX11_end 2 (some .boolean) ∈ sg_W0 := sg_m2 (List.mem_of_getElem? (i := 193) rfl) rfl
theorem kw_357 : Cond.methodLink RL 36 yX11_blade ∈ sg_W0 := sg_m2 (List.mem_of_getElem? (i := 194) rfl) rfl
theorem kw_358 : Cond.instanceMethod yX11_blade ∈ sg_W0 := sg_m2 (List.mem_of_getElem? (i := 195) rfl) rfl
theorem kw_359 : Cond.selects RX11 yX11_blade yX11_blade ∈ sg_W0 := sg_m2 (List.mem_of_getElem? (i := 196) rfl) rfl
theorem kw_360 : Cond.code yX11_blade cX11_blade 2 (some .int) ∈ sg_W0 := sg_m2 (List.mem_of_getElem? (i := 197) rfl) rfl
theorem kw_361 : Cond.methodLink RX11 128 yX9_open ∈ sg_W0 := sg_m2 (List.mem_of_getElem? (i := 198) rfl) rfl
theorem kw_362 : Cond.instanceMethod yX9_open ∈ sg_W0 := sg_m2 (List.mem_of_getElem? (i := 199) rfl) rfl
theorem kw_363 : Cond.selects RX9 yX9_open yX9_open ∈ sg_W0 := sg_m2 (List.mem_of_getElem? (i := 200) rfl) rfl
theorem kw_364 : Cond.code yX9_open cX9_open 2 none ∈ sg_W0 := sg_m2 (List.mem_of_getElem? (i := 201) rfl) rfl
theorem kw_365 : Cond.methodLink RX9 35 yX9_advance ∈ sg_W0 := sg_m2 (List.mem_of_getElem? (i := 202) rfl) rfl
theorem kw_366 : Cond.instanceMethod yX9_advance ∈ sg_W0 := sg_m2 (List.mem_of_getElem? (i := 203) rfl) rfl
theorem kw_367 : Cond.selects RX9 yX9_advance yX9_advance ∈ sg_W0 := sg_m2 (List.mem_of_getElem? (i := 204) rfl) rfl
theorem kw_368 : Cond.code yX9_advance cX9_advance 4 none ∈ sg_W0 := sg_m2 (List.mem_of_getElem? (i := 205) rfl) rfl
theorem kw_369 : Cond.methodLink RX9 38 yX8_byteAt ∈ sg_W0 := sg_m2 (List.mem_of_getElem? (i := 206) rfl) rfl
theorem kw_370 : Cond.instanceMethod yX8_byteAt ∈ sg_W0 := sg_m2 (List.mem_of_getElem? (i := 207) rfl) rfl
theorem kw_371 : Cond.selects RX8 yX8_byteAt yX8_byteAt ∈ sg_W0 := sg_m2 (List.mem_of_getElem? (i := 208) rfl) rfl
theorem kw_372 : Cond.code yX8_byteAt cX8_byteAt 2 (some .int) ∈ sg_W0 := sg_m2 (List.mem_of_getElem? (i := 209) rfl) rfl
theorem kw_373 : Cond.methodLink RX9 44 yX9_isBlank ∈ sg_W0 := sg_m2 (List.mem_of_getElem? (i := 210) rfl) rfl
theorem kw_374 : Cond.static yX9_isBlank ∈ sg_W0 := sg_m2 (List.mem_of_getElem? (i := 211) rfl) rfl
theorem kw_375 : Cond.code yX9_isBlank cX9_isBlank 1 (some .boolean) ∈ sg_W0 := sg_m2 (List.mem_of_getElem? (i := 212) rfl) rfl
theorem kw_376 : Cond.methodLink RX9 51 yX9_isOfRun ∈ sg_W0 := sg_m2 (List.mem_of_getElem? (i := 213) rfl) rfl
theorem kw_377 : Cond.static yX9_isOfRun ∈ sg_W0 := sg_m2 (List.mem_of_getElem? (i := 214) rfl) rfl
theorem kw_378 : Cond.code yX9_isOfRun cX9_isOfRun 1 (some .boolean) ∈ sg_W0 := sg_m2 (List.mem_of_getElem? (i := 215) rfl) rfl
theorem kw_379 : Cond.methodLink RX9 54 yX9_kindOfRun ∈ sg_W0 := sg_m2 (List.mem_of_getElem? (i := 216) rfl) rfl
theorem kw_380 : Cond.static yX9_kindOfRun ∈ sg_W0 := sg_m2 (List.mem_of_getElem? (i := 217) rfl) rfl
theorem kw_381 : Cond.code yX9_kindOfRun cX9_kindOfRun 2 (some .int) ∈ sg_W0 := sg_m2 (List.mem_of_getElem? (i := 218) rfl) rfl
theorem kw_382 : Cond.methodLink RX9 58 yX9_isSignByte ∈ sg_W0 := sg_m2 (List.mem_of_getElem? (i := 219) rfl) rfl
theorem kw_383 : Cond.static yX9_isSignByte ∈ sg_W0 := sg_m2 (List.mem_of_getElem? (i := 220) rfl) rfl
theorem kw_384 : Cond.code yX9_isSignByte cX9_isSignByte 1 (some .boolean) ∈ sg_W0 := sg_m2 (List.mem_of_getElem? (i := 221) rfl) rfl
theorem kw_385 : Cond.methodLink RX11 131 yX1_readFrom ∈ sg_W0 := sg_m2 (List.mem_of_getElem? (i := 222) rfl) rfl
theorem kw_386 : Cond.instanceMethod yX1_readFrom ∈ sg_W0 := sg_m2 (List.mem_of_getElem? (i := 223) rfl) rfl
theorem kw_387 : Cond.selects RX1 yX1_readFrom yX1_readFrom ∈ sg_W0 := sg_m2 (List.mem_of_getElem? (i := 224) rfl) rfl
theorem kw_388 : Cond.code yX1_readFrom cX1_readFrom 3 none ∈ sg_W0 := sg_m2 (List.mem_of_getElem? (i := 225) rfl) rfl
theorem kw_389 : Cond.methodLink RX1 59 yX9_isGoingOn ∈ sg_W0 := sg_m2 (List.mem_of_getElem? (i := 226) rfl) rfl
theorem kw_390 : Cond.instanceMethod yX9_isGoingOn ∈ sg_W0 := sg_m2 (List.mem_of_getElem? (i := 227) rfl) rfl
theorem kw_391 : Cond.selects RX9 yX9_isGoingOn yX9_isGoingOn ∈ sg_W0 := sg_m2 (List.mem_of_getElem? (i := 228) rfl) rfl
theorem kw_392 : Cond.code yX9_isGoingOn cX9_isGoingOn 1 (some .boolean) ∈ sg_W0 := sg_m2 (List.mem_of_getElem? (i := 229) rfl) rfl
theorem kw_393 : Cond.methodLink RX1 65 yX1_readLine ∈ sg_W0 := sg_m2 (List.mem_of_getElem? (i := 230) rfl) rfl
theorem kw_394 : Cond.instanceMethod yX1_readLine ∈ sg_W0 := sg_m2 (List.mem_of_getElem? (i := 232) rfl) rfl
theorem kw_395 : Cond.code yX1_readLine cX1_readLine 2 none ∈ sg_W0 := sg_m2 (List.mem_of_getElem? (i := 233) rfl) rfl
theorem kw_396 : Cond.methodLink RX1 81 yX9_skipWord ∈ sg_W0 := sg_m2 (List.mem_of_getElem? (i := 235) rfl) rfl
theorem kw_397 : Cond.instanceMethod yX9_skipWord ∈ sg_W0 := sg_m2 (List.mem_of_getElem? (i := 236) rfl) rfl
theorem kw_398 : Cond.selects RX9 yX9_skipWord yX9_skipWord ∈ sg_W0 := sg_m2 (List.mem_of_getElem? (i := 237) rfl) rfl
theorem kw_399 : Cond.code yX9_skipWord cX9_skipWord 3 (some .boolean) ∈ sg_W0 := sg_m2 (List.mem_of_getElem? (i := 238) rfl) rfl
theorem kw_400 : Cond.methodLink RX9 71 yX9_isWord ∈ sg_W0 := sg_m2 (List.mem_of_getElem? (i := 239) rfl) rfl
theorem kw_401 : Cond.instanceMethod yX9_isWord ∈ sg_W0 := sg_m3 (List.mem_of_getElem? (i := 0) rfl) rfl
theorem kw_402 : Cond.selects RX9 yX9_isWord yX9_isWord ∈ sg_W0 := sg_m3 (List.mem_of_getElem? (i := 1) rfl) rfl
theorem kw_403 : Cond.code yX9_isWord cX9_isWord 3 (some .boolean) ∈ sg_W0 := sg_m3 (List.mem_of_getElem? (i := 2) rfl) rfl
theorem kw_404 : Cond.methodLink RX9 61 yJ0_length_8abf5 ∈ sg_W0 := sg_m3 (List.mem_of_getElem? (i := 3) rfl) rfl
theorem kw_405 : Cond.instanceMethod yJ0_length_8abf5 ∈ sg_W0 := sg_m3 (List.mem_of_getElem? (i := 4) rfl) rfl
theorem kw_406 : Cond.selects RJ0 yJ0_length_8abf5 yJ0_length_8abf5 ∈ sg_W0 := sg_m3 (List.mem_of_getElem? (i := 5) rfl) rfl
theorem kw_407 : Cond.code yJ0_length_8abf5 cJ0_length_8abf5 1 (some .int) ∈ sg_W0 := sg_m3 (List.mem_of_getElem? (i := 6) rfl) rfl
theorem kw_408 : Cond.methodLink RJ0 335 yJ0_coder_7d493 ∈ sg_W0 := sg_m3 (List.mem_of_getElem? (i := 7) rfl) rfl
theorem kw_409 : Cond.instanceMethod yJ0_coder_7d493 ∈ sg_W0 := sg_m3 (List.mem_of_getElem? (i := 8) rfl) rfl
theorem kw_410 : Cond.selects RJ0 yJ0_coder_7d493 yJ0_coder_7d493 ∈ sg_W0 := sg_m3 (List.mem_of_getElem? (i := 9) rfl) rfl
theorem kw_411 : Cond.code yJ0_coder_7d493 cJ0_coder_7d493 1 (some .byte) ∈ sg_W0 := sg_m3 (List.mem_of_getElem? (i := 10) rfl) rfl
theorem kw_412 : Cond.fieldLink RJ0 38 RJ0 "COMPACT_STRINGS" "Z" ∈ sg_W0 := sg_m3 (List.mem_of_getElem? (i := 11) rfl) rfl
theorem kw_413 : Cond.methodLink RX9 67 yJ0_charAt_5068e ∈ sg_W0 := sg_m3 (List.mem_of_getElem? (i := 13) rfl) rfl
theorem kw_414 : Cond.instanceMethod yJ0_charAt_5068e ∈ sg_W0 := sg_m3 (List.mem_of_getElem? (i := 14) rfl) rfl
theorem kw_415 : Cond.selects RJ0 yJ0_charAt_5068e yJ0_charAt_5068e ∈ sg_W0 := sg_m3 (List.mem_of_getElem? (i := 15) rfl) rfl
theorem kw_416 : Cond.code yJ0_charAt_5068e cJ0_charAt_5068e 2 (some .char) ∈ sg_W0 := sg_m3 (List.mem_of_getElem? (i := 16) rfl) rfl
theorem kw_417 : Cond.methodLink RJ0 492 yJ0_isLatin1_aae02 ∈ sg_W0 := sg_m3 (List.mem_of_getElem? (i := 17) rfl) rfl
theorem kw_418 : Cond.instanceMethod yJ0_isLatin1_aae02 ∈ sg_W0 := sg_m3 (List.mem_of_getElem? (i := 18) rfl) rfl
theorem kw_419 : Cond.selects RJ0 yJ0_isLatin1_aae02 yJ0_isLatin1_aae02 ∈ sg_W0 := sg_m3 (List.mem_of_getElem? (i := 19) rfl) rfl
theorem kw_420 : Cond.code yJ0_isLatin1_aae02 cJ0_isLatin1_aae02 1 (some .boolean) ∈ sg_W0 := sg_m3 (List.mem_of_getElem? (i := 20) rfl) rfl
theorem kw_421 : Cond.methodLink RJ0 495 yJ1_charAt_3b067 ∈ sg_W0 := sg_m3 (List.mem_of_getElem? (i := 21) rfl) rfl
theorem kw_422 : Cond.static yJ1_charAt_3b067 ∈ sg_W0 := sg_m3 (List.mem_of_getElem? (i := 22) rfl) rfl
theorem kw_423 : Cond.code yJ1_charAt_3b067 cJ1_charAt_3b067 2 (some .char) ∈ sg_W0 := sg_m3 (List.mem_of_getElem? (i := 23) rfl) rfl
theorem kw_424 : Cond.methodLink RJ1 9 yJ0_checkIndex_df160 ∈ sg_W0 := sg_m3 (List.mem_of_getElem? (i := 24) rfl) rfl
theorem kw_425 : Cond.static yJ0_checkIndex_df160 ∈ sg_W0 := sg_m3 (List.mem_of_getElem? (i := 25) rfl) rfl
theorem kw_426 : Cond.code yJ0_checkIndex_df160 cJ0_checkIndex_df160 2 none ∈ sg_W0 := sg_m3 (List.mem_of_getElem? (i := 26) rfl) rfl
theorem kw_427 : Cond.fieldLink RJ0 1053 RJ3 "SIOOBE_FORMATTER" "Ljava/util/function/BiFunction;" ∈ sg_W0 := sg_m3 (List.mem_of_getElem? (i := 27) rfl) rfl
theorem kw_428 : Cond.methodLink RJ0 1059 yJ3_checkIndex_8e157 ∈ sg_W0 := sg_m3 (List.mem_of_getElem? (i := 29) rfl) rfl
theorem kw_429 : Cond.static yJ3_checkIndex_8e157 ∈ sg_W0 := sg_m3 (List.mem_of_getElem? (i := 30) rfl) rfl
theorem kw_430 : Cond.code yJ3_checkIndex_8e157 cJ3_checkIndex_8e157 3 (some .int) ∈ sg_W0 := sg_m3 (List.mem_of_getElem? (i := 31) rfl) rfl
theorem kw_431 : Cond.methodLink RJ0 498 yJ2_charAt_3b067 ∈ sg_W0 := sg_m3 (List.mem_of_getElem? (i := 32) rfl) rfl
theorem kw_432 : Cond.static yJ2_charAt_3b067 ∈ sg_W0 := sg_m3 (List.mem_of_getElem? (i := 33) rfl) rfl
theorem kw_433 : Cond.code yJ2_charAt_3b067 cJ2_charAt_3b067 2 (some .char) ∈ sg_W0 := sg_m3 (List.mem_of_getElem? (i := 34) rfl) rfl
theorem kw_434 : Cond.methodLink RJ2 67 yJ2_checkIndex_2214a ∈ sg_W0 := sg_m3 (List.mem_of_getElem? (i := 35) rfl) rfl
theorem kw_435 : Cond.static yJ2_checkIndex_2214a ∈ sg_W0 := sg_m3 (List.mem_of_getElem? (i := 36) rfl) rfl
theorem kw_436 : Cond.code yJ2_checkIndex_2214a cJ2_checkIndex_2214a 2 none ∈ sg_W0 := sg_m3 (List.mem_of_getElem? (i := 37) rfl) rfl
theorem kw_437 : Cond.methodLink RJ2 48 yJ2_length_9d52b ∈ sg_W0 := sg_m3 (List.mem_of_getElem? (i := 38) rfl) rfl
theorem kw_438 : Cond.static yJ2_length_9d52b ∈ sg_W0 := sg_m3 (List.mem_of_getElem? (i := 39) rfl) rfl
theorem kw_439 : Cond.code yJ2_length_9d52b cJ2_length_9d52b 1 (some .int) ∈ sg_W0 := sg_m3 (List.mem_of_getElem? (i := 40) rfl) rfl
theorem kw_440 : Cond.methodLink RJ2 414 yJ0_checkIndex_df160 ∈ sg_W0 := sg_m3 (List.mem_of_getElem? (i := 41) rfl) rfl
theorem kw_441 : Cond.methodLink RJ2 71 yJ2_getChar_3b067 ∈ sg_W0 := sg_m3 (List.mem_of_getElem? (i := 42) rfl) rfl
theorem kw_442 : Cond.static yJ2_getChar_3b067 ∈ sg_W0 := sg_m3 (List.mem_of_getElem? (i := 43) rfl) rfl
theorem kw_443 : Cond.code yJ2_getChar_3b067 cJ2_getChar_3b067 2 (some .char) ∈ sg_W0 := sg_m3 (List.mem_of_getElem? (i := 44) rfl) rfl
theorem kw_444 : Cond.fieldLink RJ2 44 RJ2 "$assertionsDisabled" "Z" ∈ sg_W0 := sg_m3 (List.mem_of_getElem? (i := 45) rfl) rfl
theorem kw_445 : Cond.fieldLink RJ2 59 RJ2 "HI_BYTE_SHIFT" "I" ∈ sg_W0 := sg_m3 (List.mem_of_getElem? (i := 47) rfl) rfl
theorem kw_446 : Cond.fieldLink RJ2 63 RJ2 "LO_BYTE_SHIFT" "I" ∈ sg_W0 := sg_m3 (List.mem_of_getElem? (i := 49) rfl) rfl
theorem kw_447 : Cond.methodLink RX1 85 yX1_readPieces ∈ sg_W0 := sg_m3 (List.mem_of_getElem? (i := 51) rfl) rfl
theorem kw_448 : Cond.instanceMethod yX1_readPieces ∈ sg_W0 := sg_m3 (List.mem_of_getElem? (i := 53) rfl) rfl
theorem kw_449 : Cond.code yX1_readPieces cX1_readPieces 8 none ∈ sg_W0 := sg_m3 (List.mem_of_getElem? (i := 54) rfl) rfl
theorem kw_450 : Cond.methodLink RX1 100 yX9_number ∈ sg_W0 := sg_m3 (List.mem_of_getElem? (i := 55) rfl) rfl
theorem kw_451 : Cond.instanceMethod yX9_number ∈ sg_W0 := sg_m3 (List.mem_of_getElem? (i := 56) rfl) rfl
theorem kw_452 : Cond.selects RX9 yX9_number yX9_number ∈ sg_W0 := sg_m3 (List.mem_of_getElem? (i := 57) rfl) rfl
theorem kw_453 : Cond.code yX9_number cX9_number 5 (some .int) ∈ sg_W0 := sg_m3 (List.mem_of_getElem? (i := 58) rfl) rfl
theorem kw_454 : Cond.methodLink RX9 81 yX9_fail ∈ sg_W0 := sg_m3 (List.mem_of_getElem? (i := 59) rfl) rfl
theorem kw_455 : Cond.instanceMethod yX9_fail ∈ sg_W0 := sg_m3 (List.mem_of_getElem? (i := 60) rfl) rfl
theorem kw_456 : Cond.selects RX9 yX9_fail yX9_fail ∈ sg_W0 := sg_m3 (List.mem_of_getElem? (i := 61) rfl) rfl
theorem kw_457 : Cond.code yX9_fail cX9_fail 2 none ∈ sg_W0 := sg_m3 (List.mem_of_getElem? (i := 62) rfl) rfl
theorem kw_458 : Cond.methodLink RX1 103 yJ9_min_7cf53 ∈ sg_W0 := sg_m3 (List.mem_of_getElem? (i := 63) rfl) rfl
theorem kw_459 : Cond.static yJ9_min_7cf53 ∈ sg_W0 := sg_m3 (List.mem_of_getElem? (i := 64) rfl) rfl
theorem kw_460 : Cond.code yJ9_min_7cf53 cJ9_min_7cf53 2 (some .int) ∈ sg_W0 := sg_m3 (List.mem_of_getElem? (i := 65) rfl) rfl
theorem kw_461 : Cond.methodLink RX1 109 yX9_skipSign ∈ sg_W0 := sg_m3 (List.mem_of_getElem? (i := 68) rfl) rfl
theorem kw_462 : Cond.instanceMethod yX9_skipSign ∈ sg_W0 := sg_m3 (List.mem_of_getElem? (i := 69) rfl) rfl
theorem kw_463 : Cond.selects RX9 yX9_skipSign yX9_skipSign ∈ sg_W0 := sg_m3 (List.mem_of_getElem? (i := 70) rfl) rfl
theorem kw_464 : Cond.code yX9_skipSign cX9_skipSign 3 (some .boolean) ∈ sg_W0 := sg_m3 (List.mem_of_getElem? (i := 71) rfl) rfl
theorem kw_465 : Cond.methodLink RX9 75 yX9_isSign ∈ sg_W0 := sg_m3 (List.mem_of_getElem? (i := 72) rfl) rfl
theorem kw_466 : Cond.instanceMethod yX9_isSign ∈ sg_W0 := sg_m3 (List.mem_of_getElem? (i := 73) rfl) rfl
theorem kw_467 : Cond.selects RX9 yX9_isSign yX9_isSign ∈ sg_W0 := sg_m3 (List.mem_of_getElem? (i := 74) rfl) rfl
theorem kw_468 : Cond.code yX9_isSign cX9_isSign 2 (some .boolean) ∈ sg_W0 := sg_m3 (List.mem_of_getElem? (i := 75) rfl) rfl
theorem kw_469 : Cond.methodLinkNest RX1 112 yX11_signed RX11 ∈ sg_WN := sg_n3 (List.mem_of_getElem? (i := 76) rfl) rfl
theorem kw_470 : Cond.static yX11_signed ∈ sg_W0 := sg_m3 (List.mem_of_getElem? (i := 77) rfl) rfl
theorem kw_471 : Cond.code yX11_signed cX11_signed 2 (some .int) ∈ sg_W0 := sg_m3 (List.mem_of_getElem? (i := 78) rfl) rfl
theorem kw_472 : Cond.methodLink RX1 34 yX1_addAlike ∈ sg_W0 := sg_m3 (List.mem_of_getElem? (i := 79) rfl) rfl
theorem kw_473 : Cond.methodLink RX1 89 yX9_isWord ∈ sg_W0 := sg_m3 (List.mem_of_getElem? (i := 81) rfl) rfl
theorem kw_474 : Cond.methodLink RX1 92 yX1_readOnce ∈ sg_W0 := sg_m3 (List.mem_of_getElem? (i := 82) rfl) rfl
theorem kw_475 : Cond.static yX1_readOnce ∈ sg_W0 := sg_m3 (List.mem_of_getElem? (i := 83) rfl) rfl
theorem kw_476 : Cond.code yX1_readOnce cX1_readOnce 2 (some .int) ∈ sg_W0 := sg_m3 (List.mem_of_getElem? (i := 84) rfl) rfl
theorem kw_477 : Cond.methodLink RX1 73 yX9_fail ∈ sg_W0 := sg_m3 (List.mem_of_getElem? (i := 85) rfl) rfl
theorem kw_478 : Cond.methodLink RX1 97 yX9_advance ∈ sg_W0 := sg_m3 (List.mem_of_getElem? (i := 86) rfl) rfl
theorem kw_479 : Cond.methodLink RX1 69 yX9_mustBeSign ∈ sg_W0 := sg_m3 (List.mem_of_getElem? (i := 88) rfl) rfl
theorem kw_480 : Cond.instanceMethod yX9_mustBeSign ∈ sg_W0 := sg_m3 (List.mem_of_getElem? (i := 89) rfl) rfl
theorem kw_481 : Cond.selects RX9 yX9_mustBeSign yX9_mustBeSign ∈ sg_W0 := sg_m3 (List.mem_of_getElem? (i := 90) rfl) rfl
theorem kw_482 : Cond.code yX9_mustBeSign cX9_mustBeSign 2 none ∈ sg_W0 := sg_m3 (List.mem_of_getElem? (i := 91) rfl) rfl
theorem kw_483 : Cond.methodLink RX9 78 yX9_skipSign ∈ sg_W0 := sg_m3 (List.mem_of_getElem? (i := 92) rfl) rfl
theorem kw_484 : Cond.methodLink RX1 76 yX1_fillUntold ∈ sg_W0 := sg_m3 (List.mem_of_getElem? (i := 93) rfl) rfl
theorem kw_485 : Cond.methodLink RX11 139 yX11_closeText ∈ sg_W0 := sg_m3 (List.mem_of_getElem? (i := 94) rfl) rfl
theorem kw_486 : Cond.instanceMethod yX11_closeText ∈ sg_W0 := sg_m3 (List.mem_of_getElem? (i := 96) rfl) rfl
theorem kw_487 : Cond.code yX11_closeText cX11_closeText 2 (some .int) ∈ sg_W0 := sg_m3 (List.mem_of_getElem? (i := 97) rfl) rfl
theorem kw_488 : Cond.methodLink RX11 248 yX11_forgetAnswers ∈ sg_W0 := sg_m3 (List.mem_of_getElem? (i := 98) rfl) rfl
theorem kw_489 : Cond.instanceMethod yX11_forgetAnswers ∈ sg_W0 := sg_m3 (List.mem_of_getElem? (i := 100) rfl) rfl
theorem kw_490 : Cond.code yX11_forgetAnswers cX11_forgetAnswers 1 none ∈ sg_W0 := sg_m3 (List.mem_of_getElem? (i := 101) rfl) rfl
theorem kw_491 : Cond.arrayClass .byte ∈ sg_W0 := sg_m3 (List.mem_of_getElem? (i := 102) rfl) rfl
theorem kw_492 : Cond.methodLink RL 41 yX11_fault ∈ sg_W0 := sg_m3 (List.mem_of_getElem? (i := 103) rfl) rfl
theorem kw_493 : Cond.instanceMethod yX11_fault ∈ sg_W0 := sg_m3 (List.mem_of_getElem? (i := 104) rfl) rfl
theorem kw_494 : Cond.selects RX11 yX11_fault yX11_fault ∈ sg_W0 := sg_m3 (List.mem_of_getElem? (i := 105) rfl) rfl
theorem kw_495 : Cond.code yX11_fault cX11_fault 1 (some .int) ∈ sg_W0 := sg_m3 (List.mem_of_getElem? (i := 106) rfl) rfl
theorem kw_496 : Cond.methodLink RL 58 yX11_breaks ∈ sg_W0 := sg_m3 (List.mem_of_getElem? (i := 107) rfl) rfl
theorem kw_497 : Cond.instanceMethod yX11_breaks ∈ sg_W0 := sg_m3 (List.mem_of_getElem? (i := 108) rfl) rfl
theorem kw_498 : Cond.selects RX11 yX11_breaks yX11_breaks ∈ sg_W0 := sg_m3 (List.mem_of_getElem? (i := 109) rfl) rfl
theorem kw_499 : Cond.code yX11_breaks cX11_breaks 3 (some .int) ∈ sg_W0 := sg_m3 (List.mem_of_getElem? (i := 110) rfl) rfl
theorem kw_500 : Cond.methodLink RX11 158 yX11_isBend ∈ sg_W0 := sg_m3 (List.mem_of_getElem? (i := 111) rfl) rfl
theorem kw_501 : Cond.static yX11_isBend ∈ sg_W0 := sg_m3 (List.mem_of_getElem? (i := 112) rfl) rfl
theorem kw_502 : Cond.code yX11_isBend cX11_isBend 2 (some .boolean) ∈ sg_W0 := sg_m3 (List.mem_of_getElem? (i := 113) rfl) rfl
theorem kw_503 : Cond.methodLink RX11 171 yX0_bendTo ∈ sg_W0 := sg_m3 (List.mem_of_getElem? (i := 114) rfl) rfl
theorem kw_504 : Cond.instanceMethod yX0_bendTo ∈ sg_W0 := sg_m3 (List.mem_of_getElem? (i := 115) rfl) rfl
theorem kw_505 : Cond.selects RX0 yX0_bendTo yX0_bendTo ∈ sg_W0 := sg_m3 (List.mem_of_getElem? (i := 116) rfl) rfl
theorem kw_506 : Cond.code yX0_bendTo cX0_bendTo 7 none ∈ sg_W0 := sg_m3 (List.mem_of_getElem? (i := 117) rfl) rfl
theorem kw_507 : Cond.methodLink RX0 56 yJ9_min_7cf53 ∈ sg_W0 := sg_m3 (List.mem_of_getElem? (i := 118) rfl) rfl
theorem kw_508 : Cond.methodLink RX0 63 yX1_curve ∈ sg_W0 := sg_m3 (List.mem_of_getElem? (i := 119) rfl) rfl
theorem kw_509 : Cond.instanceMethod yX1_curve ∈ sg_W0 := sg_m3 (List.mem_of_getElem? (i := 120) rfl) rfl
theorem kw_510 : Cond.selects RX1 yX1_curve yX1_curve ∈ sg_W0 := sg_m3 (List.mem_of_getElem? (i := 121) rfl) rfl
theorem kw_511 : Cond.code yX1_curve cX1_curve 7 (some .int) ∈ sg_W0 := sg_m3 (List.mem_of_getElem? (i := 122) rfl) rfl
theorem kw_512 : Cond.methodLink RX1 42 yX1_stiffness ∈ sg_W0 := sg_m3 (List.mem_of_getElem? (i := 123) rfl) rfl
theorem kw_513 : Cond.instanceMethod yX1_stiffness ∈ sg_W0 := sg_m3 (List.mem_of_getElem? (i := 125) rfl) rfl
theorem kw_514 : Cond.code yX1_stiffness cX1_stiffness 2 (some .int) ∈ sg_W0 := sg_m3 (List.mem_of_getElem? (i := 126) rfl) rfl
theorem kw_515 : Cond.methodLink RX1 38 yX1_has ∈ sg_W0 := sg_m3 (List.mem_of_getElem? (i := 127) rfl) rfl
theorem kw_516 : Cond.instanceMethod yX1_has ∈ sg_W0 := sg_m3 (List.mem_of_getElem? (i := 128) rfl) rfl
theorem kw_517 : Cond.selects RX1 yX1_has yX1_has ∈ sg_W0 := sg_m3 (List.mem_of_getElem? (i := 129) rfl) rfl
theorem kw_518 : Cond.code yX1_has cX1_has 2 (some .boolean) ∈ sg_W0 := sg_m3 (List.mem_of_getElem? (i := 130) rfl) rfl
theorem kw_519 : Cond.methodLinkNest RX1 46 yX11_within RX11 ∈ sg_WN := sg_n3 (List.mem_of_getElem? (i := 131) rfl) rfl
theorem kw_520 : Cond.static yX11_within ∈ sg_W0 := sg_m3 (List.mem_of_getElem? (i := 132) rfl) rfl
theorem kw_521 : Cond.code yX11_within cX11_within 2 (some .int) ∈ sg_W0 := sg_m3 (List.mem_of_getElem? (i := 133) rfl) rfl
theorem kw_522 : Cond.methodLink RX11 297 yJ9_min_7cf53 ∈ sg_W0 := sg_m3 (List.mem_of_getElem? (i := 134) rfl) rfl
theorem kw_523 : Cond.methodLink RX11 291 yJ9_max_7cf53 ∈ sg_W0 := sg_m3 (List.mem_of_getElem? (i := 135) rfl) rfl
theorem kw_524 : Cond.methodLink RX0 67 yJ9_abs_0f7a4 ∈ sg_W0 := sg_m3 (List.mem_of_getElem? (i := 136) rfl) rfl
theorem kw_525 : Cond.static yJ9_abs_0f7a4 ∈ sg_W0 := sg_m3 (List.mem_of_getElem? (i := 137) rfl) rfl
theorem kw_526 : Cond.code yJ9_abs_0f7a4 cJ9_abs_0f7a4 1 (some .int) ∈ sg_W0 := sg_m3 (List.mem_of_getElem? (i := 138) rfl) rfl
theorem kw_527 : Cond.methodLink RX0 74 yJ9_max_7cf53 ∈ sg_W0 := sg_m3 (List.mem_of_getElem? (i := 139) rfl) rfl
theorem kw_528 : Cond.methodLink RX0 80 yX4_clear ∈ sg_W0 := sg_m3 (List.mem_of_getElem? (i := 140) rfl) rfl
theorem kw_529 : Cond.instanceMethod yX4_clear ∈ sg_W0 := sg_m3 (List.mem_of_getElem? (i := 141) rfl) rfl
theorem kw_530 : Cond.selects RX4 yX4_clear yX4_clear ∈ sg_W0 := sg_m3 (List.mem_of_getElem? (i := 142) rfl) rfl
theorem kw_531 : Cond.code yX4_clear cX4_clear 1 none ∈ sg_W0 := sg_m3 (List.mem_of_getElem? (i := 143) rfl) rfl
theorem kw_532 : Cond.methodLink RX0 83 yX0_isPlace ∈ sg_W0 := sg_m3 (List.mem_of_getElem? (i := 144) rfl) rfl
theorem kw_533 : Cond.instanceMethod yX0_isPlace ∈ sg_W0 := sg_m3 (List.mem_of_getElem? (i := 146) rfl) rfl
theorem kw_534 : Cond.code yX0_isPlace cX0_isPlace 3 (some .boolean) ∈ sg_W0 := sg_m3 (List.mem_of_getElem? (i := 147) rfl) rfl
theorem kw_535 : Cond.methodLink RX0 87 yX4_add ∈ sg_W0 := sg_m3 (List.mem_of_getElem? (i := 148) rfl) rfl
theorem kw_536 : Cond.instanceMethod yX4_add ∈ sg_W0 := sg_m3 (List.mem_of_getElem? (i := 149) rfl) rfl
theorem kw_537 : Cond.selects RX4 yX4_add yX4_add ∈ sg_W0 := sg_m3 (List.mem_of_getElem? (i := 150) rfl) rfl
theorem kw_538 : Cond.code yX4_add cX4_add 2 none ∈ sg_W0 := sg_m3 (List.mem_of_getElem? (i := 151) rfl) rfl
theorem kw_539 : Cond.methodLink RL 62 yX11_place ∈ sg_W0 := sg_m3 (List.mem_of_getElem? (i := 152) rfl) rfl
theorem kw_540 : Cond.instanceMethod yX11_place ∈ sg_W0 := sg_m3 (List.mem_of_getElem? (i := 153) rfl) rfl
theorem kw_541 : Cond.selects RX11 yX11_place yX11_place ∈ sg_W0 := sg_m3 (List.mem_of_getElem? (i := 154) rfl) rfl
theorem kw_542 : Cond.code yX11_place cX11_place 4 (some .int) ∈ sg_W0 := sg_m3 (List.mem_of_getElem? (i := 155) rfl) rfl
theorem kw_543 : Cond.methodLink RX11 182 yX4_at ∈ sg_W0 := sg_m3 (List.mem_of_getElem? (i := 156) rfl) rfl
theorem kw_544 : Cond.instanceMethod yX4_at ∈ sg_W0 := sg_m3 (List.mem_of_getElem? (i := 157) rfl) rfl
theorem kw_545 : Cond.selects RX4 yX4_at yX4_at ∈ sg_W0 := sg_m3 (List.mem_of_getElem? (i := 158) rfl) rfl
theorem kw_546 : Cond.code yX4_at cX4_at 2 (some .int) ∈ sg_W0 := sg_m3 (List.mem_of_getElem? (i := 159) rfl) rfl
theorem kw_547 : Cond.methodLink RL 67 yX11_tone ∈ sg_W0 := sg_m3 (List.mem_of_getElem? (i := 160) rfl) rfl
theorem kw_548 : Cond.instanceMethod yX11_tone ∈ sg_W0 := sg_m3 (List.mem_of_getElem? (i := 161) rfl) rfl
theorem kw_549 : Cond.selects RX11 yX11_tone yX11_tone ∈ sg_W0 := sg_m3 (List.mem_of_getElem? (i := 162) rfl) rfl
theorem kw_550 : Cond.code yX11_tone cX11_tone 5 (some .int) ∈ sg_W0 := sg_m3 (List.mem_of_getElem? (i := 163) rfl) rfl
theorem kw_551 : Cond.methodLink RX11 185 yX0_sound ∈ sg_W0 := sg_m3 (List.mem_of_getElem? (i := 164) rfl) rfl
theorem kw_552 : Cond.instanceMethod yX0_sound ∈ sg_W0 := sg_m3 (List.mem_of_getElem? (i := 165) rfl) rfl
theorem kw_553 : Cond.selects RX0 yX0_sound yX0_sound ∈ sg_W0 := sg_m3 (List.mem_of_getElem? (i := 166) rfl) rfl
theorem kw_554 : Cond.code yX0_sound cX0_sound 6 (some .boolean) ∈ sg_W0 := sg_m3 (List.mem_of_getElem? (i := 167) rfl) rfl
theorem kw_555 : Cond.methodLink RX0 91 yX4_at ∈ sg_W0 := sg_m3 (List.mem_of_getElem? (i := 168) rfl) rfl
theorem kw_556 : Cond.methodLink RX0 94 yX0_leastTone ∈ sg_W0 := sg_m3 (List.mem_of_getElem? (i := 169) rfl) rfl
theorem kw_557 : Cond.instanceMethod yX0_leastTone ∈ sg_W0 := sg_m3 (List.mem_of_getElem? (i := 171) rfl) rfl
theorem kw_558 : Cond.code yX0_leastTone cX0_leastTone 8 (some .int) ∈ sg_W0 := sg_m3 (List.mem_of_getElem? (i := 172) rfl) rfl
theorem kw_559 : Cond.methodLink RX0 136 yX0_enoughAlone ∈ sg_W0 := sg_m3 (List.mem_of_getElem? (i := 173) rfl) rfl
theorem kw_560 : Cond.instanceMethod yX0_enoughAlone ∈ sg_W0 := sg_m3 (List.mem_of_getElem? (i := 175) rfl) rfl
theorem kw_561 : Cond.code yX0_enoughAlone cX0_enoughAlone 3 (some .int) ∈ sg_W0 := sg_m3 (List.mem_of_getElem? (i := 176) rfl) rfl
theorem kw_562 : Cond.constant RX0 143 4000000 ∈ sg_W0 := sg_m3 (List.mem_of_getElem? (i := 177) rfl) rfl
theorem kw_563 : Cond.methodLink RX0 144 yX0_root ∈ sg_W0 := sg_m3 (List.mem_of_getElem? (i := 178) rfl) rfl
theorem kw_564 : Cond.static yX0_root ∈ sg_W0 := sg_m3 (List.mem_of_getElem? (i := 179) rfl) rfl
theorem kw_565 : Cond.code yX0_root cX0_root 3 (some .int) ∈ sg_W0 := sg_m3 (List.mem_of_getElem? (i := 180) rfl) rfl
theorem kw_566 : Cond.methodLink RX0 139 yX0_reaches ∈ sg_W0 := sg_m3 (List.mem_of_getElem? (i := 181) rfl) rfl
theorem kw_567 : Cond.instanceMethod yX0_reaches ∈ sg_W0 := sg_m3 (List.mem_of_getElem? (i := 183) rfl) rfl
theorem kw_568 : Cond.code yX0_reaches cX0_reaches 7 (some .boolean) ∈ sg_W0 := sg_m3 (List.mem_of_getElem? (i := 184) rfl) rfl
theorem kw_569 : Cond.methodLink RX0 102 yX0_firstOfRun ∈ sg_W0 := sg_m3 (List.mem_of_getElem? (i := 185) rfl) rfl
theorem kw_570 : Cond.instanceMethod yX0_firstOfRun ∈ sg_W0 := sg_m3 (List.mem_of_getElem? (i := 187) rfl) rfl
theorem kw_571 : Cond.code yX0_firstOfRun cX0_firstOfRun 4 (some .int) ∈ sg_W0 := sg_m3 (List.mem_of_getElem? (i := 188) rfl) rfl
theorem kw_572 : Cond.methodLink RX0 108 yX0_lastOfRun ∈ sg_W0 := sg_m3 (List.mem_of_getElem? (i := 189) rfl) rfl
theorem kw_573 : Cond.instanceMethod yX0_lastOfRun ∈ sg_W0 := sg_m3 (List.mem_of_getElem? (i := 191) rfl) rfl
theorem kw_574 : Cond.code yX0_lastOfRun cX0_lastOfRun 4 (some .int) ∈ sg_W0 := sg_m3 (List.mem_of_getElem? (i := 192) rfl) rfl
theorem kw_575 : Cond.methodLink RX0 117 yX0_isTwice ∈ sg_W0 := sg_m3 (List.mem_of_getElem? (i := 193) rfl) rfl
theorem kw_576 : Cond.instanceMethod yX0_isTwice ∈ sg_W0 := sg_m3 (List.mem_of_getElem? (i := 195) rfl) rfl
theorem kw_577 : Cond.code yX0_isTwice cX0_isTwice 6 (some .boolean) ∈ sg_W0 := sg_m3 (List.mem_of_getElem? (i := 196) rfl) rfl
theorem kw_578 : Cond.methodLink RX0 124 yX0_rings ∈ sg_W0 := sg_m3 (List.mem_of_getElem? (i := 197) rfl) rfl
theorem kw_579 : Cond.instanceMethod yX0_rings ∈ sg_W0 := sg_m3 (List.mem_of_getElem? (i := 199) rfl) rfl
theorem kw_580 : Cond.code yX0_rings cX0_rings 7 (some .int) ∈ sg_W0 := sg_m3 (List.mem_of_getElem? (i := 200) rfl) rfl
theorem kw_581 : Cond.methodLink RX0 129 yX0_tellStrengths ∈ sg_W0 := sg_m3 (List.mem_of_getElem? (i := 201) rfl) rfl
theorem kw_582 : Cond.instanceMethod yX0_tellStrengths ∈ sg_W0 := sg_m3 (List.mem_of_getElem? (i := 203) rfl) rfl
theorem kw_583 : Cond.code yX0_tellStrengths cX0_tellStrengths 9 none ∈ sg_W0 := sg_m3 (List.mem_of_getElem? (i := 204) rfl) rfl
theorem kw_584 : Cond.methodLink RL 71 yX11_run ∈ sg_W0 := sg_m3 (List.mem_of_getElem? (i := 205) rfl) rfl
theorem kw_585 : Cond.instanceMethod yX11_run ∈ sg_W0 := sg_m3 (List.mem_of_getElem? (i := 206) rfl) rfl
theorem kw_586 : Cond.selects RX11 yX11_run yX11_run ∈ sg_W0 := sg_m3 (List.mem_of_getElem? (i := 207) rfl) rfl
theorem kw_587 : Cond.code yX11_run cX11_run 2 (some .int) ∈ sg_W0 := sg_m3 (List.mem_of_getElem? (i := 208) rfl) rfl
theorem kw_588 : Cond.methodLink RL 76 yX11_bow ∈ sg_W0 := sg_m3 (List.mem_of_getElem? (i := 209) rfl) rfl
theorem kw_589 : Cond.instanceMethod yX11_bow ∈ sg_W0 := sg_m3 (List.mem_of_getElem? (i := 210) rfl) rfl
theorem kw_590 : Cond.selects RX11 yX11_bow yX11_bow ∈ sg_W0 := sg_m3 (List.mem_of_getElem? (i := 211) rfl) rfl
theorem kw_591 : Cond.code yX11_bow cX11_bow 2 (some .int) ∈ sg_W0 := sg_m3 (List.mem_of_getElem? (i := 212) rfl) rfl
theorem kw_592 : Cond.methodLink RL 80 yX11_where ∈ sg_W0 := sg_m3 (List.mem_of_getElem? (i := 213) rfl) rfl
theorem kw_593 : Cond.instanceMethod yX11_where ∈ sg_W0 := sg_m3 (List.mem_of_getElem? (i := 214) rfl) rfl
theorem kw_594 : Cond.selects RX11 yX11_where yX11_where ∈ sg_W0 := sg_m3 (List.mem_of_getElem? (i := 215) rfl) rfl
theorem kw_595 : Cond.code yX11_where cX11_where 10 (some .int) ∈ sg_W0 := sg_m3 (List.mem_of_getElem? (i := 216) rfl) rfl
theorem kw_596 : Cond.methodLink RL 84 yX11_worth ∈ sg_W0 := sg_m3 (List.mem_of_getElem? (i := 217) rfl) rfl
theorem kw_597 : Cond.instanceMethod yX11_worth ∈ sg_W0 := sg_m3 (List.mem_of_getElem? (i := 218) rfl) rfl
theorem kw_598 : Cond.selects RX11 yX11_worth yX11_worth ∈ sg_W0 := sg_m3 (List.mem_of_getElem? (i := 219) rfl) rfl
theorem kw_599 : Cond.code yX11_worth cX11_worth 1 (some .int) ∈ sg_W0 := sg_m3 (List.mem_of_getElem? (i := 220) rfl) rfl
theorem kw_600 : Cond.methodLink RL 88 yX11_hand ∈ sg_W0 := sg_m3 (List.mem_of_getElem? (i := 221) rfl) rfl
theorem kw_601 : Cond.instanceMethod yX11_hand ∈ sg_W0 := sg_m3 (List.mem_of_getElem? (i := 222) rfl) rfl
theorem kw_602 : Cond.selects RX11 yX11_hand yX11_hand ∈ sg_W0 := sg_m3 (List.mem_of_getElem? (i := 223) rfl) rfl
theorem kw_603 : Cond.code yX11_hand cX11_hand 2 (some .int) ∈ sg_W0 := sg_m3 (List.mem_of_getElem? (i := 224) rfl) rfl
theorem kw_604 : Cond.methodLink RX11 211 yX3_readFrom ∈ sg_W0 := sg_m3 (List.mem_of_getElem? (i := 225) rfl) rfl
theorem kw_605 : Cond.instanceMethod yX3_readFrom ∈ sg_W0 := sg_m3 (List.mem_of_getElem? (i := 226) rfl) rfl
theorem kw_606 : Cond.selects RX3 yX3_readFrom yX3_readFrom ∈ sg_W0 := sg_m3 (List.mem_of_getElem? (i := 227) rfl) rfl
theorem kw_607 : Cond.code yX3_readFrom cX3_readFrom 3 none ∈ sg_W0 := sg_m3 (List.mem_of_getElem? (i := 228) rfl) rfl
theorem kw_608 : Cond.methodLink RX3 28 yX9_isGoingOn ∈ sg_W0 := sg_m3 (List.mem_of_getElem? (i := 229) rfl) rfl
theorem kw_609 : Cond.methodLink RX3 34 yX3_readMove ∈ sg_W0 := sg_m3 (List.mem_of_getElem? (i := 230) rfl) rfl
theorem kw_610 : Cond.instanceMethod yX3_readMove ∈ sg_W0 := sg_m3 (List.mem_of_getElem? (i := 232) rfl) rfl
theorem kw_611 : Cond.code yX3_readMove cX3_readMove 4 none ∈ sg_W0 := sg_m3 (List.mem_of_getElem? (i := 233) rfl) rfl
theorem kw_612 : Cond.methodLink RX3 44 yX9_skipWord ∈ sg_W0 := sg_m3 (List.mem_of_getElem? (i := 235) rfl) rfl
theorem kw_613 : Cond.methodLink RX3 48 yX9_skipSign ∈ sg_W0 := sg_m3 (List.mem_of_getElem? (i := 236) rfl) rfl
theorem kw_614 : Cond.methodLink RX3 52 yX9_number ∈ sg_W0 := sg_m3 (List.mem_of_getElem? (i := 237) rfl) rfl
theorem kw_615 : Cond.methodLinkNest RX3 56 yX11_signed RX11 ∈ sg_WN := sg_n3 (List.mem_of_getElem? (i := 238) rfl) rfl
theorem kw_616 : Cond.methodLink RX3 64 yX9_mustBeWord ∈ sg_W0 := sg_m4 (List.mem_of_getElem? (i := 1) rfl) rfl
theorem kw_617 : Cond.instanceMethod yX9_mustBeWord ∈ sg_W0 := sg_m4 (List.mem_of_getElem? (i := 2) rfl) rfl
theorem kw_618 : Cond.selects RX9 yX9_mustBeWord yX9_mustBeWord ∈ sg_W0 := sg_m4 (List.mem_of_getElem? (i := 3) rfl) rfl
theorem kw_619 : Cond.code yX9_mustBeWord cX9_mustBeWord 2 none ∈ sg_W0 := sg_m4 (List.mem_of_getElem? (i := 4) rfl) rfl
theorem kw_620 : Cond.methodLink RX9 85 yX9_skipWord ∈ sg_W0 := sg_m4 (List.mem_of_getElem? (i := 5) rfl) rfl
theorem kw_621 : Cond.methodLink RX3 68 yX3_readTicks ∈ sg_W0 := sg_m4 (List.mem_of_getElem? (i := 6) rfl) rfl
theorem kw_622 : Cond.instanceMethod yX3_readTicks ∈ sg_W0 := sg_m4 (List.mem_of_getElem? (i := 8) rfl) rfl
theorem kw_623 : Cond.code yX3_readTicks cX3_readTicks 2 (some .int) ∈ sg_W0 := sg_m4 (List.mem_of_getElem? (i := 9) rfl) rfl
theorem kw_624 : Cond.methodLink RX3 72 yX3_move ∈ sg_W0 := sg_m4 (List.mem_of_getElem? (i := 10) rfl) rfl
theorem kw_625 : Cond.instanceMethod yX3_move ∈ sg_W0 := sg_m4 (List.mem_of_getElem? (i := 12) rfl) rfl
theorem kw_626 : Cond.code yX3_move cX3_move 5 none ∈ sg_W0 := sg_m4 (List.mem_of_getElem? (i := 13) rfl) rfl
theorem kw_627 : Cond.methodLink RX3 86 yX3_pass ∈ sg_W0 := sg_m4 (List.mem_of_getElem? (i := 14) rfl) rfl
theorem kw_628 : Cond.instanceMethod yX3_pass ∈ sg_W0 := sg_m4 (List.mem_of_getElem? (i := 16) rfl) rfl
theorem kw_629 : Cond.code yX3_pass cX3_pass 3 none ∈ sg_W0 := sg_m4 (List.mem_of_getElem? (i := 17) rfl) rfl
theorem kw_630 : Cond.methodLink RX3 78 yX3_shake ∈ sg_W0 := sg_m4 (List.mem_of_getElem? (i := 19) rfl) rfl
theorem kw_631 : Cond.instanceMethod yX3_shake ∈ sg_W0 := sg_m4 (List.mem_of_getElem? (i := 21) rfl) rfl
theorem kw_632 : Cond.code yX3_shake cX3_shake 5 none ∈ sg_W0 := sg_m4 (List.mem_of_getElem? (i := 22) rfl) rfl
theorem kw_633 : Cond.methodLinkNest RX3 89 yX11_within RX11 ∈ sg_WN := sg_n4 (List.mem_of_getElem? (i := 23) rfl) rfl
theorem kw_634 : Cond.methodLink RX3 83 yX9_fail ∈ sg_W0 := sg_m4 (List.mem_of_getElem? (i := 25) rfl) rfl
theorem kw_635 : Cond.methodLink RX3 38 yX9_mustBeSign ∈ sg_W0 := sg_m4 (List.mem_of_getElem? (i := 26) rfl) rfl
theorem kw_636 : Cond.methodLink RL 95 yX11_write ∈ sg_W0 := sg_m4 (List.mem_of_getElem? (i := 27) rfl) rfl
theorem kw_637 : Cond.instanceMethod yX11_write ∈ sg_W0 := sg_m4 (List.mem_of_getElem? (i := 28) rfl) rfl
theorem kw_638 : Cond.selects RX11 yX11_write yX11_write ∈ sg_W0 := sg_m4 (List.mem_of_getElem? (i := 29) rfl) rfl
theorem kw_639 : Cond.code yX11_write cX11_write 3 (some .int) ∈ sg_W0 := sg_m4 (List.mem_of_getElem? (i := 30) rfl) rfl
theorem kw_640 : Cond.methodLink RX11 244 yX2_add ∈ sg_W0 := sg_m4 (List.mem_of_getElem? (i := 31) rfl) rfl
theorem kw_641 : Cond.instanceMethod yX2_add ∈ sg_W0 := sg_m4 (List.mem_of_getElem? (i := 32) rfl) rfl
theorem kw_642 : Cond.selects RX2 yX2_add yX2_add ∈ sg_W0 := sg_m4 (List.mem_of_getElem? (i := 33) rfl) rfl
theorem kw_643 : Cond.code yX2_add cX2_add 3 none ∈ sg_W0 := sg_m4 (List.mem_of_getElem? (i := 34) rfl) rfl
theorem kw_644 : Cond.methodLink RX2 27 yX4_add ∈ sg_W0 := sg_m4 (List.mem_of_getElem? (i := 35) rfl) rfl
theorem kw_645 : Cond.methodLink RL 99 yX11_voice ∈ sg_W0 := sg_m4 (List.mem_of_getElem? (i := 36) rfl) rfl
theorem kw_646 : Cond.instanceMethod yX11_voice ∈ sg_W0 := sg_m4 (List.mem_of_getElem? (i := 37) rfl) rfl
theorem kw_647 : Cond.selects RX11 yX11_voice yX11_voice ∈ sg_W0 := sg_m4 (List.mem_of_getElem? (i := 38) rfl) rfl
theorem kw_648 : Cond.code yX11_voice cX11_voice 3 (some .int) ∈ sg_W0 := sg_m4 (List.mem_of_getElem? (i := 39) rfl) rfl
theorem kw_649 : Cond.methodLink RX11 251 yX11_hearBook ∈ sg_W0 := sg_m4 (List.mem_of_getElem? (i := 40) rfl) rfl
theorem kw_650 : Cond.instanceMethod yX11_hearBook ∈ sg_W0 := sg_m4 (List.mem_of_getElem? (i := 42) rfl) rfl
theorem kw_651 : Cond.code yX11_hearBook cX11_hearBook 2 none ∈ sg_W0 := sg_m4 (List.mem_of_getElem? (i := 43) rfl) rfl
theorem kw_652 : Cond.methodLink RX11 271 yX4_clear ∈ sg_W0 := sg_m4 (List.mem_of_getElem? (i := 44) rfl) rfl
theorem kw_653 : Cond.methodLink RX11 225 yX11_listenTo ∈ sg_W0 := sg_m4 (List.mem_of_getElem? (i := 45) rfl) rfl
theorem kw_654 : Cond.instanceMethod yX11_listenTo ∈ sg_W0 := sg_m4 (List.mem_of_getElem? (i := 47) rfl) rfl
theorem kw_655 : Cond.code yX11_listenTo cX11_listenTo 4 none ∈ sg_W0 := sg_m4 (List.mem_of_getElem? (i := 48) rfl) rfl
theorem kw_656 : Cond.methodLink RX11 349 yX0_listen ∈ sg_W0 := sg_m4 (List.mem_of_getElem? (i := 49) rfl) rfl
theorem kw_657 : Cond.instanceMethod yX0_listen ∈ sg_W0 := sg_m4 (List.mem_of_getElem? (i := 50) rfl) rfl
theorem kw_658 : Cond.selects RX0 yX0_listen yX0_listen ∈ sg_W0 := sg_m4 (List.mem_of_getElem? (i := 51) rfl) rfl
theorem kw_659 : Cond.code yX0_listen cX0_listen 8 none ∈ sg_W0 := sg_m4 (List.mem_of_getElem? (i := 52) rfl) rfl
theorem kw_660 : Cond.methodLink RX0 133 yX0_mostKept ∈ sg_W0 := sg_m4 (List.mem_of_getElem? (i := 53) rfl) rfl
theorem kw_661 : Cond.instanceMethod yX0_mostKept ∈ sg_W0 := sg_m4 (List.mem_of_getElem? (i := 55) rfl) rfl
theorem kw_662 : Cond.code yX0_mostKept cX0_mostKept 5 (some .int) ∈ sg_W0 := sg_m4 (List.mem_of_getElem? (i := 56) rfl) rfl
theorem kw_663 : Cond.methodLink RX11 278 yX4_add ∈ sg_W0 := sg_m4 (List.mem_of_getElem? (i := 57) rfl) rfl
theorem kw_664 : Cond.methodLink RL 103 yX11_range ∈ sg_W0 := sg_m4 (List.mem_of_getElem? (i := 58) rfl) rfl
theorem kw_665 : Cond.instanceMethod yX11_range ∈ sg_W0 := sg_m4 (List.mem_of_getElem? (i := 59) rfl) rfl
theorem kw_666 : Cond.selects RX11 yX11_range yX11_range ∈ sg_W0 := sg_m4 (List.mem_of_getElem? (i := 60) rfl) rfl
theorem kw_667 : Cond.code yX11_range cX11_range 6 (some .int) ∈ sg_W0 := sg_m4 (List.mem_of_getElem? (i := 61) rfl) rfl
theorem kw_668 : Cond.methodLink RL 107 yX11_song ∈ sg_W0 := sg_m4 (List.mem_of_getElem? (i := 62) rfl) rfl
theorem kw_669 : Cond.instanceMethod yX11_song ∈ sg_W0 := sg_m4 (List.mem_of_getElem? (i := 63) rfl) rfl
theorem kw_670 : Cond.selects RX11 yX11_song yX11_song ∈ sg_W0 := sg_m4 (List.mem_of_getElem? (i := 64) rfl) rfl
theorem kw_671 : Cond.code yX11_song cX11_song 3 (some .int) ∈ sg_W0 := sg_m4 (List.mem_of_getElem? (i := 65) rfl) rfl
theorem kw_672 : Cond.methodLink RX11 254 yX6_readNotes ∈ sg_W0 := sg_m4 (List.mem_of_getElem? (i := 66) rfl) rfl
theorem kw_673 : Cond.instanceMethod yX6_readNotes ∈ sg_W0 := sg_m4 (List.mem_of_getElem? (i := 67) rfl) rfl
theorem kw_674 : Cond.selects RX6 yX6_readNotes yX6_readNotes ∈ sg_W0 := sg_m4 (List.mem_of_getElem? (i := 68) rfl) rfl
theorem kw_675 : Cond.code yX6_readNotes cX6_readNotes 3 (some .boolean) ∈ sg_W0 := sg_m4 (List.mem_of_getElem? (i := 69) rfl) rfl
theorem kw_676 : Cond.methodLink RX6 27 yX4_clear ∈ sg_W0 := sg_m4 (List.mem_of_getElem? (i := 70) rfl) rfl
theorem kw_677 : Cond.methodLink RX6 36 yX8_pairAt ∈ sg_W0 := sg_m4 (List.mem_of_getElem? (i := 71) rfl) rfl
theorem kw_678 : Cond.instanceMethod yX8_pairAt ∈ sg_W0 := sg_m4 (List.mem_of_getElem? (i := 72) rfl) rfl
theorem kw_679 : Cond.selects RX8 yX8_pairAt yX8_pairAt ∈ sg_W0 := sg_m4 (List.mem_of_getElem? (i := 73) rfl) rfl
theorem kw_680 : Cond.code yX8_pairAt cX8_pairAt 2 (some .int) ∈ sg_W0 := sg_m4 (List.mem_of_getElem? (i := 74) rfl) rfl
theorem kw_681 : Cond.methodLink RX8 19 yX8_byteAt ∈ sg_W0 := sg_m4 (List.mem_of_getElem? (i := 75) rfl) rfl
theorem kw_682 : Cond.methodLinkNest RX6 40 yX11_isTone RX11 ∈ sg_WN := sg_n4 (List.mem_of_getElem? (i := 76) rfl) rfl
theorem kw_683 : Cond.static yX11_isTone ∈ sg_W0 := sg_m4 (List.mem_of_getElem? (i := 77) rfl) rfl
theorem kw_684 : Cond.code yX11_isTone cX11_isTone 1 (some .boolean) ∈ sg_W0 := sg_m4 (List.mem_of_getElem? (i := 78) rfl) rfl
theorem kw_685 : Cond.methodLink RX6 44 yX4_add ∈ sg_W0 := sg_m4 (List.mem_of_getElem? (i := 79) rfl) rfl
theorem kw_686 : Cond.methodLink RX11 258 yX11_isSlip ∈ sg_W0 := sg_m4 (List.mem_of_getElem? (i := 80) rfl) rfl
theorem kw_687 : Cond.static yX11_isSlip ∈ sg_W0 := sg_m4 (List.mem_of_getElem? (i := 81) rfl) rfl
theorem kw_688 : Cond.code yX11_isSlip cX11_isSlip 1 (some .boolean) ∈ sg_W0 := sg_m4 (List.mem_of_getElem? (i := 82) rfl) rfl
theorem kw_689 : Cond.methodLink RX11 261 yX6_play ∈ sg_W0 := sg_m4 (List.mem_of_getElem? (i := 83) rfl) rfl
theorem kw_690 : Cond.instanceMethod yX6_play ∈ sg_W0 := sg_m4 (List.mem_of_getElem? (i := 84) rfl) rfl
theorem kw_691 : Cond.selects RX6 yX6_play yX6_play ∈ sg_W0 := sg_m4 (List.mem_of_getElem? (i := 85) rfl) rfl
theorem kw_692 : Cond.code yX6_play cX6_play 7 (some .int) ∈ sg_W0 := sg_m4 (List.mem_of_getElem? (i := 86) rfl) rfl
theorem kw_693 : Cond.methodLink RX6 51 yX4_at ∈ sg_W0 := sg_m4 (List.mem_of_getElem? (i := 87) rfl) rfl
theorem kw_694 : Cond.methodLinkNest RX6 54 yX11_isNear RX11 ∈ sg_WN := sg_n4 (List.mem_of_getElem? (i := 88) rfl) rfl
theorem kw_695 : Cond.static yX11_isNear ∈ sg_W0 := sg_m4 (List.mem_of_getElem? (i := 89) rfl) rfl
theorem kw_696 : Cond.code yX11_isNear cX11_isNear 3 (some .boolean) ∈ sg_W0 := sg_m4 (List.mem_of_getElem? (i := 90) rfl) rfl
theorem kw_697 : Cond.methodLink RX11 286 yJ9_abs_0f7a4 ∈ sg_W0 := sg_m4 (List.mem_of_getElem? (i := 91) rfl) rfl
theorem kw_698 : Cond.methodLink RX6 58 yX6_costFrom ∈ sg_W0 := sg_m4 (List.mem_of_getElem? (i := 92) rfl) rfl
theorem kw_699 : Cond.instanceMethod yX6_costFrom ∈ sg_W0 := sg_m4 (List.mem_of_getElem? (i := 94) rfl) rfl
theorem kw_700 : Cond.code yX6_costFrom cX6_costFrom 5 (some .int) ∈ sg_W0 := sg_m4 (List.mem_of_getElem? (i := 95) rfl) rfl
theorem kw_701 : Cond.methodLink RX6 66 yX6_cheapestNext ∈ sg_W0 := sg_m4 (List.mem_of_getElem? (i := 96) rfl) rfl
theorem kw_702 : Cond.instanceMethod yX6_cheapestNext ∈ sg_W0 := sg_m4 (List.mem_of_getElem? (i := 98) rfl) rfl
theorem kw_703 : Cond.code yX6_cheapestNext cX6_cheapestNext 9 (some .int) ∈ sg_W0 := sg_m4 (List.mem_of_getElem? (i := 99) rfl) rfl
theorem kw_704 : Cond.methodLink RX6 69 yX6_costAt ∈ sg_W0 := sg_m4 (List.mem_of_getElem? (i := 100) rfl) rfl
theorem kw_705 : Cond.instanceMethod yX6_costAt ∈ sg_W0 := sg_m4 (List.mem_of_getElem? (i := 102) rfl) rfl
theorem kw_706 : Cond.code yX6_costAt cX6_costAt 4 (some .int) ∈ sg_W0 := sg_m4 (List.mem_of_getElem? (i := 103) rfl) rfl
theorem kw_707 : Cond.methodLink RX6 73 yX2_way ∈ sg_W0 := sg_m4 (List.mem_of_getElem? (i := 104) rfl) rfl
theorem kw_708 : Cond.instanceMethod yX2_way ∈ sg_W0 := sg_m4 (List.mem_of_getElem? (i := 105) rfl) rfl
theorem kw_709 : Cond.selects RX2 yX2_way yX2_way ∈ sg_W0 := sg_m4 (List.mem_of_getElem? (i := 106) rfl) rfl
theorem kw_710 : Cond.code yX2_way cX2_way 3 (some .int) ∈ sg_W0 := sg_m4 (List.mem_of_getElem? (i := 107) rfl) rfl
theorem kw_711 : Cond.methodLink RX2 34 yX4_at ∈ sg_W0 := sg_m4 (List.mem_of_getElem? (i := 108) rfl) rfl
theorem kw_712 : Cond.methodLink RX2 38 yJ9_abs_0f7a4 ∈ sg_W0 := sg_m4 (List.mem_of_getElem? (i := 109) rfl) rfl
theorem kw_713 : Cond.methodLink RX6 62 yX6_setCost ∈ sg_W0 := sg_m4 (List.mem_of_getElem? (i := 110) rfl) rfl
theorem kw_714 : Cond.instanceMethod yX6_setCost ∈ sg_W0 := sg_m4 (List.mem_of_getElem? (i := 112) rfl) rfl
theorem kw_715 : Cond.code yX6_setCost cX6_setCost 5 none ∈ sg_W0 := sg_m4 (List.mem_of_getElem? (i := 113) rfl) rfl
theorem kw_716 : Cond.methodLink RL 111 yX11_songAt ∈ sg_W0 := sg_m4 (List.mem_of_getElem? (i := 114) rfl) rfl
theorem kw_717 : Cond.instanceMethod yX11_songAt ∈ sg_W0 := sg_m4 (List.mem_of_getElem? (i := 115) rfl) rfl
theorem kw_718 : Cond.selects RX11 yX11_songAt yX11_songAt ∈ sg_W0 := sg_m4 (List.mem_of_getElem? (i := 116) rfl) rfl
theorem kw_719 : Cond.code yX11_songAt cX11_songAt 2 (some .int) ∈ sg_W0 := sg_m4 (List.mem_of_getElem? (i := 117) rfl) rfl
theorem kw_720 : Cond.methodLink RL 115 yX11_read ∈ sg_W0 := sg_m4 (List.mem_of_getElem? (i := 118) rfl) rfl
theorem kw_721 : Cond.instanceMethod yX11_read ∈ sg_W0 := sg_m4 (List.mem_of_getElem? (i := 119) rfl) rfl
theorem kw_722 : Cond.selects RX11 yX11_read yX11_read ∈ sg_W0 := sg_m4 (List.mem_of_getElem? (i := 120) rfl) rfl
theorem kw_723 : Cond.code yX11_read cX11_read 4 (some .int) ∈ sg_W0 := sg_m4 (List.mem_of_getElem? (i := 121) rfl) rfl
theorem kw_724 : Cond.methodLink RX11 268 yX11_isTone ∈ sg_W0 := sg_m4 (List.mem_of_getElem? (i := 122) rfl) rfl
theorem kw_725 : Cond.methodLink RX11 274 yX11_isNear ∈ sg_W0 := sg_m4 (List.mem_of_getElem? (i := 123) rfl) rfl
theorem kw_726 : Cond.methodLink RL 119 yX11_readAt ∈ sg_W0 := sg_m4 (List.mem_of_getElem? (i := 124) rfl) rfl
theorem kw_727 : Cond.instanceMethod yX11_readAt ∈ sg_W0 := sg_m4 (List.mem_of_getElem? (i := 125) rfl) rfl
theorem kw_728 : Cond.selects RX11 yX11_readAt yX11_readAt ∈ sg_W0 := sg_m4 (List.mem_of_getElem? (i := 126) rfl) rfl
theorem kw_729 : Cond.code yX11_readAt cX11_readAt 2 (some .int) ∈ sg_W0 := sg_m4 (List.mem_of_getElem? (i := 127) rfl) rfl
theorem kw_730 : Cond.methodLink RL 123 yX11_even ∈ sg_W0 := sg_m4 (List.mem_of_getElem? (i := 128) rfl) rfl
theorem kw_731 : Cond.instanceMethod yX11_even ∈ sg_W0 := sg_m4 (List.mem_of_getElem? (i := 129) rfl) rfl
theorem kw_732 : Cond.selects RX11 yX11_even yX11_even ∈ sg_W0 := sg_m4 (List.mem_of_getElem? (i := 130) rfl) rfl
theorem kw_733 : Cond.code yX11_even cX11_even 8 (some .int) ∈ sg_W0 := sg_m4 (List.mem_of_getElem? (i := 131) rfl) rfl
theorem kw_734 : Cond.methodLink RX11 280 yX11_hearParts ∈ sg_W0 := sg_m4 (List.mem_of_getElem? (i := 132) rfl) rfl
theorem kw_735 : Cond.instanceMethod yX11_hearParts ∈ sg_W0 := sg_m4 (List.mem_of_getElem? (i := 134) rfl) rfl
theorem kw_736 : Cond.code yX11_hearParts cX11_hearParts 8 none ∈ sg_W0 := sg_m4 (List.mem_of_getElem? (i := 135) rfl) rfl
theorem kw_737 : Cond.methodLink RX11 283 yX11_nearestPart ∈ sg_W0 := sg_m4 (List.mem_of_getElem? (i := 136) rfl) rfl
theorem kw_738 : Cond.instanceMethod yX11_nearestPart ∈ sg_W0 := sg_m4 (List.mem_of_getElem? (i := 138) rfl) rfl
theorem kw_739 : Cond.code yX11_nearestPart cX11_nearestPart 7 (some .int) ∈ sg_W0 := sg_m4 (List.mem_of_getElem? (i := 139) rfl) rfl
theorem kw_740 : Cond.methodLink RL 127 yX11_evenAt ∈ sg_W0 := sg_m4 (List.mem_of_getElem? (i := 140) rfl) rfl
theorem kw_741 : Cond.instanceMethod yX11_evenAt ∈ sg_W0 := sg_m4 (List.mem_of_getElem? (i := 141) rfl) rfl
theorem kw_742 : Cond.selects RX11 yX11_evenAt yX11_evenAt ∈ sg_W0 := sg_m4 (List.mem_of_getElem? (i := 142) rfl) rfl
theorem kw_743 : Cond.code yX11_evenAt cX11_evenAt 2 (some .int) ∈ sg_W0 := sg_m4 (List.mem_of_getElem? (i := 143) rfl) rfl
theorem kw_744 : Cond.methodLink RL 131 yX11_tremble ∈ sg_W0 := sg_m4 (List.mem_of_getElem? (i := 144) rfl) rfl
theorem kw_745 : Cond.instanceMethod yX11_tremble ∈ sg_W0 := sg_m4 (List.mem_of_getElem? (i := 145) rfl) rfl
theorem kw_746 : Cond.selects RX11 yX11_tremble yX11_tremble ∈ sg_W0 := sg_m4 (List.mem_of_getElem? (i := 146) rfl) rfl
theorem kw_747 : Cond.code yX11_tremble cX11_tremble 7 (some .int) ∈ sg_W0 := sg_m4 (List.mem_of_getElem? (i := 147) rfl) rfl
theorem kw_748 : Cond.methodLink RX11 294 yX11_within ∈ sg_W0 := sg_m4 (List.mem_of_getElem? (i := 148) rfl) rfl
theorem kw_749 : Cond.methodLink RL 135 yX11_keep ∈ sg_W0 := sg_m4 (List.mem_of_getElem? (i := 149) rfl) rfl
theorem kw_750 : Cond.instanceMethod yX11_keep ∈ sg_W0 := sg_m4 (List.mem_of_getElem? (i := 150) rfl) rfl
theorem kw_751 : Cond.selects RX11 yX11_keep yX11_keep ∈ sg_W0 := sg_m4 (List.mem_of_getElem? (i := 151) rfl) rfl
theorem kw_752 : Cond.code yX11_keep cX11_keep 2 (some .boolean) ∈ sg_W0 := sg_m4 (List.mem_of_getElem? (i := 152) rfl) rfl
theorem kw_753 : Cond.methodLink RL 139 yX11_take ∈ sg_W0 := sg_m4 (List.mem_of_getElem? (i := 153) rfl) rfl
theorem kw_754 : Cond.instanceMethod yX11_take ∈ sg_W0 := sg_m4 (List.mem_of_getElem? (i := 154) rfl) rfl
theorem kw_755 : Cond.selects RX11 yX11_take yX11_take ∈ sg_W0 := sg_m4 (List.mem_of_getElem? (i := 155) rfl) rfl
theorem kw_756 : Cond.code yX11_take cX11_take 2 (some .boolean) ∈ sg_W0 := sg_m4 (List.mem_of_getElem? (i := 156) rfl) rfl
theorem kw_757 : Cond.methodLink RL 143 yX11_which ∈ sg_W0 := sg_m4 (List.mem_of_getElem? (i := 157) rfl) rfl
theorem kw_758 : Cond.instanceMethod yX11_which ∈ sg_W0 := sg_m4 (List.mem_of_getElem? (i := 158) rfl) rfl
theorem kw_759 : Cond.selects RX11 yX11_which yX11_which ∈ sg_W0 := sg_m4 (List.mem_of_getElem? (i := 159) rfl) rfl
theorem kw_760 : Cond.code yX11_which cX11_which 5 (some .int) ∈ sg_W0 := sg_m4 (List.mem_of_getElem? (i := 160) rfl) rfl
theorem kw_761 : Cond.methodLink RX11 304 yX11_tellsTones ∈ sg_W0 := sg_m4 (List.mem_of_getElem? (i := 161) rfl) rfl
theorem kw_762 : Cond.instanceMethod yX11_tellsTones ∈ sg_W0 := sg_m4 (List.mem_of_getElem? (i := 163) rfl) rfl
theorem kw_763 : Cond.code yX11_tellsTones cX11_tellsTones 2 (some .boolean) ∈ sg_W0 := sg_m4 (List.mem_of_getElem? (i := 164) rfl) rfl
theorem kw_764 : Cond.methodLink RX11 362 yX8_byteAt ∈ sg_W0 := sg_m4 (List.mem_of_getElem? (i := 165) rfl) rfl
theorem kw_765 : Cond.methodLink RX11 365 yX8_pairAt ∈ sg_W0 := sg_m4 (List.mem_of_getElem? (i := 166) rfl) rfl
theorem kw_766 : Cond.methodLink RX11 308 yX11_isFitting ∈ sg_W0 := sg_m4 (List.mem_of_getElem? (i := 167) rfl) rfl
theorem kw_767 : Cond.instanceMethod yX11_isFitting ∈ sg_W0 := sg_m4 (List.mem_of_getElem? (i := 169) rfl) rfl
theorem kw_768 : Cond.code yX11_isFitting cX11_isFitting 5 (some .boolean) ∈ sg_W0 := sg_m4 (List.mem_of_getElem? (i := 170) rfl) rfl
theorem kw_769 : Cond.methodLink RL 147 yX11_form ∈ sg_W0 := sg_m4 (List.mem_of_getElem? (i := 171) rfl) rfl
theorem kw_770 : Cond.instanceMethod yX11_form ∈ sg_W0 := sg_m4 (List.mem_of_getElem? (i := 172) rfl) rfl
theorem kw_771 : Cond.selects RX11 yX11_form yX11_form ∈ sg_W0 := sg_m4 (List.mem_of_getElem? (i := 173) rfl) rfl
theorem kw_772 : Cond.code yX11_form cX11_form 8 (some .int) ∈ sg_W0 := sg_m4 (List.mem_of_getElem? (i := 174) rfl) rfl
theorem kw_773 : Cond.methodLink RX11 312 yX1_copyFrom ∈ sg_W0 := sg_m4 (List.mem_of_getElem? (i := 175) rfl) rfl
theorem kw_774 : Cond.instanceMethod yX1_copyFrom ∈ sg_W0 := sg_m4 (List.mem_of_getElem? (i := 176) rfl) rfl
theorem kw_775 : Cond.selects RX1 yX1_copyFrom yX1_copyFrom ∈ sg_W0 := sg_m4 (List.mem_of_getElem? (i := 177) rfl) rfl
theorem kw_776 : Cond.code yX1_copyFrom cX1_copyFrom 3 none ∈ sg_W0 := sg_m4 (List.mem_of_getElem? (i := 178) rfl) rfl
theorem kw_777 : Cond.methodLink RX11 316 yX1_thicken ∈ sg_W0 := sg_m4 (List.mem_of_getElem? (i := 179) rfl) rfl
theorem kw_778 : Cond.instanceMethod yX1_thicken ∈ sg_W0 := sg_m4 (List.mem_of_getElem? (i := 180) rfl) rfl
theorem kw_779 : Cond.selects RX1 yX1_thicken yX1_thicken ∈ sg_W0 := sg_m4 (List.mem_of_getElem? (i := 181) rfl) rfl
theorem kw_780 : Cond.code yX1_thicken cX1_thicken 5 none ∈ sg_W0 := sg_m4 (List.mem_of_getElem? (i := 182) rfl) rfl
theorem kw_781 : Cond.methodLink RX11 319 yX11_rangeOfTrial ∈ sg_W0 := sg_m4 (List.mem_of_getElem? (i := 183) rfl) rfl
theorem kw_782 : Cond.instanceMethod yX11_rangeOfTrial ∈ sg_W0 := sg_m4 (List.mem_of_getElem? (i := 185) rfl) rfl
theorem kw_783 : Cond.code yX11_rangeOfTrial cX11_rangeOfTrial 4 (some .int) ∈ sg_W0 := sg_m4 (List.mem_of_getElem? (i := 186) rfl) rfl
theorem kw_784 : Cond.methodLink RL 151 yX11_formBy ∈ sg_W0 := sg_m4 (List.mem_of_getElem? (i := 187) rfl) rfl
theorem kw_785 : Cond.instanceMethod yX11_formBy ∈ sg_W0 := sg_m4 (List.mem_of_getElem? (i := 188) rfl) rfl
theorem kw_786 : Cond.selects RX11 yX11_formBy yX11_formBy ∈ sg_W0 := sg_m4 (List.mem_of_getElem? (i := 189) rfl) rfl
theorem kw_787 : Cond.code yX11_formBy cX11_formBy 1 (some .int) ∈ sg_W0 := sg_m4 (List.mem_of_getElem? (i := 190) rfl) rfl
theorem kw_788 : Cond.methodLink RL 155 yX11_forge ∈ sg_W0 := sg_m4 (List.mem_of_getElem? (i := 191) rfl) rfl
theorem kw_789 : Cond.instanceMethod yX11_forge ∈ sg_W0 := sg_m4 (List.mem_of_getElem? (i := 192) rfl) rfl
theorem kw_790 : Cond.selects RX11 yX11_forge yX11_forge ∈ sg_W0 := sg_m4 (List.mem_of_getElem? (i := 193) rfl) rfl
theorem kw_791 : Cond.code yX11_forge cX11_forge 4 (some .boolean) ∈ sg_W0 := sg_m4 (List.mem_of_getElem? (i := 194) rfl) rfl
theorem kw_792 : Cond.methodLink RL 160 yX11_sentence ∈ sg_W0 := sg_m4 (List.mem_of_getElem? (i := 195) rfl) rfl
theorem kw_793 : Cond.instanceMethod yX11_sentence ∈ sg_W0 := sg_m4 (List.mem_of_getElem? (i := 196) rfl) rfl
theorem kw_794 : Cond.selects RX11 yX11_sentence yX11_sentence ∈ sg_W0 := sg_m4 (List.mem_of_getElem? (i := 197) rfl) rfl
theorem kw_795 : Cond.code yX11_sentence cX11_sentence 2 (some .int) ∈ sg_W0 := sg_m4 (List.mem_of_getElem? (i := 198) rfl) rfl
theorem kw_796 : Cond.methodLink RX11 323 yX5_readFrom ∈ sg_W0 := sg_m4 (List.mem_of_getElem? (i := 199) rfl) rfl
theorem kw_797 : Cond.instanceMethod yX5_readFrom ∈ sg_W0 := sg_m4 (List.mem_of_getElem? (i := 200) rfl) rfl
theorem kw_798 : Cond.selects RX5 yX5_readFrom yX5_readFrom ∈ sg_W0 := sg_m4 (List.mem_of_getElem? (i := 201) rfl) rfl
theorem kw_799 : Cond.code yX5_readFrom cX5_readFrom 2 none ∈ sg_W0 := sg_m4 (List.mem_of_getElem? (i := 202) rfl) rfl
theorem kw_800 : Cond.methodLink RX5 30 yX5_readCond ∈ sg_W0 := sg_m4 (List.mem_of_getElem? (i := 203) rfl) rfl
theorem kw_801 : Cond.instanceMethod yX5_readCond ∈ sg_W0 := sg_m4 (List.mem_of_getElem? (i := 205) rfl) rfl
theorem kw_802 : Cond.code yX5_readCond cX5_readCond 4 none ∈ sg_W0 := sg_m4 (List.mem_of_getElem? (i := 206) rfl) rfl
theorem kw_803 : Cond.methodLink RX5 43 yX5_readAll ∈ sg_W0 := sg_m4 (List.mem_of_getElem? (i := 207) rfl) rfl
theorem kw_804 : Cond.instanceMethod yX5_readAll ∈ sg_W0 := sg_m4 (List.mem_of_getElem? (i := 209) rfl) rfl
theorem kw_805 : Cond.code yX5_readAll cX5_readAll 4 none ∈ sg_W0 := sg_m4 (List.mem_of_getElem? (i := 210) rfl) rfl
theorem kw_806 : Cond.methodLink RX5 56 yX5_readOne ∈ sg_W0 := sg_m4 (List.mem_of_getElem? (i := 211) rfl) rfl
theorem kw_807 : Cond.instanceMethod yX5_readOne ∈ sg_W0 := sg_m4 (List.mem_of_getElem? (i := 213) rfl) rfl
theorem kw_808 : Cond.code yX5_readOne cX5_readOne 4 none ∈ sg_W0 := sg_m4 (List.mem_of_getElem? (i := 214) rfl) rfl
theorem kw_809 : Cond.methodLink RX5 61 yX5_leafAt ∈ sg_W0 := sg_m4 (List.mem_of_getElem? (i := 215) rfl) rfl
theorem kw_810 : Cond.static yX5_leafAt ∈ sg_W0 := sg_m4 (List.mem_of_getElem? (i := 216) rfl) rfl
theorem kw_811 : Cond.code yX5_leafAt cX5_leafAt 1 (some .int) ∈ sg_W0 := sg_m4 (List.mem_of_getElem? (i := 217) rfl) rfl
theorem kw_812 : Cond.methodLink RX5 67 yX9_isWord ∈ sg_W0 := sg_m4 (List.mem_of_getElem? (i := 219) rfl) rfl
theorem kw_813 : Cond.methodLink RX5 70 yX9_isSign ∈ sg_W0 := sg_m4 (List.mem_of_getElem? (i := 229) rfl) rfl
theorem kw_814 : Cond.methodLink RX5 40 yX9_fail ∈ sg_W0 := sg_m4 (List.mem_of_getElem? (i := 230) rfl) rfl
theorem kw_815 : Cond.methodLink RX5 48 yX9_skipWord ∈ sg_W0 := sg_m4 (List.mem_of_getElem? (i := 231) rfl) rfl
theorem kw_816 : Cond.methodLink RX5 52 yX5_addStep ∈ sg_W0 := sg_m4 (List.mem_of_getElem? (i := 232) rfl) rfl
theorem kw_817 : Cond.instanceMethod yX5_addStep ∈ sg_W0 := sg_m4 (List.mem_of_getElem? (i := 234) rfl) rfl
theorem kw_818 : Cond.code yX5_addStep cX5_addStep 4 none ∈ sg_W0 := sg_m4 (List.mem_of_getElem? (i := 235) rfl) rfl
theorem kw_819 : Cond.methodLink RX5 109 yX4_add ∈ sg_W0 := sg_m4 (List.mem_of_getElem? (i := 236) rfl) rfl
theorem kw_820 : Cond.methodLink RX5 77 yX9_skipSign ∈ sg_W0 := sg_m4 (List.mem_of_getElem? (i := 237) rfl) rfl
theorem kw_821 : Cond.methodLink RX5 80 yX9_advance ∈ sg_W0 := sg_m4 (List.mem_of_getElem? (i := 238) rfl) rfl
theorem kw_822 : Cond.methodLink RX5 83 yX9_comparison ∈ sg_W0 := sg_m4 (List.mem_of_getElem? (i := 239) rfl) rfl
theorem kw_823 : Cond.instanceMethod yX9_comparison ∈ sg_W0 := sg_m5 (List.mem_of_getElem? (i := 0) rfl) rfl
theorem kw_824 : Cond.selects RX9 yX9_comparison yX9_comparison ∈ sg_W0 := sg_m5 (List.mem_of_getElem? (i := 1) rfl) rfl
theorem kw_825 : Cond.code yX9_comparison cX9_comparison 2 (some .int) ∈ sg_W0 := sg_m5 (List.mem_of_getElem? (i := 2) rfl) rfl
theorem kw_826 : Cond.methodLink RX5 87 yX9_number ∈ sg_W0 := sg_m5 (List.mem_of_getElem? (i := 3) rfl) rfl
theorem kw_827 : Cond.methodLink RX5 34 yX9_isGoingOn ∈ sg_W0 := sg_m5 (List.mem_of_getElem? (i := 6) rfl) rfl
theorem kw_828 : Cond.methodLink RL 164 yX11_said ∈ sg_W0 := sg_m5 (List.mem_of_getElem? (i := 7) rfl) rfl
theorem kw_829 : Cond.instanceMethod yX11_said ∈ sg_W0 := sg_m5 (List.mem_of_getElem? (i := 8) rfl) rfl
theorem kw_830 : Cond.selects RX11 yX11_said yX11_said ∈ sg_W0 := sg_m5 (List.mem_of_getElem? (i := 9) rfl) rfl
theorem kw_831 : Cond.code yX11_said cX11_said 2 (some .int) ∈ sg_W0 := sg_m5 (List.mem_of_getElem? (i := 10) rfl) rfl
theorem kw_832 : Cond.methodLink RX11 331 yX11_askTicks ∈ sg_W0 := sg_m5 (List.mem_of_getElem? (i := 11) rfl) rfl
theorem kw_833 : Cond.instanceMethod yX11_askTicks ∈ sg_W0 := sg_m5 (List.mem_of_getElem? (i := 13) rfl) rfl
theorem kw_834 : Cond.code yX11_askTicks cX11_askTicks 2 none ∈ sg_W0 := sg_m5 (List.mem_of_getElem? (i := 14) rfl) rfl
theorem kw_835 : Cond.methodLink RX11 219 yX3_knee ∈ sg_W0 := sg_m5 (List.mem_of_getElem? (i := 15) rfl) rfl
theorem kw_836 : Cond.instanceMethod yX3_knee ∈ sg_W0 := sg_m5 (List.mem_of_getElem? (i := 16) rfl) rfl
theorem kw_837 : Cond.selects RX3 yX3_knee yX3_knee ∈ sg_W0 := sg_m5 (List.mem_of_getElem? (i := 17) rfl) rfl
theorem kw_838 : Cond.code yX3_knee cX3_knee 2 (some .int) ∈ sg_W0 := sg_m5 (List.mem_of_getElem? (i := 18) rfl) rfl
theorem kw_839 : Cond.methodLink RX11 222 yX3_tip ∈ sg_W0 := sg_m5 (List.mem_of_getElem? (i := 19) rfl) rfl
theorem kw_840 : Cond.instanceMethod yX3_tip ∈ sg_W0 := sg_m5 (List.mem_of_getElem? (i := 20) rfl) rfl
theorem kw_841 : Cond.selects RX3 yX3_tip yX3_tip ∈ sg_W0 := sg_m5 (List.mem_of_getElem? (i := 21) rfl) rfl
theorem kw_842 : Cond.code yX3_tip cX3_tip 2 (some .int) ∈ sg_W0 := sg_m5 (List.mem_of_getElem? (i := 22) rfl) rfl
theorem kw_843 : Cond.methodLink RX11 358 yX5_holds ∈ sg_W0 := sg_m5 (List.mem_of_getElem? (i := 23) rfl) rfl
theorem kw_844 : Cond.instanceMethod yX5_holds ∈ sg_W0 := sg_m5 (List.mem_of_getElem? (i := 24) rfl) rfl
theorem kw_845 : Cond.selects RX5 yX5_holds yX5_holds ∈ sg_W0 := sg_m5 (List.mem_of_getElem? (i := 25) rfl) rfl
theorem kw_846 : Cond.code yX5_holds cX5_holds 6 (some .boolean) ∈ sg_W0 := sg_m5 (List.mem_of_getElem? (i := 26) rfl) rfl
theorem kw_847 : Cond.methodLink RX5 115 yX4_at ∈ sg_W0 := sg_m5 (List.mem_of_getElem? (i := 27) rfl) rfl
theorem kw_848 : Cond.methodLink RX5 119 yX5_isSo ∈ sg_W0 := sg_m5 (List.mem_of_getElem? (i := 28) rfl) rfl
theorem kw_849 : Cond.instanceMethod yX5_isSo ∈ sg_W0 := sg_m5 (List.mem_of_getElem? (i := 30) rfl) rfl
theorem kw_850 : Cond.code yX5_isSo cX5_isSo 4 (some .boolean) ∈ sg_W0 := sg_m5 (List.mem_of_getElem? (i := 31) rfl) rfl
theorem kw_851 : Cond.methodLink RX5 128 yX5_compares ∈ sg_W0 := sg_m5 (List.mem_of_getElem? (i := 32) rfl) rfl
theorem kw_852 : Cond.instanceMethod yX5_compares ∈ sg_W0 := sg_m5 (List.mem_of_getElem? (i := 34) rfl) rfl
theorem kw_853 : Cond.code yX5_compares cX5_compares 4 (some .boolean) ∈ sg_W0 := sg_m5 (List.mem_of_getElem? (i := 35) rfl) rfl
theorem kw_854 : Cond.methodLink RL 168 yX11_image ∈ sg_W0 := sg_m5 (List.mem_of_getElem? (i := 36) rfl) rfl
theorem kw_855 : Cond.instanceMethod yX11_image ∈ sg_W0 := sg_m5 (List.mem_of_getElem? (i := 37) rfl) rfl
theorem kw_856 : Cond.selects RX11 yX11_image yX11_image ∈ sg_W0 := sg_m5 (List.mem_of_getElem? (i := 38) rfl) rfl
theorem kw_857 : Cond.code yX11_image cX11_image 2 (some .boolean) ∈ sg_W0 := sg_m5 (List.mem_of_getElem? (i := 39) rfl) rfl
theorem kw_858 : Cond.methodLink RX11 334 yX7_copyFrom ∈ sg_W0 := sg_m5 (List.mem_of_getElem? (i := 40) rfl) rfl
theorem kw_859 : Cond.instanceMethod yX7_copyFrom ∈ sg_W0 := sg_m5 (List.mem_of_getElem? (i := 41) rfl) rfl
theorem kw_860 : Cond.selects RX7 yX7_copyFrom yX7_copyFrom ∈ sg_W0 := sg_m5 (List.mem_of_getElem? (i := 42) rfl) rfl
theorem kw_861 : Cond.code yX7_copyFrom cX7_copyFrom 3 none ∈ sg_W0 := sg_m5 (List.mem_of_getElem? (i := 43) rfl) rfl
theorem kw_862 : Cond.methodLink RX7 36 yX2_copyFrom ∈ sg_W0 := sg_m5 (List.mem_of_getElem? (i := 44) rfl) rfl
theorem kw_863 : Cond.instanceMethod yX2_copyFrom ∈ sg_W0 := sg_m5 (List.mem_of_getElem? (i := 45) rfl) rfl
theorem kw_864 : Cond.selects RX2 yX2_copyFrom yX2_copyFrom ∈ sg_W0 := sg_m5 (List.mem_of_getElem? (i := 46) rfl) rfl
theorem kw_865 : Cond.code yX2_copyFrom cX2_copyFrom 2 none ∈ sg_W0 := sg_m5 (List.mem_of_getElem? (i := 47) rfl) rfl
theorem kw_866 : Cond.methodLink RX2 30 yX4_copyFrom ∈ sg_W0 := sg_m5 (List.mem_of_getElem? (i := 48) rfl) rfl
theorem kw_867 : Cond.instanceMethod yX4_copyFrom ∈ sg_W0 := sg_m5 (List.mem_of_getElem? (i := 49) rfl) rfl
theorem kw_868 : Cond.selects RX4 yX4_copyFrom yX4_copyFrom ∈ sg_W0 := sg_m5 (List.mem_of_getElem? (i := 50) rfl) rfl
theorem kw_869 : Cond.code yX4_copyFrom cX4_copyFrom 3 none ∈ sg_W0 := sg_m5 (List.mem_of_getElem? (i := 51) rfl) rfl
theorem kw_870 : Cond.methodLink RX4 29 yX4_clear ∈ sg_W0 := sg_m5 (List.mem_of_getElem? (i := 52) rfl) rfl
theorem kw_871 : Cond.methodLink RX4 32 yX4_at ∈ sg_W0 := sg_m5 (List.mem_of_getElem? (i := 53) rfl) rfl
theorem kw_872 : Cond.methodLink RX4 36 yX4_add ∈ sg_W0 := sg_m5 (List.mem_of_getElem? (i := 54) rfl) rfl
theorem kw_873 : Cond.methodLink RL 172 yX11_restore ∈ sg_W0 := sg_m5 (List.mem_of_getElem? (i := 55) rfl) rfl
theorem kw_874 : Cond.instanceMethod yX11_restore ∈ sg_W0 := sg_m5 (List.mem_of_getElem? (i := 56) rfl) rfl
theorem kw_875 : Cond.selects RX11 yX11_restore yX11_restore ∈ sg_W0 := sg_m5 (List.mem_of_getElem? (i := 57) rfl) rfl
theorem kw_876 : Cond.code yX11_restore cX11_restore 2 (some .boolean) ∈ sg_W0 := sg_m5 (List.mem_of_getElem? (i := 58) rfl) rfl
theorem kw_877 : Cond.methodLink RL 176 yX11_count ∈ sg_W0 := sg_m5 (List.mem_of_getElem? (i := 59) rfl) rfl
theorem kw_878 : Cond.instanceMethod yX11_count ∈ sg_W0 := sg_m5 (List.mem_of_getElem? (i := 60) rfl) rfl
theorem kw_879 : Cond.selects RX11 yX11_count yX11_count ∈ sg_W0 := sg_m5 (List.mem_of_getElem? (i := 61) rfl) rfl
theorem kw_880 : Cond.code yX11_count cX11_count 2 (some .int) ∈ sg_W0 := sg_m5 (List.mem_of_getElem? (i := 62) rfl) rfl
theorem kw_881 : Cond.methodLink RL 45 yL_piece ∈ sg_W0 := sg_m5 (List.mem_of_getElem? (i := 63) rfl) rfl
theorem kw_882 : Cond.static yL_piece ∈ sg_W0 := sg_m5 (List.mem_of_getElem? (i := 64) rfl) rfl
theorem kw_883 : Cond.classLink RL 13 "java/util/NoSuchElementException" ∈ sg_W0 := sg_m5 (List.mem_of_getElem? (i := 66) rfl) rfl
theorem kw_884 : Cond.methodLink RL 7 yX11_piece ∈ sg_W0 := sg_m5 (List.mem_of_getElem? (i := 67) rfl) rfl
theorem kw_885 : Cond.instanceMethod yX11_piece ∈ sg_W0 := sg_m5 (List.mem_of_getElem? (i := 68) rfl) rfl
theorem kw_886 : Cond.selects RX11 yX11_piece yX11_piece ∈ sg_W0 := sg_m5 (List.mem_of_getElem? (i := 69) rfl) rfl
theorem kw_887 : Cond.code yX11_piece cX11_piece 3 (some .int) ∈ sg_W0 := sg_m5 (List.mem_of_getElem? (i := 70) rfl) rfl
theorem kw_888 : Cond.methodLink RX11 143 yX1_has ∈ sg_W0 := sg_m5 (List.mem_of_getElem? (i := 71) rfl) rfl
theorem kw_889 : Cond.classLink RX11 147 "java/util/NoSuchElementException" ∈ sg_W0 := sg_m5 (List.mem_of_getElem? (i := 72) rfl) rfl
theorem kw_890 : Cond.instantiable "java/util/NoSuchElementException" 6 ∈ sg_W0 := sg_m5 (List.mem_of_getElem? (i := 73) rfl) rfl
theorem kw_891 : Cond.castable "java/util/NoSuchElementException" "java/util/NoSuchElementException" ∈ sg_WN := sg_n5 (List.mem_of_getElem? (i := 74) rfl) rfl
theorem kw_892 : Cond.declares ⟨"java/lang/RuntimeException", "<init>", "()V"⟩ ∈ sg_WN := sg_n5 (List.mem_of_getElem? (i := 75) rfl) rfl
theorem kw_893 : Cond.declares ⟨"java/lang/RuntimeException", "<init>", "(Ljava/lang/String;)V"⟩ ∈ sg_WN := sg_n5 (List.mem_of_getElem? (i := 76) rfl) rfl
theorem kw_894 : Cond.declares ⟨"java/lang/Exception", "<init>", "()V"⟩ ∈ sg_WN := sg_n5 (List.mem_of_getElem? (i := 77) rfl) rfl
theorem kw_895 : Cond.declares ⟨"java/lang/Exception", "<init>", "(Ljava/lang/String;)V"⟩ ∈ sg_WN := sg_n5 (List.mem_of_getElem? (i := 78) rfl) rfl
theorem kw_896 : Cond.declares ⟨"java/lang/Throwable", "<init>", "()V"⟩ ∈ sg_WN := sg_n5 (List.mem_of_getElem? (i := 79) rfl) rfl
theorem kw_897 : Cond.declares ⟨"java/lang/Throwable", "<init>", "(Ljava/lang/String;)V"⟩ ∈ sg_WN := sg_n5 (List.mem_of_getElem? (i := 80) rfl) rfl
theorem kw_898 : Cond.selects "java/util/NoSuchElementException" ⟨"java/lang/Throwable", "fillInStackTrace", "(I)Ljava/lang/Throwable;"⟩ ⟨"java/lang/Throwable", "fillInStackTrace", "(I)Ljava/lang/Throwable;"⟩ ∈ sg_W0 := sg_m5 (List.mem_of_getElem? (i := 81) rfl) rfl
theorem kw_899 : Cond.selects "java/util/NoSuchElementException" ⟨"java/lang/Throwable", "fillInStackTrace", "()Ljava/lang/Throwable;"⟩ ⟨"java/lang/Throwable", "fillInStackTrace", "()Ljava/lang/Throwable;"⟩ ∈ sg_W0 := sg_m5 (List.mem_of_getElem? (i := 82) rfl) rfl
theorem kw_900 : Cond.fieldLink "java/lang/Throwable" 198 "java/lang/Throwable" "backtrace" "Ljava/lang/Object;" ∈ sg_W0 := sg_m5 (List.mem_of_getElem? (i := 93) rfl) rfl
theorem kw_901 : Cond.instanceMethod ⟨"java/lang/Throwable", "<init>", "()V"⟩ ∈ sg_W0 := sg_m5 (List.mem_of_getElem? (i := 95) rfl) rfl
theorem kw_902 : Cond.code ⟨"java/lang/Throwable", "<init>", "()V"⟩ prog_24_method_1_code 1 none ∈ sg_W0 := sg_m5 (List.mem_of_getElem? (i := 96) rfl) rfl
theorem kw_903 : Cond.methodLink "java/lang/Throwable" 1 ⟨"java/lang/Object", "<init>", "()V"⟩ ∈ sg_W0 := sg_m5 (List.mem_of_getElem? (i := 97) rfl) rfl
theorem kw_904 : Cond.fieldLink "java/lang/Throwable" 13 "java/lang/Throwable" "UNASSIGNED_STACK" "[Ljava/lang/StackTraceElement;" ∈ sg_W0 := sg_m5 (List.mem_of_getElem? (i := 98) rfl) rfl
theorem kw_905 : Cond.fieldLink "java/lang/Throwable" 20 "java/lang/Throwable" "SUPPRESSED_SENTINEL" "Ljava/util/List;" ∈ sg_W0 := sg_m5 (List.mem_of_getElem? (i := 100) rfl) rfl
theorem kw_906 : Cond.methodLink "java/lang/Throwable" 27 ⟨"java/lang/Throwable", "fillInStackTrace", "()Ljava/lang/Throwable;"⟩ ∈ sg_W0 := sg_m5 (List.mem_of_getElem? (i := 102) rfl) rfl
theorem kw_907 : Cond.instanceMethod ⟨"java/lang/Throwable", "fillInStackTrace", "()Ljava/lang/Throwable;"⟩ ∈ sg_W0 := sg_m5 (List.mem_of_getElem? (i := 103) rfl) rfl
theorem kw_908 : Cond.methodLink "java/lang/Throwable" 202 ⟨"java/lang/Throwable", "fillInStackTrace", "(I)Ljava/lang/Throwable;"⟩ ∈ sg_W0 := sg_m5 (List.mem_of_getElem? (i := 106) rfl) rfl
theorem kw_909 : Cond.instanceMethod ⟨"java/lang/Throwable", "fillInStackTrace", "(I)Ljava/lang/Throwable;"⟩ ∈ sg_W0 := sg_m5 (List.mem_of_getElem? (i := 108) rfl) rfl
theorem kw_910 : Cond.instantiable "java/lang/Throwable" 6 ∈ sg_W0 := sg_m5 (List.mem_of_getElem? (i := 109) rfl) rfl
theorem kw_911 : Cond.methodLink RX11 151 ⟨"java/util/NoSuchElementException", "<init>", "(Ljava/lang/String;)V"⟩ ∈ sg_W0 := sg_m5 (List.mem_of_getElem? (i := 112) rfl) rfl
theorem kw_912 : Cond.instanceMethod ⟨"java/util/NoSuchElementException", "<init>", "(Ljava/lang/String;)V"⟩ ∈ sg_W0 := sg_m5 (List.mem_of_getElem? (i := 113) rfl) rfl
theorem kw_913 : Cond.code ⟨"java/util/NoSuchElementException", "<init>", "(Ljava/lang/String;)V"⟩ prog_27_method_4_code 2 none ∈ sg_W0 := sg_m5 (List.mem_of_getElem? (i := 114) rfl) rfl
theorem kw_914 : Cond.methodLink "java/util/NoSuchElementException" 13 ⟨"java/lang/RuntimeException", "<init>", "(Ljava/lang/String;)V"⟩ ∈ sg_W0 := sg_m5 (List.mem_of_getElem? (i := 115) rfl) rfl
theorem kw_915 : Cond.instanceMethod ⟨"java/lang/RuntimeException", "<init>", "(Ljava/lang/String;)V"⟩ ∈ sg_W0 := sg_m5 (List.mem_of_getElem? (i := 116) rfl) rfl
theorem kw_916 : Cond.code ⟨"java/lang/RuntimeException", "<init>", "(Ljava/lang/String;)V"⟩ prog_20_method_2_code 2 none ∈ sg_W0 := sg_m5 (List.mem_of_getElem? (i := 117) rfl) rfl
theorem kw_917 : Cond.methodLink "java/lang/RuntimeException" 7 ⟨"java/lang/Exception", "<init>", "(Ljava/lang/String;)V"⟩ ∈ sg_W0 := sg_m5 (List.mem_of_getElem? (i := 118) rfl) rfl
theorem kw_918 : Cond.instanceMethod ⟨"java/lang/Exception", "<init>", "(Ljava/lang/String;)V"⟩ ∈ sg_W0 := sg_m5 (List.mem_of_getElem? (i := 119) rfl) rfl
theorem kw_919 : Cond.code ⟨"java/lang/Exception", "<init>", "(Ljava/lang/String;)V"⟩ prog_18_method_2_code 2 none ∈ sg_W0 := sg_m5 (List.mem_of_getElem? (i := 120) rfl) rfl
theorem kw_920 : Cond.methodLink "java/lang/Exception" 7 ⟨"java/lang/Throwable", "<init>", "(Ljava/lang/String;)V"⟩ ∈ sg_W0 := sg_m5 (List.mem_of_getElem? (i := 121) rfl) rfl
theorem kw_921 : Cond.instanceMethod ⟨"java/lang/Throwable", "<init>", "(Ljava/lang/String;)V"⟩ ∈ sg_W0 := sg_m5 (List.mem_of_getElem? (i := 122) rfl) rfl
theorem kw_922 : Cond.code ⟨"java/lang/Throwable", "<init>", "(Ljava/lang/String;)V"⟩ prog_24_method_2_code 2 none ∈ sg_W0 := sg_m5 (List.mem_of_getElem? (i := 123) rfl) rfl
theorem kw_923 : Cond.fieldLink "java/lang/Throwable" 31 "java/lang/Throwable" "detailMessage" "Ljava/lang/String;" ∈ sg_W0 := sg_m5 (List.mem_of_getElem? (i := 125) rfl) rfl
theorem kw_924 : Cond.fieldLink "java/lang/Throwable" 7 "java/lang/Throwable" "cause" "Ljava/lang/Throwable;" ∈ sg_W0 := sg_m5 (List.mem_of_getElem? (i := 126) rfl) rfl
theorem kw_925 : Cond.fieldLink "java/lang/Throwable" 17 "java/lang/Throwable" "stackTrace" "[Ljava/lang/StackTraceElement;" ∈ sg_W0 := sg_m5 (List.mem_of_getElem? (i := 127) rfl) rfl
theorem kw_926 : Cond.fieldLink "java/lang/Throwable" 24 "java/lang/Throwable" "suppressedExceptions" "Ljava/util/List;" ∈ sg_W0 := sg_m5 (List.mem_of_getElem? (i := 128) rfl) rfl
theorem kw_927 : Cond.methodLink RX11 154 yX1_told ∈ sg_W0 := sg_m5 (List.mem_of_getElem? (i := 137) rfl) rfl
theorem kw_928 : Cond.instanceMethod yX1_told ∈ sg_W0 := sg_m5 (List.mem_of_getElem? (i := 138) rfl) rfl
theorem kw_929 : Cond.selects RX1 yX1_told yX1_told ∈ sg_W0 := sg_m5 (List.mem_of_getElem? (i := 139) rfl) rfl
theorem kw_930 : Cond.code yX1_told cX1_told 3 (some .int) ∈ sg_W0 := sg_m5 (List.mem_of_getElem? (i := 140) rfl) rfl
theorem kw_931 : Cond.methodLink RL 54 yL_bend ∈ sg_W0 := sg_m5 (List.mem_of_getElem? (i := 141) rfl) rfl
theorem kw_932 : Cond.static yL_bend ∈ sg_W0 := sg_m5 (List.mem_of_getElem? (i := 142) rfl) rfl
theorem kw_933 : Cond.methodLink RL 15 yX11_bend ∈ sg_W0 := sg_m5 (List.mem_of_getElem? (i := 144) rfl) rfl
theorem kw_934 : Cond.instanceMethod yX11_bend ∈ sg_W0 := sg_m5 (List.mem_of_getElem? (i := 145) rfl) rfl
theorem kw_935 : Cond.selects RX11 yX11_bend yX11_bend ∈ sg_W0 := sg_m5 (List.mem_of_getElem? (i := 146) rfl) rfl
theorem kw_936 : Cond.code yX11_bend cX11_bend 5 (some .int) ∈ sg_W0 := sg_m5 (List.mem_of_getElem? (i := 147) rfl) rfl
theorem kw_937 : Cond.methodLink RX11 164 yX1_curve ∈ sg_W0 := sg_m5 (List.mem_of_getElem? (i := 149) rfl) rfl
theorem kw_938 : Cond.methodLink RX11 168 yX1_strain ∈ sg_W0 := sg_m5 (List.mem_of_getElem? (i := 150) rfl) rfl
theorem kw_939 : Cond.instanceMethod yX1_strain ∈ sg_W0 := sg_m5 (List.mem_of_getElem? (i := 151) rfl) rfl
theorem kw_940 : Cond.selects RX1 yX1_strain yX1_strain ∈ sg_W0 := sg_m5 (List.mem_of_getElem? (i := 152) rfl) rfl
theorem kw_941 : Cond.code yX1_strain cX1_strain 4 (some .int) ∈ sg_W0 := sg_m5 (List.mem_of_getElem? (i := 153) rfl) rfl
theorem kw_942 : Cond.methodLink RX1 50 yX1_curve ∈ sg_W0 := sg_m5 (List.mem_of_getElem? (i := 154) rfl) rfl
theorem kw_943 : Cond.methodLink RX1 54 yJ9_abs_0f7a4 ∈ sg_W0 := sg_m5 (List.mem_of_getElem? (i := 155) rfl) rfl
theorem kw_944 : Cond.methodLink RL 92 yL_tick ∈ sg_W0 := sg_m5 (List.mem_of_getElem? (i := 156) rfl) rfl
theorem kw_945 : Cond.static yL_tick ∈ sg_W0 := sg_m5 (List.mem_of_getElem? (i := 157) rfl) rfl
theorem kw_946 : Cond.methodLink RL 19 yX11_tick ∈ sg_W0 := sg_m5 (List.mem_of_getElem? (i := 159) rfl) rfl
theorem kw_947 : Cond.instanceMethod yX11_tick ∈ sg_W0 := sg_m5 (List.mem_of_getElem? (i := 160) rfl) rfl
theorem kw_948 : Cond.selects RX11 yX11_tick yX11_tick ∈ sg_W0 := sg_m5 (List.mem_of_getElem? (i := 161) rfl) rfl
theorem kw_949 : Cond.code yX11_tick cX11_tick 5 (some .int) ∈ sg_W0 := sg_m5 (List.mem_of_getElem? (i := 162) rfl) rfl
theorem kw_950 : Cond.classLink RL 23 RX12 ∈ sg_W0 := sg_m5 (List.mem_of_getElem? (i := 164) rfl) rfl
theorem kw_951 : Cond.instantiable RX12 62 ∈ sg_W0 := sg_m5 (List.mem_of_getElem? (i := 165) rfl) rfl
theorem kw_952 : Cond.methodLink RL 25 yX12_init ∈ sg_W0 := sg_m5 (List.mem_of_getElem? (i := 166) rfl) rfl
theorem kw_953 : Cond.instanceMethod yX12_init ∈ sg_W0 := sg_m5 (List.mem_of_getElem? (i := 167) rfl) rfl
theorem kw_954 : Cond.code yX12_init cX12_init 1 none ∈ sg_W0 := sg_m5 (List.mem_of_getElem? (i := 168) rfl) rfl
theorem kw_955 : Cond.methodLink RX12 1 ⟨"java/lang/Object", "<init>", "()V"⟩ ∈ sg_W0 := sg_m5 (List.mem_of_getElem? (i := 169) rfl) rfl
theorem kw_956 : Cond.fieldLink RX12 84 RX12 "thrown" "I" ∈ sg_W0 := sg_m5 (List.mem_of_getElem? (i := 170) rfl) rfl
theorem kw_957 : Cond.fieldLink RX12 7 RX12 "tape" "[I" ∈ sg_W0 := sg_m5 (List.mem_of_getElem? (i := 171) rfl) rfl
theorem kw_958 : Cond.fieldLink RX12 87 RX12 "taped" "I" ∈ sg_W0 := sg_m5 (List.mem_of_getElem? (i := 172) rfl) rfl
theorem kw_959 : Cond.fieldLink RX12 94 RX12 "size" "I" ∈ sg_W0 := sg_m5 (List.mem_of_getElem? (i := 173) rfl) rfl
theorem kw_960 : Cond.fieldLink RX12 103 RX12 "limit" "I" ∈ sg_W0 := sg_m5 (List.mem_of_getElem? (i := 174) rfl) rfl
theorem kw_961 : Cond.fieldLink RX12 97 RX12 "to" "I" ∈ sg_W0 := sg_m5 (List.mem_of_getElem? (i := 175) rfl) rfl
theorem kw_962 : Cond.fieldLink RX12 100 RX12 "from" "I" ∈ sg_W0 := sg_m5 (List.mem_of_getElem? (i := 176) rfl) rfl
theorem kw_963 : Cond.fieldLink RX12 106 RX12 "kind" "I" ∈ sg_W0 := sg_m5 (List.mem_of_getElem? (i := 177) rfl) rfl
theorem kw_964 : Cond.fieldLink RX12 123 RX12 "number" "I" ∈ sg_W0 := sg_m5 (List.mem_of_getElem? (i := 178) rfl) rfl
theorem kw_965 : Cond.fieldLink RX12 116 RX12 "sign" "I" ∈ sg_W0 := sg_m5 (List.mem_of_getElem? (i := 179) rfl) rfl
theorem kw_966 : Cond.fieldLink RX12 146 RX12 "fault" "I" ∈ sg_W0 := sg_m5 (List.mem_of_getElem? (i := 180) rfl) rfl
theorem kw_967 : Cond.fieldLink RX12 149 RX12 "at" "I" ∈ sg_W0 := sg_m5 (List.mem_of_getElem? (i := 181) rfl) rfl
theorem kw_968 : Cond.fieldLink RX12 119 RX12 "word" "J" ∈ sg_W0 := sg_m5 (List.mem_of_getElem? (i := 182) rfl) rfl
theorem kw_969 : Cond.fieldLink RX12 159 RX12 "told" "I" ∈ sg_W0 := sg_m5 (List.mem_of_getElem? (i := 183) rfl) rfl
theorem kw_970 : Cond.fieldLink RX12 13 RX12 "now" "[I" ∈ sg_W0 := sg_m5 (List.mem_of_getElem? (i := 184) rfl) rfl
theorem kw_971 : Cond.fieldLink RX12 16 RX12 "read" "[I" ∈ sg_W0 := sg_m5 (List.mem_of_getElem? (i := 185) rfl) rfl
theorem kw_972 : Cond.fieldLink RX12 19 RX12 "kept" "[I" ∈ sg_W0 := sg_m5 (List.mem_of_getElem? (i := 186) rfl) rfl
theorem kw_973 : Cond.fieldLink RX12 22 RX12 "ticksA" "[I" ∈ sg_W0 := sg_m5 (List.mem_of_getElem? (i := 187) rfl) rfl
theorem kw_974 : Cond.fieldLink RX12 25 RX12 "ticksB" "[I" ∈ sg_W0 := sg_m5 (List.mem_of_getElem? (i := 188) rfl) rfl
theorem kw_975 : Cond.fieldLink RX12 28 RX12 "isKept" "[Z" ∈ sg_W0 := sg_m5 (List.mem_of_getElem? (i := 189) rfl) rfl
theorem kw_976 : Cond.fieldLink RX12 182 RX12 "isBegun" "Z" ∈ sg_W0 := sg_m5 (List.mem_of_getElem? (i := 190) rfl) rfl
theorem kw_977 : Cond.fieldLink RX12 186 RX12 "had" "I" ∈ sg_W0 := sg_m5 (List.mem_of_getElem? (i := 191) rfl) rfl
theorem kw_978 : Cond.fieldLink RX12 32 RX12 "curve" "[I" ∈ sg_W0 := sg_m5 (List.mem_of_getElem? (i := 192) rfl) rfl
theorem kw_979 : Cond.fieldLink RX12 35 RX12 "wall" "[I" ∈ sg_W0 := sg_m5 (List.mem_of_getElem? (i := 193) rfl) rfl
theorem kw_980 : Cond.fieldLink RX12 38 RX12 "strain" "[I" ∈ sg_W0 := sg_m5 (List.mem_of_getElem? (i := 194) rfl) rfl
theorem kw_981 : Cond.fieldLink RX12 41 RX12 "places" "[I" ∈ sg_W0 := sg_m5 (List.mem_of_getElem? (i := 195) rfl) rfl
theorem kw_982 : Cond.fieldLink RX12 44 RX12 "isPlace" "[Z" ∈ sg_W0 := sg_m5 (List.mem_of_getElem? (i := 196) rfl) rfl
theorem kw_983 : Cond.fieldLink RX12 212 RX12 "many" "I" ∈ sg_W0 := sg_m5 (List.mem_of_getElem? (i := 197) rfl) rfl
theorem kw_984 : Cond.fieldLink RX12 215 RX12 "unit" "I" ∈ sg_W0 := sg_m5 (List.mem_of_getElem? (i := 198) rfl) rfl
theorem kw_985 : Cond.fieldLink RX12 226 RX12 "placeMany" "I" ∈ sg_W0 := sg_m5 (List.mem_of_getElem? (i := 199) rfl) rfl
theorem kw_986 : Cond.fieldLink RX12 218 RX12 "firstBreak" "I" ∈ sg_W0 := sg_m5 (List.mem_of_getElem? (i := 200) rfl) rfl
theorem kw_987 : Cond.fieldLink RX12 221 RX12 "mostStrain" "I" ∈ sg_W0 := sg_m5 (List.mem_of_getElem? (i := 201) rfl) rfl
theorem kw_988 : Cond.fieldLink RX12 239 RX12 "runFrom" "I" ∈ sg_W0 := sg_m5 (List.mem_of_getElem? (i := 202) rfl) rfl
theorem kw_989 : Cond.fieldLink RX12 242 RX12 "runTo" "I" ∈ sg_W0 := sg_m5 (List.mem_of_getElem? (i := 203) rfl) rfl
theorem kw_990 : Cond.fieldLink RX12 47 RX12 "told5" "[I" ∈ sg_W0 := sg_m5 (List.mem_of_getElem? (i := 204) rfl) rfl
theorem kw_991 : Cond.fieldLink RX12 50 RX12 "bowed" "[I" ∈ sg_W0 := sg_m5 (List.mem_of_getElem? (i := 205) rfl) rfl
theorem kw_992 : Cond.fieldLink RX12 53 RX12 "other" "[I" ∈ sg_W0 := sg_m5 (List.mem_of_getElem? (i := 206) rfl) rfl
theorem kw_993 : Cond.fieldLink RX12 264 RX12 "bowedMany" "I" ∈ sg_W0 := sg_m5 (List.mem_of_getElem? (i := 207) rfl) rfl
theorem kw_994 : Cond.fieldLink RX12 270 RX12 "worth" "I" ∈ sg_W0 := sg_m5 (List.mem_of_getElem? (i := 208) rfl) rfl
theorem kw_995 : Cond.fieldLink RX12 273 RX12 "voiceTone" "I" ∈ sg_W0 := sg_m5 (List.mem_of_getElem? (i := 209) rfl) rfl
theorem kw_996 : Cond.fieldLink RX12 276 RX12 "voicePiece" "I" ∈ sg_W0 := sg_m5 (List.mem_of_getElem? (i := 210) rfl) rfl
theorem kw_997 : Cond.fieldLink RX12 279 RX12 "voiceRings" "I" ∈ sg_W0 := sg_m5 (List.mem_of_getElem? (i := 211) rfl) rfl
theorem kw_998 : Cond.fieldLink RX12 282 RX12 "voiceTwice" "Z" ∈ sg_W0 := sg_m5 (List.mem_of_getElem? (i := 212) rfl) rfl
theorem kw_999 : Cond.fieldLink RX12 295 RX12 "readTicks" "I" ∈ sg_W0 := sg_m5 (List.mem_of_getElem? (i := 213) rfl) rfl
theorem kw_1000 : Cond.fieldLink RX12 301 RX12 "handA" "I" ∈ sg_W0 := sg_m5 (List.mem_of_getElem? (i := 214) rfl) rfl
theorem kw_1001 : Cond.fieldLink RX12 304 RX12 "handB" "I" ∈ sg_W0 := sg_m5 (List.mem_of_getElem? (i := 215) rfl) rfl
theorem kw_1002 : Cond.fieldLink RX12 56 RX12 "sung" "[I" ∈ sg_W0 := sg_m5 (List.mem_of_getElem? (i := 216) rfl) rfl
theorem kw_1003 : Cond.fieldLink RX12 59 RX12 "note" "[I" ∈ sg_W0 := sg_m5 (List.mem_of_getElem? (i := 217) rfl) rfl
theorem kw_1004 : Cond.fieldLink RX12 62 RX12 "left" "[I" ∈ sg_W0 := sg_m5 (List.mem_of_getElem? (i := 218) rfl) rfl
theorem kw_1005 : Cond.fieldLink RX12 65 RX12 "songRow" "[I" ∈ sg_W0 := sg_m5 (List.mem_of_getElem? (i := 219) rfl) rfl
theorem kw_1006 : Cond.fieldLink RX12 344 RX12 "songMany" "I" ∈ sg_W0 := sg_m5 (List.mem_of_getElem? (i := 220) rfl) rfl
theorem kw_1007 : Cond.fieldLink RX12 68 RX12 "found" "[I" ∈ sg_W0 := sg_m5 (List.mem_of_getElem? (i := 221) rfl) rfl
theorem kw_1008 : Cond.fieldLink RX12 347 RX12 "foundMany" "I" ∈ sg_W0 := sg_m5 (List.mem_of_getElem? (i := 222) rfl) rfl
theorem kw_1009 : Cond.fieldLink RX12 71 RX12 "part" "[I" ∈ sg_W0 := sg_m5 (List.mem_of_getElem? (i := 223) rfl) rfl
theorem kw_1010 : Cond.fieldLink RX12 74 RX12 "evenRow" "[I" ∈ sg_W0 := sg_m5 (List.mem_of_getElem? (i := 224) rfl) rfl
theorem kw_1011 : Cond.fieldLink RX12 350 RX12 "evenMany" "I" ∈ sg_W0 := sg_m5 (List.mem_of_getElem? (i := 225) rfl) rfl
theorem kw_1012 : Cond.fieldLink RX12 77 RX12 "formRange" "I" ∈ sg_W0 := sg_m5 (List.mem_of_getElem? (i := 226) rfl) rfl
theorem kw_1013 : Cond.fieldLink RX12 81 RX12 "node" "[I" ∈ sg_W0 := sg_m5 (List.mem_of_getElem? (i := 227) rfl) rfl
theorem kw_1014 : Cond.fieldLink RX12 362 RX12 "nodes" "I" ∈ sg_W0 := sg_m5 (List.mem_of_getElem? (i := 228) rfl) rfl
theorem kw_1015 : Cond.fieldLink RX12 378 RX12 "ones" "I" ∈ sg_W0 := sg_m5 (List.mem_of_getElem? (i := 229) rfl) rfl
theorem kw_1016 : Cond.fieldLink RX12 381 RX12 "within" "I" ∈ sg_W0 := sg_m5 (List.mem_of_getElem? (i := 230) rfl) rfl
theorem kw_1017 : Cond.fieldLink RX12 368 RX12 "top" "I" ∈ sg_W0 := sg_m5 (List.mem_of_getElem? (i := 231) rfl) rfl
theorem kw_1018 : Cond.arrayClass .boolean ∈ sg_W0 := sg_m6 (List.mem_of_getElem? (i := 117) rfl) rfl
theorem kw_1019 : Cond.methodLink RL 51 yX12_thrown ∈ sg_W0 := sg_m6 (List.mem_of_getElem? (i := 118) rfl) rfl
theorem kw_1020 : Cond.instanceMethod yX12_thrown ∈ sg_W0 := sg_m6 (List.mem_of_getElem? (i := 119) rfl) rfl
theorem kw_1021 : Cond.selects RX12 yX12_thrown yX12_thrown ∈ sg_W0 := sg_m6 (List.mem_of_getElem? (i := 120) rfl) rfl
theorem kw_1022 : Cond.code yX12_thrown cX12_thrown 1 (some .int) ∈ sg_W0 := sg_m6 (List.mem_of_getElem? (i := 121) rfl) rfl
theorem kw_1023 : Cond.methodLink RL 30 yX12_feed ∈ sg_W0 := sg_m6 (List.mem_of_getElem? (i := 122) rfl) rfl
theorem kw_1024 : Cond.instanceMethod yX12_feed ∈ sg_W0 := sg_m6 (List.mem_of_getElem? (i := 123) rfl) rfl
theorem kw_1025 : Cond.selects RX12 yX12_feed yX12_feed ∈ sg_W0 := sg_m6 (List.mem_of_getElem? (i := 124) rfl) rfl
theorem kw_1026 : Cond.code yX12_feed cX12_feed 6 (some .int) ∈ sg_W0 := sg_m6 (List.mem_of_getElem? (i := 125) rfl) rfl
theorem kw_1027 : Cond.methodLink RX12 90 yX12_come ∈ sg_W0 := sg_m6 (List.mem_of_getElem? (i := 126) rfl) rfl
theorem kw_1028 : Cond.instanceMethod yX12_come ∈ sg_W0 := sg_m6 (List.mem_of_getElem? (i := 128) rfl) rfl
theorem kw_1029 : Cond.code yX12_come cX12_come 3 none ∈ sg_W0 := sg_m6 (List.mem_of_getElem? (i := 129) rfl) rfl
theorem kw_1030 : Cond.methodLink RL 35 yX12_end ∈ sg_W0 := sg_m6 (List.mem_of_getElem? (i := 130) rfl) rfl
theorem kw_1031 : Cond.instanceMethod yX12_end ∈ sg_W0 := sg_m6 (List.mem_of_getElem? (i := 131) rfl) rfl
theorem kw_1032 : Cond.selects RX12 yX12_end yX12_end ∈ sg_W0 := sg_m6 (List.mem_of_getElem? (i := 132) rfl) rfl
theorem kw_1033 : Cond.code yX12_end cX12_end 2 (some .boolean) ∈ sg_W0 := sg_m6 (List.mem_of_getElem? (i := 133) rfl) rfl
theorem kw_1034 : Cond.methodLink RL 40 yX12_blade ∈ sg_W0 := sg_m6 (List.mem_of_getElem? (i := 134) rfl) rfl
theorem kw_1035 : Cond.instanceMethod yX12_blade ∈ sg_W0 := sg_m6 (List.mem_of_getElem? (i := 135) rfl) rfl
theorem kw_1036 : Cond.selects RX12 yX12_blade yX12_blade ∈ sg_W0 := sg_m6 (List.mem_of_getElem? (i := 136) rfl) rfl
theorem kw_1037 : Cond.code yX12_blade cX12_blade 2 (some .int) ∈ sg_W0 := sg_m6 (List.mem_of_getElem? (i := 137) rfl) rfl
theorem kw_1038 : Cond.methodLink RX12 196 yX12_begin ∈ sg_W0 := sg_m6 (List.mem_of_getElem? (i := 138) rfl) rfl
theorem kw_1039 : Cond.instanceMethod yX12_begin ∈ sg_W0 := sg_m6 (List.mem_of_getElem? (i := 140) rfl) rfl
theorem kw_1040 : Cond.code yX12_begin cX12_begin 2 none ∈ sg_W0 := sg_m6 (List.mem_of_getElem? (i := 141) rfl) rfl
theorem kw_1041 : Cond.methodLink RX12 175 yX12_lay ∈ sg_W0 := sg_m6 (List.mem_of_getElem? (i := 142) rfl) rfl
theorem kw_1042 : Cond.instanceMethod yX12_lay ∈ sg_W0 := sg_m6 (List.mem_of_getElem? (i := 144) rfl) rfl
theorem kw_1043 : Cond.code yX12_lay cX12_lay 2 none ∈ sg_W0 := sg_m6 (List.mem_of_getElem? (i := 145) rfl) rfl
theorem kw_1044 : Cond.methodLink RX12 178 yX12_takeTape ∈ sg_W0 := sg_m6 (List.mem_of_getElem? (i := 146) rfl) rfl
theorem kw_1045 : Cond.instanceMethod yX12_takeTape ∈ sg_W0 := sg_m6 (List.mem_of_getElem? (i := 148) rfl) rfl
theorem kw_1046 : Cond.code yX12_takeTape cX12_takeTape 2 (some .int) ∈ sg_W0 := sg_m6 (List.mem_of_getElem? (i := 149) rfl) rfl
theorem kw_1047 : Cond.methodLink RX12 162 yX12_go ∈ sg_W0 := sg_m6 (List.mem_of_getElem? (i := 150) rfl) rfl
theorem kw_1048 : Cond.instanceMethod yX12_go ∈ sg_W0 := sg_m6 (List.mem_of_getElem? (i := 152) rfl) rfl
theorem kw_1049 : Cond.code yX12_go cX12_go 5 none ∈ sg_W0 := sg_m6 (List.mem_of_getElem? (i := 153) rfl) rfl
theorem kw_1050 : Cond.methodLink RX12 109 yX12_isLetter ∈ sg_W0 := sg_m6 (List.mem_of_getElem? (i := 154) rfl) rfl
theorem kw_1051 : Cond.static yX12_isLetter ∈ sg_W0 := sg_m6 (List.mem_of_getElem? (i := 155) rfl) rfl
theorem kw_1052 : Cond.code yX12_isLetter cX12_isLetter 1 (some .boolean) ∈ sg_W0 := sg_m6 (List.mem_of_getElem? (i := 156) rfl) rfl
theorem kw_1053 : Cond.methodLink RX12 113 yX12_isDigit ∈ sg_W0 := sg_m6 (List.mem_of_getElem? (i := 157) rfl) rfl
theorem kw_1054 : Cond.static yX12_isDigit ∈ sg_W0 := sg_m6 (List.mem_of_getElem? (i := 158) rfl) rfl
theorem kw_1055 : Cond.code yX12_isDigit cX12_isDigit 1 (some .boolean) ∈ sg_W0 := sg_m6 (List.mem_of_getElem? (i := 159) rfl) rfl
theorem kw_1056 : Cond.methodLink RX12 126 yX12_byteAt ∈ sg_W0 := sg_m6 (List.mem_of_getElem? (i := 160) rfl) rfl
theorem kw_1057 : Cond.instanceMethod yX12_byteAt ∈ sg_W0 := sg_m6 (List.mem_of_getElem? (i := 162) rfl) rfl
theorem kw_1058 : Cond.code yX12_byteAt cX12_byteAt 2 (some .int) ∈ sg_W0 := sg_m6 (List.mem_of_getElem? (i := 163) rfl) rfl
theorem kw_1059 : Cond.constantLong RX12 130 27 ∈ sg_W0 := sg_m6 (List.mem_of_getElem? (i := 164) rfl) rfl
theorem kw_1060 : Cond.constantLong RX12 132 96 ∈ sg_W0 := sg_m6 (List.mem_of_getElem? (i := 165) rfl) rfl
theorem kw_1061 : Cond.methodLink RX12 199 yX12_readLine ∈ sg_W0 := sg_m6 (List.mem_of_getElem? (i := 166) rfl) rfl
theorem kw_1062 : Cond.instanceMethod yX12_readLine ∈ sg_W0 := sg_m6 (List.mem_of_getElem? (i := 168) rfl) rfl
theorem kw_1063 : Cond.code yX12_readLine cX12_readLine 8 (some .boolean) ∈ sg_W0 := sg_m6 (List.mem_of_getElem? (i := 169) rfl) rfl
theorem kw_1064 : Cond.methodLink RX12 172 yX12_isWord ∈ sg_W0 := sg_m6 (List.mem_of_getElem? (i := 170) rfl) rfl
theorem kw_1065 : Cond.instanceMethod yX12_isWord ∈ sg_W0 := sg_m6 (List.mem_of_getElem? (i := 172) rfl) rfl
theorem kw_1066 : Cond.code yX12_isWord cX12_isWord 2 (some .boolean) ∈ sg_W0 := sg_m6 (List.mem_of_getElem? (i := 173) rfl) rfl
theorem kw_1067 : Cond.methodLink RX12 142 yX12_wordOf ∈ sg_W0 := sg_m6 (List.mem_of_getElem? (i := 174) rfl) rfl
theorem kw_1068 : Cond.static yX12_wordOf ∈ sg_W0 := sg_m6 (List.mem_of_getElem? (i := 175) rfl) rfl
theorem kw_1069 : Cond.code yX12_wordOf cX12_wordOf 1 (some .long) ∈ sg_W0 := sg_m6 (List.mem_of_getElem? (i := 176) rfl) rfl
theorem kw_1070 : Cond.methodLink RX12 134 yX12_spelt ∈ sg_W0 := sg_m6 (List.mem_of_getElem? (i := 177) rfl) rfl
theorem kw_1071 : Cond.static yX12_spelt ∈ sg_W0 := sg_m6 (List.mem_of_getElem? (i := 178) rfl) rfl
theorem kw_1072 : Cond.code yX12_spelt cX12_spelt 6 (some .long) ∈ sg_W0 := sg_m6 (List.mem_of_getElem? (i := 179) rfl) rfl
theorem kw_1073 : Cond.methodLink RX12 138 yX12_on ∈ sg_W0 := sg_m6 (List.mem_of_getElem? (i := 180) rfl) rfl
theorem kw_1074 : Cond.static yX12_on ∈ sg_W0 := sg_m6 (List.mem_of_getElem? (i := 181) rfl) rfl
theorem kw_1075 : Cond.code yX12_on cX12_on 6 (some .long) ∈ sg_W0 := sg_m6 (List.mem_of_getElem? (i := 182) rfl) rfl
theorem kw_1076 : Cond.methodLink RX12 152 yX12_bad ∈ sg_W0 := sg_m6 (List.mem_of_getElem? (i := 183) rfl) rfl
theorem kw_1077 : Cond.instanceMethod yX12_bad ∈ sg_W0 := sg_m6 (List.mem_of_getElem? (i := 185) rfl) rfl
theorem kw_1078 : Cond.code yX12_bad cX12_bad 2 (some .boolean) ∈ sg_W0 := sg_m6 (List.mem_of_getElem? (i := 186) rfl) rfl
theorem kw_1079 : Cond.methodLink RX12 168 yX12_readNumber ∈ sg_W0 := sg_m6 (List.mem_of_getElem? (i := 187) rfl) rfl
theorem kw_1080 : Cond.instanceMethod yX12_readNumber ∈ sg_W0 := sg_m6 (List.mem_of_getElem? (i := 189) rfl) rfl
theorem kw_1081 : Cond.code yX12_readNumber cX12_readNumber 3 (some .boolean) ∈ sg_W0 := sg_m6 (List.mem_of_getElem? (i := 190) rfl) rfl
theorem kw_1082 : Cond.methodLink RX12 155 yX12_isIn ∈ sg_W0 := sg_m6 (List.mem_of_getElem? (i := 191) rfl) rfl
theorem kw_1083 : Cond.static yX12_isIn ∈ sg_W0 := sg_m6 (List.mem_of_getElem? (i := 192) rfl) rfl
theorem kw_1084 : Cond.code yX12_isIn cX12_isIn 3 (some .boolean) ∈ sg_W0 := sg_m6 (List.mem_of_getElem? (i := 193) rfl) rfl
theorem kw_1085 : Cond.methodLink RX12 189 yX12_readEnd ∈ sg_W0 := sg_m6 (List.mem_of_getElem? (i := 194) rfl) rfl
theorem kw_1086 : Cond.instanceMethod yX12_readEnd ∈ sg_W0 := sg_m6 (List.mem_of_getElem? (i := 196) rfl) rfl
theorem kw_1087 : Cond.code yX12_readEnd cX12_readEnd 1 (some .boolean) ∈ sg_W0 := sg_m6 (List.mem_of_getElem? (i := 197) rfl) rfl
theorem kw_1088 : Cond.methodLink RX12 165 yX12_isSign ∈ sg_W0 := sg_m6 (List.mem_of_getElem? (i := 198) rfl) rfl
theorem kw_1089 : Cond.instanceMethod yX12_isSign ∈ sg_W0 := sg_m6 (List.mem_of_getElem? (i := 200) rfl) rfl
theorem kw_1090 : Cond.code yX12_isSign cX12_isSign 2 (some .boolean) ∈ sg_W0 := sg_m6 (List.mem_of_getElem? (i := 201) rfl) rfl
theorem kw_1091 : Cond.methodLink RX12 193 yX12_readSigned ∈ sg_W0 := sg_m6 (List.mem_of_getElem? (i := 202) rfl) rfl
theorem kw_1092 : Cond.instanceMethod yX12_readSigned ∈ sg_W0 := sg_m6 (List.mem_of_getElem? (i := 204) rfl) rfl
theorem kw_1093 : Cond.code yX12_readSigned cX12_readSigned 3 (some .boolean) ∈ sg_W0 := sg_m6 (List.mem_of_getElem? (i := 205) rfl) rfl
theorem kw_1094 : Cond.methodLink RL 44 yX12_fault ∈ sg_W0 := sg_m6 (List.mem_of_getElem? (i := 206) rfl) rfl
theorem kw_1095 : Cond.instanceMethod yX12_fault ∈ sg_W0 := sg_m6 (List.mem_of_getElem? (i := 207) rfl) rfl
theorem kw_1096 : Cond.selects RX12 yX12_fault yX12_fault ∈ sg_W0 := sg_m6 (List.mem_of_getElem? (i := 208) rfl) rfl
theorem kw_1097 : Cond.code yX12_fault cX12_fault 1 (some .int) ∈ sg_W0 := sg_m6 (List.mem_of_getElem? (i := 209) rfl) rfl
theorem kw_1098 : Cond.methodLink RL 50 yX12_piece ∈ sg_W0 := sg_m6 (List.mem_of_getElem? (i := 210) rfl) rfl
theorem kw_1099 : Cond.instanceMethod yX12_piece ∈ sg_W0 := sg_m6 (List.mem_of_getElem? (i := 211) rfl) rfl
theorem kw_1100 : Cond.selects RX12 yX12_piece yX12_piece ∈ sg_W0 := sg_m6 (List.mem_of_getElem? (i := 212) rfl) rfl
theorem kw_1101 : Cond.code yX12_piece cX12_piece 4 (some .int) ∈ sg_W0 := sg_m6 (List.mem_of_getElem? (i := 213) rfl) rfl
theorem kw_1102 : Cond.methodLink RX12 202 yX12_pieces ∈ sg_W0 := sg_m6 (List.mem_of_getElem? (i := 214) rfl) rfl
theorem kw_1103 : Cond.instanceMethod yX12_pieces ∈ sg_W0 := sg_m6 (List.mem_of_getElem? (i := 216) rfl) rfl
theorem kw_1104 : Cond.code yX12_pieces cX12_pieces 1 (some .int) ∈ sg_W0 := sg_m6 (List.mem_of_getElem? (i := 217) rfl) rfl
theorem kw_1105 : Cond.methodLink RX12 205 yX12_refuse ∈ sg_W0 := sg_m6 (List.mem_of_getElem? (i := 218) rfl) rfl
theorem kw_1106 : Cond.instanceMethod yX12_refuse ∈ sg_W0 := sg_m6 (List.mem_of_getElem? (i := 220) rfl) rfl
theorem kw_1107 : Cond.code yX12_refuse cX12_refuse 1 (some .int) ∈ sg_W0 := sg_m6 (List.mem_of_getElem? (i := 221) rfl) rfl
theorem kw_1108 : Cond.methodLink RX12 208 yX12_stiffness ∈ sg_W0 := sg_m6 (List.mem_of_getElem? (i := 222) rfl) rfl
theorem kw_1109 : Cond.instanceMethod yX12_stiffness ∈ sg_W0 := sg_m6 (List.mem_of_getElem? (i := 224) rfl) rfl
theorem kw_1110 : Cond.code yX12_stiffness cX12_stiffness 5 (some .int) ∈ sg_W0 := sg_m6 (List.mem_of_getElem? (i := 225) rfl) rfl
theorem kw_1111 : Cond.methodLink RL 57 yX12_bend ∈ sg_W0 := sg_m6 (List.mem_of_getElem? (i := 226) rfl) rfl
theorem kw_1112 : Cond.instanceMethod yX12_bend ∈ sg_W0 := sg_m6 (List.mem_of_getElem? (i := 227) rfl) rfl
theorem kw_1113 : Cond.selects RX12 yX12_bend yX12_bend ∈ sg_W0 := sg_m6 (List.mem_of_getElem? (i := 228) rfl) rfl
theorem kw_1114 : Cond.code yX12_bend cX12_bend 5 (some .int) ∈ sg_W0 := sg_m6 (List.mem_of_getElem? (i := 229) rfl) rfl
theorem kw_1115 : Cond.methodLink RX12 232 yX12_isBend ∈ sg_W0 := sg_m6 (List.mem_of_getElem? (i := 230) rfl) rfl
theorem kw_1116 : Cond.static yX12_isBend ∈ sg_W0 := sg_m6 (List.mem_of_getElem? (i := 231) rfl) rfl
theorem kw_1117 : Cond.code yX12_isBend cX12_isBend 2 (some .boolean) ∈ sg_W0 := sg_m6 (List.mem_of_getElem? (i := 232) rfl) rfl
theorem kw_1118 : Cond.methodLink RX12 235 yX12_layBend ∈ sg_W0 := sg_m6 (List.mem_of_getElem? (i := 233) rfl) rfl
theorem kw_1119 : Cond.instanceMethod yX12_layBend ∈ sg_W0 := sg_m6 (List.mem_of_getElem? (i := 235) rfl) rfl
theorem kw_1120 : Cond.code yX12_layBend cX12_layBend 10 none ∈ sg_W0 := sg_m6 (List.mem_of_getElem? (i := 236) rfl) rfl
theorem kw_1121 : Cond.constantLong RX12 224 1000 ∈ sg_W0 := sg_m6 (List.mem_of_getElem? (i := 237) rfl) rfl
theorem kw_1122 : Cond.methodLink RX12 229 yX12_isShutIn ∈ sg_W0 := sg_m6 (List.mem_of_getElem? (i := 238) rfl) rfl
theorem kw_1123 : Cond.instanceMethod yX12_isShutIn ∈ sg_W0 := sg_m7 (List.mem_of_getElem? (i := 0) rfl) rfl
theorem kw_1124 : Cond.code yX12_isShutIn cX12_isShutIn 3 (some .boolean) ∈ sg_W0 := sg_m7 (List.mem_of_getElem? (i := 1) rfl) rfl
theorem kw_1125 : Cond.methodLink RL 61 yX12_breaks ∈ sg_W0 := sg_m7 (List.mem_of_getElem? (i := 2) rfl) rfl
theorem kw_1126 : Cond.instanceMethod yX12_breaks ∈ sg_W0 := sg_m7 (List.mem_of_getElem? (i := 3) rfl) rfl
theorem kw_1127 : Cond.selects RX12 yX12_breaks yX12_breaks ∈ sg_W0 := sg_m7 (List.mem_of_getElem? (i := 4) rfl) rfl
theorem kw_1128 : Cond.code yX12_breaks cX12_breaks 3 (some .int) ∈ sg_W0 := sg_m7 (List.mem_of_getElem? (i := 5) rfl) rfl
theorem kw_1129 : Cond.methodLink RL 66 yX12_place ∈ sg_W0 := sg_m7 (List.mem_of_getElem? (i := 6) rfl) rfl
theorem kw_1130 : Cond.instanceMethod yX12_place ∈ sg_W0 := sg_m7 (List.mem_of_getElem? (i := 7) rfl) rfl
theorem kw_1131 : Cond.selects RX12 yX12_place yX12_place ∈ sg_W0 := sg_m7 (List.mem_of_getElem? (i := 8) rfl) rfl
theorem kw_1132 : Cond.code yX12_place cX12_place 4 (some .int) ∈ sg_W0 := sg_m7 (List.mem_of_getElem? (i := 9) rfl) rfl
theorem kw_1133 : Cond.methodLink RL 70 yX12_tone ∈ sg_W0 := sg_m7 (List.mem_of_getElem? (i := 10) rfl) rfl
theorem kw_1134 : Cond.instanceMethod yX12_tone ∈ sg_W0 := sg_m7 (List.mem_of_getElem? (i := 11) rfl) rfl
theorem kw_1135 : Cond.selects RX12 yX12_tone yX12_tone ∈ sg_W0 := sg_m7 (List.mem_of_getElem? (i := 12) rfl) rfl
theorem kw_1136 : Cond.code yX12_tone cX12_tone 7 (some .int) ∈ sg_W0 := sg_m7 (List.mem_of_getElem? (i := 13) rfl) rfl
theorem kw_1137 : Cond.methodLink RX12 255 yX12_toneOf ∈ sg_W0 := sg_m7 (List.mem_of_getElem? (i := 14) rfl) rfl
theorem kw_1138 : Cond.instanceMethod yX12_toneOf ∈ sg_W0 := sg_m7 (List.mem_of_getElem? (i := 16) rfl) rfl
theorem kw_1139 : Cond.code yX12_toneOf cX12_toneOf 7 (some .int) ∈ sg_W0 := sg_m7 (List.mem_of_getElem? (i := 17) rfl) rfl
theorem kw_1140 : Cond.methodLink RX12 248 yX12_phases ∈ sg_W0 := sg_m7 (List.mem_of_getElem? (i := 18) rfl) rfl
theorem kw_1141 : Cond.instanceMethod yX12_phases ∈ sg_W0 := sg_m7 (List.mem_of_getElem? (i := 20) rfl) rfl
theorem kw_1142 : Cond.code yX12_phases cX12_phases 5 (some .int) ∈ sg_W0 := sg_m7 (List.mem_of_getElem? (i := 21) rfl) rfl
theorem kw_1143 : Cond.methodLink RX12 245 yX12_root ∈ sg_W0 := sg_m7 (List.mem_of_getElem? (i := 22) rfl) rfl
theorem kw_1144 : Cond.static yX12_root ∈ sg_W0 := sg_m7 (List.mem_of_getElem? (i := 23) rfl) rfl
theorem kw_1145 : Cond.code yX12_root cX12_root 3 (some .int) ∈ sg_W0 := sg_m7 (List.mem_of_getElem? (i := 24) rfl) rfl
theorem kw_1146 : Cond.methodLink RX12 252 yX12_isShut ∈ sg_W0 := sg_m7 (List.mem_of_getElem? (i := 25) rfl) rfl
theorem kw_1147 : Cond.instanceMethod yX12_isShut ∈ sg_W0 := sg_m7 (List.mem_of_getElem? (i := 27) rfl) rfl
theorem kw_1148 : Cond.code yX12_isShut cX12_isShut 1 (some .boolean) ∈ sg_W0 := sg_m7 (List.mem_of_getElem? (i := 28) rfl) rfl
theorem kw_1149 : Cond.methodLink RX12 258 yX12_isTwice ∈ sg_W0 := sg_m7 (List.mem_of_getElem? (i := 29) rfl) rfl
theorem kw_1150 : Cond.instanceMethod yX12_isTwice ∈ sg_W0 := sg_m7 (List.mem_of_getElem? (i := 31) rfl) rfl
theorem kw_1151 : Cond.code yX12_isTwice cX12_isTwice 3 (some .boolean) ∈ sg_W0 := sg_m7 (List.mem_of_getElem? (i := 32) rfl) rfl
theorem kw_1152 : Cond.methodLink RX12 261 yX12_rings ∈ sg_W0 := sg_m7 (List.mem_of_getElem? (i := 33) rfl) rfl
theorem kw_1153 : Cond.instanceMethod yX12_rings ∈ sg_W0 := sg_m7 (List.mem_of_getElem? (i := 35) rfl) rfl
theorem kw_1154 : Cond.code yX12_rings cX12_rings 5 (some .int) ∈ sg_W0 := sg_m7 (List.mem_of_getElem? (i := 36) rfl) rfl
theorem kw_1155 : Cond.methodLink RX12 267 yX12_strengthAt ∈ sg_W0 := sg_m7 (List.mem_of_getElem? (i := 37) rfl) rfl
theorem kw_1156 : Cond.instanceMethod yX12_strengthAt ∈ sg_W0 := sg_m7 (List.mem_of_getElem? (i := 39) rfl) rfl
theorem kw_1157 : Cond.code yX12_strengthAt cX12_strengthAt 5 (some .int) ∈ sg_W0 := sg_m7 (List.mem_of_getElem? (i := 40) rfl) rfl
theorem kw_1158 : Cond.methodLink RL 75 yX12_run ∈ sg_W0 := sg_m7 (List.mem_of_getElem? (i := 41) rfl) rfl
theorem kw_1159 : Cond.instanceMethod yX12_run ∈ sg_W0 := sg_m7 (List.mem_of_getElem? (i := 42) rfl) rfl
theorem kw_1160 : Cond.selects RX12 yX12_run yX12_run ∈ sg_W0 := sg_m7 (List.mem_of_getElem? (i := 43) rfl) rfl
theorem kw_1161 : Cond.code yX12_run cX12_run 2 (some .int) ∈ sg_W0 := sg_m7 (List.mem_of_getElem? (i := 44) rfl) rfl
theorem kw_1162 : Cond.methodLink RL 79 yX12_bow ∈ sg_W0 := sg_m7 (List.mem_of_getElem? (i := 45) rfl) rfl
theorem kw_1163 : Cond.instanceMethod yX12_bow ∈ sg_W0 := sg_m7 (List.mem_of_getElem? (i := 46) rfl) rfl
theorem kw_1164 : Cond.selects RX12 yX12_bow yX12_bow ∈ sg_W0 := sg_m7 (List.mem_of_getElem? (i := 47) rfl) rfl
theorem kw_1165 : Cond.code yX12_bow cX12_bow 2 (some .int) ∈ sg_W0 := sg_m7 (List.mem_of_getElem? (i := 48) rfl) rfl
theorem kw_1166 : Cond.methodLink RL 83 yX12_where ∈ sg_W0 := sg_m7 (List.mem_of_getElem? (i := 49) rfl) rfl
theorem kw_1167 : Cond.instanceMethod yX12_where ∈ sg_W0 := sg_m7 (List.mem_of_getElem? (i := 50) rfl) rfl
theorem kw_1168 : Cond.selects RX12 yX12_where yX12_where ∈ sg_W0 := sg_m7 (List.mem_of_getElem? (i := 51) rfl) rfl
theorem kw_1169 : Cond.code yX12_where cX12_where 10 (some .int) ∈ sg_W0 := sg_m7 (List.mem_of_getElem? (i := 52) rfl) rfl
theorem kw_1170 : Cond.methodLink RL 87 yX12_worth ∈ sg_W0 := sg_m7 (List.mem_of_getElem? (i := 53) rfl) rfl
theorem kw_1171 : Cond.instanceMethod yX12_worth ∈ sg_W0 := sg_m7 (List.mem_of_getElem? (i := 54) rfl) rfl
theorem kw_1172 : Cond.selects RX12 yX12_worth yX12_worth ∈ sg_W0 := sg_m7 (List.mem_of_getElem? (i := 55) rfl) rfl
theorem kw_1173 : Cond.code yX12_worth cX12_worth 1 (some .int) ∈ sg_W0 := sg_m7 (List.mem_of_getElem? (i := 56) rfl) rfl
theorem kw_1174 : Cond.methodLink RL 91 yX12_hand ∈ sg_W0 := sg_m7 (List.mem_of_getElem? (i := 57) rfl) rfl
theorem kw_1175 : Cond.instanceMethod yX12_hand ∈ sg_W0 := sg_m7 (List.mem_of_getElem? (i := 58) rfl) rfl
theorem kw_1176 : Cond.selects RX12 yX12_hand yX12_hand ∈ sg_W0 := sg_m7 (List.mem_of_getElem? (i := 59) rfl) rfl
theorem kw_1177 : Cond.code yX12_hand cX12_hand 2 (some .int) ∈ sg_W0 := sg_m7 (List.mem_of_getElem? (i := 60) rfl) rfl
theorem kw_1178 : Cond.methodLink RX12 314 yX12_readStep ∈ sg_W0 := sg_m7 (List.mem_of_getElem? (i := 61) rfl) rfl
theorem kw_1179 : Cond.instanceMethod yX12_readStep ∈ sg_W0 := sg_m7 (List.mem_of_getElem? (i := 63) rfl) rfl
theorem kw_1180 : Cond.code yX12_readStep cX12_readStep 6 (some .boolean) ∈ sg_W0 := sg_m7 (List.mem_of_getElem? (i := 64) rfl) rfl
theorem kw_1181 : Cond.methodLink RX12 298 yX12_readTime ∈ sg_W0 := sg_m7 (List.mem_of_getElem? (i := 65) rfl) rfl
theorem kw_1182 : Cond.instanceMethod yX12_readTime ∈ sg_W0 := sg_m7 (List.mem_of_getElem? (i := 67) rfl) rfl
theorem kw_1183 : Cond.code yX12_readTime cX12_readTime 1 (some .boolean) ∈ sg_W0 := sg_m7 (List.mem_of_getElem? (i := 68) rfl) rfl
theorem kw_1184 : Cond.methodLink RX12 289 yX12_readWord ∈ sg_W0 := sg_m7 (List.mem_of_getElem? (i := 69) rfl) rfl
theorem kw_1185 : Cond.instanceMethod yX12_readWord ∈ sg_W0 := sg_m7 (List.mem_of_getElem? (i := 71) rfl) rfl
theorem kw_1186 : Cond.code yX12_readWord cX12_readWord 2 (some .boolean) ∈ sg_W0 := sg_m7 (List.mem_of_getElem? (i := 72) rfl) rfl
theorem kw_1187 : Cond.methodLink RX12 292 yX12_readLast ∈ sg_W0 := sg_m7 (List.mem_of_getElem? (i := 73) rfl) rfl
theorem kw_1188 : Cond.instanceMethod yX12_readLast ∈ sg_W0 := sg_m7 (List.mem_of_getElem? (i := 75) rfl) rfl
theorem kw_1189 : Cond.code yX12_readLast cX12_readLast 1 (some .boolean) ∈ sg_W0 := sg_m7 (List.mem_of_getElem? (i := 76) rfl) rfl
theorem kw_1190 : Cond.methodLink RX12 307 yX12_tickTo ∈ sg_W0 := sg_m7 (List.mem_of_getElem? (i := 77) rfl) rfl
theorem kw_1191 : Cond.instanceMethod yX12_tickTo ∈ sg_W0 := sg_m7 (List.mem_of_getElem? (i := 79) rfl) rfl
theorem kw_1192 : Cond.code yX12_tickTo cX12_tickTo 3 none ∈ sg_W0 := sg_m7 (List.mem_of_getElem? (i := 80) rfl) rfl
theorem kw_1193 : Cond.methodLink RX12 311 yX12_cut ∈ sg_W0 := sg_m7 (List.mem_of_getElem? (i := 81) rfl) rfl
theorem kw_1194 : Cond.static yX12_cut ∈ sg_W0 := sg_m7 (List.mem_of_getElem? (i := 82) rfl) rfl
theorem kw_1195 : Cond.code yX12_cut cX12_cut 1 (some .int) ∈ sg_W0 := sg_m7 (List.mem_of_getElem? (i := 83) rfl) rfl
theorem kw_1196 : Cond.methodLink RL 94 yX12_tick ∈ sg_W0 := sg_m7 (List.mem_of_getElem? (i := 84) rfl) rfl
theorem kw_1197 : Cond.instanceMethod yX12_tick ∈ sg_W0 := sg_m7 (List.mem_of_getElem? (i := 85) rfl) rfl
theorem kw_1198 : Cond.selects RX12 yX12_tick yX12_tick ∈ sg_W0 := sg_m7 (List.mem_of_getElem? (i := 86) rfl) rfl
theorem kw_1199 : Cond.code yX12_tick cX12_tick 5 (some .int) ∈ sg_W0 := sg_m7 (List.mem_of_getElem? (i := 87) rfl) rfl
theorem kw_1200 : Cond.methodLink RX12 317 yX12_voiceOf ∈ sg_W0 := sg_m7 (List.mem_of_getElem? (i := 88) rfl) rfl
theorem kw_1201 : Cond.instanceMethod yX12_voiceOf ∈ sg_W0 := sg_m7 (List.mem_of_getElem? (i := 90) rfl) rfl
theorem kw_1202 : Cond.code yX12_voiceOf cX12_voiceOf 3 (some .int) ∈ sg_W0 := sg_m7 (List.mem_of_getElem? (i := 91) rfl) rfl
theorem kw_1203 : Cond.methodLink RX12 285 yX12_voiceBy ∈ sg_W0 := sg_m7 (List.mem_of_getElem? (i := 92) rfl) rfl
theorem kw_1204 : Cond.instanceMethod yX12_voiceBy ∈ sg_W0 := sg_m7 (List.mem_of_getElem? (i := 94) rfl) rfl
theorem kw_1205 : Cond.code yX12_voiceBy cX12_voiceBy 10 (some .int) ∈ sg_W0 := sg_m7 (List.mem_of_getElem? (i := 95) rfl) rfl
theorem kw_1206 : Cond.methodLink RL 98 yX12_write ∈ sg_W0 := sg_m7 (List.mem_of_getElem? (i := 96) rfl) rfl
theorem kw_1207 : Cond.instanceMethod yX12_write ∈ sg_W0 := sg_m7 (List.mem_of_getElem? (i := 97) rfl) rfl
theorem kw_1208 : Cond.selects RX12 yX12_write yX12_write ∈ sg_W0 := sg_m7 (List.mem_of_getElem? (i := 98) rfl) rfl
theorem kw_1209 : Cond.code yX12_write cX12_write 3 (some .int) ∈ sg_W0 := sg_m7 (List.mem_of_getElem? (i := 99) rfl) rfl
theorem kw_1210 : Cond.methodLink RX12 320 yX12_bends ∈ sg_W0 := sg_m7 (List.mem_of_getElem? (i := 100) rfl) rfl
theorem kw_1211 : Cond.instanceMethod yX12_bends ∈ sg_W0 := sg_m7 (List.mem_of_getElem? (i := 102) rfl) rfl
theorem kw_1212 : Cond.code yX12_bends cX12_bends 1 (some .int) ∈ sg_W0 := sg_m7 (List.mem_of_getElem? (i := 103) rfl) rfl
theorem kw_1213 : Cond.methodLink RL 102 yX12_voice ∈ sg_W0 := sg_m7 (List.mem_of_getElem? (i := 104) rfl) rfl
theorem kw_1214 : Cond.instanceMethod yX12_voice ∈ sg_W0 := sg_m7 (List.mem_of_getElem? (i := 105) rfl) rfl
theorem kw_1215 : Cond.selects RX12 yX12_voice yX12_voice ∈ sg_W0 := sg_m7 (List.mem_of_getElem? (i := 106) rfl) rfl
theorem kw_1216 : Cond.code yX12_voice cX12_voice 3 (some .int) ∈ sg_W0 := sg_m7 (List.mem_of_getElem? (i := 107) rfl) rfl
theorem kw_1217 : Cond.methodLink RX12 323 yX12_isWritten ∈ sg_W0 := sg_m7 (List.mem_of_getElem? (i := 108) rfl) rfl
theorem kw_1218 : Cond.instanceMethod yX12_isWritten ∈ sg_W0 := sg_m7 (List.mem_of_getElem? (i := 110) rfl) rfl
theorem kw_1219 : Cond.code yX12_isWritten cX12_isWritten 2 (some .boolean) ∈ sg_W0 := sg_m7 (List.mem_of_getElem? (i := 111) rfl) rfl
theorem kw_1220 : Cond.methodLink RX12 326 yX12_aOf ∈ sg_W0 := sg_m7 (List.mem_of_getElem? (i := 112) rfl) rfl
theorem kw_1221 : Cond.instanceMethod yX12_aOf ∈ sg_W0 := sg_m7 (List.mem_of_getElem? (i := 114) rfl) rfl
theorem kw_1222 : Cond.code yX12_aOf cX12_aOf 2 (some .int) ∈ sg_W0 := sg_m7 (List.mem_of_getElem? (i := 115) rfl) rfl
theorem kw_1223 : Cond.methodLink RX12 329 yX12_bOf ∈ sg_W0 := sg_m7 (List.mem_of_getElem? (i := 116) rfl) rfl
theorem kw_1224 : Cond.instanceMethod yX12_bOf ∈ sg_W0 := sg_m7 (List.mem_of_getElem? (i := 118) rfl) rfl
theorem kw_1225 : Cond.code yX12_bOf cX12_bOf 2 (some .int) ∈ sg_W0 := sg_m7 (List.mem_of_getElem? (i := 119) rfl) rfl
theorem kw_1226 : Cond.methodLink RL 106 yX12_range ∈ sg_W0 := sg_m7 (List.mem_of_getElem? (i := 120) rfl) rfl
theorem kw_1227 : Cond.instanceMethod yX12_range ∈ sg_W0 := sg_m7 (List.mem_of_getElem? (i := 121) rfl) rfl
theorem kw_1228 : Cond.selects RX12 yX12_range yX12_range ∈ sg_W0 := sg_m7 (List.mem_of_getElem? (i := 122) rfl) rfl
theorem kw_1229 : Cond.code yX12_range cX12_range 5 (some .int) ∈ sg_W0 := sg_m7 (List.mem_of_getElem? (i := 123) rfl) rfl
theorem kw_1230 : Cond.methodLink RX12 332 yX12_sing ∈ sg_W0 := sg_m7 (List.mem_of_getElem? (i := 124) rfl) rfl
theorem kw_1231 : Cond.instanceMethod yX12_sing ∈ sg_W0 := sg_m7 (List.mem_of_getElem? (i := 126) rfl) rfl
theorem kw_1232 : Cond.code yX12_sing cX12_sing 2 none ∈ sg_W0 := sg_m7 (List.mem_of_getElem? (i := 127) rfl) rfl
theorem kw_1233 : Cond.methodLink RL 110 yX12_song ∈ sg_W0 := sg_m7 (List.mem_of_getElem? (i := 128) rfl) rfl
theorem kw_1234 : Cond.instanceMethod yX12_song ∈ sg_W0 := sg_m7 (List.mem_of_getElem? (i := 129) rfl) rfl
theorem kw_1235 : Cond.selects RX12 yX12_song yX12_song ∈ sg_W0 := sg_m7 (List.mem_of_getElem? (i := 130) rfl) rfl
theorem kw_1236 : Cond.code yX12_song cX12_song 7 (some .int) ∈ sg_W0 := sg_m7 (List.mem_of_getElem? (i := 131) rfl) rfl
theorem kw_1237 : Cond.constant RX12 337 100000000 ∈ sg_W0 := sg_m7 (List.mem_of_getElem? (i := 132) rfl) rfl
theorem kw_1238 : Cond.methodLink RX12 338 yX12_way ∈ sg_W0 := sg_m7 (List.mem_of_getElem? (i := 133) rfl) rfl
theorem kw_1239 : Cond.instanceMethod yX12_way ∈ sg_W0 := sg_m7 (List.mem_of_getElem? (i := 135) rfl) rfl
theorem kw_1240 : Cond.code yX12_way cX12_way 3 (some .int) ∈ sg_W0 := sg_m7 (List.mem_of_getElem? (i := 136) rfl) rfl
theorem kw_1241 : Cond.methodLink RX12 335 yX12_size ∈ sg_W0 := sg_m7 (List.mem_of_getElem? (i := 137) rfl) rfl
theorem kw_1242 : Cond.static yX12_size ∈ sg_W0 := sg_m7 (List.mem_of_getElem? (i := 138) rfl) rfl
theorem kw_1243 : Cond.code yX12_size cX12_size 1 (some .int) ∈ sg_W0 := sg_m7 (List.mem_of_getElem? (i := 139) rfl) rfl
theorem kw_1244 : Cond.methodLink RX12 341 yX12_isNear ∈ sg_W0 := sg_m7 (List.mem_of_getElem? (i := 140) rfl) rfl
theorem kw_1245 : Cond.instanceMethod yX12_isNear ∈ sg_W0 := sg_m7 (List.mem_of_getElem? (i := 142) rfl) rfl
theorem kw_1246 : Cond.code yX12_isNear cX12_isNear 4 (some .boolean) ∈ sg_W0 := sg_m7 (List.mem_of_getElem? (i := 143) rfl) rfl
theorem kw_1247 : Cond.methodLink RL 114 yX12_songAt ∈ sg_W0 := sg_m7 (List.mem_of_getElem? (i := 144) rfl) rfl
theorem kw_1248 : Cond.instanceMethod yX12_songAt ∈ sg_W0 := sg_m7 (List.mem_of_getElem? (i := 145) rfl) rfl
theorem kw_1249 : Cond.selects RX12 yX12_songAt yX12_songAt ∈ sg_W0 := sg_m7 (List.mem_of_getElem? (i := 146) rfl) rfl
theorem kw_1250 : Cond.code yX12_songAt cX12_songAt 2 (some .int) ∈ sg_W0 := sg_m7 (List.mem_of_getElem? (i := 147) rfl) rfl
theorem kw_1251 : Cond.methodLink RL 118 yX12_read ∈ sg_W0 := sg_m7 (List.mem_of_getElem? (i := 148) rfl) rfl
theorem kw_1252 : Cond.instanceMethod yX12_read ∈ sg_W0 := sg_m7 (List.mem_of_getElem? (i := 149) rfl) rfl
theorem kw_1253 : Cond.selects RX12 yX12_read yX12_read ∈ sg_W0 := sg_m7 (List.mem_of_getElem? (i := 150) rfl) rfl
theorem kw_1254 : Cond.code yX12_read cX12_read 4 (some .int) ∈ sg_W0 := sg_m7 (List.mem_of_getElem? (i := 151) rfl) rfl
theorem kw_1255 : Cond.methodLink RL 122 yX12_readAt ∈ sg_W0 := sg_m7 (List.mem_of_getElem? (i := 152) rfl) rfl
theorem kw_1256 : Cond.instanceMethod yX12_readAt ∈ sg_W0 := sg_m7 (List.mem_of_getElem? (i := 153) rfl) rfl
theorem kw_1257 : Cond.selects RX12 yX12_readAt yX12_readAt ∈ sg_W0 := sg_m7 (List.mem_of_getElem? (i := 154) rfl) rfl
theorem kw_1258 : Cond.code yX12_readAt cX12_readAt 2 (some .int) ∈ sg_W0 := sg_m7 (List.mem_of_getElem? (i := 155) rfl) rfl
theorem kw_1259 : Cond.methodLink RL 126 yX12_even ∈ sg_W0 := sg_m7 (List.mem_of_getElem? (i := 156) rfl) rfl
theorem kw_1260 : Cond.instanceMethod yX12_even ∈ sg_W0 := sg_m7 (List.mem_of_getElem? (i := 157) rfl) rfl
theorem kw_1261 : Cond.selects RX12 yX12_even yX12_even ∈ sg_W0 := sg_m7 (List.mem_of_getElem? (i := 158) rfl) rfl
theorem kw_1262 : Cond.code yX12_even cX12_even 9 (some .int) ∈ sg_W0 := sg_m7 (List.mem_of_getElem? (i := 159) rfl) rfl
theorem kw_1263 : Cond.methodLink RL 130 yX12_evenAt ∈ sg_W0 := sg_m7 (List.mem_of_getElem? (i := 160) rfl) rfl
theorem kw_1264 : Cond.instanceMethod yX12_evenAt ∈ sg_W0 := sg_m7 (List.mem_of_getElem? (i := 161) rfl) rfl
theorem kw_1265 : Cond.selects RX12 yX12_evenAt yX12_evenAt ∈ sg_W0 := sg_m7 (List.mem_of_getElem? (i := 162) rfl) rfl
theorem kw_1266 : Cond.code yX12_evenAt cX12_evenAt 2 (some .int) ∈ sg_W0 := sg_m7 (List.mem_of_getElem? (i := 163) rfl) rfl
theorem kw_1267 : Cond.methodLink RL 134 yX12_tremble ∈ sg_W0 := sg_m7 (List.mem_of_getElem? (i := 164) rfl) rfl
theorem kw_1268 : Cond.instanceMethod yX12_tremble ∈ sg_W0 := sg_m7 (List.mem_of_getElem? (i := 165) rfl) rfl
theorem kw_1269 : Cond.selects RX12 yX12_tremble yX12_tremble ∈ sg_W0 := sg_m7 (List.mem_of_getElem? (i := 166) rfl) rfl
theorem kw_1270 : Cond.code yX12_tremble cX12_tremble 9 (some .int) ∈ sg_W0 := sg_m7 (List.mem_of_getElem? (i := 167) rfl) rfl
theorem kw_1271 : Cond.methodLink RL 138 yX12_keep ∈ sg_W0 := sg_m7 (List.mem_of_getElem? (i := 168) rfl) rfl
theorem kw_1272 : Cond.instanceMethod yX12_keep ∈ sg_W0 := sg_m7 (List.mem_of_getElem? (i := 169) rfl) rfl
theorem kw_1273 : Cond.selects RX12 yX12_keep yX12_keep ∈ sg_W0 := sg_m7 (List.mem_of_getElem? (i := 170) rfl) rfl
theorem kw_1274 : Cond.code yX12_keep cX12_keep 3 (some .boolean) ∈ sg_W0 := sg_m7 (List.mem_of_getElem? (i := 171) rfl) rfl
theorem kw_1275 : Cond.methodLink RL 142 yX12_take ∈ sg_W0 := sg_m7 (List.mem_of_getElem? (i := 172) rfl) rfl
theorem kw_1276 : Cond.instanceMethod yX12_take ∈ sg_W0 := sg_m7 (List.mem_of_getElem? (i := 173) rfl) rfl
theorem kw_1277 : Cond.selects RX12 yX12_take yX12_take ∈ sg_W0 := sg_m7 (List.mem_of_getElem? (i := 174) rfl) rfl
theorem kw_1278 : Cond.code yX12_take cX12_take 3 (some .boolean) ∈ sg_W0 := sg_m7 (List.mem_of_getElem? (i := 175) rfl) rfl
theorem kw_1279 : Cond.methodLink RX12 353 yX12_isThere ∈ sg_W0 := sg_m7 (List.mem_of_getElem? (i := 176) rfl) rfl
theorem kw_1280 : Cond.instanceMethod yX12_isThere ∈ sg_W0 := sg_m7 (List.mem_of_getElem? (i := 178) rfl) rfl
theorem kw_1281 : Cond.code yX12_isThere cX12_isThere 2 (some .boolean) ∈ sg_W0 := sg_m7 (List.mem_of_getElem? (i := 179) rfl) rfl
theorem kw_1282 : Cond.methodLink RL 146 yX12_which ∈ sg_W0 := sg_m7 (List.mem_of_getElem? (i := 180) rfl) rfl
theorem kw_1283 : Cond.instanceMethod yX12_which ∈ sg_W0 := sg_m7 (List.mem_of_getElem? (i := 181) rfl) rfl
theorem kw_1284 : Cond.selects RX12 yX12_which yX12_which ∈ sg_W0 := sg_m7 (List.mem_of_getElem? (i := 182) rfl) rfl
theorem kw_1285 : Cond.code yX12_which cX12_which 5 (some .int) ∈ sg_W0 := sg_m7 (List.mem_of_getElem? (i := 183) rfl) rfl
theorem kw_1286 : Cond.methodLink RX12 356 yX12_isBladeOf ∈ sg_W0 := sg_m7 (List.mem_of_getElem? (i := 184) rfl) rfl
theorem kw_1287 : Cond.instanceMethod yX12_isBladeOf ∈ sg_W0 := sg_m7 (List.mem_of_getElem? (i := 186) rfl) rfl
theorem kw_1288 : Cond.code yX12_isBladeOf cX12_isBladeOf 5 (some .boolean) ∈ sg_W0 := sg_m7 (List.mem_of_getElem? (i := 187) rfl) rfl
theorem kw_1289 : Cond.methodLink RL 150 yX12_form ∈ sg_W0 := sg_m7 (List.mem_of_getElem? (i := 188) rfl) rfl
theorem kw_1290 : Cond.instanceMethod yX12_form ∈ sg_W0 := sg_m7 (List.mem_of_getElem? (i := 189) rfl) rfl
theorem kw_1291 : Cond.selects RX12 yX12_form yX12_form ∈ sg_W0 := sg_m7 (List.mem_of_getElem? (i := 190) rfl) rfl
theorem kw_1292 : Cond.code yX12_form cX12_form 8 (some .int) ∈ sg_W0 := sg_m7 (List.mem_of_getElem? (i := 191) rfl) rfl
theorem kw_1293 : Cond.methodLink RX12 359 yX12_rangeBy ∈ sg_W0 := sg_m7 (List.mem_of_getElem? (i := 192) rfl) rfl
theorem kw_1294 : Cond.instanceMethod yX12_rangeBy ∈ sg_W0 := sg_m7 (List.mem_of_getElem? (i := 194) rfl) rfl
theorem kw_1295 : Cond.code yX12_rangeBy cX12_rangeBy 7 (some .int) ∈ sg_W0 := sg_m7 (List.mem_of_getElem? (i := 195) rfl) rfl
theorem kw_1296 : Cond.methodLink RL 154 yX12_formBy ∈ sg_W0 := sg_m7 (List.mem_of_getElem? (i := 196) rfl) rfl
theorem kw_1297 : Cond.instanceMethod yX12_formBy ∈ sg_W0 := sg_m7 (List.mem_of_getElem? (i := 197) rfl) rfl
theorem kw_1298 : Cond.selects RX12 yX12_formBy yX12_formBy ∈ sg_W0 := sg_m7 (List.mem_of_getElem? (i := 198) rfl) rfl
theorem kw_1299 : Cond.code yX12_formBy cX12_formBy 1 (some .int) ∈ sg_W0 := sg_m7 (List.mem_of_getElem? (i := 199) rfl) rfl
theorem kw_1300 : Cond.methodLink RL 159 yX12_forge ∈ sg_W0 := sg_m7 (List.mem_of_getElem? (i := 200) rfl) rfl
theorem kw_1301 : Cond.instanceMethod yX12_forge ∈ sg_W0 := sg_m7 (List.mem_of_getElem? (i := 201) rfl) rfl
theorem kw_1302 : Cond.selects RX12 yX12_forge yX12_forge ∈ sg_W0 := sg_m7 (List.mem_of_getElem? (i := 202) rfl) rfl
theorem kw_1303 : Cond.code yX12_forge cX12_forge 4 (some .boolean) ∈ sg_W0 := sg_m7 (List.mem_of_getElem? (i := 203) rfl) rfl
theorem kw_1304 : Cond.methodLink RL 163 yX12_sentence ∈ sg_W0 := sg_m7 (List.mem_of_getElem? (i := 204) rfl) rfl
theorem kw_1305 : Cond.instanceMethod yX12_sentence ∈ sg_W0 := sg_m7 (List.mem_of_getElem? (i := 205) rfl) rfl
theorem kw_1306 : Cond.selects RX12 yX12_sentence yX12_sentence ∈ sg_W0 := sg_m7 (List.mem_of_getElem? (i := 206) rfl) rfl
theorem kw_1307 : Cond.code yX12_sentence cX12_sentence 2 (some .int) ∈ sg_W0 := sg_m7 (List.mem_of_getElem? (i := 207) rfl) rfl
theorem kw_1308 : Cond.methodLink RX12 393 yX12_readOr ∈ sg_W0 := sg_m7 (List.mem_of_getElem? (i := 208) rfl) rfl
theorem kw_1309 : Cond.instanceMethod yX12_readOr ∈ sg_W0 := sg_m7 (List.mem_of_getElem? (i := 210) rfl) rfl
theorem kw_1310 : Cond.code yX12_readOr cX12_readOr 2 (some .boolean) ∈ sg_W0 := sg_m7 (List.mem_of_getElem? (i := 211) rfl) rfl
theorem kw_1311 : Cond.methodLink RX12 365 yX12_readAnd ∈ sg_W0 := sg_m7 (List.mem_of_getElem? (i := 212) rfl) rfl
theorem kw_1312 : Cond.instanceMethod yX12_readAnd ∈ sg_W0 := sg_m7 (List.mem_of_getElem? (i := 214) rfl) rfl
theorem kw_1313 : Cond.code yX12_readAnd cX12_readAnd 2 (some .boolean) ∈ sg_W0 := sg_m7 (List.mem_of_getElem? (i := 215) rfl) rfl
theorem kw_1314 : Cond.methodLink RX12 375 yX12_readOne ∈ sg_W0 := sg_m7 (List.mem_of_getElem? (i := 216) rfl) rfl
theorem kw_1315 : Cond.instanceMethod yX12_readOne ∈ sg_W0 := sg_m7 (List.mem_of_getElem? (i := 218) rfl) rfl
theorem kw_1316 : Cond.code yX12_readOne cX12_readOne 6 (some .boolean) ∈ sg_W0 := sg_m7 (List.mem_of_getElem? (i := 219) rfl) rfl
theorem kw_1317 : Cond.methodLink RX12 384 yX12_readBracket ∈ sg_W0 := sg_m7 (List.mem_of_getElem? (i := 220) rfl) rfl
theorem kw_1318 : Cond.instanceMethod yX12_readBracket ∈ sg_W0 := sg_m7 (List.mem_of_getElem? (i := 222) rfl) rfl
theorem kw_1319 : Cond.code yX12_readBracket cX12_readBracket 1 (some .boolean) ∈ sg_W0 := sg_m7 (List.mem_of_getElem? (i := 223) rfl) rfl
theorem kw_1320 : Cond.methodLink RX12 387 yX12_readNot ∈ sg_W0 := sg_m7 (List.mem_of_getElem? (i := 224) rfl) rfl
theorem kw_1321 : Cond.instanceMethod yX12_readNot ∈ sg_W0 := sg_m7 (List.mem_of_getElem? (i := 226) rfl) rfl
theorem kw_1322 : Cond.code yX12_readNot cX12_readNot 1 (some .boolean) ∈ sg_W0 := sg_m7 (List.mem_of_getElem? (i := 227) rfl) rfl
theorem kw_1323 : Cond.methodLink RX12 371 yX12_lays ∈ sg_W0 := sg_m7 (List.mem_of_getElem? (i := 228) rfl) rfl
theorem kw_1324 : Cond.instanceMethod yX12_lays ∈ sg_W0 := sg_m7 (List.mem_of_getElem? (i := 230) rfl) rfl
theorem kw_1325 : Cond.code yX12_lays cX12_lays 6 (some .int) ∈ sg_W0 := sg_m7 (List.mem_of_getElem? (i := 231) rfl) rfl
theorem kw_1326 : Cond.methodLink RX12 390 yX12_readCompare ∈ sg_W0 := sg_m7 (List.mem_of_getElem? (i := 232) rfl) rfl
theorem kw_1327 : Cond.instanceMethod yX12_readCompare ∈ sg_W0 := sg_m7 (List.mem_of_getElem? (i := 234) rfl) rfl
theorem kw_1328 : Cond.code yX12_readCompare cX12_readCompare 3 (some .boolean) ∈ sg_W0 := sg_m7 (List.mem_of_getElem? (i := 235) rfl) rfl
theorem kw_1329 : Cond.methodLink RL 167 yX12_said ∈ sg_W0 := sg_m7 (List.mem_of_getElem? (i := 236) rfl) rfl
theorem kw_1330 : Cond.instanceMethod yX12_said ∈ sg_W0 := sg_m7 (List.mem_of_getElem? (i := 237) rfl) rfl
theorem kw_1331 : Cond.selects RX12 yX12_said yX12_said ∈ sg_W0 := sg_m7 (List.mem_of_getElem? (i := 238) rfl) rfl
theorem kw_1332 : Cond.code yX12_said cX12_said 4 (some .int) ∈ sg_W0 := sg_m7 (List.mem_of_getElem? (i := 239) rfl) rfl
theorem kw_1333 : Cond.methodLink RX12 396 yX12_isSo ∈ sg_W0 := sg_m8 (List.mem_of_getElem? (i := 0) rfl) rfl
theorem kw_1334 : Cond.instanceMethod yX12_isSo ∈ sg_W0 := sg_m8 (List.mem_of_getElem? (i := 2) rfl) rfl
theorem kw_1335 : Cond.code yX12_isSo cX12_isSo 5 (some .boolean) ∈ sg_W0 := sg_m8 (List.mem_of_getElem? (i := 3) rfl) rfl
theorem kw_1336 : Cond.methodLink RX12 399 yX12_valueOf ∈ sg_W0 := sg_m8 (List.mem_of_getElem? (i := 4) rfl) rfl
theorem kw_1337 : Cond.instanceMethod yX12_valueOf ∈ sg_W0 := sg_m8 (List.mem_of_getElem? (i := 6) rfl) rfl
theorem kw_1338 : Cond.code yX12_valueOf cX12_valueOf 3 (some .int) ∈ sg_W0 := sg_m8 (List.mem_of_getElem? (i := 7) rfl) rfl
theorem kw_1339 : Cond.methodLink RL 171 yX12_image ∈ sg_W0 := sg_m8 (List.mem_of_getElem? (i := 8) rfl) rfl
theorem kw_1340 : Cond.instanceMethod yX12_image ∈ sg_W0 := sg_m8 (List.mem_of_getElem? (i := 9) rfl) rfl
theorem kw_1341 : Cond.selects RX12 yX12_image yX12_image ∈ sg_W0 := sg_m8 (List.mem_of_getElem? (i := 10) rfl) rfl
theorem kw_1342 : Cond.code yX12_image cX12_image 3 (some .boolean) ∈ sg_W0 := sg_m8 (List.mem_of_getElem? (i := 11) rfl) rfl
theorem kw_1343 : Cond.methodLink RL 175 yX12_restore ∈ sg_W0 := sg_m8 (List.mem_of_getElem? (i := 12) rfl) rfl
theorem kw_1344 : Cond.instanceMethod yX12_restore ∈ sg_W0 := sg_m8 (List.mem_of_getElem? (i := 13) rfl) rfl
theorem kw_1345 : Cond.selects RX12 yX12_restore yX12_restore ∈ sg_W0 := sg_m8 (List.mem_of_getElem? (i := 14) rfl) rfl
theorem kw_1346 : Cond.code yX12_restore cX12_restore 3 (some .boolean) ∈ sg_W0 := sg_m8 (List.mem_of_getElem? (i := 15) rfl) rfl
theorem kw_1347 : Cond.methodLink RL 179 yX12_count ∈ sg_W0 := sg_m8 (List.mem_of_getElem? (i := 16) rfl) rfl
theorem kw_1348 : Cond.instanceMethod yX12_count ∈ sg_W0 := sg_m8 (List.mem_of_getElem? (i := 17) rfl) rfl
theorem kw_1349 : Cond.selects RX12 yX12_count yX12_count ∈ sg_W0 := sg_m8 (List.mem_of_getElem? (i := 18) rfl) rfl
theorem kw_1350 : Cond.code yX12_count cX12_count 2 (some .int) ∈ sg_W0 := sg_m8 (List.mem_of_getElem? (i := 19) rfl) rfl
theorem kw_1351 : Cond.arrayClass .long ∈ sg_W0 := sg_m8 (List.mem_of_getElem? (i := 20) rfl) rfl
theorem kw_1352 : Cond.castable RX11 "java/lang/Object" ∈ sg_WN := sg_n8 (List.mem_of_getElem? (i := 22) rfl) rfl
theorem kw_1353 : Cond.castable RX8 "java/lang/Object" ∈ sg_WN := sg_n8 (List.mem_of_getElem? (i := 23) rfl) rfl
theorem kw_1354 : Cond.castable RX9 "java/lang/Object" ∈ sg_WN := sg_n8 (List.mem_of_getElem? (i := 24) rfl) rfl
theorem kw_1355 : Cond.castable RX7 "java/lang/Object" ∈ sg_WN := sg_n8 (List.mem_of_getElem? (i := 25) rfl) rfl
theorem kw_1356 : Cond.castable RX1 "java/lang/Object" ∈ sg_WN := sg_n8 (List.mem_of_getElem? (i := 26) rfl) rfl
theorem kw_1357 : Cond.castable RX3 "java/lang/Object" ∈ sg_WN := sg_n8 (List.mem_of_getElem? (i := 27) rfl) rfl
theorem kw_1358 : Cond.castable RX5 "java/lang/Object" ∈ sg_WN := sg_n8 (List.mem_of_getElem? (i := 28) rfl) rfl
theorem kw_1359 : Cond.castable RX4 "java/lang/Object" ∈ sg_WN := sg_n8 (List.mem_of_getElem? (i := 29) rfl) rfl
theorem kw_1360 : Cond.castable RX2 "java/lang/Object" ∈ sg_WN := sg_n8 (List.mem_of_getElem? (i := 30) rfl) rfl
theorem kw_1361 : Cond.castable RX0 "java/lang/Object" ∈ sg_WN := sg_n8 (List.mem_of_getElem? (i := 31) rfl) rfl
theorem kw_1362 : Cond.castable RX10 "java/lang/Object" ∈ sg_WN := sg_n8 (List.mem_of_getElem? (i := 32) rfl) rfl
theorem kw_1363 : Cond.castable RX6 "java/lang/Object" ∈ sg_WN := sg_n8 (List.mem_of_getElem? (i := 33) rfl) rfl
theorem kw_1364 : Cond.castable RX12 "java/lang/Object" ∈ sg_WN := sg_n8 (List.mem_of_getElem? (i := 34) rfl) rfl
theorem kw_1365 : Cond.castable "java/util/NoSuchElementException" "java/lang/Object" ∈ sg_WN := sg_n8 (List.mem_of_getElem? (i := 35) rfl) rfl
theorem kw_1366 : Cond.castable "java/lang/Throwable" "java/lang/Object" ∈ sg_WN := sg_n8 (List.mem_of_getElem? (i := 36) rfl) rfl
theorem kw_1367 : Cond.castable RJ0 "java/lang/Object" ∈ sg_WN := sg_n8 (List.mem_of_getElem? (i := 37) rfl) rfl
theorem kw_1368 : Cond.fieldLink RJ0 9 RJ0 "value" "[B" ∈ sg_W0 := sg_m8 (List.mem_of_getElem? (i := 38) rfl) rfl
theorem kw_1369 : Cond.fieldLink RJ0 15 RJ0 "coder" "B" ∈ sg_W0 := sg_m8 (List.mem_of_getElem? (i := 39) rfl) rfl
theorem sg_yRX0_0 : u_lay RX0 TX0 0 ∈ sg_W0 := sg_m2 (List.mem_of_getElem? (i := 28) rfl) rfl
theorem sg_yRX0_1 : u_lay RX0 TX0 1 ∈ sg_W0 := sg_m2 (List.mem_of_getElem? (i := 30) rfl) rfl
theorem sg_yRX0_2 : u_lay RX0 TX0 2 ∈ sg_W0 := sg_m2 (List.mem_of_getElem? (i := 32) rfl) rfl
theorem sg_yRX0_3 : u_lay RX0 TX0 3 ∈ sg_W0 := sg_m2 (List.mem_of_getElem? (i := 34) rfl) rfl
theorem sg_yRX0_4 : u_lay RX0 TX0 4 ∈ sg_W0 := sg_m2 (List.mem_of_getElem? (i := 36) rfl) rfl
theorem sg_yRX0_5 : u_lay RX0 TX0 5 ∈ sg_W0 := sg_m2 (List.mem_of_getElem? (i := 38) rfl) rfl
theorem sg_yRX0_6 : u_lay RX0 TX0 6 ∈ sg_W0 := sg_m2 (List.mem_of_getElem? (i := 40) rfl) rfl
theorem sg_yRX0_7 : u_lay RX0 TX0 7 ∈ sg_W0 := sg_m2 (List.mem_of_getElem? (i := 42) rfl) rfl
theorem sg_yRX0_8 : u_lay RX0 TX0 8 ∈ sg_W0 := sg_m2 (List.mem_of_getElem? (i := 44) rfl) rfl
theorem sg_yRX0_9 : u_lay RX0 TX0 9 ∈ sg_W0 := sg_m2 (List.mem_of_getElem? (i := 46) rfl) rfl
theorem sg_yRX0_10 : u_lay RX0 TX0 10 ∈ sg_W0 := sg_m2 (List.mem_of_getElem? (i := 48) rfl) rfl
theorem sg_lay_RX0 : ∀ w ∈ u_ws RX0 TX0 11, w ∈ sg_W0 := by
  intro w h
  obtain ⟨k, hk, rfl⟩ := List.mem_map.mp h
  have hk := List.mem_range.mp hk
  match k, hk with
  | 0, _ => exact sg_yRX0_0
  | 1, _ => exact sg_yRX0_1
  | 2, _ => exact sg_yRX0_2
  | 3, _ => exact sg_yRX0_3
  | 4, _ => exact sg_yRX0_4
  | 5, _ => exact sg_yRX0_5
  | 6, _ => exact sg_yRX0_6
  | 7, _ => exact sg_yRX0_7
  | 8, _ => exact sg_yRX0_8
  | 9, _ => exact sg_yRX0_9
  | 10, _ => exact sg_yRX0_10
  | (k + 11), hk => exact absurd hk (by omega)
theorem sg_yRX1_0 : u_lay RX1 TX1 0 ∈ sg_W0 := sg_m1 (List.mem_of_getElem? (i := 105) rfl) rfl
theorem sg_yRX1_1 : u_lay RX1 TX1 1 ∈ sg_W0 := sg_m1 (List.mem_of_getElem? (i := 107) rfl) rfl
theorem sg_yRX1_2 : u_lay RX1 TX1 2 ∈ sg_W0 := sg_m1 (List.mem_of_getElem? (i := 109) rfl) rfl
theorem sg_yRX1_3 : u_lay RX1 TX1 3 ∈ sg_W0 := sg_m1 (List.mem_of_getElem? (i := 111) rfl) rfl
theorem sg_yRX1_4 : u_lay RX1 TX1 4 ∈ sg_W0 := sg_m1 (List.mem_of_getElem? (i := 113) rfl) rfl
theorem sg_yRX1_5 : u_lay RX1 TX1 5 ∈ sg_W0 := sg_m1 (List.mem_of_getElem? (i := 115) rfl) rfl
theorem sg_yRX1_6 : u_lay RX1 TX1 6 ∈ sg_W0 := sg_m1 (List.mem_of_getElem? (i := 117) rfl) rfl
theorem sg_lay_RX1 : ∀ w ∈ u_ws RX1 TX1 7, w ∈ sg_W0 := by
  intro w h
  obtain ⟨k, hk, rfl⟩ := List.mem_map.mp h
  have hk := List.mem_range.mp hk
  match k, hk with
  | 0, _ => exact sg_yRX1_0
  | 1, _ => exact sg_yRX1_1
  | 2, _ => exact sg_yRX1_2
  | 3, _ => exact sg_yRX1_3
  | 4, _ => exact sg_yRX1_4
  | 5, _ => exact sg_yRX1_5
  | 6, _ => exact sg_yRX1_6
  | (k + 7), hk => exact absurd hk (by omega)
theorem sg_yRX2_0 : u_lay RX2 TX2 0 ∈ sg_W0 := sg_m1 (List.mem_of_getElem? (i := 206) rfl) rfl
theorem sg_yRX2_1 : u_lay RX2 TX2 1 ∈ sg_W0 := sg_m1 (List.mem_of_getElem? (i := 208) rfl) rfl
theorem sg_yRX2_2 : u_lay RX2 TX2 2 ∈ sg_W0 := sg_m1 (List.mem_of_getElem? (i := 210) rfl) rfl
theorem sg_lay_RX2 : ∀ w ∈ u_ws RX2 TX2 3, w ∈ sg_W0 := by
  intro w h
  obtain ⟨k, hk, rfl⟩ := List.mem_map.mp h
  have hk := List.mem_range.mp hk
  match k, hk with
  | 0, _ => exact sg_yRX2_0
  | 1, _ => exact sg_yRX2_1
  | 2, _ => exact sg_yRX2_2
  | (k + 3), hk => exact absurd hk (by omega)
theorem sg_yRX3_0 : u_lay RX3 TX3 0 ∈ sg_W0 := sg_m1 (List.mem_of_getElem? (i := 132) rfl) rfl
theorem sg_yRX3_1 : u_lay RX3 TX3 1 ∈ sg_W0 := sg_m1 (List.mem_of_getElem? (i := 134) rfl) rfl
theorem sg_yRX3_2 : u_lay RX3 TX3 2 ∈ sg_W0 := sg_m1 (List.mem_of_getElem? (i := 136) rfl) rfl
theorem sg_yRX3_3 : u_lay RX3 TX3 3 ∈ sg_W0 := sg_m1 (List.mem_of_getElem? (i := 138) rfl) rfl
theorem sg_yRX3_4 : u_lay RX3 TX3 4 ∈ sg_W0 := sg_m1 (List.mem_of_getElem? (i := 140) rfl) rfl
theorem sg_lay_RX3 : ∀ w ∈ u_ws RX3 TX3 5, w ∈ sg_W0 := by
  intro w h
  obtain ⟨k, hk, rfl⟩ := List.mem_map.mp h
  have hk := List.mem_range.mp hk
  match k, hk with
  | 0, _ => exact sg_yRX3_0
  | 1, _ => exact sg_yRX3_1
  | 2, _ => exact sg_yRX3_2
  | 3, _ => exact sg_yRX3_3
  | 4, _ => exact sg_yRX3_4
  | (k + 5), hk => exact absurd hk (by omega)
theorem sg_yRX4_0 : u_lay RX4 TX4 0 ∈ sg_W0 := sg_m1 (List.mem_of_getElem? (i := 166) rfl) rfl
theorem sg_yRX4_1 : u_lay RX4 TX4 1 ∈ sg_W0 := sg_m1 (List.mem_of_getElem? (i := 168) rfl) rfl
theorem sg_yRX4_2 : u_lay RX4 TX4 2 ∈ sg_W0 := sg_m1 (List.mem_of_getElem? (i := 170) rfl) rfl
theorem sg_lay_RX4 : ∀ w ∈ u_ws RX4 TX4 3, w ∈ sg_W0 := by
  intro w h
  obtain ⟨k, hk, rfl⟩ := List.mem_map.mp h
  have hk := List.mem_range.mp hk
  match k, hk with
  | 0, _ => exact sg_yRX4_0
  | 1, _ => exact sg_yRX4_1
  | 2, _ => exact sg_yRX4_2
  | (k + 3), hk => exact absurd hk (by omega)
theorem sg_yRX5_0 : u_lay RX5 TX5 0 ∈ sg_W0 := sg_m1 (List.mem_of_getElem? (i := 178) rfl) rfl
theorem sg_yRX5_1 : u_lay RX5 TX5 1 ∈ sg_W0 := sg_m1 (List.mem_of_getElem? (i := 180) rfl) rfl
theorem sg_yRX5_2 : u_lay RX5 TX5 2 ∈ sg_W0 := sg_m1 (List.mem_of_getElem? (i := 182) rfl) rfl
theorem sg_yRX5_3 : u_lay RX5 TX5 3 ∈ sg_W0 := sg_m1 (List.mem_of_getElem? (i := 184) rfl) rfl
theorem sg_lay_RX5 : ∀ w ∈ u_ws RX5 TX5 4, w ∈ sg_W0 := by
  intro w h
  obtain ⟨k, hk, rfl⟩ := List.mem_map.mp h
  have hk := List.mem_range.mp hk
  match k, hk with
  | 0, _ => exact sg_yRX5_0
  | 1, _ => exact sg_yRX5_1
  | 2, _ => exact sg_yRX5_2
  | 3, _ => exact sg_yRX5_3
  | (k + 4), hk => exact absurd hk (by omega)
theorem sg_yRX6_0 : u_lay RX6 TX6 0 ∈ sg_W0 := sg_m2 (List.mem_of_getElem? (i := 107) rfl) rfl
theorem sg_yRX6_1 : u_lay RX6 TX6 1 ∈ sg_W0 := sg_m2 (List.mem_of_getElem? (i := 109) rfl) rfl
theorem sg_yRX6_2 : u_lay RX6 TX6 2 ∈ sg_W0 := sg_m2 (List.mem_of_getElem? (i := 111) rfl) rfl
theorem sg_lay_RX6 : ∀ w ∈ u_ws RX6 TX6 3, w ∈ sg_W0 := by
  intro w h
  obtain ⟨k, hk, rfl⟩ := List.mem_map.mp h
  have hk := List.mem_range.mp hk
  match k, hk with
  | 0, _ => exact sg_yRX6_0
  | 1, _ => exact sg_yRX6_1
  | 2, _ => exact sg_yRX6_2
  | (k + 3), hk => exact absurd hk (by omega)
theorem sg_yRX7_0 : u_lay RX7 TX7 0 ∈ sg_W0 := sg_m1 (List.mem_of_getElem? (i := 225) rfl) rfl
theorem sg_yRX7_1 : u_lay RX7 TX7 1 ∈ sg_W0 := sg_m1 (List.mem_of_getElem? (i := 227) rfl) rfl
theorem sg_yRX7_2 : u_lay RX7 TX7 2 ∈ sg_W0 := sg_m1 (List.mem_of_getElem? (i := 229) rfl) rfl
theorem sg_yRX7_3 : u_lay RX7 TX7 3 ∈ sg_W0 := sg_m1 (List.mem_of_getElem? (i := 231) rfl) rfl
theorem sg_yRX7_4 : u_lay RX7 TX7 4 ∈ sg_W0 := sg_m1 (List.mem_of_getElem? (i := 233) rfl) rfl
theorem sg_lay_RX7 : ∀ w ∈ u_ws RX7 TX7 5, w ∈ sg_W0 := by
  intro w h
  obtain ⟨k, hk, rfl⟩ := List.mem_map.mp h
  have hk := List.mem_range.mp hk
  match k, hk with
  | 0, _ => exact sg_yRX7_0
  | 1, _ => exact sg_yRX7_1
  | 2, _ => exact sg_yRX7_2
  | 3, _ => exact sg_yRX7_3
  | 4, _ => exact sg_yRX7_4
  | (k + 5), hk => exact absurd hk (by omega)
theorem sg_yRX8_0 : u_lay RX8 TX8 0 ∈ sg_W0 := sg_m1 (List.mem_of_getElem? (i := 42) rfl) rfl
theorem sg_yRX8_1 : u_lay RX8 TX8 1 ∈ sg_W0 := sg_m1 (List.mem_of_getElem? (i := 44) rfl) rfl
theorem sg_lay_RX8 : ∀ w ∈ u_ws RX8 TX8 2, w ∈ sg_W0 := by
  intro w h
  obtain ⟨k, hk, rfl⟩ := List.mem_map.mp h
  have hk := List.mem_range.mp hk
  match k, hk with
  | 0, _ => exact sg_yRX8_0
  | 1, _ => exact sg_yRX8_1
  | (k + 2), hk => exact absurd hk (by omega)
theorem sg_yRX9_0 : u_lay RX9 TX9 0 ∈ sg_W0 := sg_m1 (List.mem_of_getElem? (i := 66) rfl) rfl
theorem sg_yRX9_1 : u_lay RX9 TX9 1 ∈ sg_W0 := sg_m1 (List.mem_of_getElem? (i := 68) rfl) rfl
theorem sg_yRX9_2 : u_lay RX9 TX9 2 ∈ sg_W0 := sg_m1 (List.mem_of_getElem? (i := 70) rfl) rfl
theorem sg_yRX9_3 : u_lay RX9 TX9 3 ∈ sg_W0 := sg_m1 (List.mem_of_getElem? (i := 72) rfl) rfl
theorem sg_yRX9_4 : u_lay RX9 TX9 4 ∈ sg_W0 := sg_m1 (List.mem_of_getElem? (i := 74) rfl) rfl
theorem sg_yRX9_5 : u_lay RX9 TX9 5 ∈ sg_W0 := sg_m1 (List.mem_of_getElem? (i := 76) rfl) rfl
theorem sg_yRX9_6 : u_lay RX9 TX9 6 ∈ sg_W0 := sg_m1 (List.mem_of_getElem? (i := 78) rfl) rfl
theorem sg_yRX9_7 : u_lay RX9 TX9 7 ∈ sg_W0 := sg_m1 (List.mem_of_getElem? (i := 80) rfl) rfl
theorem sg_lay_RX9 : ∀ w ∈ u_ws RX9 TX9 8, w ∈ sg_W0 := by
  intro w h
  obtain ⟨k, hk, rfl⟩ := List.mem_map.mp h
  have hk := List.mem_range.mp hk
  match k, hk with
  | 0, _ => exact sg_yRX9_0
  | 1, _ => exact sg_yRX9_1
  | 2, _ => exact sg_yRX9_2
  | 3, _ => exact sg_yRX9_3
  | 4, _ => exact sg_yRX9_4
  | 5, _ => exact sg_yRX9_5
  | 6, _ => exact sg_yRX9_6
  | 7, _ => exact sg_yRX9_7
  | (k + 8), hk => exact absurd hk (by omega)
theorem sg_yRX10_0 : u_lay RX10 TX10 0 ∈ sg_W0 := sg_m2 (List.mem_of_getElem? (i := 80) rfl) rfl
theorem sg_yRX10_1 : u_lay RX10 TX10 1 ∈ sg_W0 := sg_m2 (List.mem_of_getElem? (i := 82) rfl) rfl
theorem sg_yRX10_2 : u_lay RX10 TX10 2 ∈ sg_W0 := sg_m2 (List.mem_of_getElem? (i := 84) rfl) rfl
theorem sg_yRX10_3 : u_lay RX10 TX10 3 ∈ sg_W0 := sg_m2 (List.mem_of_getElem? (i := 86) rfl) rfl
theorem sg_yRX10_4 : u_lay RX10 TX10 4 ∈ sg_W0 := sg_m2 (List.mem_of_getElem? (i := 88) rfl) rfl
theorem sg_yRX10_5 : u_lay RX10 TX10 5 ∈ sg_W0 := sg_m2 (List.mem_of_getElem? (i := 90) rfl) rfl
theorem sg_yRX10_6 : u_lay RX10 TX10 6 ∈ sg_W0 := sg_m2 (List.mem_of_getElem? (i := 92) rfl) rfl
theorem sg_lay_RX10 : ∀ w ∈ u_ws RX10 TX10 7, w ∈ sg_W0 := by
  intro w h
  obtain ⟨k, hk, rfl⟩ := List.mem_map.mp h
  have hk := List.mem_range.mp hk
  match k, hk with
  | 0, _ => exact sg_yRX10_0
  | 1, _ => exact sg_yRX10_1
  | 2, _ => exact sg_yRX10_2
  | 3, _ => exact sg_yRX10_3
  | 4, _ => exact sg_yRX10_4
  | 5, _ => exact sg_yRX10_5
  | 6, _ => exact sg_yRX10_6
  | (k + 7), hk => exact absurd hk (by omega)
theorem sg_yRX11_0 : u_lay RX11 TX11 0 ∈ sg_W0 := sg_m2 (List.mem_of_getElem? (i := 143) rfl) rfl
theorem sg_yRX11_1 : u_lay RX11 TX11 1 ∈ sg_W0 := sg_m2 (List.mem_of_getElem? (i := 145) rfl) rfl
theorem sg_yRX11_2 : u_lay RX11 TX11 2 ∈ sg_W0 := sg_m2 (List.mem_of_getElem? (i := 147) rfl) rfl
theorem sg_yRX11_3 : u_lay RX11 TX11 3 ∈ sg_W0 := sg_m2 (List.mem_of_getElem? (i := 149) rfl) rfl
theorem sg_yRX11_4 : u_lay RX11 TX11 4 ∈ sg_W0 := sg_m2 (List.mem_of_getElem? (i := 151) rfl) rfl
theorem sg_yRX11_5 : u_lay RX11 TX11 5 ∈ sg_W0 := sg_m2 (List.mem_of_getElem? (i := 153) rfl) rfl
theorem sg_yRX11_6 : u_lay RX11 TX11 6 ∈ sg_W0 := sg_m2 (List.mem_of_getElem? (i := 155) rfl) rfl
theorem sg_yRX11_7 : u_lay RX11 TX11 7 ∈ sg_W0 := sg_m2 (List.mem_of_getElem? (i := 157) rfl) rfl
theorem sg_yRX11_8 : u_lay RX11 TX11 8 ∈ sg_W0 := sg_m2 (List.mem_of_getElem? (i := 159) rfl) rfl
theorem sg_yRX11_9 : u_lay RX11 TX11 9 ∈ sg_W0 := sg_m2 (List.mem_of_getElem? (i := 161) rfl) rfl
theorem sg_yRX11_10 : u_lay RX11 TX11 10 ∈ sg_W0 := sg_m2 (List.mem_of_getElem? (i := 163) rfl) rfl
theorem sg_yRX11_11 : u_lay RX11 TX11 11 ∈ sg_W0 := sg_m2 (List.mem_of_getElem? (i := 165) rfl) rfl
theorem sg_yRX11_12 : u_lay RX11 TX11 12 ∈ sg_W0 := sg_m2 (List.mem_of_getElem? (i := 167) rfl) rfl
theorem sg_yRX11_13 : u_lay RX11 TX11 13 ∈ sg_W0 := sg_m2 (List.mem_of_getElem? (i := 169) rfl) rfl
theorem sg_yRX11_14 : u_lay RX11 TX11 14 ∈ sg_W0 := sg_m2 (List.mem_of_getElem? (i := 171) rfl) rfl
theorem sg_yRX11_15 : u_lay RX11 TX11 15 ∈ sg_W0 := sg_m2 (List.mem_of_getElem? (i := 173) rfl) rfl
theorem sg_yRX11_16 : u_lay RX11 TX11 16 ∈ sg_W0 := sg_m2 (List.mem_of_getElem? (i := 175) rfl) rfl
theorem sg_yRX11_17 : u_lay RX11 TX11 17 ∈ sg_W0 := sg_m2 (List.mem_of_getElem? (i := 177) rfl) rfl
theorem sg_yRX11_18 : u_lay RX11 TX11 18 ∈ sg_W0 := sg_m2 (List.mem_of_getElem? (i := 179) rfl) rfl
theorem sg_lay_RX11 : ∀ w ∈ u_ws RX11 TX11 19, w ∈ sg_W0 := by
  intro w h
  obtain ⟨k, hk, rfl⟩ := List.mem_map.mp h
  have hk := List.mem_range.mp hk
  match k, hk with
  | 0, _ => exact sg_yRX11_0
  | 1, _ => exact sg_yRX11_1
  | 2, _ => exact sg_yRX11_2
  | 3, _ => exact sg_yRX11_3
  | 4, _ => exact sg_yRX11_4
  | 5, _ => exact sg_yRX11_5
  | 6, _ => exact sg_yRX11_6
  | 7, _ => exact sg_yRX11_7
  | 8, _ => exact sg_yRX11_8
  | 9, _ => exact sg_yRX11_9
  | 10, _ => exact sg_yRX11_10
  | 11, _ => exact sg_yRX11_11
  | 12, _ => exact sg_yRX11_12
  | 13, _ => exact sg_yRX11_13
  | 14, _ => exact sg_yRX11_14
  | 15, _ => exact sg_yRX11_15
  | 16, _ => exact sg_yRX11_16
  | 17, _ => exact sg_yRX11_17
  | 18, _ => exact sg_yRX11_18
  | (k + 19), hk => exact absurd hk (by omega)
theorem sg_yRX12_0 : u_lay RX12 TX12 0 ∈ sg_W0 := sg_m5 (List.mem_of_getElem? (i := 232) rfl) rfl
theorem sg_yRX12_1 : u_lay RX12 TX12 1 ∈ sg_W0 := sg_m5 (List.mem_of_getElem? (i := 234) rfl) rfl
theorem sg_yRX12_2 : u_lay RX12 TX12 2 ∈ sg_W0 := sg_m5 (List.mem_of_getElem? (i := 236) rfl) rfl
theorem sg_yRX12_3 : u_lay RX12 TX12 3 ∈ sg_W0 := sg_m5 (List.mem_of_getElem? (i := 238) rfl) rfl
theorem sg_yRX12_4 : u_lay RX12 TX12 4 ∈ sg_W0 := sg_m6 (List.mem_of_getElem? (i := 0) rfl) rfl
theorem sg_yRX12_5 : u_lay RX12 TX12 5 ∈ sg_W0 := sg_m6 (List.mem_of_getElem? (i := 2) rfl) rfl
theorem sg_yRX12_6 : u_lay RX12 TX12 6 ∈ sg_W0 := sg_m6 (List.mem_of_getElem? (i := 4) rfl) rfl
theorem sg_yRX12_7 : u_lay RX12 TX12 7 ∈ sg_W0 := sg_m6 (List.mem_of_getElem? (i := 6) rfl) rfl
theorem sg_yRX12_8 : u_lay RX12 TX12 8 ∈ sg_W0 := sg_m6 (List.mem_of_getElem? (i := 8) rfl) rfl
theorem sg_yRX12_9 : u_lay RX12 TX12 9 ∈ sg_W0 := sg_m6 (List.mem_of_getElem? (i := 10) rfl) rfl
theorem sg_yRX12_10 : u_lay RX12 TX12 10 ∈ sg_W0 := sg_m6 (List.mem_of_getElem? (i := 12) rfl) rfl
theorem sg_yRX12_11 : u_lay RX12 TX12 11 ∈ sg_W0 := sg_m6 (List.mem_of_getElem? (i := 14) rfl) rfl
theorem sg_yRX12_12 : u_lay RX12 TX12 12 ∈ sg_W0 := sg_m6 (List.mem_of_getElem? (i := 16) rfl) rfl
theorem sg_yRX12_13 : u_lay RX12 TX12 13 ∈ sg_W0 := sg_m6 (List.mem_of_getElem? (i := 18) rfl) rfl
theorem sg_yRX12_14 : u_lay RX12 TX12 14 ∈ sg_W0 := sg_m6 (List.mem_of_getElem? (i := 20) rfl) rfl
theorem sg_yRX12_15 : u_lay RX12 TX12 15 ∈ sg_W0 := sg_m6 (List.mem_of_getElem? (i := 22) rfl) rfl
theorem sg_yRX12_16 : u_lay RX12 TX12 16 ∈ sg_W0 := sg_m6 (List.mem_of_getElem? (i := 24) rfl) rfl
theorem sg_yRX12_17 : u_lay RX12 TX12 17 ∈ sg_W0 := sg_m6 (List.mem_of_getElem? (i := 26) rfl) rfl
theorem sg_yRX12_18 : u_lay RX12 TX12 18 ∈ sg_W0 := sg_m6 (List.mem_of_getElem? (i := 28) rfl) rfl
theorem sg_yRX12_19 : u_lay RX12 TX12 19 ∈ sg_W0 := sg_m6 (List.mem_of_getElem? (i := 30) rfl) rfl
theorem sg_yRX12_20 : u_lay RX12 TX12 20 ∈ sg_W0 := sg_m6 (List.mem_of_getElem? (i := 32) rfl) rfl
theorem sg_yRX12_21 : u_lay RX12 TX12 21 ∈ sg_W0 := sg_m6 (List.mem_of_getElem? (i := 34) rfl) rfl
theorem sg_yRX12_22 : u_lay RX12 TX12 22 ∈ sg_W0 := sg_m6 (List.mem_of_getElem? (i := 36) rfl) rfl
theorem sg_yRX12_23 : u_lay RX12 TX12 23 ∈ sg_W0 := sg_m6 (List.mem_of_getElem? (i := 38) rfl) rfl
theorem sg_yRX12_24 : u_lay RX12 TX12 24 ∈ sg_W0 := sg_m6 (List.mem_of_getElem? (i := 40) rfl) rfl
theorem sg_yRX12_25 : u_lay RX12 TX12 25 ∈ sg_W0 := sg_m6 (List.mem_of_getElem? (i := 42) rfl) rfl
theorem sg_yRX12_26 : u_lay RX12 TX12 26 ∈ sg_W0 := sg_m6 (List.mem_of_getElem? (i := 44) rfl) rfl
theorem sg_yRX12_27 : u_lay RX12 TX12 27 ∈ sg_W0 := sg_m6 (List.mem_of_getElem? (i := 46) rfl) rfl
theorem sg_yRX12_28 : u_lay RX12 TX12 28 ∈ sg_W0 := sg_m6 (List.mem_of_getElem? (i := 48) rfl) rfl
theorem sg_yRX12_29 : u_lay RX12 TX12 29 ∈ sg_W0 := sg_m6 (List.mem_of_getElem? (i := 50) rfl) rfl
theorem sg_yRX12_30 : u_lay RX12 TX12 30 ∈ sg_W0 := sg_m6 (List.mem_of_getElem? (i := 52) rfl) rfl
theorem sg_yRX12_31 : u_lay RX12 TX12 31 ∈ sg_W0 := sg_m6 (List.mem_of_getElem? (i := 54) rfl) rfl
theorem sg_yRX12_32 : u_lay RX12 TX12 32 ∈ sg_W0 := sg_m6 (List.mem_of_getElem? (i := 56) rfl) rfl
theorem sg_yRX12_33 : u_lay RX12 TX12 33 ∈ sg_W0 := sg_m6 (List.mem_of_getElem? (i := 58) rfl) rfl
theorem sg_yRX12_34 : u_lay RX12 TX12 34 ∈ sg_W0 := sg_m6 (List.mem_of_getElem? (i := 60) rfl) rfl
theorem sg_yRX12_35 : u_lay RX12 TX12 35 ∈ sg_W0 := sg_m6 (List.mem_of_getElem? (i := 62) rfl) rfl
theorem sg_yRX12_36 : u_lay RX12 TX12 36 ∈ sg_W0 := sg_m6 (List.mem_of_getElem? (i := 64) rfl) rfl
theorem sg_yRX12_37 : u_lay RX12 TX12 37 ∈ sg_W0 := sg_m6 (List.mem_of_getElem? (i := 66) rfl) rfl
theorem sg_yRX12_38 : u_lay RX12 TX12 38 ∈ sg_W0 := sg_m6 (List.mem_of_getElem? (i := 68) rfl) rfl
theorem sg_yRX12_39 : u_lay RX12 TX12 39 ∈ sg_W0 := sg_m6 (List.mem_of_getElem? (i := 70) rfl) rfl
theorem sg_yRX12_40 : u_lay RX12 TX12 40 ∈ sg_W0 := sg_m6 (List.mem_of_getElem? (i := 72) rfl) rfl
theorem sg_yRX12_41 : u_lay RX12 TX12 41 ∈ sg_W0 := sg_m6 (List.mem_of_getElem? (i := 74) rfl) rfl
theorem sg_yRX12_42 : u_lay RX12 TX12 42 ∈ sg_W0 := sg_m6 (List.mem_of_getElem? (i := 76) rfl) rfl
theorem sg_yRX12_43 : u_lay RX12 TX12 43 ∈ sg_W0 := sg_m6 (List.mem_of_getElem? (i := 78) rfl) rfl
theorem sg_yRX12_44 : u_lay RX12 TX12 44 ∈ sg_W0 := sg_m6 (List.mem_of_getElem? (i := 80) rfl) rfl
theorem sg_yRX12_45 : u_lay RX12 TX12 45 ∈ sg_W0 := sg_m6 (List.mem_of_getElem? (i := 82) rfl) rfl
theorem sg_yRX12_46 : u_lay RX12 TX12 46 ∈ sg_W0 := sg_m6 (List.mem_of_getElem? (i := 84) rfl) rfl
theorem sg_yRX12_47 : u_lay RX12 TX12 47 ∈ sg_W0 := sg_m6 (List.mem_of_getElem? (i := 86) rfl) rfl
theorem sg_yRX12_48 : u_lay RX12 TX12 48 ∈ sg_W0 := sg_m6 (List.mem_of_getElem? (i := 88) rfl) rfl
theorem sg_yRX12_49 : u_lay RX12 TX12 49 ∈ sg_W0 := sg_m6 (List.mem_of_getElem? (i := 90) rfl) rfl
theorem sg_yRX12_50 : u_lay RX12 TX12 50 ∈ sg_W0 := sg_m6 (List.mem_of_getElem? (i := 92) rfl) rfl
theorem sg_yRX12_51 : u_lay RX12 TX12 51 ∈ sg_W0 := sg_m6 (List.mem_of_getElem? (i := 94) rfl) rfl
theorem sg_yRX12_52 : u_lay RX12 TX12 52 ∈ sg_W0 := sg_m6 (List.mem_of_getElem? (i := 96) rfl) rfl
theorem sg_yRX12_53 : u_lay RX12 TX12 53 ∈ sg_W0 := sg_m6 (List.mem_of_getElem? (i := 98) rfl) rfl
theorem sg_yRX12_54 : u_lay RX12 TX12 54 ∈ sg_W0 := sg_m6 (List.mem_of_getElem? (i := 100) rfl) rfl
theorem sg_yRX12_55 : u_lay RX12 TX12 55 ∈ sg_W0 := sg_m6 (List.mem_of_getElem? (i := 102) rfl) rfl
theorem sg_yRX12_56 : u_lay RX12 TX12 56 ∈ sg_W0 := sg_m6 (List.mem_of_getElem? (i := 104) rfl) rfl
theorem sg_yRX12_57 : u_lay RX12 TX12 57 ∈ sg_W0 := sg_m6 (List.mem_of_getElem? (i := 106) rfl) rfl
theorem sg_yRX12_58 : u_lay RX12 TX12 58 ∈ sg_W0 := sg_m6 (List.mem_of_getElem? (i := 108) rfl) rfl
theorem sg_yRX12_59 : u_lay RX12 TX12 59 ∈ sg_W0 := sg_m6 (List.mem_of_getElem? (i := 110) rfl) rfl
theorem sg_yRX12_60 : u_lay RX12 TX12 60 ∈ sg_W0 := sg_m6 (List.mem_of_getElem? (i := 112) rfl) rfl
theorem sg_yRX12_61 : u_lay RX12 TX12 61 ∈ sg_W0 := sg_m6 (List.mem_of_getElem? (i := 114) rfl) rfl
theorem sg_lay_RX12 : ∀ w ∈ u_ws RX12 TX12 62, w ∈ sg_W0 := by
  intro w h
  obtain ⟨k, hk, rfl⟩ := List.mem_map.mp h
  have hk := List.mem_range.mp hk
  match k, hk with
  | 0, _ => exact sg_yRX12_0
  | 1, _ => exact sg_yRX12_1
  | 2, _ => exact sg_yRX12_2
  | 3, _ => exact sg_yRX12_3
  | 4, _ => exact sg_yRX12_4
  | 5, _ => exact sg_yRX12_5
  | 6, _ => exact sg_yRX12_6
  | 7, _ => exact sg_yRX12_7
  | 8, _ => exact sg_yRX12_8
  | 9, _ => exact sg_yRX12_9
  | 10, _ => exact sg_yRX12_10
  | 11, _ => exact sg_yRX12_11
  | 12, _ => exact sg_yRX12_12
  | 13, _ => exact sg_yRX12_13
  | 14, _ => exact sg_yRX12_14
  | 15, _ => exact sg_yRX12_15
  | 16, _ => exact sg_yRX12_16
  | 17, _ => exact sg_yRX12_17
  | 18, _ => exact sg_yRX12_18
  | 19, _ => exact sg_yRX12_19
  | 20, _ => exact sg_yRX12_20
  | 21, _ => exact sg_yRX12_21
  | 22, _ => exact sg_yRX12_22
  | 23, _ => exact sg_yRX12_23
  | 24, _ => exact sg_yRX12_24
  | 25, _ => exact sg_yRX12_25
  | 26, _ => exact sg_yRX12_26
  | 27, _ => exact sg_yRX12_27
  | 28, _ => exact sg_yRX12_28
  | 29, _ => exact sg_yRX12_29
  | 30, _ => exact sg_yRX12_30
  | 31, _ => exact sg_yRX12_31
  | 32, _ => exact sg_yRX12_32
  | 33, _ => exact sg_yRX12_33
  | 34, _ => exact sg_yRX12_34
  | 35, _ => exact sg_yRX12_35
  | 36, _ => exact sg_yRX12_36
  | 37, _ => exact sg_yRX12_37
  | 38, _ => exact sg_yRX12_38
  | 39, _ => exact sg_yRX12_39
  | 40, _ => exact sg_yRX12_40
  | 41, _ => exact sg_yRX12_41
  | 42, _ => exact sg_yRX12_42
  | 43, _ => exact sg_yRX12_43
  | 44, _ => exact sg_yRX12_44
  | 45, _ => exact sg_yRX12_45
  | 46, _ => exact sg_yRX12_46
  | 47, _ => exact sg_yRX12_47
  | 48, _ => exact sg_yRX12_48
  | 49, _ => exact sg_yRX12_49
  | 50, _ => exact sg_yRX12_50
  | 51, _ => exact sg_yRX12_51
  | 52, _ => exact sg_yRX12_52
  | 53, _ => exact sg_yRX12_53
  | 54, _ => exact sg_yRX12_54
  | 55, _ => exact sg_yRX12_55
  | 56, _ => exact sg_yRX12_56
  | 57, _ => exact sg_yRX12_57
  | 58, _ => exact sg_yRX12_58
  | 59, _ => exact sg_yRX12_59
  | 60, _ => exact sg_yRX12_60
  | 61, _ => exact sg_yRX12_61
  | (k + 62), hk => exact absurd hk (by omega)
