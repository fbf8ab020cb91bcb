def w_ws : List Cond := lw_tbl.filter goodWord
theorem wq_at {i : Nat} {w : Cond} (h : lw_tbl[i]? = some w) (hg : goodWord w = true) : w ∈ w_ws := List.mem_filter.mpr ⟨List.mem_of_getElem? h, hg⟩
theorem w_ws_lw : ∀ w ∈ w_ws, w ∈ lw_tbl := fun _ h => (List.mem_filter.mp h).1
theorem w_ws_good : ∀ w ∈ w_ws, (w.onTables && w.keeps) = true ∨ ∃ ty, w = .arrayClass ty := fun _ h => good_of_word (List.mem_filter.mp h).2
theorem wq_sub (ws : List Cond) (ps : List Nat) (h : ws = ps.filterMap (fun i => lw_tbl[i]?)) (hg : ws.all goodWord = true) : ∀ w ∈ ws, w ∈ w_ws := by
  intro w hw
  have hg1 := List.all_eq_true.mp hg w hw
  rw [h] at hw
  obtain ⟨i, -, hi⟩ := List.mem_filterMap.mp hw
  exact wq_at hi hg1
theorem wq_s1 {i : Nat} {w : Cond} (h : tables_1_1[i]? = some w) (hg : goodWord w = true) : w ∈ w_ws := List.mem_filter.mpr ⟨List.mem_append_right _ (List.mem_append_left _ (List.mem_of_getElem? h)), hg⟩
theorem wq_s2 {i : Nat} {w : Cond} (h : tables_1_2[i]? = some w) (hg : goodWord w = true) : w ∈ w_ws := List.mem_filter.mpr ⟨List.mem_append_right _ (List.mem_append_right _ (List.mem_append_left _ (List.mem_of_getElem? h))), hg⟩
theorem wq_s3 {i : Nat} {w : Cond} (h : tables_1_3[i]? = some w) (hg : goodWord w = true) : w ∈ w_ws := List.mem_filter.mpr ⟨List.mem_append_right _ (List.mem_append_right _ (List.mem_append_right _ (List.mem_append_left _ (List.mem_of_getElem? h)))), hg⟩
theorem wq_s4 {i : Nat} {w : Cond} (h : tables_1_4[i]? = some w) (hg : goodWord w = true) : w ∈ w_ws := List.mem_filter.mpr ⟨List.mem_append_right _ (List.mem_append_right _ (List.mem_append_right _ (List.mem_append_right _ (List.mem_append_left _ (List.mem_of_getElem? h))))), hg⟩
theorem wq_s5 {i : Nat} {w : Cond} (h : tables_1_5[i]? = some w) (hg : goodWord w = true) : w ∈ w_ws := List.mem_filter.mpr ⟨List.mem_append_right _ (List.mem_append_right _ (List.mem_append_right _ (List.mem_append_right _ (List.mem_append_right _ (List.mem_append_left _ (List.mem_of_getElem? h)))))), hg⟩
theorem wq_s6 {i : Nat} {w : Cond} (h : tables_1_6[i]? = some w) (hg : goodWord w = true) : w ∈ w_ws := List.mem_filter.mpr ⟨List.mem_append_right _ (List.mem_append_right _ (List.mem_append_right _ (List.mem_append_right _ (List.mem_append_right _ (List.mem_append_right _ (List.mem_append_left _ (List.mem_of_getElem? h))))))), hg⟩
theorem wq_s7 {i : Nat} {w : Cond} (h : tables_1_7[i]? = some w) (hg : goodWord w = true) : w ∈ w_ws := List.mem_filter.mpr ⟨List.mem_append_right _ (List.mem_append_right _ (List.mem_append_right _ (List.mem_append_right _ (List.mem_append_right _ (List.mem_append_right _ (List.mem_append_right _ (List.mem_append_left _ (List.mem_of_getElem? h)))))))), hg⟩
theorem wq_s8 {i : Nat} {w : Cond} (h : tables_1_8[i]? = some w) (hg : goodWord w = true) : w ∈ w_ws := List.mem_filter.mpr ⟨List.mem_append_right _ (List.mem_append_right _ (List.mem_append_right _ (List.mem_append_right _ (List.mem_append_right _ (List.mem_append_right _ (List.mem_append_right _ (List.mem_append_right _ (List.mem_of_getElem? h)))))))), hg⟩
set_option maxRecDepth 100000 in
theorem wd_0 : Cond.selects RX7 yX7_fillHeard yX7_fillHeard ∈ w_ws := wq_at (i := 0) rfl rfl
set_option maxRecDepth 100000 in
theorem wd_1 : Cond.selects RX11 yX11_remember yX11_remember ∈ w_ws := wq_at (i := 1) rfl rfl
set_option maxRecDepth 100000 in
theorem wd_2 : Cond.selects RX4 yX4_reckon yX4_reckon ∈ w_ws := wq_at (i := 2) rfl rfl
set_option maxRecDepth 100000 in
theorem wd_3 : Cond.selects RX2 yX2_keepHeard yX2_keepHeard ∈ w_ws := wq_at (i := 3) rfl rfl
set_option maxRecDepth 100000 in
theorem wd_4 : Cond.selects RX10 yX10_cutToken yX10_cutToken ∈ w_ws := wq_at (i := 4) rfl rfl
set_option maxRecDepth 100000 in
theorem wd_5 : Cond.selects RX10 yX10_cutNumber yX10_cutNumber ∈ w_ws := wq_at (i := 5) rfl rfl
set_option maxRecDepth 100000 in
theorem wd_6 : Cond.selects RX10 yX10_addToken yX10_addToken ∈ w_ws := wq_at (i := 6) rfl rfl
set_option maxRecDepth 100000 in
theorem wd_7 : Cond.selects RX10 yX10_keyword yX10_keyword ∈ w_ws := wq_at (i := 7) rfl rfl
set_option maxRecDepth 100000 in
theorem wd_8 : Cond.selects RX10 yX10_isWritten yX10_isWritten ∈ w_ws := wq_at (i := 8) rfl rfl
set_option maxRecDepth 100000 in
theorem wd_9 : Cond.selects RX7 yX7_readLine yX7_readLine ∈ w_ws := wq_at (i := 9) rfl rfl
set_option maxRecDepth 100000 in
theorem wd_10 : Cond.selects RX7 yX7_layOut yX7_layOut ∈ w_ws := wq_at (i := 10) rfl rfl
set_option maxRecDepth 100000 in
theorem wd_11 : Cond.selects RX4 yX4_readSum yX4_readSum ∈ w_ws := wq_at (i := 11) rfl rfl
set_option maxRecDepth 100000 in
theorem wd_12 : Cond.selects RX4 yX4_readUnit yX4_readUnit ∈ w_ws := wq_at (i := 12) rfl rfl
set_option maxRecDepth 100000 in
theorem wd_13 : Cond.selects RX4 yX4_emit yX4_emit ∈ w_ws := wq_at (i := 13) rfl rfl
set_option maxRecDepth 100000 in
theorem wd_14 : Cond.selects RX4 yX4_readChoice yX4_readChoice ∈ w_ws := wq_at (i := 14) rfl rfl
set_option maxRecDepth 100000 in
theorem wd_15 : Cond.selects RX4 yX4_readClaim yX4_readClaim ∈ w_ws := wq_at (i := 15) rfl rfl
set_option maxRecDepth 100000 in
theorem wd_16 : Cond.selects RX3 yX3_readAgain yX3_readAgain ∈ w_ws := wq_at (i := 16) rfl rfl
set_option maxRecDepth 100000 in
theorem wd_17 : Cond.selects RX3 yX3_repeat yX3_repeat ∈ w_ws := wq_at (i := 17) rfl rfl
set_option maxRecDepth 100000 in
theorem wd_18 : Cond.selects RX3 yX3_append yX3_append ∈ w_ws := wq_at (i := 18) rfl rfl
set_option maxRecDepth 100000 in
theorem wd_19 : Cond.selects RX3 yX3_readDeed yX3_readDeed ∈ w_ws := wq_at (i := 19) rfl rfl
set_option maxRecDepth 100000 in
theorem wd_20 : Cond.selects RX0 yX0_readWish yX0_readWish ∈ w_ws := wq_at (i := 20) rfl rfl
set_option maxRecDepth 100000 in
theorem wd_21 : Cond.selects RX9 yX9_playingSum yX9_playingSum ∈ w_ws := wq_at (i := 21) rfl rfl
set_option maxRecDepth 100000 in
theorem wd_22 : Cond.selects RX9 yX9_keep yX9_keep ∈ w_ws := wq_at (i := 22) rfl rfl
set_option maxRecDepth 100000 in
theorem wd_23 : Cond.selects RX9 yX9_windingSum yX9_windingSum ∈ w_ws := wq_at (i := 23) rfl rfl
set_option maxRecDepth 100000 in
theorem wd_24 : Cond.selects RX9 yX9_ending yX9_ending ∈ w_ws := wq_at (i := 24) rfl rfl
set_option maxRecDepth 100000 in
theorem wd_25 : Cond.selects RX9 yX9_tallyEnds yX9_tallyEnds ∈ w_ws := wq_at (i := 25) rfl rfl
set_option maxRecDepth 100000 in
theorem wd_26 : Cond.selects RX9 yX9_greatest yX9_greatest ∈ w_ws := wq_at (i := 26) rfl rfl
set_option maxRecDepth 100000 in
theorem wd_27 : Cond.selects RX9 yX9_ruledSum yX9_ruledSum ∈ w_ws := wq_at (i := 27) rfl rfl
set_option maxRecDepth 100000 in
theorem wd_28 : Cond.selects RX9 yX9_leastHold yX9_leastHold ∈ w_ws := wq_at (i := 28) rfl rfl
set_option maxRecDepth 100000 in
theorem wd_29 : Cond.selects RX11 yX11_lookAtTold yX11_lookAtTold ∈ w_ws := wq_at (i := 29) rfl rfl
set_option maxRecDepth 100000 in
theorem wd_30 : Cond.selects RX12 yX12_rewinds yX12_rewinds ∈ w_ws := wq_at (i := 30) rfl rfl
set_option maxRecDepth 100000 in
theorem wd_31 : Cond.selects RX12 yX12_knowsAlone yX12_knowsAlone ∈ w_ws := wq_at (i := 31) rfl rfl
set_option maxRecDepth 100000 in
theorem wd_32 : Cond.selects RX12 yX12_forgets yX12_forgets ∈ w_ws := wq_at (i := 32) rfl rfl
set_option maxRecDepth 100000 in
theorem wd_33 : Cond.selects RX12 yX12_next0 yX12_next0 ∈ w_ws := wq_at (i := 33) rfl rfl
set_option maxRecDepth 100000 in
theorem wd_34 : Cond.selects RX12 yX12_see yX12_see ∈ w_ws := wq_at (i := 34) rfl rfl
set_option maxRecDepth 100000 in
theorem wd_35 : Cond.selects RX12 yX12_word yX12_word ∈ w_ws := wq_at (i := 35) rfl rfl
set_option maxRecDepth 100000 in
theorem wd_36 : Cond.selects RX12 yX12_tapeWord yX12_tapeWord ∈ w_ws := wq_at (i := 36) rfl rfl
set_option maxRecDepth 100000 in
theorem wd_37 : Cond.selects RX12 yX12_is yX12_is ∈ w_ws := wq_at (i := 37) rfl rfl
set_option maxRecDepth 100000 in
theorem wd_38 : Cond.selects RX12 yX12_lawWord yX12_lawWord ∈ w_ws := wq_at (i := 38) rfl rfl
set_option maxRecDepth 100000 in
theorem wd_39 : Cond.selects RX12 yX12_asked yX12_asked ∈ w_ws := wq_at (i := 39) rfl rfl
set_option maxRecDepth 100000 in
theorem wd_40 : Cond.selects RX12 yX12_eveningWord yX12_eveningWord ∈ w_ws := wq_at (i := 40) rfl rfl
set_option maxRecDepth 100000 in
theorem wd_41 : Cond.selects RX12 yX12_afterWord yX12_afterWord ∈ w_ws := wq_at (i := 41) rfl rfl
set_option maxRecDepth 100000 in
theorem wd_42 : Cond.selects RX12 yX12_reads yX12_reads ∈ w_ws := wq_at (i := 42) rfl rfl
set_option maxRecDepth 100000 in
theorem wd_43 : Cond.selects RX12 yX12_readsTape yX12_readsTape ∈ w_ws := wq_at (i := 43) rfl rfl
set_option maxRecDepth 100000 in
theorem wd_44 : Cond.selects RX12 yX12_readsSide yX12_readsSide ∈ w_ws := wq_at (i := 44) rfl rfl
set_option maxRecDepth 100000 in
theorem wd_45 : Cond.selects RX12 yX12_bad yX12_bad ∈ w_ws := wq_at (i := 45) rfl rfl
set_option maxRecDepth 100000 in
theorem wd_46 : Cond.selects RX12 yX12_aSong yX12_aSong ∈ w_ws := wq_at (i := 46) rfl rfl
set_option maxRecDepth 100000 in
theorem wd_47 : Cond.selects RX12 yX12_number yX12_number ∈ w_ws := wq_at (i := 47) rfl rfl
set_option maxRecDepth 100000 in
theorem wd_48 : Cond.selects RX12 yX12_need yX12_need ∈ w_ws := wq_at (i := 48) rfl rfl
set_option maxRecDepth 100000 in
theorem wd_49 : Cond.selects RX12 yX12_lies yX12_lies ∈ w_ws := wq_at (i := 49) rfl rfl
set_option maxRecDepth 100000 in
theorem wd_50 : Cond.selects RX12 yX12_aGap yX12_aGap ∈ w_ws := wq_at (i := 50) rfl rfl
set_option maxRecDepth 100000 in
theorem wd_51 : Cond.selects RX12 yX12_readsLaw yX12_readsLaw ∈ w_ws := wq_at (i := 51) rfl rfl
set_option maxRecDepth 100000 in
theorem wd_52 : Cond.selects RX12 yX12_aLine yX12_aLine ∈ w_ws := wq_at (i := 52) rfl rfl
set_option maxRecDepth 100000 in
theorem wd_53 : Cond.selects RX12 yX12_sumUp yX12_sumUp ∈ w_ws := wq_at (i := 53) rfl rfl
set_option maxRecDepth 100000 in
theorem wd_54 : Cond.selects RX12 yX12_product yX12_product ∈ w_ws := wq_at (i := 54) rfl rfl
set_option maxRecDepth 100000 in
theorem wd_55 : Cond.selects RX12 yX12_unit yX12_unit ∈ w_ws := wq_at (i := 55) rfl rfl
set_option maxRecDepth 100000 in
theorem wd_56 : Cond.selects RX12 yX12_lay yX12_lay ∈ w_ws := wq_at (i := 56) rfl rfl
set_option maxRecDepth 100000 in
theorem wd_57 : Cond.selects RX12 yX12_any yX12_any ∈ w_ws := wq_at (i := 57) rfl rfl
set_option maxRecDepth 100000 in
theorem wd_58 : Cond.selects RX12 yX12_every yX12_every ∈ w_ws := wq_at (i := 58) rfl rfl
set_option maxRecDepth 100000 in
theorem wd_59 : Cond.selects RX12 yX12_oneTest yX12_oneTest ∈ w_ws := wq_at (i := 59) rfl rfl
set_option maxRecDepth 100000 in
theorem wd_60 : Cond.selects RX12 yX12_opens yX12_opens ∈ w_ws := wq_at (i := 60) rfl rfl
set_option maxRecDepth 100000 in
theorem wd_61 : Cond.selects RX12 yX12_readsEvening yX12_readsEvening ∈ w_ws := wq_at (i := 61) rfl rfl
set_option maxRecDepth 100000 in
theorem wd_62 : Cond.selects RX12 yX12_someDeeds yX12_someDeeds ∈ w_ws := wq_at (i := 62) rfl rfl
set_option maxRecDepth 100000 in
theorem wd_63 : Cond.selects RX12 yX12_again yX12_again ∈ w_ws := wq_at (i := 63) rfl rfl
set_option maxRecDepth 100000 in
theorem wd_64 : Cond.selects RX12 yX12_does yX12_does ∈ w_ws := wq_at (i := 64) rfl rfl
set_option maxRecDepth 100000 in
theorem wd_65 : Cond.selects RX12 yX12_aDeed yX12_aDeed ∈ w_ws := wq_at (i := 65) rfl rfl
set_option maxRecDepth 100000 in
theorem wd_66 : Cond.selects RX12 yX12_readsAfter yX12_readsAfter ∈ w_ws := wq_at (i := 66) rfl rfl
set_option maxRecDepth 100000 in
theorem wd_67 : Cond.selects RX12 yX12_anAfter yX12_anAfter ∈ w_ws := wq_at (i := 67) rfl rfl
set_option maxRecDepth 100000 in
theorem wd_68 : Cond.selects RX12 yX12_putsText yX12_putsText ∈ w_ws := wq_at (i := 68) rfl rfl
set_option maxRecDepth 100000 in
theorem wd_69 : Cond.selects RX12 yX12_putsLaw yX12_putsLaw ∈ w_ws := wq_at (i := 69) rfl rfl
set_option maxRecDepth 100000 in
theorem wd_70 : Cond.selects RX12 yX12_putsAfter yX12_putsAfter ∈ w_ws := wq_at (i := 70) rfl rfl
set_option maxRecDepth 100000 in
theorem wd_71 : Cond.selects RX12 yX12_putsTape yX12_putsTape ∈ w_ws := wq_at (i := 71) rfl rfl
set_option maxRecDepth 100000 in
theorem wd_72 : Cond.selects RX12 yX12_putsEvening yX12_putsEvening ∈ w_ws := wq_at (i := 72) rfl rfl
set_option maxRecDepth 100000 in
theorem wd_73 : Cond.selects RX12 yX12_isPlace yX12_isPlace ∈ w_ws := wq_at (i := 73) rfl rfl
set_option maxRecDepth 100000 in
theorem wd_74 : Cond.selects RX12 yX12_keeps yX12_keeps ∈ w_ws := wq_at (i := 74) rfl rfl
set_option maxRecDepth 100000 in
theorem wd_75 : Cond.selects RX12 yX12_notes yX12_notes ∈ w_ws := wq_at (i := 75) rfl rfl
set_option maxRecDepth 100000 in
theorem wd_76 : Cond.selects RX12 yX12_winds yX12_winds ∈ w_ws := wq_at (i := 76) rfl rfl
set_option maxRecDepth 100000 in
theorem wd_77 : Cond.selects RX12 yX12_thumbs yX12_thumbs ∈ w_ws := wq_at (i := 77) rfl rfl
set_option maxRecDepth 100000 in
theorem wd_78 : Cond.selects RX12 yX12_draw yX12_draw ∈ w_ws := wq_at (i := 78) rfl rfl
set_option maxRecDepth 100000 in
theorem wd_79 : Cond.selects RX12 yX12_knowsWound yX12_knowsWound ∈ w_ws := wq_at (i := 79) rfl rfl
set_option maxRecDepth 100000 in
theorem wd_80 : Cond.selects RX12 yX12_heldBy yX12_heldBy ∈ w_ws := wq_at (i := 80) rfl rfl
set_option maxRecDepth 100000 in
theorem wd_81 : Cond.selects RX12 yX12_runsTo yX12_runsTo ∈ w_ws := wq_at (i := 81) rfl rfl
set_option maxRecDepth 100000 in
theorem wd_82 : Cond.selects RX12 yX12_speedAt yX12_speedAt ∈ w_ws := wq_at (i := 82) rfl rfl
set_option maxRecDepth 100000 in
theorem wd_83 : Cond.selects RX12 yX12_fullAt yX12_fullAt ∈ w_ws := wq_at (i := 83) rfl rfl
set_option maxRecDepth 100000 in
theorem wd_84 : Cond.selects RX12 yX12_says yX12_says ∈ w_ws := wq_at (i := 84) rfl rfl
set_option maxRecDepth 100000 in
theorem wd_85 : Cond.selects RX12 yX12_heardAt yX12_heardAt ∈ w_ws := wq_at (i := 85) rfl rfl
set_option maxRecDepth 100000 in
theorem wd_86 : Cond.selects RX12 yX12_isSo yX12_isSo ∈ w_ws := wq_at (i := 86) rfl rfl
set_option maxRecDepth 100000 in
theorem wd_87 : Cond.selects RX12 yX12_comesTo yX12_comesTo ∈ w_ws := wq_at (i := 87) rfl rfl
set_option maxRecDepth 100000 in
theorem wd_88 : Cond.selects RX12 yX12_going yX12_going ∈ w_ws := wq_at (i := 88) rfl rfl
set_option maxRecDepth 100000 in
theorem wd_89 : Cond.selects RX12 yX12_lateAt yX12_lateAt ∈ w_ws := wq_at (i := 89) rfl rfl
set_option maxRecDepth 100000 in
theorem wd_90 : Cond.selects RX12 yX12_knowsNext yX12_knowsNext ∈ w_ws := wq_at (i := 90) rfl rfl
set_option maxRecDepth 100000 in
theorem wd_91 : Cond.selects RX12 yX12_slipAt yX12_slipAt ∈ w_ws := wq_at (i := 91) rfl rfl
set_option maxRecDepth 100000 in
theorem wd_92 : Cond.selects RX12 yX12_goesBy yX12_goesBy ∈ w_ws := wq_at (i := 92) rfl rfl
set_option maxRecDepth 100000 in
theorem wd_93 : Cond.selects RX12 yX12_counts yX12_counts ∈ w_ws := wq_at (i := 93) rfl rfl
set_option maxRecDepth 100000 in
theorem wd_94 : Cond.selects RX12 yX12_hears yX12_hears ∈ w_ws := wq_at (i := 94) rfl rfl
set_option maxRecDepth 100000 in
theorem wd_95 : Cond.selects RX12 yX12_turnsOver yX12_turnsOver ∈ w_ws := wq_at (i := 95) rfl rfl
set_option maxRecDepth 100000 in
theorem wd_96 : Cond.selects RX12 yX12_isSong yX12_isSong ∈ w_ws := wq_at (i := 96) rfl rfl
set_option maxRecDepth 100000 in
theorem wd_97 : Cond.selects RX12 yX12_ofSong yX12_ofSong ∈ w_ws := wq_at (i := 97) rfl rfl
set_option maxRecDepth 100000 in
theorem wd_98 : Cond.selects RX12 yX12_isOn yX12_isOn ∈ w_ws := wq_at (i := 98) rfl rfl
set_option maxRecDepth 100000 in
theorem wd_99 : Cond.selects RX12 yX12_seeksSoonest yX12_seeksSoonest ∈ w_ws := wq_at (i := 99) rfl rfl
set_option maxRecDepth 100000 in
theorem wd_100 : Cond.selects RX12 yX12_costOf yX12_costOf ∈ w_ws := wq_at (i := 100) rfl rfl
set_option maxRecDepth 100000 in
theorem wd_101 : Cond.selects RX12 yX12_mayHear yX12_mayHear ∈ w_ws := wq_at (i := 101) rfl rfl
set_option maxRecDepth 100000 in
theorem wd_102 : Cond.selects RX12 yX12_laysRuns yX12_laysRuns ∈ w_ws := wq_at (i := 102) rfl rfl
set_option maxRecDepth 100000 in
theorem wd_103 : Cond.selects RX12 yX12_mostAlike yX12_mostAlike ∈ w_ws := wq_at (i := 103) rfl rfl
set_option maxRecDepth 100000 in
theorem wd_104 : Cond.selects RX12 yX12_songsOn yX12_songsOn ∈ w_ws := wq_at (i := 104) rfl rfl
set_option maxRecDepth 100000 in
theorem wd_105 : Cond.selects RX12 yX12_cardOf yX12_cardOf ∈ w_ws := wq_at (i := 105) rfl rfl
set_option maxRecDepth 100000 in
theorem wd_106 : Cond.selects RX12 yX12_orders yX12_orders ∈ w_ws := wq_at (i := 106) rfl rfl
set_option maxRecDepth 100000 in
theorem wd_107 : Cond.selects RX12 yX12_orderCost yX12_orderCost ∈ w_ws := wq_at (i := 107) rfl rfl
set_option maxRecDepth 100000 in
theorem wd_108 : Cond.selects RX12 yX12_longOf yX12_longOf ∈ w_ws := wq_at (i := 108) rfl rfl
set_option maxRecDepth 100000 in
theorem wd_109 : Cond.selects RX12 yX12_soughtOf yX12_soughtOf ∈ w_ws := wq_at (i := 109) rfl rfl
set_option maxRecDepth 100000 in
theorem wd_110 : Cond.selects RX12 yX12_ruled yX12_ruled ∈ w_ws := wq_at (i := 110) rfl rfl
set_option maxRecDepth 100000 in
theorem wd_111 : Cond.selects RX12 yX12_ruledCost yX12_ruledCost ∈ w_ws := wq_at (i := 111) rfl rfl
set_option maxRecDepth 100000 in
theorem wd_112 : Cond.selects RX12 yX12_leastHeld yX12_leastHeld ∈ w_ws := wq_at (i := 112) rfl rfl
set_option maxRecDepth 100000 in
theorem wd_113 : Cond.initialized RL ∈ w_ws := wq_s1 (i := 0) rfl rfl
set_option maxRecDepth 100000 in
theorem wd_114 : Cond.initialized RX11 ∈ w_ws := wq_s1 (i := 1) rfl rfl
set_option maxRecDepth 100000 in
theorem wd_115 : Cond.initialized RX10 ∈ w_ws := wq_s1 (i := 2) rfl rfl
set_option maxRecDepth 100000 in
theorem wd_116 : Cond.initialized RX2 ∈ w_ws := wq_s1 (i := 3) rfl rfl
set_option maxRecDepth 100000 in
theorem wd_117 : Cond.initialized RX7 ∈ w_ws := wq_s1 (i := 4) rfl rfl
set_option maxRecDepth 100000 in
theorem wd_118 : Cond.initialized RX4 ∈ w_ws := wq_s1 (i := 5) rfl rfl
set_option maxRecDepth 100000 in
theorem wd_119 : Cond.initialized RX3 ∈ w_ws := wq_s1 (i := 6) rfl rfl
set_option maxRecDepth 100000 in
theorem wd_120 : Cond.initialized RX0 ∈ w_ws := wq_s1 (i := 7) rfl rfl
set_option maxRecDepth 100000 in
theorem wd_121 : Cond.initialized RX1 ∈ w_ws := wq_s1 (i := 8) rfl rfl
set_option maxRecDepth 100000 in
theorem wd_122 : Cond.initialized RX8 ∈ w_ws := wq_s1 (i := 9) rfl rfl
set_option maxRecDepth 100000 in
theorem wd_123 : Cond.initialized RX6 ∈ w_ws := wq_s1 (i := 10) rfl rfl
set_option maxRecDepth 100000 in
theorem wd_124 : Cond.initialized RX9 ∈ w_ws := wq_s1 (i := 11) rfl rfl
set_option maxRecDepth 100000 in
theorem wd_125 : Cond.initialized RX5 ∈ w_ws := wq_s1 (i := 12) rfl rfl
set_option maxRecDepth 100000 in
theorem wd_126 : Cond.initialized RX12 ∈ w_ws := wq_s1 (i := 13) rfl rfl
set_option maxRecDepth 100000 in
theorem wd_127 : Cond.initialized RJ10 ∈ w_ws := wq_s1 (i := 14) rfl rfl
set_option maxRecDepth 100000 in
theorem wd_128 : Cond.initialized RJ7 ∈ w_ws := wq_s1 (i := 15) rfl rfl
set_option maxRecDepth 100000 in
theorem wd_129 : Cond.initialized RJ9 ∈ w_ws := wq_s1 (i := 16) rfl rfl
set_option maxRecDepth 100000 in
theorem wd_130 : Cond.initialized RJ0 ∈ w_ws := wq_s1 (i := 17) rfl rfl
set_option maxRecDepth 100000 in
theorem wd_131 : Cond.initialized RJ1 ∈ w_ws := wq_s1 (i := 18) rfl rfl
set_option maxRecDepth 100000 in
theorem wd_132 : Cond.initialized RJ2 ∈ w_ws := wq_s1 (i := 19) rfl rfl
set_option maxRecDepth 100000 in
theorem wd_133 : Cond.initialized RJ3 ∈ w_ws := wq_s1 (i := 20) rfl rfl
set_option maxRecDepth 100000 in
theorem wd_134 : Cond.initialized RJ11 ∈ w_ws := wq_s1 (i := 21) rfl rfl
set_option maxRecDepth 100000 in
theorem wd_135 : Cond.initialized RJ6 ∈ w_ws := wq_s1 (i := 22) rfl rfl
set_option maxRecDepth 100000 in
theorem wd_136 : Cond.classLink RL 7 "WoundTape" ∈ w_ws := wq_s1 (i := 23) rfl rfl
set_option maxRecDepth 100000 in
theorem wd_137 : Cond.instantiable RX11 13 ∈ w_ws := wq_s1 (i := 24) rfl rfl
set_option maxRecDepth 100000 in
theorem wd_138 : Cond.methodLink RL 9 yX11_init ∈ w_ws := wq_s1 (i := 25) rfl rfl
set_option maxRecDepth 100000 in
theorem wd_139 : Cond.instanceMethod yX11_init ∈ w_ws := wq_s1 (i := 26) rfl rfl
set_option maxRecDepth 100000 in
theorem wd_140 : Cond.code yX11_init prog_1_method_1_code 2 (Option.none : Option Jvm.ClassFile.FieldType) ∈ w_ws := wq_s1 (i := 27) rfl rfl
set_option maxRecDepth 100000 in
theorem wd_141 : Cond.methodLink RX11 3 ({ cls := "java/lang/Object", name := "<init>", desc := "()V" } : MethodName) ∈ w_ws := wq_s1 (i := 28) rfl rfl
set_option maxRecDepth 100000 in
theorem wd_142 : Cond.instanceMethod ({ cls := "java/lang/Object", name := "<init>", desc := "()V" } : MethodName) ∈ w_ws := wq_s1 (i := 29) rfl rfl
set_option maxRecDepth 100000 in
theorem wd_143 : Cond.code ({ cls := "java/lang/Object", name := "<init>", desc := "()V" } : MethodName) object_method_1_code 1 (Option.none : Option Jvm.ClassFile.FieldType) ∈ w_ws := wq_s1 (i := 30) rfl rfl
set_option maxRecDepth 100000 in
theorem wd_144 : Cond.classLink RX11 9 "WoundTape$Tokens" ∈ w_ws := wq_s1 (i := 31) rfl rfl
set_option maxRecDepth 100000 in
theorem wd_145 : Cond.instantiable RX10 9 ∈ w_ws := wq_s1 (i := 32) rfl rfl
set_option maxRecDepth 100000 in
theorem wd_147 : Cond.instanceMethod yX10_init ∈ w_ws := wq_s1 (i := 34) rfl rfl
set_option maxRecDepth 100000 in
theorem wd_148 : Cond.code yX10_init prog_12_method_1_code 1 (Option.none : Option Jvm.ClassFile.FieldType) ∈ w_ws := wq_s1 (i := 35) rfl rfl
set_option maxRecDepth 100000 in
theorem wd_149 : Cond.methodLink RX10 3 ({ cls := "java/lang/Object", name := "<init>", desc := "()V" } : MethodName) ∈ w_ws := wq_s1 (i := 36) rfl rfl
set_option maxRecDepth 100000 in
theorem wd_150 : Cond.fieldLink RX10 11 "WoundTape$Tokens" "bytes" "[I" ∈ w_ws := wq_s1 (i := 37) rfl rfl
set_option maxRecDepth 100000 in
theorem wd_151 : Cond.fieldLink RX10 28 "WoundTape$Tokens" "size" "I" ∈ w_ws := wq_s1 (i := 38) rfl rfl
set_option maxRecDepth 100000 in
theorem wd_152 : Cond.fieldLink RX11 146 "WoundTape$Tokens" "size" "I" ∈ w_ws := wq_s1 (i := 39) rfl rfl
set_option maxRecDepth 100000 in
theorem wd_153 : Cond.fieldLink RX10 15 "WoundTape$Tokens" "kinds" "[I" ∈ w_ws := wq_s1 (i := 40) rfl rfl
set_option maxRecDepth 100000 in
theorem wd_154 : Cond.fieldLink RX10 18 "WoundTape$Tokens" "values" "[I" ∈ w_ws := wq_s1 (i := 41) rfl rfl
set_option maxRecDepth 100000 in
theorem wd_155 : Cond.fieldLink RX10 21 "WoundTape$Tokens" "places" "[I" ∈ w_ws := wq_s1 (i := 42) rfl rfl
set_option maxRecDepth 100000 in
theorem wd_156 : Cond.fieldLink RX10 31 "WoundTape$Tokens" "many" "I" ∈ w_ws := wq_s1 (i := 43) rfl rfl
set_option maxRecDepth 100000 in
theorem wd_157 : Cond.fieldLink RX10 34 "WoundTape$Tokens" "next" "I" ∈ w_ws := wq_s1 (i := 44) rfl rfl
set_option maxRecDepth 100000 in
theorem wd_158 : Cond.fieldLink RX10 37 "WoundTape$Tokens" "fault" "I" ∈ w_ws := wq_s1 (i := 45) rfl rfl
set_option maxRecDepth 100000 in
theorem wd_159 : Cond.fieldLink RX11 191 "WoundTape$Tokens" "fault" "I" ∈ w_ws := wq_s1 (i := 46) rfl rfl
set_option maxRecDepth 100000 in
theorem wd_160 : Cond.fieldLink RX10 24 "WoundTape$Tokens" "faultPlace" "I" ∈ w_ws := wq_s1 (i := 47) rfl rfl
set_option maxRecDepth 100000 in
theorem wd_161 : Cond.fieldLink RX11 194 "WoundTape$Tokens" "faultPlace" "I" ∈ w_ws := wq_s1 (i := 48) rfl rfl
set_option maxRecDepth 100000 in
theorem wd_181 : (Cond.arrayClass ClassFile.FieldType.int) ∈ w_ws := wq_s1 (i := 68) rfl rfl
set_option maxRecDepth 100000 in
theorem wd_182 : Cond.classLink RX11 16 "WoundTape$Deck" ∈ w_ws := wq_s1 (i := 69) rfl rfl
set_option maxRecDepth 100000 in
theorem wd_183 : Cond.instantiable RX2 11 ∈ w_ws := wq_s1 (i := 70) rfl rfl
set_option maxRecDepth 100000 in
theorem wd_185 : Cond.instanceMethod yX2_init ∈ w_ws := wq_s1 (i := 72) rfl rfl
set_option maxRecDepth 100000 in
theorem wd_186 : Cond.code yX2_init prog_4_method_1_code 1 (Option.none : Option Jvm.ClassFile.FieldType) ∈ w_ws := wq_s1 (i := 73) rfl rfl
set_option maxRecDepth 100000 in
theorem wd_187 : Cond.methodLink RX2 3 ({ cls := "java/lang/Object", name := "<init>", desc := "()V" } : MethodName) ∈ w_ws := wq_s1 (i := 74) rfl rfl
set_option maxRecDepth 100000 in
theorem wd_188 : Cond.classLink RX2 9 "WoundTape$Sides" ∈ w_ws := wq_s1 (i := 75) rfl rfl
set_option maxRecDepth 100000 in
theorem wd_189 : Cond.instantiable RX7 8 ∈ w_ws := wq_s1 (i := 76) rfl rfl
set_option maxRecDepth 100000 in
theorem wd_190 : Cond.methodLink RX2 11 yX7_init ∈ w_ws := wq_s1 (i := 77) rfl rfl
set_option maxRecDepth 100000 in
theorem wd_191 : Cond.instanceMethod yX7_init ∈ w_ws := wq_s1 (i := 78) rfl rfl
set_option maxRecDepth 100000 in
theorem wd_192 : Cond.code yX7_init prog_9_method_1_code 1 (Option.none : Option Jvm.ClassFile.FieldType) ∈ w_ws := wq_s1 (i := 79) rfl rfl
set_option maxRecDepth 100000 in
theorem wd_193 : Cond.methodLink RX7 3 ({ cls := "java/lang/Object", name := "<init>", desc := "()V" } : MethodName) ∈ w_ws := wq_s1 (i := 80) rfl rfl
set_option maxRecDepth 100000 in
theorem wd_194 : Cond.classLink RX7 24 "[[I" ∈ w_ws := wq_s1 (i := 81) rfl rfl
set_option maxRecDepth 100000 in
theorem wd_196 : Cond.methodLink RX7 29 yX7_fillHeard ∈ w_ws := wq_s1 (i := 83) rfl rfl
set_option maxRecDepth 100000 in
theorem wd_198 : Cond.instanceMethod yX7_fillHeard ∈ w_ws := wq_s1 (i := 85) rfl rfl
set_option maxRecDepth 100000 in
theorem wd_199 : Cond.code yX7_fillHeard prog_9_method_12_code 4 (Option.none : Option Jvm.ClassFile.FieldType) ∈ w_ws := wq_s1 (i := 86) rfl rfl
set_option maxRecDepth 100000 in
theorem wd_200 : Cond.methodLink RX7 85 yX7_sideOf ∈ w_ws := wq_s1 (i := 87) rfl rfl
set_option maxRecDepth 100000 in
theorem wd_201 : Cond.instanceMethod yX7_sideOf ∈ w_ws := wq_s1 (i := 88) rfl rfl
set_option maxRecDepth 100000 in
theorem wd_202 : Cond.selects RX7 yX7_sideOf yX7_sideOf ∈ w_ws := wq_s1 (i := 89) rfl rfl
set_option maxRecDepth 100000 in
theorem wd_203 : Cond.code yX7_sideOf prog_9_method_4_code 2 (Option.some Jvm.ClassFile.FieldType.int) ∈ w_ws := wq_s1 (i := 90) rfl rfl
set_option maxRecDepth 100000 in
theorem wd_204 : Cond.fieldLink RX7 32 "WoundTape$Sides" "length" "I" ∈ w_ws := wq_s1 (i := 91) rfl rfl
set_option maxRecDepth 100000 in
theorem wd_205 : Cond.fieldLink RX6 57 "WoundTape$Sides" "length" "I" ∈ w_ws := wq_s1 (i := 92) rfl rfl
set_option maxRecDepth 100000 in
theorem wd_206 : Cond.fieldLink RX2 157 "WoundTape$Sides" "length" "I" ∈ w_ws := wq_s1 (i := 93) rfl rfl
set_option maxRecDepth 100000 in
theorem wd_207 : Cond.fieldLink RX9 149 "WoundTape$Sides" "length" "I" ∈ w_ws := wq_s1 (i := 94) rfl rfl
set_option maxRecDepth 100000 in
theorem wd_208 : Cond.fieldLink RX11 274 "WoundTape$Sides" "length" "I" ∈ w_ws := wq_s1 (i := 95) rfl rfl
set_option maxRecDepth 100000 in
theorem wd_209 : Cond.fieldLink RX7 36 "WoundTape$Sides" "songs" "I" ∈ w_ws := wq_s1 (i := 96) rfl rfl
set_option maxRecDepth 100000 in
theorem wd_210 : Cond.fieldLink RX5 90 "WoundTape$Sides" "songs" "I" ∈ w_ws := wq_s1 (i := 97) rfl rfl
set_option maxRecDepth 100000 in
theorem wd_211 : Cond.fieldLink RX11 163 "WoundTape$Sides" "songs" "I" ∈ w_ws := wq_s1 (i := 98) rfl rfl
set_option maxRecDepth 100000 in
theorem wd_212 : Cond.fieldLink RX7 39 "WoundTape$Sides" "songsAhead" "I" ∈ w_ws := wq_s1 (i := 99) rfl rfl
set_option maxRecDepth 100000 in
theorem wd_213 : Cond.fieldLink RX7 9 "WoundTape$Sides" "begins" "[I" ∈ w_ws := wq_s1 (i := 100) rfl rfl
set_option maxRecDepth 100000 in
theorem wd_214 : Cond.fieldLink RX5 50 "WoundTape$Sides" "begins" "[I" ∈ w_ws := wq_s1 (i := 101) rfl rfl
set_option maxRecDepth 100000 in
theorem wd_215 : Cond.fieldLink RX9 119 "WoundTape$Sides" "begins" "[I" ∈ w_ws := wq_s1 (i := 102) rfl rfl
set_option maxRecDepth 100000 in
theorem wd_216 : Cond.fieldLink RX11 203 "WoundTape$Sides" "begins" "[I" ∈ w_ws := wq_s1 (i := 103) rfl rfl
set_option maxRecDepth 100000 in
theorem wd_217 : Cond.fieldLink RX2 178 "WoundTape$Sides" "begins" "[I" ∈ w_ws := wq_s1 (i := 104) rfl rfl
set_option maxRecDepth 100000 in
theorem wd_218 : Cond.fieldLink RX7 15 "WoundTape$Sides" "longs" "[I" ∈ w_ws := wq_s1 (i := 105) rfl rfl
set_option maxRecDepth 100000 in
theorem wd_219 : Cond.fieldLink RX5 87 "WoundTape$Sides" "longs" "[I" ∈ w_ws := wq_s1 (i := 106) rfl rfl
set_option maxRecDepth 100000 in
theorem wd_220 : Cond.fieldLink RX11 206 "WoundTape$Sides" "longs" "[I" ∈ w_ws := wq_s1 (i := 107) rfl rfl
set_option maxRecDepth 100000 in
theorem wd_221 : Cond.fieldLink RX7 18 "WoundTape$Sides" "wanted" "[I" ∈ w_ws := wq_s1 (i := 108) rfl rfl
set_option maxRecDepth 100000 in
theorem wd_222 : Cond.fieldLink RX5 53 "WoundTape$Sides" "wanted" "[I" ∈ w_ws := wq_s1 (i := 109) rfl rfl
set_option maxRecDepth 100000 in
theorem wd_223 : Cond.fieldLink RX9 116 "WoundTape$Sides" "wanted" "[I" ∈ w_ws := wq_s1 (i := 110) rfl rfl
set_option maxRecDepth 100000 in
theorem wd_224 : Cond.fieldLink RX11 209 "WoundTape$Sides" "wanted" "[I" ∈ w_ws := wq_s1 (i := 111) rfl rfl
set_option maxRecDepth 100000 in
theorem wd_225 : Cond.fieldLink RX7 21 "WoundTape$Sides" "told" "[I" ∈ w_ws := wq_s1 (i := 112) rfl rfl
set_option maxRecDepth 100000 in
theorem wd_226 : Cond.fieldLink RX7 26 "WoundTape$Sides" "heard" "[[I" ∈ w_ws := wq_s1 (i := 113) rfl rfl
set_option maxRecDepth 100000 in
theorem wd_244 : Cond.classLink RX2 18 "WoundTape$Law" ∈ w_ws := wq_s1 (i := 131) rfl rfl
set_option maxRecDepth 100000 in
theorem wd_245 : Cond.instantiable RX4 8 ∈ w_ws := wq_s1 (i := 132) rfl rfl
set_option maxRecDepth 100000 in
theorem wd_247 : Cond.instanceMethod yX4_init ∈ w_ws := wq_s1 (i := 134) rfl rfl
set_option maxRecDepth 100000 in
theorem wd_248 : Cond.code yX4_init prog_6_method_1_code 1 (Option.none : Option Jvm.ClassFile.FieldType) ∈ w_ws := wq_s1 (i := 135) rfl rfl
set_option maxRecDepth 100000 in
theorem wd_249 : Cond.methodLink RX4 3 ({ cls := "java/lang/Object", name := "<init>", desc := "()V" } : MethodName) ∈ w_ws := wq_s1 (i := 136) rfl rfl
set_option maxRecDepth 100000 in
theorem wd_250 : Cond.fieldLink RX4 32 "WoundTape$Law" "lines" "I" ∈ w_ws := wq_s1 (i := 137) rfl rfl
set_option maxRecDepth 100000 in
theorem wd_251 : Cond.fieldLink RX11 174 "WoundTape$Law" "lines" "I" ∈ w_ws := wq_s1 (i := 138) rfl rfl
set_option maxRecDepth 100000 in
theorem wd_252 : Cond.fieldLink RX4 11 "WoundTape$Law" "words" "[I" ∈ w_ws := wq_s1 (i := 139) rfl rfl
set_option maxRecDepth 100000 in
theorem wd_253 : Cond.fieldLink RX4 15 "WoundTape$Law" "starts" "[I" ∈ w_ws := wq_s1 (i := 140) rfl rfl
set_option maxRecDepth 100000 in
theorem wd_254 : Cond.fieldLink RX4 18 "WoundTape$Law" "whens" "[I" ∈ w_ws := wq_s1 (i := 141) rfl rfl
set_option maxRecDepth 100000 in
theorem wd_255 : Cond.fieldLink RX4 21 "WoundTape$Law" "ends" "[I" ∈ w_ws := wq_s1 (i := 142) rfl rfl
set_option maxRecDepth 100000 in
theorem wd_256 : Cond.fieldLink RX4 26 "WoundTape$Law" "code" "[I" ∈ w_ws := wq_s1 (i := 143) rfl rfl
set_option maxRecDepth 100000 in
theorem wd_257 : Cond.fieldLink RX4 36 "WoundTape$Law" "size" "I" ∈ w_ws := wq_s1 (i := 144) rfl rfl
set_option maxRecDepth 100000 in
theorem wd_258 : Cond.fieldLink RX4 29 "WoundTape$Law" "stack" "[I" ∈ w_ws := wq_s1 (i := 145) rfl rfl
set_option maxRecDepth 100000 in
theorem wd_276 : Cond.classLink RX2 25 "WoundTape$Evening" ∈ w_ws := wq_s1 (i := 163) rfl rfl
set_option maxRecDepth 100000 in
theorem wd_277 : Cond.instantiable RX3 5 ∈ w_ws := wq_s1 (i := 164) rfl rfl
set_option maxRecDepth 100000 in
theorem wd_279 : Cond.instanceMethod yX3_init ∈ w_ws := wq_s1 (i := 166) rfl rfl
set_option maxRecDepth 100000 in
theorem wd_280 : Cond.code yX3_init prog_5_method_1_code 1 (Option.none : Option Jvm.ClassFile.FieldType) ∈ w_ws := wq_s1 (i := 167) rfl rfl
set_option maxRecDepth 100000 in
theorem wd_281 : Cond.methodLink RX3 3 ({ cls := "java/lang/Object", name := "<init>", desc := "()V" } : MethodName) ∈ w_ws := wq_s1 (i := 168) rfl rfl
set_option maxRecDepth 100000 in
theorem wd_282 : Cond.fieldLink RX3 24 "WoundTape$Evening" "deeds" "I" ∈ w_ws := wq_s1 (i := 169) rfl rfl
set_option maxRecDepth 100000 in
theorem wd_283 : Cond.fieldLink RX2 74 "WoundTape$Evening" "deeds" "I" ∈ w_ws := wq_s1 (i := 170) rfl rfl
set_option maxRecDepth 100000 in
theorem wd_284 : Cond.fieldLink RX11 130 "WoundTape$Evening" "deeds" "I" ∈ w_ws := wq_s1 (i := 171) rfl rfl
set_option maxRecDepth 100000 in
theorem wd_285 : Cond.fieldLink RX9 164 "WoundTape$Evening" "deeds" "I" ∈ w_ws := wq_s1 (i := 172) rfl rfl
set_option maxRecDepth 100000 in
theorem wd_286 : Cond.fieldLink RX3 11 "WoundTape$Evening" "whats" "[I" ∈ w_ws := wq_s1 (i := 173) rfl rfl
set_option maxRecDepth 100000 in
theorem wd_287 : Cond.fieldLink RX11 133 "WoundTape$Evening" "whats" "[I" ∈ w_ws := wq_s1 (i := 174) rfl rfl
set_option maxRecDepth 100000 in
theorem wd_288 : Cond.fieldLink RX9 172 "WoundTape$Evening" "whats" "[I" ∈ w_ws := wq_s1 (i := 175) rfl rfl
set_option maxRecDepth 100000 in
theorem wd_289 : Cond.fieldLink RX3 15 "WoundTape$Evening" "amounts" "[I" ∈ w_ws := wq_s1 (i := 176) rfl rfl
set_option maxRecDepth 100000 in
theorem wd_290 : Cond.fieldLink RX11 137 "WoundTape$Evening" "amounts" "[I" ∈ w_ws := wq_s1 (i := 177) rfl rfl
set_option maxRecDepth 100000 in
theorem wd_291 : Cond.fieldLink RX9 169 "WoundTape$Evening" "amounts" "[I" ∈ w_ws := wq_s1 (i := 178) rfl rfl
set_option maxRecDepth 100000 in
theorem wd_292 : Cond.fieldLink RX3 18 "WoundTape$Evening" "opened" "[I" ∈ w_ws := wq_s1 (i := 179) rfl rfl
set_option maxRecDepth 100000 in
theorem wd_293 : Cond.fieldLink RX3 21 "WoundTape$Evening" "times" "[I" ∈ w_ws := wq_s1 (i := 180) rfl rfl
set_option maxRecDepth 100000 in
theorem wd_305 : Cond.classLink RX2 32 "WoundTape$Afters" ∈ w_ws := wq_s1 (i := 192) rfl rfl
set_option maxRecDepth 100000 in
theorem wd_306 : Cond.instantiable RX0 2 ∈ w_ws := wq_s1 (i := 193) rfl rfl
set_option maxRecDepth 100000 in
theorem wd_308 : Cond.instanceMethod yX0_init ∈ w_ws := wq_s1 (i := 195) rfl rfl
set_option maxRecDepth 100000 in
theorem wd_309 : Cond.code yX0_init prog_2_method_1_code 1 (Option.none : Option Jvm.ClassFile.FieldType) ∈ w_ws := wq_s1 (i := 196) rfl rfl
set_option maxRecDepth 100000 in
theorem wd_310 : Cond.methodLink RX0 3 ({ cls := "java/lang/Object", name := "<init>", desc := "()V" } : MethodName) ∈ w_ws := wq_s1 (i := 197) rfl rfl
set_option maxRecDepth 100000 in
theorem wd_311 : Cond.fieldLink RX0 15 "WoundTape$Afters" "lines" "I" ∈ w_ws := wq_s1 (i := 198) rfl rfl
set_option maxRecDepth 100000 in
theorem wd_312 : Cond.fieldLink RX11 190 "WoundTape$Afters" "lines" "I" ∈ w_ws := wq_s1 (i := 199) rfl rfl
set_option maxRecDepth 100000 in
theorem wd_313 : Cond.fieldLink RX0 9 "WoundTape$Afters" "wishes" "[I" ∈ w_ws := wq_s1 (i := 200) rfl rfl
set_option maxRecDepth 100000 in
theorem wd_319 : Cond.classLink RX2 39 "WoundTape$Book" ∈ w_ws := wq_s1 (i := 206) rfl rfl
set_option maxRecDepth 100000 in
theorem wd_320 : Cond.instantiable RX1 1 ∈ w_ws := wq_s1 (i := 207) rfl rfl
set_option maxRecDepth 100000 in
theorem wd_322 : Cond.instanceMethod yX1_init ∈ w_ws := wq_s1 (i := 209) rfl rfl
set_option maxRecDepth 100000 in
theorem wd_323 : Cond.code yX1_init prog_3_method_1_code 1 (Option.none : Option Jvm.ClassFile.FieldType) ∈ w_ws := wq_s1 (i := 210) rfl rfl
set_option maxRecDepth 100000 in
theorem wd_324 : Cond.methodLink RX1 3 ({ cls := "java/lang/Object", name := "<init>", desc := "()V" } : MethodName) ∈ w_ws := wq_s1 (i := 211) rfl rfl
set_option maxRecDepth 100000 in
theorem wd_325 : Cond.fieldLink RX1 11 "WoundTape$Book" "entries" "[I" ∈ w_ws := wq_s1 (i := 212) rfl rfl
set_option maxRecDepth 100000 in
theorem wd_329 : Cond.classLink RX2 46 "WoundTape$Stand" ∈ w_ws := wq_s1 (i := 216) rfl rfl
set_option maxRecDepth 100000 in
theorem wd_330 : Cond.instantiable RX8 8 ∈ w_ws := wq_s1 (i := 217) rfl rfl
set_option maxRecDepth 100000 in
theorem wd_331 : Cond.methodLink RX2 48 yX8_init ∈ w_ws := wq_s1 (i := 218) rfl rfl
set_option maxRecDepth 100000 in
theorem wd_332 : Cond.instanceMethod yX8_init ∈ w_ws := wq_s1 (i := 219) rfl rfl
set_option maxRecDepth 100000 in
theorem wd_333 : Cond.code yX8_init prog_10_method_1_code 1 (Option.none : Option Jvm.ClassFile.FieldType) ∈ w_ws := wq_s1 (i := 220) rfl rfl
set_option maxRecDepth 100000 in
theorem wd_334 : Cond.methodLink RX8 3 ({ cls := "java/lang/Object", name := "<init>", desc := "()V" } : MethodName) ∈ w_ws := wq_s1 (i := 221) rfl rfl
set_option maxRecDepth 100000 in
theorem wd_335 : Cond.fieldLink RX8 15 "WoundTape$Stand" "side" "I" ∈ w_ws := wq_s1 (i := 222) rfl rfl
set_option maxRecDepth 100000 in
theorem wd_336 : Cond.fieldLink RX5 66 "WoundTape$Stand" "side" "I" ∈ w_ws := wq_s1 (i := 223) rfl rfl
set_option maxRecDepth 100000 in
theorem wd_337 : Cond.fieldLink RX2 103 "WoundTape$Stand" "side" "I" ∈ w_ws := wq_s1 (i := 224) rfl rfl
set_option maxRecDepth 100000 in
theorem wd_338 : Cond.fieldLink RX9 104 "WoundTape$Stand" "side" "I" ∈ w_ws := wq_s1 (i := 225) rfl rfl
set_option maxRecDepth 100000 in
theorem wd_339 : Cond.fieldLink RX11 225 "WoundTape$Stand" "side" "I" ∈ w_ws := wq_s1 (i := 226) rfl rfl
set_option maxRecDepth 100000 in
theorem wd_340 : Cond.fieldLink RX8 19 "WoundTape$Stand" "place" "I" ∈ w_ws := wq_s1 (i := 227) rfl rfl
set_option maxRecDepth 100000 in
theorem wd_341 : Cond.fieldLink RX1 24 "WoundTape$Stand" "place" "I" ∈ w_ws := wq_s1 (i := 228) rfl rfl
set_option maxRecDepth 100000 in
theorem wd_342 : Cond.fieldLink RX2 80 "WoundTape$Stand" "place" "I" ∈ w_ws := wq_s1 (i := 229) rfl rfl
set_option maxRecDepth 100000 in
theorem wd_343 : Cond.fieldLink RX11 117 "WoundTape$Stand" "place" "I" ∈ w_ws := wq_s1 (i := 230) rfl rfl
set_option maxRecDepth 100000 in
theorem wd_344 : Cond.fieldLink RX9 158 "WoundTape$Stand" "place" "I" ∈ w_ws := wq_s1 (i := 231) rfl rfl
set_option maxRecDepth 100000 in
theorem wd_345 : Cond.fieldLink RX8 22 "WoundTape$Stand" "counter" "I" ∈ w_ws := wq_s1 (i := 232) rfl rfl
set_option maxRecDepth 100000 in
theorem wd_346 : Cond.fieldLink RX2 96 "WoundTape$Stand" "counter" "I" ∈ w_ws := wq_s1 (i := 233) rfl rfl
set_option maxRecDepth 100000 in
theorem wd_347 : Cond.fieldLink RX11 370 "WoundTape$Stand" "counter" "I" ∈ w_ws := wq_s1 (i := 234) rfl rfl
set_option maxRecDepth 100000 in
theorem wd_348 : Cond.fieldLink RX8 25 "WoundTape$Stand" "seconds" "I" ∈ w_ws := wq_s1 (i := 235) rfl rfl
set_option maxRecDepth 100000 in
theorem wd_349 : Cond.fieldLink RX2 148 "WoundTape$Stand" "seconds" "I" ∈ w_ws := wq_s1 (i := 236) rfl rfl
set_option maxRecDepth 100000 in
theorem wd_350 : Cond.fieldLink RX11 373 "WoundTape$Stand" "seconds" "I" ∈ w_ws := wq_s1 (i := 237) rfl rfl
set_option maxRecDepth 100000 in
theorem wd_351 : Cond.fieldLink RX9 34 "WoundTape$Stand" "stops" "I" ∈ w_ws := wq_s1 (i := 238) rfl rfl
set_option maxRecDepth 100000 in
theorem wd_352 : Cond.fieldLink RX8 28 "WoundTape$Stand" "stops" "I" ∈ w_ws := wq_s1 (i := 239) rfl rfl
set_option maxRecDepth 100000 in
theorem wd_353 : Cond.fieldLink RX1 21 "WoundTape$Stand" "stops" "I" ∈ w_ws := wq_s2 (i := 0) rfl rfl
set_option maxRecDepth 100000 in
theorem wd_354 : Cond.fieldLink RX2 106 "WoundTape$Stand" "stops" "I" ∈ w_ws := wq_s2 (i := 1) rfl rfl
set_option maxRecDepth 100000 in
theorem wd_355 : Cond.fieldLink RX11 228 "WoundTape$Stand" "stops" "I" ∈ w_ws := wq_s2 (i := 2) rfl rfl
set_option maxRecDepth 100000 in
theorem wd_356 : Cond.fieldLink RX11 86 "WoundTape$Stand" "draws" "I" ∈ w_ws := wq_s2 (i := 3) rfl rfl
set_option maxRecDepth 100000 in
theorem wd_357 : Cond.fieldLink RX8 37 "WoundTape$Stand" "draws" "I" ∈ w_ws := wq_s2 (i := 4) rfl rfl
set_option maxRecDepth 100000 in
theorem wd_358 : Cond.fieldLink RX1 15 "WoundTape$Stand" "bookLines" "I" ∈ w_ws := wq_s2 (i := 5) rfl rfl
set_option maxRecDepth 100000 in
theorem wd_359 : Cond.fieldLink RX8 48 "WoundTape$Stand" "bookLines" "I" ∈ w_ws := wq_s2 (i := 6) rfl rfl
set_option maxRecDepth 100000 in
theorem wd_360 : Cond.fieldLink RX11 243 "WoundTape$Stand" "bookLines" "I" ∈ w_ws := wq_s2 (i := 7) rfl rfl
set_option maxRecDepth 100000 in
theorem wd_361 : Cond.fieldLink RX8 9 "WoundTape$Stand" "known" "[I" ∈ w_ws := wq_s2 (i := 8) rfl rfl
set_option maxRecDepth 100000 in
theorem wd_362 : Cond.fieldLink RX2 83 "WoundTape$Stand" "known" "[I" ∈ w_ws := wq_s2 (i := 9) rfl rfl
set_option maxRecDepth 100000 in
theorem wd_363 : Cond.fieldLink RX6 107 "WoundTape$Stand" "known" "[I" ∈ w_ws := wq_s2 (i := 10) rfl rfl
set_option maxRecDepth 100000 in
theorem wd_364 : Cond.fieldLink RX9 152 "WoundTape$Stand" "known" "[I" ∈ w_ws := wq_s2 (i := 11) rfl rfl
set_option maxRecDepth 100000 in
theorem wd_365 : Cond.fieldLink RX11 219 "WoundTape$Stand" "known" "[I" ∈ w_ws := wq_s2 (i := 12) rfl rfl
set_option maxRecDepth 100000 in
theorem wd_383 : Cond.fieldLink RX2 12 "WoundTape$Deck" "sides" "LWoundTape$Sides;" ∈ w_ws := wq_s2 (i := 30) rfl rfl
set_option maxRecDepth 100000 in
theorem wd_384 : Cond.fieldLink RX5 56 "WoundTape$Deck" "sides" "LWoundTape$Sides;" ∈ w_ws := wq_s2 (i := 31) rfl rfl
set_option maxRecDepth 100000 in
theorem wd_385 : Cond.fieldLink RX11 99 "WoundTape$Deck" "sides" "LWoundTape$Sides;" ∈ w_ws := wq_s2 (i := 32) rfl rfl
set_option maxRecDepth 100000 in
theorem wd_386 : Cond.fieldLink RX6 45 "WoundTape$Deck" "sides" "LWoundTape$Sides;" ∈ w_ws := wq_s2 (i := 33) rfl rfl
set_option maxRecDepth 100000 in
theorem wd_387 : Cond.fieldLink RX9 100 "WoundTape$Deck" "sides" "LWoundTape$Sides;" ∈ w_ws := wq_s2 (i := 34) rfl rfl
set_option maxRecDepth 100000 in
theorem wd_388 : Cond.fieldLink RX2 21 "WoundTape$Deck" "law" "LWoundTape$Law;" ∈ w_ws := wq_s2 (i := 35) rfl rfl
set_option maxRecDepth 100000 in
theorem wd_389 : Cond.fieldLink RX6 67 "WoundTape$Deck" "law" "LWoundTape$Law;" ∈ w_ws := wq_s2 (i := 36) rfl rfl
set_option maxRecDepth 100000 in
theorem wd_390 : Cond.fieldLink RX11 167 "WoundTape$Deck" "law" "LWoundTape$Law;" ∈ w_ws := wq_s2 (i := 37) rfl rfl
set_option maxRecDepth 100000 in
theorem wd_391 : Cond.fieldLink RX2 28 "WoundTape$Deck" "evening" "LWoundTape$Evening;" ∈ w_ws := wq_s2 (i := 38) rfl rfl
set_option maxRecDepth 100000 in
theorem wd_392 : Cond.fieldLink RX11 127 "WoundTape$Deck" "evening" "LWoundTape$Evening;" ∈ w_ws := wq_s2 (i := 39) rfl rfl
set_option maxRecDepth 100000 in
theorem wd_393 : Cond.fieldLink RX9 161 "WoundTape$Deck" "evening" "LWoundTape$Evening;" ∈ w_ws := wq_s2 (i := 40) rfl rfl
set_option maxRecDepth 100000 in
theorem wd_394 : Cond.fieldLink RX2 35 "WoundTape$Deck" "afters" "LWoundTape$Afters;" ∈ w_ws := wq_s2 (i := 41) rfl rfl
set_option maxRecDepth 100000 in
theorem wd_395 : Cond.fieldLink RX5 78 "WoundTape$Deck" "afters" "LWoundTape$Afters;" ∈ w_ws := wq_s2 (i := 42) rfl rfl
set_option maxRecDepth 100000 in
theorem wd_396 : Cond.fieldLink RX11 184 "WoundTape$Deck" "afters" "LWoundTape$Afters;" ∈ w_ws := wq_s2 (i := 43) rfl rfl
set_option maxRecDepth 100000 in
theorem wd_397 : Cond.fieldLink RX2 42 "WoundTape$Deck" "book" "LWoundTape$Book;" ∈ w_ws := wq_s2 (i := 44) rfl rfl
set_option maxRecDepth 100000 in
theorem wd_398 : Cond.fieldLink RX11 248 "WoundTape$Deck" "book" "LWoundTape$Book;" ∈ w_ws := wq_s2 (i := 45) rfl rfl
set_option maxRecDepth 100000 in
theorem wd_399 : Cond.fieldLink RX2 49 "WoundTape$Deck" "stand" "LWoundTape$Stand;" ∈ w_ws := wq_s2 (i := 46) rfl rfl
set_option maxRecDepth 100000 in
theorem wd_400 : Cond.fieldLink RX11 82 "WoundTape$Deck" "stand" "LWoundTape$Stand;" ∈ w_ws := wq_s2 (i := 47) rfl rfl
set_option maxRecDepth 100000 in
theorem wd_401 : Cond.fieldLink RX9 28 "WoundTape$Deck" "stand" "LWoundTape$Stand;" ∈ w_ws := wq_s2 (i := 48) rfl rfl
set_option maxRecDepth 100000 in
theorem wd_402 : Cond.fieldLink RX5 62 "WoundTape$Deck" "stand" "LWoundTape$Stand;" ∈ w_ws := wq_s2 (i := 49) rfl rfl
set_option maxRecDepth 100000 in
theorem wd_403 : Cond.fieldLink RX6 103 "WoundTape$Deck" "stand" "LWoundTape$Stand;" ∈ w_ws := wq_s2 (i := 50) rfl rfl
set_option maxRecDepth 100000 in
theorem wd_404 : Cond.fieldLink RX2 53 "WoundTape$Deck" "thumb" "I" ∈ w_ws := wq_s2 (i := 51) rfl rfl
set_option maxRecDepth 100000 in
theorem wd_405 : Cond.fieldLink RX11 93 "WoundTape$Deck" "thumb" "I" ∈ w_ws := wq_s2 (i := 52) rfl rfl
set_option maxRecDepth 100000 in
theorem wd_406 : Cond.fieldLink RX9 62 "WoundTape$Deck" "thumb" "I" ∈ w_ws := wq_s2 (i := 53) rfl rfl
set_option maxRecDepth 100000 in
theorem wd_407 : Cond.fieldLink RX6 96 "WoundTape$Deck" "thumb" "I" ∈ w_ws := wq_s2 (i := 54) rfl rfl
set_option maxRecDepth 100000 in
theorem wd_408 : Cond.fieldLink RX2 57 "WoundTape$Deck" "past" "I" ∈ w_ws := wq_s2 (i := 55) rfl rfl
set_option maxRecDepth 100000 in
theorem wd_409 : Cond.fieldLink RX11 96 "WoundTape$Deck" "past" "I" ∈ w_ws := wq_s2 (i := 56) rfl rfl
set_option maxRecDepth 100000 in
theorem wd_410 : Cond.fieldLink RX9 69 "WoundTape$Deck" "past" "I" ∈ w_ws := wq_s2 (i := 57) rfl rfl
set_option maxRecDepth 100000 in
theorem wd_411 : Cond.fieldLink RX2 166 "WoundTape$Deck" "worn" "I" ∈ w_ws := wq_s2 (i := 58) rfl rfl
set_option maxRecDepth 100000 in
theorem wd_412 : Cond.fieldLink RX11 330 "WoundTape$Deck" "worn" "I" ∈ w_ws := wq_s2 (i := 59) rfl rfl
set_option maxRecDepth 100000 in
theorem wd_413 : Cond.fieldLink RX2 60 "WoundTape$Deck" "wornPlaces" "[I" ∈ w_ws := wq_s2 (i := 60) rfl rfl
set_option maxRecDepth 100000 in
theorem wd_414 : Cond.fieldLink RX2 64 "WoundTape$Deck" "wornTimes" "[I" ∈ w_ws := wq_s2 (i := 61) rfl rfl
set_option maxRecDepth 100000 in
theorem wd_438 : Cond.classLink RX11 26 "WoundTape$Sides" ∈ w_ws := wq_s2 (i := 85) rfl rfl
set_option maxRecDepth 100000 in
theorem wd_439 : Cond.methodLink RX11 28 yX7_init ∈ w_ws := wq_s2 (i := 86) rfl rfl
set_option maxRecDepth 100000 in
theorem wd_440 : Cond.classLink RX11 33 "WoundTape$Law" ∈ w_ws := wq_s2 (i := 87) rfl rfl
set_option maxRecDepth 100000 in
theorem wd_442 : Cond.classLink RX11 40 "WoundTape$Evening" ∈ w_ws := wq_s2 (i := 89) rfl rfl
set_option maxRecDepth 100000 in
theorem wd_444 : Cond.classLink RX11 47 "WoundTape$Afters" ∈ w_ws := wq_s2 (i := 91) rfl rfl
set_option maxRecDepth 100000 in
theorem wd_446 : Cond.classLink RX11 54 "WoundTape$Runner" ∈ w_ws := wq_s2 (i := 93) rfl rfl
set_option maxRecDepth 100000 in
theorem wd_447 : Cond.instantiable RX6 9 ∈ w_ws := wq_s2 (i := 94) rfl rfl
set_option maxRecDepth 100000 in
theorem wd_449 : Cond.instanceMethod yX6_init ∈ w_ws := wq_s2 (i := 96) rfl rfl
set_option maxRecDepth 100000 in
theorem wd_450 : Cond.code yX6_init prog_8_method_1_code 1 (Option.none : Option Jvm.ClassFile.FieldType) ∈ w_ws := wq_s2 (i := 97) rfl rfl
set_option maxRecDepth 100000 in
theorem wd_451 : Cond.methodLink RX6 3 ({ cls := "java/lang/Object", name := "<init>", desc := "()V" } : MethodName) ∈ w_ws := wq_s2 (i := 98) rfl rfl
set_option maxRecDepth 100000 in
theorem wd_452 : Cond.classLink RX6 17 "[[I" ∈ w_ws := wq_s2 (i := 99) rfl rfl
set_option maxRecDepth 100000 in
theorem wd_453 : Cond.fieldLink RX6 11 "WoundTape$Runner" "asked" "[I" ∈ w_ws := wq_s2 (i := 100) rfl rfl
set_option maxRecDepth 100000 in
theorem wd_454 : Cond.fieldLink RX6 19 "WoundTape$Runner" "answers" "[[I" ∈ w_ws := wq_s2 (i := 101) rfl rfl
set_option maxRecDepth 100000 in
theorem wd_455 : Cond.fieldLink RX6 22 "WoundTape$Runner" "stamps" "[[I" ∈ w_ws := wq_s2 (i := 102) rfl rfl
set_option maxRecDepth 100000 in
theorem wd_456 : Cond.fieldLink RX6 25 "WoundTape$Runner" "reached" "[I" ∈ w_ws := wq_s2 (i := 103) rfl rfl
set_option maxRecDepth 100000 in
theorem wd_457 : Cond.fieldLink RX6 42 "WoundTape$Runner" "stamp" "I" ∈ w_ws := wq_s2 (i := 104) rfl rfl
set_option maxRecDepth 100000 in
theorem wd_458 : Cond.fieldLink RX6 28 "WoundTape$Runner" "side" "I" ∈ w_ws := wq_s2 (i := 105) rfl rfl
set_option maxRecDepth 100000 in
theorem wd_459 : Cond.fieldLink RX6 32 "WoundTape$Runner" "stops" "I" ∈ w_ws := wq_s2 (i := 106) rfl rfl
set_option maxRecDepth 100000 in
theorem wd_460 : Cond.fieldLink RX6 35 "WoundTape$Runner" "on" "Z" ∈ w_ws := wq_s2 (i := 107) rfl rfl
set_option maxRecDepth 100000 in
theorem wd_461 : Cond.fieldLink RX6 39 "WoundTape$Runner" "hold" "I" ∈ w_ws := wq_s2 (i := 108) rfl rfl
set_option maxRecDepth 100000 in
theorem wd_481 : Cond.classLink RX11 61 "WoundTape$Thought" ∈ w_ws := wq_s2 (i := 128) rfl rfl
set_option maxRecDepth 100000 in
theorem wd_482 : Cond.instantiable RX9 9 ∈ w_ws := wq_s2 (i := 129) rfl rfl
set_option maxRecDepth 100000 in
theorem wd_484 : Cond.instanceMethod yX9_init ∈ w_ws := wq_s2 (i := 131) rfl rfl
set_option maxRecDepth 100000 in
theorem wd_485 : Cond.code yX9_init prog_11_method_1_code 1 (Option.none : Option Jvm.ClassFile.FieldType) ∈ w_ws := wq_s2 (i := 132) rfl rfl
set_option maxRecDepth 100000 in
theorem wd_486 : Cond.methodLink RX9 3 ({ cls := "java/lang/Object", name := "<init>", desc := "()V" } : MethodName) ∈ w_ws := wq_s2 (i := 133) rfl rfl
set_option maxRecDepth 100000 in
theorem wd_487 : Cond.fieldLink RX9 9 "WoundTape$Thought" "ahead" "[I" ∈ w_ws := wq_s2 (i := 134) rfl rfl
set_option maxRecDepth 100000 in
theorem wd_488 : Cond.fieldLink RX9 15 "WoundTape$Thought" "behind" "[I" ∈ w_ws := wq_s2 (i := 135) rfl rfl
set_option maxRecDepth 100000 in
theorem wd_489 : Cond.fieldLink RX9 24 "WoundTape$Thought" "from" "I" ∈ w_ws := wq_s2 (i := 136) rfl rfl
set_option maxRecDepth 100000 in
theorem wd_490 : Cond.fieldLink RX9 77 "WoundTape$Thought" "sum" "I" ∈ w_ws := wq_s2 (i := 137) rfl rfl
set_option maxRecDepth 100000 in
theorem wd_491 : Cond.fieldLink RX11 304 "WoundTape$Thought" "sum" "I" ∈ w_ws := wq_s2 (i := 138) rfl rfl
set_option maxRecDepth 100000 in
theorem wd_492 : Cond.fieldLink RX9 91 "WoundTape$Thought" "hold" "I" ∈ w_ws := wq_s2 (i := 139) rfl rfl
set_option maxRecDepth 100000 in
theorem wd_493 : Cond.fieldLink RX11 298 "WoundTape$Thought" "hold" "I" ∈ w_ws := wq_s2 (i := 140) rfl rfl
set_option maxRecDepth 100000 in
theorem wd_494 : Cond.fieldLink RX9 94 "WoundTape$Thought" "forward" "I" ∈ w_ws := wq_s2 (i := 141) rfl rfl
set_option maxRecDepth 100000 in
theorem wd_495 : Cond.fieldLink RX11 301 "WoundTape$Thought" "forward" "I" ∈ w_ws := wq_s2 (i := 142) rfl rfl
set_option maxRecDepth 100000 in
theorem wd_496 : Cond.fieldLink RX9 97 "WoundTape$Thought" "before" "I" ∈ w_ws := wq_s2 (i := 143) rfl rfl
set_option maxRecDepth 100000 in
theorem wd_497 : Cond.fieldLink RX9 18 "WoundTape$Thought" "tallies" "[I" ∈ w_ws := wq_s2 (i := 144) rfl rfl
set_option maxRecDepth 100000 in
theorem wd_498 : Cond.fieldLink RX9 21 "WoundTape$Thought" "evening" "[I" ∈ w_ws := wq_s2 (i := 145) rfl rfl
set_option maxRecDepth 100000 in
theorem wd_518 : Cond.classLink RX11 68 "WoundTape$Plans" ∈ w_ws := wq_s2 (i := 165) rfl rfl
set_option maxRecDepth 100000 in
theorem wd_519 : Cond.instantiable RX5 5 ∈ w_ws := wq_s2 (i := 166) rfl rfl
set_option maxRecDepth 100000 in
theorem wd_521 : Cond.instanceMethod yX5_init ∈ w_ws := wq_s2 (i := 168) rfl rfl
set_option maxRecDepth 100000 in
theorem wd_522 : Cond.code yX5_init prog_7_method_1_code 1 (Option.none : Option Jvm.ClassFile.FieldType) ∈ w_ws := wq_s2 (i := 169) rfl rfl
set_option maxRecDepth 100000 in
theorem wd_523 : Cond.methodLink RX5 3 ({ cls := "java/lang/Object", name := "<init>", desc := "()V" } : MethodName) ∈ w_ws := wq_s2 (i := 170) rfl rfl
set_option maxRecDepth 100000 in
theorem wd_524 : Cond.fieldLink RX5 34 "WoundTape$Plans" "least" "I" ∈ w_ws := wq_s2 (i := 171) rfl rfl
set_option maxRecDepth 100000 in
theorem wd_525 : Cond.fieldLink RX11 311 "WoundTape$Plans" "least" "I" ∈ w_ws := wq_s2 (i := 172) rfl rfl
set_option maxRecDepth 100000 in
theorem wd_526 : Cond.fieldLink RX5 38 "WoundTape$Plans" "chosen" "I" ∈ w_ws := wq_s2 (i := 173) rfl rfl
set_option maxRecDepth 100000 in
theorem wd_527 : Cond.fieldLink RX11 314 "WoundTape$Plans" "chosen" "I" ∈ w_ws := wq_s2 (i := 174) rfl rfl
set_option maxRecDepth 100000 in
theorem wd_528 : Cond.fieldLink RX5 11 "WoundTape$Plans" "costs" "[I" ∈ w_ws := wq_s2 (i := 175) rfl rfl
set_option maxRecDepth 100000 in
theorem wd_529 : Cond.fieldLink RX5 15 "WoundTape$Plans" "nexts" "[I" ∈ w_ws := wq_s2 (i := 176) rfl rfl
set_option maxRecDepth 100000 in
theorem wd_530 : Cond.fieldLink RX5 18 "WoundTape$Plans" "songs" "[I" ∈ w_ws := wq_s2 (i := 177) rfl rfl
set_option maxRecDepth 100000 in
theorem wd_542 : Cond.classLink RX11 75 "WoundTape$Stand" ∈ w_ws := wq_s2 (i := 189) rfl rfl
set_option maxRecDepth 100000 in
theorem wd_544 : Cond.methodLink RX11 81 yX8_init ∈ w_ws := wq_s2 (i := 191) rfl rfl
set_option maxRecDepth 100000 in
theorem wd_545 : Cond.fieldLink RX11 12 "WoundTape" "tokens" "LWoundTape$Tokens;" ∈ w_ws := wq_s2 (i := 192) rfl rfl
set_option maxRecDepth 100000 in
theorem wd_546 : Cond.fieldLink RX11 19 "WoundTape" "deck" "LWoundTape$Deck;" ∈ w_ws := wq_s2 (i := 193) rfl rfl
set_option maxRecDepth 100000 in
theorem wd_547 : Cond.fieldLink RX11 23 "WoundTape" "picture" "LWoundTape$Deck;" ∈ w_ws := wq_s2 (i := 194) rfl rfl
set_option maxRecDepth 100000 in
theorem wd_548 : Cond.fieldLink RX11 29 "WoundTape" "readSides" "LWoundTape$Sides;" ∈ w_ws := wq_s2 (i := 195) rfl rfl
set_option maxRecDepth 100000 in
theorem wd_549 : Cond.fieldLink RX11 36 "WoundTape" "readLaw" "LWoundTape$Law;" ∈ w_ws := wq_s2 (i := 196) rfl rfl
set_option maxRecDepth 100000 in
theorem wd_550 : Cond.fieldLink RX11 43 "WoundTape" "readEvening" "LWoundTape$Evening;" ∈ w_ws := wq_s2 (i := 197) rfl rfl
set_option maxRecDepth 100000 in
theorem wd_551 : Cond.fieldLink RX11 50 "WoundTape" "readAfters" "LWoundTape$Afters;" ∈ w_ws := wq_s2 (i := 198) rfl rfl
set_option maxRecDepth 100000 in
theorem wd_552 : Cond.fieldLink RX11 57 "WoundTape" "runner" "LWoundTape$Runner;" ∈ w_ws := wq_s2 (i := 199) rfl rfl
set_option maxRecDepth 100000 in
theorem wd_553 : Cond.fieldLink RX11 64 "WoundTape" "thought" "LWoundTape$Thought;" ∈ w_ws := wq_s2 (i := 200) rfl rfl
set_option maxRecDepth 100000 in
theorem wd_554 : Cond.fieldLink RX11 71 "WoundTape" "plans" "LWoundTape$Plans;" ∈ w_ws := wq_s2 (i := 201) rfl rfl
set_option maxRecDepth 100000 in
theorem wd_555 : Cond.fieldLink RX11 77 "WoundTape" "earlier" "[LWoundTape$Stand;" ∈ w_ws := wq_s2 (i := 202) rfl rfl
set_option maxRecDepth 100000 in
theorem wd_556 : Cond.fieldLink RX11 90 "WoundTape" "undoable" "I" ∈ w_ws := wq_s2 (i := 203) rfl rfl
set_option maxRecDepth 100000 in
theorem wd_557 : Cond.fieldLink RX11 363 "WoundTape" "pictured" "Z" ∈ w_ws := wq_s2 (i := 204) rfl rfl
set_option maxRecDepth 100000 in
theorem wd_585 : Cond.methodLink RL 13 yX11_state ∈ w_ws := wq_s2 (i := 232) rfl rfl
set_option maxRecDepth 100000 in
theorem wd_586 : Cond.instanceMethod yX11_state ∈ w_ws := wq_s2 (i := 233) rfl rfl
set_option maxRecDepth 100000 in
theorem wd_587 : Cond.selects RX11 yX11_state yX11_state ∈ w_ws := wq_s2 (i := 234) rfl rfl
set_option maxRecDepth 100000 in
theorem wd_588 : Cond.code yX11_state prog_1_method_2_code 3 (Option.some Jvm.ClassFile.FieldType.int) ∈ w_ws := wq_s2 (i := 235) rfl rfl
set_option maxRecDepth 100000 in
theorem wd_589 : Cond.methodLink RL 18 yX11_set ∈ w_ws := wq_s2 (i := 236) rfl rfl
set_option maxRecDepth 100000 in
theorem wd_590 : Cond.instanceMethod yX11_set ∈ w_ws := wq_s2 (i := 237) rfl rfl
set_option maxRecDepth 100000 in
theorem wd_591 : Cond.selects RX11 yX11_set yX11_set ∈ w_ws := wq_s2 (i := 238) rfl rfl
set_option maxRecDepth 100000 in
theorem wd_592 : Cond.code yX11_set prog_1_method_3_code 3 (Option.some Jvm.ClassFile.FieldType.boolean) ∈ w_ws := wq_s2 (i := 239) rfl rfl
set_option maxRecDepth 100000 in
theorem wd_593 : Cond.methodLink RL 23 yX11_put ∈ w_ws := wq_s3 (i := 0) rfl rfl
set_option maxRecDepth 100000 in
theorem wd_594 : Cond.instanceMethod yX11_put ∈ w_ws := wq_s3 (i := 1) rfl rfl
set_option maxRecDepth 100000 in
theorem wd_595 : Cond.selects RX11 yX11_put yX11_put ∈ w_ws := wq_s3 (i := 2) rfl rfl
set_option maxRecDepth 100000 in
theorem wd_596 : Cond.code yX11_put prog_1_method_4_code 2 (Option.some Jvm.ClassFile.FieldType.boolean) ∈ w_ws := wq_s3 (i := 3) rfl rfl
set_option maxRecDepth 100000 in
theorem wd_597 : Cond.methodLink RX11 102 yX7_reaches ∈ w_ws := wq_s3 (i := 4) rfl rfl
set_option maxRecDepth 100000 in
theorem wd_598 : Cond.instanceMethod yX7_reaches ∈ w_ws := wq_s3 (i := 5) rfl rfl
set_option maxRecDepth 100000 in
theorem wd_599 : Cond.selects RX7 yX7_reaches yX7_reaches ∈ w_ws := wq_s3 (i := 6) rfl rfl
set_option maxRecDepth 100000 in
theorem wd_600 : Cond.code yX7_reaches prog_9_method_2_code 2 (Option.some Jvm.ClassFile.FieldType.boolean) ∈ w_ws := wq_s3 (i := 7) rfl rfl
set_option maxRecDepth 100000 in
theorem wd_601 : Cond.methodLink RX11 106 yX11_remember ∈ w_ws := wq_s3 (i := 8) rfl rfl
set_option maxRecDepth 100000 in
theorem wd_603 : Cond.instanceMethod yX11_remember ∈ w_ws := wq_s3 (i := 10) rfl rfl
set_option maxRecDepth 100000 in
theorem wd_604 : Cond.code yX11_remember prog_1_method_38_code 3 (Option.none : Option Jvm.ClassFile.FieldType) ∈ w_ws := wq_s3 (i := 11) rfl rfl
set_option maxRecDepth 100000 in
theorem wd_605 : Cond.methodLink RX11 358 yX8_copyFrom ∈ w_ws := wq_s3 (i := 12) rfl rfl
set_option maxRecDepth 100000 in
theorem wd_606 : Cond.instanceMethod yX8_copyFrom ∈ w_ws := wq_s3 (i := 13) rfl rfl
set_option maxRecDepth 100000 in
theorem wd_607 : Cond.selects RX8 yX8_copyFrom yX8_copyFrom ∈ w_ws := wq_s3 (i := 14) rfl rfl
set_option maxRecDepth 100000 in
theorem wd_608 : Cond.code yX8_copyFrom prog_10_method_5_code 2 (Option.none : Option Jvm.ClassFile.FieldType) ∈ w_ws := wq_s3 (i := 15) rfl rfl
set_option maxRecDepth 100000 in
theorem wd_609 : Cond.methodLink RX8 51 ({ cls := "java/lang/System", name := "arraycopy", desc := "(Ljava/lang/Object;ILjava/lang/Object;II)V" } : MethodName) ∈ w_ws := wq_s3 (i := 16) rfl rfl
set_option maxRecDepth 100000 in
theorem wd_610 : Cond.static ({ cls := "java/lang/System", name := "arraycopy", desc := "(Ljava/lang/Object;ILjava/lang/Object;II)V" } : MethodName) ∈ w_ws := wq_s3 (i := 17) rfl rfl
set_option maxRecDepth 100000 in
theorem wd_611 : Cond.native ({ cls := "java/lang/System", name := "arraycopy", desc := "(Ljava/lang/Object;ILjava/lang/Object;II)V" } : MethodName) ∈ w_ws := wq_s3 (i := 18) rfl rfl
set_option maxRecDepth 100000 in
theorem wd_612 : Cond.methodLink RX11 109 yX2_layAt ∈ w_ws := wq_s3 (i := 19) rfl rfl
set_option maxRecDepth 100000 in
theorem wd_613 : Cond.instanceMethod yX2_layAt ∈ w_ws := wq_s3 (i := 20) rfl rfl
set_option maxRecDepth 100000 in
theorem wd_614 : Cond.selects RX2 yX2_layAt yX2_layAt ∈ w_ws := wq_s3 (i := 21) rfl rfl
set_option maxRecDepth 100000 in
theorem wd_615 : Cond.code yX2_layAt prog_4_method_4_code 2 (Option.none : Option Jvm.ClassFile.FieldType) ∈ w_ws := wq_s3 (i := 22) rfl rfl
set_option maxRecDepth 100000 in
theorem wd_616 : Cond.methodLink RX2 86 yJ7_fill_53178 ∈ w_ws := wq_s3 (i := 23) rfl rfl
set_option maxRecDepth 100000 in
theorem wd_617 : Cond.static yJ7_fill_53178 ∈ w_ws := wq_s3 (i := 24) rfl rfl
set_option maxRecDepth 100000 in
theorem wd_618 : Cond.code yJ7_fill_53178 prog_22_method_103_code 4 (Option.none : Option Jvm.ClassFile.FieldType) ∈ w_ws := wq_s3 (i := 25) rfl rfl
set_option maxRecDepth 100000 in
theorem wd_619 : Cond.methodLink RX2 92 yX7_reaches ∈ w_ws := wq_s3 (i := 26) rfl rfl
set_option maxRecDepth 100000 in
theorem wd_620 : Cond.methodLink RX2 99 yX1_note ∈ w_ws := wq_s3 (i := 27) rfl rfl
set_option maxRecDepth 100000 in
theorem wd_621 : Cond.instanceMethod yX1_note ∈ w_ws := wq_s3 (i := 28) rfl rfl
set_option maxRecDepth 100000 in
theorem wd_622 : Cond.selects RX1 yX1_note yX1_note ∈ w_ws := wq_s3 (i := 29) rfl rfl
set_option maxRecDepth 100000 in
theorem wd_623 : Cond.code yX1_note prog_3_method_3_code 5 (Option.none : Option Jvm.ClassFile.FieldType) ∈ w_ws := wq_s3 (i := 30) rfl rfl
set_option maxRecDepth 100000 in
theorem wd_624 : Cond.methodLink RL 28 yX11_wind ∈ w_ws := wq_s3 (i := 31) rfl rfl
set_option maxRecDepth 100000 in
theorem wd_625 : Cond.instanceMethod yX11_wind ∈ w_ws := wq_s3 (i := 32) rfl rfl
set_option maxRecDepth 100000 in
theorem wd_626 : Cond.selects RX11 yX11_wind yX11_wind ∈ w_ws := wq_s3 (i := 33) rfl rfl
set_option maxRecDepth 100000 in
theorem wd_627 : Cond.code yX11_wind prog_1_method_5_code 3 (Option.some Jvm.ClassFile.FieldType.int) ∈ w_ws := wq_s3 (i := 34) rfl rfl
set_option maxRecDepth 100000 in
theorem wd_628 : Cond.methodLink RX11 113 yX2_windFor ∈ w_ws := wq_s3 (i := 35) rfl rfl
set_option maxRecDepth 100000 in
theorem wd_629 : Cond.instanceMethod yX2_windFor ∈ w_ws := wq_s3 (i := 36) rfl rfl
set_option maxRecDepth 100000 in
theorem wd_630 : Cond.selects RX2 yX2_windFor yX2_windFor ∈ w_ws := wq_s3 (i := 37) rfl rfl
set_option maxRecDepth 100000 in
theorem wd_631 : Cond.code yX2_windFor prog_4_method_5_code 8 (Option.none : Option Jvm.ClassFile.FieldType) ∈ w_ws := wq_s3 (i := 38) rfl rfl
set_option maxRecDepth 100000 in
theorem wd_632 : Cond.methodLink RX2 109 yX6_face ∈ w_ws := wq_s3 (i := 39) rfl rfl
set_option maxRecDepth 100000 in
theorem wd_633 : Cond.instanceMethod yX6_face ∈ w_ws := wq_s3 (i := 40) rfl rfl
set_option maxRecDepth 100000 in
theorem wd_634 : Cond.selects RX6 yX6_face yX6_face ∈ w_ws := wq_s3 (i := 41) rfl rfl
set_option maxRecDepth 100000 in
theorem wd_635 : Cond.code yX6_face prog_8_method_2_code 3 (Option.none : Option Jvm.ClassFile.FieldType) ∈ w_ws := wq_s3 (i := 42) rfl rfl
set_option maxRecDepth 100000 in
theorem wd_636 : Cond.methodLink RX2 115 yX6_spread ∈ w_ws := wq_s3 (i := 43) rfl rfl
set_option maxRecDepth 100000 in
theorem wd_637 : Cond.instanceMethod yX6_spread ∈ w_ws := wq_s3 (i := 44) rfl rfl
set_option maxRecDepth 100000 in
theorem wd_638 : Cond.selects RX6 yX6_spread yX6_spread ∈ w_ws := wq_s3 (i := 45) rfl rfl
set_option maxRecDepth 100000 in
theorem wd_639 : Cond.code yX6_spread prog_8_method_7_code 6 (Option.none : Option Jvm.ClassFile.FieldType) ∈ w_ws := wq_s3 (i := 46) rfl rfl
set_option maxRecDepth 100000 in
theorem wd_640 : Cond.methodLink RX6 90 yJ7_fill_53178 ∈ w_ws := wq_s3 (i := 47) rfl rfl
set_option maxRecDepth 100000 in
theorem wd_641 : Cond.methodLink RX6 80 yJ9_max_7cf53 ∈ w_ws := wq_s3 (i := 48) rfl rfl
set_option maxRecDepth 100000 in
theorem wd_642 : Cond.static yJ9_max_7cf53 ∈ w_ws := wq_s3 (i := 49) rfl rfl
set_option maxRecDepth 100000 in
theorem wd_643 : Cond.code yJ9_max_7cf53 prog_17_method_65_code 2 (Option.some Jvm.ClassFile.FieldType.int) ∈ w_ws := wq_s3 (i := 50) rfl rfl
set_option maxRecDepth 100000 in
theorem wd_644 : Cond.methodLink RX6 99 yX6_press ∈ w_ws := wq_s3 (i := 51) rfl rfl
set_option maxRecDepth 100000 in
theorem wd_645 : Cond.instanceMethod yX6_press ∈ w_ws := wq_s3 (i := 52) rfl rfl
set_option maxRecDepth 100000 in
theorem wd_646 : Cond.selects RX6 yX6_press yX6_press ∈ w_ws := wq_s3 (i := 53) rfl rfl
set_option maxRecDepth 100000 in
theorem wd_647 : Cond.code yX6_press prog_8_method_3_code 3 (Option.none : Option Jvm.ClassFile.FieldType) ∈ w_ws := wq_s3 (i := 54) rfl rfl
set_option maxRecDepth 100000 in
theorem wd_648 : Cond.methodLink RX6 112 yX6_reach ∈ w_ws := wq_s3 (i := 55) rfl rfl
set_option maxRecDepth 100000 in
theorem wd_649 : Cond.instanceMethod yX6_reach ∈ w_ws := wq_s3 (i := 56) rfl rfl
set_option maxRecDepth 100000 in
theorem wd_650 : Cond.selects RX6 yX6_reach yX6_reach ∈ w_ws := wq_s3 (i := 57) rfl rfl
set_option maxRecDepth 100000 in
theorem wd_651 : Cond.code yX6_reach prog_8_method_6_code 6 (Option.some Jvm.ClassFile.FieldType.int) ∈ w_ws := wq_s3 (i := 58) rfl rfl
set_option maxRecDepth 100000 in
theorem wd_652 : Cond.methodLink RX6 83 yX6_told ∈ w_ws := wq_s3 (i := 59) rfl rfl
set_option maxRecDepth 100000 in
theorem wd_653 : Cond.instanceMethod yX6_told ∈ w_ws := wq_s3 (i := 60) rfl rfl
set_option maxRecDepth 100000 in
theorem wd_654 : Cond.selects RX6 yX6_told yX6_told ∈ w_ws := wq_s3 (i := 61) rfl rfl
set_option maxRecDepth 100000 in
theorem wd_655 : Cond.code yX6_told prog_8_method_4_code 6 (Option.some Jvm.ClassFile.FieldType.int) ∈ w_ws := wq_s3 (i := 62) rfl rfl
set_option maxRecDepth 100000 in
theorem wd_656 : Cond.methodLink RX6 51 yX7_reaches ∈ w_ws := wq_s3 (i := 63) rfl rfl
set_option maxRecDepth 100000 in
theorem wd_657 : Cond.methodLink RX6 60 yX7_heardAt ∈ w_ws := wq_s3 (i := 64) rfl rfl
set_option maxRecDepth 100000 in
theorem wd_658 : Cond.instanceMethod yX7_heardAt ∈ w_ws := wq_s3 (i := 65) rfl rfl
set_option maxRecDepth 100000 in
theorem wd_659 : Cond.selects RX7 yX7_heardAt yX7_heardAt ∈ w_ws := wq_s3 (i := 66) rfl rfl
set_option maxRecDepth 100000 in
theorem wd_660 : Cond.code yX7_heardAt prog_9_method_8_code 3 (Option.some Jvm.ClassFile.FieldType.int) ∈ w_ws := wq_s3 (i := 67) rfl rfl
set_option maxRecDepth 100000 in
theorem wd_661 : Cond.methodLink RX7 49 yX7_reaches ∈ w_ws := wq_s3 (i := 68) rfl rfl
set_option maxRecDepth 100000 in
theorem wd_662 : Cond.methodLink RX6 64 yX7_hasSong ∈ w_ws := wq_s3 (i := 69) rfl rfl
set_option maxRecDepth 100000 in
theorem wd_663 : Cond.instanceMethod yX7_hasSong ∈ w_ws := wq_s3 (i := 70) rfl rfl
set_option maxRecDepth 100000 in
theorem wd_664 : Cond.selects RX7 yX7_hasSong yX7_hasSong ∈ w_ws := wq_s3 (i := 71) rfl rfl
set_option maxRecDepth 100000 in
theorem wd_665 : Cond.code yX7_hasSong prog_9_method_3_code 2 (Option.some Jvm.ClassFile.FieldType.boolean) ∈ w_ws := wq_s3 (i := 72) rfl rfl
set_option maxRecDepth 100000 in
theorem wd_666 : Cond.methodLink RX6 71 yX4_tell ∈ w_ws := wq_s3 (i := 73) rfl rfl
set_option maxRecDepth 100000 in
theorem wd_667 : Cond.instanceMethod yX4_tell ∈ w_ws := wq_s3 (i := 74) rfl rfl
set_option maxRecDepth 100000 in
theorem wd_668 : Cond.selects RX4 yX4_tell yX4_tell ∈ w_ws := wq_s3 (i := 75) rfl rfl
set_option maxRecDepth 100000 in
theorem wd_669 : Cond.code yX4_tell prog_6_method_9_code 4 (Option.some Jvm.ClassFile.FieldType.int) ∈ w_ws := wq_s3 (i := 76) rfl rfl
set_option maxRecDepth 100000 in
theorem wd_670 : Cond.methodLink RX4 80 yX4_reckon ∈ w_ws := wq_s3 (i := 77) rfl rfl
set_option maxRecDepth 100000 in
theorem wd_672 : Cond.instanceMethod yX4_reckon ∈ w_ws := wq_s3 (i := 79) rfl rfl
set_option maxRecDepth 100000 in
theorem wd_673 : Cond.code yX4_reckon prog_6_method_11_code 7 (Option.some Jvm.ClassFile.FieldType.int) ∈ w_ws := wq_s3 (i := 80) rfl rfl
set_option maxRecDepth 100000 in
theorem wd_674 : Cond.methodLink RX4 95 yX4_joined ∈ w_ws := wq_s3 (i := 81) rfl rfl
set_option maxRecDepth 100000 in
theorem wd_675 : Cond.static yX4_joined ∈ w_ws := wq_s3 (i := 82) rfl rfl
set_option maxRecDepth 100000 in
theorem wd_676 : Cond.code yX4_joined prog_6_method_12_code 3 (Option.some Jvm.ClassFile.FieldType.int) ∈ w_ws := wq_s3 (i := 83) rfl rfl
set_option maxRecDepth 100000 in
theorem wd_677 : Cond.methodLink RX4 84 yX4_held ∈ w_ws := wq_s3 (i := 84) rfl rfl
set_option maxRecDepth 100000 in
theorem wd_678 : Cond.static yX4_held ∈ w_ws := wq_s3 (i := 85) rfl rfl
set_option maxRecDepth 100000 in
theorem wd_679 : Cond.code yX4_held prog_6_method_10_code 2 (Option.some Jvm.ClassFile.FieldType.int) ∈ w_ws := wq_s3 (i := 86) rfl rfl
set_option maxRecDepth 100000 in
theorem wd_680 : Cond.methodLink RX4 87 yJ9_min_7cf53 ∈ w_ws := wq_s3 (i := 87) rfl rfl
set_option maxRecDepth 100000 in
theorem wd_681 : Cond.static yJ9_min_7cf53 ∈ w_ws := wq_s3 (i := 88) rfl rfl
set_option maxRecDepth 100000 in
theorem wd_682 : Cond.code yJ9_min_7cf53 prog_17_method_69_code 2 (Option.some Jvm.ClassFile.FieldType.int) ∈ w_ws := wq_s3 (i := 89) rfl rfl
set_option maxRecDepth 100000 in
theorem wd_683 : Cond.methodLink RX4 92 yJ9_max_7cf53 ∈ w_ws := wq_s3 (i := 90) rfl rfl
set_option maxRecDepth 100000 in
theorem wd_684 : Cond.methodLink RX6 87 yX6_moved ∈ w_ws := wq_s3 (i := 91) rfl rfl
set_option maxRecDepth 100000 in
theorem wd_685 : Cond.instanceMethod yX6_moved ∈ w_ws := wq_s3 (i := 92) rfl rfl
set_option maxRecDepth 100000 in
theorem wd_686 : Cond.selects RX6 yX6_moved yX6_moved ∈ w_ws := wq_s3 (i := 93) rfl rfl
set_option maxRecDepth 100000 in
theorem wd_687 : Cond.code yX6_moved prog_8_method_5_code 4 (Option.some Jvm.ClassFile.FieldType.int) ∈ w_ws := wq_s3 (i := 94) rfl rfl
set_option maxRecDepth 100000 in
theorem wd_688 : Cond.methodLink RX6 75 yJ9_min_7cf53 ∈ w_ws := wq_s3 (i := 95) rfl rfl
set_option maxRecDepth 100000 in
theorem wd_689 : Cond.methodLink RX6 116 ({ cls := "java/lang/System", name := "arraycopy", desc := "(Ljava/lang/Object;ILjava/lang/Object;II)V" } : MethodName) ∈ w_ws := wq_s3 (i := 96) rfl rfl
set_option maxRecDepth 100000 in
theorem wd_690 : Cond.methodLink RX2 119 yX2_thumbs ∈ w_ws := wq_s3 (i := 97) rfl rfl
set_option maxRecDepth 100000 in
theorem wd_691 : Cond.instanceMethod yX2_thumbs ∈ w_ws := wq_s3 (i := 98) rfl rfl
set_option maxRecDepth 100000 in
theorem wd_692 : Cond.selects RX2 yX2_thumbs yX2_thumbs ∈ w_ws := wq_s3 (i := 99) rfl rfl
set_option maxRecDepth 100000 in
theorem wd_693 : Cond.code yX2_thumbs prog_4_method_2_code 1 (Option.some Jvm.ClassFile.FieldType.int) ∈ w_ws := wq_s3 (i := 100) rfl rfl
set_option maxRecDepth 100000 in
theorem wd_694 : Cond.methodLink RX2 123 yX8_draw ∈ w_ws := wq_s3 (i := 101) rfl rfl
set_option maxRecDepth 100000 in
theorem wd_695 : Cond.instanceMethod yX8_draw ∈ w_ws := wq_s3 (i := 102) rfl rfl
set_option maxRecDepth 100000 in
theorem wd_696 : Cond.selects RX8 yX8_draw yX8_draw ∈ w_ws := wq_s3 (i := 103) rfl rfl
set_option maxRecDepth 100000 in
theorem wd_697 : Cond.code yX8_draw prog_10_method_3_code 2 (Option.some Jvm.ClassFile.FieldType.int) ∈ w_ws := wq_s3 (i := 104) rfl rfl
set_option maxRecDepth 100000 in
theorem wd_698 : (Cond.constant "WoundTape$Stand" (40 : Nat) (1664525 : Int32)) ∈ w_ws := wq_s3 (i := 105) rfl rfl
set_option maxRecDepth 100000 in
theorem wd_699 : (Cond.constant "WoundTape$Stand" (41 : Nat) (1013904223 : Int32)) ∈ w_ws := wq_s3 (i := 106) rfl rfl
set_option maxRecDepth 100000 in
theorem wd_700 : Cond.methodLink RX2 127 yJ9_max_7cf53 ∈ w_ws := wq_s3 (i := 107) rfl rfl
set_option maxRecDepth 100000 in
theorem wd_701 : Cond.methodLink RX2 133 yX6_press ∈ w_ws := wq_s3 (i := 108) rfl rfl
set_option maxRecDepth 100000 in
theorem wd_702 : Cond.methodLink RX2 137 yX6_told ∈ w_ws := wq_s3 (i := 109) rfl rfl
set_option maxRecDepth 100000 in
theorem wd_703 : Cond.methodLink RX2 141 yX6_moved ∈ w_ws := wq_s3 (i := 110) rfl rfl
set_option maxRecDepth 100000 in
theorem wd_704 : Cond.methodLink RX2 144 yX8_count ∈ w_ws := wq_s3 (i := 111) rfl rfl
set_option maxRecDepth 100000 in
theorem wd_705 : Cond.instanceMethod yX8_count ∈ w_ws := wq_s3 (i := 112) rfl rfl
set_option maxRecDepth 100000 in
theorem wd_706 : Cond.selects RX8 yX8_count yX8_count ∈ w_ws := wq_s3 (i := 113) rfl rfl
set_option maxRecDepth 100000 in
theorem wd_707 : Cond.code yX8_count prog_10_method_4_code 2 (Option.none : Option Jvm.ClassFile.FieldType) ∈ w_ws := wq_s3 (i := 114) rfl rfl
set_option maxRecDepth 100000 in
theorem wd_708 : Cond.methodLink RX8 42 yJ9_floorMod_7cf53 ∈ w_ws := wq_s3 (i := 115) rfl rfl
set_option maxRecDepth 100000 in
theorem wd_709 : Cond.static yJ9_floorMod_7cf53 ∈ w_ws := wq_s3 (i := 116) rfl rfl
set_option maxRecDepth 100000 in
theorem wd_710 : Cond.code yJ9_floorMod_7cf53 prog_17_method_50_code 3 (Option.some Jvm.ClassFile.FieldType.int) ∈ w_ws := wq_s3 (i := 117) rfl rfl
set_option maxRecDepth 100000 in
theorem wd_711 : Cond.methodLink RL 33 yX11_hear ∈ w_ws := wq_s3 (i := 118) rfl rfl
set_option maxRecDepth 100000 in
theorem wd_712 : Cond.instanceMethod yX11_hear ∈ w_ws := wq_s3 (i := 119) rfl rfl
set_option maxRecDepth 100000 in
theorem wd_713 : Cond.selects RX11 yX11_hear yX11_hear ∈ w_ws := wq_s3 (i := 120) rfl rfl
set_option maxRecDepth 100000 in
theorem wd_714 : Cond.code yX11_hear prog_1_method_6_code 2 (Option.some Jvm.ClassFile.FieldType.int) ∈ w_ws := wq_s3 (i := 121) rfl rfl
set_option maxRecDepth 100000 in
theorem wd_715 : Cond.methodLink RX11 120 yX2_listen ∈ w_ws := wq_s3 (i := 122) rfl rfl
set_option maxRecDepth 100000 in
theorem wd_716 : Cond.instanceMethod yX2_listen ∈ w_ws := wq_s3 (i := 123) rfl rfl
set_option maxRecDepth 100000 in
theorem wd_717 : Cond.selects RX2 yX2_listen yX2_listen ∈ w_ws := wq_s3 (i := 124) rfl rfl
set_option maxRecDepth 100000 in
theorem wd_718 : Cond.code yX2_listen prog_4_method_6_code 4 (Option.some Jvm.ClassFile.FieldType.int) ∈ w_ws := wq_s3 (i := 125) rfl rfl
set_option maxRecDepth 100000 in
theorem wd_719 : Cond.methodLink RX2 151 yX7_heardAt ∈ w_ws := wq_s3 (i := 126) rfl rfl
set_option maxRecDepth 100000 in
theorem wd_720 : Cond.methodLink RX2 154 yX2_keepHeard ∈ w_ws := wq_s3 (i := 127) rfl rfl
set_option maxRecDepth 100000 in
theorem wd_722 : Cond.instanceMethod yX2_keepHeard ∈ w_ws := wq_s3 (i := 129) rfl rfl
set_option maxRecDepth 100000 in
theorem wd_723 : Cond.code yX2_keepHeard prog_4_method_7_code 4 (Option.none : Option Jvm.ClassFile.FieldType) ∈ w_ws := wq_s3 (i := 130) rfl rfl
set_option maxRecDepth 100000 in
theorem wd_724 : Cond.methodLink RX2 160 yJ9_min_7cf53 ∈ w_ws := wq_s3 (i := 131) rfl rfl
set_option maxRecDepth 100000 in
theorem wd_725 : Cond.methodLink RL 37 yX11_turn ∈ w_ws := wq_s3 (i := 132) rfl rfl
set_option maxRecDepth 100000 in
theorem wd_726 : Cond.instanceMethod yX11_turn ∈ w_ws := wq_s3 (i := 133) rfl rfl
set_option maxRecDepth 100000 in
theorem wd_727 : Cond.selects RX11 yX11_turn yX11_turn ∈ w_ws := wq_s3 (i := 134) rfl rfl
set_option maxRecDepth 100000 in
theorem wd_728 : Cond.code yX11_turn prog_1_method_7_code 1 (Option.some Jvm.ClassFile.FieldType.int) ∈ w_ws := wq_s3 (i := 135) rfl rfl
set_option maxRecDepth 100000 in
theorem wd_729 : Cond.methodLink RX11 124 yX2_turnOver ∈ w_ws := wq_s3 (i := 136) rfl rfl
set_option maxRecDepth 100000 in
theorem wd_730 : Cond.instanceMethod yX2_turnOver ∈ w_ws := wq_s3 (i := 137) rfl rfl
set_option maxRecDepth 100000 in
theorem wd_731 : Cond.selects RX2 yX2_turnOver yX2_turnOver ∈ w_ws := wq_s3 (i := 138) rfl rfl
set_option maxRecDepth 100000 in
theorem wd_732 : Cond.code yX2_turnOver prog_4_method_8_code 4 (Option.none : Option Jvm.ClassFile.FieldType) ∈ w_ws := wq_s3 (i := 139) rfl rfl
set_option maxRecDepth 100000 in
theorem wd_733 : Cond.methodLink RL 42 yX11_evening ∈ w_ws := wq_s3 (i := 140) rfl rfl
set_option maxRecDepth 100000 in
theorem wd_734 : Cond.instanceMethod yX11_evening ∈ w_ws := wq_s3 (i := 141) rfl rfl
set_option maxRecDepth 100000 in
theorem wd_735 : Cond.selects RX11 yX11_evening yX11_evening ∈ w_ws := wq_s3 (i := 142) rfl rfl
set_option maxRecDepth 100000 in
theorem wd_736 : Cond.code yX11_evening prog_1_method_8_code 4 (Option.some Jvm.ClassFile.FieldType.int) ∈ w_ws := wq_s3 (i := 143) rfl rfl
set_option maxRecDepth 100000 in
theorem wd_737 : Cond.methodLink RL 46 yX11_feed ∈ w_ws := wq_s3 (i := 144) rfl rfl
set_option maxRecDepth 100000 in
theorem wd_738 : Cond.instanceMethod yX11_feed ∈ w_ws := wq_s3 (i := 145) rfl rfl
set_option maxRecDepth 100000 in
theorem wd_739 : Cond.selects RX11 yX11_feed yX11_feed ∈ w_ws := wq_s3 (i := 146) rfl rfl
set_option maxRecDepth 100000 in
theorem wd_740 : Cond.code yX11_feed prog_1_method_9_code 6 (Option.some Jvm.ClassFile.FieldType.int) ∈ w_ws := wq_s3 (i := 147) rfl rfl
set_option maxRecDepth 100000 in
theorem wd_741 : Cond.methodLink RX11 140 yX10_hasRoom ∈ w_ws := wq_s3 (i := 148) rfl rfl
set_option maxRecDepth 100000 in
theorem wd_742 : Cond.instanceMethod yX10_hasRoom ∈ w_ws := wq_s3 (i := 149) rfl rfl
set_option maxRecDepth 100000 in
theorem wd_743 : Cond.selects RX10 yX10_hasRoom yX10_hasRoom ∈ w_ws := wq_s3 (i := 150) rfl rfl
set_option maxRecDepth 100000 in
theorem wd_744 : Cond.code yX10_hasRoom prog_12_method_2_code 2 (Option.some Jvm.ClassFile.FieldType.boolean) ∈ w_ws := wq_s3 (i := 151) rfl rfl
set_option maxRecDepth 100000 in
theorem wd_745 : Cond.methodLink RX11 143 yX10_append ∈ w_ws := wq_s3 (i := 152) rfl rfl
set_option maxRecDepth 100000 in
theorem wd_746 : Cond.instanceMethod yX10_append ∈ w_ws := wq_s3 (i := 153) rfl rfl
set_option maxRecDepth 100000 in
theorem wd_747 : Cond.selects RX10 yX10_append yX10_append ∈ w_ws := wq_s3 (i := 154) rfl rfl
set_option maxRecDepth 100000 in
theorem wd_748 : Cond.code yX10_append prog_12_method_3_code 3 (Option.none : Option Jvm.ClassFile.FieldType) ∈ w_ws := wq_s3 (i := 155) rfl rfl
set_option maxRecDepth 100000 in
theorem wd_749 : Cond.methodLink RL 51 yX11_end ∈ w_ws := wq_s3 (i := 156) rfl rfl
set_option maxRecDepth 100000 in
theorem wd_750 : Cond.instanceMethod yX11_end ∈ w_ws := wq_s3 (i := 157) rfl rfl
set_option maxRecDepth 100000 in
theorem wd_751 : Cond.selects RX11 yX11_end yX11_end ∈ w_ws := wq_s3 (i := 158) rfl rfl
set_option maxRecDepth 100000 in
theorem wd_752 : Cond.code yX11_end prog_1_method_10_code 2 (Option.some Jvm.ClassFile.FieldType.boolean) ∈ w_ws := wq_s3 (i := 159) rfl rfl
set_option maxRecDepth 100000 in
theorem wd_753 : Cond.methodLink RX11 149 yX10_cut ∈ w_ws := wq_s3 (i := 160) rfl rfl
set_option maxRecDepth 100000 in
theorem wd_754 : Cond.instanceMethod yX10_cut ∈ w_ws := wq_s3 (i := 161) rfl rfl
set_option maxRecDepth 100000 in
theorem wd_755 : Cond.selects RX10 yX10_cut yX10_cut ∈ w_ws := wq_s3 (i := 162) rfl rfl
set_option maxRecDepth 100000 in
theorem wd_756 : Cond.code yX10_cut prog_12_method_4_code 2 (Option.some Jvm.ClassFile.FieldType.boolean) ∈ w_ws := wq_s3 (i := 163) rfl rfl
set_option maxRecDepth 100000 in
theorem wd_757 : Cond.methodLink RL 55 yX11_text ∈ w_ws := wq_s3 (i := 164) rfl rfl
set_option maxRecDepth 100000 in
theorem wd_758 : Cond.instanceMethod yX11_text ∈ w_ws := wq_s3 (i := 165) rfl rfl
set_option maxRecDepth 100000 in
theorem wd_759 : Cond.selects RX11 yX11_text yX11_text ∈ w_ws := wq_s3 (i := 166) rfl rfl
set_option maxRecDepth 100000 in
theorem wd_760 : Cond.code yX11_text prog_1_method_11_code 3 (Option.some Jvm.ClassFile.FieldType.int) ∈ w_ws := wq_s3 (i := 167) rfl rfl
set_option maxRecDepth 100000 in
theorem wd_761 : Cond.methodLink RX11 152 yX10_split ∈ w_ws := wq_s3 (i := 168) rfl rfl
set_option maxRecDepth 100000 in
theorem wd_762 : Cond.instanceMethod yX10_split ∈ w_ws := wq_s3 (i := 169) rfl rfl
set_option maxRecDepth 100000 in
theorem wd_763 : Cond.selects RX10 yX10_split yX10_split ∈ w_ws := wq_s3 (i := 170) rfl rfl
set_option maxRecDepth 100000 in
theorem wd_764 : Cond.code yX10_split prog_12_method_5_code 3 (Option.none : Option Jvm.ClassFile.FieldType) ∈ w_ws := wq_s3 (i := 171) rfl rfl
set_option maxRecDepth 100000 in
theorem wd_765 : Cond.methodLink RX10 40 yX10_isBlank ∈ w_ws := wq_s3 (i := 172) rfl rfl
set_option maxRecDepth 100000 in
theorem wd_766 : Cond.static yX10_isBlank ∈ w_ws := wq_s3 (i := 173) rfl rfl
set_option maxRecDepth 100000 in
theorem wd_767 : Cond.code yX10_isBlank prog_12_method_11_code 1 (Option.some Jvm.ClassFile.FieldType.boolean) ∈ w_ws := wq_s3 (i := 174) rfl rfl
set_option maxRecDepth 100000 in
theorem wd_768 : Cond.methodLink RX10 44 yX10_cutToken ∈ w_ws := wq_s3 (i := 175) rfl rfl
set_option maxRecDepth 100000 in
theorem wd_770 : Cond.instanceMethod yX10_cutToken ∈ w_ws := wq_s3 (i := 177) rfl rfl
set_option maxRecDepth 100000 in
theorem wd_771 : Cond.code yX10_cutToken prog_12_method_6_code 4 (Option.some Jvm.ClassFile.FieldType.int) ∈ w_ws := wq_s3 (i := 178) rfl rfl
set_option maxRecDepth 100000 in
theorem wd_772 : Cond.methodLink RX10 52 yX10_isDigit ∈ w_ws := wq_s3 (i := 179) rfl rfl
set_option maxRecDepth 100000 in
theorem wd_773 : Cond.static yX10_isDigit ∈ w_ws := wq_s3 (i := 180) rfl rfl
set_option maxRecDepth 100000 in
theorem wd_774 : Cond.code yX10_isDigit prog_12_method_12_code 1 (Option.some Jvm.ClassFile.FieldType.boolean) ∈ w_ws := wq_s3 (i := 181) rfl rfl
set_option maxRecDepth 100000 in
theorem wd_775 : Cond.methodLink RX10 55 yX10_cutNumber ∈ w_ws := wq_s3 (i := 182) rfl rfl
set_option maxRecDepth 100000 in
theorem wd_777 : Cond.instanceMethod yX10_cutNumber ∈ w_ws := wq_s3 (i := 184) rfl rfl
set_option maxRecDepth 100000 in
theorem wd_778 : Cond.code yX10_cutNumber prog_12_method_7_code 4 (Option.some Jvm.ClassFile.FieldType.int) ∈ w_ws := wq_s3 (i := 185) rfl rfl
set_option maxRecDepth 100000 in
theorem wd_779 : Cond.methodLink RX10 48 yX10_addToken ∈ w_ws := wq_s3 (i := 186) rfl rfl
set_option maxRecDepth 100000 in
theorem wd_781 : Cond.instanceMethod yX10_addToken ∈ w_ws := wq_s3 (i := 188) rfl rfl
set_option maxRecDepth 100000 in
theorem wd_782 : Cond.code yX10_addToken prog_12_method_8_code 4 (Option.none : Option Jvm.ClassFile.FieldType) ∈ w_ws := wq_s3 (i := 189) rfl rfl
set_option maxRecDepth 100000 in
theorem wd_783 : Cond.methodLink RX10 58 yX10_isLetter ∈ w_ws := wq_s3 (i := 190) rfl rfl
set_option maxRecDepth 100000 in
theorem wd_784 : Cond.static yX10_isLetter ∈ w_ws := wq_s3 (i := 191) rfl rfl
set_option maxRecDepth 100000 in
theorem wd_785 : Cond.code yX10_isLetter prog_12_method_13_code 1 (Option.some Jvm.ClassFile.FieldType.boolean) ∈ w_ws := wq_s3 (i := 192) rfl rfl
set_option maxRecDepth 100000 in
theorem wd_787 : Cond.methodLink RX10 63 yJ0_indexOf_0f7a4 ∈ w_ws := wq_s3 (i := 194) rfl rfl
set_option maxRecDepth 100000 in
theorem wd_788 : Cond.instanceMethod yJ0_indexOf_0f7a4 ∈ w_ws := wq_s3 (i := 195) rfl rfl
set_option maxRecDepth 100000 in
theorem wd_789 : Cond.selects RJ0 yJ0_indexOf_0f7a4 yJ0_indexOf_0f7a4 ∈ w_ws := wq_s3 (i := 196) rfl rfl
set_option maxRecDepth 100000 in
theorem wd_790 : Cond.code yJ0_indexOf_0f7a4 prog_18_method_79_code 2 (Option.some Jvm.ClassFile.FieldType.int) ∈ w_ws := wq_s3 (i := 197) rfl rfl
set_option maxRecDepth 100000 in
theorem wd_791 : Cond.methodLink RJ0 633 yJ0_indexOf_7cf53 ∈ w_ws := wq_s3 (i := 198) rfl rfl
set_option maxRecDepth 100000 in
theorem wd_792 : Cond.instanceMethod yJ0_indexOf_7cf53 ∈ w_ws := wq_s3 (i := 199) rfl rfl
set_option maxRecDepth 100000 in
theorem wd_793 : Cond.selects RJ0 yJ0_indexOf_7cf53 yJ0_indexOf_7cf53 ∈ w_ws := wq_s3 (i := 200) rfl rfl
set_option maxRecDepth 100000 in
theorem wd_794 : Cond.code yJ0_indexOf_7cf53 prog_18_method_80_code 3 (Option.some Jvm.ClassFile.FieldType.int) ∈ w_ws := wq_s3 (i := 201) rfl rfl
set_option maxRecDepth 100000 in
theorem wd_795 : Cond.methodLink RJ0 492 yJ0_isLatin1_aae02 ∈ w_ws := wq_s3 (i := 202) rfl rfl
set_option maxRecDepth 100000 in
theorem wd_796 : Cond.instanceMethod yJ0_isLatin1_aae02 ∈ w_ws := wq_s3 (i := 203) rfl rfl
set_option maxRecDepth 100000 in
theorem wd_797 : Cond.selects RJ0 yJ0_isLatin1_aae02 yJ0_isLatin1_aae02 ∈ w_ws := wq_s3 (i := 204) rfl rfl
set_option maxRecDepth 100000 in
theorem wd_798 : Cond.code yJ0_isLatin1_aae02 prog_18_method_154_code 1 (Option.some Jvm.ClassFile.FieldType.boolean) ∈ w_ws := wq_s3 (i := 205) rfl rfl
set_option maxRecDepth 100000 in
theorem wd_799 : Cond.fieldLink RJ0 38 "java/lang/String" "COMPACT_STRINGS" "Z" ∈ w_ws := wq_s3 (i := 206) rfl rfl
set_option maxRecDepth 100000 in
theorem wd_801 : Cond.methodLink RJ0 505 yJ0_length_8abf5 ∈ w_ws := wq_s3 (i := 208) rfl rfl
set_option maxRecDepth 100000 in
theorem wd_802 : Cond.instanceMethod yJ0_length_8abf5 ∈ w_ws := wq_s3 (i := 209) rfl rfl
set_option maxRecDepth 100000 in
theorem wd_803 : Cond.selects RJ0 yJ0_length_8abf5 yJ0_length_8abf5 ∈ w_ws := wq_s3 (i := 210) rfl rfl
set_option maxRecDepth 100000 in
theorem wd_804 : Cond.code yJ0_length_8abf5 prog_18_method_54_code 1 (Option.some Jvm.ClassFile.FieldType.int) ∈ w_ws := wq_s3 (i := 211) rfl rfl
set_option maxRecDepth 100000 in
theorem wd_805 : Cond.methodLink RJ0 335 yJ0_coder_7d493 ∈ w_ws := wq_s3 (i := 212) rfl rfl
set_option maxRecDepth 100000 in
theorem wd_806 : Cond.instanceMethod yJ0_coder_7d493 ∈ w_ws := wq_s3 (i := 213) rfl rfl
set_option maxRecDepth 100000 in
theorem wd_807 : Cond.selects RJ0 yJ0_coder_7d493 yJ0_coder_7d493 ∈ w_ws := wq_s3 (i := 214) rfl rfl
set_option maxRecDepth 100000 in
theorem wd_808 : Cond.code yJ0_coder_7d493 prog_18_method_152_code 1 (Option.some Jvm.ClassFile.FieldType.byte) ∈ w_ws := wq_s3 (i := 215) rfl rfl
set_option maxRecDepth 100000 in
theorem wd_809 : Cond.methodLink RJ0 637 yJ1_indexOf_4cfef ∈ w_ws := wq_s3 (i := 216) rfl rfl
set_option maxRecDepth 100000 in
theorem wd_810 : Cond.static yJ1_indexOf_4cfef ∈ w_ws := wq_s3 (i := 217) rfl rfl
set_option maxRecDepth 100000 in
theorem wd_811 : Cond.code yJ1_indexOf_4cfef prog_19_method_22_code 4 (Option.some Jvm.ClassFile.FieldType.int) ∈ w_ws := wq_s3 (i := 218) rfl rfl
set_option maxRecDepth 100000 in
theorem wd_812 : Cond.methodLink RJ1 88 yJ1_canEncode_9a6ad ∈ w_ws := wq_s3 (i := 219) rfl rfl
set_option maxRecDepth 100000 in
theorem wd_813 : Cond.static yJ1_canEncode_9a6ad ∈ w_ws := wq_s3 (i := 220) rfl rfl
set_option maxRecDepth 100000 in
theorem wd_814 : Cond.code yJ1_canEncode_9a6ad prog_19_method_4_code 1 (Option.some Jvm.ClassFile.FieldType.boolean) ∈ w_ws := wq_s3 (i := 221) rfl rfl
set_option maxRecDepth 100000 in
theorem wd_815 : Cond.methodLink RJ1 92 yJ9_max_7cf53 ∈ w_ws := wq_s3 (i := 222) rfl rfl
set_option maxRecDepth 100000 in
theorem wd_816 : Cond.methodLink RJ1 38 yJ9_min_7cf53 ∈ w_ws := wq_s3 (i := 223) rfl rfl
set_option maxRecDepth 100000 in
theorem wd_817 : Cond.methodLink RJ1 95 yJ1_indexOfChar_4cfef ∈ w_ws := wq_s3 (i := 224) rfl rfl
set_option maxRecDepth 100000 in
theorem wd_818 : Cond.static yJ1_indexOfChar_4cfef ∈ w_ws := wq_s3 (i := 225) rfl rfl
set_option maxRecDepth 100000 in
theorem wd_819 : Cond.code yJ1_indexOfChar_4cfef prog_19_method_23_code 6 (Option.some Jvm.ClassFile.FieldType.int) ∈ w_ws := wq_s3 (i := 226) rfl rfl
set_option maxRecDepth 100000 in
theorem wd_820 : Cond.methodLink RJ0 640 yJ2_indexOf_4cfef ∈ w_ws := wq_s3 (i := 227) rfl rfl
set_option maxRecDepth 100000 in
theorem wd_821 : Cond.static yJ2_indexOf_4cfef ∈ w_ws := wq_s3 (i := 228) rfl rfl
set_option maxRecDepth 100000 in
theorem wd_822 : Cond.code yJ2_indexOf_4cfef prog_20_method_40_code 4 (Option.some Jvm.ClassFile.FieldType.int) ∈ w_ws := wq_s3 (i := 229) rfl rfl
set_option maxRecDepth 100000 in
theorem wd_823 : Cond.methodLink RJ2 224 yJ9_max_7cf53 ∈ w_ws := wq_s3 (i := 230) rfl rfl
set_option maxRecDepth 100000 in
theorem wd_824 : Cond.methodLink RJ2 183 yJ9_min_7cf53 ∈ w_ws := wq_s3 (i := 231) rfl rfl
set_option maxRecDepth 100000 in
theorem wd_825 : (Cond.constant "java/lang/StringUTF16" (227 : Nat) (65536 : Int32)) ∈ w_ws := wq_s3 (i := 232) rfl rfl
set_option maxRecDepth 100000 in
theorem wd_826 : Cond.methodLink RJ2 228 yJ2_indexOfChar_4cfef ∈ w_ws := wq_s3 (i := 233) rfl rfl
set_option maxRecDepth 100000 in
theorem wd_827 : Cond.static yJ2_indexOfChar_4cfef ∈ w_ws := wq_s3 (i := 234) rfl rfl
set_option maxRecDepth 100000 in
theorem wd_828 : Cond.code yJ2_indexOfChar_4cfef prog_20_method_47_code 4 (Option.some Jvm.ClassFile.FieldType.int) ∈ w_ws := wq_s3 (i := 235) rfl rfl
set_option maxRecDepth 100000 in
theorem wd_829 : Cond.methodLink RJ2 96 yJ2_checkBoundsBeginEnd_d044e ∈ w_ws := wq_s3 (i := 236) rfl rfl
set_option maxRecDepth 100000 in
theorem wd_830 : Cond.static yJ2_checkBoundsBeginEnd_d044e ∈ w_ws := wq_s3 (i := 237) rfl rfl
set_option maxRecDepth 100000 in
theorem wd_831 : Cond.code yJ2_checkBoundsBeginEnd_d044e prog_20_method_93_code 3 (Option.none : Option Jvm.ClassFile.FieldType) ∈ w_ws := wq_s3 (i := 238) rfl rfl
set_option maxRecDepth 100000 in
theorem wd_832 : Cond.methodLink RJ2 48 yJ2_length_9d52b ∈ w_ws := wq_s3 (i := 239) rfl rfl
set_option maxRecDepth 100000 in
theorem wd_833 : Cond.static yJ2_length_9d52b ∈ w_ws := wq_s4 (i := 0) rfl rfl
set_option maxRecDepth 100000 in
theorem wd_834 : Cond.code yJ2_length_9d52b prog_20_method_6_code 1 (Option.some Jvm.ClassFile.FieldType.int) ∈ w_ws := wq_s4 (i := 1) rfl rfl
set_option maxRecDepth 100000 in
theorem wd_835 : Cond.methodLink RJ2 241 yJ0_checkBoundsBeginEnd_23922 ∈ w_ws := wq_s4 (i := 2) rfl rfl
set_option maxRecDepth 100000 in
theorem wd_836 : Cond.static yJ0_checkBoundsBeginEnd_23922 ∈ w_ws := wq_s4 (i := 3) rfl rfl
set_option maxRecDepth 100000 in
theorem wd_837 : Cond.code yJ0_checkBoundsBeginEnd_23922 prog_18_method_158_code 3 (Option.none : Option Jvm.ClassFile.FieldType) ∈ w_ws := wq_s4 (i := 4) rfl rfl
set_option maxRecDepth 100000 in
theorem wd_838 : Cond.fieldLink RJ0 1053 "jdk/internal/util/Preconditions" "SIOOBE_FORMATTER" "Ljava/util/function/BiFunction;" ∈ w_ws := wq_s4 (i := 5) rfl rfl
set_option maxRecDepth 100000 in
theorem wd_840 : Cond.methodLink RJ0 1062 yJ3_checkFromToIndex_8c36e ∈ w_ws := wq_s4 (i := 7) rfl rfl
set_option maxRecDepth 100000 in
theorem wd_841 : Cond.static yJ3_checkFromToIndex_8c36e ∈ w_ws := wq_s4 (i := 8) rfl rfl
set_option maxRecDepth 100000 in
theorem wd_842 : Cond.code yJ3_checkFromToIndex_8c36e prog_23_method_12_code 4 (Option.some Jvm.ClassFile.FieldType.int) ∈ w_ws := wq_s4 (i := 9) rfl rfl
set_option maxRecDepth 100000 in
theorem wd_843 : Cond.methodLink RJ2 244 yJ2_indexOfCharUnsafe_4cfef ∈ w_ws := wq_s4 (i := 10) rfl rfl
set_option maxRecDepth 100000 in
theorem wd_844 : Cond.static yJ2_indexOfCharUnsafe_4cfef ∈ w_ws := wq_s4 (i := 11) rfl rfl
set_option maxRecDepth 100000 in
theorem wd_845 : Cond.code yJ2_indexOfCharUnsafe_4cfef prog_20_method_48_code 5 (Option.some Jvm.ClassFile.FieldType.int) ∈ w_ws := wq_s4 (i := 12) rfl rfl
set_option maxRecDepth 100000 in
theorem wd_846 : Cond.methodLink RJ2 71 yJ2_getChar_3b067 ∈ w_ws := wq_s4 (i := 13) rfl rfl
set_option maxRecDepth 100000 in
theorem wd_847 : Cond.static yJ2_getChar_3b067 ∈ w_ws := wq_s4 (i := 14) rfl rfl
set_option maxRecDepth 100000 in
theorem wd_848 : Cond.code yJ2_getChar_3b067 prog_20_method_5_code 2 (Option.some Jvm.ClassFile.FieldType.char) ∈ w_ws := wq_s4 (i := 15) rfl rfl
set_option maxRecDepth 100000 in
theorem wd_849 : Cond.fieldLink RJ2 44 "java/lang/StringUTF16" "$assertionsDisabled" "Z" ∈ w_ws := wq_s4 (i := 16) rfl rfl
set_option maxRecDepth 100000 in
theorem wd_851 : Cond.fieldLink RJ2 59 "java/lang/StringUTF16" "HI_BYTE_SHIFT" "I" ∈ w_ws := wq_s4 (i := 18) rfl rfl
set_option maxRecDepth 100000 in
theorem wd_853 : Cond.fieldLink RJ2 63 "java/lang/StringUTF16" "LO_BYTE_SHIFT" "I" ∈ w_ws := wq_s4 (i := 20) rfl rfl
set_option maxRecDepth 100000 in
theorem wd_855 : Cond.methodLink RJ2 232 yJ2_indexOfSupplementary_4cfef ∈ w_ws := wq_s4 (i := 22) rfl rfl
set_option maxRecDepth 100000 in
theorem wd_856 : Cond.static yJ2_indexOfSupplementary_4cfef ∈ w_ws := wq_s4 (i := 23) rfl rfl
set_option maxRecDepth 100000 in
theorem wd_857 : Cond.code yJ2_indexOfSupplementary_4cfef prog_20_method_49_code 7 (Option.some Jvm.ClassFile.FieldType.int) ∈ w_ws := wq_s4 (i := 24) rfl rfl
set_option maxRecDepth 100000 in
theorem wd_858 : Cond.methodLink RJ2 164 yJ11_isValidCodePoint_9a6ad ∈ w_ws := wq_s4 (i := 25) rfl rfl
set_option maxRecDepth 100000 in
theorem wd_859 : Cond.static yJ11_isValidCodePoint_9a6ad ∈ w_ws := wq_s4 (i := 26) rfl rfl
set_option maxRecDepth 100000 in
theorem wd_860 : Cond.code yJ11_isValidCodePoint_9a6ad prog_15_method_11_code 2 (Option.some Jvm.ClassFile.FieldType.boolean) ∈ w_ws := wq_s4 (i := 27) rfl rfl
set_option maxRecDepth 100000 in
theorem wd_861 : Cond.methodLink RJ2 157 yJ11_highSurrogate_5068e ∈ w_ws := wq_s4 (i := 28) rfl rfl
set_option maxRecDepth 100000 in
theorem wd_862 : Cond.static yJ11_highSurrogate_5068e ∈ w_ws := wq_s4 (i := 29) rfl rfl
set_option maxRecDepth 100000 in
theorem wd_863 : Cond.code yJ11_highSurrogate_5068e prog_15_method_28_code 1 (Option.some Jvm.ClassFile.FieldType.char) ∈ w_ws := wq_s4 (i := 30) rfl rfl
set_option maxRecDepth 100000 in
theorem wd_864 : (Cond.constant "java/lang/Character" (110 : Nat) (55232 : Int32)) ∈ w_ws := wq_s4 (i := 31) rfl rfl
set_option maxRecDepth 100000 in
theorem wd_865 : Cond.methodLink RJ2 161 yJ11_lowSurrogate_5068e ∈ w_ws := wq_s4 (i := 32) rfl rfl
set_option maxRecDepth 100000 in
theorem wd_866 : Cond.static yJ11_lowSurrogate_5068e ∈ w_ws := wq_s4 (i := 33) rfl rfl
set_option maxRecDepth 100000 in
theorem wd_867 : Cond.code yJ11_lowSurrogate_5068e prog_15_method_29_code 1 (Option.some Jvm.ClassFile.FieldType.char) ∈ w_ws := wq_s4 (i := 34) rfl rfl
set_option maxRecDepth 100000 in
theorem wd_868 : (Cond.constant "java/lang/Character" (76 : Nat) (56320 : Int32)) ∈ w_ws := wq_s4 (i := 35) rfl rfl
set_option maxRecDepth 100000 in
theorem wd_869 : Cond.methodLink RX10 68 yX10_keyword ∈ w_ws := wq_s4 (i := 36) rfl rfl
set_option maxRecDepth 100000 in
theorem wd_871 : Cond.instanceMethod yX10_keyword ∈ w_ws := wq_s4 (i := 38) rfl rfl
set_option maxRecDepth 100000 in
theorem wd_872 : Cond.code yX10_keyword prog_12_method_9_code 6 (Option.some Jvm.ClassFile.FieldType.int) ∈ w_ws := wq_s4 (i := 39) rfl rfl
set_option maxRecDepth 100000 in
theorem wd_874 : Cond.methodLink RX10 74 yJ0_length_8abf5 ∈ w_ws := wq_s4 (i := 41) rfl rfl
set_option maxRecDepth 100000 in
theorem wd_875 : Cond.methodLink RX10 78 yJ0_charAt_5068e ∈ w_ws := wq_s4 (i := 42) rfl rfl
set_option maxRecDepth 100000 in
theorem wd_876 : Cond.instanceMethod yJ0_charAt_5068e ∈ w_ws := wq_s4 (i := 43) rfl rfl
set_option maxRecDepth 100000 in
theorem wd_877 : Cond.selects RJ0 yJ0_charAt_5068e yJ0_charAt_5068e ∈ w_ws := wq_s4 (i := 44) rfl rfl
set_option maxRecDepth 100000 in
theorem wd_878 : Cond.code yJ0_charAt_5068e prog_18_method_56_code 2 (Option.some Jvm.ClassFile.FieldType.char) ∈ w_ws := wq_s4 (i := 45) rfl rfl
set_option maxRecDepth 100000 in
theorem wd_879 : Cond.methodLink RJ0 495 yJ1_charAt_3b067 ∈ w_ws := wq_s4 (i := 46) rfl rfl
set_option maxRecDepth 100000 in
theorem wd_880 : Cond.static yJ1_charAt_3b067 ∈ w_ws := wq_s4 (i := 47) rfl rfl
set_option maxRecDepth 100000 in
theorem wd_881 : Cond.code yJ1_charAt_3b067 prog_19_method_2_code 2 (Option.some Jvm.ClassFile.FieldType.char) ∈ w_ws := wq_s4 (i := 48) rfl rfl
set_option maxRecDepth 100000 in
theorem wd_882 : Cond.methodLink RJ1 9 yJ0_checkIndex_df160 ∈ w_ws := wq_s4 (i := 49) rfl rfl
set_option maxRecDepth 100000 in
theorem wd_883 : Cond.static yJ0_checkIndex_df160 ∈ w_ws := wq_s4 (i := 50) rfl rfl
set_option maxRecDepth 100000 in
theorem wd_884 : Cond.code yJ0_checkIndex_df160 prog_18_method_155_code 2 (Option.none : Option Jvm.ClassFile.FieldType) ∈ w_ws := wq_s4 (i := 51) rfl rfl
set_option maxRecDepth 100000 in
theorem wd_885 : Cond.methodLink RJ0 1059 yJ3_checkIndex_8e157 ∈ w_ws := wq_s4 (i := 52) rfl rfl
set_option maxRecDepth 100000 in
theorem wd_886 : Cond.static yJ3_checkIndex_8e157 ∈ w_ws := wq_s4 (i := 53) rfl rfl
set_option maxRecDepth 100000 in
theorem wd_887 : Cond.code yJ3_checkIndex_8e157 prog_23_method_11_code 3 (Option.some Jvm.ClassFile.FieldType.int) ∈ w_ws := wq_s4 (i := 54) rfl rfl
set_option maxRecDepth 100000 in
theorem wd_888 : Cond.methodLink RJ0 498 yJ2_charAt_3b067 ∈ w_ws := wq_s4 (i := 55) rfl rfl
set_option maxRecDepth 100000 in
theorem wd_889 : Cond.static yJ2_charAt_3b067 ∈ w_ws := wq_s4 (i := 56) rfl rfl
set_option maxRecDepth 100000 in
theorem wd_890 : Cond.code yJ2_charAt_3b067 prog_20_method_83_code 2 (Option.some Jvm.ClassFile.FieldType.char) ∈ w_ws := wq_s4 (i := 57) rfl rfl
set_option maxRecDepth 100000 in
theorem wd_891 : Cond.methodLink RJ2 67 yJ2_checkIndex_2214a ∈ w_ws := wq_s4 (i := 58) rfl rfl
set_option maxRecDepth 100000 in
theorem wd_892 : Cond.static yJ2_checkIndex_2214a ∈ w_ws := wq_s4 (i := 59) rfl rfl
set_option maxRecDepth 100000 in
theorem wd_893 : Cond.code yJ2_checkIndex_2214a prog_20_method_91_code 2 (Option.none : Option Jvm.ClassFile.FieldType) ∈ w_ws := wq_s4 (i := 60) rfl rfl
set_option maxRecDepth 100000 in
theorem wd_894 : Cond.methodLink RJ2 414 yJ0_checkIndex_df160 ∈ w_ws := wq_s4 (i := 61) rfl rfl
set_option maxRecDepth 100000 in
theorem wd_895 : Cond.methodLink RX10 82 yX10_isWritten ∈ w_ws := wq_s4 (i := 62) rfl rfl
set_option maxRecDepth 100000 in
theorem wd_897 : Cond.instanceMethod yX10_isWritten ∈ w_ws := wq_s4 (i := 64) rfl rfl
set_option maxRecDepth 100000 in
theorem wd_898 : Cond.code yX10_isWritten prog_12_method_10_code 5 (Option.some Jvm.ClassFile.FieldType.boolean) ∈ w_ws := wq_s4 (i := 65) rfl rfl
set_option maxRecDepth 100000 in
theorem wd_899 : Cond.methodLink RX11 155 yX7_read ∈ w_ws := wq_s4 (i := 66) rfl rfl
set_option maxRecDepth 100000 in
theorem wd_900 : Cond.instanceMethod yX7_read ∈ w_ws := wq_s4 (i := 67) rfl rfl
set_option maxRecDepth 100000 in
theorem wd_901 : Cond.selects RX7 yX7_read yX7_read ∈ w_ws := wq_s4 (i := 68) rfl rfl
set_option maxRecDepth 100000 in
theorem wd_902 : Cond.code yX7_read prog_9_method_9_code 6 (Option.some Jvm.ClassFile.FieldType.boolean) ∈ w_ws := wq_s4 (i := 69) rfl rfl
set_option maxRecDepth 100000 in
theorem wd_903 : Cond.methodLink RX7 55 yX10_kind ∈ w_ws := wq_s4 (i := 70) rfl rfl
set_option maxRecDepth 100000 in
theorem wd_904 : Cond.instanceMethod yX10_kind ∈ w_ws := wq_s4 (i := 71) rfl rfl
set_option maxRecDepth 100000 in
theorem wd_905 : Cond.selects RX10 yX10_kind yX10_kind ∈ w_ws := wq_s4 (i := 72) rfl rfl
set_option maxRecDepth 100000 in
theorem wd_906 : Cond.code yX10_kind prog_12_method_14_code 1 (Option.some Jvm.ClassFile.FieldType.int) ∈ w_ws := wq_s4 (i := 73) rfl rfl
set_option maxRecDepth 100000 in
theorem wd_907 : Cond.methodLink RX7 59 yX10_pass ∈ w_ws := wq_s4 (i := 74) rfl rfl
set_option maxRecDepth 100000 in
theorem wd_908 : Cond.instanceMethod yX10_pass ∈ w_ws := wq_s4 (i := 75) rfl rfl
set_option maxRecDepth 100000 in
theorem wd_909 : Cond.selects RX10 yX10_pass yX10_pass ∈ w_ws := wq_s4 (i := 76) rfl rfl
set_option maxRecDepth 100000 in
theorem wd_910 : Cond.code yX10_pass prog_12_method_15_code 1 (Option.none : Option Jvm.ClassFile.FieldType) ∈ w_ws := wq_s4 (i := 77) rfl rfl
set_option maxRecDepth 100000 in
theorem wd_911 : Cond.methodLink RX7 62 yX10_refuse ∈ w_ws := wq_s4 (i := 78) rfl rfl
set_option maxRecDepth 100000 in
theorem wd_912 : Cond.instanceMethod yX10_refuse ∈ w_ws := wq_s4 (i := 79) rfl rfl
set_option maxRecDepth 100000 in
theorem wd_913 : Cond.selects RX10 yX10_refuse yX10_refuse ∈ w_ws := wq_s4 (i := 80) rfl rfl
set_option maxRecDepth 100000 in
theorem wd_914 : Cond.code yX10_refuse prog_12_method_16_code 2 (Option.some Jvm.ClassFile.FieldType.boolean) ∈ w_ws := wq_s4 (i := 81) rfl rfl
set_option maxRecDepth 100000 in
theorem wd_915 : Cond.methodLink RX7 65 yX7_readLine ∈ w_ws := wq_s4 (i := 82) rfl rfl
set_option maxRecDepth 100000 in
theorem wd_917 : Cond.instanceMethod yX7_readLine ∈ w_ws := wq_s4 (i := 84) rfl rfl
set_option maxRecDepth 100000 in
theorem wd_918 : Cond.code yX7_readLine prog_9_method_10_code 6 (Option.some Jvm.ClassFile.FieldType.boolean) ∈ w_ws := wq_s4 (i := 85) rfl rfl
set_option maxRecDepth 100000 in
theorem wd_919 : Cond.methodLink RX7 76 yX10_number ∈ w_ws := wq_s4 (i := 86) rfl rfl
set_option maxRecDepth 100000 in
theorem wd_920 : Cond.instanceMethod yX10_number ∈ w_ws := wq_s4 (i := 87) rfl rfl
set_option maxRecDepth 100000 in
theorem wd_921 : Cond.selects RX10 yX10_number yX10_number ∈ w_ws := wq_s4 (i := 88) rfl rfl
set_option maxRecDepth 100000 in
theorem wd_922 : Cond.code yX10_number prog_12_method_19_code 4 (Option.some Jvm.ClassFile.FieldType.int) ∈ w_ws := wq_s4 (i := 89) rfl rfl
set_option maxRecDepth 100000 in
theorem wd_923 : Cond.methodLink RX10 86 yX10_refuse ∈ w_ws := wq_s4 (i := 90) rfl rfl
set_option maxRecDepth 100000 in
theorem wd_924 : Cond.methodLink RX10 89 yX10_pass ∈ w_ws := wq_s4 (i := 91) rfl rfl
set_option maxRecDepth 100000 in
theorem wd_925 : Cond.methodLink RX7 69 yX10_take ∈ w_ws := wq_s4 (i := 92) rfl rfl
set_option maxRecDepth 100000 in
theorem wd_926 : Cond.instanceMethod yX10_take ∈ w_ws := wq_s4 (i := 93) rfl rfl
set_option maxRecDepth 100000 in
theorem wd_927 : Cond.selects RX10 yX10_take yX10_take ∈ w_ws := wq_s4 (i := 94) rfl rfl
set_option maxRecDepth 100000 in
theorem wd_928 : Cond.code yX10_take prog_12_method_17_code 2 (Option.some Jvm.ClassFile.FieldType.boolean) ∈ w_ws := wq_s4 (i := 95) rfl rfl
set_option maxRecDepth 100000 in
theorem wd_929 : Cond.methodLink RX7 72 yX7_layOut ∈ w_ws := wq_s4 (i := 96) rfl rfl
set_option maxRecDepth 100000 in
theorem wd_931 : Cond.instanceMethod yX7_layOut ∈ w_ws := wq_s4 (i := 98) rfl rfl
set_option maxRecDepth 100000 in
theorem wd_932 : Cond.code yX7_layOut prog_9_method_11_code 2 (Option.some Jvm.ClassFile.FieldType.boolean) ∈ w_ws := wq_s4 (i := 99) rfl rfl
set_option maxRecDepth 100000 in
theorem wd_933 : Cond.methodLink RX7 80 yJ9_max_7cf53 ∈ w_ws := wq_s4 (i := 100) rfl rfl
set_option maxRecDepth 100000 in
theorem wd_934 : Cond.methodLink RX11 159 yX2_takeTape ∈ w_ws := wq_s4 (i := 101) rfl rfl
set_option maxRecDepth 100000 in
theorem wd_935 : Cond.instanceMethod yX2_takeTape ∈ w_ws := wq_s4 (i := 102) rfl rfl
set_option maxRecDepth 100000 in
theorem wd_936 : Cond.selects RX2 yX2_takeTape yX2_takeTape ∈ w_ws := wq_s4 (i := 103) rfl rfl
set_option maxRecDepth 100000 in
theorem wd_937 : Cond.code yX2_takeTape prog_4_method_3_code 2 (Option.none : Option Jvm.ClassFile.FieldType) ∈ w_ws := wq_s4 (i := 104) rfl rfl
set_option maxRecDepth 100000 in
theorem wd_938 : Cond.methodLink RX2 67 yX7_copyFrom ∈ w_ws := wq_s4 (i := 105) rfl rfl
set_option maxRecDepth 100000 in
theorem wd_939 : Cond.instanceMethod yX7_copyFrom ∈ w_ws := wq_s4 (i := 106) rfl rfl
set_option maxRecDepth 100000 in
theorem wd_940 : Cond.selects RX7 yX7_copyFrom yX7_copyFrom ∈ w_ws := wq_s4 (i := 107) rfl rfl
set_option maxRecDepth 100000 in
theorem wd_941 : Cond.code yX7_copyFrom prog_9_method_13_code 2 (Option.none : Option Jvm.ClassFile.FieldType) ∈ w_ws := wq_s4 (i := 108) rfl rfl
set_option maxRecDepth 100000 in
theorem wd_942 : Cond.methodLink RX7 88 ({ cls := "java/lang/System", name := "arraycopy", desc := "(Ljava/lang/Object;ILjava/lang/Object;II)V" } : MethodName) ∈ w_ws := wq_s4 (i := 109) rfl rfl
set_option maxRecDepth 100000 in
theorem wd_943 : Cond.methodLink RX2 71 yX8_restart ∈ w_ws := wq_s4 (i := 110) rfl rfl
set_option maxRecDepth 100000 in
theorem wd_944 : Cond.instanceMethod yX8_restart ∈ w_ws := wq_s4 (i := 111) rfl rfl
set_option maxRecDepth 100000 in
theorem wd_945 : Cond.selects RX8 yX8_restart yX8_restart ∈ w_ws := wq_s4 (i := 112) rfl rfl
set_option maxRecDepth 100000 in
theorem wd_946 : Cond.code yX8_restart prog_10_method_2_code 1 (Option.none : Option Jvm.ClassFile.FieldType) ∈ w_ws := wq_s4 (i := 113) rfl rfl
set_option maxRecDepth 100000 in
theorem wd_947 : Cond.methodLink RX8 31 yJ7_fill_53178 ∈ w_ws := wq_s4 (i := 114) rfl rfl
set_option maxRecDepth 100000 in
theorem wd_948 : Cond.methodLink RX2 77 yX0_forget ∈ w_ws := wq_s4 (i := 115) rfl rfl
set_option maxRecDepth 100000 in
theorem wd_949 : Cond.instanceMethod yX0_forget ∈ w_ws := wq_s4 (i := 116) rfl rfl
set_option maxRecDepth 100000 in
theorem wd_950 : Cond.selects RX0 yX0_forget yX0_forget ∈ w_ws := wq_s4 (i := 117) rfl rfl
set_option maxRecDepth 100000 in
theorem wd_951 : Cond.code yX0_forget prog_2_method_3_code 1 (Option.none : Option Jvm.ClassFile.FieldType) ∈ w_ws := wq_s4 (i := 118) rfl rfl
set_option maxRecDepth 100000 in
theorem wd_952 : Cond.methodLink RX0 19 yJ7_fill_53178 ∈ w_ws := wq_s4 (i := 119) rfl rfl
set_option maxRecDepth 100000 in
theorem wd_953 : Cond.methodLink RX11 166 yX4_read ∈ w_ws := wq_s4 (i := 120) rfl rfl
set_option maxRecDepth 100000 in
theorem wd_954 : Cond.instanceMethod yX4_read ∈ w_ws := wq_s4 (i := 121) rfl rfl
set_option maxRecDepth 100000 in
theorem wd_955 : Cond.selects RX4 yX4_read yX4_read ∈ w_ws := wq_s4 (i := 122) rfl rfl
set_option maxRecDepth 100000 in
theorem wd_956 : Cond.code yX4_read prog_6_method_2_code 4 (Option.some Jvm.ClassFile.FieldType.boolean) ∈ w_ws := wq_s4 (i := 123) rfl rfl
set_option maxRecDepth 100000 in
theorem wd_957 : Cond.methodLink RX4 39 yX10_kind ∈ w_ws := wq_s4 (i := 124) rfl rfl
set_option maxRecDepth 100000 in
theorem wd_958 : Cond.methodLink RX4 43 yX10_refuse ∈ w_ws := wq_s4 (i := 125) rfl rfl
set_option maxRecDepth 100000 in
theorem wd_959 : Cond.methodLink RX4 47 yX10_pass ∈ w_ws := wq_s4 (i := 126) rfl rfl
set_option maxRecDepth 100000 in
theorem wd_960 : Cond.methodLink RX4 50 yX4_readSum ∈ w_ws := wq_s4 (i := 127) rfl rfl
set_option maxRecDepth 100000 in
theorem wd_962 : Cond.instanceMethod yX4_readSum ∈ w_ws := wq_s4 (i := 129) rfl rfl
set_option maxRecDepth 100000 in
theorem wd_963 : Cond.code yX4_readSum prog_6_method_5_code 5 (Option.some Jvm.ClassFile.FieldType.boolean) ∈ w_ws := wq_s4 (i := 130) rfl rfl
set_option maxRecDepth 100000 in
theorem wd_964 : Cond.methodLink RX4 68 yX4_readUnit ∈ w_ws := wq_s4 (i := 131) rfl rfl
set_option maxRecDepth 100000 in
theorem wd_966 : Cond.instanceMethod yX4_readUnit ∈ w_ws := wq_s4 (i := 133) rfl rfl
set_option maxRecDepth 100000 in
theorem wd_967 : Cond.code yX4_readUnit prog_6_method_6_code 5 (Option.some Jvm.ClassFile.FieldType.boolean) ∈ w_ws := wq_s4 (i := 134) rfl rfl
set_option maxRecDepth 100000 in
theorem wd_968 : Cond.methodLink RX4 72 yX4_variable ∈ w_ws := wq_s4 (i := 135) rfl rfl
set_option maxRecDepth 100000 in
theorem wd_969 : Cond.static yX4_variable ∈ w_ws := wq_s4 (i := 136) rfl rfl
set_option maxRecDepth 100000 in
theorem wd_970 : Cond.code yX4_variable prog_6_method_7_code 1 (Option.some Jvm.ClassFile.FieldType.int) ∈ w_ws := wq_s4 (i := 137) rfl rfl
set_option maxRecDepth 100000 in
theorem wd_971 : Cond.methodLink RX4 64 yX4_emit ∈ w_ws := wq_s4 (i := 138) rfl rfl
set_option maxRecDepth 100000 in
theorem wd_973 : Cond.instanceMethod yX4_emit ∈ w_ws := wq_s4 (i := 140) rfl rfl
set_option maxRecDepth 100000 in
theorem wd_974 : Cond.code yX4_emit prog_6_method_8_code 2 (Option.none : Option Jvm.ClassFile.FieldType) ∈ w_ws := wq_s4 (i := 141) rfl rfl
set_option maxRecDepth 100000 in
theorem wd_975 : Cond.methodLink RX4 76 yX10_number ∈ w_ws := wq_s4 (i := 142) rfl rfl
set_option maxRecDepth 100000 in
theorem wd_976 : Cond.methodLink RX4 54 yX4_readChoice ∈ w_ws := wq_s4 (i := 143) rfl rfl
set_option maxRecDepth 100000 in
theorem wd_978 : Cond.instanceMethod yX4_readChoice ∈ w_ws := wq_s4 (i := 145) rfl rfl
set_option maxRecDepth 100000 in
theorem wd_979 : Cond.code yX4_readChoice prog_6_method_3_code 6 (Option.some Jvm.ClassFile.FieldType.boolean) ∈ w_ws := wq_s4 (i := 146) rfl rfl
set_option maxRecDepth 100000 in
theorem wd_980 : Cond.methodLink RX4 61 yX4_readClaim ∈ w_ws := wq_s4 (i := 147) rfl rfl
set_option maxRecDepth 100000 in
theorem wd_982 : Cond.instanceMethod yX4_readClaim ∈ w_ws := wq_s4 (i := 149) rfl rfl
set_option maxRecDepth 100000 in
theorem wd_983 : Cond.code yX4_readClaim prog_6_method_4_code 6 (Option.some Jvm.ClassFile.FieldType.boolean) ∈ w_ws := wq_s4 (i := 150) rfl rfl
set_option maxRecDepth 100000 in
theorem wd_984 : Cond.methodLink RX4 58 yX10_take ∈ w_ws := wq_s4 (i := 151) rfl rfl
set_option maxRecDepth 100000 in
theorem wd_985 : Cond.methodLink RX11 170 yX4_copyFrom ∈ w_ws := wq_s4 (i := 152) rfl rfl
set_option maxRecDepth 100000 in
theorem wd_986 : Cond.instanceMethod yX4_copyFrom ∈ w_ws := wq_s4 (i := 153) rfl rfl
set_option maxRecDepth 100000 in
theorem wd_987 : Cond.selects RX4 yX4_copyFrom yX4_copyFrom ∈ w_ws := wq_s4 (i := 154) rfl rfl
set_option maxRecDepth 100000 in
theorem wd_988 : Cond.code yX4_copyFrom prog_6_method_13_code 2 (Option.none : Option Jvm.ClassFile.FieldType) ∈ w_ws := wq_s4 (i := 155) rfl rfl
set_option maxRecDepth 100000 in
theorem wd_989 : Cond.methodLink RX4 99 ({ cls := "java/lang/System", name := "arraycopy", desc := "(Ljava/lang/Object;ILjava/lang/Object;II)V" } : MethodName) ∈ w_ws := wq_s4 (i := 156) rfl rfl
set_option maxRecDepth 100000 in
theorem wd_990 : Cond.methodLink RX11 177 yX3_read ∈ w_ws := wq_s4 (i := 157) rfl rfl
set_option maxRecDepth 100000 in
theorem wd_991 : Cond.instanceMethod yX3_read ∈ w_ws := wq_s4 (i := 158) rfl rfl
set_option maxRecDepth 100000 in
theorem wd_992 : Cond.selects RX3 yX3_read yX3_read ∈ w_ws := wq_s4 (i := 159) rfl rfl
set_option maxRecDepth 100000 in
theorem wd_993 : Cond.code yX3_read prog_5_method_2_code 5 (Option.some Jvm.ClassFile.FieldType.boolean) ∈ w_ws := wq_s4 (i := 160) rfl rfl
set_option maxRecDepth 100000 in
theorem wd_994 : Cond.methodLink RX3 30 yX10_kind ∈ w_ws := wq_s4 (i := 161) rfl rfl
set_option maxRecDepth 100000 in
theorem wd_995 : Cond.methodLink RX3 34 yX10_refuse ∈ w_ws := wq_s4 (i := 162) rfl rfl
set_option maxRecDepth 100000 in
theorem wd_996 : Cond.methodLink RX3 38 yX3_readAgain ∈ w_ws := wq_s4 (i := 163) rfl rfl
set_option maxRecDepth 100000 in
theorem wd_998 : Cond.instanceMethod yX3_readAgain ∈ w_ws := wq_s4 (i := 165) rfl rfl
set_option maxRecDepth 100000 in
theorem wd_999 : Cond.code yX3_readAgain prog_5_method_3_code 4 (Option.some Jvm.ClassFile.FieldType.boolean) ∈ w_ws := wq_s4 (i := 166) rfl rfl
set_option maxRecDepth 100000 in
theorem wd_1000 : Cond.methodLink RX3 42 yX10_pass ∈ w_ws := wq_s4 (i := 167) rfl rfl
set_option maxRecDepth 100000 in
theorem wd_1001 : Cond.methodLink RX3 52 yX10_number ∈ w_ws := wq_s4 (i := 168) rfl rfl
set_option maxRecDepth 100000 in
theorem wd_1002 : Cond.methodLink RX3 56 yX10_take ∈ w_ws := wq_s4 (i := 169) rfl rfl
set_option maxRecDepth 100000 in
theorem wd_1003 : Cond.methodLink RX3 45 yX3_repeat ∈ w_ws := wq_s4 (i := 170) rfl rfl
set_option maxRecDepth 100000 in
theorem wd_1005 : Cond.instanceMethod yX3_repeat ∈ w_ws := wq_s4 (i := 172) rfl rfl
set_option maxRecDepth 100000 in
theorem wd_1006 : Cond.code yX3_repeat prog_5_method_7_code 6 (Option.none : Option Jvm.ClassFile.FieldType) ∈ w_ws := wq_s4 (i := 173) rfl rfl
set_option maxRecDepth 100000 in
theorem wd_1007 : Cond.methodLink RX3 63 yX3_append ∈ w_ws := wq_s4 (i := 174) rfl rfl
set_option maxRecDepth 100000 in
theorem wd_1009 : Cond.instanceMethod yX3_append ∈ w_ws := wq_s4 (i := 176) rfl rfl
set_option maxRecDepth 100000 in
theorem wd_1010 : Cond.code yX3_append prog_5_method_6_code 3 (Option.none : Option Jvm.ClassFile.FieldType) ∈ w_ws := wq_s4 (i := 177) rfl rfl
set_option maxRecDepth 100000 in
theorem wd_1011 : Cond.methodLink RX3 66 yJ9_min_7cf53 ∈ w_ws := wq_s4 (i := 178) rfl rfl
set_option maxRecDepth 100000 in
theorem wd_1012 : Cond.methodLink RX3 49 yX3_readDeed ∈ w_ws := wq_s4 (i := 179) rfl rfl
set_option maxRecDepth 100000 in
theorem wd_1014 : Cond.instanceMethod yX3_readDeed ∈ w_ws := wq_s4 (i := 181) rfl rfl
set_option maxRecDepth 100000 in
theorem wd_1015 : Cond.code yX3_readDeed prog_5_method_4_code 5 (Option.some Jvm.ClassFile.FieldType.boolean) ∈ w_ws := wq_s4 (i := 182) rfl rfl
set_option maxRecDepth 100000 in
theorem wd_1016 : Cond.methodLink RX3 59 yX3_what ∈ w_ws := wq_s4 (i := 183) rfl rfl
set_option maxRecDepth 100000 in
theorem wd_1017 : Cond.static yX3_what ∈ w_ws := wq_s4 (i := 184) rfl rfl
set_option maxRecDepth 100000 in
theorem wd_1018 : Cond.code yX3_what prog_5_method_5_code 1 (Option.some Jvm.ClassFile.FieldType.int) ∈ w_ws := wq_s4 (i := 185) rfl rfl
set_option maxRecDepth 100000 in
theorem wd_1019 : Cond.methodLink RX11 178 yX3_copyFrom ∈ w_ws := wq_s4 (i := 186) rfl rfl
set_option maxRecDepth 100000 in
theorem wd_1020 : Cond.instanceMethod yX3_copyFrom ∈ w_ws := wq_s4 (i := 187) rfl rfl
set_option maxRecDepth 100000 in
theorem wd_1021 : Cond.selects RX3 yX3_copyFrom yX3_copyFrom ∈ w_ws := wq_s4 (i := 188) rfl rfl
set_option maxRecDepth 100000 in
theorem wd_1022 : Cond.code yX3_copyFrom prog_5_method_8_code 2 (Option.none : Option Jvm.ClassFile.FieldType) ∈ w_ws := wq_s4 (i := 189) rfl rfl
set_option maxRecDepth 100000 in
theorem wd_1023 : Cond.methodLink RX3 71 ({ cls := "java/lang/System", name := "arraycopy", desc := "(Ljava/lang/Object;ILjava/lang/Object;II)V" } : MethodName) ∈ w_ws := wq_s4 (i := 190) rfl rfl
set_option maxRecDepth 100000 in
theorem wd_1024 : Cond.methodLink RX11 181 yX0_read ∈ w_ws := wq_s4 (i := 191) rfl rfl
set_option maxRecDepth 100000 in
theorem wd_1025 : Cond.instanceMethod yX0_read ∈ w_ws := wq_s4 (i := 192) rfl rfl
set_option maxRecDepth 100000 in
theorem wd_1026 : Cond.selects RX0 yX0_read yX0_read ∈ w_ws := wq_s4 (i := 193) rfl rfl
set_option maxRecDepth 100000 in
theorem wd_1027 : Cond.code yX0_read prog_2_method_4_code 4 (Option.some Jvm.ClassFile.FieldType.boolean) ∈ w_ws := wq_s4 (i := 194) rfl rfl
set_option maxRecDepth 100000 in
theorem wd_1028 : Cond.methodLink RX0 25 yX0_forget ∈ w_ws := wq_s4 (i := 195) rfl rfl
set_option maxRecDepth 100000 in
theorem wd_1029 : Cond.methodLink RX0 30 yX10_kind ∈ w_ws := wq_s4 (i := 196) rfl rfl
set_option maxRecDepth 100000 in
theorem wd_1030 : Cond.methodLink RX0 34 yX10_refuse ∈ w_ws := wq_s4 (i := 197) rfl rfl
set_option maxRecDepth 100000 in
theorem wd_1031 : Cond.methodLink RX0 38 yX10_take ∈ w_ws := wq_s4 (i := 198) rfl rfl
set_option maxRecDepth 100000 in
theorem wd_1032 : Cond.methodLink RX0 41 yX0_readWish ∈ w_ws := wq_s4 (i := 199) rfl rfl
set_option maxRecDepth 100000 in
theorem wd_1034 : Cond.instanceMethod yX0_readWish ∈ w_ws := wq_s4 (i := 201) rfl rfl
set_option maxRecDepth 100000 in
theorem wd_1035 : Cond.code yX0_readWish prog_2_method_5_code 7 (Option.some Jvm.ClassFile.FieldType.boolean) ∈ w_ws := wq_s4 (i := 202) rfl rfl
set_option maxRecDepth 100000 in
theorem wd_1036 : Cond.methodLink RX0 45 yX10_number ∈ w_ws := wq_s4 (i := 203) rfl rfl
set_option maxRecDepth 100000 in
theorem wd_1037 : Cond.methodLink RX0 49 yX10_isNumber ∈ w_ws := wq_s4 (i := 204) rfl rfl
set_option maxRecDepth 100000 in
theorem wd_1038 : Cond.instanceMethod yX10_isNumber ∈ w_ws := wq_s4 (i := 205) rfl rfl
set_option maxRecDepth 100000 in
theorem wd_1039 : Cond.selects RX10 yX10_isNumber yX10_isNumber ∈ w_ws := wq_s4 (i := 206) rfl rfl
set_option maxRecDepth 100000 in
theorem wd_1040 : Cond.code yX10_isNumber prog_12_method_18_code 2 (Option.some Jvm.ClassFile.FieldType.boolean) ∈ w_ws := wq_s4 (i := 207) rfl rfl
set_option maxRecDepth 100000 in
theorem wd_1041 : Cond.methodLink RX11 187 yX0_copyFrom ∈ w_ws := wq_s4 (i := 208) rfl rfl
set_option maxRecDepth 100000 in
theorem wd_1042 : Cond.instanceMethod yX0_copyFrom ∈ w_ws := wq_s4 (i := 209) rfl rfl
set_option maxRecDepth 100000 in
theorem wd_1043 : Cond.selects RX0 yX0_copyFrom yX0_copyFrom ∈ w_ws := wq_s4 (i := 210) rfl rfl
set_option maxRecDepth 100000 in
theorem wd_1044 : Cond.code yX0_copyFrom prog_2_method_6_code 2 (Option.none : Option Jvm.ClassFile.FieldType) ∈ w_ws := wq_s4 (i := 211) rfl rfl
set_option maxRecDepth 100000 in
theorem wd_1045 : Cond.methodLink RX0 52 ({ cls := "java/lang/System", name := "arraycopy", desc := "(Ljava/lang/Object;ILjava/lang/Object;II)V" } : MethodName) ∈ w_ws := wq_s4 (i := 212) rfl rfl
set_option maxRecDepth 100000 in
theorem wd_1046 : (Cond.arrayClass ClassFile.FieldType.byte) ∈ w_ws := wq_s4 (i := 213) rfl rfl
set_option maxRecDepth 100000 in
theorem wd_1047 : Cond.methodLink RL 59 yX11_fault ∈ w_ws := wq_s4 (i := 214) rfl rfl
set_option maxRecDepth 100000 in
theorem wd_1048 : Cond.instanceMethod yX11_fault ∈ w_ws := wq_s4 (i := 215) rfl rfl
set_option maxRecDepth 100000 in
theorem wd_1049 : Cond.selects RX11 yX11_fault yX11_fault ∈ w_ws := wq_s4 (i := 216) rfl rfl
set_option maxRecDepth 100000 in
theorem wd_1050 : Cond.code yX11_fault prog_1_method_12_code 2 (Option.some Jvm.ClassFile.FieldType.int) ∈ w_ws := wq_s4 (i := 217) rfl rfl
set_option maxRecDepth 100000 in
theorem wd_1051 : Cond.methodLink RL 63 yX11_song ∈ w_ws := wq_s4 (i := 218) rfl rfl
set_option maxRecDepth 100000 in
theorem wd_1052 : Cond.instanceMethod yX11_song ∈ w_ws := wq_s4 (i := 219) rfl rfl
set_option maxRecDepth 100000 in
theorem wd_1053 : Cond.selects RX11 yX11_song yX11_song ∈ w_ws := wq_s4 (i := 220) rfl rfl
set_option maxRecDepth 100000 in
theorem wd_1054 : Cond.code yX11_song prog_1_method_13_code 4 (Option.some Jvm.ClassFile.FieldType.int) ∈ w_ws := wq_s4 (i := 221) rfl rfl
set_option maxRecDepth 100000 in
theorem wd_1055 : Cond.methodLink RX11 197 yX7_hasSong ∈ w_ws := wq_s4 (i := 222) rfl rfl
set_option maxRecDepth 100000 in
theorem wd_1056 : Cond.methodLink RX11 200 yX7_sideOf ∈ w_ws := wq_s4 (i := 223) rfl rfl
set_option maxRecDepth 100000 in
theorem wd_1057 : Cond.methodLink RL 68 yX11_at ∈ w_ws := wq_s4 (i := 224) rfl rfl
set_option maxRecDepth 100000 in
theorem wd_1058 : Cond.instanceMethod yX11_at ∈ w_ws := wq_s4 (i := 225) rfl rfl
set_option maxRecDepth 100000 in
theorem wd_1059 : Cond.selects RX11 yX11_at yX11_at ∈ w_ws := wq_s4 (i := 226) rfl rfl
set_option maxRecDepth 100000 in
theorem wd_1060 : Cond.code yX11_at prog_1_method_14_code 3 (Option.some Jvm.ClassFile.FieldType.int) ∈ w_ws := wq_s4 (i := 227) rfl rfl
set_option maxRecDepth 100000 in
theorem wd_1061 : Cond.methodLink RX11 212 yX7_heardAt ∈ w_ws := wq_s4 (i := 228) rfl rfl
set_option maxRecDepth 100000 in
theorem wd_1062 : Cond.methodLink RL 72 yX11_after ∈ w_ws := wq_s4 (i := 229) rfl rfl
set_option maxRecDepth 100000 in
theorem wd_1063 : Cond.instanceMethod yX11_after ∈ w_ws := wq_s4 (i := 230) rfl rfl
set_option maxRecDepth 100000 in
theorem wd_1064 : Cond.selects RX11 yX11_after yX11_after ∈ w_ws := wq_s4 (i := 231) rfl rfl
set_option maxRecDepth 100000 in
theorem wd_1065 : Cond.code yX11_after prog_1_method_15_code 3 (Option.some Jvm.ClassFile.FieldType.int) ∈ w_ws := wq_s4 (i := 232) rfl rfl
set_option maxRecDepth 100000 in
theorem wd_1066 : Cond.methodLink RX11 216 yX0_wish ∈ w_ws := wq_s4 (i := 233) rfl rfl
set_option maxRecDepth 100000 in
theorem wd_1067 : Cond.instanceMethod yX0_wish ∈ w_ws := wq_s4 (i := 234) rfl rfl
set_option maxRecDepth 100000 in
theorem wd_1068 : Cond.selects RX0 yX0_wish yX0_wish ∈ w_ws := wq_s4 (i := 235) rfl rfl
set_option maxRecDepth 100000 in
theorem wd_1069 : Cond.code yX0_wish prog_2_method_2_code 4 (Option.some Jvm.ClassFile.FieldType.int) ∈ w_ws := wq_s4 (i := 236) rfl rfl
set_option maxRecDepth 100000 in
theorem wd_1070 : Cond.methodLink RL 76 yX11_known ∈ w_ws := wq_s4 (i := 237) rfl rfl
set_option maxRecDepth 100000 in
theorem wd_1071 : Cond.instanceMethod yX11_known ∈ w_ws := wq_s4 (i := 238) rfl rfl
set_option maxRecDepth 100000 in
theorem wd_1072 : Cond.selects RX11 yX11_known yX11_known ∈ w_ws := wq_s4 (i := 239) rfl rfl
set_option maxRecDepth 100000 in
theorem wd_1073 : Cond.code yX11_known prog_1_method_16_code 2 (Option.some Jvm.ClassFile.FieldType.int) ∈ w_ws := wq_s5 (i := 0) rfl rfl
set_option maxRecDepth 100000 in
theorem wd_1074 : Cond.methodLink RL 80 yX11_lawAt ∈ w_ws := wq_s5 (i := 1) rfl rfl
set_option maxRecDepth 100000 in
theorem wd_1075 : Cond.instanceMethod yX11_lawAt ∈ w_ws := wq_s5 (i := 2) rfl rfl
set_option maxRecDepth 100000 in
theorem wd_1076 : Cond.selects RX11 yX11_lawAt yX11_lawAt ∈ w_ws := wq_s5 (i := 3) rfl rfl
set_option maxRecDepth 100000 in
theorem wd_1077 : Cond.code yX11_lawAt prog_1_method_17_code 5 (Option.some Jvm.ClassFile.FieldType.int) ∈ w_ws := wq_s5 (i := 4) rfl rfl
set_option maxRecDepth 100000 in
theorem wd_1078 : Cond.methodLink RX11 222 yX11_canHold ∈ w_ws := wq_s5 (i := 5) rfl rfl
set_option maxRecDepth 100000 in
theorem wd_1079 : Cond.static yX11_canHold ∈ w_ws := wq_s5 (i := 6) rfl rfl
set_option maxRecDepth 100000 in
theorem wd_1080 : Cond.code yX11_canHold prog_1_method_37_code 1 (Option.some Jvm.ClassFile.FieldType.boolean) ∈ w_ws := wq_s5 (i := 7) rfl rfl
set_option maxRecDepth 100000 in
theorem wd_1081 : Cond.methodLink RX11 231 yX6_face ∈ w_ws := wq_s5 (i := 8) rfl rfl
set_option maxRecDepth 100000 in
theorem wd_1082 : Cond.methodLink RX11 235 yX6_press ∈ w_ws := wq_s5 (i := 9) rfl rfl
set_option maxRecDepth 100000 in
theorem wd_1083 : Cond.methodLink RX11 239 yX6_told ∈ w_ws := wq_s5 (i := 10) rfl rfl
set_option maxRecDepth 100000 in
theorem wd_1084 : Cond.methodLink RL 85 yX11_book ∈ w_ws := wq_s5 (i := 11) rfl rfl
set_option maxRecDepth 100000 in
theorem wd_1085 : Cond.instanceMethod yX11_book ∈ w_ws := wq_s5 (i := 12) rfl rfl
set_option maxRecDepth 100000 in
theorem wd_1086 : Cond.selects RX11 yX11_book yX11_book ∈ w_ws := wq_s5 (i := 13) rfl rfl
set_option maxRecDepth 100000 in
theorem wd_1087 : Cond.code yX11_book prog_1_method_18_code 3 (Option.some Jvm.ClassFile.FieldType.int) ∈ w_ws := wq_s5 (i := 14) rfl rfl
set_option maxRecDepth 100000 in
theorem wd_1088 : Cond.methodLink RX11 252 yX1_entry ∈ w_ws := wq_s5 (i := 15) rfl rfl
set_option maxRecDepth 100000 in
theorem wd_1089 : Cond.instanceMethod yX1_entry ∈ w_ws := wq_s5 (i := 16) rfl rfl
set_option maxRecDepth 100000 in
theorem wd_1090 : Cond.selects RX1 yX1_entry yX1_entry ∈ w_ws := wq_s5 (i := 17) rfl rfl
set_option maxRecDepth 100000 in
theorem wd_1091 : Cond.code yX1_entry prog_3_method_2_code 4 (Option.some Jvm.ClassFile.FieldType.int) ∈ w_ws := wq_s5 (i := 18) rfl rfl
set_option maxRecDepth 100000 in
theorem wd_1092 : Cond.methodLink RL 89 yX11_runs ∈ w_ws := wq_s5 (i := 19) rfl rfl
set_option maxRecDepth 100000 in
theorem wd_1093 : Cond.instanceMethod yX11_runs ∈ w_ws := wq_s5 (i := 20) rfl rfl
set_option maxRecDepth 100000 in
theorem wd_1094 : Cond.selects RX11 yX11_runs yX11_runs ∈ w_ws := wq_s5 (i := 21) rfl rfl
set_option maxRecDepth 100000 in
theorem wd_1095 : Cond.code yX11_runs prog_1_method_19_code 4 (Option.some Jvm.ClassFile.FieldType.int) ∈ w_ws := wq_s5 (i := 22) rfl rfl
set_option maxRecDepth 100000 in
theorem wd_1096 : Cond.methodLink RX11 255 yX6_reach ∈ w_ws := wq_s5 (i := 23) rfl rfl
set_option maxRecDepth 100000 in
theorem wd_1097 : Cond.methodLink RL 94 yX11_soonest ∈ w_ws := wq_s5 (i := 24) rfl rfl
set_option maxRecDepth 100000 in
theorem wd_1098 : Cond.instanceMethod yX11_soonest ∈ w_ws := wq_s5 (i := 25) rfl rfl
set_option maxRecDepth 100000 in
theorem wd_1099 : Cond.selects RX11 yX11_soonest yX11_soonest ∈ w_ws := wq_s5 (i := 26) rfl rfl
set_option maxRecDepth 100000 in
theorem wd_1100 : Cond.code yX11_soonest prog_1_method_20_code 5 (Option.some Jvm.ClassFile.FieldType.int) ∈ w_ws := wq_s5 (i := 27) rfl rfl
set_option maxRecDepth 100000 in
theorem wd_1101 : Cond.methodLink RX11 259 yX7_hasSongOn ∈ w_ws := wq_s5 (i := 28) rfl rfl
set_option maxRecDepth 100000 in
theorem wd_1102 : Cond.instanceMethod yX7_hasSongOn ∈ w_ws := wq_s5 (i := 29) rfl rfl
set_option maxRecDepth 100000 in
theorem wd_1103 : Cond.selects RX7 yX7_hasSongOn yX7_hasSongOn ∈ w_ws := wq_s5 (i := 30) rfl rfl
set_option maxRecDepth 100000 in
theorem wd_1104 : Cond.code yX7_hasSongOn prog_9_method_5_code 3 (Option.some Jvm.ClassFile.FieldType.boolean) ∈ w_ws := wq_s5 (i := 31) rfl rfl
set_option maxRecDepth 100000 in
theorem wd_1105 : Cond.methodLink RX7 42 yX7_firstOn ∈ w_ws := wq_s5 (i := 32) rfl rfl
set_option maxRecDepth 100000 in
theorem wd_1106 : Cond.instanceMethod yX7_firstOn ∈ w_ws := wq_s5 (i := 33) rfl rfl
set_option maxRecDepth 100000 in
theorem wd_1107 : Cond.selects RX7 yX7_firstOn yX7_firstOn ∈ w_ws := wq_s5 (i := 34) rfl rfl
set_option maxRecDepth 100000 in
theorem wd_1108 : Cond.code yX7_firstOn prog_9_method_6_code 2 (Option.some Jvm.ClassFile.FieldType.int) ∈ w_ws := wq_s5 (i := 35) rfl rfl
set_option maxRecDepth 100000 in
theorem wd_1109 : Cond.methodLink RX7 46 yX7_songsOn ∈ w_ws := wq_s5 (i := 36) rfl rfl
set_option maxRecDepth 100000 in
theorem wd_1110 : Cond.instanceMethod yX7_songsOn ∈ w_ws := wq_s5 (i := 37) rfl rfl
set_option maxRecDepth 100000 in
theorem wd_1111 : Cond.selects RX7 yX7_songsOn yX7_songsOn ∈ w_ws := wq_s5 (i := 38) rfl rfl
set_option maxRecDepth 100000 in
theorem wd_1112 : Cond.code yX7_songsOn prog_9_method_7_code 2 (Option.some Jvm.ClassFile.FieldType.int) ∈ w_ws := wq_s5 (i := 39) rfl rfl
set_option maxRecDepth 100000 in
theorem wd_1113 : Cond.methodLink RX11 263 yX9_gather ∈ w_ws := wq_s5 (i := 40) rfl rfl
set_option maxRecDepth 100000 in
theorem wd_1114 : Cond.instanceMethod yX9_gather ∈ w_ws := wq_s5 (i := 41) rfl rfl
set_option maxRecDepth 100000 in
theorem wd_1115 : Cond.selects RX9 yX9_gather yX9_gather ∈ w_ws := wq_s5 (i := 42) rfl rfl
set_option maxRecDepth 100000 in
theorem wd_1116 : Cond.code yX9_gather prog_11_method_2_code 6 (Option.none : Option Jvm.ClassFile.FieldType) ∈ w_ws := wq_s5 (i := 43) rfl rfl
set_option maxRecDepth 100000 in
theorem wd_1117 : Cond.methodLink RX9 39 yX6_face ∈ w_ws := wq_s5 (i := 44) rfl rfl
set_option maxRecDepth 100000 in
theorem wd_1118 : Cond.methodLink RX9 45 yX6_press ∈ w_ws := wq_s5 (i := 45) rfl rfl
set_option maxRecDepth 100000 in
theorem wd_1119 : Cond.methodLink RX9 49 yX6_reach ∈ w_ws := wq_s5 (i := 46) rfl rfl
set_option maxRecDepth 100000 in
theorem wd_1120 : Cond.methodLink RX11 267 yX9_seek ∈ w_ws := wq_s5 (i := 47) rfl rfl
set_option maxRecDepth 100000 in
theorem wd_1121 : Cond.instanceMethod yX9_seek ∈ w_ws := wq_s5 (i := 48) rfl rfl
set_option maxRecDepth 100000 in
theorem wd_1122 : Cond.selects RX9 yX9_seek yX9_seek ∈ w_ws := wq_s5 (i := 49) rfl rfl
set_option maxRecDepth 100000 in
theorem wd_1123 : Cond.code yX9_seek prog_11_method_6_code 4 (Option.none : Option Jvm.ClassFile.FieldType) ∈ w_ws := wq_s5 (i := 50) rfl rfl
set_option maxRecDepth 100000 in
theorem wd_1124 : (Cond.constant "WoundTape$Thought" (76 : Nat) (1000000000 : Int32)) ∈ w_ws := wq_s5 (i := 51) rfl rfl
set_option maxRecDepth 100000 in
theorem wd_1125 : Cond.methodLink RX9 80 yX9_playingSum ∈ w_ws := wq_s5 (i := 52) rfl rfl
set_option maxRecDepth 100000 in
theorem wd_1127 : Cond.instanceMethod yX9_playingSum ∈ w_ws := wq_s5 (i := 54) rfl rfl
set_option maxRecDepth 100000 in
theorem wd_1128 : Cond.code yX9_playingSum prog_11_method_5_code 3 (Option.some Jvm.ClassFile.FieldType.int) ∈ w_ws := wq_s5 (i := 55) rfl rfl
set_option maxRecDepth 100000 in
theorem wd_1129 : Cond.methodLink RX9 72 yX2_thumbs ∈ w_ws := wq_s5 (i := 56) rfl rfl
set_option maxRecDepth 100000 in
theorem wd_1130 : Cond.methodLink RX9 83 yX9_keep ∈ w_ws := wq_s5 (i := 57) rfl rfl
set_option maxRecDepth 100000 in
theorem wd_1132 : Cond.instanceMethod yX9_keep ∈ w_ws := wq_s5 (i := 59) rfl rfl
set_option maxRecDepth 100000 in
theorem wd_1133 : Cond.code yX9_keep prog_11_method_7_code 5 (Option.none : Option Jvm.ClassFile.FieldType) ∈ w_ws := wq_s5 (i := 60) rfl rfl
set_option maxRecDepth 100000 in
theorem wd_1134 : Cond.methodLink RX9 87 yX9_windingSum ∈ w_ws := wq_s5 (i := 61) rfl rfl
set_option maxRecDepth 100000 in
theorem wd_1136 : Cond.instanceMethod yX9_windingSum ∈ w_ws := wq_s5 (i := 63) rfl rfl
set_option maxRecDepth 100000 in
theorem wd_1137 : Cond.code yX9_windingSum prog_11_method_4_code 9 (Option.some Jvm.ClassFile.FieldType.int) ∈ w_ws := wq_s5 (i := 64) rfl rfl
set_option maxRecDepth 100000 in
theorem wd_1138 : Cond.methodLink RX9 59 yJ9_max_7cf53 ∈ w_ws := wq_s5 (i := 65) rfl rfl
set_option maxRecDepth 100000 in
theorem wd_1139 : Cond.methodLink RX9 65 yX9_ending ∈ w_ws := wq_s5 (i := 66) rfl rfl
set_option maxRecDepth 100000 in
theorem wd_1141 : Cond.instanceMethod yX9_ending ∈ w_ws := wq_s5 (i := 68) rfl rfl
set_option maxRecDepth 100000 in
theorem wd_1142 : Cond.code yX9_ending prog_11_method_3_code 4 (Option.some Jvm.ClassFile.FieldType.int) ∈ w_ws := wq_s5 (i := 69) rfl rfl
set_option maxRecDepth 100000 in
theorem wd_1143 : Cond.methodLink RX9 53 yJ9_min_7cf53 ∈ w_ws := wq_s5 (i := 70) rfl rfl
set_option maxRecDepth 100000 in
theorem wd_1144 : Cond.methodLink RX11 271 yX9_found ∈ w_ws := wq_s5 (i := 71) rfl rfl
set_option maxRecDepth 100000 in
theorem wd_1145 : Cond.instanceMethod yX9_found ∈ w_ws := wq_s5 (i := 72) rfl rfl
set_option maxRecDepth 100000 in
theorem wd_1146 : Cond.selects RX9 yX9_found yX9_found ∈ w_ws := wq_s5 (i := 73) rfl rfl
set_option maxRecDepth 100000 in
theorem wd_1147 : Cond.code yX9_found prog_11_method_8_code 3 (Option.some Jvm.ClassFile.FieldType.int) ∈ w_ws := wq_s5 (i := 74) rfl rfl
set_option maxRecDepth 100000 in
theorem wd_1148 : Cond.methodLink RL 99 yX11_turned ∈ w_ws := wq_s5 (i := 75) rfl rfl
set_option maxRecDepth 100000 in
theorem wd_1149 : Cond.instanceMethod yX11_turned ∈ w_ws := wq_s5 (i := 76) rfl rfl
set_option maxRecDepth 100000 in
theorem wd_1150 : Cond.selects RX11 yX11_turned yX11_turned ∈ w_ws := wq_s5 (i := 77) rfl rfl
set_option maxRecDepth 100000 in
theorem wd_1151 : Cond.code yX11_turned prog_1_method_21_code 4 (Option.some Jvm.ClassFile.FieldType.int) ∈ w_ws := wq_s5 (i := 78) rfl rfl
set_option maxRecDepth 100000 in
theorem wd_1152 : Cond.methodLink RX11 277 yX2_thumbs ∈ w_ws := wq_s5 (i := 79) rfl rfl
set_option maxRecDepth 100000 in
theorem wd_1153 : Cond.methodLink RL 103 yX11_unsure ∈ w_ws := wq_s5 (i := 80) rfl rfl
set_option maxRecDepth 100000 in
theorem wd_1154 : Cond.instanceMethod yX11_unsure ∈ w_ws := wq_s5 (i := 81) rfl rfl
set_option maxRecDepth 100000 in
theorem wd_1155 : Cond.selects RX11 yX11_unsure yX11_unsure ∈ w_ws := wq_s5 (i := 82) rfl rfl
set_option maxRecDepth 100000 in
theorem wd_1156 : Cond.code yX11_unsure prog_1_method_22_code 2 (Option.some Jvm.ClassFile.FieldType.int) ∈ w_ws := wq_s5 (i := 83) rfl rfl
set_option maxRecDepth 100000 in
theorem wd_1157 : Cond.methodLink RX11 281 yX2_countKnown ∈ w_ws := wq_s5 (i := 84) rfl rfl
set_option maxRecDepth 100000 in
theorem wd_1158 : Cond.instanceMethod yX2_countKnown ∈ w_ws := wq_s5 (i := 85) rfl rfl
set_option maxRecDepth 100000 in
theorem wd_1159 : Cond.selects RX2 yX2_countKnown yX2_countKnown ∈ w_ws := wq_s5 (i := 86) rfl rfl
set_option maxRecDepth 100000 in
theorem wd_1160 : Cond.code yX2_countKnown prog_4_method_9_code 3 (Option.some Jvm.ClassFile.FieldType.int) ∈ w_ws := wq_s5 (i := 87) rfl rfl
set_option maxRecDepth 100000 in
theorem wd_1161 : Cond.methodLink RX11 284 yX2_songsNext ∈ w_ws := wq_s5 (i := 88) rfl rfl
set_option maxRecDepth 100000 in
theorem wd_1162 : Cond.instanceMethod yX2_songsNext ∈ w_ws := wq_s5 (i := 89) rfl rfl
set_option maxRecDepth 100000 in
theorem wd_1163 : Cond.selects RX2 yX2_songsNext yX2_songsNext ∈ w_ws := wq_s5 (i := 90) rfl rfl
set_option maxRecDepth 100000 in
theorem wd_1164 : Cond.code yX2_songsNext prog_4_method_11_code 4 (Option.some Jvm.ClassFile.FieldType.int) ∈ w_ws := wq_s5 (i := 91) rfl rfl
set_option maxRecDepth 100000 in
theorem wd_1165 : Cond.methodLink RX2 163 yX7_hasSong ∈ w_ws := wq_s5 (i := 92) rfl rfl
set_option maxRecDepth 100000 in
theorem wd_1166 : Cond.methodLink RX11 287 yX2_mayHear ∈ w_ws := wq_s5 (i := 93) rfl rfl
set_option maxRecDepth 100000 in
theorem wd_1167 : Cond.instanceMethod yX2_mayHear ∈ w_ws := wq_s5 (i := 94) rfl rfl
set_option maxRecDepth 100000 in
theorem wd_1168 : Cond.selects RX2 yX2_mayHear yX2_mayHear ∈ w_ws := wq_s5 (i := 95) rfl rfl
set_option maxRecDepth 100000 in
theorem wd_1169 : Cond.code yX2_mayHear prog_4_method_10_code 3 (Option.some Jvm.ClassFile.FieldType.boolean) ∈ w_ws := wq_s5 (i := 96) rfl rfl
set_option maxRecDepth 100000 in
theorem wd_1170 : Cond.methodLink RL 107 yX11_tells ∈ w_ws := wq_s5 (i := 97) rfl rfl
set_option maxRecDepth 100000 in
theorem wd_1171 : Cond.instanceMethod yX11_tells ∈ w_ws := wq_s5 (i := 98) rfl rfl
set_option maxRecDepth 100000 in
theorem wd_1172 : Cond.selects RX11 yX11_tells yX11_tells ∈ w_ws := wq_s5 (i := 99) rfl rfl
set_option maxRecDepth 100000 in
theorem wd_1173 : Cond.code yX11_tells prog_1_method_23_code 2 (Option.some Jvm.ClassFile.FieldType.int) ∈ w_ws := wq_s5 (i := 100) rfl rfl
set_option maxRecDepth 100000 in
theorem wd_1174 : Cond.methodLink RX11 290 yX9_tally ∈ w_ws := wq_s5 (i := 101) rfl rfl
set_option maxRecDepth 100000 in
theorem wd_1175 : Cond.instanceMethod yX9_tally ∈ w_ws := wq_s5 (i := 102) rfl rfl
set_option maxRecDepth 100000 in
theorem wd_1176 : Cond.selects RX9 yX9_tally yX9_tally ∈ w_ws := wq_s5 (i := 103) rfl rfl
set_option maxRecDepth 100000 in
theorem wd_1177 : Cond.code yX9_tally prog_11_method_15_code 5 (Option.none : Option Jvm.ClassFile.FieldType) ∈ w_ws := wq_s5 (i := 104) rfl rfl
set_option maxRecDepth 100000 in
theorem wd_1178 : Cond.methodLink RX9 136 yJ7_fill_53178 ∈ w_ws := wq_s5 (i := 105) rfl rfl
set_option maxRecDepth 100000 in
theorem wd_1179 : Cond.methodLink RX9 142 yX9_tallyRow ∈ w_ws := wq_s5 (i := 106) rfl rfl
set_option maxRecDepth 100000 in
theorem wd_1180 : Cond.static yX9_tallyRow ∈ w_ws := wq_s5 (i := 107) rfl rfl
set_option maxRecDepth 100000 in
theorem wd_1181 : Cond.code yX9_tallyRow prog_11_method_14_code 2 (Option.some Jvm.ClassFile.FieldType.int) ∈ w_ws := wq_s5 (i := 108) rfl rfl
set_option maxRecDepth 100000 in
theorem wd_1182 : Cond.methodLink RX9 145 yX9_tallyEnds ∈ w_ws := wq_s5 (i := 109) rfl rfl
set_option maxRecDepth 100000 in
theorem wd_1184 : Cond.instanceMethod yX9_tallyEnds ∈ w_ws := wq_s5 (i := 111) rfl rfl
set_option maxRecDepth 100000 in
theorem wd_1185 : Cond.code yX9_tallyEnds prog_11_method_16_code 7 (Option.none : Option Jvm.ClassFile.FieldType) ∈ w_ws := wq_s5 (i := 112) rfl rfl
set_option maxRecDepth 100000 in
theorem wd_1186 : Cond.methodLink RX9 155 yX7_heardAt ∈ w_ws := wq_s5 (i := 113) rfl rfl
set_option maxRecDepth 100000 in
theorem wd_1187 : Cond.methodLink RX11 294 yX9_findTelling ∈ w_ws := wq_s5 (i := 114) rfl rfl
set_option maxRecDepth 100000 in
theorem wd_1188 : Cond.instanceMethod yX9_findTelling ∈ w_ws := wq_s5 (i := 115) rfl rfl
set_option maxRecDepth 100000 in
theorem wd_1189 : Cond.selects RX9 yX9_findTelling yX9_findTelling ∈ w_ws := wq_s5 (i := 116) rfl rfl
set_option maxRecDepth 100000 in
theorem wd_1190 : Cond.code yX9_findTelling prog_11_method_13_code 3 (Option.none : Option Jvm.ClassFile.FieldType) ∈ w_ws := wq_s5 (i := 117) rfl rfl
set_option maxRecDepth 100000 in
theorem wd_1191 : Cond.methodLink RX9 133 yX9_greatest ∈ w_ws := wq_s5 (i := 118) rfl rfl
set_option maxRecDepth 100000 in
theorem wd_1193 : Cond.instanceMethod yX9_greatest ∈ w_ws := wq_s5 (i := 120) rfl rfl
set_option maxRecDepth 100000 in
theorem wd_1194 : Cond.code yX9_greatest prog_11_method_17_code 9 (Option.some Jvm.ClassFile.FieldType.int) ∈ w_ws := wq_s5 (i := 121) rfl rfl
set_option maxRecDepth 100000 in
theorem wd_1195 : Cond.methodLink RL 111 yX11_card ∈ w_ws := wq_s5 (i := 122) rfl rfl
set_option maxRecDepth 100000 in
theorem wd_1196 : Cond.instanceMethod yX11_card ∈ w_ws := wq_s5 (i := 123) rfl rfl
set_option maxRecDepth 100000 in
theorem wd_1197 : Cond.selects RX11 yX11_card yX11_card ∈ w_ws := wq_s5 (i := 124) rfl rfl
set_option maxRecDepth 100000 in
theorem wd_1198 : Cond.code yX11_card prog_1_method_24_code 3 (Option.some Jvm.ClassFile.FieldType.int) ∈ w_ws := wq_s5 (i := 125) rfl rfl
set_option maxRecDepth 100000 in
theorem wd_1199 : Cond.methodLink RX11 307 yX5_mark ∈ w_ws := wq_s5 (i := 126) rfl rfl
set_option maxRecDepth 100000 in
theorem wd_1200 : Cond.instanceMethod yX5_mark ∈ w_ws := wq_s5 (i := 127) rfl rfl
set_option maxRecDepth 100000 in
theorem wd_1201 : Cond.selects RX5 yX5_mark yX5_mark ∈ w_ws := wq_s5 (i := 128) rfl rfl
set_option maxRecDepth 100000 in
theorem wd_1202 : Cond.code yX5_mark prog_7_method_2_code 7 (Option.none : Option Jvm.ClassFile.FieldType) ∈ w_ws := wq_s5 (i := 129) rfl rfl
set_option maxRecDepth 100000 in
theorem wd_1203 : Cond.methodLink RX5 21 yX7_songsOn ∈ w_ws := wq_s5 (i := 130) rfl rfl
set_option maxRecDepth 100000 in
theorem wd_1204 : Cond.methodLink RX5 27 yJ9_min_7cf53 ∈ w_ws := wq_s5 (i := 131) rfl rfl
set_option maxRecDepth 100000 in
theorem wd_1205 : (Cond.constant "WoundTape$Plans" (33 : Nat) (1000000000 : Int32)) ∈ w_ws := wq_s5 (i := 132) rfl rfl
set_option maxRecDepth 100000 in
theorem wd_1206 : Cond.methodLink RX5 41 yJ6_bitCount_0f7a4 ∈ w_ws := wq_s5 (i := 133) rfl rfl
set_option maxRecDepth 100000 in
theorem wd_1207 : Cond.static yJ6_bitCount_0f7a4 ∈ w_ws := wq_s5 (i := 134) rfl rfl
set_option maxRecDepth 100000 in
theorem wd_1208 : Cond.code yJ6_bitCount_0f7a4 prog_16_method_49_code 1 (Option.some Jvm.ClassFile.FieldType.int) ∈ w_ws := wq_s5 (i := 135) rfl rfl
set_option maxRecDepth 100000 in
theorem wd_1209 : (Cond.constant "java/lang/Integer" (265 : Nat) (1431655765 : Int32)) ∈ w_ws := wq_s5 (i := 136) rfl rfl
set_option maxRecDepth 100000 in
theorem wd_1210 : (Cond.constant "java/lang/Integer" (266 : Nat) (858993459 : Int32)) ∈ w_ws := wq_s5 (i := 137) rfl rfl
set_option maxRecDepth 100000 in
theorem wd_1211 : (Cond.constant "java/lang/Integer" (267 : Nat) (252645135 : Int32)) ∈ w_ws := wq_s5 (i := 138) rfl rfl
set_option maxRecDepth 100000 in
theorem wd_1212 : Cond.methodLink RX5 46 yX5_playedFromMarks ∈ w_ws := wq_s5 (i := 139) rfl rfl
set_option maxRecDepth 100000 in
theorem wd_1213 : Cond.static yX5_playedFromMarks ∈ w_ws := wq_s5 (i := 140) rfl rfl
set_option maxRecDepth 100000 in
theorem wd_1214 : Cond.code yX5_playedFromMarks prog_7_method_3_code 5 (Option.some Jvm.ClassFile.FieldType.int) ∈ w_ws := wq_s5 (i := 141) rfl rfl
set_option maxRecDepth 100000 in
theorem wd_1215 : Cond.methodLink RL 115 yX11_order ∈ w_ws := wq_s5 (i := 142) rfl rfl
set_option maxRecDepth 100000 in
theorem wd_1216 : Cond.instanceMethod yX11_order ∈ w_ws := wq_s5 (i := 143) rfl rfl
set_option maxRecDepth 100000 in
theorem wd_1217 : Cond.selects RX11 yX11_order yX11_order ∈ w_ws := wq_s5 (i := 144) rfl rfl
set_option maxRecDepth 100000 in
theorem wd_1218 : Cond.code yX11_order prog_1_method_25_code 4 (Option.some Jvm.ClassFile.FieldType.int) ∈ w_ws := wq_s5 (i := 145) rfl rfl
set_option maxRecDepth 100000 in
theorem wd_1219 : Cond.methodLink RX11 317 yX7_songsOn ∈ w_ws := wq_s5 (i := 146) rfl rfl
set_option maxRecDepth 100000 in
theorem wd_1220 : Cond.methodLink RX11 320 yX5_arrange ∈ w_ws := wq_s5 (i := 147) rfl rfl
set_option maxRecDepth 100000 in
theorem wd_1221 : Cond.instanceMethod yX5_arrange ∈ w_ws := wq_s5 (i := 148) rfl rfl
set_option maxRecDepth 100000 in
theorem wd_1222 : Cond.selects RX5 yX5_arrange yX5_arrange ∈ w_ws := wq_s5 (i := 149) rfl rfl
set_option maxRecDepth 100000 in
theorem wd_1223 : Cond.code yX5_arrange prog_7_method_4_code 8 (Option.none : Option Jvm.ClassFile.FieldType) ∈ w_ws := wq_s5 (i := 150) rfl rfl
set_option maxRecDepth 100000 in
theorem wd_1224 : Cond.methodLink RX5 71 yX7_firstOn ∈ w_ws := wq_s5 (i := 151) rfl rfl
set_option maxRecDepth 100000 in
theorem wd_1225 : Cond.methodLink RX5 74 yX5_crossed ∈ w_ws := wq_s5 (i := 152) rfl rfl
set_option maxRecDepth 100000 in
theorem wd_1226 : Cond.static yX5_crossed ∈ w_ws := wq_s5 (i := 153) rfl rfl
set_option maxRecDepth 100000 in
theorem wd_1227 : Cond.code yX5_crossed prog_7_method_5_code 12 (Option.some Jvm.ClassFile.FieldType.int) ∈ w_ws := wq_s5 (i := 154) rfl rfl
set_option maxRecDepth 100000 in
theorem wd_1228 : Cond.methodLink RX5 82 yX0_wish ∈ w_ws := wq_s5 (i := 155) rfl rfl
set_option maxRecDepth 100000 in
theorem wd_1229 : Cond.methodLink RX11 323 yX5_orderedSong ∈ w_ws := wq_s5 (i := 156) rfl rfl
set_option maxRecDepth 100000 in
theorem wd_1230 : Cond.instanceMethod yX5_orderedSong ∈ w_ws := wq_s5 (i := 157) rfl rfl
set_option maxRecDepth 100000 in
theorem wd_1231 : Cond.selects RX5 yX5_orderedSong yX5_orderedSong ∈ w_ws := wq_s5 (i := 158) rfl rfl
set_option maxRecDepth 100000 in
theorem wd_1232 : Cond.code yX5_orderedSong prog_7_method_6_code 2 (Option.some Jvm.ClassFile.FieldType.int) ∈ w_ws := wq_s5 (i := 159) rfl rfl
set_option maxRecDepth 100000 in
theorem wd_1233 : Cond.methodLink RL 119 yX11_halves ∈ w_ws := wq_s5 (i := 160) rfl rfl
set_option maxRecDepth 100000 in
theorem wd_1234 : Cond.instanceMethod yX11_halves ∈ w_ws := wq_s5 (i := 161) rfl rfl
set_option maxRecDepth 100000 in
theorem wd_1235 : Cond.selects RX11 yX11_halves yX11_halves ∈ w_ws := wq_s5 (i := 162) rfl rfl
set_option maxRecDepth 100000 in
theorem wd_1236 : Cond.code yX11_halves prog_1_method_26_code 2 (Option.some Jvm.ClassFile.FieldType.int) ∈ w_ws := wq_s5 (i := 163) rfl rfl
set_option maxRecDepth 100000 in
theorem wd_1237 : Cond.methodLink RX11 326 yX5_halve ∈ w_ws := wq_s5 (i := 164) rfl rfl
set_option maxRecDepth 100000 in
theorem wd_1238 : Cond.instanceMethod yX5_halve ∈ w_ws := wq_s5 (i := 165) rfl rfl
set_option maxRecDepth 100000 in
theorem wd_1239 : Cond.selects RX5 yX5_halve yX5_halve ∈ w_ws := wq_s5 (i := 166) rfl rfl
set_option maxRecDepth 100000 in
theorem wd_1240 : Cond.code yX5_halve prog_7_method_7_code 6 (Option.some Jvm.ClassFile.FieldType.boolean) ∈ w_ws := wq_s5 (i := 167) rfl rfl
set_option maxRecDepth 100000 in
theorem wd_1241 : Cond.methodLink RX5 92 yJ9_abs_0f7a4 ∈ w_ws := wq_s5 (i := 168) rfl rfl
set_option maxRecDepth 100000 in
theorem wd_1242 : Cond.static yJ9_abs_0f7a4 ∈ w_ws := wq_s5 (i := 169) rfl rfl
set_option maxRecDepth 100000 in
theorem wd_1243 : Cond.code yJ9_abs_0f7a4 prog_17_method_59_code 1 (Option.some Jvm.ClassFile.FieldType.int) ∈ w_ws := wq_s5 (i := 170) rfl rfl
set_option maxRecDepth 100000 in
theorem wd_1244 : Cond.methodLink RL 123 yX11_worn ∈ w_ws := wq_s5 (i := 171) rfl rfl
set_option maxRecDepth 100000 in
theorem wd_1245 : Cond.instanceMethod yX11_worn ∈ w_ws := wq_s5 (i := 172) rfl rfl
set_option maxRecDepth 100000 in
theorem wd_1246 : Cond.selects RX11 yX11_worn yX11_worn ∈ w_ws := wq_s5 (i := 173) rfl rfl
set_option maxRecDepth 100000 in
theorem wd_1247 : Cond.code yX11_worn prog_1_method_27_code 3 (Option.some Jvm.ClassFile.FieldType.int) ∈ w_ws := wq_s5 (i := 174) rfl rfl
set_option maxRecDepth 100000 in
theorem wd_1248 : Cond.methodLink RX11 333 yX2_wearAt ∈ w_ws := wq_s5 (i := 175) rfl rfl
set_option maxRecDepth 100000 in
theorem wd_1249 : Cond.instanceMethod yX2_wearAt ∈ w_ws := wq_s5 (i := 176) rfl rfl
set_option maxRecDepth 100000 in
theorem wd_1250 : Cond.selects RX2 yX2_wearAt yX2_wearAt ∈ w_ws := wq_s5 (i := 177) rfl rfl
set_option maxRecDepth 100000 in
theorem wd_1251 : Cond.code yX2_wearAt prog_4_method_12_code 3 (Option.some Jvm.ClassFile.FieldType.boolean) ∈ w_ws := wq_s5 (i := 178) rfl rfl
set_option maxRecDepth 100000 in
theorem wd_1252 : Cond.methodLink RL 127 yX11_sought ∈ w_ws := wq_s5 (i := 179) rfl rfl
set_option maxRecDepth 100000 in
theorem wd_1253 : Cond.instanceMethod yX11_sought ∈ w_ws := wq_s5 (i := 180) rfl rfl
set_option maxRecDepth 100000 in
theorem wd_1254 : Cond.selects RX11 yX11_sought yX11_sought ∈ w_ws := wq_s5 (i := 181) rfl rfl
set_option maxRecDepth 100000 in
theorem wd_1255 : Cond.code yX11_sought prog_1_method_28_code 2 (Option.some Jvm.ClassFile.FieldType.int) ∈ w_ws := wq_s5 (i := 182) rfl rfl
set_option maxRecDepth 100000 in
theorem wd_1256 : Cond.methodLink RX11 336 yX2_wearNear ∈ w_ws := wq_s5 (i := 183) rfl rfl
set_option maxRecDepth 100000 in
theorem wd_1257 : Cond.instanceMethod yX2_wearNear ∈ w_ws := wq_s5 (i := 184) rfl rfl
set_option maxRecDepth 100000 in
theorem wd_1258 : Cond.selects RX2 yX2_wearNear yX2_wearNear ∈ w_ws := wq_s5 (i := 185) rfl rfl
set_option maxRecDepth 100000 in
theorem wd_1259 : Cond.code yX2_wearNear prog_4_method_13_code 4 (Option.some Jvm.ClassFile.FieldType.int) ∈ w_ws := wq_s5 (i := 186) rfl rfl
set_option maxRecDepth 100000 in
theorem wd_1260 : Cond.methodLink RX2 169 yJ9_abs_0f7a4 ∈ w_ws := wq_s5 (i := 187) rfl rfl
set_option maxRecDepth 100000 in
theorem wd_1261 : Cond.methodLink RL 131 yX11_most ∈ w_ws := wq_s5 (i := 188) rfl rfl
set_option maxRecDepth 100000 in
theorem wd_1262 : Cond.instanceMethod yX11_most ∈ w_ws := wq_s5 (i := 189) rfl rfl
set_option maxRecDepth 100000 in
theorem wd_1263 : Cond.selects RX11 yX11_most yX11_most ∈ w_ws := wq_s5 (i := 190) rfl rfl
set_option maxRecDepth 100000 in
theorem wd_1264 : Cond.code yX11_most prog_1_method_29_code 1 (Option.some Jvm.ClassFile.FieldType.int) ∈ w_ws := wq_s5 (i := 191) rfl rfl
set_option maxRecDepth 100000 in
theorem wd_1265 : Cond.methodLink RX11 339 yX2_mostSought ∈ w_ws := wq_s5 (i := 192) rfl rfl
set_option maxRecDepth 100000 in
theorem wd_1266 : Cond.instanceMethod yX2_mostSought ∈ w_ws := wq_s5 (i := 193) rfl rfl
set_option maxRecDepth 100000 in
theorem wd_1267 : Cond.selects RX2 yX2_mostSought yX2_mostSought ∈ w_ws := wq_s5 (i := 194) rfl rfl
set_option maxRecDepth 100000 in
theorem wd_1268 : Cond.code yX2_mostSought prog_4_method_14_code 6 (Option.some Jvm.ClassFile.FieldType.int) ∈ w_ws := wq_s5 (i := 195) rfl rfl
set_option maxRecDepth 100000 in
theorem wd_1269 : Cond.methodLink RX2 172 yX7_firstOn ∈ w_ws := wq_s5 (i := 196) rfl rfl
set_option maxRecDepth 100000 in
theorem wd_1270 : Cond.methodLink RX2 175 yX7_songsOn ∈ w_ws := wq_s5 (i := 197) rfl rfl
set_option maxRecDepth 100000 in
theorem wd_1271 : Cond.methodLink RX2 181 yX2_wearNear ∈ w_ws := wq_s5 (i := 198) rfl rfl
set_option maxRecDepth 100000 in
theorem wd_1272 : Cond.methodLink RL 135 yX11_rule ∈ w_ws := wq_s5 (i := 199) rfl rfl
set_option maxRecDepth 100000 in
theorem wd_1273 : Cond.instanceMethod yX11_rule ∈ w_ws := wq_s5 (i := 200) rfl rfl
set_option maxRecDepth 100000 in
theorem wd_1274 : Cond.selects RX11 yX11_rule yX11_rule ∈ w_ws := wq_s5 (i := 201) rfl rfl
set_option maxRecDepth 100000 in
theorem wd_1275 : Cond.code yX11_rule prog_1_method_30_code 2 (Option.some Jvm.ClassFile.FieldType.long) ∈ w_ws := wq_s5 (i := 202) rfl rfl
set_option maxRecDepth 100000 in
theorem wd_1276 : (Cond.constantLong "WoundTape" (342 : Nat) (-1 : Int64)) ∈ w_ws := wq_s5 (i := 203) rfl rfl
set_option maxRecDepth 100000 in
theorem wd_1277 : Cond.methodLink RX11 344 yX9_cost ∈ w_ws := wq_s5 (i := 204) rfl rfl
set_option maxRecDepth 100000 in
theorem wd_1278 : Cond.instanceMethod yX9_cost ∈ w_ws := wq_s5 (i := 205) rfl rfl
set_option maxRecDepth 100000 in
theorem wd_1279 : Cond.selects RX9 yX9_cost yX9_cost ∈ w_ws := wq_s5 (i := 206) rfl rfl
set_option maxRecDepth 100000 in
theorem wd_1280 : Cond.code yX9_cost prog_11_method_9_code 7 (Option.some Jvm.ClassFile.FieldType.long) ∈ w_ws := wq_s5 (i := 207) rfl rfl
set_option maxRecDepth 100000 in
theorem wd_1281 : Cond.methodLink RX9 107 yX7_firstOn ∈ w_ws := wq_s5 (i := 208) rfl rfl
set_option maxRecDepth 100000 in
theorem wd_1282 : Cond.methodLink RX9 113 yX7_songsOn ∈ w_ws := wq_s5 (i := 209) rfl rfl
set_option maxRecDepth 100000 in
theorem wd_1283 : Cond.methodLink RX9 122 yX9_ruledSum ∈ w_ws := wq_s5 (i := 210) rfl rfl
set_option maxRecDepth 100000 in
theorem wd_1285 : Cond.instanceMethod yX9_ruledSum ∈ w_ws := wq_s5 (i := 212) rfl rfl
set_option maxRecDepth 100000 in
theorem wd_1286 : Cond.code yX9_ruledSum prog_11_method_10_code 5 (Option.some Jvm.ClassFile.FieldType.int) ∈ w_ws := wq_s5 (i := 213) rfl rfl
set_option maxRecDepth 100000 in
theorem wd_1287 : Cond.methodLink RX9 126 yX9_leastHold ∈ w_ws := wq_s5 (i := 214) rfl rfl
set_option maxRecDepth 100000 in
theorem wd_1289 : Cond.instanceMethod yX9_leastHold ∈ w_ws := wq_s5 (i := 216) rfl rfl
set_option maxRecDepth 100000 in
theorem wd_1290 : Cond.code yX9_leastHold prog_11_method_11_code 4 (Option.some Jvm.ClassFile.FieldType.int) ∈ w_ws := wq_s5 (i := 217) rfl rfl
set_option maxRecDepth 100000 in
theorem wd_1291 : Cond.methodLink RL 140 yX11_best ∈ w_ws := wq_s5 (i := 218) rfl rfl
set_option maxRecDepth 100000 in
theorem wd_1292 : Cond.instanceMethod yX11_best ∈ w_ws := wq_s5 (i := 219) rfl rfl
set_option maxRecDepth 100000 in
theorem wd_1293 : Cond.selects RX11 yX11_best yX11_best ∈ w_ws := wq_s5 (i := 220) rfl rfl
set_option maxRecDepth 100000 in
theorem wd_1294 : Cond.code yX11_best prog_1_method_31_code 1 (Option.some Jvm.ClassFile.FieldType.int) ∈ w_ws := wq_s5 (i := 221) rfl rfl
set_option maxRecDepth 100000 in
theorem wd_1295 : Cond.methodLink RX11 348 yX9_cheapest ∈ w_ws := wq_s5 (i := 222) rfl rfl
set_option maxRecDepth 100000 in
theorem wd_1296 : Cond.instanceMethod yX9_cheapest ∈ w_ws := wq_s5 (i := 223) rfl rfl
set_option maxRecDepth 100000 in
theorem wd_1297 : Cond.selects RX9 yX9_cheapest yX9_cheapest ∈ w_ws := wq_s5 (i := 224) rfl rfl
set_option maxRecDepth 100000 in
theorem wd_1298 : Cond.code yX9_cheapest prog_11_method_12_code 8 (Option.some Jvm.ClassFile.FieldType.int) ∈ w_ws := wq_s5 (i := 225) rfl rfl
set_option maxRecDepth 100000 in
theorem wd_1299 : Cond.methodLink RX9 129 yX9_cost ∈ w_ws := wq_s5 (i := 226) rfl rfl
set_option maxRecDepth 100000 in
theorem wd_1300 : Cond.methodLink RL 144 yX11_goes ∈ w_ws := wq_s5 (i := 227) rfl rfl
set_option maxRecDepth 100000 in
theorem wd_1301 : Cond.instanceMethod yX11_goes ∈ w_ws := wq_s5 (i := 228) rfl rfl
set_option maxRecDepth 100000 in
theorem wd_1302 : Cond.selects RX11 yX11_goes yX11_goes ∈ w_ws := wq_s5 (i := 229) rfl rfl
set_option maxRecDepth 100000 in
theorem wd_1303 : Cond.code yX11_goes prog_1_method_32_code 2 (Option.some Jvm.ClassFile.FieldType.int) ∈ w_ws := wq_s5 (i := 230) rfl rfl
set_option maxRecDepth 100000 in
theorem wd_1304 : Cond.methodLink RX11 352 yX9_passEvening ∈ w_ws := wq_s5 (i := 231) rfl rfl
set_option maxRecDepth 100000 in
theorem wd_1305 : Cond.instanceMethod yX9_passEvening ∈ w_ws := wq_s5 (i := 232) rfl rfl
set_option maxRecDepth 100000 in
theorem wd_1306 : Cond.selects RX9 yX9_passEvening yX9_passEvening ∈ w_ws := wq_s5 (i := 233) rfl rfl
set_option maxRecDepth 100000 in
theorem wd_1307 : Cond.code yX9_passEvening prog_11_method_18_code 11 (Option.none : Option Jvm.ClassFile.FieldType) ∈ w_ws := wq_s5 (i := 234) rfl rfl
set_option maxRecDepth 100000 in
theorem wd_1308 : Cond.methodLink RX11 355 yX9_passed ∈ w_ws := wq_s5 (i := 235) rfl rfl
set_option maxRecDepth 100000 in
theorem wd_1309 : Cond.instanceMethod yX9_passed ∈ w_ws := wq_s5 (i := 236) rfl rfl
set_option maxRecDepth 100000 in
theorem wd_1310 : Cond.selects RX9 yX9_passed yX9_passed ∈ w_ws := wq_s5 (i := 237) rfl rfl
set_option maxRecDepth 100000 in
theorem wd_1311 : Cond.code yX9_passed prog_11_method_19_code 2 (Option.some Jvm.ClassFile.FieldType.int) ∈ w_ws := wq_s5 (i := 238) rfl rfl
set_option maxRecDepth 100000 in
theorem wd_1312 : Cond.methodLink RL 148 yX11_undo ∈ w_ws := wq_s5 (i := 239) rfl rfl
set_option maxRecDepth 100000 in
theorem wd_1313 : Cond.instanceMethod yX11_undo ∈ w_ws := wq_s6 (i := 0) rfl rfl
set_option maxRecDepth 100000 in
theorem wd_1314 : Cond.selects RX11 yX11_undo yX11_undo ∈ w_ws := wq_s6 (i := 1) rfl rfl
set_option maxRecDepth 100000 in
theorem wd_1315 : Cond.code yX11_undo prog_1_method_33_code 1 (Option.some Jvm.ClassFile.FieldType.boolean) ∈ w_ws := wq_s6 (i := 2) rfl rfl
set_option maxRecDepth 100000 in
theorem wd_1316 : Cond.methodLink RL 153 yX11_image ∈ w_ws := wq_s6 (i := 3) rfl rfl
set_option maxRecDepth 100000 in
theorem wd_1317 : Cond.instanceMethod yX11_image ∈ w_ws := wq_s6 (i := 4) rfl rfl
set_option maxRecDepth 100000 in
theorem wd_1318 : Cond.selects RX11 yX11_image yX11_image ∈ w_ws := wq_s6 (i := 5) rfl rfl
set_option maxRecDepth 100000 in
theorem wd_1319 : Cond.code yX11_image prog_1_method_34_code 2 (Option.some Jvm.ClassFile.FieldType.boolean) ∈ w_ws := wq_s6 (i := 6) rfl rfl
set_option maxRecDepth 100000 in
theorem wd_1320 : Cond.methodLink RX11 361 yX2_copyFrom ∈ w_ws := wq_s6 (i := 7) rfl rfl
set_option maxRecDepth 100000 in
theorem wd_1321 : Cond.instanceMethod yX2_copyFrom ∈ w_ws := wq_s6 (i := 8) rfl rfl
set_option maxRecDepth 100000 in
theorem wd_1322 : Cond.selects RX2 yX2_copyFrom yX2_copyFrom ∈ w_ws := wq_s6 (i := 9) rfl rfl
set_option maxRecDepth 100000 in
theorem wd_1323 : Cond.code yX2_copyFrom prog_4_method_15_code 2 (Option.none : Option Jvm.ClassFile.FieldType) ∈ w_ws := wq_s6 (i := 10) rfl rfl
set_option maxRecDepth 100000 in
theorem wd_1324 : Cond.methodLink RX2 184 yX4_copyFrom ∈ w_ws := wq_s6 (i := 11) rfl rfl
set_option maxRecDepth 100000 in
theorem wd_1325 : Cond.methodLink RX2 187 yX3_copyFrom ∈ w_ws := wq_s6 (i := 12) rfl rfl
set_option maxRecDepth 100000 in
theorem wd_1326 : Cond.methodLink RX2 190 yX0_copyFrom ∈ w_ws := wq_s6 (i := 13) rfl rfl
set_option maxRecDepth 100000 in
theorem wd_1327 : Cond.methodLink RX2 193 yX1_copyFrom ∈ w_ws := wq_s6 (i := 14) rfl rfl
set_option maxRecDepth 100000 in
theorem wd_1328 : Cond.instanceMethod yX1_copyFrom ∈ w_ws := wq_s6 (i := 15) rfl rfl
set_option maxRecDepth 100000 in
theorem wd_1329 : Cond.selects RX1 yX1_copyFrom yX1_copyFrom ∈ w_ws := wq_s6 (i := 16) rfl rfl
set_option maxRecDepth 100000 in
theorem wd_1330 : Cond.code yX1_copyFrom prog_3_method_4_code 2 (Option.none : Option Jvm.ClassFile.FieldType) ∈ w_ws := wq_s6 (i := 17) rfl rfl
set_option maxRecDepth 100000 in
theorem wd_1331 : Cond.methodLink RX1 27 ({ cls := "java/lang/System", name := "arraycopy", desc := "(Ljava/lang/Object;ILjava/lang/Object;II)V" } : MethodName) ∈ w_ws := wq_s6 (i := 18) rfl rfl
set_option maxRecDepth 100000 in
theorem wd_1332 : Cond.methodLink RX2 196 yX8_copyFrom ∈ w_ws := wq_s6 (i := 19) rfl rfl
set_option maxRecDepth 100000 in
theorem wd_1333 : Cond.methodLink RX2 199 ({ cls := "java/lang/System", name := "arraycopy", desc := "(Ljava/lang/Object;ILjava/lang/Object;II)V" } : MethodName) ∈ w_ws := wq_s6 (i := 20) rfl rfl
set_option maxRecDepth 100000 in
theorem wd_1334 : Cond.methodLink RL 158 yX11_look ∈ w_ws := wq_s6 (i := 21) rfl rfl
set_option maxRecDepth 100000 in
theorem wd_1335 : Cond.instanceMethod yX11_look ∈ w_ws := wq_s6 (i := 22) rfl rfl
set_option maxRecDepth 100000 in
theorem wd_1336 : Cond.selects RX11 yX11_look yX11_look ∈ w_ws := wq_s6 (i := 23) rfl rfl
set_option maxRecDepth 100000 in
theorem wd_1337 : Cond.code yX11_look prog_1_method_35_code 3 (Option.some Jvm.ClassFile.FieldType.int) ∈ w_ws := wq_s6 (i := 24) rfl rfl
set_option maxRecDepth 100000 in
theorem wd_1338 : Cond.methodLink RX11 367 yX11_lookAtTold ∈ w_ws := wq_s6 (i := 25) rfl rfl
set_option maxRecDepth 100000 in
theorem wd_1340 : Cond.instanceMethod yX11_lookAtTold ∈ w_ws := wq_s6 (i := 27) rfl rfl
set_option maxRecDepth 100000 in
theorem wd_1341 : Cond.code yX11_lookAtTold prog_1_method_36_code 2 (Option.some Jvm.ClassFile.FieldType.int) ∈ w_ws := wq_s6 (i := 28) rfl rfl
set_option maxRecDepth 100000 in
theorem wd_1342 : Cond.classLink RL 10 "WoundTapeModel" ∈ w_ws := wq_s6 (i := 29) rfl rfl
set_option maxRecDepth 100000 in
theorem wd_1343 : Cond.instantiable RX12 43 ∈ w_ws := wq_s6 (i := 30) rfl rfl
set_option maxRecDepth 100000 in
theorem wd_1344 : Cond.methodLink RL 12 yX12_init ∈ w_ws := wq_s6 (i := 31) rfl rfl
set_option maxRecDepth 100000 in
theorem wd_1345 : Cond.instanceMethod yX12_init ∈ w_ws := wq_s6 (i := 32) rfl rfl
set_option maxRecDepth 100000 in
theorem wd_1346 : Cond.code yX12_init prog_14_method_1_code 2 (Option.none : Option Jvm.ClassFile.FieldType) ∈ w_ws := wq_s6 (i := 33) rfl rfl
set_option maxRecDepth 100000 in
theorem wd_1347 : Cond.methodLink RX12 1 ({ cls := "java/lang/Object", name := "<init>", desc := "()V" } : MethodName) ∈ w_ws := wq_s6 (i := 34) rfl rfl
set_option maxRecDepth 100000 in
theorem wd_1348 : Cond.methodLink RX12 68 yX12_rewinds ∈ w_ws := wq_s6 (i := 35) rfl rfl
set_option maxRecDepth 100000 in
theorem wd_1350 : Cond.instanceMethod yX12_rewinds ∈ w_ws := wq_s6 (i := 37) rfl rfl
set_option maxRecDepth 100000 in
theorem wd_1351 : Cond.code yX12_rewinds prog_14_method_11_code 1 (Option.none : Option Jvm.ClassFile.FieldType) ∈ w_ws := wq_s6 (i := 38) rfl rfl
set_option maxRecDepth 100000 in
theorem wd_1352 : Cond.methodLink RX12 83 yX12_knowsAlone ∈ w_ws := wq_s6 (i := 39) rfl rfl
set_option maxRecDepth 100000 in
theorem wd_1354 : Cond.instanceMethod yX12_knowsAlone ∈ w_ws := wq_s6 (i := 41) rfl rfl
set_option maxRecDepth 100000 in
theorem wd_1355 : Cond.code yX12_knowsAlone prog_14_method_10_code 3 (Option.none : Option Jvm.ClassFile.FieldType) ∈ w_ws := wq_s6 (i := 42) rfl rfl
set_option maxRecDepth 100000 in
theorem wd_1356 : Cond.fieldLink RX12 7 "WoundTapeModel" "w" "[I" ∈ w_ws := wq_s6 (i := 43) rfl rfl
set_option maxRecDepth 100000 in
theorem wd_1357 : Cond.fieldLink RX12 13 "WoundTapeModel" "kept" "[I" ∈ w_ws := wq_s6 (i := 44) rfl rfl
set_option maxRecDepth 100000 in
theorem wd_1358 : Cond.fieldLink RX12 16 "WoundTapeModel" "back" "[I" ∈ w_ws := wq_s6 (i := 45) rfl rfl
set_option maxRecDepth 100000 in
theorem wd_1359 : Cond.fieldLink RX12 19 "WoundTapeModel" "next" "[I" ∈ w_ws := wq_s6 (i := 46) rfl rfl
set_option maxRecDepth 100000 in
theorem wd_1360 : Cond.fieldLink RX12 87 "WoundTapeModel" "backMany" "I" ∈ w_ws := wq_s6 (i := 47) rfl rfl
set_option maxRecDepth 100000 in
theorem wd_1361 : Cond.fieldLink RX12 478 "WoundTapeModel" "hasImage" "Z" ∈ w_ws := wq_s6 (i := 48) rfl rfl
set_option maxRecDepth 100000 in
theorem wd_1362 : Cond.fieldLink RX12 22 "WoundTapeModel" "freshLine" "[I" ∈ w_ws := wq_s6 (i := 49) rfl rfl
set_option maxRecDepth 100000 in
theorem wd_1363 : Cond.fieldLink RX12 25 "WoundTapeModel" "freshStep" "[I" ∈ w_ws := wq_s6 (i := 50) rfl rfl
set_option maxRecDepth 100000 in
theorem wd_1364 : Cond.fieldLink RX12 28 "WoundTapeModel" "freshSong" "[I" ∈ w_ws := wq_s6 (i := 51) rfl rfl
set_option maxRecDepth 100000 in
theorem wd_1365 : Cond.fieldLink RX12 31 "WoundTapeModel" "freshSide" "[I" ∈ w_ws := wq_s6 (i := 52) rfl rfl
set_option maxRecDepth 100000 in
theorem wd_1366 : Cond.fieldLink RX12 34 "WoundTapeModel" "freshDeed" "[I" ∈ w_ws := wq_s6 (i := 53) rfl rfl
set_option maxRecDepth 100000 in
theorem wd_1367 : Cond.fieldLink RX12 37 "WoundTapeModel" "freshRow" "[I" ∈ w_ws := wq_s6 (i := 54) rfl rfl
set_option maxRecDepth 100000 in
theorem wd_1368 : Cond.fieldLink RX12 40 "WoundTapeModel" "tape" "[I" ∈ w_ws := wq_s6 (i := 55) rfl rfl
set_option maxRecDepth 100000 in
theorem wd_1369 : Cond.fieldLink RX12 43 "WoundTapeModel" "pile" "[I" ∈ w_ws := wq_s6 (i := 56) rfl rfl
set_option maxRecDepth 100000 in
theorem wd_1370 : Cond.fieldLink RX12 46 "WoundTapeModel" "facts" "[I" ∈ w_ws := wq_s6 (i := 57) rfl rfl
set_option maxRecDepth 100000 in
theorem wd_1371 : Cond.fieldLink RX12 161 "WoundTapeModel" "reading" "I" ∈ w_ws := wq_s6 (i := 58) rfl rfl
set_option maxRecDepth 100000 in
theorem wd_1372 : Cond.fieldLink RX12 242 "WoundTapeModel" "lines" "I" ∈ w_ws := wq_s6 (i := 59) rfl rfl
set_option maxRecDepth 100000 in
theorem wd_1373 : Cond.fieldLink RX12 207 "WoundTapeModel" "steps" "I" ∈ w_ws := wq_s6 (i := 60) rfl rfl
set_option maxRecDepth 100000 in
theorem wd_1374 : Cond.fieldLink RX12 268 "WoundTapeModel" "rows" "I" ∈ w_ws := wq_s6 (i := 61) rfl rfl
set_option maxRecDepth 100000 in
theorem wd_1375 : Cond.fieldLink RX12 261 "WoundTapeModel" "songs" "I" ∈ w_ws := wq_s6 (i := 62) rfl rfl
set_option maxRecDepth 100000 in
theorem wd_1376 : Cond.fieldLink RX12 251 "WoundTapeModel" "longOne" "I" ∈ w_ws := wq_s6 (i := 63) rfl rfl
set_option maxRecDepth 100000 in
theorem wd_1377 : Cond.fieldLink RX12 254 "WoundTapeModel" "longOther" "I" ∈ w_ws := wq_s6 (i := 64) rfl rfl
set_option maxRecDepth 100000 in
theorem wd_1378 : Cond.fieldLink RX12 280 "WoundTapeModel" "deeds" "I" ∈ w_ws := wq_s6 (i := 65) rfl rfl
set_option maxRecDepth 100000 in
theorem wd_1379 : Cond.fieldLink RX12 95 "WoundTapeModel" "taped" "I" ∈ w_ws := wq_s6 (i := 66) rfl rfl
set_option maxRecDepth 100000 in
theorem wd_1380 : Cond.fieldLink RX12 98 "WoundTapeModel" "at" "I" ∈ w_ws := wq_s6 (i := 67) rfl rfl
set_option maxRecDepth 100000 in
theorem wd_1381 : Cond.fieldLink RX12 180 "WoundTapeModel" "token" "I" ∈ w_ws := wq_s6 (i := 68) rfl rfl
set_option maxRecDepth 100000 in
theorem wd_1382 : Cond.fieldLink RX12 101 "WoundTapeModel" "tokenAt" "I" ∈ w_ws := wq_s6 (i := 69) rfl rfl
set_option maxRecDepth 100000 in
theorem wd_1383 : Cond.fieldLink RX12 192 "WoundTapeModel" "value" "I" ∈ w_ws := wq_s6 (i := 70) rfl rfl
set_option maxRecDepth 100000 in
theorem wd_1384 : Cond.fieldLink RX12 195 "WoundTapeModel" "wrong" "I" ∈ w_ws := wq_s6 (i := 71) rfl rfl
set_option maxRecDepth 100000 in
theorem wd_1385 : Cond.fieldLink RX12 198 "WoundTapeModel" "wrongAt" "I" ∈ w_ws := wq_s6 (i := 72) rfl rfl
set_option maxRecDepth 100000 in
theorem wd_1386 : Cond.fieldLink RX12 324 "WoundTapeModel" "faultKind" "I" ∈ w_ws := wq_s6 (i := 73) rfl rfl
set_option maxRecDepth 100000 in
theorem wd_1387 : Cond.fieldLink RX12 210 "WoundTapeModel" "depth" "I" ∈ w_ws := wq_s6 (i := 74) rfl rfl
set_option maxRecDepth 100000 in
theorem wd_1388 : Cond.fieldLink RX12 49 "WoundTapeModel" "faultPlace" "I" ∈ w_ws := wq_s6 (i := 75) rfl rfl
set_option maxRecDepth 100000 in
theorem wd_1389 : Cond.fieldLink RX12 248 "WoundTapeModel" "numbered" "I" ∈ w_ws := wq_s6 (i := 76) rfl rfl
set_option maxRecDepth 100000 in
theorem wd_1390 : Cond.fieldLink RX12 414 "WoundTapeModel" "bestCost" "I" ∈ w_ws := wq_s6 (i := 77) rfl rfl
set_option maxRecDepth 100000 in
theorem wd_1391 : Cond.fieldLink RX12 417 "WoundTapeModel" "bestHeld" "I" ∈ w_ws := wq_s6 (i := 78) rfl rfl
set_option maxRecDepth 100000 in
theorem wd_1392 : Cond.fieldLink RX12 420 "WoundTapeModel" "bestOn" "I" ∈ w_ws := wq_s6 (i := 79) rfl rfl
set_option maxRecDepth 100000 in
theorem wd_1393 : Cond.fieldLink RX12 53 "WoundTapeModel" "laid" "[I" ∈ w_ws := wq_s6 (i := 80) rfl rfl
set_option maxRecDepth 100000 in
theorem wd_1394 : Cond.fieldLink RX12 56 "WoundTapeModel" "alike" "[I" ∈ w_ws := wq_s6 (i := 81) rfl rfl
set_option maxRecDepth 100000 in
theorem wd_1395 : Cond.fieldLink RX12 59 "WoundTapeModel" "order" "[I" ∈ w_ws := wq_s6 (i := 82) rfl rfl
set_option maxRecDepth 100000 in
theorem wd_1396 : Cond.fieldLink RX12 62 "WoundTapeModel" "bestOrder" "[I" ∈ w_ws := wq_s6 (i := 83) rfl rfl
set_option maxRecDepth 100000 in
theorem wd_1397 : Cond.fieldLink RX12 65 "WoundTapeModel" "begin" "[I" ∈ w_ws := wq_s6 (i := 84) rfl rfl
set_option maxRecDepth 100000 in
theorem wd_1398 : Cond.fieldLink RX12 454 "WoundTapeModel" "leastOrder" "I" ∈ w_ws := wq_s6 (i := 85) rfl rfl
set_option maxRecDepth 100000 in
theorem wd_1486 : Cond.methodLink RL 17 yX12_state ∈ w_ws := wq_s6 (i := 173) rfl rfl
set_option maxRecDepth 100000 in
theorem wd_1487 : Cond.instanceMethod yX12_state ∈ w_ws := wq_s6 (i := 174) rfl rfl
set_option maxRecDepth 100000 in
theorem wd_1488 : Cond.selects RX12 yX12_state yX12_state ∈ w_ws := wq_s6 (i := 175) rfl rfl
set_option maxRecDepth 100000 in
theorem wd_1489 : Cond.code yX12_state prog_14_method_13_code 3 (Option.some Jvm.ClassFile.FieldType.int) ∈ w_ws := wq_s6 (i := 176) rfl rfl
set_option maxRecDepth 100000 in
theorem wd_1490 : Cond.methodLink RX12 90 yX12_forgets ∈ w_ws := wq_s6 (i := 177) rfl rfl
set_option maxRecDepth 100000 in
theorem wd_1492 : Cond.instanceMethod yX12_forgets ∈ w_ws := wq_s6 (i := 179) rfl rfl
set_option maxRecDepth 100000 in
theorem wd_1493 : Cond.code yX12_forgets prog_14_method_12_code 1 (Option.none : Option Jvm.ClassFile.FieldType) ∈ w_ws := wq_s6 (i := 180) rfl rfl
set_option maxRecDepth 100000 in
theorem wd_1494 : Cond.methodLink RL 22 yX12_set ∈ w_ws := wq_s6 (i := 181) rfl rfl
set_option maxRecDepth 100000 in
theorem wd_1495 : Cond.instanceMethod yX12_set ∈ w_ws := wq_s6 (i := 182) rfl rfl
set_option maxRecDepth 100000 in
theorem wd_1496 : Cond.selects RX12 yX12_set yX12_set ∈ w_ws := wq_s6 (i := 183) rfl rfl
set_option maxRecDepth 100000 in
theorem wd_1497 : Cond.code yX12_set prog_14_method_15_code 3 (Option.some Jvm.ClassFile.FieldType.boolean) ∈ w_ws := wq_s6 (i := 184) rfl rfl
set_option maxRecDepth 100000 in
theorem wd_1498 : Cond.methodLink RX12 71 yX12_isIn ∈ w_ws := wq_s6 (i := 185) rfl rfl
set_option maxRecDepth 100000 in
theorem wd_1499 : Cond.static yX12_isIn ∈ w_ws := wq_s6 (i := 186) rfl rfl
set_option maxRecDepth 100000 in
theorem wd_1500 : Cond.code yX12_isIn prog_14_method_2_code 3 (Option.some Jvm.ClassFile.FieldType.boolean) ∈ w_ws := wq_s6 (i := 187) rfl rfl
set_option maxRecDepth 100000 in
theorem wd_1501 : Cond.methodLink RL 50 yX12_feed ∈ w_ws := wq_s6 (i := 188) rfl rfl
set_option maxRecDepth 100000 in
theorem wd_1502 : Cond.instanceMethod yX12_feed ∈ w_ws := wq_s6 (i := 189) rfl rfl
set_option maxRecDepth 100000 in
theorem wd_1503 : Cond.selects RX12 yX12_feed yX12_feed ∈ w_ws := wq_s6 (i := 190) rfl rfl
set_option maxRecDepth 100000 in
theorem wd_1504 : Cond.code yX12_feed prog_14_method_16_code 8 (Option.some Jvm.ClassFile.FieldType.int) ∈ w_ws := wq_s6 (i := 191) rfl rfl
set_option maxRecDepth 100000 in
theorem wd_1505 : Cond.methodLink RL 54 yX12_end ∈ w_ws := wq_s6 (i := 192) rfl rfl
set_option maxRecDepth 100000 in
theorem wd_1506 : Cond.instanceMethod yX12_end ∈ w_ws := wq_s6 (i := 193) rfl rfl
set_option maxRecDepth 100000 in
theorem wd_1507 : Cond.selects RX12 yX12_end yX12_end ∈ w_ws := wq_s6 (i := 194) rfl rfl
set_option maxRecDepth 100000 in
theorem wd_1508 : Cond.code yX12_end prog_14_method_17_code 2 (Option.some Jvm.ClassFile.FieldType.boolean) ∈ w_ws := wq_s6 (i := 195) rfl rfl
set_option maxRecDepth 100000 in
theorem wd_1509 : Cond.methodLink RL 58 yX12_text ∈ w_ws := wq_s6 (i := 196) rfl rfl
set_option maxRecDepth 100000 in
theorem wd_1510 : Cond.instanceMethod yX12_text ∈ w_ws := wq_s6 (i := 197) rfl rfl
set_option maxRecDepth 100000 in
theorem wd_1511 : Cond.selects RX12 yX12_text yX12_text ∈ w_ws := wq_s6 (i := 198) rfl rfl
set_option maxRecDepth 100000 in
theorem wd_1512 : Cond.code yX12_text prog_14_method_60_code 3 (Option.some Jvm.ClassFile.FieldType.int) ∈ w_ws := wq_s6 (i := 199) rfl rfl
set_option maxRecDepth 100000 in
theorem wd_1513 : Cond.methodLink RX12 204 yX12_next0 ∈ w_ws := wq_s6 (i := 200) rfl rfl
set_option maxRecDepth 100000 in
theorem wd_1515 : Cond.instanceMethod yX12_next0 ∈ w_ws := wq_s6 (i := 202) rfl rfl
set_option maxRecDepth 100000 in
theorem wd_1516 : Cond.code yX12_next0 prog_14_method_28_code 3 (Option.none : Option Jvm.ClassFile.FieldType) ∈ w_ws := wq_s6 (i := 203) rfl rfl
set_option maxRecDepth 100000 in
theorem wd_1517 : Cond.methodLink RX12 176 yX12_see ∈ w_ws := wq_s6 (i := 204) rfl rfl
set_option maxRecDepth 100000 in
theorem wd_1519 : Cond.instanceMethod yX12_see ∈ w_ws := wq_s6 (i := 206) rfl rfl
set_option maxRecDepth 100000 in
theorem wd_1520 : Cond.code yX12_see prog_14_method_18_code 2 (Option.some Jvm.ClassFile.FieldType.int) ∈ w_ws := wq_s6 (i := 207) rfl rfl
set_option maxRecDepth 100000 in
theorem wd_1521 : Cond.methodLink RX12 183 yX12_isLetter ∈ w_ws := wq_s6 (i := 208) rfl rfl
set_option maxRecDepth 100000 in
theorem wd_1522 : Cond.static yX12_isLetter ∈ w_ws := wq_s6 (i := 209) rfl rfl
set_option maxRecDepth 100000 in
theorem wd_1523 : Cond.code yX12_isLetter prog_14_method_19_code 1 (Option.some Jvm.ClassFile.FieldType.boolean) ∈ w_ws := wq_s6 (i := 210) rfl rfl
set_option maxRecDepth 100000 in
theorem wd_1524 : Cond.methodLink RX12 186 yX12_word ∈ w_ws := wq_s6 (i := 211) rfl rfl
set_option maxRecDepth 100000 in
theorem wd_1526 : Cond.instanceMethod yX12_word ∈ w_ws := wq_s6 (i := 213) rfl rfl
set_option maxRecDepth 100000 in
theorem wd_1527 : Cond.code yX12_word prog_14_method_27_code 1 (Option.some Jvm.ClassFile.FieldType.int) ∈ w_ws := wq_s6 (i := 214) rfl rfl
set_option maxRecDepth 100000 in
theorem wd_1528 : Cond.methodLink RX12 164 yX12_tapeWord ∈ w_ws := wq_s6 (i := 215) rfl rfl
set_option maxRecDepth 100000 in
theorem wd_1530 : Cond.instanceMethod yX12_tapeWord ∈ w_ws := wq_s6 (i := 217) rfl rfl
set_option maxRecDepth 100000 in
theorem wd_1531 : Cond.code yX12_tapeWord prog_14_method_22_code 1 (Option.some Jvm.ClassFile.FieldType.int) ∈ w_ws := wq_s6 (i := 218) rfl rfl
set_option maxRecDepth 100000 in
theorem wd_1533 : Cond.methodLink RX12 116 yX12_is ∈ w_ws := wq_s6 (i := 220) rfl rfl
set_option maxRecDepth 100000 in
theorem wd_1535 : Cond.instanceMethod yX12_is ∈ w_ws := wq_s6 (i := 222) rfl rfl
set_option maxRecDepth 100000 in
theorem wd_1536 : Cond.code yX12_is prog_14_method_21_code 4 (Option.some Jvm.ClassFile.FieldType.boolean) ∈ w_ws := wq_s6 (i := 223) rfl rfl
set_option maxRecDepth 100000 in
theorem wd_1537 : Cond.methodLink RX12 104 yJ0_length_8abf5 ∈ w_ws := wq_s6 (i := 224) rfl rfl
set_option maxRecDepth 100000 in
theorem wd_1538 : Cond.methodLink RX12 110 yJ0_charAt_5068e ∈ w_ws := wq_s6 (i := 225) rfl rfl
set_option maxRecDepth 100000 in
theorem wd_1542 : Cond.methodLink RX12 167 yX12_lawWord ∈ w_ws := wq_s6 (i := 229) rfl rfl
set_option maxRecDepth 100000 in
theorem wd_1544 : Cond.instanceMethod yX12_lawWord ∈ w_ws := wq_s6 (i := 231) rfl rfl
set_option maxRecDepth 100000 in
theorem wd_1545 : Cond.code yX12_lawWord prog_14_method_24_code 1 (Option.some Jvm.ClassFile.FieldType.int) ∈ w_ws := wq_s6 (i := 232) rfl rfl
set_option maxRecDepth 100000 in
theorem wd_1553 : Cond.methodLink RX12 151 yX12_asked ∈ w_ws := wq_s7 (i := 0) rfl rfl
set_option maxRecDepth 100000 in
theorem wd_1555 : Cond.instanceMethod yX12_asked ∈ w_ws := wq_s7 (i := 2) rfl rfl
set_option maxRecDepth 100000 in
theorem wd_1556 : Cond.code yX12_asked prog_14_method_23_code 1 (Option.some Jvm.ClassFile.FieldType.int) ∈ w_ws := wq_s7 (i := 3) rfl rfl
set_option maxRecDepth 100000 in
theorem wd_1563 : Cond.methodLink RX12 170 yX12_eveningWord ∈ w_ws := wq_s7 (i := 10) rfl rfl
set_option maxRecDepth 100000 in
theorem wd_1565 : Cond.instanceMethod yX12_eveningWord ∈ w_ws := wq_s7 (i := 12) rfl rfl
set_option maxRecDepth 100000 in
theorem wd_1566 : Cond.code yX12_eveningWord prog_14_method_25_code 1 (Option.some Jvm.ClassFile.FieldType.int) ∈ w_ws := wq_s7 (i := 13) rfl rfl
set_option maxRecDepth 100000 in
theorem wd_1570 : Cond.methodLink RX12 173 yX12_afterWord ∈ w_ws := wq_s7 (i := 17) rfl rfl
set_option maxRecDepth 100000 in
theorem wd_1572 : Cond.instanceMethod yX12_afterWord ∈ w_ws := wq_s7 (i := 19) rfl rfl
set_option maxRecDepth 100000 in
theorem wd_1573 : Cond.code yX12_afterWord prog_14_method_26_code 1 (Option.some Jvm.ClassFile.FieldType.int) ∈ w_ws := wq_s7 (i := 20) rfl rfl
set_option maxRecDepth 100000 in
theorem wd_1575 : Cond.methodLink RX12 189 yX12_isDigit ∈ w_ws := wq_s7 (i := 22) rfl rfl
set_option maxRecDepth 100000 in
theorem wd_1576 : Cond.static yX12_isDigit ∈ w_ws := wq_s7 (i := 23) rfl rfl
set_option maxRecDepth 100000 in
theorem wd_1577 : Cond.code yX12_isDigit prog_14_method_20_code 1 (Option.some Jvm.ClassFile.FieldType.boolean) ∈ w_ws := wq_s7 (i := 24) rfl rfl
set_option maxRecDepth 100000 in
theorem wd_1578 : Cond.methodLink RX12 327 yX12_reads ∈ w_ws := wq_s7 (i := 25) rfl rfl
set_option maxRecDepth 100000 in
theorem wd_1580 : Cond.instanceMethod yX12_reads ∈ w_ws := wq_s7 (i := 27) rfl rfl
set_option maxRecDepth 100000 in
theorem wd_1581 : Cond.code yX12_reads prog_14_method_59_code 2 (Option.some Jvm.ClassFile.FieldType.boolean) ∈ w_ws := wq_s7 (i := 28) rfl rfl
set_option maxRecDepth 100000 in
theorem wd_1582 : Cond.methodLink RX12 312 yX12_readsTape ∈ w_ws := wq_s7 (i := 29) rfl rfl
set_option maxRecDepth 100000 in
theorem wd_1584 : Cond.instanceMethod yX12_readsTape ∈ w_ws := wq_s7 (i := 31) rfl rfl
set_option maxRecDepth 100000 in
theorem wd_1585 : Cond.code yX12_readsTape prog_14_method_46_code 2 (Option.some Jvm.ClassFile.FieldType.boolean) ∈ w_ws := wq_s7 (i := 32) rfl rfl
set_option maxRecDepth 100000 in
theorem wd_1586 : Cond.methodLink RX12 277 yX12_readsSide ∈ w_ws := wq_s7 (i := 33) rfl rfl
set_option maxRecDepth 100000 in
theorem wd_1588 : Cond.instanceMethod yX12_readsSide ∈ w_ws := wq_s7 (i := 35) rfl rfl
set_option maxRecDepth 100000 in
theorem wd_1589 : Cond.code yX12_readsSide prog_14_method_45_code 3 (Option.some Jvm.ClassFile.FieldType.boolean) ∈ w_ws := wq_s7 (i := 36) rfl rfl
set_option maxRecDepth 100000 in
theorem wd_1590 : Cond.methodLink RX12 201 yX12_bad ∈ w_ws := wq_s7 (i := 37) rfl rfl
set_option maxRecDepth 100000 in
theorem wd_1592 : Cond.instanceMethod yX12_bad ∈ w_ws := wq_s7 (i := 39) rfl rfl
set_option maxRecDepth 100000 in
theorem wd_1593 : Cond.code yX12_bad prog_14_method_29_code 2 (Option.some Jvm.ClassFile.FieldType.boolean) ∈ w_ws := wq_s7 (i := 40) rfl rfl
set_option maxRecDepth 100000 in
theorem wd_1594 : Cond.methodLink RX12 271 yX12_aSong ∈ w_ws := wq_s7 (i := 41) rfl rfl
set_option maxRecDepth 100000 in
theorem wd_1596 : Cond.instanceMethod yX12_aSong ∈ w_ws := wq_s7 (i := 43) rfl rfl
set_option maxRecDepth 100000 in
theorem wd_1597 : Cond.code yX12_aSong prog_14_method_43_code 4 (Option.some Jvm.ClassFile.FieldType.boolean) ∈ w_ws := wq_s7 (i := 44) rfl rfl
set_option maxRecDepth 100000 in
theorem wd_1598 : Cond.methodLink RX12 257 yX12_number ∈ w_ws := wq_s7 (i := 45) rfl rfl
set_option maxRecDepth 100000 in
theorem wd_1600 : Cond.instanceMethod yX12_number ∈ w_ws := wq_s7 (i := 47) rfl rfl
set_option maxRecDepth 100000 in
theorem wd_1601 : Cond.code yX12_number prog_14_method_41_code 3 (Option.some Jvm.ClassFile.FieldType.boolean) ∈ w_ws := wq_s7 (i := 48) rfl rfl
set_option maxRecDepth 100000 in
theorem wd_1602 : Cond.methodLink RX12 236 yX12_need ∈ w_ws := wq_s7 (i := 49) rfl rfl
set_option maxRecDepth 100000 in
theorem wd_1604 : Cond.instanceMethod yX12_need ∈ w_ws := wq_s7 (i := 51) rfl rfl
set_option maxRecDepth 100000 in
theorem wd_1605 : Cond.code yX12_need prog_14_method_30_code 2 (Option.some Jvm.ClassFile.FieldType.boolean) ∈ w_ws := wq_s7 (i := 52) rfl rfl
set_option maxRecDepth 100000 in
theorem wd_1606 : Cond.methodLink RX12 264 yX12_lies ∈ w_ws := wq_s7 (i := 53) rfl rfl
set_option maxRecDepth 100000 in
theorem wd_1608 : Cond.instanceMethod yX12_lies ∈ w_ws := wq_s7 (i := 55) rfl rfl
set_option maxRecDepth 100000 in
theorem wd_1609 : Cond.code yX12_lies prog_14_method_42_code 6 (Option.none : Option Jvm.ClassFile.FieldType) ∈ w_ws := wq_s7 (i := 56) rfl rfl
set_option maxRecDepth 100000 in
theorem wd_1610 : Cond.methodLink RX12 274 yX12_aGap ∈ w_ws := wq_s7 (i := 57) rfl rfl
set_option maxRecDepth 100000 in
theorem wd_1612 : Cond.instanceMethod yX12_aGap ∈ w_ws := wq_s7 (i := 59) rfl rfl
set_option maxRecDepth 100000 in
theorem wd_1613 : Cond.code yX12_aGap prog_14_method_44_code 2 (Option.some Jvm.ClassFile.FieldType.boolean) ∈ w_ws := wq_s7 (i := 60) rfl rfl
set_option maxRecDepth 100000 in
theorem wd_1614 : Cond.methodLink RX12 315 yX12_readsLaw ∈ w_ws := wq_s7 (i := 61) rfl rfl
set_option maxRecDepth 100000 in
theorem wd_1616 : Cond.instanceMethod yX12_readsLaw ∈ w_ws := wq_s7 (i := 63) rfl rfl
set_option maxRecDepth 100000 in
theorem wd_1617 : Cond.code yX12_readsLaw prog_14_method_40_code 2 (Option.some Jvm.ClassFile.FieldType.boolean) ∈ w_ws := wq_s7 (i := 64) rfl rfl
set_option maxRecDepth 100000 in
theorem wd_1618 : Cond.methodLink RX12 245 yX12_aLine ∈ w_ws := wq_s7 (i := 65) rfl rfl
set_option maxRecDepth 100000 in
theorem wd_1620 : Cond.instanceMethod yX12_aLine ∈ w_ws := wq_s7 (i := 67) rfl rfl
set_option maxRecDepth 100000 in
theorem wd_1621 : Cond.code yX12_aLine prog_14_method_39_code 1 (Option.some Jvm.ClassFile.FieldType.boolean) ∈ w_ws := wq_s7 (i := 68) rfl rfl
set_option maxRecDepth 100000 in
theorem wd_1622 : Cond.methodLink RX12 239 yX12_sumUp ∈ w_ws := wq_s7 (i := 69) rfl rfl
set_option maxRecDepth 100000 in
theorem wd_1624 : Cond.instanceMethod yX12_sumUp ∈ w_ws := wq_s7 (i := 71) rfl rfl
set_option maxRecDepth 100000 in
theorem wd_1625 : Cond.code yX12_sumUp prog_14_method_33_code 2 (Option.some Jvm.ClassFile.FieldType.boolean) ∈ w_ws := wq_s7 (i := 72) rfl rfl
set_option maxRecDepth 100000 in
theorem wd_1626 : Cond.methodLink RX12 213 yX12_product ∈ w_ws := wq_s7 (i := 73) rfl rfl
set_option maxRecDepth 100000 in
theorem wd_1628 : Cond.instanceMethod yX12_product ∈ w_ws := wq_s7 (i := 75) rfl rfl
set_option maxRecDepth 100000 in
theorem wd_1629 : Cond.code yX12_product prog_14_method_34_code 3 (Option.some Jvm.ClassFile.FieldType.boolean) ∈ w_ws := wq_s7 (i := 76) rfl rfl
set_option maxRecDepth 100000 in
theorem wd_1630 : Cond.methodLink RX12 221 yX12_unit ∈ w_ws := wq_s7 (i := 77) rfl rfl
set_option maxRecDepth 100000 in
theorem wd_1632 : Cond.instanceMethod yX12_unit ∈ w_ws := wq_s7 (i := 79) rfl rfl
set_option maxRecDepth 100000 in
theorem wd_1633 : Cond.code yX12_unit prog_14_method_35_code 2 (Option.some Jvm.ClassFile.FieldType.boolean) ∈ w_ws := wq_s7 (i := 80) rfl rfl
set_option maxRecDepth 100000 in
theorem wd_1634 : Cond.methodLink RX12 217 yX12_lay ∈ w_ws := wq_s7 (i := 81) rfl rfl
set_option maxRecDepth 100000 in
theorem wd_1636 : Cond.instanceMethod yX12_lay ∈ w_ws := wq_s7 (i := 83) rfl rfl
set_option maxRecDepth 100000 in
theorem wd_1637 : Cond.code yX12_lay prog_14_method_31_code 3 (Option.none : Option Jvm.ClassFile.FieldType) ∈ w_ws := wq_s7 (i := 84) rfl rfl
set_option maxRecDepth 100000 in
theorem wd_1638 : Cond.methodLink RX12 233 yX12_any ∈ w_ws := wq_s7 (i := 85) rfl rfl
set_option maxRecDepth 100000 in
theorem wd_1640 : Cond.instanceMethod yX12_any ∈ w_ws := wq_s7 (i := 87) rfl rfl
set_option maxRecDepth 100000 in
theorem wd_1641 : Cond.code yX12_any prog_14_method_36_code 1 (Option.some Jvm.ClassFile.FieldType.boolean) ∈ w_ws := wq_s7 (i := 88) rfl rfl
set_option maxRecDepth 100000 in
theorem wd_1642 : Cond.methodLink RX12 224 yX12_every ∈ w_ws := wq_s7 (i := 89) rfl rfl
set_option maxRecDepth 100000 in
theorem wd_1644 : Cond.instanceMethod yX12_every ∈ w_ws := wq_s7 (i := 91) rfl rfl
set_option maxRecDepth 100000 in
theorem wd_1645 : Cond.code yX12_every prog_14_method_37_code 1 (Option.some Jvm.ClassFile.FieldType.boolean) ∈ w_ws := wq_s7 (i := 92) rfl rfl
set_option maxRecDepth 100000 in
theorem wd_1646 : Cond.methodLink RX12 227 yX12_oneTest ∈ w_ws := wq_s7 (i := 93) rfl rfl
set_option maxRecDepth 100000 in
theorem wd_1648 : Cond.instanceMethod yX12_oneTest ∈ w_ws := wq_s7 (i := 95) rfl rfl
set_option maxRecDepth 100000 in
theorem wd_1649 : Cond.code yX12_oneTest prog_14_method_38_code 2 (Option.some Jvm.ClassFile.FieldType.boolean) ∈ w_ws := wq_s7 (i := 96) rfl rfl
set_option maxRecDepth 100000 in
theorem wd_1650 : Cond.methodLink RX12 230 yX12_opens ∈ w_ws := wq_s7 (i := 97) rfl rfl
set_option maxRecDepth 100000 in
theorem wd_1652 : Cond.instanceMethod yX12_opens ∈ w_ws := wq_s7 (i := 99) rfl rfl
set_option maxRecDepth 100000 in
theorem wd_1653 : Cond.code yX12_opens prog_14_method_32_code 1 (Option.some Jvm.ClassFile.FieldType.boolean) ∈ w_ws := wq_s7 (i := 100) rfl rfl
set_option maxRecDepth 100000 in
theorem wd_1654 : Cond.methodLink RX12 318 yX12_readsEvening ∈ w_ws := wq_s7 (i := 101) rfl rfl
set_option maxRecDepth 100000 in
theorem wd_1656 : Cond.instanceMethod yX12_readsEvening ∈ w_ws := wq_s7 (i := 103) rfl rfl
set_option maxRecDepth 100000 in
theorem wd_1657 : Cond.code yX12_readsEvening prog_14_method_51_code 1 (Option.some Jvm.ClassFile.FieldType.boolean) ∈ w_ws := wq_s7 (i := 104) rfl rfl
set_option maxRecDepth 100000 in
theorem wd_1658 : Cond.methodLink RX12 286 yX12_someDeeds ∈ w_ws := wq_s7 (i := 105) rfl rfl
set_option maxRecDepth 100000 in
theorem wd_1660 : Cond.instanceMethod yX12_someDeeds ∈ w_ws := wq_s7 (i := 107) rfl rfl
set_option maxRecDepth 100000 in
theorem wd_1661 : Cond.code yX12_someDeeds prog_14_method_50_code 3 (Option.some Jvm.ClassFile.FieldType.boolean) ∈ w_ws := wq_s7 (i := 108) rfl rfl
set_option maxRecDepth 100000 in
theorem wd_1662 : Cond.methodLink RX12 289 yX12_again ∈ w_ws := wq_s7 (i := 109) rfl rfl
set_option maxRecDepth 100000 in
theorem wd_1664 : Cond.instanceMethod yX12_again ∈ w_ws := wq_s7 (i := 111) rfl rfl
set_option maxRecDepth 100000 in
theorem wd_1665 : Cond.code yX12_again prog_14_method_49_code 6 (Option.some Jvm.ClassFile.FieldType.boolean) ∈ w_ws := wq_s7 (i := 112) rfl rfl
set_option maxRecDepth 100000 in
theorem wd_1666 : Cond.methodLink RX12 283 yX12_does ∈ w_ws := wq_s7 (i := 113) rfl rfl
set_option maxRecDepth 100000 in
theorem wd_1668 : Cond.instanceMethod yX12_does ∈ w_ws := wq_s7 (i := 115) rfl rfl
set_option maxRecDepth 100000 in
theorem wd_1669 : Cond.code yX12_does prog_14_method_47_code 2 (Option.none : Option Jvm.ClassFile.FieldType) ∈ w_ws := wq_s7 (i := 116) rfl rfl
set_option maxRecDepth 100000 in
theorem wd_1670 : Cond.methodLink RX12 291 yX12_aDeed ∈ w_ws := wq_s7 (i := 117) rfl rfl
set_option maxRecDepth 100000 in
theorem wd_1672 : Cond.instanceMethod yX12_aDeed ∈ w_ws := wq_s7 (i := 119) rfl rfl
set_option maxRecDepth 100000 in
theorem wd_1673 : Cond.code yX12_aDeed prog_14_method_48_code 2 (Option.some Jvm.ClassFile.FieldType.boolean) ∈ w_ws := wq_s7 (i := 120) rfl rfl
set_option maxRecDepth 100000 in
theorem wd_1674 : Cond.methodLink RX12 321 yX12_readsAfter ∈ w_ws := wq_s7 (i := 121) rfl rfl
set_option maxRecDepth 100000 in
theorem wd_1676 : Cond.instanceMethod yX12_readsAfter ∈ w_ws := wq_s7 (i := 123) rfl rfl
set_option maxRecDepth 100000 in
theorem wd_1677 : Cond.code yX12_readsAfter prog_14_method_53_code 2 (Option.some Jvm.ClassFile.FieldType.boolean) ∈ w_ws := wq_s7 (i := 124) rfl rfl
set_option maxRecDepth 100000 in
theorem wd_1678 : Cond.methodLink RX12 294 yX12_anAfter ∈ w_ws := wq_s7 (i := 125) rfl rfl
set_option maxRecDepth 100000 in
theorem wd_1680 : Cond.instanceMethod yX12_anAfter ∈ w_ws := wq_s7 (i := 127) rfl rfl
set_option maxRecDepth 100000 in
theorem wd_1681 : Cond.code yX12_anAfter prog_14_method_52_code 2 (Option.some Jvm.ClassFile.FieldType.boolean) ∈ w_ws := wq_s7 (i := 128) rfl rfl
set_option maxRecDepth 100000 in
theorem wd_1682 : Cond.methodLink RX12 330 yX12_putsText ∈ w_ws := wq_s7 (i := 129) rfl rfl
set_option maxRecDepth 100000 in
theorem wd_1684 : Cond.instanceMethod yX12_putsText ∈ w_ws := wq_s7 (i := 131) rfl rfl
set_option maxRecDepth 100000 in
theorem wd_1685 : Cond.code yX12_putsText prog_14_method_58_code 2 (Option.some Jvm.ClassFile.FieldType.int) ∈ w_ws := wq_s7 (i := 132) rfl rfl
set_option maxRecDepth 100000 in
theorem wd_1686 : Cond.methodLink RX12 300 yX12_putsLaw ∈ w_ws := wq_s7 (i := 133) rfl rfl
set_option maxRecDepth 100000 in
theorem wd_1688 : Cond.instanceMethod yX12_putsLaw ∈ w_ws := wq_s7 (i := 135) rfl rfl
set_option maxRecDepth 100000 in
theorem wd_1689 : Cond.code yX12_putsLaw prog_14_method_55_code 2 (Option.some Jvm.ClassFile.FieldType.int) ∈ w_ws := wq_s7 (i := 136) rfl rfl
set_option maxRecDepth 100000 in
theorem wd_1690 : Cond.methodLink RX12 303 yX12_putsAfter ∈ w_ws := wq_s7 (i := 137) rfl rfl
set_option maxRecDepth 100000 in
theorem wd_1692 : Cond.instanceMethod yX12_putsAfter ∈ w_ws := wq_s7 (i := 139) rfl rfl
set_option maxRecDepth 100000 in
theorem wd_1693 : Cond.code yX12_putsAfter prog_14_method_57_code 2 (Option.some Jvm.ClassFile.FieldType.int) ∈ w_ws := wq_s7 (i := 140) rfl rfl
set_option maxRecDepth 100000 in
theorem wd_1694 : Cond.methodLink RX12 306 yX12_putsTape ∈ w_ws := wq_s7 (i := 141) rfl rfl
set_option maxRecDepth 100000 in
theorem wd_1696 : Cond.instanceMethod yX12_putsTape ∈ w_ws := wq_s7 (i := 143) rfl rfl
set_option maxRecDepth 100000 in
theorem wd_1697 : Cond.code yX12_putsTape prog_14_method_54_code 2 (Option.some Jvm.ClassFile.FieldType.int) ∈ w_ws := wq_s7 (i := 144) rfl rfl
set_option maxRecDepth 100000 in
theorem wd_1698 : Cond.methodLink RX12 297 yX12_greater ∈ w_ws := wq_s7 (i := 145) rfl rfl
set_option maxRecDepth 100000 in
theorem wd_1699 : Cond.static yX12_greater ∈ w_ws := wq_s7 (i := 146) rfl rfl
set_option maxRecDepth 100000 in
theorem wd_1700 : Cond.code yX12_greater prog_14_method_4_code 2 (Option.some Jvm.ClassFile.FieldType.int) ∈ w_ws := wq_s7 (i := 147) rfl rfl
set_option maxRecDepth 100000 in
theorem wd_1701 : Cond.methodLink RX12 309 yX12_putsEvening ∈ w_ws := wq_s7 (i := 148) rfl rfl
set_option maxRecDepth 100000 in
theorem wd_1703 : Cond.instanceMethod yX12_putsEvening ∈ w_ws := wq_s7 (i := 150) rfl rfl
set_option maxRecDepth 100000 in
theorem wd_1704 : Cond.code yX12_putsEvening prog_14_method_56_code 2 (Option.some Jvm.ClassFile.FieldType.int) ∈ w_ws := wq_s7 (i := 151) rfl rfl
set_option maxRecDepth 100000 in
theorem wd_1705 : Cond.methodLink RL 62 yX12_fault ∈ w_ws := wq_s7 (i := 152) rfl rfl
set_option maxRecDepth 100000 in
theorem wd_1706 : Cond.instanceMethod yX12_fault ∈ w_ws := wq_s7 (i := 153) rfl rfl
set_option maxRecDepth 100000 in
theorem wd_1707 : Cond.selects RX12 yX12_fault yX12_fault ∈ w_ws := wq_s7 (i := 154) rfl rfl
set_option maxRecDepth 100000 in
theorem wd_1708 : Cond.code yX12_fault prog_14_method_61_code 2 (Option.some Jvm.ClassFile.FieldType.int) ∈ w_ws := wq_s7 (i := 155) rfl rfl
set_option maxRecDepth 100000 in
theorem wd_1709 : Cond.methodLink RL 152 yX12_undo ∈ w_ws := wq_s7 (i := 156) rfl rfl
set_option maxRecDepth 100000 in
theorem wd_1710 : Cond.instanceMethod yX12_undo ∈ w_ws := wq_s7 (i := 157) rfl rfl
set_option maxRecDepth 100000 in
theorem wd_1711 : Cond.selects RX12 yX12_undo yX12_undo ∈ w_ws := wq_s7 (i := 158) rfl rfl
set_option maxRecDepth 100000 in
theorem wd_1712 : Cond.code yX12_undo prog_14_method_75_code 2 (Option.some Jvm.ClassFile.FieldType.boolean) ∈ w_ws := wq_s7 (i := 159) rfl rfl
set_option maxRecDepth 100000 in
theorem wd_1713 : Cond.methodLink RL 27 yX12_put ∈ w_ws := wq_s7 (i := 160) rfl rfl
set_option maxRecDepth 100000 in
theorem wd_1714 : Cond.instanceMethod yX12_put ∈ w_ws := wq_s7 (i := 161) rfl rfl
set_option maxRecDepth 100000 in
theorem wd_1715 : Cond.selects RX12 yX12_put yX12_put ∈ w_ws := wq_s7 (i := 162) rfl rfl
set_option maxRecDepth 100000 in
theorem wd_1716 : Cond.code yX12_put prog_14_method_84_code 2 (Option.some Jvm.ClassFile.FieldType.boolean) ∈ w_ws := wq_s7 (i := 163) rfl rfl
set_option maxRecDepth 100000 in
theorem wd_1717 : Cond.methodLink RX12 398 yX12_isPlace ∈ w_ws := wq_s7 (i := 164) rfl rfl
set_option maxRecDepth 100000 in
theorem wd_1719 : Cond.instanceMethod yX12_isPlace ∈ w_ws := wq_s7 (i := 166) rfl rfl
set_option maxRecDepth 100000 in
theorem wd_1720 : Cond.code yX12_isPlace prog_14_method_6_code 2 (Option.some Jvm.ClassFile.FieldType.boolean) ∈ w_ws := wq_s7 (i := 167) rfl rfl
set_option maxRecDepth 100000 in
theorem wd_1721 : Cond.methodLink RX12 401 yX12_keeps ∈ w_ws := wq_s7 (i := 168) rfl rfl
set_option maxRecDepth 100000 in
theorem wd_1723 : Cond.instanceMethod yX12_keeps ∈ w_ws := wq_s7 (i := 170) rfl rfl
set_option maxRecDepth 100000 in
theorem wd_1724 : Cond.code yX12_keeps prog_14_method_74_code 2 (Option.none : Option Jvm.ClassFile.FieldType) ∈ w_ws := wq_s7 (i := 171) rfl rfl
set_option maxRecDepth 100000 in
theorem wd_1725 : Cond.methodLink RX12 395 yX12_notes ∈ w_ws := wq_s7 (i := 172) rfl rfl
set_option maxRecDepth 100000 in
theorem wd_1727 : Cond.instanceMethod yX12_notes ∈ w_ws := wq_s7 (i := 174) rfl rfl
set_option maxRecDepth 100000 in
theorem wd_1728 : Cond.code yX12_notes prog_14_method_76_code 4 (Option.none : Option Jvm.ClassFile.FieldType) ∈ w_ws := wq_s7 (i := 175) rfl rfl
set_option maxRecDepth 100000 in
theorem wd_1729 : Cond.methodLink RL 32 yX12_wind ∈ w_ws := wq_s7 (i := 176) rfl rfl
set_option maxRecDepth 100000 in
theorem wd_1730 : Cond.instanceMethod yX12_wind ∈ w_ws := wq_s7 (i := 177) rfl rfl
set_option maxRecDepth 100000 in
theorem wd_1731 : Cond.selects RX12 yX12_wind yX12_wind ∈ w_ws := wq_s7 (i := 178) rfl rfl
set_option maxRecDepth 100000 in
theorem wd_1732 : Cond.code yX12_wind prog_14_method_85_code 3 (Option.some Jvm.ClassFile.FieldType.int) ∈ w_ws := wq_s7 (i := 179) rfl rfl
set_option maxRecDepth 100000 in
theorem wd_1733 : Cond.methodLink RX12 404 yX12_winds ∈ w_ws := wq_s7 (i := 180) rfl rfl
set_option maxRecDepth 100000 in
theorem wd_1735 : Cond.instanceMethod yX12_winds ∈ w_ws := wq_s7 (i := 182) rfl rfl
set_option maxRecDepth 100000 in
theorem wd_1736 : Cond.code yX12_winds prog_14_method_81_code 8 (Option.none : Option Jvm.ClassFile.FieldType) ∈ w_ws := wq_s7 (i := 183) rfl rfl
set_option maxRecDepth 100000 in
theorem wd_1737 : Cond.methodLink RX12 366 yX12_thumbs ∈ w_ws := wq_s7 (i := 184) rfl rfl
set_option maxRecDepth 100000 in
theorem wd_1739 : Cond.instanceMethod yX12_thumbs ∈ w_ws := wq_s7 (i := 186) rfl rfl
set_option maxRecDepth 100000 in
theorem wd_1740 : Cond.code yX12_thumbs prog_14_method_72_code 1 (Option.some Jvm.ClassFile.FieldType.int) ∈ w_ws := wq_s7 (i := 187) rfl rfl
set_option maxRecDepth 100000 in
theorem wd_1741 : Cond.methodLink RX12 381 yX12_draw ∈ w_ws := wq_s7 (i := 188) rfl rfl
set_option maxRecDepth 100000 in
theorem wd_1743 : Cond.instanceMethod yX12_draw ∈ w_ws := wq_s7 (i := 190) rfl rfl
set_option maxRecDepth 100000 in
theorem wd_1744 : Cond.code yX12_draw prog_14_method_14_code 2 (Option.some Jvm.ClassFile.FieldType.int) ∈ w_ws := wq_s7 (i := 191) rfl rfl
set_option maxRecDepth 100000 in
theorem wd_1745 : (Cond.constant "WoundTapeModel" (93 : Nat) (1664525 : Int32)) ∈ w_ws := wq_s7 (i := 192) rfl rfl
set_option maxRecDepth 100000 in
theorem wd_1746 : (Cond.constant "WoundTapeModel" (94 : Nat) (1013904223 : Int32)) ∈ w_ws := wq_s7 (i := 193) rfl rfl
set_option maxRecDepth 100000 in
theorem wd_1747 : Cond.methodLink RX12 384 yX12_knowsWound ∈ w_ws := wq_s7 (i := 194) rfl rfl
set_option maxRecDepth 100000 in
theorem wd_1749 : Cond.instanceMethod yX12_knowsWound ∈ w_ws := wq_s7 (i := 196) rfl rfl
set_option maxRecDepth 100000 in
theorem wd_1750 : Cond.code yX12_knowsWound prog_14_method_79_code 5 (Option.none : Option Jvm.ClassFile.FieldType) ∈ w_ws := wq_s7 (i := 197) rfl rfl
set_option maxRecDepth 100000 in
theorem wd_1751 : Cond.methodLink RX12 369 yX12_heldBy ∈ w_ws := wq_s7 (i := 198) rfl rfl
set_option maxRecDepth 100000 in
theorem wd_1753 : Cond.instanceMethod yX12_heldBy ∈ w_ws := wq_s7 (i := 200) rfl rfl
set_option maxRecDepth 100000 in
theorem wd_1754 : Cond.code yX12_heldBy prog_14_method_73_code 3 (Option.some Jvm.ClassFile.FieldType.int) ∈ w_ws := wq_s7 (i := 201) rfl rfl
set_option maxRecDepth 100000 in
theorem wd_1755 : Cond.methodLink RX12 372 yX12_runsTo ∈ w_ws := wq_s7 (i := 202) rfl rfl
set_option maxRecDepth 100000 in
theorem wd_1757 : Cond.instanceMethod yX12_runsTo ∈ w_ws := wq_s7 (i := 204) rfl rfl
set_option maxRecDepth 100000 in
theorem wd_1758 : Cond.code yX12_runsTo prog_14_method_71_code 6 (Option.some Jvm.ClassFile.FieldType.int) ∈ w_ws := wq_s7 (i := 205) rfl rfl
set_option maxRecDepth 100000 in
theorem wd_1759 : Cond.methodLink RX12 356 yX12_speedAt ∈ w_ws := wq_s7 (i := 206) rfl rfl
set_option maxRecDepth 100000 in
theorem wd_1761 : Cond.instanceMethod yX12_speedAt ∈ w_ws := wq_s7 (i := 208) rfl rfl
set_option maxRecDepth 100000 in
theorem wd_1762 : Cond.code yX12_speedAt prog_14_method_67_code 4 (Option.some Jvm.ClassFile.FieldType.int) ∈ w_ws := wq_s7 (i := 209) rfl rfl
set_option maxRecDepth 100000 in
theorem wd_1763 : Cond.methodLink RX12 343 yX12_fullAt ∈ w_ws := wq_s7 (i := 210) rfl rfl
set_option maxRecDepth 100000 in
theorem wd_1765 : Cond.instanceMethod yX12_fullAt ∈ w_ws := wq_s7 (i := 212) rfl rfl
set_option maxRecDepth 100000 in
theorem wd_1766 : Cond.code yX12_fullAt prog_14_method_65_code 2 (Option.some Jvm.ClassFile.FieldType.int) ∈ w_ws := wq_s7 (i := 213) rfl rfl
set_option maxRecDepth 100000 in
theorem wd_1767 : Cond.methodLink RX12 352 yX12_says ∈ w_ws := wq_s7 (i := 214) rfl rfl
set_option maxRecDepth 100000 in
theorem wd_1769 : Cond.instanceMethod yX12_says ∈ w_ws := wq_s7 (i := 216) rfl rfl
set_option maxRecDepth 100000 in
theorem wd_1770 : Cond.code yX12_says prog_14_method_66_code 10 (Option.some Jvm.ClassFile.FieldType.int) ∈ w_ws := wq_s7 (i := 217) rfl rfl
set_option maxRecDepth 100000 in
theorem wd_1771 : Cond.methodLink RX12 340 yX12_heardAt ∈ w_ws := wq_s7 (i := 218) rfl rfl
set_option maxRecDepth 100000 in
theorem wd_1773 : Cond.instanceMethod yX12_heardAt ∈ w_ws := wq_s7 (i := 220) rfl rfl
set_option maxRecDepth 100000 in
theorem wd_1774 : Cond.code yX12_heardAt prog_14_method_9_code 3 (Option.some Jvm.ClassFile.FieldType.int) ∈ w_ws := wq_s7 (i := 221) rfl rfl
set_option maxRecDepth 100000 in
theorem wd_1775 : Cond.methodLink RX12 346 yX12_isSo ∈ w_ws := wq_s7 (i := 222) rfl rfl
set_option maxRecDepth 100000 in
theorem wd_1777 : Cond.instanceMethod yX12_isSo ∈ w_ws := wq_s7 (i := 224) rfl rfl
set_option maxRecDepth 100000 in
theorem wd_1778 : Cond.code yX12_isSo prog_14_method_64_code 2 (Option.some Jvm.ClassFile.FieldType.boolean) ∈ w_ws := wq_s7 (i := 225) rfl rfl
set_option maxRecDepth 100000 in
theorem wd_1779 : Cond.methodLink RX12 337 yX12_comesTo ∈ w_ws := wq_s7 (i := 226) rfl rfl
set_option maxRecDepth 100000 in
theorem wd_1781 : Cond.instanceMethod yX12_comesTo ∈ w_ws := wq_s7 (i := 228) rfl rfl
set_option maxRecDepth 100000 in
theorem wd_1782 : Cond.code yX12_comesTo prog_14_method_63_code 8 (Option.some Jvm.ClassFile.FieldType.int) ∈ w_ws := wq_s7 (i := 229) rfl rfl
set_option maxRecDepth 100000 in
theorem wd_1783 : Cond.methodLink RX12 333 yX12_both ∈ w_ws := wq_s7 (i := 230) rfl rfl
set_option maxRecDepth 100000 in
theorem wd_1784 : Cond.static yX12_both ∈ w_ws := wq_s7 (i := 231) rfl rfl
set_option maxRecDepth 100000 in
theorem wd_1785 : Cond.code yX12_both prog_14_method_62_code 3 (Option.some Jvm.ClassFile.FieldType.int) ∈ w_ws := wq_s7 (i := 232) rfl rfl
set_option maxRecDepth 100000 in
theorem wd_1786 : Cond.methodLink RX12 349 yX12_lesser ∈ w_ws := wq_s7 (i := 233) rfl rfl
set_option maxRecDepth 100000 in
theorem wd_1787 : Cond.static yX12_lesser ∈ w_ws := wq_s7 (i := 234) rfl rfl
set_option maxRecDepth 100000 in
theorem wd_1788 : Cond.code yX12_lesser prog_14_method_3_code 2 (Option.some Jvm.ClassFile.FieldType.int) ∈ w_ws := wq_s7 (i := 235) rfl rfl
set_option maxRecDepth 100000 in
theorem wd_1789 : Cond.methodLink RX12 360 yX12_going ∈ w_ws := wq_s7 (i := 236) rfl rfl
set_option maxRecDepth 100000 in
theorem wd_1791 : Cond.instanceMethod yX12_going ∈ w_ws := wq_s7 (i := 238) rfl rfl
set_option maxRecDepth 100000 in
theorem wd_1792 : Cond.code yX12_going prog_14_method_70_code 4 (Option.some Jvm.ClassFile.FieldType.int) ∈ w_ws := wq_s7 (i := 239) rfl rfl
set_option maxRecDepth 100000 in
theorem wd_1793 : Cond.methodLink RX12 363 yX12_lateAt ∈ w_ws := wq_s8 (i := 0) rfl rfl
set_option maxRecDepth 100000 in
theorem wd_1795 : Cond.instanceMethod yX12_lateAt ∈ w_ws := wq_s8 (i := 2) rfl rfl
set_option maxRecDepth 100000 in
theorem wd_1796 : Cond.code yX12_lateAt prog_14_method_68_code 4 (Option.some Jvm.ClassFile.FieldType.int) ∈ w_ws := wq_s8 (i := 3) rfl rfl
set_option maxRecDepth 100000 in
theorem wd_1797 : Cond.methodLink RX12 375 yX12_knowsNext ∈ w_ws := wq_s8 (i := 4) rfl rfl
set_option maxRecDepth 100000 in
theorem wd_1799 : Cond.instanceMethod yX12_knowsNext ∈ w_ws := wq_s8 (i := 6) rfl rfl
set_option maxRecDepth 100000 in
theorem wd_1800 : Cond.code yX12_knowsNext prog_14_method_78_code 2 (Option.none : Option Jvm.ClassFile.FieldType) ∈ w_ws := wq_s8 (i := 7) rfl rfl
set_option maxRecDepth 100000 in
theorem wd_1801 : Cond.methodLink RX12 388 yX12_slipAt ∈ w_ws := wq_s8 (i := 8) rfl rfl
set_option maxRecDepth 100000 in
theorem wd_1803 : Cond.instanceMethod yX12_slipAt ∈ w_ws := wq_s8 (i := 10) rfl rfl
set_option maxRecDepth 100000 in
theorem wd_1804 : Cond.code yX12_slipAt prog_14_method_69_code 4 (Option.some Jvm.ClassFile.FieldType.int) ∈ w_ws := wq_s8 (i := 11) rfl rfl
set_option maxRecDepth 100000 in
theorem wd_1805 : Cond.methodLink RX12 391 yX12_goesBy ∈ w_ws := wq_s8 (i := 12) rfl rfl
set_option maxRecDepth 100000 in
theorem wd_1807 : Cond.instanceMethod yX12_goesBy ∈ w_ws := wq_s8 (i := 14) rfl rfl
set_option maxRecDepth 100000 in
theorem wd_1808 : Cond.code yX12_goesBy prog_14_method_80_code 5 (Option.none : Option Jvm.ClassFile.FieldType) ∈ w_ws := wq_s8 (i := 15) rfl rfl
set_option maxRecDepth 100000 in
theorem wd_1809 : Cond.methodLink RX12 378 yX12_counts ∈ w_ws := wq_s8 (i := 16) rfl rfl
set_option maxRecDepth 100000 in
theorem wd_1811 : Cond.instanceMethod yX12_counts ∈ w_ws := wq_s8 (i := 18) rfl rfl
set_option maxRecDepth 100000 in
theorem wd_1812 : Cond.code yX12_counts prog_14_method_77_code 2 (Option.none : Option Jvm.ClassFile.FieldType) ∈ w_ws := wq_s8 (i := 19) rfl rfl
set_option maxRecDepth 100000 in
theorem wd_1813 : Cond.methodLink RL 36 yX12_hear ∈ w_ws := wq_s8 (i := 20) rfl rfl
set_option maxRecDepth 100000 in
theorem wd_1814 : Cond.instanceMethod yX12_hear ∈ w_ws := wq_s8 (i := 21) rfl rfl
set_option maxRecDepth 100000 in
theorem wd_1815 : Cond.selects RX12 yX12_hear yX12_hear ∈ w_ws := wq_s8 (i := 22) rfl rfl
set_option maxRecDepth 100000 in
theorem wd_1816 : Cond.code yX12_hear prog_14_method_86_code 2 (Option.some Jvm.ClassFile.FieldType.int) ∈ w_ws := wq_s8 (i := 23) rfl rfl
set_option maxRecDepth 100000 in
theorem wd_1817 : Cond.methodLink RX12 407 yX12_hears ∈ w_ws := wq_s8 (i := 24) rfl rfl
set_option maxRecDepth 100000 in
theorem wd_1819 : Cond.instanceMethod yX12_hears ∈ w_ws := wq_s8 (i := 26) rfl rfl
set_option maxRecDepth 100000 in
theorem wd_1820 : Cond.code yX12_hears prog_14_method_82_code 5 (Option.some Jvm.ClassFile.FieldType.int) ∈ w_ws := wq_s8 (i := 27) rfl rfl
set_option maxRecDepth 100000 in
theorem wd_1821 : Cond.methodLink RL 41 yX12_turn ∈ w_ws := wq_s8 (i := 28) rfl rfl
set_option maxRecDepth 100000 in
theorem wd_1822 : Cond.instanceMethod yX12_turn ∈ w_ws := wq_s8 (i := 29) rfl rfl
set_option maxRecDepth 100000 in
theorem wd_1823 : Cond.selects RX12 yX12_turn yX12_turn ∈ w_ws := wq_s8 (i := 30) rfl rfl
set_option maxRecDepth 100000 in
theorem wd_1824 : Cond.code yX12_turn prog_14_method_87_code 1 (Option.some Jvm.ClassFile.FieldType.int) ∈ w_ws := wq_s8 (i := 31) rfl rfl
set_option maxRecDepth 100000 in
theorem wd_1825 : Cond.methodLink RX12 410 yX12_turnsOver ∈ w_ws := wq_s8 (i := 32) rfl rfl
set_option maxRecDepth 100000 in
theorem wd_1827 : Cond.instanceMethod yX12_turnsOver ∈ w_ws := wq_s8 (i := 34) rfl rfl
set_option maxRecDepth 100000 in
theorem wd_1828 : Cond.code yX12_turnsOver prog_14_method_83_code 2 (Option.none : Option Jvm.ClassFile.FieldType) ∈ w_ws := wq_s8 (i := 35) rfl rfl
set_option maxRecDepth 100000 in
theorem wd_1829 : Cond.methodLink RL 45 yX12_evening ∈ w_ws := wq_s8 (i := 36) rfl rfl
set_option maxRecDepth 100000 in
theorem wd_1830 : Cond.instanceMethod yX12_evening ∈ w_ws := wq_s8 (i := 37) rfl rfl
set_option maxRecDepth 100000 in
theorem wd_1831 : Cond.selects RX12 yX12_evening yX12_evening ∈ w_ws := wq_s8 (i := 38) rfl rfl
set_option maxRecDepth 100000 in
theorem wd_1832 : Cond.code yX12_evening prog_14_method_88_code 3 (Option.some Jvm.ClassFile.FieldType.int) ∈ w_ws := wq_s8 (i := 39) rfl rfl
set_option maxRecDepth 100000 in
theorem wd_1833 : Cond.methodLink RL 67 yX12_song ∈ w_ws := wq_s8 (i := 40) rfl rfl
set_option maxRecDepth 100000 in
theorem wd_1834 : Cond.instanceMethod yX12_song ∈ w_ws := wq_s8 (i := 41) rfl rfl
set_option maxRecDepth 100000 in
theorem wd_1835 : Cond.selects RX12 yX12_song yX12_song ∈ w_ws := wq_s8 (i := 42) rfl rfl
set_option maxRecDepth 100000 in
theorem wd_1836 : Cond.code yX12_song prog_14_method_89_code 3 (Option.some Jvm.ClassFile.FieldType.int) ∈ w_ws := wq_s8 (i := 43) rfl rfl
set_option maxRecDepth 100000 in
theorem wd_1837 : Cond.methodLink RX12 75 yX12_isSong ∈ w_ws := wq_s8 (i := 44) rfl rfl
set_option maxRecDepth 100000 in
theorem wd_1839 : Cond.instanceMethod yX12_isSong ∈ w_ws := wq_s8 (i := 46) rfl rfl
set_option maxRecDepth 100000 in
theorem wd_1840 : Cond.code yX12_isSong prog_14_method_5_code 2 (Option.some Jvm.ClassFile.FieldType.boolean) ∈ w_ws := wq_s8 (i := 47) rfl rfl
set_option maxRecDepth 100000 in
theorem wd_1841 : Cond.methodLink RX12 79 yX12_ofSong ∈ w_ws := wq_s8 (i := 48) rfl rfl
set_option maxRecDepth 100000 in
theorem wd_1843 : Cond.instanceMethod yX12_ofSong ∈ w_ws := wq_s8 (i := 50) rfl rfl
set_option maxRecDepth 100000 in
theorem wd_1844 : Cond.code yX12_ofSong prog_14_method_7_code 3 (Option.some Jvm.ClassFile.FieldType.int) ∈ w_ws := wq_s8 (i := 51) rfl rfl
set_option maxRecDepth 100000 in
theorem wd_1845 : Cond.methodLink RL 71 yX12_at ∈ w_ws := wq_s8 (i := 52) rfl rfl
set_option maxRecDepth 100000 in
theorem wd_1846 : Cond.instanceMethod yX12_at ∈ w_ws := wq_s8 (i := 53) rfl rfl
set_option maxRecDepth 100000 in
theorem wd_1847 : Cond.selects RX12 yX12_at yX12_at ∈ w_ws := wq_s8 (i := 54) rfl rfl
set_option maxRecDepth 100000 in
theorem wd_1848 : Cond.code yX12_at prog_14_method_90_code 3 (Option.some Jvm.ClassFile.FieldType.int) ∈ w_ws := wq_s8 (i := 55) rfl rfl
set_option maxRecDepth 100000 in
theorem wd_1849 : Cond.methodLink RL 75 yX12_after ∈ w_ws := wq_s8 (i := 56) rfl rfl
set_option maxRecDepth 100000 in
theorem wd_1850 : Cond.instanceMethod yX12_after ∈ w_ws := wq_s8 (i := 57) rfl rfl
set_option maxRecDepth 100000 in
theorem wd_1851 : Cond.selects RX12 yX12_after yX12_after ∈ w_ws := wq_s8 (i := 58) rfl rfl
set_option maxRecDepth 100000 in
theorem wd_1852 : Cond.code yX12_after prog_14_method_91_code 3 (Option.some Jvm.ClassFile.FieldType.int) ∈ w_ws := wq_s8 (i := 59) rfl rfl
set_option maxRecDepth 100000 in
theorem wd_1853 : Cond.methodLink RL 79 yX12_known ∈ w_ws := wq_s8 (i := 60) rfl rfl
set_option maxRecDepth 100000 in
theorem wd_1854 : Cond.instanceMethod yX12_known ∈ w_ws := wq_s8 (i := 61) rfl rfl
set_option maxRecDepth 100000 in
theorem wd_1855 : Cond.selects RX12 yX12_known yX12_known ∈ w_ws := wq_s8 (i := 62) rfl rfl
set_option maxRecDepth 100000 in
theorem wd_1856 : Cond.code yX12_known prog_14_method_92_code 2 (Option.some Jvm.ClassFile.FieldType.int) ∈ w_ws := wq_s8 (i := 63) rfl rfl
set_option maxRecDepth 100000 in
theorem wd_1857 : Cond.methodLink RL 84 yX12_lawAt ∈ w_ws := wq_s8 (i := 64) rfl rfl
set_option maxRecDepth 100000 in
theorem wd_1858 : Cond.instanceMethod yX12_lawAt ∈ w_ws := wq_s8 (i := 65) rfl rfl
set_option maxRecDepth 100000 in
theorem wd_1859 : Cond.selects RX12 yX12_lawAt yX12_lawAt ∈ w_ws := wq_s8 (i := 66) rfl rfl
set_option maxRecDepth 100000 in
theorem wd_1860 : Cond.code yX12_lawAt prog_14_method_93_code 5 (Option.some Jvm.ClassFile.FieldType.int) ∈ w_ws := wq_s8 (i := 67) rfl rfl
set_option maxRecDepth 100000 in
theorem wd_1861 : Cond.methodLink RL 88 yX12_book ∈ w_ws := wq_s8 (i := 68) rfl rfl
set_option maxRecDepth 100000 in
theorem wd_1862 : Cond.instanceMethod yX12_book ∈ w_ws := wq_s8 (i := 69) rfl rfl
set_option maxRecDepth 100000 in
theorem wd_1863 : Cond.selects RX12 yX12_book yX12_book ∈ w_ws := wq_s8 (i := 70) rfl rfl
set_option maxRecDepth 100000 in
theorem wd_1864 : Cond.code yX12_book prog_14_method_94_code 3 (Option.some Jvm.ClassFile.FieldType.int) ∈ w_ws := wq_s8 (i := 71) rfl rfl
set_option maxRecDepth 100000 in
theorem wd_1865 : Cond.methodLink RL 93 yX12_runs ∈ w_ws := wq_s8 (i := 72) rfl rfl
set_option maxRecDepth 100000 in
theorem wd_1866 : Cond.instanceMethod yX12_runs ∈ w_ws := wq_s8 (i := 73) rfl rfl
set_option maxRecDepth 100000 in
theorem wd_1867 : Cond.selects RX12 yX12_runs yX12_runs ∈ w_ws := wq_s8 (i := 74) rfl rfl
set_option maxRecDepth 100000 in
theorem wd_1868 : Cond.code yX12_runs prog_14_method_95_code 4 (Option.some Jvm.ClassFile.FieldType.int) ∈ w_ws := wq_s8 (i := 75) rfl rfl
set_option maxRecDepth 100000 in
theorem wd_1869 : Cond.methodLink RL 98 yX12_soonest ∈ w_ws := wq_s8 (i := 76) rfl rfl
set_option maxRecDepth 100000 in
theorem wd_1870 : Cond.instanceMethod yX12_soonest ∈ w_ws := wq_s8 (i := 77) rfl rfl
set_option maxRecDepth 100000 in
theorem wd_1871 : Cond.selects RX12 yX12_soonest yX12_soonest ∈ w_ws := wq_s8 (i := 78) rfl rfl
set_option maxRecDepth 100000 in
theorem wd_1872 : Cond.code yX12_soonest prog_14_method_98_code 5 (Option.some Jvm.ClassFile.FieldType.int) ∈ w_ws := wq_s8 (i := 79) rfl rfl
set_option maxRecDepth 100000 in
theorem wd_1873 : Cond.methodLink RX12 427 yX12_isOn ∈ w_ws := wq_s8 (i := 80) rfl rfl
set_option maxRecDepth 100000 in
theorem wd_1875 : Cond.instanceMethod yX12_isOn ∈ w_ws := wq_s8 (i := 82) rfl rfl
set_option maxRecDepth 100000 in
theorem wd_1876 : Cond.code yX12_isOn prog_14_method_8_code 3 (Option.some Jvm.ClassFile.FieldType.boolean) ∈ w_ws := wq_s8 (i := 83) rfl rfl
set_option maxRecDepth 100000 in
theorem wd_1877 : Cond.methodLink RX12 430 yX12_seeksSoonest ∈ w_ws := wq_s8 (i := 84) rfl rfl
set_option maxRecDepth 100000 in
theorem wd_1879 : Cond.instanceMethod yX12_seeksSoonest ∈ w_ws := wq_s8 (i := 86) rfl rfl
set_option maxRecDepth 100000 in
theorem wd_1880 : Cond.code yX12_seeksSoonest prog_14_method_97_code 6 (Option.none : Option Jvm.ClassFile.FieldType) ∈ w_ws := wq_s8 (i := 87) rfl rfl
set_option maxRecDepth 100000 in
theorem wd_1881 : (Cond.constant "WoundTapeModel" (413 : Nat) (100000000 : Int32)) ∈ w_ws := wq_s8 (i := 88) rfl rfl
set_option maxRecDepth 100000 in
theorem wd_1882 : Cond.methodLink RX12 423 yX12_costOf ∈ w_ws := wq_s8 (i := 89) rfl rfl
set_option maxRecDepth 100000 in
theorem wd_1884 : Cond.instanceMethod yX12_costOf ∈ w_ws := wq_s8 (i := 91) rfl rfl
set_option maxRecDepth 100000 in
theorem wd_1885 : Cond.code yX12_costOf prog_14_method_96_code 9 (Option.some Jvm.ClassFile.FieldType.int) ∈ w_ws := wq_s8 (i := 92) rfl rfl
set_option maxRecDepth 100000 in
theorem wd_1886 : Cond.methodLink RL 102 yX12_turned ∈ w_ws := wq_s8 (i := 93) rfl rfl
set_option maxRecDepth 100000 in
theorem wd_1887 : Cond.instanceMethod yX12_turned ∈ w_ws := wq_s8 (i := 94) rfl rfl
set_option maxRecDepth 100000 in
theorem wd_1888 : Cond.selects RX12 yX12_turned yX12_turned ∈ w_ws := wq_s8 (i := 95) rfl rfl
set_option maxRecDepth 100000 in
theorem wd_1889 : Cond.code yX12_turned prog_14_method_99_code 3 (Option.some Jvm.ClassFile.FieldType.int) ∈ w_ws := wq_s8 (i := 96) rfl rfl
set_option maxRecDepth 100000 in
theorem wd_1890 : Cond.methodLink RL 106 yX12_unsure ∈ w_ws := wq_s8 (i := 97) rfl rfl
set_option maxRecDepth 100000 in
theorem wd_1891 : Cond.instanceMethod yX12_unsure ∈ w_ws := wq_s8 (i := 98) rfl rfl
set_option maxRecDepth 100000 in
theorem wd_1892 : Cond.selects RX12 yX12_unsure yX12_unsure ∈ w_ws := wq_s8 (i := 99) rfl rfl
set_option maxRecDepth 100000 in
theorem wd_1893 : Cond.code yX12_unsure prog_14_method_101_code 4 (Option.some Jvm.ClassFile.FieldType.int) ∈ w_ws := wq_s8 (i := 100) rfl rfl
set_option maxRecDepth 100000 in
theorem wd_1894 : Cond.methodLink RX12 433 yX12_mayHear ∈ w_ws := wq_s8 (i := 101) rfl rfl
set_option maxRecDepth 100000 in
theorem wd_1896 : Cond.instanceMethod yX12_mayHear ∈ w_ws := wq_s8 (i := 103) rfl rfl
set_option maxRecDepth 100000 in
theorem wd_1897 : Cond.code yX12_mayHear prog_14_method_100_code 3 (Option.some Jvm.ClassFile.FieldType.boolean) ∈ w_ws := wq_s8 (i := 104) rfl rfl
set_option maxRecDepth 100000 in
theorem wd_1898 : Cond.methodLink RL 110 yX12_tells ∈ w_ws := wq_s8 (i := 105) rfl rfl
set_option maxRecDepth 100000 in
theorem wd_1899 : Cond.instanceMethod yX12_tells ∈ w_ws := wq_s8 (i := 106) rfl rfl
set_option maxRecDepth 100000 in
theorem wd_1900 : Cond.selects RX12 yX12_tells yX12_tells ∈ w_ws := wq_s8 (i := 107) rfl rfl
set_option maxRecDepth 100000 in
theorem wd_1901 : Cond.code yX12_tells prog_14_method_104_code 8 (Option.some Jvm.ClassFile.FieldType.int) ∈ w_ws := wq_s8 (i := 108) rfl rfl
set_option maxRecDepth 100000 in
theorem wd_1902 : Cond.methodLink RX12 436 yX12_laysRuns ∈ w_ws := wq_s8 (i := 109) rfl rfl
set_option maxRecDepth 100000 in
theorem wd_1904 : Cond.instanceMethod yX12_laysRuns ∈ w_ws := wq_s8 (i := 111) rfl rfl
set_option maxRecDepth 100000 in
theorem wd_1905 : Cond.code yX12_laysRuns prog_14_method_102_code 4 (Option.none : Option Jvm.ClassFile.FieldType) ∈ w_ws := wq_s8 (i := 112) rfl rfl
set_option maxRecDepth 100000 in
theorem wd_1906 : Cond.methodLink RX12 439 yX12_mostAlike ∈ w_ws := wq_s8 (i := 113) rfl rfl
set_option maxRecDepth 100000 in
theorem wd_1908 : Cond.instanceMethod yX12_mostAlike ∈ w_ws := wq_s8 (i := 115) rfl rfl
set_option maxRecDepth 100000 in
theorem wd_1909 : Cond.code yX12_mostAlike prog_14_method_103_code 7 (Option.some Jvm.ClassFile.FieldType.int) ∈ w_ws := wq_s8 (i := 116) rfl rfl
set_option maxRecDepth 100000 in
theorem wd_1910 : Cond.methodLink RL 114 yX12_card ∈ w_ws := wq_s8 (i := 117) rfl rfl
set_option maxRecDepth 100000 in
theorem wd_1911 : Cond.instanceMethod yX12_card ∈ w_ws := wq_s8 (i := 118) rfl rfl
set_option maxRecDepth 100000 in
theorem wd_1912 : Cond.selects RX12 yX12_card yX12_card ∈ w_ws := wq_s8 (i := 119) rfl rfl
set_option maxRecDepth 100000 in
theorem wd_1913 : Cond.code yX12_card prog_14_method_108_code 7 (Option.some Jvm.ClassFile.FieldType.int) ∈ w_ws := wq_s8 (i := 120) rfl rfl
set_option maxRecDepth 100000 in
theorem wd_1914 : Cond.methodLink RX12 442 yX12_songsOn ∈ w_ws := wq_s8 (i := 121) rfl rfl
set_option maxRecDepth 100000 in
theorem wd_1916 : Cond.instanceMethod yX12_songsOn ∈ w_ws := wq_s8 (i := 123) rfl rfl
set_option maxRecDepth 100000 in
theorem wd_1917 : Cond.code yX12_songsOn prog_14_method_107_code 4 (Option.some Jvm.ClassFile.FieldType.int) ∈ w_ws := wq_s8 (i := 124) rfl rfl
set_option maxRecDepth 100000 in
theorem wd_1918 : Cond.methodLink RX12 445 yX12_count ∈ w_ws := wq_s8 (i := 125) rfl rfl
set_option maxRecDepth 100000 in
theorem wd_1919 : Cond.static yX12_count ∈ w_ws := wq_s8 (i := 126) rfl rfl
set_option maxRecDepth 100000 in
theorem wd_1920 : Cond.code yX12_count prog_14_method_106_code 3 (Option.some Jvm.ClassFile.FieldType.int) ∈ w_ws := wq_s8 (i := 127) rfl rfl
set_option maxRecDepth 100000 in
theorem wd_1921 : Cond.methodLink RX12 448 yX12_cardOf ∈ w_ws := wq_s8 (i := 128) rfl rfl
set_option maxRecDepth 100000 in
theorem wd_1923 : Cond.instanceMethod yX12_cardOf ∈ w_ws := wq_s8 (i := 130) rfl rfl
set_option maxRecDepth 100000 in
theorem wd_1924 : Cond.code yX12_cardOf prog_14_method_105_code 6 (Option.some Jvm.ClassFile.FieldType.int) ∈ w_ws := wq_s8 (i := 131) rfl rfl
set_option maxRecDepth 100000 in
theorem wd_1925 : Cond.methodLink RL 118 yX12_order ∈ w_ws := wq_s8 (i := 132) rfl rfl
set_option maxRecDepth 100000 in
theorem wd_1926 : Cond.instanceMethod yX12_order ∈ w_ws := wq_s8 (i := 133) rfl rfl
set_option maxRecDepth 100000 in
theorem wd_1927 : Cond.selects RX12 yX12_order yX12_order ∈ w_ws := wq_s8 (i := 134) rfl rfl
set_option maxRecDepth 100000 in
theorem wd_1928 : Cond.code yX12_order prog_14_method_111_code 4 (Option.some Jvm.ClassFile.FieldType.int) ∈ w_ws := wq_s8 (i := 135) rfl rfl
set_option maxRecDepth 100000 in
theorem wd_1929 : Cond.methodLink RX12 457 yX12_orders ∈ w_ws := wq_s8 (i := 136) rfl rfl
set_option maxRecDepth 100000 in
theorem wd_1931 : Cond.instanceMethod yX12_orders ∈ w_ws := wq_s8 (i := 138) rfl rfl
set_option maxRecDepth 100000 in
theorem wd_1932 : Cond.code yX12_orders prog_14_method_110_code 5 (Option.none : Option Jvm.ClassFile.FieldType) ∈ w_ws := wq_s8 (i := 139) rfl rfl
set_option maxRecDepth 100000 in
theorem wd_1933 : Cond.methodLink RX12 451 yX12_orderCost ∈ w_ws := wq_s8 (i := 140) rfl rfl
set_option maxRecDepth 100000 in
theorem wd_1935 : Cond.instanceMethod yX12_orderCost ∈ w_ws := wq_s8 (i := 142) rfl rfl
set_option maxRecDepth 100000 in
theorem wd_1936 : Cond.code yX12_orderCost prog_14_method_109_code 7 (Option.some Jvm.ClassFile.FieldType.int) ∈ w_ws := wq_s8 (i := 143) rfl rfl
set_option maxRecDepth 100000 in
theorem wd_1937 : Cond.methodLink RL 122 yX12_halves ∈ w_ws := wq_s8 (i := 144) rfl rfl
set_option maxRecDepth 100000 in
theorem wd_1938 : Cond.instanceMethod yX12_halves ∈ w_ws := wq_s8 (i := 145) rfl rfl
set_option maxRecDepth 100000 in
theorem wd_1939 : Cond.selects RX12 yX12_halves yX12_halves ∈ w_ws := wq_s8 (i := 146) rfl rfl
set_option maxRecDepth 100000 in
theorem wd_1940 : Cond.code yX12_halves prog_14_method_113_code 9 (Option.some Jvm.ClassFile.FieldType.int) ∈ w_ws := wq_s8 (i := 147) rfl rfl
set_option maxRecDepth 100000 in
theorem wd_1941 : Cond.methodLink RX12 460 yX12_longOf ∈ w_ws := wq_s8 (i := 148) rfl rfl
set_option maxRecDepth 100000 in
theorem wd_1943 : Cond.instanceMethod yX12_longOf ∈ w_ws := wq_s8 (i := 150) rfl rfl
set_option maxRecDepth 100000 in
theorem wd_1944 : Cond.code yX12_longOf prog_14_method_112_code 4 (Option.some Jvm.ClassFile.FieldType.int) ∈ w_ws := wq_s8 (i := 151) rfl rfl
set_option maxRecDepth 100000 in
theorem wd_1945 : Cond.methodLink RL 126 yX12_worn ∈ w_ws := wq_s8 (i := 152) rfl rfl
set_option maxRecDepth 100000 in
theorem wd_1946 : Cond.instanceMethod yX12_worn ∈ w_ws := wq_s8 (i := 153) rfl rfl
set_option maxRecDepth 100000 in
theorem wd_1947 : Cond.selects RX12 yX12_worn yX12_worn ∈ w_ws := wq_s8 (i := 154) rfl rfl
set_option maxRecDepth 100000 in
theorem wd_1948 : Cond.code yX12_worn prog_14_method_114_code 3 (Option.some Jvm.ClassFile.FieldType.int) ∈ w_ws := wq_s8 (i := 155) rfl rfl
set_option maxRecDepth 100000 in
theorem wd_1949 : Cond.methodLink RL 130 yX12_sought ∈ w_ws := wq_s8 (i := 156) rfl rfl
set_option maxRecDepth 100000 in
theorem wd_1950 : Cond.instanceMethod yX12_sought ∈ w_ws := wq_s8 (i := 157) rfl rfl
set_option maxRecDepth 100000 in
theorem wd_1951 : Cond.selects RX12 yX12_sought yX12_sought ∈ w_ws := wq_s8 (i := 158) rfl rfl
set_option maxRecDepth 100000 in
theorem wd_1952 : Cond.code yX12_sought prog_14_method_116_code 2 (Option.some Jvm.ClassFile.FieldType.int) ∈ w_ws := wq_s8 (i := 159) rfl rfl
set_option maxRecDepth 100000 in
theorem wd_1953 : Cond.methodLink RX12 463 yX12_soughtOf ∈ w_ws := wq_s8 (i := 160) rfl rfl
set_option maxRecDepth 100000 in
theorem wd_1955 : Cond.instanceMethod yX12_soughtOf ∈ w_ws := wq_s8 (i := 162) rfl rfl
set_option maxRecDepth 100000 in
theorem wd_1956 : Cond.code yX12_soughtOf prog_14_method_115_code 4 (Option.some Jvm.ClassFile.FieldType.int) ∈ w_ws := wq_s8 (i := 163) rfl rfl
set_option maxRecDepth 100000 in
theorem wd_1957 : Cond.methodLink RL 134 yX12_most ∈ w_ws := wq_s8 (i := 164) rfl rfl
set_option maxRecDepth 100000 in
theorem wd_1958 : Cond.instanceMethod yX12_most ∈ w_ws := wq_s8 (i := 165) rfl rfl
set_option maxRecDepth 100000 in
theorem wd_1959 : Cond.selects RX12 yX12_most yX12_most ∈ w_ws := wq_s8 (i := 166) rfl rfl
set_option maxRecDepth 100000 in
theorem wd_1960 : Cond.code yX12_most prog_14_method_117_code 3 (Option.some Jvm.ClassFile.FieldType.int) ∈ w_ws := wq_s8 (i := 167) rfl rfl
set_option maxRecDepth 100000 in
theorem wd_1961 : Cond.methodLink RL 139 yX12_rule ∈ w_ws := wq_s8 (i := 168) rfl rfl
set_option maxRecDepth 100000 in
theorem wd_1962 : Cond.instanceMethod yX12_rule ∈ w_ws := wq_s8 (i := 169) rfl rfl
set_option maxRecDepth 100000 in
theorem wd_1963 : Cond.selects RX12 yX12_rule yX12_rule ∈ w_ws := wq_s8 (i := 170) rfl rfl
set_option maxRecDepth 100000 in
theorem wd_1964 : Cond.code yX12_rule prog_14_method_121_code 2 (Option.some Jvm.ClassFile.FieldType.long) ∈ w_ws := wq_s8 (i := 171) rfl rfl
set_option maxRecDepth 100000 in
theorem wd_1965 : Cond.methodLink RX12 472 yX12_ruled ∈ w_ws := wq_s8 (i := 172) rfl rfl
set_option maxRecDepth 100000 in
theorem wd_1967 : Cond.instanceMethod yX12_ruled ∈ w_ws := wq_s8 (i := 174) rfl rfl
set_option maxRecDepth 100000 in
theorem wd_1968 : Cond.code yX12_ruled prog_14_method_120_code 5 (Option.some Jvm.ClassFile.FieldType.long) ∈ w_ws := wq_s8 (i := 175) rfl rfl
set_option maxRecDepth 100000 in
theorem wd_1969 : Cond.methodLink RX12 469 yX12_ruledCost ∈ w_ws := wq_s8 (i := 176) rfl rfl
set_option maxRecDepth 100000 in
theorem wd_1971 : Cond.instanceMethod yX12_ruledCost ∈ w_ws := wq_s8 (i := 178) rfl rfl
set_option maxRecDepth 100000 in
theorem wd_1972 : Cond.code yX12_ruledCost prog_14_method_119_code 6 (Option.some Jvm.ClassFile.FieldType.int) ∈ w_ws := wq_s8 (i := 179) rfl rfl
set_option maxRecDepth 100000 in
theorem wd_1973 : Cond.methodLink RX12 466 yX12_leastHeld ∈ w_ws := wq_s8 (i := 180) rfl rfl
set_option maxRecDepth 100000 in
theorem wd_1975 : Cond.instanceMethod yX12_leastHeld ∈ w_ws := wq_s8 (i := 182) rfl rfl
set_option maxRecDepth 100000 in
theorem wd_1976 : Cond.code yX12_leastHeld prog_14_method_118_code 6 (Option.some Jvm.ClassFile.FieldType.int) ∈ w_ws := wq_s8 (i := 183) rfl rfl
set_option maxRecDepth 100000 in
theorem wd_1977 : (Cond.constantLong "WoundTapeModel" (476 : Nat) (-1 : Int64)) ∈ w_ws := wq_s8 (i := 184) rfl rfl
set_option maxRecDepth 100000 in
theorem wd_1978 : Cond.methodLink RL 143 yX12_best ∈ w_ws := wq_s8 (i := 185) rfl rfl
set_option maxRecDepth 100000 in
theorem wd_1979 : Cond.instanceMethod yX12_best ∈ w_ws := wq_s8 (i := 186) rfl rfl
set_option maxRecDepth 100000 in
theorem wd_1980 : Cond.selects RX12 yX12_best yX12_best ∈ w_ws := wq_s8 (i := 187) rfl rfl
set_option maxRecDepth 100000 in
theorem wd_1981 : Cond.code yX12_best prog_14_method_122_code 7 (Option.some Jvm.ClassFile.FieldType.int) ∈ w_ws := wq_s8 (i := 188) rfl rfl
set_option maxRecDepth 100000 in
theorem wd_1982 : Cond.methodLink RL 147 yX12_goes ∈ w_ws := wq_s8 (i := 189) rfl rfl
set_option maxRecDepth 100000 in
theorem wd_1983 : Cond.instanceMethod yX12_goes ∈ w_ws := wq_s8 (i := 190) rfl rfl
set_option maxRecDepth 100000 in
theorem wd_1984 : Cond.selects RX12 yX12_goes yX12_goes ∈ w_ws := wq_s8 (i := 191) rfl rfl
set_option maxRecDepth 100000 in
theorem wd_1985 : Cond.code yX12_goes prog_14_method_123_code 10 (Option.some Jvm.ClassFile.FieldType.int) ∈ w_ws := wq_s8 (i := 192) rfl rfl
set_option maxRecDepth 100000 in
theorem wd_1986 : Cond.methodLink RL 157 yX12_image ∈ w_ws := wq_s8 (i := 193) rfl rfl
set_option maxRecDepth 100000 in
theorem wd_1987 : Cond.instanceMethod yX12_image ∈ w_ws := wq_s8 (i := 194) rfl rfl
set_option maxRecDepth 100000 in
theorem wd_1988 : Cond.selects RX12 yX12_image yX12_image ∈ w_ws := wq_s8 (i := 195) rfl rfl
set_option maxRecDepth 100000 in
theorem wd_1989 : Cond.code yX12_image prog_14_method_124_code 3 (Option.some Jvm.ClassFile.FieldType.boolean) ∈ w_ws := wq_s8 (i := 196) rfl rfl
set_option maxRecDepth 100000 in
theorem wd_1990 : Cond.methodLink RL 161 yX12_look ∈ w_ws := wq_s8 (i := 197) rfl rfl
set_option maxRecDepth 100000 in
theorem wd_1991 : Cond.instanceMethod yX12_look ∈ w_ws := wq_s8 (i := 198) rfl rfl
set_option maxRecDepth 100000 in
theorem wd_1992 : Cond.selects RX12 yX12_look yX12_look ∈ w_ws := wq_s8 (i := 199) rfl rfl
set_option maxRecDepth 100000 in
theorem wd_1993 : Cond.code yX12_look prog_14_method_125_code 2 (Option.some Jvm.ClassFile.FieldType.int) ∈ w_ws := wq_s8 (i := 200) rfl rfl
set_option maxRecDepth 100000 in
theorem wd_1994 : Cond.fieldLink RJ0 15 "java/lang/String" "coder" "B" ∈ w_ws := wq_s8 (i := 201) rfl rfl
set_option maxRecDepth 100000 in
theorem wd_1995 : Cond.fieldLink RJ0 9 "java/lang/String" "value" "[B" ∈ w_ws := wq_s8 (i := 202) rfl rfl
theorem inw0 : ∀ w ∈ u_ws RX0 TX0 2, w ∈ w_ws := wq_sub _ [314, 316] (by decide +kernel) (by decide +kernel)
theorem inw1 : ∀ w ∈ u_ws RX1 TX1 1, w ∈ w_ws := wq_sub _ [326] (by decide +kernel) (by decide +kernel)
theorem inw2 : ∀ w ∈ u_ws RX2 TX2 11, w ∈ w_ws := wq_sub _ [415, 417, 419, 421, 423, 425, 427, 429, 431, 433, 435] (by decide +kernel) (by decide +kernel)
theorem inw3 : ∀ w ∈ u_ws RX3 TX3 5, w ∈ w_ws := wq_sub _ [294, 296, 298, 300, 302] (by decide +kernel) (by decide +kernel)
theorem inw4 : ∀ w ∈ u_ws RX4 TX4 8, w ∈ w_ws := wq_sub _ [259, 261, 263, 265, 267, 269, 271, 273] (by decide +kernel) (by decide +kernel)
theorem inw5 : ∀ w ∈ u_ws RX5 TX5 5, w ∈ w_ws := wq_sub _ [531, 533, 535, 537, 539] (by decide +kernel) (by decide +kernel)
theorem inw6 : ∀ w ∈ u_ws RX6 TX6 9, w ∈ w_ws := wq_sub _ [462, 464, 466, 468, 470, 472, 474, 476, 478] (by decide +kernel) (by decide +kernel)
theorem inw7 : ∀ w ∈ u_ws RX7 TX7 8, w ∈ w_ws := wq_sub _ [227, 229, 231, 233, 235, 237, 239, 241] (by decide +kernel) (by decide +kernel)
theorem inw8 : ∀ w ∈ u_ws RX8 TX8 8, w ∈ w_ws := wq_sub _ [366, 368, 370, 372, 374, 376, 378, 380] (by decide +kernel) (by decide +kernel)
theorem inw9 : ∀ w ∈ u_ws RX9 TX9 9, w ∈ w_ws := wq_sub _ [499, 501, 503, 505, 507, 509, 511, 513, 515] (by decide +kernel) (by decide +kernel)
theorem inw10 : ∀ w ∈ u_ws RX10 TX10 9, w ∈ w_ws := wq_sub _ [162, 164, 166, 168, 170, 172, 174, 176, 178] (by decide +kernel) (by decide +kernel)
theorem inw11 : ∀ w ∈ u_ws RX11 TX11 13, w ∈ w_ws := wq_sub _ [558, 560, 562, 564, 566, 568, 570, 572, 574, 576, 578, 580, 582] (by decide +kernel) (by decide +kernel)
theorem inw12 : ∀ w ∈ u_ws RX12 TX12 43, w ∈ w_ws := wq_sub _ [1399, 1401, 1403, 1405, 1407, 1409, 1411, 1413, 1415, 1417, 1419, 1421, 1423, 1425, 1427, 1429, 1431, 1433, 1435, 1437, 1439, 1441, 1443, 1445, 1447, 1449, 1451, 1453, 1455, 1457, 1459, 1461, 1463, 1465, 1467, 1469, 1471, 1473, 1475, 1477, 1479, 1481, 1483] (by decide +kernel) (by decide +kernel)
def wkdT : List (List Nat) := [[0, 2], [2], [2, 2, 2, 2, 2, 2, 0, 0, 0, 2, 2], [0, 2, 2, 2, 2], [0, 2, 2, 2, 2, 2, 0, 2], [0, 0, 2, 2, 2], [2, 2, 2, 2, 0, 0, 0, 1, 0], [0, 0, 0, 2, 2, 2, 2, 2], [0, 0, 0, 0, 0, 0, 0, 2], [2, 2, 0, 0, 0, 0, 0, 2, 2], [2, 0, 2, 2, 2, 0, 0, 0, 0], [2, 2, 2, 2, 2, 2, 2, 2, 2, 2, 2, 0, 1], [2, 2, 2, 2, 0, 1, 2, 2, 2, 2, 2, 2, 2, 2, 2, 0, 0, 0, 0, 0, 0, 0, 0, 0, 0, 0, 0, 0, 0, 0, 0, 0, 0, 0, 0, 0, 0, 2, 2, 2, 2, 2, 0]]
def wkd (ci k : Nat) : Nat := (wkdT.getD ci []).getD k 9
def wnf (ci : Nat) : Nat := (wkdT.getD ci []).length
