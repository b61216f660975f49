set_option maxRecDepth 100000 in
theorem ok_mq_Book_init : ov_okc mq_Book_init := ⟨⟨ov_dec_ok (by decide +kernel), rfl⟩, ov_inT (List.mem_append_right _ (List.mem_of_getElem? (i := 44) rfl)) (by decide +kernel), by decide +kernel, ⟨by decide +kernel, by decide +kernel, by decide +kernel⟩, ov_inT (by decide +kernel) (by decide +kernel), by decide +kernel⟩
set_option maxRecDepth 100000 in
theorem ok_mq_Book_write : ov_okc mq_Book_write := ⟨⟨ov_dec_ok (by decide +kernel), rfl⟩, ov_inT (List.mem_append_right _ (List.mem_of_getElem? (i := 646) rfl)) (by decide +kernel), by decide +kernel, ⟨by decide +kernel, by decide +kernel, by decide +kernel⟩, ov_inT (by decide +kernel) (by decide +kernel), by decide +kernel⟩
set_option maxRecDepth 100000 in
theorem ok_mq_Book_tell : ov_okc mq_Book_tell := ⟨⟨ov_dec_ok (by decide +kernel), rfl⟩, ov_inT (List.mem_append_right _ (List.mem_of_getElem? (i := 736) rfl)) (by decide +kernel), by decide +kernel, ⟨by decide +kernel, by decide +kernel, by decide +kernel⟩, ov_inT (by decide +kernel) (by decide +kernel), by decide +kernel⟩
set_option maxRecDepth 100000 in
theorem ok_mq_Book_fewestLiars : ov_okc mq_Book_fewestLiars := ⟨⟨ov_dec_ok (by decide +kernel), rfl⟩, ov_inT (List.mem_append_right _ (List.mem_of_getElem? (i := 863) rfl)) (by decide +kernel), by decide +kernel, ⟨by decide +kernel, by decide +kernel, by decide +kernel⟩, ov_inT (by decide +kernel) (by decide +kernel), by decide +kernel⟩
set_option maxRecDepth 100000 in
theorem ok_mq_Book_gatherSayers : ov_okc mq_Book_gatherSayers := ⟨⟨ov_dec_ok (by decide +kernel), rfl⟩, ov_inT (List.mem_append_right _ (List.mem_of_getElem? (i := 867) rfl)) (by decide +kernel), by decide +kernel, ⟨by decide +kernel, by decide +kernel, by decide +kernel⟩, ov_inT (by decide +kernel) (by decide +kernel), by decide +kernel⟩
set_option maxRecDepth 100000 in
theorem ok_mq_Book_agreeWithout : ov_okc mq_Book_agreeWithout := ⟨⟨ov_dec_ok (by decide +kernel), rfl⟩, ov_inT (List.mem_append_right _ (List.mem_of_getElem? (i := 879) rfl)) (by decide +kernel), by decide +kernel, ⟨by decide +kernel, by decide +kernel, by decide +kernel⟩, ov_inT (by decide +kernel) (by decide +kernel), by decide +kernel⟩
set_option maxRecDepth 100000 in
theorem ok_mq_Book_copyFrom : ov_okc mq_Book_copyFrom := ⟨⟨ov_dec_ok (by decide +kernel), rfl⟩, ov_inT (List.mem_append_right _ (List.mem_of_getElem? (i := 965) rfl)) (by decide +kernel), by decide +kernel, ⟨by decide +kernel, by decide +kernel, by decide +kernel⟩, ov_inT (by decide +kernel) (by decide +kernel), by decide +kernel⟩
set_option maxRecDepth 100000 in
theorem ok_mq_Deal_init : ov_okc mq_Deal_init := ⟨⟨ov_dec_ok (by decide +kernel), rfl⟩, ov_inT (List.mem_append_right _ (List.mem_of_getElem? (i := 362) rfl)) (by decide +kernel), by decide +kernel, ⟨by decide +kernel, by decide +kernel, by decide +kernel⟩, ov_inT (by decide +kernel) (by decide +kernel), by decide +kernel⟩
set_option maxRecDepth 100000 in
theorem ok_mq_Deal_find : ov_okc mq_Deal_find := ⟨⟨ov_dec_ok (by decide +kernel), rfl⟩, ov_inT (List.mem_append_right _ (List.mem_of_getElem? (i := 896) rfl)) (by decide +kernel), by decide +kernel, ⟨by decide +kernel, by decide +kernel, by decide +kernel⟩, ov_inT (by decide +kernel) (by decide +kernel), by decide +kernel⟩
set_option maxRecDepth 100000 in
theorem ok_mq_Deal_deal : ov_okc mq_Deal_deal := ⟨⟨ov_dec_ok (by decide +kernel), rfl⟩, ov_inT (List.mem_append_right _ (List.mem_of_getElem? (i := 903) rfl)) (by decide +kernel), by decide +kernel, ⟨by decide +kernel, by decide +kernel, by decide +kernel⟩, ov_inT (by decide +kernel) (by decide +kernel), by decide +kernel⟩
set_option maxRecDepth 100000 in
theorem ok_mq_Deal_compare : ov_okc mq_Deal_compare := ⟨⟨ov_dec_ok (by decide +kernel), rfl⟩, ov_inT (List.mem_append_right _ (List.mem_of_getElem? (i := 907) rfl)) (by decide +kernel), by decide +kernel, ⟨by decide +kernel, by decide +kernel, by decide +kernel⟩, ov_inT (by decide +kernel) (by decide +kernel), by decide +kernel⟩
set_option maxRecDepth 100000 in
theorem ok_mq_Feelers_init : ov_okc mq_Feelers_init := ⟨⟨ov_dec_ok (by decide +kernel), rfl⟩, ov_inT (List.mem_append_right _ (List.mem_of_getElem? (i := 352) rfl)) (by decide +kernel), by decide +kernel, ⟨by decide +kernel, by decide +kernel, by decide +kernel⟩, ov_inT (by decide +kernel) (by decide +kernel), by decide +kernel⟩
set_option maxRecDepth 100000 in
theorem ok_mq_Feelers_leastSum : ov_okc mq_Feelers_leastSum := ⟨⟨ov_dec_ok (by decide +kernel), rfl⟩, ov_inT (List.mem_append_right _ (List.mem_of_getElem? (i := 841) rfl)) (by decide +kernel), by decide +kernel, ⟨by decide +kernel, by decide +kernel, by decide +kernel⟩, ov_inT (by decide +kernel) (by decide +kernel), by decide +kernel⟩
set_option maxRecDepth 100000 in
theorem ok_mq_Feelers_worthiestBut : ov_okc mq_Feelers_worthiestBut := ⟨⟨ov_dec_ok (by decide +kernel), rfl⟩, ov_inT (List.mem_append_right _ (List.mem_of_getElem? (i := 847) rfl)) (by decide +kernel), by decide +kernel, ⟨by decide +kernel, by decide +kernel, by decide +kernel⟩, ov_inT (by decide +kernel) (by decide +kernel), by decide +kernel⟩
set_option maxRecDepth 100000 in
theorem ok_mq_Feelers_dealOut : ov_okc mq_Feelers_dealOut := ⟨⟨ov_dec_ok (by decide +kernel), rfl⟩, ov_inT (List.mem_append_right _ (List.mem_of_getElem? (i := 852) rfl)) (by decide +kernel), by decide +kernel, ⟨by decide +kernel, by decide +kernel, by decide +kernel⟩, ov_inT (by decide +kernel) (by decide +kernel), by decide +kernel⟩
set_option maxRecDepth 100000 in
theorem ok_mq_Person_init : ov_okc mq_Person_init := ⟨⟨ov_dec_ok (by decide +kernel), rfl⟩, ov_inT (List.mem_append_right _ (List.mem_of_getElem? (i := 195) rfl)) (by decide +kernel), by decide +kernel, ⟨by decide +kernel, by decide +kernel, by decide +kernel⟩, ov_inT (by decide +kernel) (by decide +kernel), by decide +kernel⟩
set_option maxRecDepth 100000 in
theorem ok_mq_Person_seeFact : ov_okc mq_Person_seeFact := ⟨⟨ov_dec_ok (by decide +kernel), rfl⟩, ov_inT (List.mem_append_right _ (List.mem_of_getElem? (i := 633) rfl)) (by decide +kernel), by decide +kernel, ⟨by decide +kernel, by decide +kernel, by decide +kernel⟩, ov_inT (by decide +kernel) (by decide +kernel), by decide +kernel⟩
set_option maxRecDepth 100000 in
theorem ok_mq_Person_knowledgeOf : ov_okc mq_Person_knowledgeOf := ⟨⟨ov_dec_ok (by decide +kernel), rfl⟩, ov_inT (List.mem_append_right _ (List.mem_of_getElem? (i := 642) rfl)) (by decide +kernel), by decide +kernel, ⟨by decide +kernel, by decide +kernel, by decide +kernel⟩, ov_inT (by decide +kernel) (by decide +kernel), by decide +kernel⟩
set_option maxRecDepth 100000 in
theorem ok_mq_Person_believe : ov_okc mq_Person_believe := ⟨⟨ov_dec_ok (by decide +kernel), rfl⟩, ov_inT (List.mem_append_right _ (List.mem_of_getElem? (i := 654) rfl)) (by decide +kernel), by decide +kernel, ⟨by decide +kernel, by decide +kernel, by decide +kernel⟩, ov_inT (by decide +kernel) (by decide +kernel), by decide +kernel⟩
set_option maxRecDepth 100000 in
theorem ok_mq_Person_originOf : ov_okc mq_Person_originOf := ⟨⟨ov_dec_ok (by decide +kernel), rfl⟩, ov_inT (List.mem_append_right _ (List.mem_of_getElem? (i := 703) rfl)) (by decide +kernel), by decide +kernel, ⟨by decide +kernel, by decide +kernel, by decide +kernel⟩, ov_inT (by decide +kernel) (by decide +kernel), by decide +kernel⟩
set_option maxRecDepth 100000 in
theorem ok_mq_Person_copyFrom : ov_okc mq_Person_copyFrom := ⟨⟨ov_dec_ok (by decide +kernel), rfl⟩, ov_inT (List.mem_append_right _ (List.mem_of_getElem? (i := 959) rfl)) (by decide +kernel), by decide +kernel, ⟨by decide +kernel, by decide +kernel, by decide +kernel⟩, ov_inT (by decide +kernel) (by decide +kernel), by decide +kernel⟩
set_option maxRecDepth 100000 in
theorem ok_mq_Plan_init : ov_okc mq_Plan_init := ⟨⟨ov_dec_ok (by decide +kernel), rfl⟩, ov_inT (List.mem_append_right _ (List.mem_of_getElem? (i := 116) rfl)) (by decide +kernel), by decide +kernel, ⟨by decide +kernel, by decide +kernel, by decide +kernel⟩, ov_inT (by decide +kernel) (by decide +kernel), by decide +kernel⟩
set_option maxRecDepth 100000 in
theorem ok_mq_Plan_add : ov_okc mq_Plan_add := ⟨⟨ov_dec_ok (by decide +kernel), rfl⟩, ov_inT (List.mem_append_right _ (List.mem_of_getElem? (i := 567) rfl)) (by decide +kernel), by decide +kernel, ⟨by decide +kernel, by decide +kernel, by decide +kernel⟩, ov_inT (by decide +kernel) (by decide +kernel), by decide +kernel⟩
set_option maxRecDepth 100000 in
theorem ok_mq_Plan_copyFrom : ov_okc mq_Plan_copyFrom := ⟨⟨ov_dec_ok (by decide +kernel), rfl⟩, ov_inT (List.mem_append_right _ (List.mem_of_getElem? (i := 576) rfl)) (by decide +kernel), by decide +kernel, ⟨by decide +kernel, by decide +kernel, by decide +kernel⟩, ov_inT (by decide +kernel) (by decide +kernel), by decide +kernel⟩
set_option maxRecDepth 100000 in
theorem ok_mq_Reader_init : ov_okc mq_Reader_init := ⟨⟨ov_dec_ok (by decide +kernel), rfl⟩, ov_inT (List.mem_append_right _ (List.mem_of_getElem? (i := 274) rfl)) (by decide +kernel), by decide +kernel, ⟨by decide +kernel, by decide +kernel, by decide +kernel⟩, ov_inT (by decide +kernel) (by decide +kernel), by decide +kernel⟩
set_option maxRecDepth 100000 in
theorem ok_mq_Reader_append : ov_okc mq_Reader_append := ⟨⟨ov_dec_ok (by decide +kernel), rfl⟩, ov_inT (List.mem_append_right _ (List.mem_of_getElem? (i := 443) rfl)) (by decide +kernel), by decide +kernel, ⟨by decide +kernel, by decide +kernel, by decide +kernel⟩, ov_inT (by decide +kernel) (by decide +kernel), by decide +kernel⟩
set_option maxRecDepth 100000 in
theorem ok_mq_Reader_takeTape : ov_okc mq_Reader_takeTape := ⟨⟨ov_dec_ok (by decide +kernel), rfl⟩, ov_inT (List.mem_append_right _ (List.mem_of_getElem? (i := 456) rfl)) (by decide +kernel), by decide +kernel, ⟨by decide +kernel, by decide +kernel, by decide +kernel⟩, ov_inT (by decide +kernel) (by decide +kernel), by decide +kernel⟩
set_option maxRecDepth 100000 in
theorem ok_mq_Reader_endOfRun : ov_okc mq_Reader_endOfRun := ⟨⟨ov_dec_ok (by decide +kernel), rfl⟩, ov_inT (List.mem_append_right _ (List.mem_of_getElem? (i := 460) rfl)) (by decide +kernel), by decide +kernel, ⟨by decide +kernel, by decide +kernel, by decide +kernel⟩, ov_inT (by decide +kernel) (by decide +kernel), by decide +kernel⟩
set_option maxRecDepth 100000 in
theorem ok_mq_Reader_signAt : ov_okc mq_Reader_signAt := ⟨⟨ov_dec_ok (by decide +kernel), rfl⟩, ov_inT (List.mem_append_right _ (List.mem_of_getElem? (i := 464) rfl)) (by decide +kernel), by decide +kernel, ⟨by decide +kernel, by decide +kernel, by decide +kernel⟩, ov_inT (by decide +kernel) (by decide +kernel), by decide +kernel⟩
set_option maxRecDepth 100000 in
theorem ok_mq_Reader_sortOf : ov_okc mq_Reader_sortOf := ⟨⟨ov_dec_ok (by decide +kernel), rfl⟩, ov_inT (List.mem_append_right _ (List.mem_of_getElem? (i := 467) rfl)) (by decide +kernel), by decide +kernel, ⟨by decide +kernel, by decide +kernel, by decide +kernel⟩, ov_inT (by decide +kernel) (by decide +kernel), by decide +kernel⟩
set_option maxRecDepth 100000 in
theorem ok_mq_Reader_takeToken : ov_okc mq_Reader_takeToken := ⟨⟨ov_dec_ok (by decide +kernel), rfl⟩, ov_inT (List.mem_append_right _ (List.mem_of_getElem? (i := 471) rfl)) (by decide +kernel), by decide +kernel, ⟨by decide +kernel, by decide +kernel, by decide +kernel⟩, ov_inT (by decide +kernel) (by decide +kernel), by decide +kernel⟩
set_option maxRecDepth 100000 in
theorem ok_mq_Reader_wordAt : ov_okc mq_Reader_wordAt := ⟨⟨ov_dec_ok (by decide +kernel), rfl⟩, ov_inT (List.mem_append_right _ (List.mem_of_getElem? (i := 475) rfl)) (by decide +kernel), by decide +kernel, ⟨by decide +kernel, by decide +kernel, by decide +kernel⟩, ov_inT (by decide +kernel) (by decide +kernel), by decide +kernel⟩
set_option maxRecDepth 100000 in
theorem ok_mq_Reader_isWord : ov_okc mq_Reader_isWord := ⟨⟨ov_dec_ok (by decide +kernel), rfl⟩, ov_inT (List.mem_append_right _ (List.mem_of_getElem? (i := 479) rfl)) (by decide +kernel), by decide +kernel, ⟨by decide +kernel, by decide +kernel, by decide +kernel⟩, ov_inT (by decide +kernel) (by decide +kernel), by decide +kernel⟩
set_option maxRecDepth 100000 in
theorem ok_mq_Reader_keepToken : ov_okc mq_Reader_keepToken := ⟨⟨ov_dec_ok (by decide +kernel), rfl⟩, ov_inT (List.mem_append_right _ (List.mem_of_getElem? (i := 532) rfl)) (by decide +kernel), by decide +kernel, ⟨by decide +kernel, by decide +kernel, by decide +kernel⟩, ov_inT (by decide +kernel) (by decide +kernel), by decide +kernel⟩
set_option maxRecDepth 100000 in
theorem ok_mq_Reader_valueAt : ov_okc mq_Reader_valueAt := ⟨⟨ov_dec_ok (by decide +kernel), rfl⟩, ov_inT (List.mem_append_right _ (List.mem_of_getElem? (i := 536) rfl)) (by decide +kernel), by decide +kernel, ⟨by decide +kernel, by decide +kernel, by decide +kernel⟩, ov_inT (by decide +kernel) (by decide +kernel), by decide +kernel⟩
set_option maxRecDepth 100000 in
theorem ok_mq_Reader_readPlan : ov_okc mq_Reader_readPlan := ⟨⟨ov_dec_ok (by decide +kernel), rfl⟩, ov_inT (List.mem_append_right _ (List.mem_of_getElem? (i := 540) rfl)) (by decide +kernel), by decide +kernel, ⟨by decide +kernel, by decide +kernel, by decide +kernel⟩, ov_inT (by decide +kernel) (by decide +kernel), by decide +kernel⟩
set_option maxRecDepth 100000 in
theorem ok_mq_Reader_token : ov_okc mq_Reader_token := ⟨⟨ov_dec_ok (by decide +kernel), rfl⟩, ov_inT (List.mem_append_right _ (List.mem_of_getElem? (i := 544) rfl)) (by decide +kernel), by decide +kernel, ⟨by decide +kernel, by decide +kernel, by decide +kernel⟩, ov_inT (by decide +kernel) (by decide +kernel), by decide +kernel⟩
set_option maxRecDepth 100000 in
theorem ok_mq_Reader_readStep : ov_okc mq_Reader_readStep := ⟨⟨ov_dec_ok (by decide +kernel), rfl⟩, ov_inT (List.mem_append_right _ (List.mem_of_getElem? (i := 548) rfl)) (by decide +kernel), by decide +kernel, ⟨by decide +kernel, by decide +kernel, by decide +kernel⟩, ov_inT (by decide +kernel) (by decide +kernel), by decide +kernel⟩
set_option maxRecDepth 100000 in
theorem ok_mq_Reader_blame : ov_okc mq_Reader_blame := ⟨⟨ov_dec_ok (by decide +kernel), rfl⟩, ov_inT (List.mem_append_right _ (List.mem_of_getElem? (i := 552) rfl)) (by decide +kernel), by decide +kernel, ⟨by decide +kernel, by decide +kernel, by decide +kernel⟩, ov_inT (by decide +kernel) (by decide +kernel), by decide +kernel⟩
set_option maxRecDepth 100000 in
theorem ok_mq_Reader_expect : ov_okc mq_Reader_expect := ⟨⟨ov_dec_ok (by decide +kernel), rfl⟩, ov_inT (List.mem_append_right _ (List.mem_of_getElem? (i := 556) rfl)) (by decide +kernel), by decide +kernel, ⟨by decide +kernel, by decide +kernel, by decide +kernel⟩, ov_inT (by decide +kernel) (by decide +kernel), by decide +kernel⟩
set_option maxRecDepth 100000 in
theorem ok_mq_Reader_mostOf : ov_okc mq_Reader_mostOf := ⟨⟨ov_dec_ok (by decide +kernel), rfl⟩, ov_inT (List.mem_append_right _ (List.mem_of_getElem? (i := 559) rfl)) (by decide +kernel), by decide +kernel, ⟨by decide +kernel, by decide +kernel, by decide +kernel⟩, ov_inT (by decide +kernel) (by decide +kernel), by decide +kernel⟩
set_option maxRecDepth 100000 in
theorem ok_mq_Reader_expectNumber : ov_okc mq_Reader_expectNumber := ⟨⟨ov_dec_ok (by decide +kernel), rfl⟩, ov_inT (List.mem_append_right _ (List.mem_of_getElem? (i := 563) rfl)) (by decide +kernel), by decide +kernel, ⟨by decide +kernel, by decide +kernel, by decide +kernel⟩, ov_inT (by decide +kernel) (by decide +kernel), by decide +kernel⟩
set_option maxRecDepth 100000 in
theorem ok_mq_Tables_init : ov_okc mq_Tables_init := ⟨⟨ov_dec_ok (by decide +kernel), rfl⟩, ov_inT (List.mem_append_right _ (List.mem_of_getElem? (i := 77) rfl)) (by decide +kernel), by decide +kernel, ⟨by decide +kernel, by decide +kernel, by decide +kernel⟩, ov_inT (by decide +kernel) (by decide +kernel), by decide +kernel⟩
set_option maxRecDepth 100000 in
theorem ok_mq_Tables_addWatch : ov_okc mq_Tables_addWatch := ⟨⟨ov_dec_ok (by decide +kernel), rfl⟩, ov_inT (List.mem_append_right _ (List.mem_of_getElem? (i := 887) rfl)) (by decide +kernel), by decide +kernel, ⟨by decide +kernel, by decide +kernel, by decide +kernel⟩, ov_inT (by decide +kernel) (by decide +kernel), by decide +kernel⟩
set_option maxRecDepth 100000 in
theorem ok_mq_Tables_smallestRing : ov_okc mq_Tables_smallestRing := ⟨⟨ov_dec_ok (by decide +kernel), rfl⟩, ov_inT (List.mem_append_right _ (List.mem_of_getElem? (i := 923) rfl)) (by decide +kernel), by decide +kernel, ⟨by decide +kernel, by decide +kernel, by decide +kernel⟩, ov_inT (by decide +kernel) (by decide +kernel), by decide +kernel⟩
set_option maxRecDepth 100000 in
theorem ok_mq_Tables_closes : ov_okc mq_Tables_closes := ⟨⟨ov_dec_ok (by decide +kernel), rfl⟩, ov_inT (List.mem_append_right _ (List.mem_of_getElem? (i := 928) rfl)) (by decide +kernel), by decide +kernel, ⟨by decide +kernel, by decide +kernel, by decide +kernel⟩, ov_inT (by decide +kernel) (by decide +kernel), by decide +kernel⟩
set_option maxRecDepth 100000 in
theorem ok_mq_Tables_goesRound : ov_okc mq_Tables_goesRound := ⟨⟨ov_dec_ok (by decide +kernel), rfl⟩, ov_inT (List.mem_append_right _ (List.mem_of_getElem? (i := 934) rfl)) (by decide +kernel), by decide +kernel, ⟨by decide +kernel, by decide +kernel, by decide +kernel⟩, ov_inT (by decide +kernel) (by decide +kernel), by decide +kernel⟩
set_option maxRecDepth 100000 in
theorem ok_mq_Tables_wouldLend : ov_okc mq_Tables_wouldLend := ⟨⟨ov_dec_ok (by decide +kernel), rfl⟩, ov_inT (List.mem_append_right _ (List.mem_of_getElem? (i := 938) rfl)) (by decide +kernel), by decide +kernel, ⟨by decide +kernel, by decide +kernel, by decide +kernel⟩, ov_inT (by decide +kernel) (by decide +kernel), by decide +kernel⟩
set_option maxRecDepth 100000 in
theorem ok_mq_Tables_goesOn : ov_okc mq_Tables_goesOn := ⟨⟨ov_dec_ok (by decide +kernel), rfl⟩, ov_inT (List.mem_append_right _ (List.mem_of_getElem? (i := 942) rfl)) (by decide +kernel), by decide +kernel, ⟨by decide +kernel, by decide +kernel, by decide +kernel⟩, ov_inT (by decide +kernel) (by decide +kernel), by decide +kernel⟩
set_option maxRecDepth 100000 in
theorem ok_mq_Tables_copyFrom : ov_okc mq_Tables_copyFrom := ⟨⟨ov_dec_ok (by decide +kernel), rfl⟩, ov_inT (List.mem_append_right _ (List.mem_of_getElem? (i := 970) rfl)) (by decide +kernel), by decide +kernel, ⟨by decide +kernel, by decide +kernel, by decide +kernel⟩, ov_inT (by decide +kernel) (by decide +kernel), by decide +kernel⟩
set_option maxRecDepth 100000 in
theorem ok_mq_Talk_init : ov_okc mq_Talk_init := ⟨⟨ov_dec_ok (by decide +kernel), rfl⟩, ov_inT (List.mem_append_right _ (List.mem_of_getElem? (i := 317) rfl)) (by decide +kernel), by decide +kernel, ⟨by decide +kernel, by decide +kernel, by decide +kernel⟩, ov_inT (by decide +kernel) (by decide +kernel), by decide +kernel⟩
set_option maxRecDepth 100000 in
theorem ok_mq_Talk_fewestActs : ov_okc mq_Talk_fewestActs := ⟨⟨ov_dec_ok (by decide +kernel), rfl⟩, ov_inT (List.mem_append_right _ (List.mem_of_getElem? (i := 769) rfl)) (by decide +kernel), by decide +kernel, ⟨by decide +kernel, by decide +kernel, by decide +kernel⟩, ov_inT (by decide +kernel) (by decide +kernel), by decide +kernel⟩
set_option maxRecDepth 100000 in
theorem ok_mq_Talk_moveEdge : ov_okc mq_Talk_moveEdge := ⟨⟨ov_dec_ok (by decide +kernel), rfl⟩, ov_inT (List.mem_append_right _ (List.mem_of_getElem? (i := 777) rfl)) (by decide +kernel), by decide +kernel, ⟨by decide +kernel, by decide +kernel, by decide +kernel⟩, ov_inT (by decide +kernel) (by decide +kernel), by decide +kernel⟩
set_option maxRecDepth 100000 in
theorem ok_mq_Talk_handOverFrom : ov_okc mq_Talk_handOverFrom := ⟨⟨ov_dec_ok (by decide +kernel), rfl⟩, ov_inT (List.mem_append_right _ (List.mem_of_getElem? (i := 782) rfl)) (by decide +kernel), by decide +kernel, ⟨by decide +kernel, by decide +kernel, by decide +kernel⟩, ov_inT (by decide +kernel) (by decide +kernel), by decide +kernel⟩
set_option maxRecDepth 100000 in
theorem ok_mq_Talk_sayFrom : ov_okc mq_Talk_sayFrom := ⟨⟨ov_dec_ok (by decide +kernel), rfl⟩, ov_inT (List.mem_append_right _ (List.mem_of_getElem? (i := 786) rfl)) (by decide +kernel), by decide +kernel, ⟨by decide +kernel, by decide +kernel, by decide +kernel⟩, ov_inT (by decide +kernel) (by decide +kernel), by decide +kernel⟩
