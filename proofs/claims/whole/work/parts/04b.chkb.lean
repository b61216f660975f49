set_option maxRecDepth 100000 in
theorem ok_mq_Talk_say : ov_okc mq_Talk_say := ⟨⟨ov_dec_ok (by decide +kernel), rfl⟩, ov_inT (List.mem_append_right _ (List.mem_of_getElem? (i := 790) rfl)) (by decide +kernel), by decide +kernel, ⟨by decide +kernel, by decide +kernel, by decide +kernel⟩, ov_inT (by decide +kernel) (by decide +kernel), by decide +kernel⟩
set_option maxRecDepth 100000 in
theorem ok_mq_Three_init : ov_okc mq_Three_init := ⟨⟨ov_dec_ok (by decide +kernel), rfl⟩, ov_inT (List.mem_append_right _ (List.mem_of_getElem? (i := 110) rfl)) (by decide +kernel), by decide +kernel, ⟨by decide +kernel, by decide +kernel, by decide +kernel⟩, ov_inT (by decide +kernel) (by decide +kernel), by decide +kernel⟩
set_option maxRecDepth 100000 in
theorem ok_mq_Three_follow : ov_okc mq_Three_follow := ⟨⟨ov_dec_ok (by decide +kernel), rfl⟩, ov_inT (List.mem_append_right _ (List.mem_of_getElem? (i := 572) rfl)) (by decide +kernel), by decide +kernel, ⟨by decide +kernel, by decide +kernel, by decide +kernel⟩, ov_inT (by decide +kernel) (by decide +kernel), by decide +kernel⟩
set_option maxRecDepth 100000 in
theorem ok_mq_Three_holderOf : ov_okc mq_Three_holderOf := ⟨⟨ov_dec_ok (by decide +kernel), rfl⟩, ov_inT (List.mem_append_right _ (List.mem_of_getElem? (i := 616) rfl)) (by decide +kernel), by decide +kernel, ⟨by decide +kernel, by decide +kernel, by decide +kernel⟩, ov_inT (by decide +kernel) (by decide +kernel), by decide +kernel⟩
set_option maxRecDepth 100000 in
theorem ok_mq_Three_occupy : ov_okc mq_Three_occupy := ⟨⟨ov_dec_ok (by decide +kernel), rfl⟩, ov_inT (List.mem_append_right _ (List.mem_of_getElem? (i := 621) rfl)) (by decide +kernel), by decide +kernel, ⟨by decide +kernel, by decide +kernel, by decide +kernel⟩, ov_inT (by decide +kernel) (by decide +kernel), by decide +kernel⟩
set_option maxRecDepth 100000 in
theorem ok_mq_Three_firstWithEmptyHands : ov_okc mq_Three_firstWithEmptyHands := ⟨⟨ov_dec_ok (by decide +kernel), rfl⟩, ov_inT (List.mem_append_right _ (List.mem_of_getElem? (i := 670) rfl)) (by decide +kernel), by decide +kernel, ⟨by decide +kernel, by decide +kernel, by decide +kernel⟩, ov_inT (by decide +kernel) (by decide +kernel), by decide +kernel⟩
set_option maxRecDepth 100000 in
theorem ok_mq_Three_placeOf : ov_okc mq_Three_placeOf := ⟨⟨ov_dec_ok (by decide +kernel), rfl⟩, ov_inT (List.mem_append_right _ (List.mem_of_getElem? (i := 690) rfl)) (by decide +kernel), by decide +kernel, ⟨by decide +kernel, by decide +kernel, by decide +kernel⟩, ov_inT (by decide +kernel) (by decide +kernel), by decide +kernel⟩
set_option maxRecDepth 100000 in
theorem ok_mq_Three_tell : ov_okc mq_Three_tell := ⟨⟨ov_dec_ok (by decide +kernel), rfl⟩, ov_inT (List.mem_append_right _ (List.mem_of_getElem? (i := 728) rfl)) (by decide +kernel), by decide +kernel, ⟨by decide +kernel, by decide +kernel, by decide +kernel⟩, ov_inT (by decide +kernel) (by decide +kernel), by decide +kernel⟩
set_option maxRecDepth 100000 in
theorem ok_mq_Three_settledPlaceOf : ov_okc mq_Three_settledPlaceOf := ⟨⟨ov_dec_ok (by decide +kernel), rfl⟩, ov_inT (List.mem_append_right _ (List.mem_of_getElem? (i := 749) rfl)) (by decide +kernel), by decide +kernel, ⟨by decide +kernel, by decide +kernel, by decide +kernel⟩, ov_inT (by decide +kernel) (by decide +kernel), by decide +kernel⟩
set_option maxRecDepth 100000 in
theorem ok_mq_Three_sendWord : ov_okc mq_Three_sendWord := ⟨⟨ov_dec_ok (by decide +kernel), rfl⟩, ov_inT (List.mem_append_right _ (List.mem_of_getElem? (i := 755) rfl)) (by decide +kernel), by decide +kernel, ⟨by decide +kernel, by decide +kernel, by decide +kernel⟩, ov_inT (by decide +kernel) (by decide +kernel), by decide +kernel⟩
set_option maxRecDepth 100000 in
theorem ok_mq_Three_mouthAndEar : ov_okc mq_Three_mouthAndEar := ⟨⟨ov_dec_ok (by decide +kernel), rfl⟩, ov_inT (List.mem_append_right _ (List.mem_of_getElem? (i := 765) rfl)) (by decide +kernel), by decide +kernel, ⟨by decide +kernel, by decide +kernel, by decide +kernel⟩, ov_inT (by decide +kernel) (by decide +kernel), by decide +kernel⟩
set_option maxRecDepth 100000 in
theorem ok_mq_Three_copyFrom : ov_okc mq_Three_copyFrom := ⟨⟨ov_dec_ok (by decide +kernel), rfl⟩, ov_inT (List.mem_append_right _ (List.mem_of_getElem? (i := 954) rfl)) (by decide +kernel), by decide +kernel, ⟨by decide +kernel, by decide +kernel, by decide +kernel⟩, ov_inT (by decide +kernel) (by decide +kernel), by decide +kernel⟩
set_option maxRecDepth 100000 in
theorem ok_mq_Way_init : ov_okc mq_Way_init := ⟨⟨ov_dec_ok (by decide +kernel), rfl⟩, ov_inT (List.mem_append_right _ (List.mem_of_getElem? (i := 334) rfl)) (by decide +kernel), by decide +kernel, ⟨by decide +kernel, by decide +kernel, by decide +kernel⟩, ov_inT (by decide +kernel) (by decide +kernel), by decide +kernel⟩
set_option maxRecDepth 100000 in
theorem ok_mq_Way_find : ov_okc mq_Way_find := ⟨⟨ov_dec_ok (by decide +kernel), rfl⟩, ov_inT (List.mem_append_right _ (List.mem_of_getElem? (i := 807) rfl)) (by decide +kernel), by decide +kernel, ⟨by decide +kernel, by decide +kernel, by decide +kernel⟩, ov_inT (by decide +kernel) (by decide +kernel), by decide +kernel⟩
set_option maxRecDepth 100000 in
theorem ok_mq_Way_weigh : ov_okc mq_Way_weigh := ⟨⟨ov_dec_ok (by decide +kernel), rfl⟩, ov_inT (List.mem_append_right _ (List.mem_of_getElem? (i := 815) rfl)) (by decide +kernel), by decide +kernel, ⟨by decide +kernel, by decide +kernel, by decide +kernel⟩, ov_inT (by decide +kernel) (by decide +kernel), by decide +kernel⟩
set_option maxRecDepth 100000 in
theorem ok_mq_Way_cheapest : ov_okc mq_Way_cheapest := ⟨⟨ov_dec_ok (by decide +kernel), rfl⟩, ov_inT (List.mem_append_right _ (List.mem_of_getElem? (i := 819) rfl)) (by decide +kernel), by decide +kernel, ⟨by decide +kernel, by decide +kernel, by decide +kernel⟩, ov_inT (by decide +kernel) (by decide +kernel), by decide +kernel⟩
set_option maxRecDepth 100000 in
theorem ok_mq_Way_costFrom : ov_okc mq_Way_costFrom := ⟨⟨ov_dec_ok (by decide +kernel), rfl⟩, ov_inT (List.mem_append_right _ (List.mem_of_getElem? (i := 823) rfl)) (by decide +kernel), by decide +kernel, ⟨by decide +kernel, by decide +kernel, by decide +kernel⟩, ov_inT (by decide +kernel) (by decide +kernel), by decide +kernel⟩
set_option maxRecDepth 100000 in
theorem ok_mq_Way_walk : ov_okc mq_Way_walk := ⟨⟨ov_dec_ok (by decide +kernel), rfl⟩, ov_inT (List.mem_append_right _ (List.mem_of_getElem? (i := 829) rfl)) (by decide +kernel), by decide +kernel, ⟨by decide +kernel, by decide +kernel, by decide +kernel⟩, ov_inT (by decide +kernel) (by decide +kernel), by decide +kernel⟩
set_option maxRecDepth 100000 in
theorem ok_mq_World_init : ov_okc mq_World_init := ⟨⟨ov_dec_ok (by decide +kernel), rfl⟩, ov_inT (List.mem_append_right _ (List.mem_of_getElem? (i := 34) rfl)) (by decide +kernel), by decide +kernel, ⟨by decide +kernel, by decide +kernel, by decide +kernel⟩, ov_inT (by decide +kernel) (by decide +kernel), by decide +kernel⟩
set_option maxRecDepth 100000 in
theorem ok_mq_World_addThree : ov_okc mq_World_addThree := ⟨⟨ov_dec_ok (by decide +kernel), rfl⟩, ov_inT (List.mem_append_right _ (List.mem_of_getElem? (i := 415) rfl)) (by decide +kernel), by decide +kernel, ⟨by decide +kernel, by decide +kernel, by decide +kernel⟩, ov_inT (by decide +kernel) (by decide +kernel), by decide +kernel⟩
set_option maxRecDepth 100000 in
theorem ok_mq_World_personAt : ov_okc mq_World_personAt := ⟨⟨ov_dec_ok (by decide +kernel), rfl⟩, ov_inT (List.mem_append_right _ (List.mem_of_getElem? (i := 428) rfl)) (by decide +kernel), by decide +kernel, ⟨by decide +kernel, by decide +kernel, by decide +kernel⟩, ov_inT (by decide +kernel) (by decide +kernel), by decide +kernel⟩
set_option maxRecDepth 100000 in
theorem ok_mq_World_threeAt : ov_okc mq_World_threeAt := ⟨⟨ov_dec_ok (by decide +kernel), rfl⟩, ov_inT (List.mem_append_right _ (List.mem_of_getElem? (i := 432) rfl)) (by decide +kernel), by decide +kernel, ⟨by decide +kernel, by decide +kernel, by decide +kernel⟩, ov_inT (by decide +kernel) (by decide +kernel), by decide +kernel⟩
set_option maxRecDepth 100000 in
theorem ok_mq_World_passMinute : ov_okc mq_World_passMinute := ⟨⟨ov_dec_ok (by decide +kernel), rfl⟩, ov_inT (List.mem_append_right _ (List.mem_of_getElem? (i := 593) rfl)) (by decide +kernel), by decide +kernel, ⟨by decide +kernel, by decide +kernel, by decide +kernel⟩, ov_inT (by decide +kernel) (by decide +kernel), by decide +kernel⟩
set_option maxRecDepth 100000 in
theorem ok_mq_World_draw : ov_okc mq_World_draw := ⟨⟨ov_dec_ok (by decide +kernel), rfl⟩, ov_inT (List.mem_append_right _ (List.mem_of_getElem? (i := 597) rfl)) (by decide +kernel), by decide +kernel, ⟨by decide +kernel, by decide +kernel, by decide +kernel⟩, ov_inT (by decide +kernel) (by decide +kernel), by decide +kernel⟩
set_option maxRecDepth 100000 in
theorem ok_mq_World_act : ov_okc mq_World_act := ⟨⟨ov_dec_ok (by decide +kernel), rfl⟩, ov_inT (List.mem_append_right _ (List.mem_of_getElem? (i := 603) rfl)) (by decide +kernel), by decide +kernel, ⟨by decide +kernel, by decide +kernel, by decide +kernel⟩, ov_inT (by decide +kernel) (by decide +kernel), by decide +kernel⟩
set_option maxRecDepth 100000 in
theorem ok_mq_World_begin : ov_okc mq_World_begin := ⟨⟨ov_dec_ok (by decide +kernel), rfl⟩, ov_inT (List.mem_append_right _ (List.mem_of_getElem? (i := 608) rfl)) (by decide +kernel), by decide +kernel, ⟨by decide +kernel, by decide +kernel, by decide +kernel⟩, ov_inT (by decide +kernel) (by decide +kernel), by decide +kernel⟩
set_option maxRecDepth 100000 in
theorem ok_mq_World_give : ov_okc mq_World_give := ⟨⟨ov_dec_ok (by decide +kernel), rfl⟩, ov_inT (List.mem_append_right _ (List.mem_of_getElem? (i := 612) rfl)) (by decide +kernel), by decide +kernel, ⟨by decide +kernel, by decide +kernel, by decide +kernel⟩, ov_inT (by decide +kernel) (by decide +kernel), by decide +kernel⟩
set_option maxRecDepth 100000 in
theorem ok_mq_World_see : ov_okc mq_World_see := ⟨⟨ov_dec_ok (by decide +kernel), rfl⟩, ov_inT (List.mem_append_right _ (List.mem_of_getElem? (i := 625) rfl)) (by decide +kernel), by decide +kernel, ⟨by decide +kernel, by decide +kernel, by decide +kernel⟩, ov_inT (by decide +kernel) (by decide +kernel), by decide +kernel⟩
set_option maxRecDepth 100000 in
theorem ok_mq_World_personOf : ov_okc mq_World_personOf := ⟨⟨ov_dec_ok (by decide +kernel), rfl⟩, ov_inT (List.mem_append_right _ (List.mem_of_getElem? (i := 629) rfl)) (by decide +kernel), by decide +kernel, ⟨by decide +kernel, by decide +kernel, by decide +kernel⟩, ov_inT (by decide +kernel) (by decide +kernel), by decide +kernel⟩
set_option maxRecDepth 100000 in
theorem ok_mq_World_speak : ov_okc mq_World_speak := ⟨⟨ov_dec_ok (by decide +kernel), rfl⟩, ov_inT (List.mem_append_right _ (List.mem_of_getElem? (i := 638) rfl)) (by decide +kernel), by decide +kernel, ⟨by decide +kernel, by decide +kernel, by decide +kernel⟩, ov_inT (by decide +kernel) (by decide +kernel), by decide +kernel⟩
set_option maxRecDepth 100000 in
theorem ok_mq_World_workOn : ov_okc mq_World_workOn := ⟨⟨ov_dec_ok (by decide +kernel), rfl⟩, ov_inT (List.mem_append_right _ (List.mem_of_getElem? (i := 658) rfl)) (by decide +kernel), by decide +kernel, ⟨by decide +kernel, by decide +kernel, by decide +kernel⟩, ov_inT (by decide +kernel) (by decide +kernel), by decide +kernel⟩
set_option maxRecDepth 100000 in
theorem ok_mq_World_finishGiving : ov_okc mq_World_finishGiving := ⟨⟨ov_dec_ok (by decide +kernel), rfl⟩, ov_inT (List.mem_append_right _ (List.mem_of_getElem? (i := 662) rfl)) (by decide +kernel), by decide +kernel, ⟨by decide +kernel, by decide +kernel, by decide +kernel⟩, ov_inT (by decide +kernel) (by decide +kernel), by decide +kernel⟩
set_option maxRecDepth 100000 in
theorem ok_mq_World_finishFeeling : ov_okc mq_World_finishFeeling := ⟨⟨ov_dec_ok (by decide +kernel), rfl⟩, ov_inT (List.mem_append_right _ (List.mem_of_getElem? (i := 666) rfl)) (by decide +kernel), by decide +kernel, ⟨by decide +kernel, by decide +kernel, by decide +kernel⟩, ov_inT (by decide +kernel) (by decide +kernel), by decide +kernel⟩
set_option maxRecDepth 100000 in
theorem ok_mq_World_noisesNow : ov_okc mq_World_noisesNow := ⟨⟨ov_dec_ok (by decide +kernel), rfl⟩, ov_inT (List.mem_append_right _ (List.mem_of_getElem? (i := 674) rfl)) (by decide +kernel), by decide +kernel, ⟨by decide +kernel, by decide +kernel, by decide +kernel⟩, ov_inT (by decide +kernel) (by decide +kernel), by decide +kernel⟩
set_option maxRecDepth 100000 in
theorem ok_mq_World_endMinute : ov_okc mq_World_endMinute := ⟨⟨ov_dec_ok (by decide +kernel), rfl⟩, ov_inT (List.mem_append_right _ (List.mem_of_getElem? (i := 678) rfl)) (by decide +kernel), by decide +kernel, ⟨by decide +kernel, by decide +kernel, by decide +kernel⟩, ov_inT (by decide +kernel) (by decide +kernel), by decide +kernel⟩
set_option maxRecDepth 100000 in
theorem ok_mq_World_hearNoises : ov_okc mq_World_hearNoises := ⟨⟨ov_dec_ok (by decide +kernel), rfl⟩, ov_inT (List.mem_append_right _ (List.mem_of_getElem? (i := 682) rfl)) (by decide +kernel), by decide +kernel, ⟨by decide +kernel, by decide +kernel, by decide +kernel⟩, ov_inT (by decide +kernel) (by decide +kernel), by decide +kernel⟩
set_option maxRecDepth 100000 in
theorem ok_mq_World_addNoise : ov_okc mq_World_addNoise := ⟨⟨ov_dec_ok (by decide +kernel), rfl⟩, ov_inT (List.mem_append_right _ (List.mem_of_getElem? (i := 711) rfl)) (by decide +kernel), by decide +kernel, ⟨by decide +kernel, by decide +kernel, by decide +kernel⟩, ov_inT (by decide +kernel) (by decide +kernel), by decide +kernel⟩
set_option maxRecDepth 100000 in
theorem ok_mq_World_knowersOf : ov_okc mq_World_knowersOf := ⟨⟨ov_dec_ok (by decide +kernel), rfl⟩, ov_inT (List.mem_append_right _ (List.mem_of_getElem? (i := 744) rfl)) (by decide +kernel), by decide +kernel, ⟨by decide +kernel, by decide +kernel, by decide +kernel⟩, ov_inT (by decide +kernel) (by decide +kernel), by decide +kernel⟩
set_option maxRecDepth 100000 in
theorem ok_mq_World_copyFrom : ov_okc mq_World_copyFrom := ⟨⟨ov_dec_ok (by decide +kernel), rfl⟩, ov_inT (List.mem_append_right _ (List.mem_of_getElem? (i := 950) rfl)) (by decide +kernel), by decide +kernel, ⟨by decide +kernel, by decide +kernel, by decide +kernel⟩, ov_inT (by decide +kernel) (by decide +kernel), by decide +kernel⟩
set_option maxRecDepth 100000 in
theorem ok_mq_Eye_init : ov_okc mq_Eye_init := ⟨⟨ov_dec_ok (by decide +kernel), rfl⟩, ov_inT (List.mem_append_right _ (List.mem_of_getElem? (i := 26) rfl)) (by decide +kernel), by decide +kernel, ⟨by decide +kernel, by decide +kernel, by decide +kernel⟩, ov_inT (by decide +kernel) (by decide +kernel), by decide +kernel⟩
set_option maxRecDepth 100000 in
theorem ok_mq_Eye_state : ov_okc mq_Eye_state := ⟨⟨ov_dec_ok (by decide +kernel), rfl⟩, ov_inT (List.mem_append_right _ (List.mem_of_getElem? (i := 404) rfl)) (by decide +kernel), by decide +kernel, ⟨by decide +kernel, by decide +kernel, by decide +kernel⟩, ov_inT (by decide +kernel) (by decide +kernel), by decide +kernel⟩
set_option maxRecDepth 100000 in
theorem ok_mq_Eye_three : ov_okc mq_Eye_three := ⟨⟨ov_dec_ok (by decide +kernel), rfl⟩, ov_inT (List.mem_append_right _ (List.mem_of_getElem? (i := 408) rfl)) (by decide +kernel), by decide +kernel, ⟨by decide +kernel, by decide +kernel, by decide +kernel⟩, ov_inT (by decide +kernel) (by decide +kernel), by decide +kernel⟩
set_option maxRecDepth 100000 in
theorem ok_mq_Eye_within : ov_okc mq_Eye_within := ⟨⟨ov_dec_ok (by decide +kernel), rfl⟩, ov_inT (List.mem_append_right _ (List.mem_of_getElem? (i := 411) rfl)) (by decide +kernel), by decide +kernel, ⟨by decide +kernel, by decide +kernel, by decide +kernel⟩, ov_inT (by decide +kernel) (by decide +kernel), by decide +kernel⟩
set_option maxRecDepth 100000 in
theorem ok_mq_Eye_fact : ov_okc mq_Eye_fact := ⟨⟨ov_dec_ok (by decide +kernel), rfl⟩, ov_inT (List.mem_append_right _ (List.mem_of_getElem? (i := 420) rfl)) (by decide +kernel), by decide +kernel, ⟨by decide +kernel, by decide +kernel, by decide +kernel⟩, ov_inT (by decide +kernel) (by decide +kernel), by decide +kernel⟩
set_option maxRecDepth 100000 in
theorem ok_mq_Eye_trust : ov_okc mq_Eye_trust := ⟨⟨ov_dec_ok (by decide +kernel), rfl⟩, ov_inT (List.mem_append_right _ (List.mem_of_getElem? (i := 424) rfl)) (by decide +kernel), by decide +kernel, ⟨by decide +kernel, by decide +kernel, by decide +kernel⟩, ov_inT (by decide +kernel) (by decide +kernel), by decide +kernel⟩
set_option maxRecDepth 100000 in
theorem ok_mq_Eye_withBit : ov_okc mq_Eye_withBit := ⟨⟨ov_dec_ok (by decide +kernel), rfl⟩, ov_inT (List.mem_append_right _ (List.mem_of_getElem? (i := 435) rfl)) (by decide +kernel), by decide +kernel, ⟨by decide +kernel, by decide +kernel, by decide +kernel⟩, ov_inT (by decide +kernel) (by decide +kernel), by decide +kernel⟩
set_option maxRecDepth 100000 in
theorem ok_mq_Eye_feed : ov_okc mq_Eye_feed := ⟨⟨ov_dec_ok (by decide +kernel), rfl⟩, ov_inT (List.mem_append_right _ (List.mem_of_getElem? (i := 439) rfl)) (by decide +kernel), by decide +kernel, ⟨by decide +kernel, by decide +kernel, by decide +kernel⟩, ov_inT (by decide +kernel) (by decide +kernel), by decide +kernel⟩
set_option maxRecDepth 100000 in
theorem ok_mq_Eye_end : ov_okc mq_Eye_end := ⟨⟨ov_dec_ok (by decide +kernel), rfl⟩, ov_inT (List.mem_append_right _ (List.mem_of_getElem? (i := 448) rfl)) (by decide +kernel), by decide +kernel, ⟨by decide +kernel, by decide +kernel, by decide +kernel⟩, ov_inT (by decide +kernel) (by decide +kernel), by decide +kernel⟩
set_option maxRecDepth 100000 in
theorem ok_mq_Eye_text : ov_okc mq_Eye_text := ⟨⟨ov_dec_ok (by decide +kernel), rfl⟩, ov_inT (List.mem_append_right _ (List.mem_of_getElem? (i := 452) rfl)) (by decide +kernel), by decide +kernel, ⟨by decide +kernel, by decide +kernel, by decide +kernel⟩, ov_inT (by decide +kernel) (by decide +kernel), by decide +kernel⟩
set_option maxRecDepth 100000 in
theorem ok_mq_Eye_fault : ov_okc mq_Eye_fault := ⟨⟨ov_dec_ok (by decide +kernel), rfl⟩, ov_inT (List.mem_append_right _ (List.mem_of_getElem? (i := 584) rfl)) (by decide +kernel), by decide +kernel, ⟨by decide +kernel, by decide +kernel, by decide +kernel⟩, ov_inT (by decide +kernel) (by decide +kernel), by decide +kernel⟩
set_option maxRecDepth 100000 in
theorem ok_mq_Eye_minutes : ov_okc mq_Eye_minutes := ⟨⟨ov_dec_ok (by decide +kernel), rfl⟩, ov_inT (List.mem_append_right _ (List.mem_of_getElem? (i := 588) rfl)) (by decide +kernel), by decide +kernel, ⟨by decide +kernel, by decide +kernel, by decide +kernel⟩, ov_inT (by decide +kernel) (by decide +kernel), by decide +kernel⟩
set_option maxRecDepth 100000 in
theorem ok_mq_Eye_holdsBit : ov_okc mq_Eye_holdsBit := ⟨⟨ov_dec_ok (by decide +kernel), rfl⟩, ov_inT (List.mem_append_right _ (List.mem_of_getElem? (i := 650) rfl)) (by decide +kernel), by decide +kernel, ⟨by decide +kernel, by decide +kernel, by decide +kernel⟩, ov_inT (by decide +kernel) (by decide +kernel), by decide +kernel⟩
set_option maxRecDepth 100000 in
theorem ok_mq_Eye_where : ov_okc mq_Eye_where := ⟨⟨ov_dec_ok (by decide +kernel), rfl⟩, ov_inT (List.mem_append_right _ (List.mem_of_getElem? (i := 686) rfl)) (by decide +kernel), by decide +kernel, ⟨by decide +kernel, by decide +kernel, by decide +kernel⟩, ov_inT (by decide +kernel) (by decide +kernel), by decide +kernel⟩
set_option maxRecDepth 100000 in
theorem ok_mq_Eye_knows : ov_okc mq_Eye_knows := ⟨⟨ov_dec_ok (by decide +kernel), rfl⟩, ov_inT (List.mem_append_right _ (List.mem_of_getElem? (i := 694) rfl)) (by decide +kernel), by decide +kernel, ⟨by decide +kernel, by decide +kernel, by decide +kernel⟩, ov_inT (by decide +kernel) (by decide +kernel), by decide +kernel⟩
set_option maxRecDepth 100000 in
theorem ok_mq_Eye_origin : ov_okc mq_Eye_origin := ⟨⟨ov_dec_ok (by decide +kernel), rfl⟩, ov_inT (List.mem_append_right _ (List.mem_of_getElem? (i := 699) rfl)) (by decide +kernel), by decide +kernel, ⟨by decide +kernel, by decide +kernel, by decide +kernel⟩, ov_inT (by decide +kernel) (by decide +kernel), by decide +kernel⟩
