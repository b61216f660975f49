set_option maxRecDepth 100000 in
theorem ok_mq_Eye_noise : ov_okc mq_Eye_noise := ⟨⟨ov_dec_ok (by decide +kernel), rfl⟩, ov_inT (List.mem_append_right _ (List.mem_of_getElem? (i := 707) rfl)) (by decide +kernel), by decide +kernel, ⟨by decide +kernel, by decide +kernel, by decide +kernel⟩, ov_inT (by decide +kernel) (by decide +kernel), by decide +kernel⟩
set_option maxRecDepth 100000 in
theorem ok_mq_Eye_heard : ov_okc mq_Eye_heard := ⟨⟨ov_dec_ok (by decide +kernel), rfl⟩, ov_inT (List.mem_append_right _ (List.mem_of_getElem? (i := 716) rfl)) (by decide +kernel), by decide +kernel, ⟨by decide +kernel, by decide +kernel, by decide +kernel⟩, ov_inT (by decide +kernel) (by decide +kernel), by decide +kernel⟩
set_option maxRecDepth 100000 in
theorem ok_mq_Eye_held : ov_okc mq_Eye_held := ⟨⟨ov_dec_ok (by decide +kernel), rfl⟩, ov_inT (List.mem_append_right _ (List.mem_of_getElem? (i := 720) rfl)) (by decide +kernel), by decide +kernel, ⟨by decide +kernel, by decide +kernel, by decide +kernel⟩, ov_inT (by decide +kernel) (by decide +kernel), by decide +kernel⟩
set_option maxRecDepth 100000 in
theorem ok_mq_Eye_of : ov_okc mq_Eye_of := ⟨⟨ov_dec_ok (by decide +kernel), rfl⟩, ov_inT (List.mem_append_right _ (List.mem_of_getElem? (i := 724) rfl)) (by decide +kernel), by decide +kernel, ⟨by decide +kernel, by decide +kernel, by decide +kernel⟩, ov_inT (by decide +kernel) (by decide +kernel), by decide +kernel⟩
set_option maxRecDepth 100000 in
theorem ok_mq_Eye_book : ov_okc mq_Eye_book := ⟨⟨ov_dec_ok (by decide +kernel), rfl⟩, ov_inT (List.mem_append_right _ (List.mem_of_getElem? (i := 732) rfl)) (by decide +kernel), by decide +kernel, ⟨by decide +kernel, by decide +kernel, by decide +kernel⟩, ov_inT (by decide +kernel) (by decide +kernel), by decide +kernel⟩
set_option maxRecDepth 100000 in
theorem ok_mq_Eye_errand : ov_okc mq_Eye_errand := ⟨⟨ov_dec_ok (by decide +kernel), rfl⟩, ov_inT (List.mem_append_right _ (List.mem_of_getElem? (i := 740) rfl)) (by decide +kernel), by decide +kernel, ⟨by decide +kernel, by decide +kernel, by decide +kernel⟩, ov_inT (by decide +kernel) (by decide +kernel), by decide +kernel⟩
set_option maxRecDepth 100000 in
theorem ok_mq_Eye_talk : ov_okc mq_Eye_talk := ⟨⟨ov_dec_ok (by decide +kernel), rfl⟩, ov_inT (List.mem_append_right _ (List.mem_of_getElem? (i := 761) rfl)) (by decide +kernel), by decide +kernel, ⟨by decide +kernel, by decide +kernel, by decide +kernel⟩, ov_inT (by decide +kernel) (by decide +kernel), by decide +kernel⟩
set_option maxRecDepth 100000 in
theorem ok_mq_Eye_danger : ov_okc mq_Eye_danger := ⟨⟨ov_dec_ok (by decide +kernel), rfl⟩, ov_inT (List.mem_append_right _ (List.mem_of_getElem? (i := 796) rfl)) (by decide +kernel), by decide +kernel, ⟨by decide +kernel, by decide +kernel, by decide +kernel⟩, ov_inT (by decide +kernel) (by decide +kernel), by decide +kernel⟩
set_option maxRecDepth 100000 in
theorem ok_mq_Eye_dangerAt : ov_okc mq_Eye_dangerAt := ⟨⟨ov_dec_ok (by decide +kernel), rfl⟩, ov_inT (List.mem_append_right _ (List.mem_of_getElem? (i := 799) rfl)) (by decide +kernel), by decide +kernel, ⟨by decide +kernel, by decide +kernel, by decide +kernel⟩, ov_inT (by decide +kernel) (by decide +kernel), by decide +kernel⟩
set_option maxRecDepth 100000 in
theorem ok_mq_Eye_way : ov_okc mq_Eye_way := ⟨⟨ov_dec_ok (by decide +kernel), rfl⟩, ov_inT (List.mem_append_right _ (List.mem_of_getElem? (i := 803) rfl)) (by decide +kernel), by decide +kernel, ⟨by decide +kernel, by decide +kernel, by decide +kernel⟩, ov_inT (by decide +kernel) (by decide +kernel), by decide +kernel⟩
set_option maxRecDepth 100000 in
theorem ok_mq_Eye_spot : ov_okc mq_Eye_spot := ⟨⟨ov_dec_ok (by decide +kernel), rfl⟩, ov_inT (List.mem_append_right _ (List.mem_of_getElem? (i := 833) rfl)) (by decide +kernel), by decide +kernel, ⟨by decide +kernel, by decide +kernel, by decide +kernel⟩, ov_inT (by decide +kernel) (by decide +kernel), by decide +kernel⟩
set_option maxRecDepth 100000 in
theorem ok_mq_Eye_felt : ov_okc mq_Eye_felt := ⟨⟨ov_dec_ok (by decide +kernel), rfl⟩, ov_inT (List.mem_append_right _ (List.mem_of_getElem? (i := 837) rfl)) (by decide +kernel), by decide +kernel, ⟨by decide +kernel, by decide +kernel, by decide +kernel⟩, ov_inT (by decide +kernel) (by decide +kernel), by decide +kernel⟩
set_option maxRecDepth 100000 in
theorem ok_mq_Eye_liars : ov_okc mq_Eye_liars := ⟨⟨ov_dec_ok (by decide +kernel), rfl⟩, ov_inT (List.mem_append_right _ (List.mem_of_getElem? (i := 859) rfl)) (by decide +kernel), by decide +kernel, ⟨by decide +kernel, by decide +kernel, by decide +kernel⟩, ov_inT (by decide +kernel) (by decide +kernel), by decide +kernel⟩
set_option maxRecDepth 100000 in
theorem ok_mq_Eye_watch : ov_okc mq_Eye_watch := ⟨⟨ov_dec_ok (by decide +kernel), rfl⟩, ov_inT (List.mem_append_right _ (List.mem_of_getElem? (i := 883) rfl)) (by decide +kernel), by decide +kernel, ⟨by decide +kernel, by decide +kernel, by decide +kernel⟩, ov_inT (by decide +kernel) (by decide +kernel), by decide +kernel⟩
set_option maxRecDepth 100000 in
theorem ok_mq_Eye_watches : ov_okc mq_Eye_watches := ⟨⟨ov_dec_ok (by decide +kernel), rfl⟩, ov_inT (List.mem_append_right _ (List.mem_of_getElem? (i := 892) rfl)) (by decide +kernel), by decide +kernel, ⟨by decide +kernel, by decide +kernel, by decide +kernel⟩, ov_inT (by decide +kernel) (by decide +kernel), by decide +kernel⟩
set_option maxRecDepth 100000 in
theorem ok_mq_Eye_lends : ov_okc mq_Eye_lends := ⟨⟨ov_dec_ok (by decide +kernel), rfl⟩, ov_inT (List.mem_append_right _ (List.mem_of_getElem? (i := 915) rfl)) (by decide +kernel), by decide +kernel, ⟨by decide +kernel, by decide +kernel, by decide +kernel⟩, ov_inT (by decide +kernel) (by decide +kernel), by decide +kernel⟩
set_option maxRecDepth 100000 in
theorem ok_mq_Eye_ring : ov_okc mq_Eye_ring := ⟨⟨ov_dec_ok (by decide +kernel), rfl⟩, ov_inT (List.mem_append_right _ (List.mem_of_getElem? (i := 919) rfl)) (by decide +kernel), by decide +kernel, ⟨by decide +kernel, by decide +kernel, by decide +kernel⟩, ov_inT (by decide +kernel) (by decide +kernel), by decide +kernel⟩
set_option maxRecDepth 100000 in
theorem ok_mq_Eye_image : ov_okc mq_Eye_image := ⟨⟨ov_dec_ok (by decide +kernel), rfl⟩, ov_inT (List.mem_append_right _ (List.mem_of_getElem? (i := 946) rfl)) (by decide +kernel), by decide +kernel, ⟨by decide +kernel, by decide +kernel, by decide +kernel⟩, ov_inT (by decide +kernel) (by decide +kernel), by decide +kernel⟩
set_option maxRecDepth 100000 in
theorem ok_mq_Eye_look : ov_okc mq_Eye_look := ⟨⟨ov_dec_ok (by decide +kernel), rfl⟩, ov_inT (List.mem_append_right _ (List.mem_of_getElem? (i := 975) rfl)) (by decide +kernel), by decide +kernel, ⟨by decide +kernel, by decide +kernel, by decide +kernel⟩, ov_inT (by decide +kernel) (by decide +kernel), by decide +kernel⟩
set_option maxRecDepth 100000 in
theorem ok_mq_Mod_init : ov_okc mq_Mod_init := ⟨⟨ov_dec_ok (by decide +kernel), rfl⟩, ov_inT (List.mem_append_right _ (List.mem_of_getElem? (i := 980) rfl)) (by decide +kernel), by decide +kernel, ⟨by decide +kernel, by decide +kernel, by decide +kernel⟩, ov_inT (by decide +kernel) (by decide +kernel), by decide +kernel⟩
set_option maxRecDepth 100000 in
theorem ok_mq_Mod_state : ov_okc mq_Mod_state := ⟨⟨ov_dec_ok (by decide +kernel), rfl⟩, ov_inT (List.mem_append_right _ (List.mem_of_getElem? (i := 1180) rfl)) (by decide +kernel), by decide +kernel, ⟨by decide +kernel, by decide +kernel, by decide +kernel⟩, ov_inT (by decide +kernel) (by decide +kernel), by decide +kernel⟩
set_option maxRecDepth 100000 in
theorem ok_mq_Mod_three : ov_okc mq_Mod_three := ⟨⟨ov_dec_ok (by decide +kernel), rfl⟩, ov_inT (List.mem_append_right _ (List.mem_of_getElem? (i := 1184) rfl)) (by decide +kernel), by decide +kernel, ⟨by decide +kernel, by decide +kernel, by decide +kernel⟩, ov_inT (by decide +kernel) (by decide +kernel), by decide +kernel⟩
set_option maxRecDepth 100000 in
theorem ok_mq_Mod_isIn : ov_okc mq_Mod_isIn := ⟨⟨ov_dec_ok (by decide +kernel), rfl⟩, ov_inT (List.mem_append_right _ (List.mem_of_getElem? (i := 1188) rfl)) (by decide +kernel), by decide +kernel, ⟨by decide +kernel, by decide +kernel, by decide +kernel⟩, ov_inT (by decide +kernel) (by decide +kernel), by decide +kernel⟩
set_option maxRecDepth 100000 in
theorem ok_mq_Mod_fact : ov_okc mq_Mod_fact := ⟨⟨ov_dec_ok (by decide +kernel), rfl⟩, ov_inT (List.mem_append_right _ (List.mem_of_getElem? (i := 1192) rfl)) (by decide +kernel), by decide +kernel, ⟨by decide +kernel, by decide +kernel, by decide +kernel⟩, ov_inT (by decide +kernel) (by decide +kernel), by decide +kernel⟩
set_option maxRecDepth 100000 in
theorem ok_mq_Mod_isFact : ov_okc mq_Mod_isFact := ⟨⟨ov_dec_ok (by decide +kernel), rfl⟩, ov_inT (List.mem_append_right _ (List.mem_of_getElem? (i := 1196) rfl)) (by decide +kernel), by decide +kernel, ⟨by decide +kernel, by decide +kernel, by decide +kernel⟩, ov_inT (by decide +kernel) (by decide +kernel), by decide +kernel⟩
set_option maxRecDepth 100000 in
theorem ok_mq_Mod_trust : ov_okc mq_Mod_trust := ⟨⟨ov_dec_ok (by decide +kernel), rfl⟩, ov_inT (List.mem_append_right _ (List.mem_of_getElem? (i := 1200) rfl)) (by decide +kernel), by decide +kernel, ⟨by decide +kernel, by decide +kernel, by decide +kernel⟩, ov_inT (by decide +kernel) (by decide +kernel), by decide +kernel⟩
set_option maxRecDepth 100000 in
theorem ok_mq_Mod_isPerson : ov_okc mq_Mod_isPerson := ⟨⟨ov_dec_ok (by decide +kernel), rfl⟩, ov_inT (List.mem_append_right _ (List.mem_of_getElem? (i := 1204) rfl)) (by decide +kernel), by decide +kernel, ⟨by decide +kernel, by decide +kernel, by decide +kernel⟩, ov_inT (by decide +kernel) (by decide +kernel), by decide +kernel⟩
set_option maxRecDepth 100000 in
theorem ok_mq_Mod_isThree : ov_okc mq_Mod_isThree := ⟨⟨ov_dec_ok (by decide +kernel), rfl⟩, ov_inT (List.mem_append_right _ (List.mem_of_getElem? (i := 1208) rfl)) (by decide +kernel), by decide +kernel, ⟨by decide +kernel, by decide +kernel, by decide +kernel⟩, ov_inT (by decide +kernel) (by decide +kernel), by decide +kernel⟩
set_option maxRecDepth 100000 in
theorem ok_mq_Mod_feed : ov_okc mq_Mod_feed := ⟨⟨ov_dec_ok (by decide +kernel), rfl⟩, ov_inT (List.mem_append_right _ (List.mem_of_getElem? (i := 1212) rfl)) (by decide +kernel), by decide +kernel, ⟨by decide +kernel, by decide +kernel, by decide +kernel⟩, ov_inT (by decide +kernel) (by decide +kernel), by decide +kernel⟩
set_option maxRecDepth 100000 in
theorem ok_mq_Mod_puts : ov_okc mq_Mod_puts := ⟨⟨ov_dec_ok (by decide +kernel), rfl⟩, ov_inT (List.mem_append_right _ (List.mem_of_getElem? (i := 1216) rfl)) (by decide +kernel), by decide +kernel, ⟨by decide +kernel, by decide +kernel, by decide +kernel⟩, ov_inT (by decide +kernel) (by decide +kernel), by decide +kernel⟩
set_option maxRecDepth 100000 in
theorem ok_mq_Mod_end : ov_okc mq_Mod_end := ⟨⟨ov_dec_ok (by decide +kernel), rfl⟩, ov_inT (List.mem_append_right _ (List.mem_of_getElem? (i := 1220) rfl)) (by decide +kernel), by decide +kernel, ⟨by decide +kernel, by decide +kernel, by decide +kernel⟩, ov_inT (by decide +kernel) (by decide +kernel), by decide +kernel⟩
set_option maxRecDepth 100000 in
theorem ok_mq_Mod_text : ov_okc mq_Mod_text := ⟨⟨ov_dec_ok (by decide +kernel), rfl⟩, ov_inT (List.mem_append_right _ (List.mem_of_getElem? (i := 1224) rfl)) (by decide +kernel), by decide +kernel, ⟨by decide +kernel, by decide +kernel, by decide +kernel⟩, ov_inT (by decide +kernel) (by decide +kernel), by decide +kernel⟩
set_option maxRecDepth 100000 in
theorem ok_mq_Mod_reads : ov_okc mq_Mod_reads := ⟨⟨ov_dec_ok (by decide +kernel), rfl⟩, ov_inT (List.mem_append_right _ (List.mem_of_getElem? (i := 1228) rfl)) (by decide +kernel), by decide +kernel, ⟨by decide +kernel, by decide +kernel, by decide +kernel⟩, ov_inT (by decide +kernel) (by decide +kernel), by decide +kernel⟩
set_option maxRecDepth 100000 in
theorem ok_mq_Mod_raw : ov_okc mq_Mod_raw := ⟨⟨ov_dec_ok (by decide +kernel), rfl⟩, ov_inT (List.mem_append_right _ (List.mem_of_getElem? (i := 1232) rfl)) (by decide +kernel), by decide +kernel, ⟨by decide +kernel, by decide +kernel, by decide +kernel⟩, ov_inT (by decide +kernel) (by decide +kernel), by decide +kernel⟩
set_option maxRecDepth 100000 in
theorem ok_mq_Mod_isLetter : ov_okc mq_Mod_isLetter := ⟨⟨ov_dec_ok (by decide +kernel), rfl⟩, ov_inT (List.mem_append_right _ (List.mem_of_getElem? (i := 1236) rfl)) (by decide +kernel), by decide +kernel, ⟨by decide +kernel, by decide +kernel, by decide +kernel⟩, ov_inT (by decide +kernel) (by decide +kernel), by decide +kernel⟩
set_option maxRecDepth 100000 in
theorem ok_mq_Mod_wordOf : ov_okc mq_Mod_wordOf := ⟨⟨ov_dec_ok (by decide +kernel), rfl⟩, ov_inT (List.mem_append_right _ (List.mem_of_getElem? (i := 1240) rfl)) (by decide +kernel), by decide +kernel, ⟨by decide +kernel, by decide +kernel, by decide +kernel⟩, ov_inT (by decide +kernel) (by decide +kernel), by decide +kernel⟩
set_option maxRecDepth 100000 in
theorem ok_mq_Mod_isDigit : ov_okc mq_Mod_isDigit := ⟨⟨ov_dec_ok (by decide +kernel), rfl⟩, ov_inT (List.mem_append_right _ (List.mem_of_getElem? (i := 1244) rfl)) (by decide +kernel), by decide +kernel, ⟨by decide +kernel, by decide +kernel, by decide +kernel⟩, ov_inT (by decide +kernel) (by decide +kernel), by decide +kernel⟩
set_option maxRecDepth 100000 in
theorem ok_mq_Mod_readPlan : ov_okc mq_Mod_readPlan := ⟨⟨ov_dec_ok (by decide +kernel), rfl⟩, ov_inT (List.mem_append_right _ (List.mem_of_getElem? (i := 1248) rfl)) (by decide +kernel), by decide +kernel, ⟨by decide +kernel, by decide +kernel, by decide +kernel⟩, ov_inT (by decide +kernel) (by decide +kernel), by decide +kernel⟩
set_option maxRecDepth 100000 in
theorem ok_mq_Mod_errs : ov_okc mq_Mod_errs := ⟨⟨ov_dec_ok (by decide +kernel), rfl⟩, ov_inT (List.mem_append_right _ (List.mem_of_getElem? (i := 1252) rfl)) (by decide +kernel), by decide +kernel, ⟨by decide +kernel, by decide +kernel, by decide +kernel⟩, ov_inT (by decide +kernel) (by decide +kernel), by decide +kernel⟩
set_option maxRecDepth 100000 in
theorem ok_mq_Mod_readStep : ov_okc mq_Mod_readStep := ⟨⟨ov_dec_ok (by decide +kernel), rfl⟩, ov_inT (List.mem_append_right _ (List.mem_of_getElem? (i := 1256) rfl)) (by decide +kernel), by decide +kernel, ⟨by decide +kernel, by decide +kernel, by decide +kernel⟩, ov_inT (by decide +kernel) (by decide +kernel), by decide +kernel⟩
set_option maxRecDepth 100000 in
theorem ok_mq_Mod_readThing : ov_okc mq_Mod_readThing := ⟨⟨ov_dec_ok (by decide +kernel), rfl⟩, ov_inT (List.mem_append_right _ (List.mem_of_getElem? (i := 1260) rfl)) (by decide +kernel), by decide +kernel, ⟨by decide +kernel, by decide +kernel, by decide +kernel⟩, ov_inT (by decide +kernel) (by decide +kernel), by decide +kernel⟩
set_option maxRecDepth 100000 in
theorem ok_mq_Mod_readNumber : ov_okc mq_Mod_readNumber := ⟨⟨ov_dec_ok (by decide +kernel), rfl⟩, ov_inT (List.mem_append_right _ (List.mem_of_getElem? (i := 1264) rfl)) (by decide +kernel), by decide +kernel, ⟨by decide +kernel, by decide +kernel, by decide +kernel⟩, ov_inT (by decide +kernel) (by decide +kernel), by decide +kernel⟩
set_option maxRecDepth 100000 in
theorem ok_mq_Mod_readTo : ov_okc mq_Mod_readTo := ⟨⟨ov_dec_ok (by decide +kernel), rfl⟩, ov_inT (List.mem_append_right _ (List.mem_of_getElem? (i := 1268) rfl)) (by decide +kernel), by decide +kernel, ⟨by decide +kernel, by decide +kernel, by decide +kernel⟩, ov_inT (by decide +kernel) (by decide +kernel), by decide +kernel⟩
set_option maxRecDepth 100000 in
theorem ok_mq_Mod_fault : ov_okc mq_Mod_fault := ⟨⟨ov_dec_ok (by decide +kernel), rfl⟩, ov_inT (List.mem_append_right _ (List.mem_of_getElem? (i := 1272) rfl)) (by decide +kernel), by decide +kernel, ⟨by decide +kernel, by decide +kernel, by decide +kernel⟩, ov_inT (by decide +kernel) (by decide +kernel), by decide +kernel⟩
set_option maxRecDepth 100000 in
theorem ok_mq_Mod_minutes : ov_okc mq_Mod_minutes := ⟨⟨ov_dec_ok (by decide +kernel), rfl⟩, ov_inT (List.mem_append_right _ (List.mem_of_getElem? (i := 1276) rfl)) (by decide +kernel), by decide +kernel, ⟨by decide +kernel, by decide +kernel, by decide +kernel⟩, ov_inT (by decide +kernel) (by decide +kernel), by decide +kernel⟩
set_option maxRecDepth 100000 in
theorem ok_mq_Mod_goesBy : ov_okc mq_Mod_goesBy := ⟨⟨ov_dec_ok (by decide +kernel), rfl⟩, ov_inT (List.mem_append_right _ (List.mem_of_getElem? (i := 1281) rfl)) (by decide +kernel), by decide +kernel, ⟨by decide +kernel, by decide +kernel, by decide +kernel⟩, ov_inT (by decide +kernel) (by decide +kernel), by decide +kernel⟩
set_option maxRecDepth 100000 in
theorem ok_mq_Mod_draw : ov_okc mq_Mod_draw := ⟨⟨ov_dec_ok (by decide +kernel), rfl⟩, ov_inT (List.mem_append_right _ (List.mem_of_getElem? (i := 1285) rfl)) (by decide +kernel), by decide +kernel, ⟨by decide +kernel, by decide +kernel, by decide +kernel⟩, ov_inT (by decide +kernel) (by decide +kernel), by decide +kernel⟩
set_option maxRecDepth 100000 in
theorem ok_mq_Mod_ends : ov_okc mq_Mod_ends := ⟨⟨ov_dec_ok (by decide +kernel), rfl⟩, ov_inT (List.mem_append_right _ (List.mem_of_getElem? (i := 1291) rfl)) (by decide +kernel), by decide +kernel, ⟨by decide +kernel, by decide +kernel, by decide +kernel⟩, ov_inT (by decide +kernel) (by decide +kernel), by decide +kernel⟩
set_option maxRecDepth 100000 in
theorem ok_mq_Mod_handsOver : ov_okc mq_Mod_handsOver := ⟨⟨ov_dec_ok (by decide +kernel), rfl⟩, ov_inT (List.mem_append_right _ (List.mem_of_getElem? (i := 1295) rfl)) (by decide +kernel), by decide +kernel, ⟨by decide +kernel, by decide +kernel, by decide +kernel⟩, ov_inT (by decide +kernel) (by decide +kernel), by decide +kernel⟩
set_option maxRecDepth 100000 in
theorem ok_mq_Mod_feels : ov_okc mq_Mod_feels := ⟨⟨ov_dec_ok (by decide +kernel), rfl⟩, ov_inT (List.mem_append_right _ (List.mem_of_getElem? (i := 1299) rfl)) (by decide +kernel), by decide +kernel, ⟨by decide +kernel, by decide +kernel, by decide +kernel⟩, ov_inT (by decide +kernel) (by decide +kernel), by decide +kernel⟩
set_option maxRecDepth 100000 in
theorem ok_mq_Mod_thing : ov_okc mq_Mod_thing := ⟨⟨ov_dec_ok (by decide +kernel), rfl⟩, ov_inT (List.mem_append_right _ (List.mem_of_getElem? (i := 1303) rfl)) (by decide +kernel), by decide +kernel, ⟨by decide +kernel, by decide +kernel, by decide +kernel⟩, ov_inT (by decide +kernel) (by decide +kernel), by decide +kernel⟩
set_option maxRecDepth 100000 in
theorem ok_mq_Mod_begins : ov_okc mq_Mod_begins := ⟨⟨ov_dec_ok (by decide +kernel), rfl⟩, ov_inT (List.mem_append_right _ (List.mem_of_getElem? (i := 1307) rfl)) (by decide +kernel), by decide +kernel, ⟨by decide +kernel, by decide +kernel, by decide +kernel⟩, ov_inT (by decide +kernel) (by decide +kernel), by decide +kernel⟩
set_option maxRecDepth 100000 in
theorem ok_mq_Mod_sees : ov_okc mq_Mod_sees := ⟨⟨ov_dec_ok (by decide +kernel), rfl⟩, ov_inT (List.mem_append_right _ (List.mem_of_getElem? (i := 1311) rfl)) (by decide +kernel), by decide +kernel, ⟨by decide +kernel, by decide +kernel, by decide +kernel⟩, ov_inT (by decide +kernel) (by decide +kernel), by decide +kernel⟩
set_option maxRecDepth 100000 in
theorem ok_mq_Mod_holder : ov_okc mq_Mod_holder := ⟨⟨ov_dec_ok (by decide +kernel), rfl⟩, ov_inT (List.mem_append_right _ (List.mem_of_getElem? (i := 1315) rfl)) (by decide +kernel), by decide +kernel, ⟨by decide +kernel, by decide +kernel, by decide +kernel⟩, ov_inT (by decide +kernel) (by decide +kernel), by decide +kernel⟩
set_option maxRecDepth 100000 in
theorem ok_mq_Mod_says : ov_okc mq_Mod_says := ⟨⟨ov_dec_ok (by decide +kernel), rfl⟩, ov_inT (List.mem_append_right _ (List.mem_of_getElem? (i := 1319) rfl)) (by decide +kernel), by decide +kernel, ⟨by decide +kernel, by decide +kernel, by decide +kernel⟩, ov_inT (by decide +kernel) (by decide +kernel), by decide +kernel⟩
