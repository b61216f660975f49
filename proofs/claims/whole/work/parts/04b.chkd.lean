set_option maxRecDepth 100000 in
theorem ok_mq_Mod_sounds : ov_okc mq_Mod_sounds := ⟨⟨ov_dec_ok (by decide +kernel), rfl⟩, ov_inT (List.mem_append_right _ (List.mem_of_getElem? (i := 1323) rfl)) (by decide +kernel), by decide +kernel, ⟨by decide +kernel, by decide +kernel, by decide +kernel⟩, ov_inT (by decide +kernel) (by decide +kernel), by decide +kernel⟩
set_option maxRecDepth 100000 in
theorem ok_mq_Mod_where : ov_okc mq_Mod_where := ⟨⟨ov_dec_ok (by decide +kernel), rfl⟩, ov_inT (List.mem_append_right _ (List.mem_of_getElem? (i := 1327) rfl)) (by decide +kernel), by decide +kernel, ⟨by decide +kernel, by decide +kernel, by decide +kernel⟩, ov_inT (by decide +kernel) (by decide +kernel), by decide +kernel⟩
set_option maxRecDepth 100000 in
theorem ok_mq_Mod_isThing : ov_okc mq_Mod_isThing := ⟨⟨ov_dec_ok (by decide +kernel), rfl⟩, ov_inT (List.mem_append_right _ (List.mem_of_getElem? (i := 1331) rfl)) (by decide +kernel), by decide +kernel, ⟨by decide +kernel, by decide +kernel, by decide +kernel⟩, ov_inT (by decide +kernel) (by decide +kernel), by decide +kernel⟩
set_option maxRecDepth 100000 in
theorem ok_mq_Mod_knows : ov_okc mq_Mod_knows := ⟨⟨ov_dec_ok (by decide +kernel), rfl⟩, ov_inT (List.mem_append_right _ (List.mem_of_getElem? (i := 1335) rfl)) (by decide +kernel), by decide +kernel, ⟨by decide +kernel, by decide +kernel, by decide +kernel⟩, ov_inT (by decide +kernel) (by decide +kernel), by decide +kernel⟩
set_option maxRecDepth 100000 in
theorem ok_mq_Mod_held : ov_okc mq_Mod_held := ⟨⟨ov_dec_ok (by decide +kernel), rfl⟩, ov_inT (List.mem_append_right _ (List.mem_of_getElem? (i := 1339) rfl)) (by decide +kernel), by decide +kernel, ⟨by decide +kernel, by decide +kernel, by decide +kernel⟩, ov_inT (by decide +kernel) (by decide +kernel), by decide +kernel⟩
set_option maxRecDepth 100000 in
theorem ok_mq_Mod_of : ov_okc mq_Mod_of := ⟨⟨ov_dec_ok (by decide +kernel), rfl⟩, ov_inT (List.mem_append_right _ (List.mem_of_getElem? (i := 1343) rfl)) (by decide +kernel), by decide +kernel, ⟨by decide +kernel, by decide +kernel, by decide +kernel⟩, ov_inT (by decide +kernel) (by decide +kernel), by decide +kernel⟩
set_option maxRecDepth 100000 in
theorem ok_mq_Mod_book : ov_okc mq_Mod_book := ⟨⟨ov_dec_ok (by decide +kernel), rfl⟩, ov_inT (List.mem_append_right _ (List.mem_of_getElem? (i := 1347) rfl)) (by decide +kernel), by decide +kernel, ⟨by decide +kernel, by decide +kernel, by decide +kernel⟩, ov_inT (by decide +kernel) (by decide +kernel), by decide +kernel⟩
set_option maxRecDepth 100000 in
theorem ok_mq_Mod_origin : ov_okc mq_Mod_origin := ⟨⟨ov_dec_ok (by decide +kernel), rfl⟩, ov_inT (List.mem_append_right _ (List.mem_of_getElem? (i := 1351) rfl)) (by decide +kernel), by decide +kernel, ⟨by decide +kernel, by decide +kernel, by decide +kernel⟩, ov_inT (by decide +kernel) (by decide +kernel), by decide +kernel⟩
set_option maxRecDepth 100000 in
theorem ok_mq_Mod_noise : ov_okc mq_Mod_noise := ⟨⟨ov_dec_ok (by decide +kernel), rfl⟩, ov_inT (List.mem_append_right _ (List.mem_of_getElem? (i := 1355) rfl)) (by decide +kernel), by decide +kernel, ⟨by decide +kernel, by decide +kernel, by decide +kernel⟩, ov_inT (by decide +kernel) (by decide +kernel), by decide +kernel⟩
set_option maxRecDepth 100000 in
theorem ok_mq_Mod_heard : ov_okc mq_Mod_heard := ⟨⟨ov_dec_ok (by decide +kernel), rfl⟩, ov_inT (List.mem_append_right _ (List.mem_of_getElem? (i := 1359) rfl)) (by decide +kernel), by decide +kernel, ⟨by decide +kernel, by decide +kernel, by decide +kernel⟩, ov_inT (by decide +kernel) (by decide +kernel), by decide +kernel⟩
set_option maxRecDepth 100000 in
theorem ok_mq_Mod_errand : ov_okc mq_Mod_errand := ⟨⟨ov_dec_ok (by decide +kernel), rfl⟩, ov_inT (List.mem_append_right _ (List.mem_of_getElem? (i := 1363) rfl)) (by decide +kernel), by decide +kernel, ⟨by decide +kernel, by decide +kernel, by decide +kernel⟩, ov_inT (by decide +kernel) (by decide +kernel), by decide +kernel⟩
set_option maxRecDepth 100000 in
theorem ok_mq_Mod_knowersOf : ov_okc mq_Mod_knowersOf := ⟨⟨ov_dec_ok (by decide +kernel), rfl⟩, ov_inT (List.mem_append_right _ (List.mem_of_getElem? (i := 1367) rfl)) (by decide +kernel), by decide +kernel, ⟨by decide +kernel, by decide +kernel, by decide +kernel⟩, ov_inT (by decide +kernel) (by decide +kernel), by decide +kernel⟩
set_option maxRecDepth 100000 in
theorem ok_mq_Mod_placesOf : ov_okc mq_Mod_placesOf := ⟨⟨ov_dec_ok (by decide +kernel), rfl⟩, ov_inT (List.mem_append_right _ (List.mem_of_getElem? (i := 1371) rfl)) (by decide +kernel), by decide +kernel, ⟨by decide +kernel, by decide +kernel, by decide +kernel⟩, ov_inT (by decide +kernel) (by decide +kernel), by decide +kernel⟩
set_option maxRecDepth 100000 in
theorem ok_mq_Mod_memberOf : ov_okc mq_Mod_memberOf := ⟨⟨ov_dec_ok (by decide +kernel), rfl⟩, ov_inT (List.mem_append_right _ (List.mem_of_getElem? (i := 1375) rfl)) (by decide +kernel), by decide +kernel, ⟨by decide +kernel, by decide +kernel, by decide +kernel⟩, ov_inT (by decide +kernel) (by decide +kernel), by decide +kernel⟩
set_option maxRecDepth 100000 in
theorem ok_mq_Mod_findsErrand : ov_okc mq_Mod_findsErrand := ⟨⟨ov_dec_ok (by decide +kernel), rfl⟩, ov_inT (List.mem_append_right _ (List.mem_of_getElem? (i := 1379) rfl)) (by decide +kernel), by decide +kernel, ⟨by decide +kernel, by decide +kernel, by decide +kernel⟩, ov_inT (by decide +kernel) (by decide +kernel), by decide +kernel⟩
set_option maxRecDepth 100000 in
theorem ok_mq_Mod_errandFrom : ov_okc mq_Mod_errandFrom := ⟨⟨ov_dec_ok (by decide +kernel), rfl⟩, ov_inT (List.mem_append_right _ (List.mem_of_getElem? (i := 1384) rfl)) (by decide +kernel), by decide +kernel, ⟨by decide +kernel, by decide +kernel, by decide +kernel⟩, ov_inT (by decide +kernel) (by decide +kernel), by decide +kernel⟩
set_option maxRecDepth 100000 in
theorem ok_mq_Mod_movedTo : ov_okc mq_Mod_movedTo := ⟨⟨ov_dec_ok (by decide +kernel), rfl⟩, ov_inT (List.mem_append_right _ (List.mem_of_getElem? (i := 1388) rfl)) (by decide +kernel), by decide +kernel, ⟨by decide +kernel, by decide +kernel, by decide +kernel⟩, ov_inT (by decide +kernel) (by decide +kernel), by decide +kernel⟩
set_option maxRecDepth 100000 in
theorem ok_mq_Mod_comes : ov_okc mq_Mod_comes := ⟨⟨ov_dec_ok (by decide +kernel), rfl⟩, ov_inT (List.mem_append_right _ (List.mem_of_getElem? (i := 1392) rfl)) (by decide +kernel), by decide +kernel, ⟨by decide +kernel, by decide +kernel, by decide +kernel⟩, ov_inT (by decide +kernel) (by decide +kernel), by decide +kernel⟩
set_option maxRecDepth 100000 in
theorem ok_mq_Mod_talk : ov_okc mq_Mod_talk := ⟨⟨ov_dec_ok (by decide +kernel), rfl⟩, ov_inT (List.mem_append_right _ (List.mem_of_getElem? (i := 1396) rfl)) (by decide +kernel), by decide +kernel, ⟨by decide +kernel, by decide +kernel, by decide +kernel⟩, ov_inT (by decide +kernel) (by decide +kernel), by decide +kernel⟩
set_option maxRecDepth 100000 in
theorem ok_mq_Mod_stateOf : ov_okc mq_Mod_stateOf := ⟨⟨ov_dec_ok (by decide +kernel), rfl⟩, ov_inT (List.mem_append_right _ (List.mem_of_getElem? (i := 1400) rfl)) (by decide +kernel), by decide +kernel, ⟨by decide +kernel, by decide +kernel, by decide +kernel⟩, ov_inT (by decide +kernel) (by decide +kernel), by decide +kernel⟩
set_option maxRecDepth 100000 in
theorem ok_mq_Mod_talks : ov_okc mq_Mod_talks := ⟨⟨ov_dec_ok (by decide +kernel), rfl⟩, ov_inT (List.mem_append_right _ (List.mem_of_getElem? (i := 1404) rfl)) (by decide +kernel), by decide +kernel, ⟨by decide +kernel, by decide +kernel, by decide +kernel⟩, ov_inT (by decide +kernel) (by decide +kernel), by decide +kernel⟩
set_option maxRecDepth 100000 in
theorem ok_mq_Mod_talkFrom : ov_okc mq_Mod_talkFrom := ⟨⟨ov_dec_ok (by decide +kernel), rfl⟩, ov_inT (List.mem_append_right _ (List.mem_of_getElem? (i := 1408) rfl)) (by decide +kernel), by decide +kernel, ⟨by decide +kernel, by decide +kernel, by decide +kernel⟩, ov_inT (by decide +kernel) (by decide +kernel), by decide +kernel⟩
set_option maxRecDepth 100000 in
theorem ok_mq_Mod_danger : ov_okc mq_Mod_danger := ⟨⟨ov_dec_ok (by decide +kernel), rfl⟩, ov_inT (List.mem_append_right _ (List.mem_of_getElem? (i := 1412) rfl)) (by decide +kernel), by decide +kernel, ⟨by decide +kernel, by decide +kernel, by decide +kernel⟩, ov_inT (by decide +kernel) (by decide +kernel), by decide +kernel⟩
set_option maxRecDepth 100000 in
theorem ok_mq_Mod_way : ov_okc mq_Mod_way := ⟨⟨ov_dec_ok (by decide +kernel), rfl⟩, ov_inT (List.mem_append_right _ (List.mem_of_getElem? (i := 1416) rfl)) (by decide +kernel), by decide +kernel, ⟨by decide +kernel, by decide +kernel, by decide +kernel⟩, ov_inT (by decide +kernel) (by decide +kernel), by decide +kernel⟩
set_option maxRecDepth 100000 in
theorem ok_mq_Mod_dangerAt : ov_okc mq_Mod_dangerAt := ⟨⟨ov_dec_ok (by decide +kernel), rfl⟩, ov_inT (List.mem_append_right _ (List.mem_of_getElem? (i := 1420) rfl)) (by decide +kernel), by decide +kernel, ⟨by decide +kernel, by decide +kernel, by decide +kernel⟩, ov_inT (by decide +kernel) (by decide +kernel), by decide +kernel⟩
set_option maxRecDepth 100000 in
theorem ok_mq_Mod_behind : ov_okc mq_Mod_behind := ⟨⟨ov_dec_ok (by decide +kernel), rfl⟩, ov_inT (List.mem_append_right _ (List.mem_of_getElem? (i := 1424) rfl)) (by decide +kernel), by decide +kernel, ⟨by decide +kernel, by decide +kernel, by decide +kernel⟩, ov_inT (by decide +kernel) (by decide +kernel), by decide +kernel⟩
set_option maxRecDepth 100000 in
theorem ok_mq_Mod_tolls : ov_okc mq_Mod_tolls := ⟨⟨ov_dec_ok (by decide +kernel), rfl⟩, ov_inT (List.mem_append_right _ (List.mem_of_getElem? (i := 1428) rfl)) (by decide +kernel), by decide +kernel, ⟨by decide +kernel, by decide +kernel, by decide +kernel⟩, ov_inT (by decide +kernel) (by decide +kernel), by decide +kernel⟩
set_option maxRecDepth 100000 in
theorem ok_mq_Mod_spot : ov_okc mq_Mod_spot := ⟨⟨ov_dec_ok (by decide +kernel), rfl⟩, ov_inT (List.mem_append_right _ (List.mem_of_getElem? (i := 1432) rfl)) (by decide +kernel), by decide +kernel, ⟨by decide +kernel, by decide +kernel, by decide +kernel⟩, ov_inT (by decide +kernel) (by decide +kernel), by decide +kernel⟩
set_option maxRecDepth 100000 in
theorem ok_mq_Mod_felt : ov_okc mq_Mod_felt := ⟨⟨ov_dec_ok (by decide +kernel), rfl⟩, ov_inT (List.mem_append_right _ (List.mem_of_getElem? (i := 1436) rfl)) (by decide +kernel), by decide +kernel, ⟨by decide +kernel, by decide +kernel, by decide +kernel⟩, ov_inT (by decide +kernel) (by decide +kernel), by decide +kernel⟩
set_option maxRecDepth 100000 in
theorem ok_mq_Mod_feltBy : ov_okc mq_Mod_feltBy := ⟨⟨ov_dec_ok (by decide +kernel), rfl⟩, ov_inT (List.mem_append_right _ (List.mem_of_getElem? (i := 1440) rfl)) (by decide +kernel), by decide +kernel, ⟨by decide +kernel, by decide +kernel, by decide +kernel⟩, ov_inT (by decide +kernel) (by decide +kernel), by decide +kernel⟩
set_option maxRecDepth 100000 in
theorem ok_mq_Mod_liars : ov_okc mq_Mod_liars := ⟨⟨ov_dec_ok (by decide +kernel), rfl⟩, ov_inT (List.mem_append_right _ (List.mem_of_getElem? (i := 1444) rfl)) (by decide +kernel), by decide +kernel, ⟨by decide +kernel, by decide +kernel, by decide +kernel⟩, ov_inT (by decide +kernel) (by decide +kernel), by decide +kernel⟩
set_option maxRecDepth 100000 in
theorem ok_mq_Mod_ones : ov_okc mq_Mod_ones := ⟨⟨ov_dec_ok (by decide +kernel), rfl⟩, ov_inT (List.mem_append_right _ (List.mem_of_getElem? (i := 1448) rfl)) (by decide +kernel), by decide +kernel, ⟨by decide +kernel, by decide +kernel, by decide +kernel⟩, ov_inT (by decide +kernel) (by decide +kernel), by decide +kernel⟩
set_option maxRecDepth 100000 in
theorem ok_mq_Mod_goTogether : ov_okc mq_Mod_goTogether := ⟨⟨ov_dec_ok (by decide +kernel), rfl⟩, ov_inT (List.mem_append_right _ (List.mem_of_getElem? (i := 1452) rfl)) (by decide +kernel), by decide +kernel, ⟨by decide +kernel, by decide +kernel, by decide +kernel⟩, ov_inT (by decide +kernel) (by decide +kernel), by decide +kernel⟩
set_option maxRecDepth 100000 in
theorem ok_mq_Mod_watch : ov_okc mq_Mod_watch := ⟨⟨ov_dec_ok (by decide +kernel), rfl⟩, ov_inT (List.mem_append_right _ (List.mem_of_getElem? (i := 1456) rfl)) (by decide +kernel), by decide +kernel, ⟨by decide +kernel, by decide +kernel, by decide +kernel⟩, ov_inT (by decide +kernel) (by decide +kernel), by decide +kernel⟩
set_option maxRecDepth 100000 in
theorem ok_mq_Mod_watches : ov_okc mq_Mod_watches := ⟨⟨ov_dec_ok (by decide +kernel), rfl⟩, ov_inT (List.mem_append_right _ (List.mem_of_getElem? (i := 1460) rfl)) (by decide +kernel), by decide +kernel, ⟨by decide +kernel, by decide +kernel, by decide +kernel⟩, ov_inT (by decide +kernel) (by decide +kernel), by decide +kernel⟩
set_option maxRecDepth 100000 in
theorem ok_mq_Mod_spread : ov_okc mq_Mod_spread := ⟨⟨ov_dec_ok (by decide +kernel), rfl⟩, ov_inT (List.mem_append_right _ (List.mem_of_getElem? (i := 1464) rfl)) (by decide +kernel), by decide +kernel, ⟨by decide +kernel, by decide +kernel, by decide +kernel⟩, ov_inT (by decide +kernel) (by decide +kernel), by decide +kernel⟩
set_option maxRecDepth 100000 in
theorem ok_mq_Mod_watcher : ov_okc mq_Mod_watcher := ⟨⟨ov_dec_ok (by decide +kernel), rfl⟩, ov_inT (List.mem_append_right _ (List.mem_of_getElem? (i := 1468) rfl)) (by decide +kernel), by decide +kernel, ⟨by decide +kernel, by decide +kernel, by decide +kernel⟩, ov_inT (by decide +kernel) (by decide +kernel), by decide +kernel⟩
set_option maxRecDepth 100000 in
theorem ok_mq_Mod_lends : ov_okc mq_Mod_lends := ⟨⟨ov_dec_ok (by decide +kernel), rfl⟩, ov_inT (List.mem_append_right _ (List.mem_of_getElem? (i := 1472) rfl)) (by decide +kernel), by decide +kernel, ⟨by decide +kernel, by decide +kernel, by decide +kernel⟩, ov_inT (by decide +kernel) (by decide +kernel), by decide +kernel⟩
set_option maxRecDepth 100000 in
theorem ok_mq_Mod_ring : ov_okc mq_Mod_ring := ⟨⟨ov_dec_ok (by decide +kernel), rfl⟩, ov_inT (List.mem_append_right _ (List.mem_of_getElem? (i := 1476) rfl)) (by decide +kernel), by decide +kernel, ⟨by decide +kernel, by decide +kernel, by decide +kernel⟩, ov_inT (by decide +kernel) (by decide +kernel), by decide +kernel⟩
set_option maxRecDepth 100000 in
theorem ok_mq_Mod_canRing : ov_okc mq_Mod_canRing := ⟨⟨ov_dec_ok (by decide +kernel), rfl⟩, ov_inT (List.mem_append_right _ (List.mem_of_getElem? (i := 1480) rfl)) (by decide +kernel), by decide +kernel, ⟨by decide +kernel, by decide +kernel, by decide +kernel⟩, ov_inT (by decide +kernel) (by decide +kernel), by decide +kernel⟩
set_option maxRecDepth 100000 in
theorem ok_mq_Mod_isRing : ov_okc mq_Mod_isRing := ⟨⟨ov_dec_ok (by decide +kernel), rfl⟩, ov_inT (List.mem_append_right _ (List.mem_of_getElem? (i := 1484) rfl)) (by decide +kernel), by decide +kernel, ⟨by decide +kernel, by decide +kernel, by decide +kernel⟩, ov_inT (by decide +kernel) (by decide +kernel), by decide +kernel⟩
set_option maxRecDepth 100000 in
theorem ok_mq_Mod_grows : ov_okc mq_Mod_grows := ⟨⟨ov_dec_ok (by decide +kernel), rfl⟩, ov_inT (List.mem_append_right _ (List.mem_of_getElem? (i := 1488) rfl)) (by decide +kernel), by decide +kernel, ⟨by decide +kernel, by decide +kernel, by decide +kernel⟩, ov_inT (by decide +kernel) (by decide +kernel), by decide +kernel⟩
set_option maxRecDepth 100000 in
theorem ok_mq_Mod_image : ov_okc mq_Mod_image := ⟨⟨ov_dec_ok (by decide +kernel), rfl⟩, ov_inT (List.mem_append_right _ (List.mem_of_getElem? (i := 1492) rfl)) (by decide +kernel), by decide +kernel, ⟨by decide +kernel, by decide +kernel, by decide +kernel⟩, ov_inT (by decide +kernel) (by decide +kernel), by decide +kernel⟩
set_option maxRecDepth 100000 in
theorem ok_mq_Mod_kept : ov_okc mq_Mod_kept := ⟨⟨ov_dec_ok (by decide +kernel), rfl⟩, ov_inT (List.mem_append_right _ (List.mem_of_getElem? (i := 1496) rfl)) (by decide +kernel), by decide +kernel, ⟨by decide +kernel, by decide +kernel, by decide +kernel⟩, ov_inT (by decide +kernel) (by decide +kernel), by decide +kernel⟩
set_option maxRecDepth 100000 in
theorem ok_mq_Mod_keepsThrees : ov_okc mq_Mod_keepsThrees := ⟨⟨ov_dec_ok (by decide +kernel), rfl⟩, ov_inT (List.mem_append_right _ (List.mem_of_getElem? (i := 1500) rfl)) (by decide +kernel), by decide +kernel, ⟨by decide +kernel, by decide +kernel, by decide +kernel⟩, ov_inT (by decide +kernel) (by decide +kernel), by decide +kernel⟩
set_option maxRecDepth 100000 in
theorem ok_mq_Mod_keepsOthers : ov_okc mq_Mod_keepsOthers := ⟨⟨ov_dec_ok (by decide +kernel), rfl⟩, ov_inT (List.mem_append_right _ (List.mem_of_getElem? (i := 1504) rfl)) (by decide +kernel), by decide +kernel, ⟨by decide +kernel, by decide +kernel, by decide +kernel⟩, ov_inT (by decide +kernel) (by decide +kernel), by decide +kernel⟩
set_option maxRecDepth 100000 in
theorem ok_mq_Mod_look : ov_okc mq_Mod_look := ⟨⟨ov_dec_ok (by decide +kernel), rfl⟩, ov_inT (List.mem_append_right _ (List.mem_of_getElem? (i := 1508) rfl)) (by decide +kernel), by decide +kernel, ⟨by decide +kernel, by decide +kernel, by decide +kernel⟩, ov_inT (by decide +kernel) (by decide +kernel), by decide +kernel⟩
set_option maxRecDepth 100000 in
theorem ok_mq_Integer_bitCount : ov_okc mq_Integer_bitCount := ⟨⟨ov_dec_ok (by decide +kernel), rfl⟩, ov_inT (List.mem_append_right _ (List.mem_of_getElem? (i := 872) rfl)) (by decide +kernel), by decide +kernel, ⟨by decide +kernel, by decide +kernel, by decide +kernel⟩, ov_inT (by decide +kernel) (by decide +kernel), by decide +kernel⟩
set_option maxRecDepth 100000 in
theorem ok_mq_Arrays_fillI : ov_okc mq_Arrays_fillI := ⟨⟨ov_dec_ok (by decide +kernel), rfl⟩, ov_inT (List.mem_append_right _ (List.mem_of_getElem? (i := 81) rfl)) (by decide +kernel), by decide +kernel, ⟨by decide +kernel, by decide +kernel, by decide +kernel⟩, ov_inT (by decide +kernel) (by decide +kernel), by decide +kernel⟩
set_option maxRecDepth 100000 in
theorem ok_mq_Arrays_fillJ : ov_okc mq_Arrays_fillJ := ⟨⟨ov_dec_ok (by decide +kernel), rfl⟩, ov_inT (List.mem_append_right _ (List.mem_of_getElem? (i := 773) rfl)) (by decide +kernel), by decide +kernel, ⟨by decide +kernel, by decide +kernel, by decide +kernel⟩, ov_inT (by decide +kernel) (by decide +kernel), by decide +kernel⟩
