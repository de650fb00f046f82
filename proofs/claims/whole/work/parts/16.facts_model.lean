theorem wi_RX11 : Cond.initialized RX11 ∈ wsL_law := u_r1 _ (List.mem_of_getElem? (i := 5) rfl)
theorem wc_X11_init : Cond.code yX11_init cX11_init 1 none ∈ wsL_law := u_r5 _ (List.mem_of_getElem? (i := 5) rfl)
theorem e_X11_init : u_me yX11_init cX11_init 1 none 0 := ⟨⟨by decide, by decide, by decide +kernel⟩, wi_RX11, wc_X11_init⟩
theorem wv_X11_init : Cond.instanceMethod yX11_init ∈ wsL_law := u_r5 _ (List.mem_of_getElem? (i := 4) rfl)
theorem wc_X11_thrown : Cond.code yX11_thrown cX11_thrown 1 (some .int) ∈ wsL_law := u_r11 _ (List.mem_of_getElem? (i := 17) rfl)
theorem e_X11_thrown : u_me yX11_thrown cX11_thrown 1 (some .int) 0 := ⟨⟨by decide, by decide, by decide +kernel⟩, wi_RX11, wc_X11_thrown⟩
theorem wv_X11_thrown : Cond.instanceMethod yX11_thrown ∈ wsL_law := u_r11 _ (List.mem_of_getElem? (i := 15) rfl)
theorem wl_X11_thrown : Cond.selects RX11 yX11_thrown yX11_thrown ∈ wsL_law := u_r11 _ (List.mem_of_getElem? (i := 16) rfl)
theorem ev_X11_thrown : u_mev yX11_thrown cX11_thrown 1 (some .int) 0 := ⟨e_X11_thrown, wv_X11_thrown, wl_X11_thrown⟩
theorem wc_X11_holds : Cond.code yX11_holds cX11_holds 2 (some .boolean) ∈ wsL_law := u_r11 _ (List.mem_of_getElem? (i := 12) rfl)
theorem e_X11_holds : u_me yX11_holds cX11_holds 2 (some .boolean) 1 := ⟨⟨by decide, by decide, by decide +kernel⟩, wi_RX11, wc_X11_holds⟩
theorem wv_X11_holds : Cond.instanceMethod yX11_holds ∈ wsL_law := u_r11 _ (List.mem_of_getElem? (i := 10) rfl)
theorem wl_X11_holds : Cond.selects RX11 yX11_holds yX11_holds ∈ wsL_law := u_r11 _ (List.mem_of_getElem? (i := 11) rfl)
theorem ev_X11_holds : u_mev yX11_holds cX11_holds 2 (some .boolean) 1 := ⟨e_X11_holds, wv_X11_holds, wl_X11_holds⟩
theorem wc_X11_isIn : Cond.code yX11_isIn cX11_isIn 3 (some .boolean) ∈ wsL_law := u_r11 _ (List.mem_of_getElem? (i := 8) rfl)
theorem e_X11_isIn : u_me yX11_isIn cX11_isIn 3 (some .boolean) 3 := ⟨⟨by decide, by decide, by decide +kernel⟩, wi_RX11, wc_X11_isIn⟩
theorem ws_X11_isIn : Cond.static yX11_isIn ∈ wsL_law := u_r11 _ (List.mem_of_getElem? (i := 7) rfl)
theorem es_X11_isIn : u_mes yX11_isIn cX11_isIn 3 (some .boolean) 3 := ⟨e_X11_isIn, ws_X11_isIn⟩
theorem wc_X11_isSection : Cond.code yX11_isSection cX11_isSection 2 (some .boolean) ∈ wsL_law := u_r15 _ (List.mem_of_getElem? (i := 9) rfl)
theorem e_X11_isSection : u_me yX11_isSection cX11_isSection 2 (some .boolean) 1 := ⟨⟨by decide, by decide, by decide +kernel⟩, wi_RX11, wc_X11_isSection⟩
theorem wv_X11_isSection : Cond.instanceMethod yX11_isSection ∈ wsL_law := u_r15 _ (List.mem_of_getElem? (i := 7) rfl)
theorem wl_X11_isSection : Cond.selects RX11 yX11_isSection yX11_isSection ∈ wsL_law := u_r15 _ (List.mem_of_getElem? (i := 8) rfl)
theorem ev_X11_isSection : u_mev yX11_isSection cX11_isSection 2 (some .boolean) 1 := ⟨e_X11_isSection, wv_X11_isSection, wl_X11_isSection⟩
theorem wc_X11_turn : Cond.code yX11_turn cX11_turn 6 (some .int) ∈ wsL_law := u_r11 _ (List.mem_of_getElem? (i := 4) rfl)
theorem e_X11_turn : u_me yX11_turn cX11_turn 6 (some .int) 4 := ⟨⟨by decide, by decide, by decide +kernel⟩, wi_RX11, wc_X11_turn⟩
theorem wv_X11_turn : Cond.instanceMethod yX11_turn ∈ wsL_law := u_r11 _ (List.mem_of_getElem? (i := 2) rfl)
theorem wl_X11_turn : Cond.selects RX11 yX11_turn yX11_turn ∈ wsL_law := u_r11 _ (List.mem_of_getElem? (i := 3) rfl)
theorem ev_X11_turn : u_mev yX11_turn cX11_turn 6 (some .int) 4 := ⟨e_X11_turn, wv_X11_turn, wl_X11_turn⟩
theorem wc_X11_mean : Cond.code yX11_mean cX11_mean 3 (some .int) ∈ wsL_law := u_r12 _ (List.mem_of_getElem? (i := 5) rfl)
theorem e_X11_mean : u_me yX11_mean cX11_mean 3 (some .int) 1 := ⟨⟨by decide, by decide, by decide +kernel⟩, wi_RX11, wc_X11_mean⟩
theorem wv_X11_mean : Cond.instanceMethod yX11_mean ∈ wsL_law := u_r12 _ (List.mem_of_getElem? (i := 3) rfl)
theorem wl_X11_mean : Cond.selects RX11 yX11_mean yX11_mean ∈ wsL_law := u_r12 _ (List.mem_of_getElem? (i := 4) rfl)
theorem ev_X11_mean : u_mev yX11_mean cX11_mean 3 (some .int) 1 := ⟨e_X11_mean, wv_X11_mean, wl_X11_mean⟩
theorem wc_X11_surge : Cond.code yX11_surge cX11_surge 5 (some .int) ∈ wsL_law := u_r12 _ (List.mem_of_getElem? (i := 17) rfl)
theorem e_X11_surge : u_me yX11_surge cX11_surge 5 (some .int) 3 := ⟨⟨by decide, by decide, by decide +kernel⟩, wi_RX11, wc_X11_surge⟩
theorem wv_X11_surge : Cond.instanceMethod yX11_surge ∈ wsL_law := u_r12 _ (List.mem_of_getElem? (i := 15) rfl)
theorem wl_X11_surge : Cond.selects RX11 yX11_surge yX11_surge ∈ wsL_law := u_r12 _ (List.mem_of_getElem? (i := 16) rfl)
theorem ev_X11_surge : u_mev yX11_surge cX11_surge 5 (some .int) 3 := ⟨e_X11_surge, wv_X11_surge, wl_X11_surge⟩
theorem wc_X11_river : Cond.code yX11_river cX11_river 4 (some .int) ∈ wsL_law := u_r13 _ (List.mem_of_getElem? (i := 7) rfl)
theorem e_X11_river : u_me yX11_river cX11_river 4 (some .int) 2 := ⟨⟨by decide, by decide, by decide +kernel⟩, wi_RX11, wc_X11_river⟩
theorem wv_X11_river : Cond.instanceMethod yX11_river ∈ wsL_law := u_r13 _ (List.mem_of_getElem? (i := 5) rfl)
theorem wl_X11_river : Cond.selects RX11 yX11_river yX11_river ∈ wsL_law := u_r13 _ (List.mem_of_getElem? (i := 6) rfl)
theorem ev_X11_river : u_mev yX11_river cX11_river 4 (some .int) 2 := ⟨e_X11_river, wv_X11_river, wl_X11_river⟩
theorem wc_X11_barrier : Cond.code yX11_barrier cX11_barrier 4 (some .int) ∈ wsL_law := u_r13 _ (List.mem_of_getElem? (i := 22) rfl)
theorem e_X11_barrier : u_me yX11_barrier cX11_barrier 4 (some .int) 2 := ⟨⟨by decide, by decide, by decide +kernel⟩, wi_RX11, wc_X11_barrier⟩
theorem wv_X11_barrier : Cond.instanceMethod yX11_barrier ∈ wsL_law := u_r13 _ (List.mem_of_getElem? (i := 20) rfl)
theorem wl_X11_barrier : Cond.selects RX11 yX11_barrier yX11_barrier ∈ wsL_law := u_r13 _ (List.mem_of_getElem? (i := 21) rfl)
theorem ev_X11_barrier : u_mev yX11_barrier cX11_barrier 4 (some .int) 2 := ⟨e_X11_barrier, wv_X11_barrier, wl_X11_barrier⟩
theorem wc_X11_heightOf : Cond.code yX11_heightOf cX11_heightOf 7 (some .int) ∈ wsL_law := u_r24 _ (List.mem_of_getElem? (i := 14) rfl)
theorem e_X11_heightOf : u_me yX11_heightOf cX11_heightOf 7 (some .int) 2 := ⟨⟨by decide, by decide, by decide +kernel⟩, wi_RX11, wc_X11_heightOf⟩
theorem wv_X11_heightOf : Cond.instanceMethod yX11_heightOf ∈ wsL_law := u_r24 _ (List.mem_of_getElem? (i := 12) rfl)
theorem wl_X11_heightOf : Cond.selects RX11 yX11_heightOf yX11_heightOf ∈ wsL_law := u_r24 _ (List.mem_of_getElem? (i := 13) rfl)
theorem ev_X11_heightOf : u_mev yX11_heightOf cX11_heightOf 7 (some .int) 2 := ⟨e_X11_heightOf, wv_X11_heightOf, wl_X11_heightOf⟩
theorem wc_X11_seaOf : Cond.code yX11_seaOf cX11_seaOf 4 (some .int) ∈ wsL_law := u_r24 _ (List.mem_of_getElem? (i := 10) rfl)
theorem e_X11_seaOf : u_me yX11_seaOf cX11_seaOf 4 (some .int) 1 := ⟨⟨by decide, by decide, by decide +kernel⟩, wi_RX11, wc_X11_seaOf⟩
theorem wv_X11_seaOf : Cond.instanceMethod yX11_seaOf ∈ wsL_law := u_r24 _ (List.mem_of_getElem? (i := 8) rfl)
theorem wl_X11_seaOf : Cond.selects RX11 yX11_seaOf yX11_seaOf ∈ wsL_law := u_r24 _ (List.mem_of_getElem? (i := 9) rfl)
theorem ev_X11_seaOf : u_mev yX11_seaOf cX11_seaOf 4 (some .int) 1 := ⟨e_X11_seaOf, wv_X11_seaOf, wl_X11_seaOf⟩
theorem wc_X11_section : Cond.code yX11_section cX11_section 6 (some .int) ∈ wsL_law := u_r14 _ (List.mem_of_getElem? (i := 11) rfl)
theorem e_X11_section : u_me yX11_section cX11_section 6 (some .int) 4 := ⟨⟨by decide, by decide, by decide +kernel⟩, wi_RX11, wc_X11_section⟩
theorem wv_X11_section : Cond.instanceMethod yX11_section ∈ wsL_law := u_r14 _ (List.mem_of_getElem? (i := 9) rfl)
theorem wl_X11_section : Cond.selects RX11 yX11_section yX11_section ∈ wsL_law := u_r14 _ (List.mem_of_getElem? (i := 10) rfl)
theorem ev_X11_section : u_mev yX11_section cX11_section 6 (some .int) 4 := ⟨e_X11_section, wv_X11_section, wl_X11_section⟩
theorem wc_X11_intake : Cond.code yX11_intake cX11_intake 7 (some .int) ∈ wsL_law := u_r15 _ (List.mem_of_getElem? (i := 4) rfl)
theorem e_X11_intake : u_me yX11_intake cX11_intake 7 (some .int) 5 := ⟨⟨by decide, by decide, by decide +kernel⟩, wi_RX11, wc_X11_intake⟩
theorem wv_X11_intake : Cond.instanceMethod yX11_intake ∈ wsL_law := u_r15 _ (List.mem_of_getElem? (i := 2) rfl)
theorem wl_X11_intake : Cond.selects RX11 yX11_intake yX11_intake ∈ wsL_law := u_r15 _ (List.mem_of_getElem? (i := 3) rfl)
theorem ev_X11_intake : u_mev yX11_intake cX11_intake 7 (some .int) 5 := ⟨e_X11_intake, wv_X11_intake, wl_X11_intake⟩
theorem wc_X11_oysters : Cond.code yX11_oysters cX11_oysters 5 (some .int) ∈ wsL_law := u_r16 _ (List.mem_of_getElem? (i := 0) rfl)
theorem e_X11_oysters : u_me yX11_oysters cX11_oysters 5 (some .int) 3 := ⟨⟨by decide, by decide, by decide +kernel⟩, wi_RX11, wc_X11_oysters⟩
theorem wv_X11_oysters : Cond.instanceMethod yX11_oysters ∈ wsL_law := u_r15 _ (List.mem_of_getElem? (i := 22) rfl)
theorem wl_X11_oysters : Cond.selects RX11 yX11_oysters yX11_oysters ∈ wsL_law := u_r15 _ (List.mem_of_getElem? (i := 23) rfl)
theorem ev_X11_oysters : u_mev yX11_oysters cX11_oysters 5 (some .int) 3 := ⟨e_X11_oysters, wv_X11_oysters, wl_X11_oysters⟩
theorem wc_X11_permit : Cond.code yX11_permit cX11_permit 4 (some .int) ∈ wsL_law := u_r16 _ (List.mem_of_getElem? (i := 14) rfl)
theorem e_X11_permit : u_me yX11_permit cX11_permit 4 (some .int) 2 := ⟨⟨by decide, by decide, by decide +kernel⟩, wi_RX11, wc_X11_permit⟩
theorem wv_X11_permit : Cond.instanceMethod yX11_permit ∈ wsL_law := u_r16 _ (List.mem_of_getElem? (i := 12) rfl)
theorem wl_X11_permit : Cond.selects RX11 yX11_permit yX11_permit ∈ wsL_law := u_r16 _ (List.mem_of_getElem? (i := 13) rfl)
theorem ev_X11_permit : u_mev yX11_permit cX11_permit 4 (some .int) 2 := ⟨e_X11_permit, wv_X11_permit, wl_X11_permit⟩
theorem wc_X11_why : Cond.code yX11_why cX11_why 3 (some .int) ∈ wsL_law := u_r17 _ (List.mem_of_getElem? (i := 9) rfl)
theorem e_X11_why : u_me yX11_why cX11_why 3 (some .int) 2 := ⟨⟨by decide, by decide, by decide +kernel⟩, wi_RX11, wc_X11_why⟩
theorem wv_X11_why : Cond.instanceMethod yX11_why ∈ wsL_law := u_r17 _ (List.mem_of_getElem? (i := 7) rfl)
theorem wl_X11_why : Cond.selects RX11 yX11_why yX11_why ∈ wsL_law := u_r17 _ (List.mem_of_getElem? (i := 8) rfl)
theorem ev_X11_why : u_mev yX11_why cX11_why 3 (some .int) 2 := ⟨e_X11_why, wv_X11_why, wl_X11_why⟩
theorem wc_X11_whyNot : Cond.code yX11_whyNot cX11_whyNot 3 (some .int) ∈ wsL_law := u_r17 _ (List.mem_of_getElem? (i := 5) rfl)
theorem e_X11_whyNot : u_me yX11_whyNot cX11_whyNot 3 (some .int) 2 := ⟨⟨by decide, by decide, by decide +kernel⟩, wi_RX11, wc_X11_whyNot⟩
theorem wv_X11_whyNot : Cond.instanceMethod yX11_whyNot ∈ wsL_law := u_r17 _ (List.mem_of_getElem? (i := 3) rfl)
theorem wl_X11_whyNot : Cond.selects RX11 yX11_whyNot yX11_whyNot ∈ wsL_law := u_r17 _ (List.mem_of_getElem? (i := 4) rfl)
theorem ev_X11_whyNot : u_mev yX11_whyNot cX11_whyNot 3 (some .int) 2 := ⟨e_X11_whyNot, wv_X11_whyNot, wl_X11_whyNot⟩
theorem wc_X11_dredge : Cond.code yX11_dredge cX11_dredge 5 (some .int) ∈ wsL_law := u_r17 _ (List.mem_of_getElem? (i := 20) rfl)
theorem e_X11_dredge : u_me yX11_dredge cX11_dredge 5 (some .int) 3 := ⟨⟨by decide, by decide, by decide +kernel⟩, wi_RX11, wc_X11_dredge⟩
theorem wv_X11_dredge : Cond.instanceMethod yX11_dredge ∈ wsL_law := u_r17 _ (List.mem_of_getElem? (i := 18) rfl)
theorem wl_X11_dredge : Cond.selects RX11 yX11_dredge yX11_dredge ∈ wsL_law := u_r17 _ (List.mem_of_getElem? (i := 19) rfl)
theorem ev_X11_dredge : u_mev yX11_dredge cX11_dredge 5 (some .int) 3 := ⟨e_X11_dredge, wv_X11_dredge, wl_X11_dredge⟩
theorem wc_X11_bed : Cond.code yX11_bed cX11_bed 2 (some .int) ∈ wsL_law := u_r25 _ (List.mem_of_getElem? (i := 13) rfl)
theorem e_X11_bed : u_me yX11_bed cX11_bed 2 (some .int) 1 := ⟨⟨by decide, by decide, by decide +kernel⟩, wi_RX11, wc_X11_bed⟩
theorem wv_X11_bed : Cond.instanceMethod yX11_bed ∈ wsL_law := u_r25 _ (List.mem_of_getElem? (i := 11) rfl)
theorem wl_X11_bed : Cond.selects RX11 yX11_bed yX11_bed ∈ wsL_law := u_r25 _ (List.mem_of_getElem? (i := 12) rfl)
theorem ev_X11_bed : u_mev yX11_bed cX11_bed 2 (some .int) 1 := ⟨e_X11_bed, wv_X11_bed, wl_X11_bed⟩
theorem wc_X11_level : Cond.code yX11_level cX11_level 2 (some .int) ∈ wsL_law := u_r25 _ (List.mem_of_getElem? (i := 9) rfl)
theorem e_X11_level : u_me yX11_level cX11_level 2 (some .int) 1 := ⟨⟨by decide, by decide, by decide +kernel⟩, wi_RX11, wc_X11_level⟩
theorem wv_X11_level : Cond.instanceMethod yX11_level ∈ wsL_law := u_r25 _ (List.mem_of_getElem? (i := 7) rfl)
theorem wl_X11_level : Cond.selects RX11 yX11_level yX11_level ∈ wsL_law := u_r25 _ (List.mem_of_getElem? (i := 8) rfl)
theorem ev_X11_level : u_mev yX11_level cX11_level 2 (some .int) 1 := ⟨e_X11_level, wv_X11_level, wl_X11_level⟩
theorem wc_X11_salinity : Cond.code yX11_salinity cX11_salinity 4 (some .int) ∈ wsL_law := u_r26 _ (List.mem_of_getElem? (i := 8) rfl)
theorem e_X11_salinity : u_me yX11_salinity cX11_salinity 4 (some .int) 2 := ⟨⟨by decide, by decide, by decide +kernel⟩, wi_RX11, wc_X11_salinity⟩
theorem wv_X11_salinity : Cond.instanceMethod yX11_salinity ∈ wsL_law := u_r26 _ (List.mem_of_getElem? (i := 6) rfl)
theorem wl_X11_salinity : Cond.selects RX11 yX11_salinity yX11_salinity ∈ wsL_law := u_r26 _ (List.mem_of_getElem? (i := 7) rfl)
theorem ev_X11_salinity : u_mev yX11_salinity cX11_salinity 4 (some .int) 2 := ⟨e_X11_salinity, wv_X11_salinity, wl_X11_salinity⟩
theorem wc_X11_share : Cond.code yX11_share cX11_share 3 (some .int) ∈ wsL_law := u_r25 _ (List.mem_of_getElem? (i := 20) rfl)
theorem e_X11_share : u_me yX11_share cX11_share 3 (some .int) 3 := ⟨⟨by decide, by decide, by decide +kernel⟩, wi_RX11, wc_X11_share⟩
theorem ws_X11_share : Cond.static yX11_share ∈ wsL_law := u_r25 _ (List.mem_of_getElem? (i := 19) rfl)
theorem es_X11_share : u_mes yX11_share cX11_share 3 (some .int) 3 := ⟨e_X11_share, ws_X11_share⟩
theorem wc_X11_leaves : Cond.code yX11_leaves cX11_leaves 5 none ∈ wsL_law := u_r25 _ (List.mem_of_getElem? (i := 17) rfl)
theorem e_X11_leaves : u_me yX11_leaves cX11_leaves 5 none 3 := ⟨⟨by decide, by decide, by decide +kernel⟩, wi_RX11, wc_X11_leaves⟩
theorem wv_X11_leaves : Cond.instanceMethod yX11_leaves ∈ wsL_law := u_r25 _ (List.mem_of_getElem? (i := 15) rfl)
theorem wl_X11_leaves : Cond.selects RX11 yX11_leaves yX11_leaves ∈ wsL_law := u_r25 _ (List.mem_of_getElem? (i := 16) rfl)
theorem ev_X11_leaves : u_mev yX11_leaves cX11_leaves 5 none 3 := ⟨e_X11_leaves, wv_X11_leaves, wl_X11_leaves⟩
theorem wc_X11_flows : Cond.code yX11_flows cX11_flows 5 none ∈ wsL_law := u_r26 _ (List.mem_of_getElem? (i := 4) rfl)
theorem e_X11_flows : u_me yX11_flows cX11_flows 5 none 4 := ⟨⟨by decide, by decide, by decide +kernel⟩, wi_RX11, wc_X11_flows⟩
theorem wv_X11_flows : Cond.instanceMethod yX11_flows ∈ wsL_law := u_r26 _ (List.mem_of_getElem? (i := 2) rfl)
theorem wl_X11_flows : Cond.selects RX11 yX11_flows yX11_flows ∈ wsL_law := u_r26 _ (List.mem_of_getElem? (i := 3) rfl)
theorem ev_X11_flows : u_mev yX11_flows cX11_flows 5 none 4 := ⟨e_X11_flows, wv_X11_flows, wl_X11_flows⟩
theorem wc_X11_isShutNow : Cond.code yX11_isShutNow cX11_isShutNow 3 (some .boolean) ∈ wsL_law := u_r24 _ (List.mem_of_getElem? (i := 18) rfl)
theorem e_X11_isShutNow : u_me yX11_isShutNow cX11_isShutNow 3 (some .boolean) 0 := ⟨⟨by decide, by decide, by decide +kernel⟩, wi_RX11, wc_X11_isShutNow⟩
theorem wv_X11_isShutNow : Cond.instanceMethod yX11_isShutNow ∈ wsL_law := u_r24 _ (List.mem_of_getElem? (i := 16) rfl)
theorem wl_X11_isShutNow : Cond.selects RX11 yX11_isShutNow yX11_isShutNow ∈ wsL_law := u_r24 _ (List.mem_of_getElem? (i := 17) rfl)
theorem ev_X11_isShutNow : u_mev yX11_isShutNow cX11_isShutNow 3 (some .boolean) 0 := ⟨e_X11_isShutNow, wv_X11_isShutNow, wl_X11_isShutNow⟩
theorem wc_X11_closes : Cond.code yX11_closes cX11_closes 3 none ∈ wsL_law := u_r24 _ (List.mem_of_getElem? (i := 22) rfl)
theorem e_X11_closes : u_me yX11_closes cX11_closes 3 none 1 := ⟨⟨by decide, by decide, by decide +kernel⟩, wi_RX11, wc_X11_closes⟩
theorem wv_X11_closes : Cond.instanceMethod yX11_closes ∈ wsL_law := u_r24 _ (List.mem_of_getElem? (i := 20) rfl)
theorem wl_X11_closes : Cond.selects RX11 yX11_closes yX11_closes ∈ wsL_law := u_r24 _ (List.mem_of_getElem? (i := 21) rfl)
theorem ev_X11_closes : u_mev yX11_closes cX11_closes 3 none 1 := ⟨e_X11_closes, wv_X11_closes, wl_X11_closes⟩
theorem wc_X11_mouth : Cond.code yX11_mouth cX11_mouth 4 none ∈ wsL_law := u_r25 _ (List.mem_of_getElem? (i := 3) rfl)
theorem e_X11_mouth : u_me yX11_mouth cX11_mouth 4 none 1 := ⟨⟨by decide, by decide, by decide +kernel⟩, wi_RX11, wc_X11_mouth⟩
theorem wv_X11_mouth : Cond.instanceMethod yX11_mouth ∈ wsL_law := u_r25 _ (List.mem_of_getElem? (i := 1) rfl)
theorem wl_X11_mouth : Cond.selects RX11 yX11_mouth yX11_mouth ∈ wsL_law := u_r25 _ (List.mem_of_getElem? (i := 2) rfl)
theorem ev_X11_mouth : u_mev yX11_mouth cX11_mouth 4 none 1 := ⟨e_X11_mouth, wv_X11_mouth, wl_X11_mouth⟩
theorem wc_X11_neighbours : Cond.code yX11_neighbours cX11_neighbours 7 none ∈ wsL_law := u_r26 _ (List.mem_of_getElem? (i := 0) rfl)
theorem e_X11_neighbours : u_me yX11_neighbours cX11_neighbours 7 none 1 := ⟨⟨by decide, by decide, by decide +kernel⟩, wi_RX11, wc_X11_neighbours⟩
theorem wv_X11_neighbours : Cond.instanceMethod yX11_neighbours ∈ wsL_law := u_r25 _ (List.mem_of_getElem? (i := 22) rfl)
theorem wl_X11_neighbours : Cond.selects RX11 yX11_neighbours yX11_neighbours ∈ wsL_law := u_r25 _ (List.mem_of_getElem? (i := 23) rfl)
theorem ev_X11_neighbours : u_mev yX11_neighbours cX11_neighbours 7 none 1 := ⟨e_X11_neighbours, wv_X11_neighbours, wl_X11_neighbours⟩
theorem wc_X11_mixes : Cond.code yX11_mixes cX11_mixes 4 none ∈ wsL_law := u_r26 _ (List.mem_of_getElem? (i := 12) rfl)
theorem e_X11_mixes : u_me yX11_mixes cX11_mixes 4 none 1 := ⟨⟨by decide, by decide, by decide +kernel⟩, wi_RX11, wc_X11_mixes⟩
theorem wv_X11_mixes : Cond.instanceMethod yX11_mixes ∈ wsL_law := u_r26 _ (List.mem_of_getElem? (i := 10) rfl)
theorem wl_X11_mixes : Cond.selects RX11 yX11_mixes yX11_mixes ∈ wsL_law := u_r26 _ (List.mem_of_getElem? (i := 11) rfl)
theorem ev_X11_mixes : u_mev yX11_mixes cX11_mixes 4 none 1 := ⟨e_X11_mixes, wv_X11_mixes, wl_X11_mixes⟩
theorem wc_X11_settles : Cond.code yX11_settles cX11_settles 3 none ∈ wsL_law := u_r26 _ (List.mem_of_getElem? (i := 16) rfl)
theorem e_X11_settles : u_me yX11_settles cX11_settles 3 none 1 := ⟨⟨by decide, by decide, by decide +kernel⟩, wi_RX11, wc_X11_settles⟩
theorem wv_X11_settles : Cond.instanceMethod yX11_settles ∈ wsL_law := u_r26 _ (List.mem_of_getElem? (i := 14) rfl)
theorem wl_X11_settles : Cond.selects RX11 yX11_settles yX11_settles ∈ wsL_law := u_r26 _ (List.mem_of_getElem? (i := 15) rfl)
theorem ev_X11_settles : u_mev yX11_settles cX11_settles 3 none 1 := ⟨e_X11_settles, wv_X11_settles, wl_X11_settles⟩
theorem wc_X11_drinks : Cond.code yX11_drinks cX11_drinks 5 none ∈ wsL_law := u_r26 _ (List.mem_of_getElem? (i := 20) rfl)
theorem e_X11_drinks : u_me yX11_drinks cX11_drinks 5 none 1 := ⟨⟨by decide, by decide, by decide +kernel⟩, wi_RX11, wc_X11_drinks⟩
theorem wv_X11_drinks : Cond.instanceMethod yX11_drinks ∈ wsL_law := u_r26 _ (List.mem_of_getElem? (i := 18) rfl)
theorem wl_X11_drinks : Cond.selects RX11 yX11_drinks yX11_drinks ∈ wsL_law := u_r26 _ (List.mem_of_getElem? (i := 19) rfl)
theorem ev_X11_drinks : u_mev yX11_drinks cX11_drinks 5 none 1 := ⟨e_X11_drinks, wv_X11_drinks, wl_X11_drinks⟩
theorem wc_X11_hour : Cond.code yX11_hour cX11_hour 4 none ∈ wsL_law := u_r24 _ (List.mem_of_getElem? (i := 6) rfl)
theorem e_X11_hour : u_me yX11_hour cX11_hour 4 none 0 := ⟨⟨by decide, by decide, by decide +kernel⟩, wi_RX11, wc_X11_hour⟩
theorem wv_X11_hour : Cond.instanceMethod yX11_hour ∈ wsL_law := u_r24 _ (List.mem_of_getElem? (i := 4) rfl)
theorem wl_X11_hour : Cond.selects RX11 yX11_hour yX11_hour ∈ wsL_law := u_r24 _ (List.mem_of_getElem? (i := 5) rfl)
theorem ev_X11_hour : u_mev yX11_hour cX11_hour 4 none 0 := ⟨e_X11_hour, wv_X11_hour, wl_X11_hour⟩
theorem wc_X11_pass : Cond.code yX11_pass cX11_pass 3 (some .int) ∈ wsL_law := u_r24 _ (List.mem_of_getElem? (i := 2) rfl)
theorem e_X11_pass : u_me yX11_pass cX11_pass 3 (some .int) 1 := ⟨⟨by decide, by decide, by decide +kernel⟩, wi_RX11, wc_X11_pass⟩
theorem wv_X11_pass : Cond.instanceMethod yX11_pass ∈ wsL_law := u_r24 _ (List.mem_of_getElem? (i := 0) rfl)
theorem wl_X11_pass : Cond.selects RX11 yX11_pass yX11_pass ∈ wsL_law := u_r24 _ (List.mem_of_getElem? (i := 1) rfl)
theorem ev_X11_pass : u_mev yX11_pass cX11_pass 3 (some .int) 1 := ⟨e_X11_pass, wv_X11_pass, wl_X11_pass⟩
theorem wc_X11_now : Cond.code yX11_now cX11_now 1 (some .int) ∈ wsL_law := u_r27 _ (List.mem_of_getElem? (i := 4) rfl)
theorem e_X11_now : u_me yX11_now cX11_now 1 (some .int) 0 := ⟨⟨by decide, by decide, by decide +kernel⟩, wi_RX11, wc_X11_now⟩
theorem wv_X11_now : Cond.instanceMethod yX11_now ∈ wsL_law := u_r27 _ (List.mem_of_getElem? (i := 2) rfl)
theorem wl_X11_now : Cond.selects RX11 yX11_now yX11_now ∈ wsL_law := u_r27 _ (List.mem_of_getElem? (i := 3) rfl)
theorem ev_X11_now : u_mev yX11_now cX11_now 1 (some .int) 0 := ⟨e_X11_now, wv_X11_now, wl_X11_now⟩
theorem wc_X11_sea : Cond.code yX11_sea cX11_sea 2 (some .int) ∈ wsL_law := u_r27 _ (List.mem_of_getElem? (i := 20) rfl)
theorem e_X11_sea : u_me yX11_sea cX11_sea 2 (some .int) 1 := ⟨⟨by decide, by decide, by decide +kernel⟩, wi_RX11, wc_X11_sea⟩
theorem wv_X11_sea : Cond.instanceMethod yX11_sea ∈ wsL_law := u_r27 _ (List.mem_of_getElem? (i := 18) rfl)
theorem wl_X11_sea : Cond.selects RX11 yX11_sea yX11_sea ∈ wsL_law := u_r27 _ (List.mem_of_getElem? (i := 19) rfl)
theorem ev_X11_sea : u_mev yX11_sea cX11_sea 2 (some .int) 1 := ⟨e_X11_sea, wv_X11_sea, wl_X11_sea⟩
theorem wc_X11_ofSection : Cond.code yX11_ofSection cX11_ofSection 4 (some .int) ∈ wsL_law := u_r28 _ (List.mem_of_getElem? (i := 12) rfl)
theorem e_X11_ofSection : u_me yX11_ofSection cX11_ofSection 4 (some .int) 2 := ⟨⟨by decide, by decide, by decide +kernel⟩, wi_RX11, wc_X11_ofSection⟩
theorem wv_X11_ofSection : Cond.instanceMethod yX11_ofSection ∈ wsL_law := u_r28 _ (List.mem_of_getElem? (i := 10) rfl)
theorem wl_X11_ofSection : Cond.selects RX11 yX11_ofSection yX11_ofSection ∈ wsL_law := u_r28 _ (List.mem_of_getElem? (i := 11) rfl)
theorem ev_X11_ofSection : u_mev yX11_ofSection cX11_ofSection 4 (some .int) 2 := ⟨e_X11_ofSection, wv_X11_ofSection, wl_X11_ofSection⟩
theorem wc_X11_ofSectionAnew : Cond.code yX11_ofSectionAnew cX11_ofSectionAnew 3 (some .int) ∈ wsL_law := u_r29 _ (List.mem_of_getElem? (i := 16) rfl)
theorem e_X11_ofSectionAnew : u_me yX11_ofSectionAnew cX11_ofSectionAnew 3 (some .int) 2 := ⟨⟨by decide, by decide, by decide +kernel⟩, wi_RX11, wc_X11_ofSectionAnew⟩
theorem wv_X11_ofSectionAnew : Cond.instanceMethod yX11_ofSectionAnew ∈ wsL_law := u_r29 _ (List.mem_of_getElem? (i := 14) rfl)
theorem wl_X11_ofSectionAnew : Cond.selects RX11 yX11_ofSectionAnew yX11_ofSectionAnew ∈ wsL_law := u_r29 _ (List.mem_of_getElem? (i := 15) rfl)
theorem ev_X11_ofSectionAnew : u_mev yX11_ofSectionAnew cX11_ofSectionAnew 3 (some .int) 2 := ⟨e_X11_ofSectionAnew, wv_X11_ofSectionAnew, wl_X11_ofSectionAnew⟩
theorem wc_X11_ofIntake : Cond.code yX11_ofIntake cX11_ofIntake 3 (some .int) ∈ wsL_law := u_r30 _ (List.mem_of_getElem? (i := 9) rfl)
theorem e_X11_ofIntake : u_me yX11_ofIntake cX11_ofIntake 3 (some .int) 2 := ⟨⟨by decide, by decide, by decide +kernel⟩, wi_RX11, wc_X11_ofIntake⟩
theorem wv_X11_ofIntake : Cond.instanceMethod yX11_ofIntake ∈ wsL_law := u_r30 _ (List.mem_of_getElem? (i := 7) rfl)
theorem wl_X11_ofIntake : Cond.selects RX11 yX11_ofIntake yX11_ofIntake ∈ wsL_law := u_r30 _ (List.mem_of_getElem? (i := 8) rfl)
theorem ev_X11_ofIntake : u_mev yX11_ofIntake cX11_ofIntake 3 (some .int) 2 := ⟨e_X11_ofIntake, wv_X11_ofIntake, wl_X11_ofIntake⟩
theorem wc_X11_isClosed : Cond.code yX11_isClosed cX11_isClosed 4 (some .boolean) ∈ wsL_law := u_r31 _ (List.mem_of_getElem? (i := 3) rfl)
theorem e_X11_isClosed : u_me yX11_isClosed cX11_isClosed 4 (some .boolean) 1 := ⟨⟨by decide, by decide, by decide +kernel⟩, wi_RX11, wc_X11_isClosed⟩
theorem wv_X11_isClosed : Cond.instanceMethod yX11_isClosed ∈ wsL_law := u_r31 _ (List.mem_of_getElem? (i := 1) rfl)
theorem wl_X11_isClosed : Cond.selects RX11 yX11_isClosed yX11_isClosed ∈ wsL_law := u_r31 _ (List.mem_of_getElem? (i := 2) rfl)
theorem ev_X11_isClosed : u_mev yX11_isClosed cX11_isClosed 4 (some .boolean) 1 := ⟨e_X11_isClosed, wv_X11_isClosed, wl_X11_isClosed⟩
theorem wc_X11_closures : Cond.code yX11_closures cX11_closures 1 (some .int) ∈ wsL_law := u_r31 _ (List.mem_of_getElem? (i := 12) rfl)
theorem e_X11_closures : u_me yX11_closures cX11_closures 1 (some .int) 0 := ⟨⟨by decide, by decide, by decide +kernel⟩, wi_RX11, wc_X11_closures⟩
theorem wv_X11_closures : Cond.instanceMethod yX11_closures ∈ wsL_law := u_r31 _ (List.mem_of_getElem? (i := 10) rfl)
theorem wl_X11_closures : Cond.selects RX11 yX11_closures yX11_closures ∈ wsL_law := u_r31 _ (List.mem_of_getElem? (i := 11) rfl)
theorem ev_X11_closures : u_mev yX11_closures cX11_closures 1 (some .int) 0 := ⟨e_X11_closures, wv_X11_closures, wl_X11_closures⟩
theorem wc_X11_closure : Cond.code yX11_closure cX11_closure 3 (some .int) ∈ wsL_law := u_r32 _ (List.mem_of_getElem? (i := 3) rfl)
theorem e_X11_closure : u_me yX11_closure cX11_closure 3 (some .int) 2 := ⟨⟨by decide, by decide, by decide +kernel⟩, wi_RX11, wc_X11_closure⟩
theorem wv_X11_closure : Cond.instanceMethod yX11_closure ∈ wsL_law := u_r32 _ (List.mem_of_getElem? (i := 1) rfl)
theorem wl_X11_closure : Cond.selects RX11 yX11_closure yX11_closure ∈ wsL_law := u_r32 _ (List.mem_of_getElem? (i := 2) rfl)
theorem ev_X11_closure : u_mev yX11_closure cX11_closure 3 (some .int) 2 := ⟨e_X11_closure, wv_X11_closure, wl_X11_closure⟩
theorem wc_X11_intrusion : Cond.code yX11_intrusion cX11_intrusion 3 (some .int) ∈ wsL_law := u_r32 _ (List.mem_of_getElem? (i := 16) rfl)
theorem e_X11_intrusion : u_me yX11_intrusion cX11_intrusion 3 (some .int) 1 := ⟨⟨by decide, by decide, by decide +kernel⟩, wi_RX11, wc_X11_intrusion⟩
theorem wv_X11_intrusion : Cond.instanceMethod yX11_intrusion ∈ wsL_law := u_r32 _ (List.mem_of_getElem? (i := 14) rfl)
theorem wl_X11_intrusion : Cond.selects RX11 yX11_intrusion yX11_intrusion ∈ wsL_law := u_r32 _ (List.mem_of_getElem? (i := 15) rfl)
theorem ev_X11_intrusion : u_mev yX11_intrusion cX11_intrusion 3 (some .int) 1 := ⟨e_X11_intrusion, wv_X11_intrusion, wl_X11_intrusion⟩
theorem wc_X11_window : Cond.code yX11_window cX11_window 6 (some .int) ∈ wsL_law := u_r33 _ (List.mem_of_getElem? (i := 8) rfl)
theorem e_X11_window : u_me yX11_window cX11_window 6 (some .int) 2 := ⟨⟨by decide, by decide, by decide +kernel⟩, wi_RX11, wc_X11_window⟩
theorem wv_X11_window : Cond.instanceMethod yX11_window ∈ wsL_law := u_r33 _ (List.mem_of_getElem? (i := 6) rfl)
theorem wl_X11_window : Cond.selects RX11 yX11_window yX11_window ∈ wsL_law := u_r33 _ (List.mem_of_getElem? (i := 7) rfl)
theorem ev_X11_window : u_mev yX11_window cX11_window 6 (some .int) 2 := ⟨e_X11_window, wv_X11_window, wl_X11_window⟩
theorem wc_X11_sum : Cond.code yX11_sum cX11_sum 2 (some .long) ∈ wsL_law := u_r33 _ (List.mem_of_getElem? (i := 20) rfl)
theorem e_X11_sum : u_me yX11_sum cX11_sum 2 (some .long) 1 := ⟨⟨by decide, by decide, by decide +kernel⟩, wi_RX11, wc_X11_sum⟩
theorem wv_X11_sum : Cond.instanceMethod yX11_sum ∈ wsL_law := u_r33 _ (List.mem_of_getElem? (i := 18) rfl)
theorem wl_X11_sum : Cond.selects RX11 yX11_sum yX11_sum ∈ wsL_law := u_r33 _ (List.mem_of_getElem? (i := 19) rfl)
theorem ev_X11_sum : u_mev yX11_sum cX11_sum 2 (some .long) 1 := ⟨e_X11_sum, wv_X11_sum, wl_X11_sum⟩
theorem ml_RX11_1 : Cond.methodLink RX11 1 objectInit ∈ wsL_law := u_r5 _ (List.mem_of_getElem? (i := 6) rfl)
theorem mf_RX11_7 : Cond.fieldLink RX11 7 "SaltwedgeModel" "mean" "I" ∈ wsL_law := u_r5 _ (List.mem_of_getElem? (i := 7) rfl)
theorem pX11_init_7 : u_pf cX11_init RX11 7 11 2 false (.int) := ⟨7, RX11, TX11, 43, tyX11, dX11_init_7, rfl, inlX11, tyX11_ok, nmX11, by decide, mf_RX11_7, by decide, by decide, rfl, by decide +kernel, fun h => nomatch h⟩
theorem mf_RX11_13 : Cond.fieldLink RX11 13 "SaltwedgeModel" "turn" "[I" ∈ wsL_law := u_r5 _ (List.mem_of_getElem? (i := 8) rfl)
theorem pX11_init_15 : u_pf cX11_init RX11 15 11 4 true (.array (.int)) := ⟨13, RX11, TX11, 43, tyX11, dX11_init_15, rfl, inlX11, tyX11_ok, nmX11, by decide, mf_RX11_13, by decide, by decide, rfl, by decide +kernel, fun h => rfl⟩
theorem mf_RX11_17 : Cond.fieldLink RX11 17 "SaltwedgeModel" "surge" "[I" ∈ wsL_law := u_r5 _ (List.mem_of_getElem? (i := 9) rfl)
theorem pX11_init_23 : u_pf cX11_init RX11 23 11 6 true (.array (.int)) := ⟨17, RX11, TX11, 43, tyX11, dX11_init_23, rfl, inlX11, tyX11_ok, nmX11, by decide, mf_RX11_17, by decide, by decide, rfl, by decide +kernel, fun h => rfl⟩
theorem mf_RX11_20 : Cond.fieldLink RX11 20 "SaltwedgeModel" "was" "[I" ∈ wsL_law := u_r5 _ (List.mem_of_getElem? (i := 10) rfl)
theorem pX11_init_32 : u_pf cX11_init RX11 32 11 7 true (.array (.int)) := ⟨20, RX11, TX11, 43, tyX11, dX11_init_32, rfl, inlX11, tyX11_ok, nmX11, by decide, mf_RX11_20, by decide, by decide, rfl, by decide +kernel, fun h => rfl⟩
theorem mf_RX11_23 : Cond.fieldLink RX11 23 "SaltwedgeModel" "mark" "I" ∈ wsL_law := u_r5 _ (List.mem_of_getElem? (i := 11) rfl)
theorem pX11_init_37 : u_pf cX11_init RX11 37 11 10 false (.int) := ⟨23, RX11, TX11, 43, tyX11, dX11_init_37, rfl, inlX11, tyX11_ok, nmX11, by decide, mf_RX11_23, by decide, by decide, rfl, by decide +kernel, fun h => nomatch h⟩
theorem mf_RX11_26 : Cond.fieldLink RX11 26 "SaltwedgeModel" "first" "[I" ∈ wsL_law := u_r5 _ (List.mem_of_getElem? (i := 12) rfl)
theorem pX11_init_46 : u_pf cX11_init RX11 46 11 13 true (.array (.int)) := ⟨26, RX11, TX11, 43, tyX11, dX11_init_46, rfl, inlX11, tyX11_ok, nmX11, by decide, mf_RX11_26, by decide, by decide, rfl, by decide +kernel, fun h => rfl⟩
theorem mf_RX11_29 : Cond.fieldLink RX11 29 "SaltwedgeModel" "latest" "[I" ∈ wsL_law := u_r5 _ (List.mem_of_getElem? (i := 13) rfl)
theorem pX11_init_55 : u_pf cX11_init RX11 55 11 14 true (.array (.int)) := ⟨29, RX11, TX11, 43, tyX11, dX11_init_55, rfl, inlX11, tyX11_ok, nmX11, by decide, mf_RX11_29, by decide, by decide, rfl, by decide +kernel, fun h => rfl⟩
theorem mf_RX11_32 : Cond.fieldLink RX11 32 "SaltwedgeModel" "isRight" "[Z" ∈ wsL_law := u_r5 _ (List.mem_of_getElem? (i := 14) rfl)
theorem pX11_init_64 : u_pf cX11_init RX11 64 11 15 true (.array (.boolean)) := ⟨32, RX11, TX11, 43, tyX11, dX11_init_64, rfl, inlX11, tyX11_ok, nmX11, by decide, mf_RX11_32, by decide, by decide, rfl, by decide +kernel, fun h => rfl⟩
theorem mf_RX11_36 : Cond.fieldLink RX11 36 "SaltwedgeModel" "area" "[I" ∈ wsL_law := u_r5 _ (List.mem_of_getElem? (i := 15) rfl)
theorem pX11_init_72 : u_pf cX11_init RX11 72 11 17 true (.array (.int)) := ⟨36, RX11, TX11, 43, tyX11, dX11_init_72, rfl, inlX11, tyX11_ok, nmX11, by decide, mf_RX11_36, by decide, by decide, rfl, by decide +kernel, fun h => rfl⟩
theorem mf_RX11_39 : Cond.fieldLink RX11 39 "SaltwedgeModel" "mud" "[I" ∈ wsL_law := u_r5 _ (List.mem_of_getElem? (i := 16) rfl)
theorem pX11_init_80 : u_pf cX11_init RX11 80 11 18 true (.array (.int)) := ⟨39, RX11, TX11, 43, tyX11, dX11_init_80, rfl, inlX11, tyX11_ok, nmX11, by decide, mf_RX11_39, by decide, by decide, rfl, by decide +kernel, fun h => rfl⟩
theorem mf_RX11_42 : Cond.fieldLink RX11 42 "SaltwedgeModel" "cloud" "[I" ∈ wsL_law := u_r5 _ (List.mem_of_getElem? (i := 17) rfl)
theorem pX11_init_88 : u_pf cX11_init RX11 88 11 19 true (.array (.int)) := ⟨42, RX11, TX11, 43, tyX11, dX11_init_88, rfl, inlX11, tyX11_ok, nmX11, by decide, mf_RX11_42, by decide, by decide, rfl, by decide +kernel, fun h => rfl⟩
theorem mf_RX11_45 : Cond.fieldLink RX11 45 "SaltwedgeModel" "run" "[I" ∈ wsL_law := u_r5 _ (List.mem_of_getElem? (i := 18) rfl)
theorem pX11_init_96 : u_pf cX11_init RX11 96 11 20 true (.array (.int)) := ⟨45, RX11, TX11, 43, tyX11, dX11_init_96, rfl, inlX11, tyX11_ok, nmX11, by decide, mf_RX11_45, by decide, by decide, rfl, by decide +kernel, fun h => rfl⟩
theorem mf_RX11_48 : Cond.fieldLink RX11 48 "SaltwedgeModel" "permit" "[I" ∈ wsL_law := u_r5 _ (List.mem_of_getElem? (i := 19) rfl)
theorem pX11_init_104 : u_pf cX11_init RX11 104 11 21 true (.array (.int)) := ⟨48, RX11, TX11, 43, tyX11, dX11_init_104, rfl, inlX11, tyX11_ok, nmX11, by decide, mf_RX11_48, by decide, by decide, rfl, by decide +kernel, fun h => rfl⟩
theorem mf_RX11_51 : Cond.fieldLink RX11 51 "SaltwedgeModel" "water" "[I" ∈ wsL_law := u_r5 _ (List.mem_of_getElem? (i := 20) rfl)
theorem pX11_init_112 : u_pf cX11_init RX11 112 11 22 true (.array (.int)) := ⟨51, RX11, TX11, 43, tyX11, dX11_init_112, rfl, inlX11, tyX11_ok, nmX11, by decide, mf_RX11_51, by decide, by decide, rfl, by decide +kernel, fun h => rfl⟩
theorem mf_RX11_54 : Cond.fieldLink RX11 54 "SaltwedgeModel" "salt" "[I" ∈ wsL_law := u_r5 _ (List.mem_of_getElem? (i := 21) rfl)
theorem pX11_init_120 : u_pf cX11_init RX11 120 11 23 true (.array (.int)) := ⟨54, RX11, TX11, 43, tyX11, dX11_init_120, rfl, inlX11, tyX11_ok, nmX11, by decide, mf_RX11_54, by decide, by decide, rfl, by decide +kernel, fun h => rfl⟩
theorem mf_RX11_57 : Cond.fieldLink RX11 57 "SaltwedgeModel" "tasted" "[I" ∈ wsL_law := u_r5 _ (List.mem_of_getElem? (i := 22) rfl)
theorem pX11_init_129 : u_pf cX11_init RX11 129 11 24 true (.array (.int)) := ⟨57, RX11, TX11, 43, tyX11, dX11_init_129, rfl, inlX11, tyX11_ok, nmX11, by decide, mf_RX11_57, by decide, by decide, rfl, by decide +kernel, fun h => rfl⟩
theorem mf_RX11_60 : Cond.fieldLink RX11 60 "SaltwedgeModel" "intakeAt" "[I" ∈ wsL_law := u_r5 _ (List.mem_of_getElem? (i := 23) rfl)
theorem pX11_init_137 : u_pf cX11_init RX11 137 11 26 true (.array (.int)) := ⟨60, RX11, TX11, 43, tyX11, dX11_init_137, rfl, inlX11, tyX11_ok, nmX11, by decide, mf_RX11_60, by decide, by decide, rfl, by decide +kernel, fun h => rfl⟩
theorem mf_RX11_63 : Cond.fieldLink RX11 63 "SaltwedgeModel" "rate" "[I" ∈ wsL_law := u_r6 _ (List.mem_of_getElem? (i := 0) rfl)
theorem pX11_init_145 : u_pf cX11_init RX11 145 11 27 true (.array (.int)) := ⟨63, RX11, TX11, 43, tyX11, dX11_init_145, rfl, inlX11, tyX11_ok, nmX11, by decide, mf_RX11_63, by decide, by decide, rfl, by decide +kernel, fun h => rfl⟩
theorem mf_RX11_66 : Cond.fieldLink RX11 66 "SaltwedgeModel" "intakeGrain" "[I" ∈ wsL_law := u_r6 _ (List.mem_of_getElem? (i := 1) rfl)
theorem pX11_init_153 : u_pf cX11_init RX11 153 11 28 true (.array (.int)) := ⟨66, RX11, TX11, 43, tyX11, dX11_init_153, rfl, inlX11, tyX11_ok, nmX11, by decide, mf_RX11_66, by decide, by decide, rfl, by decide +kernel, fun h => rfl⟩
theorem mf_RX11_69 : Cond.fieldLink RX11 69 "SaltwedgeModel" "room" "[I" ∈ wsL_law := u_r6 _ (List.mem_of_getElem? (i := 2) rfl)
theorem pX11_init_161 : u_pf cX11_init RX11 161 11 29 true (.array (.int)) := ⟨69, RX11, TX11, 43, tyX11, dX11_init_161, rfl, inlX11, tyX11_ok, nmX11, by decide, mf_RX11_69, by decide, by decide, rfl, by decide +kernel, fun h => rfl⟩
theorem mf_RX11_72 : Cond.fieldLink RX11 72 "SaltwedgeModel" "use" "[I" ∈ wsL_law := u_r6 _ (List.mem_of_getElem? (i := 3) rfl)
theorem pX11_init_169 : u_pf cX11_init RX11 169 11 30 true (.array (.int)) := ⟨72, RX11, TX11, 43, tyX11, dX11_init_169, rfl, inlX11, tyX11_ok, nmX11, by decide, mf_RX11_72, by decide, by decide, rfl, by decide +kernel, fun h => rfl⟩
theorem mf_RX11_75 : Cond.fieldLink RX11 75 "SaltwedgeModel" "kept" "[I" ∈ wsL_law := u_r6 _ (List.mem_of_getElem? (i := 4) rfl)
theorem pX11_init_177 : u_pf cX11_init RX11 177 11 31 true (.array (.int)) := ⟨75, RX11, TX11, 43, tyX11, dX11_init_177, rfl, inlX11, tyX11_ok, nmX11, by decide, mf_RX11_75, by decide, by decide, rfl, by decide +kernel, fun h => rfl⟩
theorem mf_RX11_78 : Cond.fieldLink RX11 78 "SaltwedgeModel" "took" "[I" ∈ wsL_law := u_r6 _ (List.mem_of_getElem? (i := 5) rfl)
theorem pX11_init_185 : u_pf cX11_init RX11 185 11 32 true (.array (.int)) := ⟨78, RX11, TX11, 43, tyX11, dX11_init_185, rfl, inlX11, tyX11_ok, nmX11, by decide, mf_RX11_78, by decide, by decide, rfl, by decide +kernel, fun h => rfl⟩
theorem mf_RX11_81 : Cond.fieldLink RX11 81 "SaltwedgeModel" "lacking" "[I" ∈ wsL_law := u_r6 _ (List.mem_of_getElem? (i := 6) rfl)
theorem pX11_init_193 : u_pf cX11_init RX11 193 11 33 true (.array (.int)) := ⟨81, RX11, TX11, 43, tyX11, dX11_init_193, rfl, inlX11, tyX11_ok, nmX11, by decide, mf_RX11_81, by decide, by decide, rfl, by decide +kernel, fun h => rfl⟩
theorem mf_RX11_84 : Cond.fieldLink RX11 84 "SaltwedgeModel" "stops" "[I" ∈ wsL_law := u_r6 _ (List.mem_of_getElem? (i := 7) rfl)
theorem pX11_init_201 : u_pf cX11_init RX11 201 11 34 true (.array (.int)) := ⟨84, RX11, TX11, 43, tyX11, dX11_init_201, rfl, inlX11, tyX11_ok, nmX11, by decide, mf_RX11_84, by decide, by decide, rfl, by decide +kernel, fun h => rfl⟩
theorem mf_RX11_87 : Cond.fieldLink RX11 87 "SaltwedgeModel" "isStopped" "[Z" ∈ wsL_law := u_r6 _ (List.mem_of_getElem? (i := 8) rfl)
theorem pX11_init_209 : u_pf cX11_init RX11 209 11 35 true (.array (.boolean)) := ⟨87, RX11, TX11, 43, tyX11, dX11_init_209, rfl, inlX11, tyX11_ok, nmX11, by decide, mf_RX11_87, by decide, by decide, rfl, by decide +kernel, fun h => rfl⟩
theorem mf_RX11_90 : Cond.fieldLink RX11 90 "SaltwedgeModel" "oystersAt" "[I" ∈ wsL_law := u_r6 _ (List.mem_of_getElem? (i := 9) rfl)
theorem pX11_init_217 : u_pf cX11_init RX11 217 11 37 true (.array (.int)) := ⟨90, RX11, TX11, 43, tyX11, dX11_init_217, rfl, inlX11, tyX11_ok, nmX11, by decide, mf_RX11_90, by decide, by decide, rfl, by decide +kernel, fun h => rfl⟩
theorem mf_RX11_93 : Cond.fieldLink RX11 93 "SaltwedgeModel" "oysterGrain" "[I" ∈ wsL_law := u_r6 _ (List.mem_of_getElem? (i := 10) rfl)
theorem pX11_init_225 : u_pf cX11_init RX11 225 11 38 true (.array (.int)) := ⟨93, RX11, TX11, 43, tyX11, dX11_init_225, rfl, inlX11, tyX11_ok, nmX11, by decide, mf_RX11_93, by decide, by decide, rfl, by decide +kernel, fun h => rfl⟩
theorem mf_RX11_96 : Cond.fieldLink RX11 96 "SaltwedgeModel" "oysterHours" "[I" ∈ wsL_law := u_r6 _ (List.mem_of_getElem? (i := 11) rfl)
theorem pX11_init_233 : u_pf cX11_init RX11 233 11 39 true (.array (.int)) := ⟨96, RX11, TX11, 43, tyX11, dX11_init_233, rfl, inlX11, tyX11_ok, nmX11, by decide, mf_RX11_96, by decide, by decide, rfl, by decide +kernel, fun h => rfl⟩
theorem mf_RX11_99 : Cond.fieldLink RX11 99 "SaltwedgeModel" "sums" "[J" ∈ wsL_law := u_r6 _ (List.mem_of_getElem? (i := 12) rfl)
theorem pX11_init_241 : u_pf cX11_init RX11 241 11 40 true (.array (.long)) := ⟨99, RX11, TX11, 43, tyX11, dX11_init_241, rfl, inlX11, tyX11_ok, nmX11, by decide, mf_RX11_99, by decide, by decide, rfl, by decide +kernel, fun h => rfl⟩
theorem mf_RX11_103 : Cond.fieldLink RX11 103 "SaltwedgeModel" "thrown" "I" ∈ wsL_law := u_r11 _ (List.mem_of_getElem? (i := 13) rfl)
theorem gX11_thrown_1 : u_gf cX11_thrown RX11 1 11 0 := ⟨103, RX11, TX11, 43, dX11_thrown_1, rfl, inlX11, by decide, mf_RX11_103, by decide, by decide⟩
theorem pX11_holds_2 : u_pf cX11_holds RX11 2 11 0 false (.int) := ⟨103, RX11, TX11, 43, tyX11, dX11_holds_2, rfl, inlX11, tyX11_ok, nmX11, by decide, mf_RX11_103, by decide, by decide, rfl, by decide +kernel, fun h => nomatch h⟩
theorem mf_RX11_106 : Cond.fieldLink RX11 106 "SaltwedgeModel" "sections" "I" ∈ wsL_law := u_r14 _ (List.mem_of_getElem? (i := 12) rfl)
theorem gX11_isSection_3 : u_gf cX11_isSection RX11 3 11 16 := ⟨106, RX11, TX11, 43, dX11_isSection_3, rfl, inlX11, by decide, mf_RX11_106, by decide, by decide⟩
theorem ml_RX11_109 : Cond.methodLink RX11 109 yX11_isIn ∈ wsL_law := u_r11 _ (List.mem_of_getElem? (i := 6) rfl)
theorem mf_RX11_113 : Cond.fieldLink RX11 113 "SaltwedgeModel" "turns" "I" ∈ wsL_law := u_r11 _ (List.mem_of_getElem? (i := 5) rfl)
theorem gX11_turn_60 : u_gf cX11_turn RX11 60 11 3 := ⟨113, RX11, TX11, 43, dX11_turn_60, rfl, inlX11, by decide, mf_RX11_113, by decide, by decide⟩
theorem ml_RX11_116 : Cond.methodLink RX11 116 yX11_holds ∈ wsL_law := u_r11 _ (List.mem_of_getElem? (i := 9) rfl)
theorem gX11_turn_82 : u_gf cX11_turn RX11 82 11 4 := ⟨13, RX11, TX11, 43, dX11_turn_82, rfl, inlX11, by decide, mf_RX11_13, by decide, by decide⟩
theorem gX11_turn_87 : u_gf cX11_turn RX11 87 11 3 := ⟨113, RX11, TX11, 43, dX11_turn_87, rfl, inlX11, by decide, mf_RX11_113, by decide, by decide⟩
theorem gX11_turn_94 : u_gf cX11_turn RX11 94 11 4 := ⟨13, RX11, TX11, 43, dX11_turn_94, rfl, inlX11, by decide, mf_RX11_13, by decide, by decide⟩
theorem gX11_turn_99 : u_gf cX11_turn RX11 99 11 3 := ⟨113, RX11, TX11, 43, dX11_turn_99, rfl, inlX11, by decide, mf_RX11_113, by decide, by decide⟩
theorem gX11_turn_108 : u_gf cX11_turn RX11 108 11 4 := ⟨13, RX11, TX11, 43, dX11_turn_108, rfl, inlX11, by decide, mf_RX11_13, by decide, by decide⟩
theorem gX11_turn_113 : u_gf cX11_turn RX11 113 11 3 := ⟨113, RX11, TX11, 43, dX11_turn_113, rfl, inlX11, by decide, mf_RX11_113, by decide, by decide⟩
theorem gX11_turn_122 : u_gf cX11_turn RX11 122 11 4 := ⟨13, RX11, TX11, 43, dX11_turn_122, rfl, inlX11, by decide, mf_RX11_13, by decide, by decide⟩
theorem gX11_turn_127 : u_gf cX11_turn RX11 127 11 3 := ⟨113, RX11, TX11, 43, dX11_turn_127, rfl, inlX11, by decide, mf_RX11_113, by decide, by decide⟩
theorem gX11_turn_138 : u_gf cX11_turn RX11 138 11 3 := ⟨113, RX11, TX11, 43, dX11_turn_138, rfl, inlX11, by decide, mf_RX11_113, by decide, by decide⟩
theorem pX11_turn_143 : u_pf cX11_turn RX11 143 11 3 false (.int) := ⟨113, RX11, TX11, 43, tyX11, dX11_turn_143, rfl, inlX11, tyX11_ok, nmX11, by decide, mf_RX11_113, by decide, by decide, rfl, by decide +kernel, fun h => nomatch h⟩
theorem gX11_turn_147 : u_gf cX11_turn RX11 147 11 3 := ⟨113, RX11, TX11, 43, dX11_turn_147, rfl, inlX11, by decide, mf_RX11_113, by decide, by decide⟩
theorem gX11_mean_25 : u_gf cX11_mean RX11 25 11 2 := ⟨7, RX11, TX11, 43, dX11_mean_25, rfl, inlX11, by decide, mf_RX11_7, by decide, by decide⟩
theorem pX11_mean_31 : u_pf cX11_mean RX11 31 11 2 false (.int) := ⟨7, RX11, TX11, 43, tyX11, dX11_mean_31, rfl, inlX11, tyX11_ok, nmX11, by decide, mf_RX11_7, by decide, by decide, rfl, by decide +kernel, fun h => nomatch h⟩
theorem mf_RX11_120 : Cond.fieldLink RX11 120 "SaltwedgeModel" "now" "I" ∈ wsL_law := u_r12 _ (List.mem_of_getElem? (i := 18) rfl)
theorem gX11_surge_2 : u_gf cX11_surge RX11 2 11 1 := ⟨120, RX11, TX11, 43, dX11_surge_2, rfl, inlX11, by decide, mf_RX11_120, by decide, by decide⟩
theorem mf_RX11_123 : Cond.fieldLink RX11 123 "SaltwedgeModel" "surges" "I" ∈ wsL_law := u_r12 _ (List.mem_of_getElem? (i := 19) rfl)
theorem gX11_surge_54 : u_gf cX11_surge RX11 54 11 5 := ⟨123, RX11, TX11, 43, dX11_surge_54, rfl, inlX11, by decide, mf_RX11_123, by decide, by decide⟩
theorem gX11_surge_76 : u_gf cX11_surge RX11 76 11 6 := ⟨17, RX11, TX11, 43, dX11_surge_76, rfl, inlX11, by decide, mf_RX11_17, by decide, by decide⟩
theorem gX11_surge_81 : u_gf cX11_surge RX11 81 11 5 := ⟨123, RX11, TX11, 43, dX11_surge_81, rfl, inlX11, by decide, mf_RX11_123, by decide, by decide⟩
theorem gX11_surge_88 : u_gf cX11_surge RX11 88 11 6 := ⟨17, RX11, TX11, 43, dX11_surge_88, rfl, inlX11, by decide, mf_RX11_17, by decide, by decide⟩
theorem gX11_surge_93 : u_gf cX11_surge RX11 93 11 5 := ⟨123, RX11, TX11, 43, dX11_surge_93, rfl, inlX11, by decide, mf_RX11_123, by decide, by decide⟩
theorem gX11_surge_102 : u_gf cX11_surge RX11 102 11 6 := ⟨17, RX11, TX11, 43, dX11_surge_102, rfl, inlX11, by decide, mf_RX11_17, by decide, by decide⟩
theorem gX11_surge_107 : u_gf cX11_surge RX11 107 11 5 := ⟨123, RX11, TX11, 43, dX11_surge_107, rfl, inlX11, by decide, mf_RX11_123, by decide, by decide⟩
theorem gX11_surge_117 : u_gf cX11_surge RX11 117 11 5 := ⟨123, RX11, TX11, 43, dX11_surge_117, rfl, inlX11, by decide, mf_RX11_123, by decide, by decide⟩
theorem pX11_surge_122 : u_pf cX11_surge RX11 122 11 5 false (.int) := ⟨123, RX11, TX11, 43, tyX11, dX11_surge_122, rfl, inlX11, tyX11_ok, nmX11, by decide, mf_RX11_123, by decide, by decide, rfl, by decide +kernel, fun h => nomatch h⟩
theorem gX11_surge_126 : u_gf cX11_surge RX11 126 11 5 := ⟨123, RX11, TX11, 43, dX11_surge_126, rfl, inlX11, by decide, mf_RX11_123, by decide, by decide⟩
theorem mf_RX11_126 : Cond.fieldLink RX11 126 "SaltwedgeModel" "riverWater" "I" ∈ wsL_law := u_r13 _ (List.mem_of_getElem? (i := 8) rfl)
theorem gX11_river_37 : u_gf cX11_river RX11 37 11 8 := ⟨126, RX11, TX11, 43, dX11_river_37, rfl, inlX11, by decide, mf_RX11_126, by decide, by decide⟩
theorem pX11_river_43 : u_pf cX11_river RX11 43 11 8 false (.int) := ⟨126, RX11, TX11, 43, tyX11, dX11_river_43, rfl, inlX11, tyX11_ok, nmX11, by decide, mf_RX11_126, by decide, by decide, rfl, by decide +kernel, fun h => nomatch h⟩
theorem mf_RX11_129 : Cond.fieldLink RX11 129 "SaltwedgeModel" "riverSilt" "I" ∈ wsL_law := u_r13 _ (List.mem_of_getElem? (i := 9) rfl)
theorem pX11_river_48 : u_pf cX11_river RX11 48 11 9 false (.int) := ⟨129, RX11, TX11, 43, tyX11, dX11_river_48, rfl, inlX11, tyX11_ok, nmX11, by decide, mf_RX11_129, by decide, by decide, rfl, by decide +kernel, fun h => nomatch h⟩
theorem gX11_barrier_36 : u_gf cX11_barrier RX11 36 11 10 := ⟨23, RX11, TX11, 43, dX11_barrier_36, rfl, inlX11, by decide, mf_RX11_23, by decide, by decide⟩
theorem pX11_barrier_42 : u_pf cX11_barrier RX11 42 11 10 false (.int) := ⟨23, RX11, TX11, 43, tyX11, dX11_barrier_42, rfl, inlX11, tyX11_ok, nmX11, by decide, mf_RX11_23, by decide, by decide, rfl, by decide +kernel, fun h => nomatch h⟩
theorem mf_RX11_132 : Cond.fieldLink RX11 132 "SaltwedgeModel" "lead" "I" ∈ wsL_law := u_r13 _ (List.mem_of_getElem? (i := 23) rfl)
theorem pX11_barrier_47 : u_pf cX11_barrier RX11 47 11 11 false (.int) := ⟨132, RX11, TX11, 43, tyX11, dX11_barrier_47, rfl, inlX11, tyX11_ok, nmX11, by decide, mf_RX11_132, by decide, by decide, rfl, by decide +kernel, fun h => nomatch h⟩
theorem gX11_heightOf_1 : u_gf cX11_heightOf RX11 1 11 4 := ⟨13, RX11, TX11, 43, dX11_heightOf_1, rfl, inlX11, by decide, mf_RX11_13, by decide, by decide⟩
theorem gX11_heightOf_10 : u_gf cX11_heightOf RX11 10 11 4 := ⟨13, RX11, TX11, 43, dX11_heightOf_10, rfl, inlX11, by decide, mf_RX11_13, by decide, by decide⟩
theorem gX11_heightOf_22 : u_gf cX11_heightOf RX11 22 11 4 := ⟨13, RX11, TX11, 43, dX11_heightOf_22, rfl, inlX11, by decide, mf_RX11_13, by decide, by decide⟩
theorem gX11_heightOf_35 : u_gf cX11_heightOf RX11 35 11 4 := ⟨13, RX11, TX11, 43, dX11_heightOf_35, rfl, inlX11, by decide, mf_RX11_13, by decide, by decide⟩
theorem gX11_seaOf_2 : u_gf cX11_seaOf RX11 2 11 1 := ⟨120, RX11, TX11, 43, dX11_seaOf_2, rfl, inlX11, by decide, mf_RX11_120, by decide, by decide⟩
theorem gX11_seaOf_9 : u_gf cX11_seaOf RX11 9 11 7 := ⟨20, RX11, TX11, 43, dX11_seaOf_9, rfl, inlX11, by decide, mf_RX11_20, by decide, by decide⟩
theorem gX11_seaOf_16 : u_gf cX11_seaOf RX11 16 11 2 := ⟨7, RX11, TX11, 43, dX11_seaOf_16, rfl, inlX11, by decide, mf_RX11_7, by decide, by decide⟩
theorem gX11_seaOf_24 : u_gf cX11_seaOf RX11 24 11 3 := ⟨113, RX11, TX11, 43, dX11_seaOf_24, rfl, inlX11, by decide, mf_RX11_113, by decide, by decide⟩
theorem ml_RX11_135 : Cond.methodLink RX11 135 yX11_heightOf ∈ wsL_law := u_r24 _ (List.mem_of_getElem? (i := 11) rfl)
theorem gX11_seaOf_49 : u_gf cX11_seaOf RX11 49 11 5 := ⟨123, RX11, TX11, 43, dX11_seaOf_49, rfl, inlX11, by decide, mf_RX11_123, by decide, by decide⟩
theorem gX11_seaOf_58 : u_gf cX11_seaOf RX11 58 11 6 := ⟨17, RX11, TX11, 43, dX11_seaOf_58, rfl, inlX11, by decide, mf_RX11_17, by decide, by decide⟩
theorem gX11_seaOf_66 : u_gf cX11_seaOf RX11 66 11 6 := ⟨17, RX11, TX11, 43, dX11_seaOf_66, rfl, inlX11, by decide, mf_RX11_17, by decide, by decide⟩
theorem gX11_seaOf_82 : u_gf cX11_seaOf RX11 82 11 6 := ⟨17, RX11, TX11, 43, dX11_seaOf_82, rfl, inlX11, by decide, mf_RX11_17, by decide, by decide⟩
theorem gX11_section_62 : u_gf cX11_section RX11 62 11 16 := ⟨106, RX11, TX11, 43, dX11_section_62, rfl, inlX11, by decide, mf_RX11_106, by decide, by decide⟩
theorem gX11_section_71 : u_gf cX11_section RX11 71 11 1 := ⟨120, RX11, TX11, 43, dX11_section_71, rfl, inlX11, by decide, mf_RX11_120, by decide, by decide⟩
theorem gX11_section_91 : u_gf cX11_section RX11 91 11 17 := ⟨36, RX11, TX11, 43, dX11_section_91, rfl, inlX11, by decide, mf_RX11_36, by decide, by decide⟩
theorem gX11_section_95 : u_gf cX11_section RX11 95 11 16 := ⟨106, RX11, TX11, 43, dX11_section_95, rfl, inlX11, by decide, mf_RX11_106, by decide, by decide⟩
theorem gX11_section_101 : u_gf cX11_section RX11 101 11 22 := ⟨51, RX11, TX11, 43, dX11_section_101, rfl, inlX11, by decide, mf_RX11_51, by decide, by decide⟩
theorem gX11_section_105 : u_gf cX11_section RX11 105 11 16 := ⟨106, RX11, TX11, 43, dX11_section_105, rfl, inlX11, by decide, mf_RX11_106, by decide, by decide⟩
theorem gX11_section_111 : u_gf cX11_section RX11 111 11 22 := ⟨51, RX11, TX11, 43, dX11_section_111, rfl, inlX11, by decide, mf_RX11_51, by decide, by decide⟩
theorem gX11_section_117 : u_gf cX11_section RX11 117 11 16 := ⟨106, RX11, TX11, 43, dX11_section_117, rfl, inlX11, by decide, mf_RX11_106, by decide, by decide⟩
theorem gX11_section_124 : u_gf cX11_section RX11 124 11 18 := ⟨39, RX11, TX11, 43, dX11_section_124, rfl, inlX11, by decide, mf_RX11_39, by decide, by decide⟩
theorem gX11_section_128 : u_gf cX11_section RX11 128 11 16 := ⟨106, RX11, TX11, 43, dX11_section_128, rfl, inlX11, by decide, mf_RX11_106, by decide, by decide⟩
theorem gX11_section_136 : u_gf cX11_section RX11 136 11 16 := ⟨106, RX11, TX11, 43, dX11_section_136, rfl, inlX11, by decide, mf_RX11_106, by decide, by decide⟩
theorem pX11_section_141 : u_pf cX11_section RX11 141 11 16 false (.int) := ⟨106, RX11, TX11, 43, tyX11, dX11_section_141, rfl, inlX11, tyX11_ok, nmX11, by decide, mf_RX11_106, by decide, by decide, rfl, by decide +kernel, fun h => nomatch h⟩
theorem gX11_section_145 : u_gf cX11_section RX11 145 11 16 := ⟨106, RX11, TX11, 43, dX11_section_145, rfl, inlX11, by decide, mf_RX11_106, by decide, by decide⟩
theorem ml_RX11_139 : Cond.methodLink RX11 139 yX11_isSection ∈ wsL_law := u_r15 _ (List.mem_of_getElem? (i := 6) rfl)
theorem mf_RX11_142 : Cond.fieldLink RX11 142 "SaltwedgeModel" "intakes" "I" ∈ wsL_law := u_r15 _ (List.mem_of_getElem? (i := 5) rfl)
theorem gX11_intake_75 : u_gf cX11_intake RX11 75 11 25 := ⟨142, RX11, TX11, 43, dX11_intake_75, rfl, inlX11, by decide, mf_RX11_142, by decide, by decide⟩
theorem gX11_intake_97 : u_gf cX11_intake RX11 97 11 26 := ⟨60, RX11, TX11, 43, dX11_intake_97, rfl, inlX11, by decide, mf_RX11_60, by decide, by decide⟩
theorem gX11_intake_101 : u_gf cX11_intake RX11 101 11 25 := ⟨142, RX11, TX11, 43, dX11_intake_101, rfl, inlX11, by decide, mf_RX11_142, by decide, by decide⟩
theorem gX11_intake_107 : u_gf cX11_intake RX11 107 11 27 := ⟨63, RX11, TX11, 43, dX11_intake_107, rfl, inlX11, by decide, mf_RX11_63, by decide, by decide⟩
theorem gX11_intake_111 : u_gf cX11_intake RX11 111 11 25 := ⟨142, RX11, TX11, 43, dX11_intake_111, rfl, inlX11, by decide, mf_RX11_142, by decide, by decide⟩
theorem gX11_intake_117 : u_gf cX11_intake RX11 117 11 28 := ⟨66, RX11, TX11, 43, dX11_intake_117, rfl, inlX11, by decide, mf_RX11_66, by decide, by decide⟩
theorem gX11_intake_121 : u_gf cX11_intake RX11 121 11 25 := ⟨142, RX11, TX11, 43, dX11_intake_121, rfl, inlX11, by decide, mf_RX11_142, by decide, by decide⟩
theorem gX11_intake_127 : u_gf cX11_intake RX11 127 11 29 := ⟨69, RX11, TX11, 43, dX11_intake_127, rfl, inlX11, by decide, mf_RX11_69, by decide, by decide⟩
theorem gX11_intake_131 : u_gf cX11_intake RX11 131 11 25 := ⟨142, RX11, TX11, 43, dX11_intake_131, rfl, inlX11, by decide, mf_RX11_142, by decide, by decide⟩
theorem gX11_intake_138 : u_gf cX11_intake RX11 138 11 30 := ⟨72, RX11, TX11, 43, dX11_intake_138, rfl, inlX11, by decide, mf_RX11_72, by decide, by decide⟩
theorem gX11_intake_142 : u_gf cX11_intake RX11 142 11 25 := ⟨142, RX11, TX11, 43, dX11_intake_142, rfl, inlX11, by decide, mf_RX11_142, by decide, by decide⟩
theorem gX11_intake_150 : u_gf cX11_intake RX11 150 11 25 := ⟨142, RX11, TX11, 43, dX11_intake_150, rfl, inlX11, by decide, mf_RX11_142, by decide, by decide⟩
theorem pX11_intake_155 : u_pf cX11_intake RX11 155 11 25 false (.int) := ⟨142, RX11, TX11, 43, tyX11, dX11_intake_155, rfl, inlX11, tyX11_ok, nmX11, by decide, mf_RX11_142, by decide, by decide, rfl, by decide +kernel, fun h => nomatch h⟩
theorem gX11_intake_159 : u_gf cX11_intake RX11 159 11 25 := ⟨142, RX11, TX11, 43, dX11_intake_159, rfl, inlX11, by decide, mf_RX11_142, by decide, by decide⟩
theorem mf_RX11_145 : Cond.fieldLink RX11 145 "SaltwedgeModel" "oysters" "I" ∈ wsL_law := u_r16 _ (List.mem_of_getElem? (i := 1) rfl)
theorem gX11_oysters_50 : u_gf cX11_oysters RX11 50 11 36 := ⟨145, RX11, TX11, 43, dX11_oysters_50, rfl, inlX11, by decide, mf_RX11_145, by decide, by decide⟩
theorem gX11_oysters_72 : u_gf cX11_oysters RX11 72 11 37 := ⟨90, RX11, TX11, 43, dX11_oysters_72, rfl, inlX11, by decide, mf_RX11_90, by decide, by decide⟩
theorem gX11_oysters_76 : u_gf cX11_oysters RX11 76 11 36 := ⟨145, RX11, TX11, 43, dX11_oysters_76, rfl, inlX11, by decide, mf_RX11_145, by decide, by decide⟩
theorem gX11_oysters_82 : u_gf cX11_oysters RX11 82 11 38 := ⟨93, RX11, TX11, 43, dX11_oysters_82, rfl, inlX11, by decide, mf_RX11_93, by decide, by decide⟩
theorem gX11_oysters_86 : u_gf cX11_oysters RX11 86 11 36 := ⟨145, RX11, TX11, 43, dX11_oysters_86, rfl, inlX11, by decide, mf_RX11_145, by decide, by decide⟩
theorem gX11_oysters_92 : u_gf cX11_oysters RX11 92 11 39 := ⟨96, RX11, TX11, 43, dX11_oysters_92, rfl, inlX11, by decide, mf_RX11_96, by decide, by decide⟩
theorem gX11_oysters_96 : u_gf cX11_oysters RX11 96 11 36 := ⟨145, RX11, TX11, 43, dX11_oysters_96, rfl, inlX11, by decide, mf_RX11_145, by decide, by decide⟩
theorem gX11_oysters_103 : u_gf cX11_oysters RX11 103 11 36 := ⟨145, RX11, TX11, 43, dX11_oysters_103, rfl, inlX11, by decide, mf_RX11_145, by decide, by decide⟩
theorem pX11_oysters_108 : u_pf cX11_oysters RX11 108 11 36 false (.int) := ⟨145, RX11, TX11, 43, tyX11, dX11_oysters_108, rfl, inlX11, tyX11_ok, nmX11, by decide, mf_RX11_145, by decide, by decide, rfl, by decide +kernel, fun h => nomatch h⟩
theorem gX11_oysters_112 : u_gf cX11_oysters RX11 112 11 36 := ⟨145, RX11, TX11, 43, dX11_oysters_112, rfl, inlX11, by decide, mf_RX11_145, by decide, by decide⟩
theorem gX11_permit_38 : u_gf cX11_permit RX11 38 11 21 := ⟨48, RX11, TX11, 43, dX11_permit_38, rfl, inlX11, by decide, mf_RX11_48, by decide, by decide⟩
theorem gX11_permit_45 : u_gf cX11_permit RX11 45 11 21 := ⟨48, RX11, TX11, 43, dX11_permit_45, rfl, inlX11, by decide, mf_RX11_48, by decide, by decide⟩
theorem gX11_why_1 : u_gf cX11_why RX11 1 11 21 := ⟨48, RX11, TX11, 43, dX11_why_1, rfl, inlX11, by decide, mf_RX11_48, by decide, by decide⟩
theorem gX11_why_13 : u_gf cX11_why RX11 13 11 21 := ⟨48, RX11, TX11, 43, dX11_why_13, rfl, inlX11, by decide, mf_RX11_48, by decide, by decide⟩
theorem gX11_why_26 : u_gf cX11_why RX11 26 11 18 := ⟨39, RX11, TX11, 43, dX11_why_26, rfl, inlX11, by decide, mf_RX11_39, by decide, by decide⟩
theorem ml_RX11_148 : Cond.methodLink RX11 148 yX11_why ∈ wsL_law := u_r17 _ (List.mem_of_getElem? (i := 6) rfl)
theorem gX11_dredge_81 : u_gf cX11_dredge RX11 81 11 21 := ⟨48, RX11, TX11, 43, dX11_dredge_81, rfl, inlX11, by decide, mf_RX11_48, by decide, by decide⟩
theorem gX11_dredge_91 : u_gf cX11_dredge RX11 91 11 18 := ⟨39, RX11, TX11, 43, dX11_dredge_91, rfl, inlX11, by decide, mf_RX11_39, by decide, by decide⟩
theorem gX11_dredge_106 : u_gf cX11_dredge RX11 106 11 40 := ⟨99, RX11, TX11, 43, dX11_dredge_106, rfl, inlX11, by decide, mf_RX11_99, by decide, by decide⟩
theorem gX11_dredge_121 : u_gf cX11_dredge RX11 121 11 19 := ⟨42, RX11, TX11, 43, dX11_dredge_121, rfl, inlX11, by decide, mf_RX11_42, by decide, by decide⟩
theorem gX11_dredge_131 : u_gf cX11_dredge RX11 131 11 21 := ⟨48, RX11, TX11, 43, dX11_dredge_131, rfl, inlX11, by decide, mf_RX11_48, by decide, by decide⟩
theorem gX11_bed_1 : u_gf cX11_bed RX11 1 11 18 := ⟨39, RX11, TX11, 43, dX11_bed_1, rfl, inlX11, by decide, mf_RX11_39, by decide, by decide⟩
theorem gX11_bed_7 : u_gf cX11_bed RX11 7 11 17 := ⟨36, RX11, TX11, 43, dX11_bed_7, rfl, inlX11, by decide, mf_RX11_36, by decide, by decide⟩
theorem ml_RX11_151 : Cond.methodLink RX11 151 yX11_bed ∈ wsL_law := u_r25 _ (List.mem_of_getElem? (i := 10) rfl)
theorem gX11_level_6 : u_gf cX11_level RX11 6 11 22 := ⟨51, RX11, TX11, 43, dX11_level_6, rfl, inlX11, by decide, mf_RX11_51, by decide, by decide⟩
theorem gX11_level_12 : u_gf cX11_level RX11 12 11 22 := ⟨51, RX11, TX11, 43, dX11_level_12, rfl, inlX11, by decide, mf_RX11_51, by decide, by decide⟩
theorem gX11_level_22 : u_gf cX11_level RX11 22 11 17 := ⟨36, RX11, TX11, 43, dX11_level_22, rfl, inlX11, by decide, mf_RX11_36, by decide, by decide⟩
theorem gX11_salinity_1 : u_gf cX11_salinity RX11 1 11 22 := ⟨51, RX11, TX11, 43, dX11_salinity_1, rfl, inlX11, by decide, mf_RX11_51, by decide, by decide⟩
theorem gX11_salinity_21 : u_gf cX11_salinity RX11 21 11 23 := ⟨54, RX11, TX11, 43, dX11_salinity_21, rfl, inlX11, by decide, mf_RX11_54, by decide, by decide⟩
theorem gX11_leaves_10 : u_gf cX11_leaves RX11 10 11 23 := ⟨54, RX11, TX11, 43, dX11_leaves_10, rfl, inlX11, by decide, mf_RX11_54, by decide, by decide⟩
theorem gX11_leaves_18 : u_gf cX11_leaves RX11 18 11 22 := ⟨51, RX11, TX11, 43, dX11_leaves_18, rfl, inlX11, by decide, mf_RX11_51, by decide, by decide⟩
theorem ml_RX11_155 : Cond.methodLink RX11 155 yX11_share ∈ wsL_law := u_r25 _ (List.mem_of_getElem? (i := 18) rfl)
theorem mf_RX11_159 : Cond.fieldLink RX11 159 "SaltwedgeModel" "saltGone" "I" ∈ wsL_law := u_r25 _ (List.mem_of_getElem? (i := 4) rfl)
theorem pX11_leaves_27 : u_pf cX11_leaves RX11 27 11 41 false (.int) := ⟨159, RX11, TX11, 43, tyX11, dX11_leaves_27, rfl, inlX11, tyX11_ok, nmX11, by decide, mf_RX11_159, by decide, by decide, rfl, by decide +kernel, fun h => nomatch h⟩
theorem gX11_leaves_36 : u_gf cX11_leaves RX11 36 11 19 := ⟨42, RX11, TX11, 43, dX11_leaves_36, rfl, inlX11, by decide, mf_RX11_42, by decide, by decide⟩
theorem gX11_leaves_43 : u_gf cX11_leaves RX11 43 11 22 := ⟨51, RX11, TX11, 43, dX11_leaves_43, rfl, inlX11, by decide, mf_RX11_51, by decide, by decide⟩
theorem mf_RX11_162 : Cond.fieldLink RX11 162 "SaltwedgeModel" "cloudGone" "I" ∈ wsL_law := u_r25 _ (List.mem_of_getElem? (i := 5) rfl)
theorem pX11_leaves_56 : u_pf cX11_leaves RX11 56 11 42 false (.int) := ⟨162, RX11, TX11, 43, tyX11, dX11_leaves_56, rfl, inlX11, tyX11_ok, nmX11, by decide, mf_RX11_162, by decide, by decide, rfl, by decide +kernel, fun h => nomatch h⟩
theorem gX11_leaves_60 : u_gf cX11_leaves RX11 60 11 22 := ⟨51, RX11, TX11, 43, dX11_leaves_60, rfl, inlX11, by decide, mf_RX11_51, by decide, by decide⟩
theorem gX11_leaves_71 : u_gf cX11_leaves RX11 71 11 23 := ⟨54, RX11, TX11, 43, dX11_leaves_71, rfl, inlX11, by decide, mf_RX11_54, by decide, by decide⟩
theorem gX11_leaves_79 : u_gf cX11_leaves RX11 79 11 41 := ⟨159, RX11, TX11, 43, dX11_leaves_79, rfl, inlX11, by decide, mf_RX11_159, by decide, by decide⟩
theorem gX11_leaves_85 : u_gf cX11_leaves RX11 85 11 19 := ⟨42, RX11, TX11, 43, dX11_leaves_85, rfl, inlX11, by decide, mf_RX11_42, by decide, by decide⟩
theorem gX11_leaves_92 : u_gf cX11_leaves RX11 92 11 42 := ⟨162, RX11, TX11, 43, dX11_leaves_92, rfl, inlX11, by decide, mf_RX11_162, by decide, by decide⟩
theorem ml_RX11_165 : Cond.methodLink RX11 165 yX11_leaves ∈ wsL_law := u_r25 _ (List.mem_of_getElem? (i := 14) rfl)
theorem gX11_flows_9 : u_gf cX11_flows RX11 9 11 22 := ⟨51, RX11, TX11, 43, dX11_flows_9, rfl, inlX11, by decide, mf_RX11_51, by decide, by decide⟩
theorem gX11_flows_25 : u_gf cX11_flows RX11 25 11 23 := ⟨54, RX11, TX11, 43, dX11_flows_25, rfl, inlX11, by decide, mf_RX11_54, by decide, by decide⟩
theorem gX11_flows_37 : u_gf cX11_flows RX11 37 11 41 := ⟨159, RX11, TX11, 43, dX11_flows_37, rfl, inlX11, by decide, mf_RX11_159, by decide, by decide⟩
theorem gX11_flows_43 : u_gf cX11_flows RX11 43 11 19 := ⟨42, RX11, TX11, 43, dX11_flows_43, rfl, inlX11, by decide, mf_RX11_42, by decide, by decide⟩
theorem gX11_flows_50 : u_gf cX11_flows RX11 50 11 42 := ⟨162, RX11, TX11, 43, dX11_flows_50, rfl, inlX11, by decide, mf_RX11_162, by decide, by decide⟩
theorem gX11_isShutNow_3 : u_gf cX11_isShutNow RX11 3 11 1 := ⟨120, RX11, TX11, 43, dX11_isShutNow_3, rfl, inlX11, by decide, mf_RX11_120, by decide, by decide⟩
theorem gX11_isShutNow_9 : u_gf cX11_isShutNow RX11 9 11 1 := ⟨120, RX11, TX11, 43, dX11_isShutNow_9, rfl, inlX11, by decide, mf_RX11_120, by decide, by decide⟩
theorem gX11_isShutNow_13 : u_gf cX11_isShutNow RX11 13 11 11 := ⟨132, RX11, TX11, 43, dX11_isShutNow_13, rfl, inlX11, by decide, mf_RX11_132, by decide, by decide⟩
theorem gX11_isShutNow_21 : u_gf cX11_isShutNow RX11 21 11 10 := ⟨23, RX11, TX11, 43, dX11_isShutNow_21, rfl, inlX11, by decide, mf_RX11_23, by decide, by decide⟩
theorem ml_RX11_169 : Cond.methodLink RX11 169 yX11_seaOf ∈ wsL_law := u_r24 _ (List.mem_of_getElem? (i := 7) rfl)
theorem gX11_isShutNow_38 : u_gf cX11_isShutNow RX11 38 11 10 := ⟨23, RX11, TX11, 43, dX11_isShutNow_38, rfl, inlX11, by decide, mf_RX11_23, by decide, by decide⟩
theorem mf_RX11_172 : Cond.fieldLink RX11 172 "SaltwedgeModel" "closures" "I" ∈ wsL_law := u_r24 _ (List.mem_of_getElem? (i := 23) rfl)
theorem gX11_closes_1 : u_gf cX11_closes RX11 1 11 12 := ⟨172, RX11, TX11, 43, dX11_closes_1, rfl, inlX11, by decide, mf_RX11_172, by decide, by decide⟩
theorem gX11_closes_8 : u_gf cX11_closes RX11 8 11 14 := ⟨29, RX11, TX11, 43, dX11_closes_8, rfl, inlX11, by decide, mf_RX11_29, by decide, by decide⟩
theorem gX11_closes_12 : u_gf cX11_closes RX11 12 11 12 := ⟨172, RX11, TX11, 43, dX11_closes_12, rfl, inlX11, by decide, mf_RX11_172, by decide, by decide⟩
theorem gX11_closes_19 : u_gf cX11_closes RX11 19 11 1 := ⟨120, RX11, TX11, 43, dX11_closes_19, rfl, inlX11, by decide, mf_RX11_120, by decide, by decide⟩
theorem gX11_closes_38 : u_gf cX11_closes RX11 38 11 13 := ⟨26, RX11, TX11, 43, dX11_closes_38, rfl, inlX11, by decide, mf_RX11_26, by decide, by decide⟩
theorem gX11_closes_42 : u_gf cX11_closes RX11 42 11 12 := ⟨172, RX11, TX11, 43, dX11_closes_42, rfl, inlX11, by decide, mf_RX11_172, by decide, by decide⟩
theorem gX11_closes_46 : u_gf cX11_closes RX11 46 11 1 := ⟨120, RX11, TX11, 43, dX11_closes_46, rfl, inlX11, by decide, mf_RX11_120, by decide, by decide⟩
theorem gX11_closes_52 : u_gf cX11_closes RX11 52 11 12 := ⟨172, RX11, TX11, 43, dX11_closes_52, rfl, inlX11, by decide, mf_RX11_172, by decide, by decide⟩
theorem pX11_closes_57 : u_pf cX11_closes RX11 57 11 12 false (.int) := ⟨172, RX11, TX11, 43, tyX11, dX11_closes_57, rfl, inlX11, tyX11_ok, nmX11, by decide, mf_RX11_172, by decide, by decide, rfl, by decide +kernel, fun h => nomatch h⟩
theorem gX11_closes_61 : u_gf cX11_closes RX11 61 11 14 := ⟨29, RX11, TX11, 43, dX11_closes_61, rfl, inlX11, by decide, mf_RX11_29, by decide, by decide⟩
theorem gX11_closes_65 : u_gf cX11_closes RX11 65 11 12 := ⟨172, RX11, TX11, 43, dX11_closes_65, rfl, inlX11, by decide, mf_RX11_172, by decide, by decide⟩
theorem gX11_closes_71 : u_gf cX11_closes RX11 71 11 1 := ⟨120, RX11, TX11, 43, dX11_closes_71, rfl, inlX11, by decide, mf_RX11_120, by decide, by decide⟩
theorem gX11_closes_76 : u_gf cX11_closes RX11 76 11 15 := ⟨32, RX11, TX11, 43, dX11_closes_76, rfl, inlX11, by decide, mf_RX11_32, by decide, by decide⟩
theorem gX11_closes_80 : u_gf cX11_closes RX11 80 11 12 := ⟨172, RX11, TX11, 43, dX11_closes_80, rfl, inlX11, by decide, mf_RX11_172, by decide, by decide⟩
theorem gX11_closes_86 : u_gf cX11_closes RX11 86 11 15 := ⟨32, RX11, TX11, 43, dX11_closes_86, rfl, inlX11, by decide, mf_RX11_32, by decide, by decide⟩
theorem gX11_closes_90 : u_gf cX11_closes RX11 90 11 12 := ⟨172, RX11, TX11, 43, dX11_closes_90, rfl, inlX11, by decide, mf_RX11_172, by decide, by decide⟩
theorem gX11_closes_101 : u_gf cX11_closes RX11 101 11 10 := ⟨23, RX11, TX11, 43, dX11_closes_101, rfl, inlX11, by decide, mf_RX11_23, by decide, by decide⟩
theorem ml_RX11_175 : Cond.methodLink RX11 175 yX11_level ∈ wsL_law := u_r25 _ (List.mem_of_getElem? (i := 6) rfl)
theorem gX11_mouth_14 : u_gf cX11_mouth RX11 14 11 17 := ⟨36, RX11, TX11, 43, dX11_mouth_14, rfl, inlX11, by decide, mf_RX11_36, by decide, by decide⟩
theorem gX11_mouth_24 : u_gf cX11_mouth RX11 24 11 22 := ⟨51, RX11, TX11, 43, dX11_mouth_24, rfl, inlX11, by decide, mf_RX11_51, by decide, by decide⟩
theorem gX11_mouth_35 : u_gf cX11_mouth RX11 35 11 23 := ⟨54, RX11, TX11, 43, dX11_mouth_35, rfl, inlX11, by decide, mf_RX11_54, by decide, by decide⟩
theorem gX11_mouth_49 : u_gf cX11_mouth RX11 49 11 40 := ⟨99, RX11, TX11, 43, dX11_mouth_49, rfl, inlX11, by decide, mf_RX11_99, by decide, by decide⟩
theorem gX11_mouth_60 : u_gf cX11_mouth RX11 60 11 40 := ⟨99, RX11, TX11, 43, dX11_mouth_60, rfl, inlX11, by decide, mf_RX11_99, by decide, by decide⟩
theorem gX11_mouth_79 : u_gf cX11_mouth RX11 79 11 17 := ⟨36, RX11, TX11, 43, dX11_mouth_79, rfl, inlX11, by decide, mf_RX11_36, by decide, by decide⟩
theorem gX11_mouth_90 : u_gf cX11_mouth RX11 90 11 22 := ⟨51, RX11, TX11, 43, dX11_mouth_90, rfl, inlX11, by decide, mf_RX11_51, by decide, by decide⟩
theorem gX11_mouth_103 : u_gf cX11_mouth RX11 103 11 22 := ⟨51, RX11, TX11, 43, dX11_mouth_103, rfl, inlX11, by decide, mf_RX11_51, by decide, by decide⟩
theorem gX11_mouth_117 : u_gf cX11_mouth RX11 117 11 40 := ⟨99, RX11, TX11, 43, dX11_mouth_117, rfl, inlX11, by decide, mf_RX11_99, by decide, by decide⟩
theorem gX11_mouth_128 : u_gf cX11_mouth RX11 128 11 40 := ⟨99, RX11, TX11, 43, dX11_mouth_128, rfl, inlX11, by decide, mf_RX11_99, by decide, by decide⟩
theorem gX11_mouth_135 : u_gf cX11_mouth RX11 135 11 41 := ⟨159, RX11, TX11, 43, dX11_mouth_135, rfl, inlX11, by decide, mf_RX11_159, by decide, by decide⟩
theorem gX11_mouth_142 : u_gf cX11_mouth RX11 142 11 40 := ⟨99, RX11, TX11, 43, dX11_mouth_142, rfl, inlX11, by decide, mf_RX11_99, by decide, by decide⟩
theorem gX11_mouth_150 : u_gf cX11_mouth RX11 150 11 42 := ⟨162, RX11, TX11, 43, dX11_mouth_150, rfl, inlX11, by decide, mf_RX11_162, by decide, by decide⟩
theorem gX11_neighbours_17 : u_gf cX11_neighbours RX11 17 11 17 := ⟨36, RX11, TX11, 43, dX11_neighbours_17, rfl, inlX11, by decide, mf_RX11_36, by decide, by decide⟩
theorem gX11_neighbours_23 : u_gf cX11_neighbours RX11 23 11 17 := ⟨36, RX11, TX11, 43, dX11_neighbours_23, rfl, inlX11, by decide, mf_RX11_36, by decide, by decide⟩
theorem gX11_neighbours_32 : u_gf cX11_neighbours RX11 32 11 17 := ⟨36, RX11, TX11, 43, dX11_neighbours_32, rfl, inlX11, by decide, mf_RX11_36, by decide, by decide⟩
theorem gX11_neighbours_41 : u_gf cX11_neighbours RX11 41 11 17 := ⟨36, RX11, TX11, 43, dX11_neighbours_41, rfl, inlX11, by decide, mf_RX11_36, by decide, by decide⟩
theorem gX11_neighbours_72 : u_gf cX11_neighbours RX11 72 11 22 := ⟨51, RX11, TX11, 43, dX11_neighbours_72, rfl, inlX11, by decide, mf_RX11_51, by decide, by decide⟩
theorem gX11_neighbours_89 : u_gf cX11_neighbours RX11 89 11 22 := ⟨51, RX11, TX11, 43, dX11_neighbours_89, rfl, inlX11, by decide, mf_RX11_51, by decide, by decide⟩
theorem ml_RX11_178 : Cond.methodLink RX11 178 yX11_flows ∈ wsL_law := u_r26 _ (List.mem_of_getElem? (i := 1) rfl)
theorem gX11_neighbours_114 : u_gf cX11_neighbours RX11 114 11 22 := ⟨51, RX11, TX11, 43, dX11_neighbours_114, rfl, inlX11, by decide, mf_RX11_51, by decide, by decide⟩
theorem gX11_neighbours_128 : u_gf cX11_neighbours RX11 128 11 22 := ⟨51, RX11, TX11, 43, dX11_neighbours_128, rfl, inlX11, by decide, mf_RX11_51, by decide, by decide⟩
theorem gX11_neighbours_145 : u_gf cX11_neighbours RX11 145 11 20 := ⟨45, RX11, TX11, 43, dX11_neighbours_145, rfl, inlX11, by decide, mf_RX11_45, by decide, by decide⟩
theorem gX11_neighbours_156 : u_gf cX11_neighbours RX11 156 11 20 := ⟨45, RX11, TX11, 43, dX11_neighbours_156, rfl, inlX11, by decide, mf_RX11_45, by decide, by decide⟩
theorem ml_RX11_182 : Cond.methodLink RX11 182 yX11_salinity ∈ wsL_law := u_r26 _ (List.mem_of_getElem? (i := 5) rfl)
theorem gX11_neighbours_182 : u_gf cX11_neighbours RX11 182 11 22 := ⟨51, RX11, TX11, 43, dX11_neighbours_182, rfl, inlX11, by decide, mf_RX11_51, by decide, by decide⟩
theorem gX11_neighbours_191 : u_gf cX11_neighbours RX11 191 11 22 := ⟨51, RX11, TX11, 43, dX11_neighbours_191, rfl, inlX11, by decide, mf_RX11_51, by decide, by decide⟩
theorem gX11_neighbours_200 : u_gf cX11_neighbours RX11 200 11 22 := ⟨51, RX11, TX11, 43, dX11_neighbours_200, rfl, inlX11, by decide, mf_RX11_51, by decide, by decide⟩
theorem gX11_neighbours_212 : u_gf cX11_neighbours RX11 212 11 22 := ⟨51, RX11, TX11, 43, dX11_neighbours_212, rfl, inlX11, by decide, mf_RX11_51, by decide, by decide⟩
theorem gX11_mixes_1 : u_gf cX11_mixes RX11 1 11 22 := ⟨51, RX11, TX11, 43, dX11_mixes_1, rfl, inlX11, by decide, mf_RX11_51, by decide, by decide⟩
theorem gX11_mixes_7 : u_gf cX11_mixes RX11 7 11 22 := ⟨51, RX11, TX11, 43, dX11_mixes_7, rfl, inlX11, by decide, mf_RX11_51, by decide, by decide⟩
theorem gX11_mixes_19 : u_gf cX11_mixes RX11 19 11 22 := ⟨51, RX11, TX11, 43, dX11_mixes_19, rfl, inlX11, by decide, mf_RX11_51, by decide, by decide⟩
theorem gX11_mixes_28 : u_gf cX11_mixes RX11 28 11 22 := ⟨51, RX11, TX11, 43, dX11_mixes_28, rfl, inlX11, by decide, mf_RX11_51, by decide, by decide⟩
theorem gX11_mixes_38 : u_gf cX11_mixes RX11 38 11 23 := ⟨54, RX11, TX11, 43, dX11_mixes_38, rfl, inlX11, by decide, mf_RX11_54, by decide, by decide⟩
theorem gX11_mixes_50 : u_gf cX11_mixes RX11 50 11 22 := ⟨51, RX11, TX11, 43, dX11_mixes_50, rfl, inlX11, by decide, mf_RX11_51, by decide, by decide⟩
theorem gX11_mixes_62 : u_gf cX11_mixes RX11 62 11 23 := ⟨54, RX11, TX11, 43, dX11_mixes_62, rfl, inlX11, by decide, mf_RX11_54, by decide, by decide⟩
theorem gX11_mixes_71 : u_gf cX11_mixes RX11 71 11 22 := ⟨51, RX11, TX11, 43, dX11_mixes_71, rfl, inlX11, by decide, mf_RX11_51, by decide, by decide⟩
theorem gX11_mixes_82 : u_gf cX11_mixes RX11 82 11 20 := ⟨45, RX11, TX11, 43, dX11_mixes_82, rfl, inlX11, by decide, mf_RX11_45, by decide, by decide⟩
theorem gX11_mixes_97 : u_gf cX11_mixes RX11 97 11 23 := ⟨54, RX11, TX11, 43, dX11_mixes_97, rfl, inlX11, by decide, mf_RX11_54, by decide, by decide⟩
theorem gX11_mixes_110 : u_gf cX11_mixes RX11 110 11 23 := ⟨54, RX11, TX11, 43, dX11_mixes_110, rfl, inlX11, by decide, mf_RX11_54, by decide, by decide⟩
theorem gX11_settles_1 : u_gf cX11_settles RX11 1 11 20 := ⟨45, RX11, TX11, 43, dX11_settles_1, rfl, inlX11, by decide, mf_RX11_45, by decide, by decide⟩
theorem gX11_settles_12 : u_gf cX11_settles RX11 12 11 19 := ⟨42, RX11, TX11, 43, dX11_settles_12, rfl, inlX11, by decide, mf_RX11_42, by decide, by decide⟩
theorem gX11_settles_23 : u_gf cX11_settles RX11 23 11 19 := ⟨42, RX11, TX11, 43, dX11_settles_23, rfl, inlX11, by decide, mf_RX11_42, by decide, by decide⟩
theorem gX11_settles_33 : u_gf cX11_settles RX11 33 11 18 := ⟨39, RX11, TX11, 43, dX11_settles_33, rfl, inlX11, by decide, mf_RX11_39, by decide, by decide⟩
theorem gX11_settles_43 : u_gf cX11_settles RX11 43 11 20 := ⟨45, RX11, TX11, 43, dX11_settles_43, rfl, inlX11, by decide, mf_RX11_45, by decide, by decide⟩
theorem gX11_settles_54 : u_gf cX11_settles RX11 54 11 20 := ⟨45, RX11, TX11, 43, dX11_settles_54, rfl, inlX11, by decide, mf_RX11_45, by decide, by decide⟩
theorem gX11_settles_63 : u_gf cX11_settles RX11 63 11 18 := ⟨39, RX11, TX11, 43, dX11_settles_63, rfl, inlX11, by decide, mf_RX11_39, by decide, by decide⟩
theorem gX11_settles_72 : u_gf cX11_settles RX11 72 11 20 := ⟨45, RX11, TX11, 43, dX11_settles_72, rfl, inlX11, by decide, mf_RX11_45, by decide, by decide⟩
theorem gX11_settles_84 : u_gf cX11_settles RX11 84 11 18 := ⟨39, RX11, TX11, 43, dX11_settles_84, rfl, inlX11, by decide, mf_RX11_39, by decide, by decide⟩
theorem gX11_settles_91 : u_gf cX11_settles RX11 91 11 18 := ⟨39, RX11, TX11, 43, dX11_settles_91, rfl, inlX11, by decide, mf_RX11_39, by decide, by decide⟩
theorem gX11_settles_101 : u_gf cX11_settles RX11 101 11 19 := ⟨42, RX11, TX11, 43, dX11_settles_101, rfl, inlX11, by decide, mf_RX11_42, by decide, by decide⟩
theorem gX11_drinks_1 : u_gf cX11_drinks RX11 1 11 26 := ⟨60, RX11, TX11, 43, dX11_drinks_1, rfl, inlX11, by decide, mf_RX11_60, by decide, by decide⟩
theorem gX11_drinks_8 : u_gf cX11_drinks RX11 8 11 35 := ⟨87, RX11, TX11, 43, dX11_drinks_8, rfl, inlX11, by decide, mf_RX11_87, by decide, by decide⟩
theorem gX11_drinks_13 : u_gf cX11_drinks RX11 13 11 22 := ⟨51, RX11, TX11, 43, dX11_drinks_13, rfl, inlX11, by decide, mf_RX11_51, by decide, by decide⟩
theorem gX11_drinks_28 : u_gf cX11_drinks RX11 28 11 28 := ⟨66, RX11, TX11, 43, dX11_drinks_28, rfl, inlX11, by decide, mf_RX11_66, by decide, by decide⟩
theorem gX11_drinks_43 : u_gf cX11_drinks RX11 43 11 34 := ⟨84, RX11, TX11, 43, dX11_drinks_43, rfl, inlX11, by decide, mf_RX11_84, by decide, by decide⟩
theorem gX11_drinks_50 : u_gf cX11_drinks RX11 50 11 35 := ⟨87, RX11, TX11, 43, dX11_drinks_50, rfl, inlX11, by decide, mf_RX11_87, by decide, by decide⟩
theorem gX11_drinks_66 : u_gf cX11_drinks RX11 66 11 35 := ⟨87, RX11, TX11, 43, dX11_drinks_66, rfl, inlX11, by decide, mf_RX11_87, by decide, by decide⟩
theorem gX11_drinks_75 : u_gf cX11_drinks RX11 75 11 27 := ⟨63, RX11, TX11, 43, dX11_drinks_75, rfl, inlX11, by decide, mf_RX11_63, by decide, by decide⟩
theorem gX11_drinks_81 : u_gf cX11_drinks RX11 81 11 22 := ⟨51, RX11, TX11, 43, dX11_drinks_81, rfl, inlX11, by decide, mf_RX11_51, by decide, by decide⟩
theorem gX11_drinks_90 : u_gf cX11_drinks RX11 90 11 27 := ⟨63, RX11, TX11, 43, dX11_drinks_90, rfl, inlX11, by decide, mf_RX11_63, by decide, by decide⟩
theorem gX11_drinks_99 : u_gf cX11_drinks RX11 99 11 22 := ⟨51, RX11, TX11, 43, dX11_drinks_99, rfl, inlX11, by decide, mf_RX11_51, by decide, by decide⟩
theorem gX11_drinks_107 : u_gf cX11_drinks RX11 107 11 29 := ⟨69, RX11, TX11, 43, dX11_drinks_107, rfl, inlX11, by decide, mf_RX11_69, by decide, by decide⟩
theorem gX11_drinks_113 : u_gf cX11_drinks RX11 113 11 31 := ⟨75, RX11, TX11, 43, dX11_drinks_113, rfl, inlX11, by decide, mf_RX11_75, by decide, by decide⟩
theorem gX11_drinks_127 : u_gf cX11_drinks RX11 127 11 29 := ⟨69, RX11, TX11, 43, dX11_drinks_127, rfl, inlX11, by decide, mf_RX11_69, by decide, by decide⟩
theorem gX11_drinks_133 : u_gf cX11_drinks RX11 133 11 31 := ⟨75, RX11, TX11, 43, dX11_drinks_133, rfl, inlX11, by decide, mf_RX11_75, by decide, by decide⟩
theorem gX11_drinks_141 : u_gf cX11_drinks RX11 141 11 19 := ⟨42, RX11, TX11, 43, dX11_drinks_141, rfl, inlX11, by decide, mf_RX11_42, by decide, by decide⟩
theorem gX11_drinks_156 : u_gf cX11_drinks RX11 156 11 19 := ⟨42, RX11, TX11, 43, dX11_drinks_156, rfl, inlX11, by decide, mf_RX11_42, by decide, by decide⟩
theorem gX11_drinks_164 : u_gf cX11_drinks RX11 164 11 31 := ⟨75, RX11, TX11, 43, dX11_drinks_164, rfl, inlX11, by decide, mf_RX11_75, by decide, by decide⟩
theorem gX11_drinks_174 : u_gf cX11_drinks RX11 174 11 32 := ⟨78, RX11, TX11, 43, dX11_drinks_174, rfl, inlX11, by decide, mf_RX11_78, by decide, by decide⟩
theorem gX11_drinks_184 : u_gf cX11_drinks RX11 184 11 40 := ⟨99, RX11, TX11, 43, dX11_drinks_184, rfl, inlX11, by decide, mf_RX11_99, by decide, by decide⟩
theorem gX11_drinks_195 : u_gf cX11_drinks RX11 195 11 40 := ⟨99, RX11, TX11, 43, dX11_drinks_195, rfl, inlX11, by decide, mf_RX11_99, by decide, by decide⟩
theorem gX11_drinks_203 : u_gf cX11_drinks RX11 203 11 41 := ⟨159, RX11, TX11, 43, dX11_drinks_203, rfl, inlX11, by decide, mf_RX11_159, by decide, by decide⟩
theorem gX11_drinks_210 : u_gf cX11_drinks RX11 210 11 30 := ⟨72, RX11, TX11, 43, dX11_drinks_210, rfl, inlX11, by decide, mf_RX11_72, by decide, by decide⟩
theorem gX11_drinks_216 : u_gf cX11_drinks RX11 216 11 31 := ⟨75, RX11, TX11, 43, dX11_drinks_216, rfl, inlX11, by decide, mf_RX11_75, by decide, by decide⟩
theorem gX11_drinks_225 : u_gf cX11_drinks RX11 225 11 30 := ⟨72, RX11, TX11, 43, dX11_drinks_225, rfl, inlX11, by decide, mf_RX11_72, by decide, by decide⟩
theorem gX11_drinks_234 : u_gf cX11_drinks RX11 234 11 31 := ⟨75, RX11, TX11, 43, dX11_drinks_234, rfl, inlX11, by decide, mf_RX11_75, by decide, by decide⟩
theorem gX11_drinks_241 : u_gf cX11_drinks RX11 241 11 31 := ⟨75, RX11, TX11, 43, dX11_drinks_241, rfl, inlX11, by decide, mf_RX11_75, by decide, by decide⟩
theorem gX11_drinks_251 : u_gf cX11_drinks RX11 251 11 33 := ⟨81, RX11, TX11, 43, dX11_drinks_251, rfl, inlX11, by decide, mf_RX11_81, by decide, by decide⟩
theorem gX11_drinks_258 : u_gf cX11_drinks RX11 258 11 30 := ⟨72, RX11, TX11, 43, dX11_drinks_258, rfl, inlX11, by decide, mf_RX11_72, by decide, by decide⟩
theorem gX11_hour_2 : u_gf cX11_hour RX11 2 11 1 := ⟨120, RX11, TX11, 43, dX11_hour_2, rfl, inlX11, by decide, mf_RX11_120, by decide, by decide⟩
theorem gX11_hour_13 : u_gf cX11_hour RX11 13 11 16 := ⟨106, RX11, TX11, 43, dX11_hour_13, rfl, inlX11, by decide, mf_RX11_106, by decide, by decide⟩
theorem gX11_hour_20 : u_gf cX11_hour RX11 20 11 20 := ⟨45, RX11, TX11, 43, dX11_hour_20, rfl, inlX11, by decide, mf_RX11_45, by decide, by decide⟩
theorem ml_RX11_185 : Cond.methodLink RX11 185 yX11_isShutNow ∈ wsL_law := u_r24 _ (List.mem_of_getElem? (i := 15) rfl)
theorem ml_RX11_189 : Cond.methodLink RX11 189 yX11_closes ∈ wsL_law := u_r24 _ (List.mem_of_getElem? (i := 19) rfl)
theorem gX11_hour_47 : u_gf cX11_hour RX11 47 11 16 := ⟨106, RX11, TX11, 43, dX11_hour_47, rfl, inlX11, by decide, mf_RX11_106, by decide, by decide⟩
theorem ml_RX11_193 : Cond.methodLink RX11 193 yX11_mouth ∈ wsL_law := u_r25 _ (List.mem_of_getElem? (i := 0) rfl)
theorem gX11_hour_63 : u_gf cX11_hour RX11 63 11 22 := ⟨51, RX11, TX11, 43, dX11_hour_63, rfl, inlX11, by decide, mf_RX11_51, by decide, by decide⟩
theorem gX11_hour_67 : u_gf cX11_hour RX11 67 11 16 := ⟨106, RX11, TX11, 43, dX11_hour_67, rfl, inlX11, by decide, mf_RX11_106, by decide, by decide⟩
theorem gX11_hour_75 : u_gf cX11_hour RX11 75 11 8 := ⟨126, RX11, TX11, 43, dX11_hour_75, rfl, inlX11, by decide, mf_RX11_126, by decide, by decide⟩
theorem gX11_hour_81 : u_gf cX11_hour RX11 81 11 19 := ⟨42, RX11, TX11, 43, dX11_hour_81, rfl, inlX11, by decide, mf_RX11_42, by decide, by decide⟩
theorem gX11_hour_85 : u_gf cX11_hour RX11 85 11 16 := ⟨106, RX11, TX11, 43, dX11_hour_85, rfl, inlX11, by decide, mf_RX11_106, by decide, by decide⟩
theorem gX11_hour_93 : u_gf cX11_hour RX11 93 11 9 := ⟨129, RX11, TX11, 43, dX11_hour_93, rfl, inlX11, by decide, mf_RX11_129, by decide, by decide⟩
theorem gX11_hour_99 : u_gf cX11_hour RX11 99 11 40 := ⟨99, RX11, TX11, 43, dX11_hour_99, rfl, inlX11, by decide, mf_RX11_99, by decide, by decide⟩
theorem gX11_hour_106 : u_gf cX11_hour RX11 106 11 8 := ⟨126, RX11, TX11, 43, dX11_hour_106, rfl, inlX11, by decide, mf_RX11_126, by decide, by decide⟩
theorem gX11_hour_113 : u_gf cX11_hour RX11 113 11 40 := ⟨99, RX11, TX11, 43, dX11_hour_113, rfl, inlX11, by decide, mf_RX11_99, by decide, by decide⟩
theorem gX11_hour_121 : u_gf cX11_hour RX11 121 11 9 := ⟨129, RX11, TX11, 43, dX11_hour_121, rfl, inlX11, by decide, mf_RX11_129, by decide, by decide⟩
theorem gX11_hour_133 : u_gf cX11_hour RX11 133 11 16 := ⟨106, RX11, TX11, 43, dX11_hour_133, rfl, inlX11, by decide, mf_RX11_106, by decide, by decide⟩
theorem ml_RX11_196 : Cond.methodLink RX11 196 yX11_neighbours ∈ wsL_law := u_r25 _ (List.mem_of_getElem? (i := 21) rfl)
theorem gX11_hour_154 : u_gf cX11_hour RX11 154 11 16 := ⟨106, RX11, TX11, 43, dX11_hour_154, rfl, inlX11, by decide, mf_RX11_106, by decide, by decide⟩
theorem ml_RX11_199 : Cond.methodLink RX11 199 yX11_mixes ∈ wsL_law := u_r26 _ (List.mem_of_getElem? (i := 9) rfl)
theorem gX11_hour_175 : u_gf cX11_hour RX11 175 11 16 := ⟨106, RX11, TX11, 43, dX11_hour_175, rfl, inlX11, by decide, mf_RX11_106, by decide, by decide⟩
theorem ml_RX11_202 : Cond.methodLink RX11 202 yX11_settles ∈ wsL_law := u_r26 _ (List.mem_of_getElem? (i := 13) rfl)
theorem gX11_hour_196 : u_gf cX11_hour RX11 196 11 25 := ⟨142, RX11, TX11, 43, dX11_hour_196, rfl, inlX11, by decide, mf_RX11_142, by decide, by decide⟩
theorem ml_RX11_205 : Cond.methodLink RX11 205 yX11_drinks ∈ wsL_law := u_r26 _ (List.mem_of_getElem? (i := 17) rfl)
theorem gX11_hour_217 : u_gf cX11_hour RX11 217 11 16 := ⟨106, RX11, TX11, 43, dX11_hour_217, rfl, inlX11, by decide, mf_RX11_106, by decide, by decide⟩
theorem gX11_hour_224 : u_gf cX11_hour RX11 224 11 24 := ⟨57, RX11, TX11, 43, dX11_hour_224, rfl, inlX11, by decide, mf_RX11_57, by decide, by decide⟩
theorem gX11_hour_233 : u_gf cX11_hour RX11 233 11 1 := ⟨120, RX11, TX11, 43, dX11_hour_233, rfl, inlX11, by decide, mf_RX11_120, by decide, by decide⟩
theorem gX11_hour_251 : u_gf cX11_hour RX11 251 11 7 := ⟨20, RX11, TX11, 43, dX11_hour_251, rfl, inlX11, by decide, mf_RX11_20, by decide, by decide⟩
theorem gX11_hour_255 : u_gf cX11_hour RX11 255 11 1 := ⟨120, RX11, TX11, 43, dX11_hour_255, rfl, inlX11, by decide, mf_RX11_120, by decide, by decide⟩
theorem gX11_hour_262 : u_gf cX11_hour RX11 262 11 1 := ⟨120, RX11, TX11, 43, dX11_hour_262, rfl, inlX11, by decide, mf_RX11_120, by decide, by decide⟩
theorem pX11_hour_267 : u_pf cX11_hour RX11 267 11 1 false (.int) := ⟨120, RX11, TX11, 43, tyX11, dX11_hour_267, rfl, inlX11, tyX11_ok, nmX11, by decide, mf_RX11_120, by decide, by decide, rfl, by decide +kernel, fun h => nomatch h⟩
theorem gX11_pass_16 : u_gf cX11_pass RX11 16 11 1 := ⟨120, RX11, TX11, 43, dX11_pass_16, rfl, inlX11, by decide, mf_RX11_120, by decide, by decide⟩
theorem ml_RX11_208 : Cond.methodLink RX11 208 yX11_hour ∈ wsL_law := u_r24 _ (List.mem_of_getElem? (i := 3) rfl)
theorem gX11_pass_58 : u_gf cX11_pass RX11 58 11 1 := ⟨120, RX11, TX11, 43, dX11_pass_58, rfl, inlX11, by decide, mf_RX11_120, by decide, by decide⟩
theorem pX11_now_2 : u_pf cX11_now RX11 2 11 0 false (.int) := ⟨103, RX11, TX11, 43, tyX11, dX11_now_2, rfl, inlX11, tyX11_ok, nmX11, by decide, mf_RX11_103, by decide, by decide, rfl, by decide +kernel, fun h => nomatch h⟩
theorem gX11_now_6 : u_gf cX11_now RX11 6 11 1 := ⟨120, RX11, TX11, 43, dX11_now_6, rfl, inlX11, by decide, mf_RX11_120, by decide, by decide⟩
theorem gX11_ofSection_62 : u_gf cX11_ofSection RX11 62 11 22 := ⟨51, RX11, TX11, 43, dX11_ofSection_62, rfl, inlX11, by decide, mf_RX11_51, by decide, by decide⟩
theorem gX11_ofSection_71 : u_gf cX11_ofSection RX11 71 11 23 := ⟨54, RX11, TX11, 43, dX11_ofSection_71, rfl, inlX11, by decide, mf_RX11_54, by decide, by decide⟩
theorem gX11_ofSection_89 : u_gf cX11_ofSection RX11 89 11 19 := ⟨42, RX11, TX11, 43, dX11_ofSection_89, rfl, inlX11, by decide, mf_RX11_42, by decide, by decide⟩
theorem gX11_ofSection_103 : u_gf cX11_ofSection RX11 103 11 18 := ⟨39, RX11, TX11, 43, dX11_ofSection_103, rfl, inlX11, by decide, mf_RX11_39, by decide, by decide⟩
theorem gX11_ofSection_124 : u_gf cX11_ofSection RX11 124 11 20 := ⟨45, RX11, TX11, 43, dX11_ofSection_124, rfl, inlX11, by decide, mf_RX11_45, by decide, by decide⟩
theorem ml_RX11_211 : Cond.methodLink RX11 211 yX11_ofSection ∈ wsL_law := u_r29 _ (List.mem_of_getElem? (i := 17) rfl)
theorem gX11_ofIntake_4 : u_gf cX11_ofIntake RX11 4 11 25 := ⟨142, RX11, TX11, 43, dX11_ofIntake_4, rfl, inlX11, by decide, mf_RX11_142, by decide, by decide⟩
theorem gX11_ofIntake_51 : u_gf cX11_ofIntake RX11 51 11 31 := ⟨75, RX11, TX11, 43, dX11_ofIntake_51, rfl, inlX11, by decide, mf_RX11_75, by decide, by decide⟩
theorem gX11_ofIntake_65 : u_gf cX11_ofIntake RX11 65 11 32 := ⟨78, RX11, TX11, 43, dX11_ofIntake_65, rfl, inlX11, by decide, mf_RX11_78, by decide, by decide⟩
theorem gX11_ofIntake_74 : u_gf cX11_ofIntake RX11 74 11 33 := ⟨81, RX11, TX11, 43, dX11_ofIntake_74, rfl, inlX11, by decide, mf_RX11_81, by decide, by decide⟩
theorem gX11_ofIntake_86 : u_gf cX11_ofIntake RX11 86 11 34 := ⟨84, RX11, TX11, 43, dX11_ofIntake_86, rfl, inlX11, by decide, mf_RX11_84, by decide, by decide⟩
theorem gX11_ofIntake_95 : u_gf cX11_ofIntake RX11 95 11 35 := ⟨87, RX11, TX11, 43, dX11_ofIntake_95, rfl, inlX11, by decide, mf_RX11_87, by decide, by decide⟩
theorem gX11_isClosed_4 : u_gf cX11_isClosed RX11 4 11 36 := ⟨145, RX11, TX11, 43, dX11_isClosed_4, rfl, inlX11, by decide, mf_RX11_145, by decide, by decide⟩
theorem gX11_isClosed_31 : u_gf cX11_isClosed RX11 31 11 1 := ⟨120, RX11, TX11, 43, dX11_isClosed_31, rfl, inlX11, by decide, mf_RX11_120, by decide, by decide⟩
theorem gX11_isClosed_35 : u_gf cX11_isClosed RX11 35 11 39 := ⟨96, RX11, TX11, 43, dX11_isClosed_35, rfl, inlX11, by decide, mf_RX11_96, by decide, by decide⟩
theorem gX11_isClosed_44 : u_gf cX11_isClosed RX11 44 11 1 := ⟨120, RX11, TX11, 43, dX11_isClosed_44, rfl, inlX11, by decide, mf_RX11_120, by decide, by decide⟩
theorem gX11_isClosed_59 : u_gf cX11_isClosed RX11 59 11 24 := ⟨57, RX11, TX11, 43, dX11_isClosed_59, rfl, inlX11, by decide, mf_RX11_57, by decide, by decide⟩
theorem gX11_isClosed_66 : u_gf cX11_isClosed RX11 66 11 37 := ⟨90, RX11, TX11, 43, dX11_isClosed_66, rfl, inlX11, by decide, mf_RX11_90, by decide, by decide⟩
theorem gX11_isClosed_76 : u_gf cX11_isClosed RX11 76 11 38 := ⟨93, RX11, TX11, 43, dX11_isClosed_76, rfl, inlX11, by decide, mf_RX11_93, by decide, by decide⟩
theorem pX11_closures_2 : u_pf cX11_closures RX11 2 11 0 false (.int) := ⟨103, RX11, TX11, 43, tyX11, dX11_closures_2, rfl, inlX11, tyX11_ok, nmX11, by decide, mf_RX11_103, by decide, by decide, rfl, by decide +kernel, fun h => nomatch h⟩
theorem gX11_closures_6 : u_gf cX11_closures RX11 6 11 12 := ⟨172, RX11, TX11, 43, dX11_closures_6, rfl, inlX11, by decide, mf_RX11_172, by decide, by decide⟩
theorem gX11_closure_4 : u_gf cX11_closure RX11 4 11 12 := ⟨172, RX11, TX11, 43, dX11_closure_4, rfl, inlX11, by decide, mf_RX11_172, by decide, by decide⟩
theorem gX11_closure_46 : u_gf cX11_closure RX11 46 11 13 := ⟨26, RX11, TX11, 43, dX11_closure_46, rfl, inlX11, by decide, mf_RX11_26, by decide, by decide⟩
theorem gX11_closure_60 : u_gf cX11_closure RX11 60 11 14 := ⟨29, RX11, TX11, 43, dX11_closure_60, rfl, inlX11, by decide, mf_RX11_29, by decide, by decide⟩
theorem gX11_closure_69 : u_gf cX11_closure RX11 69 11 15 := ⟨32, RX11, TX11, 43, dX11_closure_69, rfl, inlX11, by decide, mf_RX11_32, by decide, by decide⟩
theorem gX11_intrusion_28 : u_gf cX11_intrusion RX11 28 11 16 := ⟨106, RX11, TX11, 43, dX11_intrusion_28, rfl, inlX11, by decide, mf_RX11_106, by decide, by decide⟩
theorem gX11_window_37 : u_gf cX11_window RX11 37 11 16 := ⟨106, RX11, TX11, 43, dX11_window_37, rfl, inlX11, by decide, mf_RX11_106, by decide, by decide⟩
theorem gX11_window_60 : u_gf cX11_window RX11 60 11 1 := ⟨120, RX11, TX11, 43, dX11_window_60, rfl, inlX11, by decide, mf_RX11_120, by decide, by decide⟩
theorem gX11_window_68 : u_gf cX11_window RX11 68 11 1 := ⟨120, RX11, TX11, 43, dX11_window_68, rfl, inlX11, by decide, mf_RX11_120, by decide, by decide⟩
theorem gX11_sum_23 : u_gf cX11_sum RX11 23 11 40 := ⟨99, RX11, TX11, 43, dX11_sum_23, rfl, inlX11, by decide, mf_RX11_99, by decide, by decide⟩
