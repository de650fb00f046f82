theorem wm_max : Cond.static Lib.Math.max.name ∈ wsL_law ∧ Cond.initialized "java/lang/Math" ∈ wsL_law ∧ Cond.code Lib.Math.max.name Lib.Math.max.code 2 (some .int) ∈ wsL_law := ⟨u_r21 _ (List.mem_of_getElem? (i := 9) rfl), u_r14 _ (List.mem_of_getElem? (i := 18) rfl), u_r21 _ (List.mem_of_getElem? (i := 10) rfl)⟩
theorem wm_min : Cond.static Lib.Math.min.name ∈ wsL_law ∧ Cond.initialized "java/lang/Math" ∈ wsL_law ∧ Cond.code Lib.Math.min.name Lib.Math.min.code 2 (some .int) ∈ wsL_law := ⟨u_r14 _ (List.mem_of_getElem? (i := 17) rfl), u_r14 _ (List.mem_of_getElem? (i := 18) rfl), u_r14 _ (List.mem_of_getElem? (i := 19) rfl)⟩
theorem wi_RX0 : Cond.initialized RX0 ∈ wsL_law := u_r2 _ (List.mem_of_getElem? (i := 9) rfl)
theorem wc_X0_init : Cond.code yX0_init cX0_init 1 none ∈ wsL_law := u_r3 _ (List.mem_of_getElem? (i := 18) rfl)
theorem e_X0_init : u_me yX0_init cX0_init 1 none 0 := ⟨⟨by decide, by decide, by decide +kernel⟩, wi_RX0, wc_X0_init⟩
theorem wv_X0_init : Cond.instanceMethod yX0_init ∈ wsL_law := u_r3 _ (List.mem_of_getElem? (i := 17) rfl)
theorem wc_X0_begin : Cond.code yX0_begin cX0_begin 1 none ∈ wsL_law := u_r22 _ (List.mem_of_getElem? (i := 17) rfl)
theorem e_X0_begin : u_me yX0_begin cX0_begin 1 none 0 := ⟨⟨by decide, by decide, by decide +kernel⟩, wi_RX0, wc_X0_begin⟩
theorem wv_X0_begin : Cond.instanceMethod yX0_begin ∈ wsL_law := u_r22 _ (List.mem_of_getElem? (i := 15) rfl)
theorem wl_X0_begin : Cond.selects RX0 yX0_begin yX0_begin ∈ wsL_law := u_r22 _ (List.mem_of_getElem? (i := 16) rfl)
theorem ev_X0_begin : u_mev yX0_begin cX0_begin 1 none 0 := ⟨e_X0_begin, wv_X0_begin, wl_X0_begin⟩
theorem wc_X0_look : Cond.code yX0_look cX0_look 5 none ∈ wsL_law := u_r15 _ (List.mem_of_getElem? (i := 5) rfl)
theorem e_X0_look : u_me yX0_look cX0_look 5 none 2 := ⟨⟨by decide, by decide, by decide +kernel⟩, wi_RX0, wc_X0_look⟩
theorem wv_X0_look : Cond.instanceMethod yX0_look ∈ wsL_law := u_r15 _ (List.mem_of_getElem? (i := 3) rfl)
theorem wl_X0_look : Cond.selects RX0 yX0_look yX0_look ∈ wsL_law := u_r15 _ (List.mem_of_getElem? (i := 4) rfl)
theorem ev_X0_look : u_mev yX0_look cX0_look 5 none 2 := ⟨e_X0_look, wv_X0_look, wl_X0_look⟩
theorem wc_X0_answer : Cond.code yX0_answer cX0_answer 3 (some .int) ∈ wsL_law := u_r23 _ (List.mem_of_getElem? (i := 8) rfl)
theorem e_X0_answer : u_me yX0_answer cX0_answer 3 (some .int) 2 := ⟨⟨by decide, by decide, by decide +kernel⟩, wi_RX0, wc_X0_answer⟩
theorem wv_X0_answer : Cond.instanceMethod yX0_answer ∈ wsL_law := u_r23 _ (List.mem_of_getElem? (i := 6) rfl)
theorem wl_X0_answer : Cond.selects RX0 yX0_answer yX0_answer ∈ wsL_law := u_r23 _ (List.mem_of_getElem? (i := 7) rfl)
theorem ev_X0_answer : u_mev yX0_answer cX0_answer 3 (some .int) 2 := ⟨e_X0_answer, wv_X0_answer, wl_X0_answer⟩
theorem wi_RX1 : Cond.initialized RX1 ∈ wsL_law := u_r2 _ (List.mem_of_getElem? (i := 20) rfl)
theorem wc_X1_init : Cond.code yX1_init cX1_init 1 none ∈ wsL_law := u_r4 _ (List.mem_of_getElem? (i := 15) rfl)
theorem e_X1_init : u_me yX1_init cX1_init 1 none 0 := ⟨⟨by decide, by decide, by decide +kernel⟩, wi_RX1, wc_X1_init⟩
theorem wv_X1_init : Cond.instanceMethod yX1_init ∈ wsL_law := u_r4 _ (List.mem_of_getElem? (i := 14) rfl)
theorem wc_X1_begin : Cond.code yX1_begin cX1_begin 6 none ∈ wsL_law := u_r10 _ (List.mem_of_getElem? (i := 16) rfl)
theorem e_X1_begin : u_me yX1_begin cX1_begin 6 none 5 := ⟨⟨by decide, by decide, by decide +kernel⟩, wi_RX1, wc_X1_begin⟩
theorem wv_X1_begin : Cond.instanceMethod yX1_begin ∈ wsL_law := u_r10 _ (List.mem_of_getElem? (i := 14) rfl)
theorem wl_X1_begin : Cond.selects RX1 yX1_begin yX1_begin ∈ wsL_law := u_r10 _ (List.mem_of_getElem? (i := 15) rfl)
theorem ev_X1_begin : u_mev yX1_begin cX1_begin 6 none 5 := ⟨e_X1_begin, wv_X1_begin, wl_X1_begin⟩
theorem wc_X1_take : Cond.code yX1_take cX1_take 5 none ∈ wsL_law := u_r18 _ (List.mem_of_getElem? (i := 8) rfl)
theorem e_X1_take : u_me yX1_take cX1_take 5 none 2 := ⟨⟨by decide, by decide, by decide +kernel⟩, wi_RX1, wc_X1_take⟩
theorem wv_X1_take : Cond.instanceMethod yX1_take ∈ wsL_law := u_r18 _ (List.mem_of_getElem? (i := 6) rfl)
theorem wl_X1_take : Cond.selects RX1 yX1_take yX1_take ∈ wsL_law := u_r18 _ (List.mem_of_getElem? (i := 7) rfl)
theorem ev_X1_take : u_mev yX1_take cX1_take 5 none 2 := ⟨e_X1_take, wv_X1_take, wl_X1_take⟩
theorem wc_X1_supply : Cond.code yX1_supply cX1_supply 2 none ∈ wsL_law := u_r18 _ (List.mem_of_getElem? (i := 16) rfl)
theorem e_X1_supply : u_me yX1_supply cX1_supply 2 none 0 := ⟨⟨by decide, by decide, by decide +kernel⟩, wi_RX1, wc_X1_supply⟩
theorem wv_X1_supply : Cond.instanceMethod yX1_supply ∈ wsL_law := u_r18 _ (List.mem_of_getElem? (i := 14) rfl)
theorem wl_X1_supply : Cond.selects RX1 yX1_supply yX1_supply ∈ wsL_law := u_r18 _ (List.mem_of_getElem? (i := 15) rfl)
theorem ev_X1_supply : u_mev yX1_supply cX1_supply 2 none 0 := ⟨e_X1_supply, wv_X1_supply, wl_X1_supply⟩
theorem wc_X1_answer : Cond.code yX1_answer cX1_answer 2 (some .int) ∈ wsL_law := u_r20 _ (List.mem_of_getElem? (i := 12) rfl)
theorem e_X1_answer : u_me yX1_answer cX1_answer 2 (some .int) 1 := ⟨⟨by decide, by decide, by decide +kernel⟩, wi_RX1, wc_X1_answer⟩
theorem wv_X1_answer : Cond.instanceMethod yX1_answer ∈ wsL_law := u_r20 _ (List.mem_of_getElem? (i := 10) rfl)
theorem wl_X1_answer : Cond.selects RX1 yX1_answer yX1_answer ∈ wsL_law := u_r20 _ (List.mem_of_getElem? (i := 11) rfl)
theorem ev_X1_answer : u_mev yX1_answer cX1_answer 2 (some .int) 1 := ⟨e_X1_answer, wv_X1_answer, wl_X1_answer⟩
theorem wi_RX2 : Cond.initialized RX2 ∈ wsL_law := u_r4 _ (List.mem_of_getElem? (i := 6) rfl)
theorem wc_X2_init : Cond.code yX2_init cX2_init 1 none ∈ wsL_law := u_r4 _ (List.mem_of_getElem? (i := 12) rfl)
theorem e_X2_init : u_me yX2_init cX2_init 1 none 0 := ⟨⟨by decide, by decide, by decide +kernel⟩, wi_RX2, wc_X2_init⟩
theorem wv_X2_init : Cond.instanceMethod yX2_init ∈ wsL_law := u_r4 _ (List.mem_of_getElem? (i := 11) rfl)
theorem wc_X2_begin : Cond.code yX2_begin cX2_begin 2 none ∈ wsL_law := u_r10 _ (List.mem_of_getElem? (i := 7) rfl)
theorem e_X2_begin : u_me yX2_begin cX2_begin 2 none 1 := ⟨⟨by decide, by decide, by decide +kernel⟩, wi_RX2, wc_X2_begin⟩
theorem wv_X2_begin : Cond.instanceMethod yX2_begin ∈ wsL_law := u_r10 _ (List.mem_of_getElem? (i := 5) rfl)
theorem wl_X2_begin : Cond.selects RX2 yX2_begin yX2_begin ∈ wsL_law := u_r10 _ (List.mem_of_getElem? (i := 6) rfl)
theorem ev_X2_begin : u_mev yX2_begin cX2_begin 2 none 1 := ⟨e_X2_begin, wv_X2_begin, wl_X2_begin⟩
theorem wc_X2_salinity : Cond.code yX2_salinity cX2_salinity 1 (some .int) ∈ wsL_law := u_r7 _ (List.mem_of_getElem? (i := 5) rfl)
theorem e_X2_salinity : u_me yX2_salinity cX2_salinity 1 (some .int) 0 := ⟨⟨by decide, by decide, by decide +kernel⟩, wi_RX2, wc_X2_salinity⟩
theorem wv_X2_salinity : Cond.instanceMethod yX2_salinity ∈ wsL_law := u_r7 _ (List.mem_of_getElem? (i := 3) rfl)
theorem wl_X2_salinity : Cond.selects RX2 yX2_salinity yX2_salinity ∈ wsL_law := u_r7 _ (List.mem_of_getElem? (i := 4) rfl)
theorem ev_X2_salinity : u_mev yX2_salinity cX2_salinity 1 (some .int) 0 := ⟨e_X2_salinity, wv_X2_salinity, wl_X2_salinity⟩
theorem wc_X2_saltWith : Cond.code yX2_saltWith cX2_saltWith 2 (some .int) ∈ wsL_law := u_r17 _ (List.mem_of_getElem? (i := 19) rfl)
theorem e_X2_saltWith : u_me yX2_saltWith cX2_saltWith 2 (some .int) 1 := ⟨⟨by decide, by decide, by decide +kernel⟩, wi_RX2, wc_X2_saltWith⟩
theorem wv_X2_saltWith : Cond.instanceMethod yX2_saltWith ∈ wsL_law := u_r17 _ (List.mem_of_getElem? (i := 17) rfl)
theorem wl_X2_saltWith : Cond.selects RX2 yX2_saltWith yX2_saltWith ∈ wsL_law := u_r17 _ (List.mem_of_getElem? (i := 18) rfl)
theorem ev_X2_saltWith : u_mev yX2_saltWith cX2_saltWith 2 (some .int) 1 := ⟨e_X2_saltWith, wv_X2_saltWith, wl_X2_saltWith⟩
theorem wc_X2_giveOut : Cond.code yX2_giveOut cX2_giveOut 3 (some .int) ∈ wsL_law := u_r16 _ (List.mem_of_getElem? (i := 13) rfl)
theorem e_X2_giveOut : u_me yX2_giveOut cX2_giveOut 3 (some .int) 1 := ⟨⟨by decide, by decide, by decide +kernel⟩, wi_RX2, wc_X2_giveOut⟩
theorem wv_X2_giveOut : Cond.instanceMethod yX2_giveOut ∈ wsL_law := u_r16 _ (List.mem_of_getElem? (i := 11) rfl)
theorem wl_X2_giveOut : Cond.selects RX2 yX2_giveOut yX2_giveOut ∈ wsL_law := u_r16 _ (List.mem_of_getElem? (i := 12) rfl)
theorem ev_X2_giveOut : u_mev yX2_giveOut cX2_giveOut 3 (some .int) 1 := ⟨e_X2_giveOut, wv_X2_giveOut, wl_X2_giveOut⟩
theorem wc_X2_takeIn : Cond.code yX2_takeIn cX2_takeIn 3 none ∈ wsL_law := u_r16 _ (List.mem_of_getElem? (i := 3) rfl)
theorem e_X2_takeIn : u_me yX2_takeIn cX2_takeIn 3 none 2 := ⟨⟨by decide, by decide, by decide +kernel⟩, wi_RX2, wc_X2_takeIn⟩
theorem wv_X2_takeIn : Cond.instanceMethod yX2_takeIn ∈ wsL_law := u_r16 _ (List.mem_of_getElem? (i := 1) rfl)
theorem wl_X2_takeIn : Cond.selects RX2 yX2_takeIn yX2_takeIn ∈ wsL_law := u_r16 _ (List.mem_of_getElem? (i := 2) rfl)
theorem ev_X2_takeIn : u_mev yX2_takeIn cX2_takeIn 3 none 2 := ⟨e_X2_takeIn, wv_X2_takeIn, wl_X2_takeIn⟩
theorem wi_RX3 : Cond.initialized RX3 ∈ wsL_law := u_r1 _ (List.mem_of_getElem? (i := 12) rfl)
theorem wc_X3_init : Cond.code yX3_init cX3_init 2 none ∈ wsL_law := u_r2 _ (List.mem_of_getElem? (i := 1) rfl)
theorem e_X3_init : u_me yX3_init cX3_init 2 none 0 := ⟨⟨by decide, by decide, by decide +kernel⟩, wi_RX3, wc_X3_init⟩
theorem wv_X3_init : Cond.instanceMethod yX3_init ∈ wsL_law := u_r2 _ (List.mem_of_getElem? (i := 0) rfl)
theorem wc_X3_begin : Cond.code yX3_begin cX3_begin 2 none ∈ wsL_law := u_r22 _ (List.mem_of_getElem? (i := 9) rfl)
theorem e_X3_begin : u_me yX3_begin cX3_begin 2 none 0 := ⟨⟨by decide, by decide, by decide +kernel⟩, wi_RX3, wc_X3_begin⟩
theorem wv_X3_begin : Cond.instanceMethod yX3_begin ∈ wsL_law := u_r22 _ (List.mem_of_getElem? (i := 7) rfl)
theorem wl_X3_begin : Cond.selects RX3 yX3_begin yX3_begin ∈ wsL_law := u_r22 _ (List.mem_of_getElem? (i := 8) rfl)
theorem ev_X3_begin : u_mev yX3_begin cX3_begin 2 none 0 := ⟨e_X3_begin, wv_X3_begin, wl_X3_begin⟩
theorem wc_X3_hasSection : Cond.code yX3_hasSection cX3_hasSection 2 (some .boolean) ∈ wsL_law := u_r11 _ (List.mem_of_getElem? (i := 11) rfl)
theorem e_X3_hasSection : u_me yX3_hasSection cX3_hasSection 2 (some .boolean) 1 := ⟨⟨by decide, by decide, by decide +kernel⟩, wi_RX3, wc_X3_hasSection⟩
theorem wv_X3_hasSection : Cond.instanceMethod yX3_hasSection ∈ wsL_law := u_r11 _ (List.mem_of_getElem? (i := 9) rfl)
theorem wl_X3_hasSection : Cond.selects RX3 yX3_hasSection yX3_hasSection ∈ wsL_law := u_r11 _ (List.mem_of_getElem? (i := 10) rfl)
theorem ev_X3_hasSection : u_mev yX3_hasSection cX3_hasSection 2 (some .boolean) 1 := ⟨e_X3_hasSection, wv_X3_hasSection, wl_X3_hasSection⟩
theorem wc_X3_hear : Cond.code yX3_hear cX3_hear 7 none ∈ wsL_law := u_r8 _ (List.mem_of_getElem? (i := 21) rfl)
theorem e_X3_hear : u_me yX3_hear cX3_hear 7 none 6 := ⟨⟨by decide, by decide, by decide +kernel⟩, wi_RX3, wc_X3_hear⟩
theorem wv_X3_hear : Cond.instanceMethod yX3_hear ∈ wsL_law := u_r8 _ (List.mem_of_getElem? (i := 19) rfl)
theorem wl_X3_hear : Cond.selects RX3 yX3_hear yX3_hear ∈ wsL_law := u_r8 _ (List.mem_of_getElem? (i := 20) rfl)
theorem ev_X3_hear : u_mev yX3_hear cX3_hear 7 none 6 := ⟨e_X3_hear, wv_X3_hear, wl_X3_hear⟩
theorem wc_X3_addSection : Cond.code yX3_addSection cX3_addSection 5 none ∈ wsL_law := u_r9 _ (List.mem_of_getElem? (i := 18) rfl)
theorem e_X3_addSection : u_me yX3_addSection cX3_addSection 5 none 4 := ⟨⟨by decide, by decide, by decide +kernel⟩, wi_RX3, wc_X3_addSection⟩
theorem wv_X3_addSection : Cond.instanceMethod yX3_addSection ∈ wsL_law := u_r9 _ (List.mem_of_getElem? (i := 16) rfl)
theorem wl_X3_addSection : Cond.selects RX3 yX3_addSection yX3_addSection ∈ wsL_law := u_r9 _ (List.mem_of_getElem? (i := 17) rfl)
theorem ev_X3_addSection : u_mev yX3_addSection cX3_addSection 5 none 4 := ⟨e_X3_addSection, wv_X3_addSection, wl_X3_addSection⟩
theorem wc_X3_addIntake : Cond.code yX3_addIntake cX3_addIntake 6 none ∈ wsL_law := u_r10 _ (List.mem_of_getElem? (i := 11) rfl)
theorem e_X3_addIntake : u_me yX3_addIntake cX3_addIntake 6 none 5 := ⟨⟨by decide, by decide, by decide +kernel⟩, wi_RX3, wc_X3_addIntake⟩
theorem wv_X3_addIntake : Cond.instanceMethod yX3_addIntake ∈ wsL_law := u_r10 _ (List.mem_of_getElem? (i := 9) rfl)
theorem wl_X3_addIntake : Cond.selects RX3 yX3_addIntake yX3_addIntake ∈ wsL_law := u_r10 _ (List.mem_of_getElem? (i := 10) rfl)
theorem ev_X3_addIntake : u_mev yX3_addIntake cX3_addIntake 6 none 5 := ⟨e_X3_addIntake, wv_X3_addIntake, wl_X3_addIntake⟩
theorem wc_X3_setPermit : Cond.code yX3_setPermit cX3_setPermit 3 none ∈ wsL_law := u_r11 _ (List.mem_of_getElem? (i := 6) rfl)
theorem e_X3_setPermit : u_me yX3_setPermit cX3_setPermit 3 none 2 := ⟨⟨by decide, by decide, by decide +kernel⟩, wi_RX3, wc_X3_setPermit⟩
theorem wv_X3_setPermit : Cond.instanceMethod yX3_setPermit ∈ wsL_law := u_r11 _ (List.mem_of_getElem? (i := 4) rfl)
theorem wl_X3_setPermit : Cond.selects RX3 yX3_setPermit yX3_setPermit ∈ wsL_law := u_r11 _ (List.mem_of_getElem? (i := 5) rfl)
theorem ev_X3_setPermit : u_mev yX3_setPermit cX3_setPermit 3 none 2 := ⟨e_X3_setPermit, wv_X3_setPermit, wl_X3_setPermit⟩
theorem wc_X3_moveMud : Cond.code yX3_moveMud cX3_moveMud 4 none ∈ wsL_law := u_r11 _ (List.mem_of_getElem? (i := 15) rfl)
theorem e_X3_moveMud : u_me yX3_moveMud cX3_moveMud 4 none 3 := ⟨⟨by decide, by decide, by decide +kernel⟩, wi_RX3, wc_X3_moveMud⟩
theorem wv_X3_moveMud : Cond.instanceMethod yX3_moveMud ∈ wsL_law := u_r11 _ (List.mem_of_getElem? (i := 13) rfl)
theorem wl_X3_moveMud : Cond.selects RX3 yX3_moveMud yX3_moveMud ∈ wsL_law := u_r11 _ (List.mem_of_getElem? (i := 14) rfl)
theorem ev_X3_moveMud : u_mev yX3_moveMud cX3_moveMud 4 none 3 := ⟨e_X3_moveMud, wv_X3_moveMud, wl_X3_moveMud⟩
theorem wc_X3_seaOf : Cond.code yX3_seaOf cX3_seaOf 2 (some .int) ∈ wsL_law := u_r5 _ (List.mem_of_getElem? (i := 17) rfl)
theorem e_X3_seaOf : u_me yX3_seaOf cX3_seaOf 2 (some .int) 1 := ⟨⟨by decide, by decide, by decide +kernel⟩, wi_RX3, wc_X3_seaOf⟩
theorem wv_X3_seaOf : Cond.instanceMethod yX3_seaOf ∈ wsL_law := u_r5 _ (List.mem_of_getElem? (i := 15) rfl)
theorem wl_X3_seaOf : Cond.selects RX3 yX3_seaOf yX3_seaOf ∈ wsL_law := u_r5 _ (List.mem_of_getElem? (i := 16) rfl)
theorem ev_X3_seaOf : u_mev yX3_seaOf cX3_seaOf 2 (some .int) 1 := ⟨e_X3_seaOf, wv_X3_seaOf, wl_X3_seaOf⟩
theorem wc_X3_firstHourAt : Cond.code yX3_firstHourAt cX3_firstHourAt 5 (some .int) ∈ wsL_law := u_r14 _ (List.mem_of_getElem? (i := 7) rfl)
theorem e_X3_firstHourAt : u_me yX3_firstHourAt cX3_firstHourAt 5 (some .int) 2 := ⟨⟨by decide, by decide, by decide +kernel⟩, wi_RX3, wc_X3_firstHourAt⟩
theorem wv_X3_firstHourAt : Cond.instanceMethod yX3_firstHourAt ∈ wsL_law := u_r14 _ (List.mem_of_getElem? (i := 5) rfl)
theorem wl_X3_firstHourAt : Cond.selects RX3 yX3_firstHourAt yX3_firstHourAt ∈ wsL_law := u_r14 _ (List.mem_of_getElem? (i := 6) rfl)
theorem ev_X3_firstHourAt : u_mev yX3_firstHourAt cX3_firstHourAt 5 (some .int) 2 := ⟨e_X3_firstHourAt, wv_X3_firstHourAt, wl_X3_firstHourAt⟩
theorem wc_X3_goOnTo : Cond.code yX3_goOnTo cX3_goOnTo 4 none ∈ wsL_law := u_r14 _ (List.mem_of_getElem? (i := 15) rfl)
theorem e_X3_goOnTo : u_me yX3_goOnTo cX3_goOnTo 4 none 1 := ⟨⟨by decide, by decide, by decide +kernel⟩, wi_RX3, wc_X3_goOnTo⟩
theorem wv_X3_goOnTo : Cond.instanceMethod yX3_goOnTo ∈ wsL_law := u_r14 _ (List.mem_of_getElem? (i := 13) rfl)
theorem wl_X3_goOnTo : Cond.selects RX3 yX3_goOnTo yX3_goOnTo ∈ wsL_law := u_r14 _ (List.mem_of_getElem? (i := 14) rfl)
theorem ev_X3_goOnTo : u_mev yX3_goOnTo cX3_goOnTo 4 none 1 := ⟨e_X3_goOnTo, wv_X3_goOnTo, wl_X3_goOnTo⟩
theorem wc_X3_letHourGoBy : Cond.code yX3_letHourGoBy cX3_letHourGoBy 3 none ∈ wsL_law := u_r14 _ (List.mem_of_getElem? (i := 23) rfl)
theorem e_X3_letHourGoBy : u_me yX3_letHourGoBy cX3_letHourGoBy 3 none 0 := ⟨⟨by decide, by decide, by decide +kernel⟩, wi_RX3, wc_X3_letHourGoBy⟩
theorem wv_X3_letHourGoBy : Cond.instanceMethod yX3_letHourGoBy ∈ wsL_law := u_r14 _ (List.mem_of_getElem? (i := 21) rfl)
theorem wl_X3_letHourGoBy : Cond.selects RX3 yX3_letHourGoBy yX3_letHourGoBy ∈ wsL_law := u_r14 _ (List.mem_of_getElem? (i := 22) rfl)
theorem ev_X3_letHourGoBy : u_mev yX3_letHourGoBy cX3_letHourGoBy 3 none 0 := ⟨e_X3_letHourGoBy, wv_X3_letHourGoBy, wl_X3_letHourGoBy⟩
theorem wc_X3_meetSea : Cond.code yX3_meetSea cX3_meetSea 5 none ∈ wsL_law := u_r15 _ (List.mem_of_getElem? (i := 18) rfl)
theorem e_X3_meetSea : u_me yX3_meetSea cX3_meetSea 5 none 2 := ⟨⟨by decide, by decide, by decide +kernel⟩, wi_RX3, wc_X3_meetSea⟩
theorem wv_X3_meetSea : Cond.instanceMethod yX3_meetSea ∈ wsL_law := u_r15 _ (List.mem_of_getElem? (i := 16) rfl)
theorem wl_X3_meetSea : Cond.selects RX3 yX3_meetSea yX3_meetSea ∈ wsL_law := u_r15 _ (List.mem_of_getElem? (i := 17) rfl)
theorem ev_X3_meetSea : u_mev yX3_meetSea cX3_meetSea 5 none 2 := ⟨e_X3_meetSea, wv_X3_meetSea, wl_X3_meetSea⟩
theorem wc_X3_meetRiver : Cond.code yX3_meetRiver cX3_meetRiver 2 none ∈ wsL_law := u_r16 _ (List.mem_of_getElem? (i := 17) rfl)
theorem e_X3_meetRiver : u_me yX3_meetRiver cX3_meetRiver 2 none 1 := ⟨⟨by decide, by decide, by decide +kernel⟩, wi_RX3, wc_X3_meetRiver⟩
theorem wv_X3_meetRiver : Cond.instanceMethod yX3_meetRiver ∈ wsL_law := u_r16 _ (List.mem_of_getElem? (i := 15) rfl)
theorem wl_X3_meetRiver : Cond.selects RX3 yX3_meetRiver yX3_meetRiver ∈ wsL_law := u_r16 _ (List.mem_of_getElem? (i := 16) rfl)
theorem ev_X3_meetRiver : u_mev yX3_meetRiver cX3_meetRiver 2 none 1 := ⟨e_X3_meetRiver, wv_X3_meetRiver, wl_X3_meetRiver⟩
theorem wc_X3_flowByLevels : Cond.code yX3_flowByLevels cX3_flowByLevels 6 none ∈ wsL_law := u_r16 _ (List.mem_of_getElem? (i := 21) rfl)
theorem e_X3_flowByLevels : u_me yX3_flowByLevels cX3_flowByLevels 6 none 2 := ⟨⟨by decide, by decide, by decide +kernel⟩, wi_RX3, wc_X3_flowByLevels⟩
theorem wv_X3_flowByLevels : Cond.instanceMethod yX3_flowByLevels ∈ wsL_law := u_r16 _ (List.mem_of_getElem? (i := 19) rfl)
theorem wl_X3_flowByLevels : Cond.selects RX3 yX3_flowByLevels yX3_flowByLevels ∈ wsL_law := u_r16 _ (List.mem_of_getElem? (i := 20) rfl)
theorem ev_X3_flowByLevels : u_mev yX3_flowByLevels cX3_flowByLevels 6 none 2 := ⟨e_X3_flowByLevels, wv_X3_flowByLevels, wl_X3_flowByLevels⟩
theorem wc_X3_creep : Cond.code yX3_creep cX3_creep 4 none ∈ wsL_law := u_r17 _ (List.mem_of_getElem? (i := 9) rfl)
theorem e_X3_creep : u_me yX3_creep cX3_creep 4 none 2 := ⟨⟨by decide, by decide, by decide +kernel⟩, wi_RX3, wc_X3_creep⟩
theorem wv_X3_creep : Cond.instanceMethod yX3_creep ∈ wsL_law := u_r17 _ (List.mem_of_getElem? (i := 7) rfl)
theorem wl_X3_creep : Cond.selects RX3 yX3_creep yX3_creep ∈ wsL_law := u_r17 _ (List.mem_of_getElem? (i := 8) rfl)
theorem ev_X3_creep : u_mev yX3_creep cX3_creep 4 none 2 := ⟨e_X3_creep, wv_X3_creep, wl_X3_creep⟩
theorem wc_X3_flowInLow : Cond.code yX3_flowInLow cX3_flowInLow 5 none ∈ wsL_law := u_r17 _ (List.mem_of_getElem? (i := 1) rfl)
theorem e_X3_flowInLow : u_me yX3_flowInLow cX3_flowInLow 5 none 3 := ⟨⟨by decide, by decide, by decide +kernel⟩, wi_RX3, wc_X3_flowInLow⟩
theorem wv_X3_flowInLow : Cond.instanceMethod yX3_flowInLow ∈ wsL_law := u_r16 _ (List.mem_of_getElem? (i := 23) rfl)
theorem wl_X3_flowInLow : Cond.selects RX3 yX3_flowInLow yX3_flowInLow ∈ wsL_law := u_r17 _ (List.mem_of_getElem? (i := 0) rfl)
theorem ev_X3_flowInLow : u_mev yX3_flowInLow cX3_flowInLow 5 none 3 := ⟨e_X3_flowInLow, wv_X3_flowInLow, wl_X3_flowInLow⟩
theorem wc_X3_flowInUp : Cond.code yX3_flowInUp cX3_flowInUp 6 none ∈ wsL_law := u_r17 _ (List.mem_of_getElem? (i := 5) rfl)
theorem e_X3_flowInUp : u_me yX3_flowInUp cX3_flowInUp 6 none 3 := ⟨⟨by decide, by decide, by decide +kernel⟩, wi_RX3, wc_X3_flowInUp⟩
theorem wv_X3_flowInUp : Cond.instanceMethod yX3_flowInUp ∈ wsL_law := u_r17 _ (List.mem_of_getElem? (i := 3) rfl)
theorem wl_X3_flowInUp : Cond.selects RX3 yX3_flowInUp yX3_flowInUp ∈ wsL_law := u_r17 _ (List.mem_of_getElem? (i := 4) rfl)
theorem ev_X3_flowInUp : u_mev yX3_flowInUp cX3_flowInUp 6 none 3 := ⟨e_X3_flowInUp, wv_X3_flowInUp, wl_X3_flowInUp⟩
theorem wc_X3_serveIntakes : Cond.code yX3_serveIntakes cX3_serveIntakes 3 none ∈ wsL_law := u_r18 _ (List.mem_of_getElem? (i := 3) rfl)
theorem e_X3_serveIntakes : u_me yX3_serveIntakes cX3_serveIntakes 3 none 0 := ⟨⟨by decide, by decide, by decide +kernel⟩, wi_RX3, wc_X3_serveIntakes⟩
theorem wv_X3_serveIntakes : Cond.instanceMethod yX3_serveIntakes ∈ wsL_law := u_r18 _ (List.mem_of_getElem? (i := 1) rfl)
theorem wl_X3_serveIntakes : Cond.selects RX3 yX3_serveIntakes yX3_serveIntakes ∈ wsL_law := u_r18 _ (List.mem_of_getElem? (i := 2) rfl)
theorem ev_X3_serveIntakes : u_mev yX3_serveIntakes cX3_serveIntakes 3 none 0 := ⟨e_X3_serveIntakes, wv_X3_serveIntakes, wl_X3_serveIntakes⟩
theorem wi_RX4 : Cond.initialized RX4 ∈ wsL_law := u_r1 _ (List.mem_of_getElem? (i := 22) rfl)
theorem wc_X4_init : Cond.code yX4_init cX4_init 1 none ∈ wsL_law := u_r4 _ (List.mem_of_getElem? (i := 22) rfl)
theorem e_X4_init : u_me yX4_init cX4_init 1 none 0 := ⟨⟨by decide, by decide, by decide +kernel⟩, wi_RX4, wc_X4_init⟩
theorem wv_X4_init : Cond.instanceMethod yX4_init ∈ wsL_law := u_r4 _ (List.mem_of_getElem? (i := 21) rfl)
theorem wi_RX5 : Cond.initialized RX5 ∈ wsL_law := u_r2 _ (List.mem_of_getElem? (i := 5) rfl)
theorem wc_X5_init : Cond.code yX5_init cX5_init 2 none ∈ wsL_law := u_r2 _ (List.mem_of_getElem? (i := 23) rfl)
theorem e_X5_init : u_me yX5_init cX5_init 2 none 0 := ⟨⟨by decide, by decide, by decide +kernel⟩, wi_RX5, wc_X5_init⟩
theorem wv_X5_init : Cond.instanceMethod yX5_init ∈ wsL_law := u_r2 _ (List.mem_of_getElem? (i := 22) rfl)
theorem wc_X5_begin : Cond.code yX5_begin cX5_begin 1 none ∈ wsL_law := u_r22 _ (List.mem_of_getElem? (i := 13) rfl)
theorem e_X5_begin : u_me yX5_begin cX5_begin 1 none 0 := ⟨⟨by decide, by decide, by decide +kernel⟩, wi_RX5, wc_X5_begin⟩
theorem wv_X5_begin : Cond.instanceMethod yX5_begin ∈ wsL_law := u_r22 _ (List.mem_of_getElem? (i := 11) rfl)
theorem wl_X5_begin : Cond.selects RX5 yX5_begin yX5_begin ∈ wsL_law := u_r22 _ (List.mem_of_getElem? (i := 12) rfl)
theorem ev_X5_begin : u_mev yX5_begin cX5_begin 1 none 0 := ⟨e_X5_begin, wv_X5_begin, wl_X5_begin⟩
theorem wc_X5_addTurn : Cond.code yX5_addTurn cX5_addTurn 6 none ∈ wsL_law := u_r9 _ (List.mem_of_getElem? (i := 6) rfl)
theorem e_X5_addTurn : u_me yX5_addTurn cX5_addTurn 6 none 4 := ⟨⟨by decide, by decide, by decide +kernel⟩, wi_RX5, wc_X5_addTurn⟩
theorem wv_X5_addTurn : Cond.instanceMethod yX5_addTurn ∈ wsL_law := u_r9 _ (List.mem_of_getElem? (i := 4) rfl)
theorem wl_X5_addTurn : Cond.selects RX5 yX5_addTurn yX5_addTurn ∈ wsL_law := u_r9 _ (List.mem_of_getElem? (i := 5) rfl)
theorem ev_X5_addTurn : u_mev yX5_addTurn cX5_addTurn 6 none 4 := ⟨e_X5_addTurn, wv_X5_addTurn, wl_X5_addTurn⟩
theorem wc_X5_addSurge : Cond.code yX5_addSurge cX5_addSurge 5 none ∈ wsL_law := u_r9 _ (List.mem_of_getElem? (i := 14) rfl)
theorem e_X5_addSurge : u_me yX5_addSurge cX5_addSurge 5 none 3 := ⟨⟨by decide, by decide, by decide +kernel⟩, wi_RX5, wc_X5_addSurge⟩
theorem wv_X5_addSurge : Cond.instanceMethod yX5_addSurge ∈ wsL_law := u_r9 _ (List.mem_of_getElem? (i := 12) rfl)
theorem wl_X5_addSurge : Cond.selects RX5 yX5_addSurge yX5_addSurge ∈ wsL_law := u_r9 _ (List.mem_of_getElem? (i := 13) rfl)
theorem ev_X5_addSurge : u_mev yX5_addSurge cX5_addSurge 5 none 3 := ⟨e_X5_addSurge, wv_X5_addSurge, wl_X5_addSurge⟩
theorem wc_X5_foretold : Cond.code yX5_foretold cX5_foretold 4 (some .int) ∈ wsL_law := u_r5 _ (List.mem_of_getElem? (i := 23) rfl)
theorem e_X5_foretold : u_me yX5_foretold cX5_foretold 4 (some .int) 1 := ⟨⟨by decide, by decide, by decide +kernel⟩, wi_RX5, wc_X5_foretold⟩
theorem wv_X5_foretold : Cond.instanceMethod yX5_foretold ∈ wsL_law := u_r5 _ (List.mem_of_getElem? (i := 21) rfl)
theorem wl_X5_foretold : Cond.selects RX5 yX5_foretold yX5_foretold ∈ wsL_law := u_r5 _ (List.mem_of_getElem? (i := 22) rfl)
theorem ev_X5_foretold : u_mev yX5_foretold cX5_foretold 4 (some .int) 1 := ⟨e_X5_foretold, wv_X5_foretold, wl_X5_foretold⟩
theorem wc_X5_foretoldAbove : Cond.code yX5_foretoldAbove cX5_foretoldAbove 5 (some .boolean) ∈ wsL_law := u_r15 _ (List.mem_of_getElem? (i := 12) rfl)
theorem e_X5_foretoldAbove : u_me yX5_foretoldAbove cX5_foretoldAbove 5 (some .boolean) 3 := ⟨⟨by decide, by decide, by decide +kernel⟩, wi_RX5, wc_X5_foretoldAbove⟩
theorem wv_X5_foretoldAbove : Cond.instanceMethod yX5_foretoldAbove ∈ wsL_law := u_r15 _ (List.mem_of_getElem? (i := 10) rfl)
theorem wl_X5_foretoldAbove : Cond.selects RX5 yX5_foretoldAbove yX5_foretoldAbove ∈ wsL_law := u_r15 _ (List.mem_of_getElem? (i := 11) rfl)
theorem ev_X5_foretoldAbove : u_mev yX5_foretoldAbove cX5_foretoldAbove 5 (some .boolean) 3 := ⟨e_X5_foretoldAbove, wv_X5_foretoldAbove, wl_X5_foretoldAbove⟩
theorem wc_X5_keep : Cond.code yX5_keep cX5_keep 3 none ∈ wsL_law := u_r19 _ (List.mem_of_getElem? (i := 4) rfl)
theorem e_X5_keep : u_me yX5_keep cX5_keep 3 none 2 := ⟨⟨by decide, by decide, by decide +kernel⟩, wi_RX5, wc_X5_keep⟩
theorem wv_X5_keep : Cond.instanceMethod yX5_keep ∈ wsL_law := u_r19 _ (List.mem_of_getElem? (i := 2) rfl)
theorem wl_X5_keep : Cond.selects RX5 yX5_keep yX5_keep ∈ wsL_law := u_r19 _ (List.mem_of_getElem? (i := 3) rfl)
theorem ev_X5_keep : u_mev yX5_keep cX5_keep 3 none 2 := ⟨e_X5_keep, wv_X5_keep, wl_X5_keep⟩
theorem wi_RX6 : Cond.initialized RX6 ∈ wsL_law := u_r2 _ (List.mem_of_getElem? (i := 18) rfl)
theorem wc_X6_init : Cond.code yX6_init cX6_init 1 none ∈ wsL_law := u_r4 _ (List.mem_of_getElem? (i := 2) rfl)
theorem e_X6_init : u_me yX6_init cX6_init 1 none 0 := ⟨⟨by decide, by decide, by decide +kernel⟩, wi_RX6, wc_X6_init⟩
theorem wv_X6_init : Cond.instanceMethod yX6_init ∈ wsL_law := u_r4 _ (List.mem_of_getElem? (i := 1) rfl)
theorem wc_X6_begin : Cond.code yX6_begin cX6_begin 5 none ∈ wsL_law := u_r9 _ (List.mem_of_getElem? (i := 23) rfl)
theorem e_X6_begin : u_me yX6_begin cX6_begin 5 none 4 := ⟨⟨by decide, by decide, by decide +kernel⟩, wi_RX6, wc_X6_begin⟩
theorem wv_X6_begin : Cond.instanceMethod yX6_begin ∈ wsL_law := u_r9 _ (List.mem_of_getElem? (i := 21) rfl)
theorem wl_X6_begin : Cond.selects RX6 yX6_begin yX6_begin ∈ wsL_law := u_r9 _ (List.mem_of_getElem? (i := 22) rfl)
theorem ev_X6_begin : u_mev yX6_begin cX6_begin 5 none 4 := ⟨e_X6_begin, wv_X6_begin, wl_X6_begin⟩
theorem wc_X6_bed : Cond.code yX6_bed cX6_bed 1 (some .int) ∈ wsL_law := u_r12 _ (List.mem_of_getElem? (i := 14) rfl)
theorem e_X6_bed : u_me yX6_bed cX6_bed 1 (some .int) 0 := ⟨⟨by decide, by decide, by decide +kernel⟩, wi_RX6, wc_X6_bed⟩
theorem wv_X6_bed : Cond.instanceMethod yX6_bed ∈ wsL_law := u_r12 _ (List.mem_of_getElem? (i := 12) rfl)
theorem wl_X6_bed : Cond.selects RX6 yX6_bed yX6_bed ∈ wsL_law := u_r12 _ (List.mem_of_getElem? (i := 13) rfl)
theorem ev_X6_bed : u_mev yX6_bed cX6_bed 1 (some .int) 0 := ⟨e_X6_bed, wv_X6_bed, wl_X6_bed⟩
theorem wc_X6_level : Cond.code yX6_level cX6_level 1 (some .int) ∈ wsL_law := u_r12 _ (List.mem_of_getElem? (i := 10) rfl)
theorem e_X6_level : u_me yX6_level cX6_level 1 (some .int) 0 := ⟨⟨by decide, by decide, by decide +kernel⟩, wi_RX6, wc_X6_level⟩
theorem wv_X6_level : Cond.instanceMethod yX6_level ∈ wsL_law := u_r12 _ (List.mem_of_getElem? (i := 8) rfl)
theorem wl_X6_level : Cond.selects RX6 yX6_level yX6_level ∈ wsL_law := u_r12 _ (List.mem_of_getElem? (i := 9) rfl)
theorem ev_X6_level : u_mev yX6_level cX6_level 1 (some .int) 0 := ⟨e_X6_level, wv_X6_level, wl_X6_level⟩
theorem wc_X6_giveCloud : Cond.code yX6_giveCloud cX6_giveCloud 3 (some .int) ∈ wsL_law := u_r16 _ (List.mem_of_getElem? (i := 7) rfl)
theorem e_X6_giveCloud : u_me yX6_giveCloud cX6_giveCloud 3 (some .int) 1 := ⟨⟨by decide, by decide, by decide +kernel⟩, wi_RX6, wc_X6_giveCloud⟩
theorem wv_X6_giveCloud : Cond.instanceMethod yX6_giveCloud ∈ wsL_law := u_r16 _ (List.mem_of_getElem? (i := 5) rfl)
theorem wl_X6_giveCloud : Cond.selects RX6 yX6_giveCloud yX6_giveCloud ∈ wsL_law := u_r16 _ (List.mem_of_getElem? (i := 6) rfl)
theorem ev_X6_giveCloud : u_mev yX6_giveCloud cX6_giveCloud 3 (some .int) 1 := ⟨e_X6_giveCloud, wv_X6_giveCloud, wl_X6_giveCloud⟩
theorem wc_X6_refusal : Cond.code yX6_refusal cX6_refusal 2 (some .int) ∈ wsL_law := u_r13 _ (List.mem_of_getElem? (i := 22) rfl)
theorem e_X6_refusal : u_me yX6_refusal cX6_refusal 2 (some .int) 1 := ⟨⟨by decide, by decide, by decide +kernel⟩, wi_RX6, wc_X6_refusal⟩
theorem wv_X6_refusal : Cond.instanceMethod yX6_refusal ∈ wsL_law := u_r13 _ (List.mem_of_getElem? (i := 20) rfl)
theorem wl_X6_refusal : Cond.selects RX6 yX6_refusal yX6_refusal ∈ wsL_law := u_r13 _ (List.mem_of_getElem? (i := 21) rfl)
theorem ev_X6_refusal : u_mev yX6_refusal cX6_refusal 2 (some .int) 1 := ⟨e_X6_refusal, wv_X6_refusal, wl_X6_refusal⟩
theorem wc_X6_mix : Cond.code yX6_mix cX6_mix 3 none ∈ wsL_law := u_r17 _ (List.mem_of_getElem? (i := 14) rfl)
theorem e_X6_mix : u_me yX6_mix cX6_mix 3 none 0 := ⟨⟨by decide, by decide, by decide +kernel⟩, wi_RX6, wc_X6_mix⟩
theorem wv_X6_mix : Cond.instanceMethod yX6_mix ∈ wsL_law := u_r17 _ (List.mem_of_getElem? (i := 12) rfl)
theorem wl_X6_mix : Cond.selects RX6 yX6_mix yX6_mix ∈ wsL_law := u_r17 _ (List.mem_of_getElem? (i := 13) rfl)
theorem ev_X6_mix : u_mev yX6_mix cX6_mix 3 none 0 := ⟨e_X6_mix, wv_X6_mix, wl_X6_mix⟩
theorem wc_X6_settleOrLift : Cond.code yX6_settleOrLift cX6_settleOrLift 2 none ∈ wsL_law := u_r17 _ (List.mem_of_getElem? (i := 23) rfl)
theorem e_X6_settleOrLift : u_me yX6_settleOrLift cX6_settleOrLift 2 none 0 := ⟨⟨by decide, by decide, by decide +kernel⟩, wi_RX6, wc_X6_settleOrLift⟩
theorem wv_X6_settleOrLift : Cond.instanceMethod yX6_settleOrLift ∈ wsL_law := u_r17 _ (List.mem_of_getElem? (i := 21) rfl)
theorem wl_X6_settleOrLift : Cond.selects RX6 yX6_settleOrLift yX6_settleOrLift ∈ wsL_law := u_r17 _ (List.mem_of_getElem? (i := 22) rfl)
theorem ev_X6_settleOrLift : u_mev yX6_settleOrLift cX6_settleOrLift 2 none 0 := ⟨e_X6_settleOrLift, wv_X6_settleOrLift, wl_X6_settleOrLift⟩
theorem wc_X6_endHour : Cond.code yX6_endHour cX6_endHour 2 none ∈ wsL_law := u_r18 _ (List.mem_of_getElem? (i := 20) rfl)
theorem e_X6_endHour : u_me yX6_endHour cX6_endHour 2 none 1 := ⟨⟨by decide, by decide, by decide +kernel⟩, wi_RX6, wc_X6_endHour⟩
theorem wv_X6_endHour : Cond.instanceMethod yX6_endHour ∈ wsL_law := u_r18 _ (List.mem_of_getElem? (i := 18) rfl)
theorem wl_X6_endHour : Cond.selects RX6 yX6_endHour yX6_endHour ∈ wsL_law := u_r18 _ (List.mem_of_getElem? (i := 19) rfl)
theorem ev_X6_endHour : u_mev yX6_endHour cX6_endHour 2 none 1 := ⟨e_X6_endHour, wv_X6_endHour, wl_X6_endHour⟩
theorem wc_X6_wasFresher : Cond.code yX6_wasFresher cX6_wasFresher 5 (some .boolean) ∈ wsL_law := u_r21 _ (List.mem_of_getElem? (i := 7) rfl)
theorem e_X6_wasFresher : u_me yX6_wasFresher cX6_wasFresher 5 (some .boolean) 3 := ⟨⟨by decide, by decide, by decide +kernel⟩, wi_RX6, wc_X6_wasFresher⟩
theorem wv_X6_wasFresher : Cond.instanceMethod yX6_wasFresher ∈ wsL_law := u_r21 _ (List.mem_of_getElem? (i := 5) rfl)
theorem wl_X6_wasFresher : Cond.selects RX6 yX6_wasFresher yX6_wasFresher ∈ wsL_law := u_r21 _ (List.mem_of_getElem? (i := 6) rfl)
theorem ev_X6_wasFresher : u_mev yX6_wasFresher cX6_wasFresher 5 (some .boolean) 3 := ⟨e_X6_wasFresher, wv_X6_wasFresher, wl_X6_wasFresher⟩
theorem wc_X6_answer : Cond.code yX6_answer cX6_answer 2 (some .int) ∈ wsL_law := u_r12 _ (List.mem_of_getElem? (i := 4) rfl)
theorem e_X6_answer : u_me yX6_answer cX6_answer 2 (some .int) 1 := ⟨⟨by decide, by decide, by decide +kernel⟩, wi_RX6, wc_X6_answer⟩
theorem wv_X6_answer : Cond.instanceMethod yX6_answer ∈ wsL_law := u_r12 _ (List.mem_of_getElem? (i := 2) rfl)
theorem wl_X6_answer : Cond.selects RX6 yX6_answer yX6_answer ∈ wsL_law := u_r12 _ (List.mem_of_getElem? (i := 3) rfl)
theorem ev_X6_answer : u_mev yX6_answer cX6_answer 2 (some .int) 1 := ⟨e_X6_answer, wv_X6_answer, wl_X6_answer⟩
theorem wi_RX7 : Cond.initialized RX7 ∈ wsL_law := u_r3 _ (List.mem_of_getElem? (i := 10) rfl)
theorem wc_X7_init : Cond.code yX7_init cX7_init 1 none ∈ wsL_law := u_r3 _ (List.mem_of_getElem? (i := 15) rfl)
theorem e_X7_init : u_me yX7_init cX7_init 1 none 0 := ⟨⟨by decide, by decide, by decide +kernel⟩, wi_RX7, wc_X7_init⟩
theorem wv_X7_init : Cond.instanceMethod yX7_init ∈ wsL_law := u_r3 _ (List.mem_of_getElem? (i := 14) rfl)
theorem wi_RX8 : Cond.initialized RX8 ∈ wsL_law := u_r1 _ (List.mem_of_getElem? (i := 17) rfl)
theorem wc_X8_init : Cond.code yX8_init cX8_init 1 none ∈ wsL_law := u_r4 _ (List.mem_of_getElem? (i := 18) rfl)
theorem e_X8_init : u_me yX8_init cX8_init 1 none 0 := ⟨⟨by decide, by decide, by decide +kernel⟩, wi_RX8, wc_X8_init⟩
theorem wv_X8_init : Cond.instanceMethod yX8_init ∈ wsL_law := u_r4 _ (List.mem_of_getElem? (i := 17) rfl)
theorem wc_X8_keep : Cond.code yX8_keep cX8_keep 9 none ∈ wsL_law := u_r8 _ (List.mem_of_getElem? (i := 16) rfl)
theorem e_X8_keep : u_me yX8_keep cX8_keep 9 none 7 := ⟨⟨by decide, by decide, by decide +kernel⟩, wi_RX8, wc_X8_keep⟩
theorem wv_X8_keep : Cond.instanceMethod yX8_keep ∈ wsL_law := u_r8 _ (List.mem_of_getElem? (i := 14) rfl)
theorem wl_X8_keep : Cond.selects RX8 yX8_keep yX8_keep ∈ wsL_law := u_r8 _ (List.mem_of_getElem? (i := 15) rfl)
theorem ev_X8_keep : u_mev yX8_keep cX8_keep 9 none 7 := ⟨e_X8_keep, wv_X8_keep, wl_X8_keep⟩
theorem wc_X8_part : Cond.code yX8_part cX8_part 4 (some .int) ∈ wsL_law := u_r22 _ (List.mem_of_getElem? (i := 21) rfl)
theorem e_X8_part : u_me yX8_part cX8_part 4 (some .int) 2 := ⟨⟨by decide, by decide, by decide +kernel⟩, wi_RX8, wc_X8_part⟩
theorem wv_X8_part : Cond.instanceMethod yX8_part ∈ wsL_law := u_r22 _ (List.mem_of_getElem? (i := 19) rfl)
theorem wl_X8_part : Cond.selects RX8 yX8_part yX8_part ∈ wsL_law := u_r22 _ (List.mem_of_getElem? (i := 20) rfl)
theorem ev_X8_part : u_mev yX8_part cX8_part 4 (some .int) 2 := ⟨e_X8_part, wv_X8_part, wl_X8_part⟩
theorem wi_RX9 : Cond.initialized RX9 ∈ wsL_law := u_r3 _ (List.mem_of_getElem? (i := 8) rfl)
theorem wc_X9_init : Cond.code yX9_init cX9_init 1 none ∈ wsL_law := u_r3 _ (List.mem_of_getElem? (i := 12) rfl)
theorem e_X9_init : u_me yX9_init cX9_init 1 none 0 := ⟨⟨by decide, by decide, by decide +kernel⟩, wi_RX9, wc_X9_init⟩
theorem wv_X9_init : Cond.instanceMethod yX9_init ∈ wsL_law := u_r3 _ (List.mem_of_getElem? (i := 11) rfl)
theorem wc_X9_height : Cond.code yX9_height cX9_height 3 (some .int) ∈ wsL_law := u_r6 _ (List.mem_of_getElem? (i := 8) rfl)
theorem e_X9_height : u_me yX9_height cX9_height 3 (some .int) 1 := ⟨⟨by decide, by decide, by decide +kernel⟩, wi_RX9, wc_X9_height⟩
theorem wv_X9_height : Cond.instanceMethod yX9_height ∈ wsL_law := u_r6 _ (List.mem_of_getElem? (i := 6) rfl)
theorem wl_X9_height : Cond.selects RX9 yX9_height yX9_height ∈ wsL_law := u_r6 _ (List.mem_of_getElem? (i := 7) rfl)
theorem ev_X9_height : u_mev yX9_height cX9_height 3 (some .int) 1 := ⟨e_X9_height, wv_X9_height, wl_X9_height⟩
theorem wi_RX10 : Cond.initialized RX10 ∈ wsL_law := u_r1 _ (List.mem_of_getElem? (i := 2) rfl)
theorem wc_X10_init : Cond.code yX10_init cX10_init 2 none ∈ wsL_law := u_r1 _ (List.mem_of_getElem? (i := 6) rfl)
theorem e_X10_init : u_me yX10_init cX10_init 2 none 0 := ⟨⟨by decide, by decide, by decide +kernel⟩, wi_RX10, wc_X10_init⟩
theorem wv_X10_init : Cond.instanceMethod yX10_init ∈ wsL_law := u_r1 _ (List.mem_of_getElem? (i := 5) rfl)
theorem wc_X10_turn : Cond.code yX10_turn cX10_turn 6 (some .int) ∈ wsL_law := u_r12 _ (List.mem_of_getElem? (i := 22) rfl)
theorem e_X10_turn : u_me yX10_turn cX10_turn 6 (some .int) 4 := ⟨⟨by decide, by decide, by decide +kernel⟩, wi_RX10, wc_X10_turn⟩
theorem wv_X10_turn : Cond.instanceMethod yX10_turn ∈ wsL_law := u_r12 _ (List.mem_of_getElem? (i := 20) rfl)
theorem wl_X10_turn : Cond.selects RX10 yX10_turn yX10_turn ∈ wsL_law := u_r12 _ (List.mem_of_getElem? (i := 21) rfl)
theorem ev_X10_turn : u_mev yX10_turn cX10_turn 6 (some .int) 4 := ⟨e_X10_turn, wv_X10_turn, wl_X10_turn⟩
theorem wc_X10_mean : Cond.code yX10_mean cX10_mean 3 (some .int) ∈ wsL_law := u_r13 _ (List.mem_of_getElem? (i := 7) rfl)
theorem e_X10_mean : u_me yX10_mean cX10_mean 3 (some .int) 1 := ⟨⟨by decide, by decide, by decide +kernel⟩, wi_RX10, wc_X10_mean⟩
theorem wv_X10_mean : Cond.instanceMethod yX10_mean ∈ wsL_law := u_r13 _ (List.mem_of_getElem? (i := 5) rfl)
theorem wl_X10_mean : Cond.selects RX10 yX10_mean yX10_mean ∈ wsL_law := u_r13 _ (List.mem_of_getElem? (i := 6) rfl)
theorem ev_X10_mean : u_mev yX10_mean cX10_mean 3 (some .int) 1 := ⟨e_X10_mean, wv_X10_mean, wl_X10_mean⟩
theorem wc_X10_surge : Cond.code yX10_surge cX10_surge 4 (some .int) ∈ wsL_law := u_r19 _ (List.mem_of_getElem? (i := 8) rfl)
theorem e_X10_surge : u_me yX10_surge cX10_surge 4 (some .int) 3 := ⟨⟨by decide, by decide, by decide +kernel⟩, wi_RX10, wc_X10_surge⟩
theorem wv_X10_surge : Cond.instanceMethod yX10_surge ∈ wsL_law := u_r19 _ (List.mem_of_getElem? (i := 6) rfl)
theorem wl_X10_surge : Cond.selects RX10 yX10_surge yX10_surge ∈ wsL_law := u_r19 _ (List.mem_of_getElem? (i := 7) rfl)
theorem ev_X10_surge : u_mev yX10_surge cX10_surge 4 (some .int) 3 := ⟨e_X10_surge, wv_X10_surge, wl_X10_surge⟩
theorem wc_X10_river : Cond.code yX10_river cX10_river 4 (some .int) ∈ wsL_law := u_r19 _ (List.mem_of_getElem? (i := 13) rfl)
theorem e_X10_river : u_me yX10_river cX10_river 4 (some .int) 2 := ⟨⟨by decide, by decide, by decide +kernel⟩, wi_RX10, wc_X10_river⟩
theorem wv_X10_river : Cond.instanceMethod yX10_river ∈ wsL_law := u_r19 _ (List.mem_of_getElem? (i := 11) rfl)
theorem wl_X10_river : Cond.selects RX10 yX10_river yX10_river ∈ wsL_law := u_r19 _ (List.mem_of_getElem? (i := 12) rfl)
theorem ev_X10_river : u_mev yX10_river cX10_river 4 (some .int) 2 := ⟨e_X10_river, wv_X10_river, wl_X10_river⟩
theorem wc_X10_barrier : Cond.code yX10_barrier cX10_barrier 4 (some .int) ∈ wsL_law := u_r19 _ (List.mem_of_getElem? (i := 18) rfl)
theorem e_X10_barrier : u_me yX10_barrier cX10_barrier 4 (some .int) 2 := ⟨⟨by decide, by decide, by decide +kernel⟩, wi_RX10, wc_X10_barrier⟩
theorem wv_X10_barrier : Cond.instanceMethod yX10_barrier ∈ wsL_law := u_r19 _ (List.mem_of_getElem? (i := 16) rfl)
theorem wl_X10_barrier : Cond.selects RX10 yX10_barrier yX10_barrier ∈ wsL_law := u_r19 _ (List.mem_of_getElem? (i := 17) rfl)
theorem ev_X10_barrier : u_mev yX10_barrier cX10_barrier 4 (some .int) 2 := ⟨e_X10_barrier, wv_X10_barrier, wl_X10_barrier⟩
theorem wc_X10_section : Cond.code yX10_section cX10_section 6 (some .int) ∈ wsL_law := u_r8 _ (List.mem_of_getElem? (i := 6) rfl)
theorem e_X10_section : u_me yX10_section cX10_section 6 (some .int) 4 := ⟨⟨by decide, by decide, by decide +kernel⟩, wi_RX10, wc_X10_section⟩
theorem wv_X10_section : Cond.instanceMethod yX10_section ∈ wsL_law := u_r8 _ (List.mem_of_getElem? (i := 4) rfl)
theorem wl_X10_section : Cond.selects RX10 yX10_section yX10_section ∈ wsL_law := u_r8 _ (List.mem_of_getElem? (i := 5) rfl)
theorem ev_X10_section : u_mev yX10_section cX10_section 6 (some .int) 4 := ⟨e_X10_section, wv_X10_section, wl_X10_section⟩
theorem wc_X10_intake : Cond.code yX10_intake cX10_intake 7 (some .int) ∈ wsL_law := u_r20 _ (List.mem_of_getElem? (i := 2) rfl)
theorem e_X10_intake : u_me yX10_intake cX10_intake 7 (some .int) 5 := ⟨⟨by decide, by decide, by decide +kernel⟩, wi_RX10, wc_X10_intake⟩
theorem wv_X10_intake : Cond.instanceMethod yX10_intake ∈ wsL_law := u_r20 _ (List.mem_of_getElem? (i := 0) rfl)
theorem wl_X10_intake : Cond.selects RX10 yX10_intake yX10_intake ∈ wsL_law := u_r20 _ (List.mem_of_getElem? (i := 1) rfl)
theorem ev_X10_intake : u_mev yX10_intake cX10_intake 7 (some .int) 5 := ⟨e_X10_intake, wv_X10_intake, wl_X10_intake⟩
theorem wc_X10_oysters : Cond.code yX10_oysters cX10_oysters 5 (some .int) ∈ wsL_law := u_r20 _ (List.mem_of_getElem? (i := 19) rfl)
theorem e_X10_oysters : u_me yX10_oysters cX10_oysters 5 (some .int) 3 := ⟨⟨by decide, by decide, by decide +kernel⟩, wi_RX10, wc_X10_oysters⟩
theorem wv_X10_oysters : Cond.instanceMethod yX10_oysters ∈ wsL_law := u_r20 _ (List.mem_of_getElem? (i := 17) rfl)
theorem wl_X10_oysters : Cond.selects RX10 yX10_oysters yX10_oysters ∈ wsL_law := u_r20 _ (List.mem_of_getElem? (i := 18) rfl)
theorem ev_X10_oysters : u_mev yX10_oysters cX10_oysters 5 (some .int) 3 := ⟨e_X10_oysters, wv_X10_oysters, wl_X10_oysters⟩
theorem wc_X10_permit : Cond.code yX10_permit cX10_permit 4 (some .int) ∈ wsL_law := u_r21 _ (List.mem_of_getElem? (i := 14) rfl)
theorem e_X10_permit : u_me yX10_permit cX10_permit 4 (some .int) 2 := ⟨⟨by decide, by decide, by decide +kernel⟩, wi_RX10, wc_X10_permit⟩
theorem wv_X10_permit : Cond.instanceMethod yX10_permit ∈ wsL_law := u_r21 _ (List.mem_of_getElem? (i := 12) rfl)
theorem wl_X10_permit : Cond.selects RX10 yX10_permit yX10_permit ∈ wsL_law := u_r21 _ (List.mem_of_getElem? (i := 13) rfl)
theorem ev_X10_permit : u_mev yX10_permit cX10_permit 4 (some .int) 2 := ⟨e_X10_permit, wv_X10_permit, wl_X10_permit⟩
theorem wc_X10_whyNot : Cond.code yX10_whyNot cX10_whyNot 3 (some .int) ∈ wsL_law := u_r21 _ (List.mem_of_getElem? (i := 18) rfl)
theorem e_X10_whyNot : u_me yX10_whyNot cX10_whyNot 3 (some .int) 2 := ⟨⟨by decide, by decide, by decide +kernel⟩, wi_RX10, wc_X10_whyNot⟩
theorem wv_X10_whyNot : Cond.instanceMethod yX10_whyNot ∈ wsL_law := u_r21 _ (List.mem_of_getElem? (i := 16) rfl)
theorem wl_X10_whyNot : Cond.selects RX10 yX10_whyNot yX10_whyNot ∈ wsL_law := u_r21 _ (List.mem_of_getElem? (i := 17) rfl)
theorem ev_X10_whyNot : u_mev yX10_whyNot cX10_whyNot 3 (some .int) 2 := ⟨e_X10_whyNot, wv_X10_whyNot, wl_X10_whyNot⟩
theorem wc_X10_dredge : Cond.code yX10_dredge cX10_dredge 4 (some .int) ∈ wsL_law := u_r13 _ (List.mem_of_getElem? (i := 17) rfl)
theorem e_X10_dredge : u_me yX10_dredge cX10_dredge 4 (some .int) 3 := ⟨⟨by decide, by decide, by decide +kernel⟩, wi_RX10, wc_X10_dredge⟩
theorem wv_X10_dredge : Cond.instanceMethod yX10_dredge ∈ wsL_law := u_r13 _ (List.mem_of_getElem? (i := 15) rfl)
theorem wl_X10_dredge : Cond.selects RX10 yX10_dredge yX10_dredge ∈ wsL_law := u_r13 _ (List.mem_of_getElem? (i := 16) rfl)
theorem ev_X10_dredge : u_mev yX10_dredge cX10_dredge 4 (some .int) 3 := ⟨e_X10_dredge, wv_X10_dredge, wl_X10_dredge⟩
theorem wc_X10_pass : Cond.code yX10_pass cX10_pass 2 (some .int) ∈ wsL_law := u_r14 _ (List.mem_of_getElem? (i := 11) rfl)
theorem e_X10_pass : u_me yX10_pass cX10_pass 2 (some .int) 1 := ⟨⟨by decide, by decide, by decide +kernel⟩, wi_RX10, wc_X10_pass⟩
theorem wv_X10_pass : Cond.instanceMethod yX10_pass ∈ wsL_law := u_r14 _ (List.mem_of_getElem? (i := 9) rfl)
theorem wl_X10_pass : Cond.selects RX10 yX10_pass yX10_pass ∈ wsL_law := u_r14 _ (List.mem_of_getElem? (i := 10) rfl)
theorem ev_X10_pass : u_mev yX10_pass cX10_pass 2 (some .int) 1 := ⟨e_X10_pass, wv_X10_pass, wl_X10_pass⟩
theorem wc_X10_now : Cond.code yX10_now cX10_now 1 (some .int) ∈ wsL_law := u_r5 _ (List.mem_of_getElem? (i := 3) rfl)
theorem e_X10_now : u_me yX10_now cX10_now 1 (some .int) 0 := ⟨⟨by decide, by decide, by decide +kernel⟩, wi_RX10, wc_X10_now⟩
theorem wv_X10_now : Cond.instanceMethod yX10_now ∈ wsL_law := u_r5 _ (List.mem_of_getElem? (i := 1) rfl)
theorem wl_X10_now : Cond.selects RX10 yX10_now yX10_now ∈ wsL_law := u_r5 _ (List.mem_of_getElem? (i := 2) rfl)
theorem ev_X10_now : u_mev yX10_now cX10_now 1 (some .int) 0 := ⟨e_X10_now, wv_X10_now, wl_X10_now⟩
theorem wc_X10_sea : Cond.code yX10_sea cX10_sea 2 (some .int) ∈ wsL_law := u_r5 _ (List.mem_of_getElem? (i := 8) rfl)
theorem e_X10_sea : u_me yX10_sea cX10_sea 2 (some .int) 1 := ⟨⟨by decide, by decide, by decide +kernel⟩, wi_RX10, wc_X10_sea⟩
theorem wv_X10_sea : Cond.instanceMethod yX10_sea ∈ wsL_law := u_r5 _ (List.mem_of_getElem? (i := 6) rfl)
theorem wl_X10_sea : Cond.selects RX10 yX10_sea yX10_sea ∈ wsL_law := u_r5 _ (List.mem_of_getElem? (i := 7) rfl)
theorem ev_X10_sea : u_mev yX10_sea cX10_sea 2 (some .int) 1 := ⟨e_X10_sea, wv_X10_sea, wl_X10_sea⟩
theorem wc_X10_ofSection : Cond.code yX10_ofSection cX10_ofSection 3 (some .int) ∈ wsL_law := u_r11 _ (List.mem_of_getElem? (i := 21) rfl)
theorem e_X10_ofSection : u_me yX10_ofSection cX10_ofSection 3 (some .int) 2 := ⟨⟨by decide, by decide, by decide +kernel⟩, wi_RX10, wc_X10_ofSection⟩
theorem wv_X10_ofSection : Cond.instanceMethod yX10_ofSection ∈ wsL_law := u_r11 _ (List.mem_of_getElem? (i := 19) rfl)
theorem wl_X10_ofSection : Cond.selects RX10 yX10_ofSection yX10_ofSection ∈ wsL_law := u_r11 _ (List.mem_of_getElem? (i := 20) rfl)
theorem ev_X10_ofSection : u_mev yX10_ofSection cX10_ofSection 3 (some .int) 2 := ⟨e_X10_ofSection, wv_X10_ofSection, wl_X10_ofSection⟩
theorem wc_X10_ofSectionAnew : Cond.code yX10_ofSectionAnew cX10_ofSectionAnew 4 (some .int) ∈ wsL_law := u_r22 _ (List.mem_of_getElem? (i := 4) rfl)
theorem e_X10_ofSectionAnew : u_me yX10_ofSectionAnew cX10_ofSectionAnew 4 (some .int) 2 := ⟨⟨by decide, by decide, by decide +kernel⟩, wi_RX10, wc_X10_ofSectionAnew⟩
theorem wv_X10_ofSectionAnew : Cond.instanceMethod yX10_ofSectionAnew ∈ wsL_law := u_r22 _ (List.mem_of_getElem? (i := 2) rfl)
theorem wl_X10_ofSectionAnew : Cond.selects RX10 yX10_ofSectionAnew yX10_ofSectionAnew ∈ wsL_law := u_r22 _ (List.mem_of_getElem? (i := 3) rfl)
theorem ev_X10_ofSectionAnew : u_mev yX10_ofSectionAnew cX10_ofSectionAnew 4 (some .int) 2 := ⟨e_X10_ofSectionAnew, wv_X10_ofSectionAnew, wl_X10_ofSectionAnew⟩
theorem wc_X10_ofIntake : Cond.code yX10_ofIntake cX10_ofIntake 3 (some .int) ∈ wsL_law := u_r20 _ (List.mem_of_getElem? (i := 7) rfl)
theorem e_X10_ofIntake : u_me yX10_ofIntake cX10_ofIntake 3 (some .int) 2 := ⟨⟨by decide, by decide, by decide +kernel⟩, wi_RX10, wc_X10_ofIntake⟩
theorem wv_X10_ofIntake : Cond.instanceMethod yX10_ofIntake ∈ wsL_law := u_r20 _ (List.mem_of_getElem? (i := 5) rfl)
theorem wl_X10_ofIntake : Cond.selects RX10 yX10_ofIntake yX10_ofIntake ∈ wsL_law := u_r20 _ (List.mem_of_getElem? (i := 6) rfl)
theorem ev_X10_ofIntake : u_mev yX10_ofIntake cX10_ofIntake 3 (some .int) 2 := ⟨e_X10_ofIntake, wv_X10_ofIntake, wl_X10_ofIntake⟩
theorem wc_X10_isClosed : Cond.code yX10_isClosed cX10_isClosed 3 (some .boolean) ∈ wsL_law := u_r21 _ (List.mem_of_getElem? (i := 3) rfl)
theorem e_X10_isClosed : u_me yX10_isClosed cX10_isClosed 3 (some .boolean) 1 := ⟨⟨by decide, by decide, by decide +kernel⟩, wi_RX10, wc_X10_isClosed⟩
theorem wv_X10_isClosed : Cond.instanceMethod yX10_isClosed ∈ wsL_law := u_r21 _ (List.mem_of_getElem? (i := 1) rfl)
theorem wl_X10_isClosed : Cond.selects RX10 yX10_isClosed yX10_isClosed ∈ wsL_law := u_r21 _ (List.mem_of_getElem? (i := 2) rfl)
theorem ev_X10_isClosed : u_mev yX10_isClosed cX10_isClosed 3 (some .boolean) 1 := ⟨e_X10_isClosed, wv_X10_isClosed, wl_X10_isClosed⟩
theorem wc_X10_closures : Cond.code yX10_closures cX10_closures 1 (some .int) ∈ wsL_law := u_r6 _ (List.mem_of_getElem? (i := 16) rfl)
theorem e_X10_closures : u_me yX10_closures cX10_closures 1 (some .int) 0 := ⟨⟨by decide, by decide, by decide +kernel⟩, wi_RX10, wc_X10_closures⟩
theorem wv_X10_closures : Cond.instanceMethod yX10_closures ∈ wsL_law := u_r6 _ (List.mem_of_getElem? (i := 14) rfl)
theorem wl_X10_closures : Cond.selects RX10 yX10_closures yX10_closures ∈ wsL_law := u_r6 _ (List.mem_of_getElem? (i := 15) rfl)
theorem ev_X10_closures : u_mev yX10_closures cX10_closures 1 (some .int) 0 := ⟨e_X10_closures, wv_X10_closures, wl_X10_closures⟩
theorem wc_X10_closure : Cond.code yX10_closure cX10_closure 3 (some .int) ∈ wsL_law := u_r23 _ (List.mem_of_getElem? (i := 4) rfl)
theorem e_X10_closure : u_me yX10_closure cX10_closure 3 (some .int) 2 := ⟨⟨by decide, by decide, by decide +kernel⟩, wi_RX10, wc_X10_closure⟩
theorem wv_X10_closure : Cond.instanceMethod yX10_closure ∈ wsL_law := u_r23 _ (List.mem_of_getElem? (i := 2) rfl)
theorem wl_X10_closure : Cond.selects RX10 yX10_closure yX10_closure ∈ wsL_law := u_r23 _ (List.mem_of_getElem? (i := 3) rfl)
theorem ev_X10_closure : u_mev yX10_closure cX10_closure 3 (some .int) 2 := ⟨e_X10_closure, wv_X10_closure, wl_X10_closure⟩
theorem wc_X10_intrusion : Cond.code yX10_intrusion cX10_intrusion 3 (some .int) ∈ wsL_law := u_r6 _ (List.mem_of_getElem? (i := 22) rfl)
theorem e_X10_intrusion : u_me yX10_intrusion cX10_intrusion 3 (some .int) 1 := ⟨⟨by decide, by decide, by decide +kernel⟩, wi_RX10, wc_X10_intrusion⟩
theorem wv_X10_intrusion : Cond.instanceMethod yX10_intrusion ∈ wsL_law := u_r6 _ (List.mem_of_getElem? (i := 20) rfl)
theorem wl_X10_intrusion : Cond.selects RX10 yX10_intrusion yX10_intrusion ∈ wsL_law := u_r6 _ (List.mem_of_getElem? (i := 21) rfl)
theorem ev_X10_intrusion : u_mev yX10_intrusion cX10_intrusion 3 (some .int) 1 := ⟨e_X10_intrusion, wv_X10_intrusion, wl_X10_intrusion⟩
theorem wc_X10_window : Cond.code yX10_window cX10_window 3 (some .int) ∈ wsL_law := u_r14 _ (List.mem_of_getElem? (i := 2) rfl)
theorem e_X10_window : u_me yX10_window cX10_window 3 (some .int) 2 := ⟨⟨by decide, by decide, by decide +kernel⟩, wi_RX10, wc_X10_window⟩
theorem wv_X10_window : Cond.instanceMethod yX10_window ∈ wsL_law := u_r14 _ (List.mem_of_getElem? (i := 0) rfl)
theorem wl_X10_window : Cond.selects RX10 yX10_window yX10_window ∈ wsL_law := u_r14 _ (List.mem_of_getElem? (i := 1) rfl)
theorem ev_X10_window : u_mev yX10_window cX10_window 3 (some .int) 2 := ⟨e_X10_window, wv_X10_window, wl_X10_window⟩
theorem wc_X10_sum : Cond.code yX10_sum cX10_sum 2 (some .long) ∈ wsL_law := u_r7 _ (List.mem_of_getElem? (i := 11) rfl)
theorem e_X10_sum : u_me yX10_sum cX10_sum 2 (some .long) 1 := ⟨⟨by decide, by decide, by decide +kernel⟩, wi_RX10, wc_X10_sum⟩
theorem wv_X10_sum : Cond.instanceMethod yX10_sum ∈ wsL_law := u_r7 _ (List.mem_of_getElem? (i := 9) rfl)
theorem wl_X10_sum : Cond.selects RX10 yX10_sum yX10_sum ∈ wsL_law := u_r7 _ (List.mem_of_getElem? (i := 10) rfl)
theorem ev_X10_sum : u_mev yX10_sum cX10_sum 2 (some .long) 1 := ⟨e_X10_sum, wv_X10_sum, wl_X10_sum⟩
theorem wc_X10_within : Cond.code yX10_within cX10_within 3 (some .boolean) ∈ wsL_law := u_r5 _ (List.mem_of_getElem? (i := 13) rfl)
theorem e_X10_within : u_me yX10_within cX10_within 3 (some .boolean) 3 := ⟨⟨by decide, by decide, by decide +kernel⟩, wi_RX10, wc_X10_within⟩
theorem ws_X10_within : Cond.static yX10_within ∈ wsL_law := u_r5 _ (List.mem_of_getElem? (i := 12) rfl)
theorem es_X10_within : u_mes yX10_within cX10_within 3 (some .boolean) 3 := ⟨e_X10_within, ws_X10_within⟩
theorem wc_X10_goesWith : Cond.code yX10_goesWith cX10_goesWith 3 (some .int) ∈ wsL_law := u_r16 _ (List.mem_of_getElem? (i := 9) rfl)
theorem e_X10_goesWith : u_me yX10_goesWith cX10_goesWith 3 (some .int) 3 := ⟨⟨by decide, by decide, by decide +kernel⟩, wi_RX10, wc_X10_goesWith⟩
theorem ws_X10_goesWith : Cond.static yX10_goesWith ∈ wsL_law := u_r16 _ (List.mem_of_getElem? (i := 8) rfl)
theorem es_X10_goesWith : u_mes yX10_goesWith cX10_goesWith 3 (some .int) 3 := ⟨e_X10_goesWith, ws_X10_goesWith⟩
theorem wc_X10_tell : Cond.code yX10_tell cX10_tell 7 none ∈ wsL_law := u_r8 _ (List.mem_of_getElem? (i := 12) rfl)
theorem e_X10_tell : u_me yX10_tell cX10_tell 7 none 6 := ⟨⟨by decide, by decide, by decide +kernel⟩, wi_RX10, wc_X10_tell⟩
theorem wv_X10_tell : Cond.instanceMethod yX10_tell ∈ wsL_law := u_r8 _ (List.mem_of_getElem? (i := 10) rfl)
theorem wl_X10_tell : Cond.selects RX10 yX10_tell yX10_tell ∈ wsL_law := u_r8 _ (List.mem_of_getElem? (i := 11) rfl)
theorem ev_X10_tell : u_mev yX10_tell cX10_tell 7 none 6 := ⟨e_X10_tell, wv_X10_tell, wl_X10_tell⟩
theorem wi_RJ9 : Cond.initialized RJ9 ∈ wsL_law := u_r18 _ (List.mem_of_getElem? (i := 23) rfl)
theorem wc_J9_floorMod_7cf53 : Cond.code yJ9_floorMod_7cf53 cJ9_floorMod_7cf53 3 (some .int) ∈ wsL_law := u_r19 _ (List.mem_of_getElem? (i := 0) rfl)
theorem e_J9_floorMod_7cf53 : u_me yJ9_floorMod_7cf53 cJ9_floorMod_7cf53 3 (some .int) 2 := ⟨⟨by decide, by decide, by decide +kernel⟩, wi_RJ9, wc_J9_floorMod_7cf53⟩
theorem ws_J9_floorMod_7cf53 : Cond.static yJ9_floorMod_7cf53 ∈ wsL_law := u_r18 _ (List.mem_of_getElem? (i := 22) rfl)
theorem es_J9_floorMod_7cf53 : u_mes yJ9_floorMod_7cf53 cJ9_floorMod_7cf53 3 (some .int) 2 := ⟨e_J9_floorMod_7cf53, ws_J9_floorMod_7cf53⟩
theorem ml_RX0_3 : Cond.methodLink RX0 3 objectInit ∈ wsL_law := u_r3 _ (List.mem_of_getElem? (i := 19) rfl)
theorem mf_RX0_9 : Cond.fieldLink RX0 9 "Saltwedge$Barrier" "first" "[I" ∈ wsL_law := u_r3 _ (List.mem_of_getElem? (i := 20) rfl)
theorem pX0_init_10 : u_pf cX0_init RX0 10 0 0 true (.array (.int)) := ⟨9, RX0, TX0, 7, tyX0, dX0_init_10, rfl, inlX0, tyX0_ok, nmX0, by decide, mf_RX0_9, by decide, by decide, rfl, by decide +kernel, fun h => rfl⟩
theorem mf_RX0_15 : Cond.fieldLink RX0 15 "Saltwedge$Barrier" "last" "[I" ∈ wsL_law := u_r3 _ (List.mem_of_getElem? (i := 21) rfl)
theorem pX0_init_19 : u_pf cX0_init RX0 19 0 1 true (.array (.int)) := ⟨15, RX0, TX0, 7, tyX0, dX0_init_19, rfl, inlX0, tyX0_ok, nmX0, by decide, mf_RX0_15, by decide, by decide, rfl, by decide +kernel, fun h => rfl⟩
theorem mf_RX0_18 : Cond.fieldLink RX0 18 "Saltwedge$Barrier" "right" "[Z" ∈ wsL_law := u_r3 _ (List.mem_of_getElem? (i := 23) rfl)
theorem pX0_init_28 : u_pf cX0_init RX0 28 0 2 true (.array (.boolean)) := ⟨18, RX0, TX0, 7, tyX0, dX0_init_28, rfl, inlX0, tyX0_ok, nmX0, by decide, mf_RX0_18, by decide, by decide, rfl, by decide +kernel, fun h => rfl⟩
theorem mf_RX0_22 : Cond.fieldLink RX0 22 "Saltwedge$Barrier" "mark" "I" ∈ wsL_law := u_r4 _ (List.mem_of_getElem? (i := 0) rfl)
theorem pX0_init_33 : u_pf cX0_init RX0 33 0 4 false (.int) := ⟨22, RX0, TX0, 7, tyX0, dX0_init_33, rfl, inlX0, tyX0_ok, nmX0, by decide, mf_RX0_22, by decide, by decide, rfl, by decide +kernel, fun h => nomatch h⟩
theorem mf_RX0_26 : Cond.fieldLink RX0 26 "Saltwedge$Barrier" "closureCount" "I" ∈ wsL_law := u_r15 _ (List.mem_of_getElem? (i := 8) rfl)
theorem pX0_begin_2 : u_pf cX0_begin RX0 2 0 3 false (.int) := ⟨26, RX0, TX0, 7, tyX0, dX0_begin_2, rfl, inlX0, tyX0_ok, nmX0, by decide, mf_RX0_26, by decide, by decide, rfl, by decide +kernel, fun h => nomatch h⟩
theorem pX0_begin_7 : u_pf cX0_begin RX0 7 0 4 false (.int) := ⟨22, RX0, TX0, 7, tyX0, dX0_begin_7, rfl, inlX0, tyX0_ok, nmX0, by decide, mf_RX0_22, by decide, by decide, rfl, by decide +kernel, fun h => nomatch h⟩
theorem mf_RX0_29 : Cond.fieldLink RX0 29 "Saltwedge$Barrier" "lead" "I" ∈ wsL_law := u_r15 _ (List.mem_of_getElem? (i := 7) rfl)
theorem pX0_begin_12 : u_pf cX0_begin RX0 12 0 5 false (.int) := ⟨29, RX0, TX0, 7, tyX0, dX0_begin_12, rfl, inlX0, tyX0_ok, nmX0, by decide, mf_RX0_29, by decide, by decide, rfl, by decide +kernel, fun h => nomatch h⟩
theorem mf_RX0_32 : Cond.fieldLink RX0 32 "Saltwedge$Barrier" "closed" "Z" ∈ wsL_law := u_r15 _ (List.mem_of_getElem? (i := 6) rfl)
theorem pX0_begin_17 : u_pf cX0_begin RX0 17 0 6 false (.boolean) := ⟨32, RX0, TX0, 7, tyX0, dX0_begin_17, rfl, inlX0, tyX0_ok, nmX0, by decide, mf_RX0_32, by decide, by decide, rfl, by decide +kernel, fun h => nomatch h⟩
theorem gX0_look_1 : u_gf cX0_look RX0 1 0 6 := ⟨32, RX0, TX0, 7, dX0_look_1, rfl, inlX0, by decide, mf_RX0_32, by decide, by decide⟩
theorem gX0_look_7 : u_gf cX0_look RX0 7 0 4 := ⟨22, RX0, TX0, 7, dX0_look_7, rfl, inlX0, by decide, mf_RX0_22, by decide, by decide⟩
theorem gX0_look_16 : u_gf cX0_look RX0 16 0 4 := ⟨22, RX0, TX0, 7, dX0_look_16, rfl, inlX0, by decide, mf_RX0_22, by decide, by decide⟩
theorem gX0_look_22 : u_gf cX0_look RX0 22 0 5 := ⟨29, RX0, TX0, 7, dX0_look_22, rfl, inlX0, by decide, mf_RX0_29, by decide, by decide⟩
theorem ml_RX0_36 : Cond.methodLink RX0 36 yX5_foretoldAbove ∈ wsL_law := u_r15 _ (List.mem_of_getElem? (i := 9) rfl)
theorem pX0_look_37 : u_pf cX0_look RX0 37 0 6 false (.boolean) := ⟨32, RX0, TX0, 7, tyX0, dX0_look_37, rfl, inlX0, tyX0_ok, nmX0, by decide, mf_RX0_32, by decide, by decide, rfl, by decide +kernel, fun h => nomatch h⟩
theorem gX0_look_41 : u_gf cX0_look RX0 41 0 6 := ⟨32, RX0, TX0, 7, dX0_look_41, rfl, inlX0, by decide, mf_RX0_32, by decide, by decide⟩
theorem gX0_look_53 : u_gf cX0_look RX0 53 0 3 := ⟨26, RX0, TX0, 7, dX0_look_53, rfl, inlX0, by decide, mf_RX0_26, by decide, by decide⟩
theorem gX0_look_57 : u_gf cX0_look RX0 57 0 0 := ⟨9, RX0, TX0, 7, dX0_look_57, rfl, inlX0, by decide, mf_RX0_9, by decide, by decide⟩
theorem gX0_look_65 : u_gf cX0_look RX0 65 0 0 := ⟨9, RX0, TX0, 7, dX0_look_65, rfl, inlX0, by decide, mf_RX0_9, by decide, by decide⟩
theorem gX0_look_69 : u_gf cX0_look RX0 69 0 3 := ⟨26, RX0, TX0, 7, dX0_look_69, rfl, inlX0, by decide, mf_RX0_26, by decide, by decide⟩
theorem gX0_look_75 : u_gf cX0_look RX0 75 0 2 := ⟨18, RX0, TX0, 7, dX0_look_75, rfl, inlX0, by decide, mf_RX0_18, by decide, by decide⟩
theorem gX0_look_79 : u_gf cX0_look RX0 79 0 3 := ⟨26, RX0, TX0, 7, dX0_look_79, rfl, inlX0, by decide, mf_RX0_26, by decide, by decide⟩
theorem gX0_look_86 : u_gf cX0_look RX0 86 0 3 := ⟨26, RX0, TX0, 7, dX0_look_86, rfl, inlX0, by decide, mf_RX0_26, by decide, by decide⟩
theorem pX0_look_91 : u_pf cX0_look RX0 91 0 3 false (.int) := ⟨26, RX0, TX0, 7, tyX0, dX0_look_91, rfl, inlX0, tyX0_ok, nmX0, by decide, mf_RX0_26, by decide, by decide, rfl, by decide +kernel, fun h => nomatch h⟩
theorem gX0_look_95 : u_gf cX0_look RX0 95 0 3 := ⟨26, RX0, TX0, 7, dX0_look_95, rfl, inlX0, by decide, mf_RX0_26, by decide, by decide⟩
theorem gX0_look_108 : u_gf cX0_look RX0 108 0 1 := ⟨15, RX0, TX0, 7, dX0_look_108, rfl, inlX0, by decide, mf_RX0_15, by decide, by decide⟩
theorem gX0_look_116 : u_gf cX0_look RX0 116 0 2 := ⟨18, RX0, TX0, 7, dX0_look_116, rfl, inlX0, by decide, mf_RX0_18, by decide, by decide⟩
theorem gX0_look_122 : u_gf cX0_look RX0 122 0 2 := ⟨18, RX0, TX0, 7, dX0_look_122, rfl, inlX0, by decide, mf_RX0_18, by decide, by decide⟩
theorem ml_RX0_42 : Cond.methodLink RX0 42 yX5_foretold ∈ wsL_law := u_r15 _ (List.mem_of_getElem? (i := 14) rfl)
theorem gX0_look_137 : u_gf cX0_look RX0 137 0 4 := ⟨22, RX0, TX0, 7, dX0_look_137, rfl, inlX0, by decide, mf_RX0_22, by decide, by decide⟩
theorem gX0_answer_29 : u_gf cX0_answer RX0 29 0 0 := ⟨9, RX0, TX0, 7, dX0_answer_29, rfl, inlX0, by decide, mf_RX0_9, by decide, by decide⟩
theorem gX0_answer_36 : u_gf cX0_answer RX0 36 0 1 := ⟨15, RX0, TX0, 7, dX0_answer_36, rfl, inlX0, by decide, mf_RX0_15, by decide, by decide⟩
theorem gX0_answer_43 : u_gf cX0_answer RX0 43 0 2 := ⟨18, RX0, TX0, 7, dX0_answer_43, rfl, inlX0, by decide, mf_RX0_18, by decide, by decide⟩
theorem ml_RX1_3 : Cond.methodLink RX1 3 objectInit ∈ wsL_law := u_r4 _ (List.mem_of_getElem? (i := 16) rfl)
theorem mf_RX1_9 : Cond.fieldLink RX1 9 "Saltwedge$Intake" "section" "I" ∈ wsL_law := u_r10 _ (List.mem_of_getElem? (i := 17) rfl)
theorem pX1_begin_2 : u_pf cX1_begin RX1 2 1 0 false (.int) := ⟨9, RX1, TX1, 10, tyX1, dX1_begin_2, rfl, inlX1, tyX1_ok, nmX1, by decide, mf_RX1_9, by decide, by decide, rfl, by decide +kernel, fun h => nomatch h⟩
theorem mf_RX1_15 : Cond.fieldLink RX1 15 "Saltwedge$Intake" "rate" "I" ∈ wsL_law := u_r10 _ (List.mem_of_getElem? (i := 18) rfl)
theorem pX1_begin_7 : u_pf cX1_begin RX1 7 1 1 false (.int) := ⟨15, RX1, TX1, 10, tyX1, dX1_begin_7, rfl, inlX1, tyX1_ok, nmX1, by decide, mf_RX1_15, by decide, by decide, rfl, by decide +kernel, fun h => nomatch h⟩
theorem mf_RX1_18 : Cond.fieldLink RX1 18 "Saltwedge$Intake" "grain" "I" ∈ wsL_law := u_r10 _ (List.mem_of_getElem? (i := 19) rfl)
theorem pX1_begin_12 : u_pf cX1_begin RX1 12 1 2 false (.int) := ⟨18, RX1, TX1, 10, tyX1, dX1_begin_12, rfl, inlX1, tyX1_ok, nmX1, by decide, mf_RX1_18, by decide, by decide, rfl, by decide +kernel, fun h => nomatch h⟩
theorem mf_RX1_21 : Cond.fieldLink RX1 21 "Saltwedge$Intake" "room" "I" ∈ wsL_law := u_r10 _ (List.mem_of_getElem? (i := 20) rfl)
theorem pX1_begin_18 : u_pf cX1_begin RX1 18 1 3 false (.int) := ⟨21, RX1, TX1, 10, tyX1, dX1_begin_18, rfl, inlX1, tyX1_ok, nmX1, by decide, mf_RX1_21, by decide, by decide, rfl, by decide +kernel, fun h => nomatch h⟩
theorem mf_RX1_24 : Cond.fieldLink RX1 24 "Saltwedge$Intake" "use" "I" ∈ wsL_law := u_r10 _ (List.mem_of_getElem? (i := 21) rfl)
theorem pX1_begin_24 : u_pf cX1_begin RX1 24 1 4 false (.int) := ⟨24, RX1, TX1, 10, tyX1, dX1_begin_24, rfl, inlX1, tyX1_ok, nmX1, by decide, mf_RX1_24, by decide, by decide, rfl, by decide +kernel, fun h => nomatch h⟩
theorem mf_RX1_27 : Cond.fieldLink RX1 27 "Saltwedge$Intake" "held" "I" ∈ wsL_law := u_r10 _ (List.mem_of_getElem? (i := 22) rfl)
theorem pX1_begin_29 : u_pf cX1_begin RX1 29 1 5 false (.int) := ⟨27, RX1, TX1, 10, tyX1, dX1_begin_29, rfl, inlX1, tyX1_ok, nmX1, by decide, mf_RX1_27, by decide, by decide, rfl, by decide +kernel, fun h => nomatch h⟩
theorem mf_RX1_30 : Cond.fieldLink RX1 30 "Saltwedge$Intake" "taken" "I" ∈ wsL_law := u_r10 _ (List.mem_of_getElem? (i := 23) rfl)
theorem pX1_begin_34 : u_pf cX1_begin RX1 34 1 6 false (.int) := ⟨30, RX1, TX1, 10, tyX1, dX1_begin_34, rfl, inlX1, tyX1_ok, nmX1, by decide, mf_RX1_30, by decide, by decide, rfl, by decide +kernel, fun h => nomatch h⟩
theorem mf_RX1_33 : Cond.fieldLink RX1 33 "Saltwedge$Intake" "lacking" "I" ∈ wsL_law := u_r11 _ (List.mem_of_getElem? (i := 0) rfl)
theorem pX1_begin_39 : u_pf cX1_begin RX1 39 1 7 false (.int) := ⟨33, RX1, TX1, 10, tyX1, dX1_begin_39, rfl, inlX1, tyX1_ok, nmX1, by decide, mf_RX1_33, by decide, by decide, rfl, by decide +kernel, fun h => nomatch h⟩
theorem mf_RX1_36 : Cond.fieldLink RX1 36 "Saltwedge$Intake" "stoppedHours" "I" ∈ wsL_law := u_r11 _ (List.mem_of_getElem? (i := 1) rfl)
theorem pX1_begin_44 : u_pf cX1_begin RX1 44 1 8 false (.int) := ⟨36, RX1, TX1, 10, tyX1, dX1_begin_44, rfl, inlX1, tyX1_ok, nmX1, by decide, mf_RX1_36, by decide, by decide, rfl, by decide +kernel, fun h => nomatch h⟩
theorem mf_RX1_39 : Cond.fieldLink RX1 39 "Saltwedge$Intake" "stopped" "Z" ∈ wsL_law := u_r11 _ (List.mem_of_getElem? (i := 2) rfl)
theorem pX1_begin_49 : u_pf cX1_begin RX1 49 1 9 false (.boolean) := ⟨39, RX1, TX1, 10, tyX1, dX1_begin_49, rfl, inlX1, tyX1_ok, nmX1, by decide, mf_RX1_39, by decide, by decide, rfl, by decide +kernel, fun h => nomatch h⟩
theorem mf_RX1_43 : Cond.fieldLink RX1 43 "Saltwedge$Layer" "water" "I" ∈ wsL_law := u_r18 _ (List.mem_of_getElem? (i := 9) rfl)
theorem gX1_take_2 : u_gf cX1_take RX1 2 2 0 := ⟨43, RX2, TX2, 2, dX1_take_2, rfl, inlX2, by decide, mf_RX1_43, by decide, by decide⟩
theorem ml_RX1_48 : Cond.methodLink RX1 48 yX2_salinity ∈ wsL_law := u_r18 _ (List.mem_of_getElem? (i := 11) rfl)
theorem gX1_take_13 : u_gf cX1_take RX1 13 1 2 := ⟨18, RX1, TX1, 10, dX1_take_13, rfl, inlX1, by decide, mf_RX1_18, by decide, by decide⟩
theorem pX1_take_24 : u_pf cX1_take RX1 24 1 9 false (.boolean) := ⟨39, RX1, TX1, 10, tyX1, dX1_take_24, rfl, inlX1, tyX1_ok, nmX1, by decide, mf_RX1_39, by decide, by decide, rfl, by decide +kernel, fun h => nomatch h⟩
theorem gX1_take_28 : u_gf cX1_take RX1 28 1 9 := ⟨39, RX1, TX1, 10, dX1_take_28, rfl, inlX1, by decide, mf_RX1_39, by decide, by decide⟩
theorem gX1_take_36 : u_gf cX1_take RX1 36 1 8 := ⟨36, RX1, TX1, 10, dX1_take_36, rfl, inlX1, by decide, mf_RX1_36, by decide, by decide⟩
theorem pX1_take_41 : u_pf cX1_take RX1 41 1 8 false (.int) := ⟨36, RX1, TX1, 10, tyX1, dX1_take_41, rfl, inlX1, tyX1_ok, nmX1, by decide, mf_RX1_36, by decide, by decide, rfl, by decide +kernel, fun h => nomatch h⟩
theorem gX1_take_46 : u_gf cX1_take RX1 46 1 1 := ⟨15, RX1, TX1, 10, dX1_take_46, rfl, inlX1, by decide, mf_RX1_15, by decide, by decide⟩
theorem gX1_take_50 : u_gf cX1_take RX1 50 2 0 := ⟨43, RX2, TX2, 2, dX1_take_50, rfl, inlX2, by decide, mf_RX1_43, by decide, by decide⟩
theorem ml_RX1_52 : Cond.methodLink RX1 52 Lib.Math.min.name ∈ wsL_law := u_r18 _ (List.mem_of_getElem? (i := 10) rfl)
theorem gX1_take_57 : u_gf cX1_take RX1 57 1 3 := ⟨21, RX1, TX1, 10, dX1_take_57, rfl, inlX1, by decide, mf_RX1_21, by decide, by decide⟩
theorem gX1_take_61 : u_gf cX1_take RX1 61 1 5 := ⟨27, RX1, TX1, 10, dX1_take_61, rfl, inlX1, by decide, mf_RX1_27, by decide, by decide⟩
theorem ml_RX1_58 : Cond.methodLink RX1 58 yX2_giveOut ∈ wsL_law := u_r18 _ (List.mem_of_getElem? (i := 12) rfl)
theorem gX1_take_78 : u_gf cX1_take RX1 78 1 5 := ⟨27, RX1, TX1, 10, dX1_take_78, rfl, inlX1, by decide, mf_RX1_27, by decide, by decide⟩
theorem pX1_take_83 : u_pf cX1_take RX1 83 1 5 false (.int) := ⟨27, RX1, TX1, 10, tyX1, dX1_take_83, rfl, inlX1, tyX1_ok, nmX1, by decide, mf_RX1_27, by decide, by decide, rfl, by decide +kernel, fun h => nomatch h⟩
theorem gX1_take_88 : u_gf cX1_take RX1 88 1 6 := ⟨30, RX1, TX1, 10, dX1_take_88, rfl, inlX1, by decide, mf_RX1_30, by decide, by decide⟩
theorem pX1_take_93 : u_pf cX1_take RX1 93 1 6 false (.int) := ⟨30, RX1, TX1, 10, tyX1, dX1_take_93, rfl, inlX1, tyX1_ok, nmX1, by decide, mf_RX1_30, by decide, by decide, rfl, by decide +kernel, fun h => nomatch h⟩
theorem gX1_supply_1 : u_gf cX1_supply RX1 1 1 4 := ⟨24, RX1, TX1, 10, dX1_supply_1, rfl, inlX1, by decide, mf_RX1_24, by decide, by decide⟩
theorem gX1_supply_5 : u_gf cX1_supply RX1 5 1 5 := ⟨27, RX1, TX1, 10, dX1_supply_5, rfl, inlX1, by decide, mf_RX1_27, by decide, by decide⟩
theorem gX1_supply_14 : u_gf cX1_supply RX1 14 1 5 := ⟨27, RX1, TX1, 10, dX1_supply_14, rfl, inlX1, by decide, mf_RX1_27, by decide, by decide⟩
theorem pX1_supply_19 : u_pf cX1_supply RX1 19 1 5 false (.int) := ⟨27, RX1, TX1, 10, tyX1, dX1_supply_19, rfl, inlX1, tyX1_ok, nmX1, by decide, mf_RX1_27, by decide, by decide, rfl, by decide +kernel, fun h => nomatch h⟩
theorem gX1_supply_24 : u_gf cX1_supply RX1 24 1 7 := ⟨33, RX1, TX1, 10, dX1_supply_24, rfl, inlX1, by decide, mf_RX1_33, by decide, by decide⟩
theorem gX1_supply_28 : u_gf cX1_supply RX1 28 1 4 := ⟨24, RX1, TX1, 10, dX1_supply_28, rfl, inlX1, by decide, mf_RX1_24, by decide, by decide⟩
theorem pX1_supply_34 : u_pf cX1_supply RX1 34 1 7 false (.int) := ⟨33, RX1, TX1, 10, tyX1, dX1_supply_34, rfl, inlX1, tyX1_ok, nmX1, by decide, mf_RX1_33, by decide, by decide, rfl, by decide +kernel, fun h => nomatch h⟩
theorem gX1_answer_33 : u_gf cX1_answer RX1 33 1 5 := ⟨27, RX1, TX1, 10, dX1_answer_33, rfl, inlX1, by decide, mf_RX1_27, by decide, by decide⟩
theorem gX1_answer_38 : u_gf cX1_answer RX1 38 1 6 := ⟨30, RX1, TX1, 10, dX1_answer_38, rfl, inlX1, by decide, mf_RX1_30, by decide, by decide⟩
theorem gX1_answer_43 : u_gf cX1_answer RX1 43 1 7 := ⟨33, RX1, TX1, 10, dX1_answer_43, rfl, inlX1, by decide, mf_RX1_33, by decide, by decide⟩
theorem gX1_answer_48 : u_gf cX1_answer RX1 48 1 9 := ⟨39, RX1, TX1, 10, dX1_answer_48, rfl, inlX1, by decide, mf_RX1_39, by decide, by decide⟩
theorem gX1_answer_61 : u_gf cX1_answer RX1 61 1 8 := ⟨36, RX1, TX1, 10, dX1_answer_61, rfl, inlX1, by decide, mf_RX1_36, by decide, by decide⟩
theorem ml_RX2_1 : Cond.methodLink RX2 1 objectInit ∈ wsL_law := u_r4 _ (List.mem_of_getElem? (i := 13) rfl)
theorem mf_RX2_7 : Cond.fieldLink RX2 7 "Saltwedge$Layer" "water" "I" ∈ wsL_law := u_r7 _ (List.mem_of_getElem? (i := 6) rfl)
theorem pX2_begin_2 : u_pf cX2_begin RX2 2 2 0 false (.int) := ⟨7, RX2, TX2, 2, tyX2, dX2_begin_2, rfl, inlX2, tyX2_ok, nmX2, by decide, mf_RX2_7, by decide, by decide, rfl, by decide +kernel, fun h => nomatch h⟩
theorem mf_RX2_13 : Cond.fieldLink RX2 13 "Saltwedge$Layer" "salt" "I" ∈ wsL_law := u_r7 _ (List.mem_of_getElem? (i := 7) rfl)
theorem pX2_begin_7 : u_pf cX2_begin RX2 7 2 1 false (.int) := ⟨13, RX2, TX2, 2, tyX2, dX2_begin_7, rfl, inlX2, tyX2_ok, nmX2, by decide, mf_RX2_13, by decide, by decide, rfl, by decide +kernel, fun h => nomatch h⟩
theorem gX2_salinity_1 : u_gf cX2_salinity RX2 1 2 0 := ⟨7, RX2, TX2, 2, dX2_salinity_1, rfl, inlX2, by decide, mf_RX2_7, by decide, by decide⟩
theorem gX2_salinity_12 : u_gf cX2_salinity RX2 12 2 1 := ⟨13, RX2, TX2, 2, dX2_salinity_12, rfl, inlX2, by decide, mf_RX2_13, by decide, by decide⟩
theorem gX2_salinity_16 : u_gf cX2_salinity RX2 16 2 0 := ⟨7, RX2, TX2, 2, dX2_salinity_16, rfl, inlX2, by decide, mf_RX2_7, by decide, by decide⟩
theorem gX2_saltWith_2 : u_gf cX2_saltWith RX2 2 2 1 := ⟨13, RX2, TX2, 2, dX2_saltWith_2, rfl, inlX2, by decide, mf_RX2_13, by decide, by decide⟩
theorem gX2_saltWith_6 : u_gf cX2_saltWith RX2 6 2 0 := ⟨7, RX2, TX2, 2, dX2_saltWith_6, rfl, inlX2, by decide, mf_RX2_7, by decide, by decide⟩
theorem gX2_giveOut_2 : u_gf cX2_giveOut RX2 2 2 1 := ⟨13, RX2, TX2, 2, dX2_giveOut_2, rfl, inlX2, by decide, mf_RX2_13, by decide, by decide⟩
theorem gX2_giveOut_6 : u_gf cX2_giveOut RX2 6 2 0 := ⟨7, RX2, TX2, 2, dX2_giveOut_6, rfl, inlX2, by decide, mf_RX2_7, by decide, by decide⟩
theorem gX2_giveOut_15 : u_gf cX2_giveOut RX2 15 2 0 := ⟨7, RX2, TX2, 2, dX2_giveOut_15, rfl, inlX2, by decide, mf_RX2_7, by decide, by decide⟩
theorem pX2_giveOut_20 : u_pf cX2_giveOut RX2 20 2 0 false (.int) := ⟨7, RX2, TX2, 2, tyX2, dX2_giveOut_20, rfl, inlX2, tyX2_ok, nmX2, by decide, mf_RX2_7, by decide, by decide, rfl, by decide +kernel, fun h => nomatch h⟩
theorem gX2_giveOut_25 : u_gf cX2_giveOut RX2 25 2 1 := ⟨13, RX2, TX2, 2, dX2_giveOut_25, rfl, inlX2, by decide, mf_RX2_13, by decide, by decide⟩
theorem pX2_giveOut_30 : u_pf cX2_giveOut RX2 30 2 1 false (.int) := ⟨13, RX2, TX2, 2, tyX2, dX2_giveOut_30, rfl, inlX2, tyX2_ok, nmX2, by decide, mf_RX2_13, by decide, by decide, rfl, by decide +kernel, fun h => nomatch h⟩
theorem gX2_takeIn_2 : u_gf cX2_takeIn RX2 2 2 0 := ⟨7, RX2, TX2, 2, dX2_takeIn_2, rfl, inlX2, by decide, mf_RX2_7, by decide, by decide⟩
theorem pX2_takeIn_7 : u_pf cX2_takeIn RX2 7 2 0 false (.int) := ⟨7, RX2, TX2, 2, tyX2, dX2_takeIn_7, rfl, inlX2, tyX2_ok, nmX2, by decide, mf_RX2_7, by decide, by decide, rfl, by decide +kernel, fun h => nomatch h⟩
theorem gX2_takeIn_12 : u_gf cX2_takeIn RX2 12 2 1 := ⟨13, RX2, TX2, 2, dX2_takeIn_12, rfl, inlX2, by decide, mf_RX2_13, by decide, by decide⟩
theorem pX2_takeIn_17 : u_pf cX2_takeIn RX2 17 2 1 false (.int) := ⟨13, RX2, TX2, 2, tyX2, dX2_takeIn_17, rfl, inlX2, tyX2_ok, nmX2, by decide, mf_RX2_13, by decide, by decide, rfl, by decide +kernel, fun h => nomatch h⟩
theorem ml_RX3_3 : Cond.methodLink RX3 3 objectInit ∈ wsL_law := u_r2 _ (List.mem_of_getElem? (i := 2) rfl)
theorem ml_RX3_11 : Cond.methodLink RX3 11 yX5_init ∈ wsL_law := u_r2 _ (List.mem_of_getElem? (i := 21) rfl)
theorem mf_RX3_12 : Cond.fieldLink RX3 12 "Saltwedge$Mouth" "sea" "LSaltwedge$Sea;" ∈ wsL_law := u_r2 _ (List.mem_of_getElem? (i := 6) rfl)
theorem pX3_init_12 : u_pf cX3_init RX3 12 3 0 true (.object "Saltwedge$Sea") := ⟨12, RX3, TX3, 10, tyX3, dX3_init_12, rfl, inlX3, tyX3_ok, nmX3, by decide, mf_RX3_12, by decide, by decide, rfl, by decide +kernel, fun h => rfl⟩
theorem mf_RX3_21 : Cond.fieldLink RX3 21 "Saltwedge$Mouth" "barrier" "LSaltwedge$Barrier;" ∈ wsL_law := u_r2 _ (List.mem_of_getElem? (i := 10) rfl)
theorem pX3_init_23 : u_pf cX3_init RX3 23 3 1 true (.object "Saltwedge$Barrier") := ⟨21, RX3, TX3, 10, tyX3, dX3_init_23, rfl, inlX3, tyX3_ok, nmX3, by decide, mf_RX3_21, by decide, by decide, rfl, by decide +kernel, fun h => rfl⟩
theorem mf_RX3_27 : Cond.fieldLink RX3 27 "Saltwedge$Mouth" "sections" "[LSaltwedge$Section;" ∈ wsL_law := u_r2 _ (List.mem_of_getElem? (i := 12) rfl)
theorem pX3_init_32 : u_pf cX3_init RX3 32 3 2 true (.array (.object "Saltwedge$Section")) := ⟨27, RX3, TX3, 10, tyX3, dX3_init_32, rfl, inlX3, tyX3_ok, nmX3, by decide, mf_RX3_27, by decide, by decide, rfl, by decide +kernel, fun h => rfl⟩
theorem mf_RX3_33 : Cond.fieldLink RX3 33 "Saltwedge$Mouth" "intakes" "[LSaltwedge$Intake;" ∈ wsL_law := u_r2 _ (List.mem_of_getElem? (i := 14) rfl)
theorem pX3_init_41 : u_pf cX3_init RX3 41 3 3 true (.array (.object "Saltwedge$Intake")) := ⟨33, RX3, TX3, 10, tyX3, dX3_init_41, rfl, inlX3, tyX3_ok, nmX3, by decide, mf_RX3_33, by decide, by decide, rfl, by decide +kernel, fun h => rfl⟩
theorem mf_RX3_37 : Cond.fieldLink RX3 37 "Saltwedge$Mouth" "sums" "[J" ∈ wsL_law := u_r2 _ (List.mem_of_getElem? (i := 16) rfl)
theorem pX3_init_49 : u_pf cX3_init RX3 49 3 4 true (.array (.long)) := ⟨37, RX3, TX3, 10, tyX3, dX3_init_49, rfl, inlX3, tyX3_ok, nmX3, by decide, mf_RX3_37, by decide, by decide, rfl, by decide +kernel, fun h => rfl⟩
theorem gX3_init_56 : u_gf cX3_init RX3 56 3 2 := ⟨27, RX3, TX3, 10, dX3_init_56, rfl, inlX3, by decide, mf_RX3_27, by decide, by decide⟩
theorem gX3_init_64 : u_gf cX3_init RX3 64 3 2 := ⟨27, RX3, TX3, 10, dX3_init_64, rfl, inlX3, by decide, mf_RX3_27, by decide, by decide⟩
theorem gX3_init_86 : u_gf cX3_init RX3 86 3 3 := ⟨33, RX3, TX3, 10, dX3_init_86, rfl, inlX3, by decide, mf_RX3_33, by decide, by decide⟩
theorem gX3_init_94 : u_gf cX3_init RX3 94 3 3 := ⟨33, RX3, TX3, 10, dX3_init_94, rfl, inlX3, by decide, mf_RX3_33, by decide, by decide⟩
theorem gX3_begin_1 : u_gf cX3_begin RX3 1 3 0 := ⟨12, RX3, TX3, 10, dX3_begin_1, rfl, inlX3, by decide, mf_RX3_12, by decide, by decide⟩
theorem ml_RX3_43 : Cond.methodLink RX3 43 yX5_begin ∈ wsL_law := u_r22 _ (List.mem_of_getElem? (i := 10) rfl)
theorem gX3_begin_8 : u_gf cX3_begin RX3 8 3 1 := ⟨21, RX3, TX3, 10, dX3_begin_8, rfl, inlX3, by decide, mf_RX3_21, by decide, by decide⟩
theorem ml_RX3_46 : Cond.methodLink RX3 46 yX0_begin ∈ wsL_law := u_r22 _ (List.mem_of_getElem? (i := 14) rfl)
theorem gX3_begin_18 : u_gf cX3_begin RX3 18 3 4 := ⟨37, RX3, TX3, 10, dX3_begin_18, rfl, inlX3, by decide, mf_RX3_37, by decide, by decide⟩
theorem gX3_begin_26 : u_gf cX3_begin RX3 26 3 4 := ⟨37, RX3, TX3, 10, dX3_begin_26, rfl, inlX3, by decide, mf_RX3_37, by decide, by decide⟩
theorem mf_RX3_47 : Cond.fieldLink RX3 47 "Saltwedge$Mouth" "sectionCount" "I" ∈ wsL_law := u_r9 _ (List.mem_of_getElem? (i := 19) rfl)
theorem pX3_begin_40 : u_pf cX3_begin RX3 40 3 5 false (.int) := ⟨47, RX3, TX3, 10, tyX3, dX3_begin_40, rfl, inlX3, tyX3_ok, nmX3, by decide, mf_RX3_47, by decide, by decide, rfl, by decide +kernel, fun h => nomatch h⟩
theorem mf_RX3_51 : Cond.fieldLink RX3 51 "Saltwedge$Mouth" "intakeCount" "I" ∈ wsL_law := u_r10 _ (List.mem_of_getElem? (i := 12) rfl)
theorem pX3_begin_45 : u_pf cX3_begin RX3 45 3 6 false (.int) := ⟨51, RX3, TX3, 10, tyX3, dX3_begin_45, rfl, inlX3, tyX3_ok, nmX3, by decide, mf_RX3_51, by decide, by decide, rfl, by decide +kernel, fun h => nomatch h⟩
theorem mf_RX3_54 : Cond.fieldLink RX3 54 "Saltwedge$Mouth" "riverWater" "I" ∈ wsL_law := u_r8 _ (List.mem_of_getElem? (i := 23) rfl)
theorem pX3_begin_50 : u_pf cX3_begin RX3 50 3 7 false (.int) := ⟨54, RX3, TX3, 10, tyX3, dX3_begin_50, rfl, inlX3, tyX3_ok, nmX3, by decide, mf_RX3_54, by decide, by decide, rfl, by decide +kernel, fun h => nomatch h⟩
theorem mf_RX3_57 : Cond.fieldLink RX3 57 "Saltwedge$Mouth" "riverSilt" "I" ∈ wsL_law := u_r9 _ (List.mem_of_getElem? (i := 0) rfl)
theorem pX3_begin_55 : u_pf cX3_begin RX3 55 3 8 false (.int) := ⟨57, RX3, TX3, 10, tyX3, dX3_begin_55, rfl, inlX3, tyX3_ok, nmX3, by decide, mf_RX3_57, by decide, by decide, rfl, by decide +kernel, fun h => nomatch h⟩
theorem mf_RX3_60 : Cond.fieldLink RX3 60 "Saltwedge$Mouth" "now" "I" ∈ wsL_law := u_r5 _ (List.mem_of_getElem? (i := 18) rfl)
theorem pX3_begin_60 : u_pf cX3_begin RX3 60 3 9 false (.int) := ⟨60, RX3, TX3, 10, tyX3, dX3_begin_60, rfl, inlX3, tyX3_ok, nmX3, by decide, mf_RX3_60, by decide, by decide, rfl, by decide +kernel, fun h => nomatch h⟩
theorem gX3_hasSection_6 : u_gf cX3_hasSection RX3 6 3 5 := ⟨47, RX3, TX3, 10, dX3_hasSection_6, rfl, inlX3, by decide, mf_RX3_47, by decide, by decide⟩
theorem gX3_hear_53 : u_gf cX3_hear RX3 53 3 0 := ⟨12, RX3, TX3, 10, dX3_hear_53, rfl, inlX3, by decide, mf_RX3_12, by decide, by decide⟩
theorem ml_RX3_63 : Cond.methodLink RX3 63 yX5_addTurn ∈ wsL_law := u_r9 _ (List.mem_of_getElem? (i := 3) rfl)
theorem gX3_hear_69 : u_gf cX3_hear RX3 69 3 0 := ⟨12, RX3, TX3, 10, dX3_hear_69, rfl, inlX3, by decide, mf_RX3_12, by decide, by decide⟩
theorem mf_RX3_67 : Cond.fieldLink RX3 67 "Saltwedge$Sea" "mean" "I" ∈ wsL_law := u_r8 _ (List.mem_of_getElem? (i := 22) rfl)
theorem pX3_hear_73 : u_pf cX3_hear RX3 73 5 5 false (.int) := ⟨67, RX5, TX5, 6, tyX5, dX3_hear_73, rfl, inlX5, tyX5_ok, nmX5, by decide, mf_RX3_67, by decide, by decide, rfl, by decide +kernel, fun h => nomatch h⟩
theorem gX3_hear_80 : u_gf cX3_hear RX3 80 3 0 := ⟨12, RX3, TX3, 10, dX3_hear_80, rfl, inlX3, by decide, mf_RX3_12, by decide, by decide⟩
theorem ml_RX3_70 : Cond.methodLink RX3 70 yX5_addSurge ∈ wsL_law := u_r9 _ (List.mem_of_getElem? (i := 11) rfl)
theorem pX3_hear_95 : u_pf cX3_hear RX3 95 3 7 false (.int) := ⟨54, RX3, TX3, 10, tyX3, dX3_hear_95, rfl, inlX3, tyX3_ok, nmX3, by decide, mf_RX3_54, by decide, by decide, rfl, by decide +kernel, fun h => nomatch h⟩
theorem pX3_hear_100 : u_pf cX3_hear RX3 100 3 8 false (.int) := ⟨57, RX3, TX3, 10, tyX3, dX3_hear_100, rfl, inlX3, tyX3_ok, nmX3, by decide, mf_RX3_57, by decide, by decide, rfl, by decide +kernel, fun h => nomatch h⟩
theorem gX3_hear_107 : u_gf cX3_hear RX3 107 3 1 := ⟨21, RX3, TX3, 10, dX3_hear_107, rfl, inlX3, by decide, mf_RX3_21, by decide, by decide⟩
theorem mf_RX3_74 : Cond.fieldLink RX3 74 "Saltwedge$Barrier" "mark" "I" ∈ wsL_law := u_r9 _ (List.mem_of_getElem? (i := 1) rfl)
theorem pX3_hear_111 : u_pf cX3_hear RX3 111 0 4 false (.int) := ⟨74, RX0, TX0, 7, tyX0, dX3_hear_111, rfl, inlX0, tyX0_ok, nmX0, by decide, mf_RX3_74, by decide, by decide, rfl, by decide +kernel, fun h => nomatch h⟩
theorem gX3_hear_115 : u_gf cX3_hear RX3 115 3 1 := ⟨21, RX3, TX3, 10, dX3_hear_115, rfl, inlX3, by decide, mf_RX3_21, by decide, by decide⟩
theorem mf_RX3_77 : Cond.fieldLink RX3 77 "Saltwedge$Barrier" "lead" "I" ∈ wsL_law := u_r9 _ (List.mem_of_getElem? (i := 2) rfl)
theorem pX3_hear_119 : u_pf cX3_hear RX3 119 0 5 false (.int) := ⟨77, RX0, TX0, 7, tyX0, dX3_hear_119, rfl, inlX0, tyX0_ok, nmX0, by decide, mf_RX3_77, by decide, by decide, rfl, by decide +kernel, fun h => nomatch h⟩
theorem ml_RX3_80 : Cond.methodLink RX3 80 yX3_addSection ∈ wsL_law := u_r9 _ (List.mem_of_getElem? (i := 15) rfl)
theorem ml_RX3_83 : Cond.methodLink RX3 83 yX3_addIntake ∈ wsL_law := u_r10 _ (List.mem_of_getElem? (i := 8) rfl)
theorem ml_RX3_87 : Cond.methodLink RX3 87 yX3_setPermit ∈ wsL_law := u_r11 _ (List.mem_of_getElem? (i := 3) rfl)
theorem ml_RX3_91 : Cond.methodLink RX3 91 yX3_moveMud ∈ wsL_law := u_r11 _ (List.mem_of_getElem? (i := 12) rfl)
theorem gX3_addSection_1 : u_gf cX3_addSection RX3 1 3 5 := ⟨47, RX3, TX3, 10, dX3_addSection_1, rfl, inlX3, by decide, mf_RX3_47, by decide, by decide⟩
theorem gX3_addSection_5 : u_gf cX3_addSection RX3 5 3 2 := ⟨27, RX3, TX3, 10, dX3_addSection_5, rfl, inlX3, by decide, mf_RX3_27, by decide, by decide⟩
theorem gX3_addSection_13 : u_gf cX3_addSection RX3 13 3 2 := ⟨27, RX3, TX3, 10, dX3_addSection_13, rfl, inlX3, by decide, mf_RX3_27, by decide, by decide⟩
theorem gX3_addSection_17 : u_gf cX3_addSection RX3 17 3 5 := ⟨47, RX3, TX3, 10, dX3_addSection_17, rfl, inlX3, by decide, mf_RX3_47, by decide, by decide⟩
theorem ml_RX3_94 : Cond.methodLink RX3 94 yX6_begin ∈ wsL_law := u_r9 _ (List.mem_of_getElem? (i := 20) rfl)
theorem gX3_addSection_31 : u_gf cX3_addSection RX3 31 3 5 := ⟨47, RX3, TX3, 10, dX3_addSection_31, rfl, inlX3, by decide, mf_RX3_47, by decide, by decide⟩
theorem pX3_addSection_36 : u_pf cX3_addSection RX3 36 3 5 false (.int) := ⟨47, RX3, TX3, 10, tyX3, dX3_addSection_36, rfl, inlX3, tyX3_ok, nmX3, by decide, mf_RX3_47, by decide, by decide, rfl, by decide +kernel, fun h => nomatch h⟩
theorem gX3_addIntake_1 : u_gf cX3_addIntake RX3 1 3 6 := ⟨51, RX3, TX3, 10, dX3_addIntake_1, rfl, inlX3, by decide, mf_RX3_51, by decide, by decide⟩
theorem gX3_addIntake_5 : u_gf cX3_addIntake RX3 5 3 3 := ⟨33, RX3, TX3, 10, dX3_addIntake_5, rfl, inlX3, by decide, mf_RX3_33, by decide, by decide⟩
theorem gX3_addIntake_13 : u_gf cX3_addIntake RX3 13 3 3 := ⟨33, RX3, TX3, 10, dX3_addIntake_13, rfl, inlX3, by decide, mf_RX3_33, by decide, by decide⟩
theorem gX3_addIntake_17 : u_gf cX3_addIntake RX3 17 3 6 := ⟨51, RX3, TX3, 10, dX3_addIntake_17, rfl, inlX3, by decide, mf_RX3_51, by decide, by decide⟩
theorem ml_RX3_96 : Cond.methodLink RX3 96 yX1_begin ∈ wsL_law := u_r10 _ (List.mem_of_getElem? (i := 13) rfl)
theorem gX3_addIntake_33 : u_gf cX3_addIntake RX3 33 3 6 := ⟨51, RX3, TX3, 10, dX3_addIntake_33, rfl, inlX3, by decide, mf_RX3_51, by decide, by decide⟩
theorem pX3_addIntake_38 : u_pf cX3_addIntake RX3 38 3 6 false (.int) := ⟨51, RX3, TX3, 10, tyX3, dX3_addIntake_38, rfl, inlX3, tyX3_ok, nmX3, by decide, mf_RX3_51, by decide, by decide, rfl, by decide +kernel, fun h => nomatch h⟩
theorem ml_RX3_98 : Cond.methodLink RX3 98 yX3_hasSection ∈ wsL_law := u_r11 _ (List.mem_of_getElem? (i := 8) rfl)
theorem gX3_setPermit_9 : u_gf cX3_setPermit RX3 9 3 2 := ⟨27, RX3, TX3, 10, dX3_setPermit_9, rfl, inlX3, by decide, mf_RX3_27, by decide, by decide⟩
theorem mf_RX3_102 : Cond.fieldLink RX3 102 "Saltwedge$Section" "permit" "I" ∈ wsL_law := u_r11 _ (List.mem_of_getElem? (i := 7) rfl)
theorem pX3_setPermit_15 : u_pf cX3_setPermit RX3 15 6 7 false (.int) := ⟨102, RX6, TX6, 8, tyX6, dX3_setPermit_15, rfl, inlX6, tyX6_ok, nmX6, by decide, mf_RX3_102, by decide, by decide, rfl, by decide +kernel, fun h => nomatch h⟩
theorem gX3_moveMud_10 : u_gf cX3_moveMud RX3 10 3 2 := ⟨27, RX3, TX3, 10, dX3_moveMud_10, rfl, inlX3, by decide, mf_RX3_27, by decide, by decide⟩
theorem gX3_moveMud_16 : u_gf cX3_moveMud RX3 16 6 7 := ⟨102, RX6, TX6, 8, dX3_moveMud_16, rfl, inlX6, by decide, mf_RX3_102, by decide, by decide⟩
theorem pX3_moveMud_21 : u_pf cX3_moveMud RX3 21 6 7 false (.int) := ⟨102, RX6, TX6, 8, tyX6, dX3_moveMud_21, rfl, inlX6, tyX6_ok, nmX6, by decide, mf_RX3_102, by decide, by decide, rfl, by decide +kernel, fun h => nomatch h⟩
theorem gX3_moveMud_25 : u_gf cX3_moveMud RX3 25 3 2 := ⟨27, RX3, TX3, 10, dX3_moveMud_25, rfl, inlX3, by decide, mf_RX3_27, by decide, by decide⟩
theorem mf_RX3_105 : Cond.fieldLink RX3 105 "Saltwedge$Section" "mud" "I" ∈ wsL_law := u_r11 _ (List.mem_of_getElem? (i := 16) rfl)
theorem gX3_moveMud_31 : u_gf cX3_moveMud RX3 31 6 4 := ⟨105, RX6, TX6, 8, dX3_moveMud_31, rfl, inlX6, by decide, mf_RX3_105, by decide, by decide⟩
theorem pX3_moveMud_36 : u_pf cX3_moveMud RX3 36 6 4 false (.int) := ⟨105, RX6, TX6, 8, tyX6, dX3_moveMud_36, rfl, inlX6, tyX6_ok, nmX6, by decide, mf_RX3_105, by decide, by decide, rfl, by decide +kernel, fun h => nomatch h⟩
theorem gX3_moveMud_48 : u_gf cX3_moveMud RX3 48 3 2 := ⟨27, RX3, TX3, 10, dX3_moveMud_48, rfl, inlX3, by decide, mf_RX3_27, by decide, by decide⟩
theorem mf_RX3_108 : Cond.fieldLink RX3 108 "Saltwedge$Section" "cloud" "I" ∈ wsL_law := u_r11 _ (List.mem_of_getElem? (i := 17) rfl)
theorem gX3_moveMud_54 : u_gf cX3_moveMud RX3 54 6 5 := ⟨108, RX6, TX6, 8, dX3_moveMud_54, rfl, inlX6, by decide, mf_RX3_108, by decide, by decide⟩
theorem pX3_moveMud_59 : u_pf cX3_moveMud RX3 59 6 5 false (.int) := ⟨108, RX6, TX6, 8, tyX6, dX3_moveMud_59, rfl, inlX6, tyX6_ok, nmX6, by decide, mf_RX3_108, by decide, by decide, rfl, by decide +kernel, fun h => nomatch h⟩
theorem gX3_moveMud_66 : u_gf cX3_moveMud RX3 66 3 4 := ⟨37, RX3, TX3, 10, dX3_moveMud_66, rfl, inlX3, by decide, mf_RX3_37, by decide, by decide⟩
theorem gX3_seaOf_6 : u_gf cX3_seaOf RX3 6 3 9 := ⟨60, RX3, TX3, 10, dX3_seaOf_6, rfl, inlX3, by decide, mf_RX3_60, by decide, by decide⟩
theorem gX3_seaOf_20 : u_gf cX3_seaOf RX3 20 3 0 := ⟨12, RX3, TX3, 10, dX3_seaOf_20, rfl, inlX3, by decide, mf_RX3_12, by decide, by decide⟩
theorem mf_RX3_111 : Cond.fieldLink RX3 111 "Saltwedge$Sea" "past" "[I" ∈ wsL_law := u_r5 _ (List.mem_of_getElem? (i := 19) rfl)
theorem gX3_seaOf_23 : u_gf cX3_seaOf RX3 23 5 2 := ⟨111, RX5, TX5, 6, dX3_seaOf_23, rfl, inlX5, by decide, mf_RX3_111, by decide, by decide⟩
theorem gX3_seaOf_30 : u_gf cX3_seaOf RX3 30 3 0 := ⟨12, RX3, TX3, 10, dX3_seaOf_30, rfl, inlX3, by decide, mf_RX3_12, by decide, by decide⟩
theorem ml_RX3_115 : Cond.methodLink RX3 115 yX5_foretold ∈ wsL_law := u_r5 _ (List.mem_of_getElem? (i := 20) rfl)
theorem gX3_firstHourAt_3 : u_gf cX3_firstHourAt RX3 3 3 9 := ⟨60, RX3, TX3, 10, dX3_firstHourAt_3, rfl, inlX3, by decide, mf_RX3_60, by decide, by decide⟩
theorem gX3_firstHourAt_11 : u_gf cX3_firstHourAt RX3 11 3 9 := ⟨60, RX3, TX3, 10, dX3_firstHourAt_11, rfl, inlX3, by decide, mf_RX3_60, by decide, by decide⟩
theorem gX3_firstHourAt_23 : u_gf cX3_firstHourAt RX3 23 3 0 := ⟨12, RX3, TX3, 10, dX3_firstHourAt_23, rfl, inlX3, by decide, mf_RX3_12, by decide, by decide⟩
theorem ml_RX3_119 : Cond.methodLink RX3 119 Lib.Math.min.name ∈ wsL_law := u_r14 _ (List.mem_of_getElem? (i := 16) rfl)
theorem gX3_goOnTo_9 : u_gf cX3_goOnTo RX3 9 3 9 := ⟨60, RX3, TX3, 10, dX3_goOnTo_9, rfl, inlX3, by decide, mf_RX3_60, by decide, by decide⟩
theorem ml_RX3_125 : Cond.methodLink RX3 125 yX3_letHourGoBy ∈ wsL_law := u_r14 _ (List.mem_of_getElem? (i := 20) rfl)
theorem pX3_goOnTo_26 : u_pf cX3_goOnTo RX3 26 3 9 false (.int) := ⟨60, RX3, TX3, 10, tyX3, dX3_goOnTo_26, rfl, inlX3, tyX3_ok, nmX3, by decide, mf_RX3_60, by decide, by decide, rfl, by decide +kernel, fun h => nomatch h⟩
theorem gX3_letHourGoBy_1 : u_gf cX3_letHourGoBy RX3 1 3 0 := ⟨12, RX3, TX3, 10, dX3_letHourGoBy_1, rfl, inlX3, by decide, mf_RX3_12, by decide, by decide⟩
theorem gX3_letHourGoBy_5 : u_gf cX3_letHourGoBy RX3 5 3 9 := ⟨60, RX3, TX3, 10, dX3_letHourGoBy_5, rfl, inlX3, by decide, mf_RX3_60, by decide, by decide⟩
theorem gX3_letHourGoBy_16 : u_gf cX3_letHourGoBy RX3 16 3 5 := ⟨47, RX3, TX3, 10, dX3_letHourGoBy_16, rfl, inlX3, by decide, mf_RX3_47, by decide, by decide⟩
theorem gX3_letHourGoBy_23 : u_gf cX3_letHourGoBy RX3 23 3 2 := ⟨27, RX3, TX3, 10, dX3_letHourGoBy_23, rfl, inlX3, by decide, mf_RX3_27, by decide, by decide⟩
theorem mf_RX3_128 : Cond.fieldLink RX3 128 "Saltwedge$Section" "run" "I" ∈ wsL_law := u_r15 _ (List.mem_of_getElem? (i := 0) rfl)
theorem pX3_letHourGoBy_29 : u_pf cX3_letHourGoBy RX3 29 6 6 false (.int) := ⟨128, RX6, TX6, 8, tyX6, dX3_letHourGoBy_29, rfl, inlX6, tyX6_ok, nmX6, by decide, mf_RX3_128, by decide, by decide, rfl, by decide +kernel, fun h => nomatch h⟩
theorem gX3_letHourGoBy_39 : u_gf cX3_letHourGoBy RX3 39 3 1 := ⟨21, RX3, TX3, 10, dX3_letHourGoBy_39, rfl, inlX3, by decide, mf_RX3_21, by decide, by decide⟩
theorem gX3_letHourGoBy_43 : u_gf cX3_letHourGoBy RX3 43 3 0 := ⟨12, RX3, TX3, 10, dX3_letHourGoBy_43, rfl, inlX3, by decide, mf_RX3_12, by decide, by decide⟩
theorem gX3_letHourGoBy_47 : u_gf cX3_letHourGoBy RX3 47 3 9 := ⟨60, RX3, TX3, 10, dX3_letHourGoBy_47, rfl, inlX3, by decide, mf_RX3_60, by decide, by decide⟩
theorem ml_RX3_131 : Cond.methodLink RX3 131 yX0_look ∈ wsL_law := u_r15 _ (List.mem_of_getElem? (i := 2) rfl)
theorem gX3_letHourGoBy_54 : u_gf cX3_letHourGoBy RX3 54 3 5 := ⟨47, RX3, TX3, 10, dX3_letHourGoBy_54, rfl, inlX3, by decide, mf_RX3_47, by decide, by decide⟩
theorem gX3_letHourGoBy_61 : u_gf cX3_letHourGoBy RX3 61 3 1 := ⟨21, RX3, TX3, 10, dX3_letHourGoBy_61, rfl, inlX3, by decide, mf_RX3_21, by decide, by decide⟩
theorem mf_RX3_135 : Cond.fieldLink RX3 135 "Saltwedge$Barrier" "closed" "Z" ∈ wsL_law := u_r15 _ (List.mem_of_getElem? (i := 1) rfl)
theorem gX3_letHourGoBy_64 : u_gf cX3_letHourGoBy RX3 64 0 6 := ⟨135, RX0, TX0, 7, dX3_letHourGoBy_64, rfl, inlX0, by decide, mf_RX3_135, by decide, by decide⟩
theorem gX3_letHourGoBy_72 : u_gf cX3_letHourGoBy RX3 72 3 2 := ⟨27, RX3, TX3, 10, dX3_letHourGoBy_72, rfl, inlX3, by decide, mf_RX3_27, by decide, by decide⟩
theorem ml_RX3_139 : Cond.methodLink RX3 139 yX3_meetSea ∈ wsL_law := u_r15 _ (List.mem_of_getElem? (i := 15) rfl)
theorem gX3_letHourGoBy_83 : u_gf cX3_letHourGoBy RX3 83 3 2 := ⟨27, RX3, TX3, 10, dX3_letHourGoBy_83, rfl, inlX3, by decide, mf_RX3_27, by decide, by decide⟩
theorem gX3_letHourGoBy_87 : u_gf cX3_letHourGoBy RX3 87 3 5 := ⟨47, RX3, TX3, 10, dX3_letHourGoBy_87, rfl, inlX3, by decide, mf_RX3_47, by decide, by decide⟩
theorem ml_RX3_143 : Cond.methodLink RX3 143 yX3_meetRiver ∈ wsL_law := u_r16 _ (List.mem_of_getElem? (i := 14) rfl)
theorem gX3_letHourGoBy_102 : u_gf cX3_letHourGoBy RX3 102 3 5 := ⟨47, RX3, TX3, 10, dX3_letHourGoBy_102, rfl, inlX3, by decide, mf_RX3_47, by decide, by decide⟩
theorem gX3_letHourGoBy_110 : u_gf cX3_letHourGoBy RX3 110 3 2 := ⟨27, RX3, TX3, 10, dX3_letHourGoBy_110, rfl, inlX3, by decide, mf_RX3_27, by decide, by decide⟩
theorem gX3_letHourGoBy_116 : u_gf cX3_letHourGoBy RX3 116 3 2 := ⟨27, RX3, TX3, 10, dX3_letHourGoBy_116, rfl, inlX3, by decide, mf_RX3_27, by decide, by decide⟩
theorem ml_RX3_147 : Cond.methodLink RX3 147 yX3_flowByLevels ∈ wsL_law := u_r16 _ (List.mem_of_getElem? (i := 18) rfl)
theorem gX3_letHourGoBy_128 : u_gf cX3_letHourGoBy RX3 128 3 2 := ⟨27, RX3, TX3, 10, dX3_letHourGoBy_128, rfl, inlX3, by decide, mf_RX3_27, by decide, by decide⟩
theorem gX3_letHourGoBy_134 : u_gf cX3_letHourGoBy RX3 134 3 2 := ⟨27, RX3, TX3, 10, dX3_letHourGoBy_134, rfl, inlX3, by decide, mf_RX3_27, by decide, by decide⟩
theorem ml_RX3_151 : Cond.methodLink RX3 151 yX3_creep ∈ wsL_law := u_r17 _ (List.mem_of_getElem? (i := 6) rfl)
theorem gX3_letHourGoBy_154 : u_gf cX3_letHourGoBy RX3 154 3 5 := ⟨47, RX3, TX3, 10, dX3_letHourGoBy_154, rfl, inlX3, by decide, mf_RX3_47, by decide, by decide⟩
theorem gX3_letHourGoBy_161 : u_gf cX3_letHourGoBy RX3 161 3 2 := ⟨27, RX3, TX3, 10, dX3_letHourGoBy_161, rfl, inlX3, by decide, mf_RX3_27, by decide, by decide⟩
theorem ml_RX3_154 : Cond.methodLink RX3 154 yX6_mix ∈ wsL_law := u_r17 _ (List.mem_of_getElem? (i := 11) rfl)
theorem gX3_letHourGoBy_170 : u_gf cX3_letHourGoBy RX3 170 3 2 := ⟨27, RX3, TX3, 10, dX3_letHourGoBy_170, rfl, inlX3, by decide, mf_RX3_27, by decide, by decide⟩
theorem ml_RX3_157 : Cond.methodLink RX3 157 yX6_settleOrLift ∈ wsL_law := u_r17 _ (List.mem_of_getElem? (i := 20) rfl)
theorem ml_RX3_160 : Cond.methodLink RX3 160 yX3_serveIntakes ∈ wsL_law := u_r18 _ (List.mem_of_getElem? (i := 0) rfl)
theorem gX3_letHourGoBy_192 : u_gf cX3_letHourGoBy RX3 192 3 5 := ⟨47, RX3, TX3, 10, dX3_letHourGoBy_192, rfl, inlX3, by decide, mf_RX3_47, by decide, by decide⟩
theorem gX3_letHourGoBy_199 : u_gf cX3_letHourGoBy RX3 199 3 2 := ⟨27, RX3, TX3, 10, dX3_letHourGoBy_199, rfl, inlX3, by decide, mf_RX3_27, by decide, by decide⟩
theorem gX3_letHourGoBy_205 : u_gf cX3_letHourGoBy RX3 205 3 9 := ⟨60, RX3, TX3, 10, dX3_letHourGoBy_205, rfl, inlX3, by decide, mf_RX3_60, by decide, by decide⟩
theorem ml_RX3_163 : Cond.methodLink RX3 163 yX6_endHour ∈ wsL_law := u_r18 _ (List.mem_of_getElem? (i := 17) rfl)
theorem gX3_letHourGoBy_218 : u_gf cX3_letHourGoBy RX3 218 3 0 := ⟨12, RX3, TX3, 10, dX3_letHourGoBy_218, rfl, inlX3, by decide, mf_RX3_12, by decide, by decide⟩
theorem gX3_letHourGoBy_222 : u_gf cX3_letHourGoBy RX3 222 3 9 := ⟨60, RX3, TX3, 10, dX3_letHourGoBy_222, rfl, inlX3, by decide, mf_RX3_60, by decide, by decide⟩
theorem ml_RX3_167 : Cond.methodLink RX3 167 yX5_keep ∈ wsL_law := u_r19 _ (List.mem_of_getElem? (i := 1) rfl)
theorem ml_RX3_170 : Cond.methodLink RX3 170 yX6_level ∈ wsL_law := u_r15 _ (List.mem_of_getElem? (i := 23) rfl)
theorem mf_RX3_174 : Cond.fieldLink RX3 174 "Saltwedge$Section" "area" "I" ∈ wsL_law := u_r15 _ (List.mem_of_getElem? (i := 19) rfl)
theorem gX3_meetSea_13 : u_gf cX3_meetSea RX3 13 6 3 := ⟨174, RX6, TX6, 8, dX3_meetSea_13, rfl, inlX6, by decide, mf_RX3_174, by decide, by decide⟩
theorem mf_RX3_177 : Cond.fieldLink RX3 177 "Saltwedge$Section" "low" "LSaltwedge$Layer;" ∈ wsL_law := u_r15 _ (List.mem_of_getElem? (i := 20) rfl)
theorem gX3_meetSea_22 : u_gf cX3_meetSea RX3 22 6 1 := ⟨177, RX6, TX6, 8, dX3_meetSea_22, rfl, inlX6, by decide, mf_RX3_177, by decide, by decide⟩
theorem ml_RX3_181 : Cond.methodLink RX3 181 yX2_takeIn ∈ wsL_law := u_r16 _ (List.mem_of_getElem? (i := 0) rfl)
theorem gX3_meetSea_36 : u_gf cX3_meetSea RX3 36 3 4 := ⟨37, RX3, TX3, 10, dX3_meetSea_36, rfl, inlX3, by decide, mf_RX3_37, by decide, by decide⟩
theorem gX3_meetSea_48 : u_gf cX3_meetSea RX3 48 3 4 := ⟨37, RX3, TX3, 10, dX3_meetSea_48, rfl, inlX3, by decide, mf_RX3_37, by decide, by decide⟩
theorem gX3_meetSea_72 : u_gf cX3_meetSea RX3 72 6 3 := ⟨174, RX6, TX6, 8, dX3_meetSea_72, rfl, inlX6, by decide, mf_RX3_174, by decide, by decide⟩
theorem mf_RX3_186 : Cond.fieldLink RX3 186 "Saltwedge$Section" "up" "LSaltwedge$Layer;" ∈ wsL_law := u_r15 _ (List.mem_of_getElem? (i := 21) rfl)
theorem gX3_meetSea_79 : u_gf cX3_meetSea RX3 79 6 0 := ⟨186, RX6, TX6, 8, dX3_meetSea_79, rfl, inlX6, by decide, mf_RX3_186, by decide, by decide⟩
theorem mf_RX3_189 : Cond.fieldLink RX3 189 "Saltwedge$Layer" "water" "I" ∈ wsL_law := u_r15 _ (List.mem_of_getElem? (i := 22) rfl)
theorem gX3_meetSea_82 : u_gf cX3_meetSea RX3 82 2 0 := ⟨189, RX2, TX2, 2, dX3_meetSea_82, rfl, inlX2, by decide, mf_RX3_189, by decide, by decide⟩
theorem gX3_meetSea_91 : u_gf cX3_meetSea RX3 91 3 4 := ⟨37, RX3, TX3, 10, dX3_meetSea_91, rfl, inlX3, by decide, mf_RX3_37, by decide, by decide⟩
theorem ml_RX3_192 : Cond.methodLink RX3 192 yX6_giveCloud ∈ wsL_law := u_r16 _ (List.mem_of_getElem? (i := 4) rfl)
theorem gX3_meetSea_108 : u_gf cX3_meetSea RX3 108 3 4 := ⟨37, RX3, TX3, 10, dX3_meetSea_108, rfl, inlX3, by decide, mf_RX3_37, by decide, by decide⟩
theorem gX3_meetSea_115 : u_gf cX3_meetSea RX3 115 6 0 := ⟨186, RX6, TX6, 8, dX3_meetSea_115, rfl, inlX6, by decide, mf_RX3_186, by decide, by decide⟩
theorem ml_RX3_195 : Cond.methodLink RX3 195 yX2_giveOut ∈ wsL_law := u_r16 _ (List.mem_of_getElem? (i := 10) rfl)
theorem gX3_meetSea_127 : u_gf cX3_meetSea RX3 127 3 4 := ⟨37, RX3, TX3, 10, dX3_meetSea_127, rfl, inlX3, by decide, mf_RX3_37, by decide, by decide⟩
theorem gX3_meetRiver_1 : u_gf cX3_meetRiver RX3 1 6 0 := ⟨186, RX6, TX6, 8, dX3_meetRiver_1, rfl, inlX6, by decide, mf_RX3_186, by decide, by decide⟩
theorem gX3_meetRiver_5 : u_gf cX3_meetRiver RX3 5 3 7 := ⟨54, RX3, TX3, 10, dX3_meetRiver_5, rfl, inlX3, by decide, mf_RX3_54, by decide, by decide⟩
theorem gX3_meetRiver_14 : u_gf cX3_meetRiver RX3 14 6 5 := ⟨108, RX6, TX6, 8, dX3_meetRiver_14, rfl, inlX6, by decide, mf_RX3_108, by decide, by decide⟩
theorem gX3_meetRiver_18 : u_gf cX3_meetRiver RX3 18 3 8 := ⟨57, RX3, TX3, 10, dX3_meetRiver_18, rfl, inlX3, by decide, mf_RX3_57, by decide, by decide⟩
theorem pX3_meetRiver_22 : u_pf cX3_meetRiver RX3 22 6 5 false (.int) := ⟨108, RX6, TX6, 8, tyX6, dX3_meetRiver_22, rfl, inlX6, tyX6_ok, nmX6, by decide, mf_RX3_108, by decide, by decide, rfl, by decide +kernel, fun h => nomatch h⟩
theorem gX3_meetRiver_26 : u_gf cX3_meetRiver RX3 26 3 4 := ⟨37, RX3, TX3, 10, dX3_meetRiver_26, rfl, inlX3, by decide, mf_RX3_37, by decide, by decide⟩
theorem gX3_meetRiver_33 : u_gf cX3_meetRiver RX3 33 3 7 := ⟨54, RX3, TX3, 10, dX3_meetRiver_33, rfl, inlX3, by decide, mf_RX3_54, by decide, by decide⟩
theorem gX3_meetRiver_40 : u_gf cX3_meetRiver RX3 40 3 4 := ⟨37, RX3, TX3, 10, dX3_meetRiver_40, rfl, inlX3, by decide, mf_RX3_37, by decide, by decide⟩
theorem gX3_meetRiver_48 : u_gf cX3_meetRiver RX3 48 3 8 := ⟨57, RX3, TX3, 10, dX3_meetRiver_48, rfl, inlX3, by decide, mf_RX3_57, by decide, by decide⟩
theorem gX3_flowByLevels_11 : u_gf cX3_flowByLevels RX3 11 6 3 := ⟨174, RX6, TX6, 8, dX3_flowByLevels_11, rfl, inlX6, by decide, mf_RX3_174, by decide, by decide⟩
theorem gX3_flowByLevels_15 : u_gf cX3_flowByLevels RX3 15 6 3 := ⟨174, RX6, TX6, 8, dX3_flowByLevels_15, rfl, inlX6, by decide, mf_RX3_174, by decide, by decide⟩
theorem gX3_flowByLevels_37 : u_gf cX3_flowByLevels RX3 37 6 1 := ⟨177, RX6, TX6, 8, dX3_flowByLevels_37, rfl, inlX6, by decide, mf_RX3_177, by decide, by decide⟩
theorem gX3_flowByLevels_40 : u_gf cX3_flowByLevels RX3 40 2 0 := ⟨189, RX2, TX2, 2, dX3_flowByLevels_40, rfl, inlX2, by decide, mf_RX3_189, by decide, by decide⟩
theorem ml_RX3_198 : Cond.methodLink RX3 198 yX3_flowInLow ∈ wsL_law := u_r16 _ (List.mem_of_getElem? (i := 22) rfl)
theorem gX3_flowByLevels_71 : u_gf cX3_flowByLevels RX3 71 6 0 := ⟨186, RX6, TX6, 8, dX3_flowByLevels_71, rfl, inlX6, by decide, mf_RX3_186, by decide, by decide⟩
theorem gX3_flowByLevels_74 : u_gf cX3_flowByLevels RX3 74 2 0 := ⟨189, RX2, TX2, 2, dX3_flowByLevels_74, rfl, inlX2, by decide, mf_RX3_189, by decide, by decide⟩
theorem ml_RX3_202 : Cond.methodLink RX3 202 yX3_flowInUp ∈ wsL_law := u_r17 _ (List.mem_of_getElem? (i := 2) rfl)
theorem gX3_flowByLevels_92 : u_gf cX3_flowByLevels RX3 92 6 6 := ⟨128, RX6, TX6, 8, dX3_flowByLevels_92, rfl, inlX6, by decide, mf_RX3_128, by decide, by decide⟩
theorem pX3_flowByLevels_98 : u_pf cX3_flowByLevels RX3 98 6 6 false (.int) := ⟨128, RX6, TX6, 8, tyX6, dX3_flowByLevels_98, rfl, inlX6, tyX6_ok, nmX6, by decide, mf_RX3_128, by decide, by decide, rfl, by decide +kernel, fun h => nomatch h⟩
theorem gX3_flowByLevels_103 : u_gf cX3_flowByLevels RX3 103 6 6 := ⟨128, RX6, TX6, 8, dX3_flowByLevels_103, rfl, inlX6, by decide, mf_RX3_128, by decide, by decide⟩
theorem pX3_flowByLevels_109 : u_pf cX3_flowByLevels RX3 109 6 6 false (.int) := ⟨128, RX6, TX6, 8, tyX6, dX3_flowByLevels_109, rfl, inlX6, tyX6_ok, nmX6, by decide, mf_RX3_128, by decide, by decide, rfl, by decide +kernel, fun h => nomatch h⟩
theorem gX3_creep_1 : u_gf cX3_creep RX3 1 6 1 := ⟨177, RX6, TX6, 8, dX3_creep_1, rfl, inlX6, by decide, mf_RX3_177, by decide, by decide⟩
theorem ml_RX3_205 : Cond.methodLink RX3 205 yX2_salinity ∈ wsL_law := u_r17 _ (List.mem_of_getElem? (i := 10) rfl)
theorem gX3_creep_8 : u_gf cX3_creep RX3 8 6 1 := ⟨177, RX6, TX6, 8, dX3_creep_8, rfl, inlX6, by decide, mf_RX3_177, by decide, by decide⟩
theorem gX3_creep_18 : u_gf cX3_creep RX3 18 6 1 := ⟨177, RX6, TX6, 8, dX3_creep_18, rfl, inlX6, by decide, mf_RX3_177, by decide, by decide⟩
theorem gX3_creep_21 : u_gf cX3_creep RX3 21 2 0 := ⟨189, RX2, TX2, 2, dX3_creep_21, rfl, inlX2, by decide, mf_RX3_189, by decide, by decide⟩
theorem gX3_creep_25 : u_gf cX3_creep RX3 25 6 0 := ⟨186, RX6, TX6, 8, dX3_creep_25, rfl, inlX6, by decide, mf_RX3_186, by decide, by decide⟩
theorem gX3_creep_28 : u_gf cX3_creep RX3 28 2 0 := ⟨189, RX2, TX2, 2, dX3_creep_28, rfl, inlX2, by decide, mf_RX3_189, by decide, by decide⟩
theorem gX3_flowInLow_1 : u_gf cX3_flowInLow RX3 1 6 1 := ⟨177, RX6, TX6, 8, dX3_flowInLow_1, rfl, inlX6, by decide, mf_RX3_177, by decide, by decide⟩
theorem gX3_flowInLow_11 : u_gf cX3_flowInLow RX3 11 6 1 := ⟨177, RX6, TX6, 8, dX3_flowInLow_11, rfl, inlX6, by decide, mf_RX3_177, by decide, by decide⟩
theorem gX3_flowInUp_8 : u_gf cX3_flowInUp RX3 8 6 0 := ⟨186, RX6, TX6, 8, dX3_flowInUp_8, rfl, inlX6, by decide, mf_RX3_186, by decide, by decide⟩
theorem gX3_flowInUp_19 : u_gf cX3_flowInUp RX3 19 6 5 := ⟨108, RX6, TX6, 8, dX3_flowInUp_19, rfl, inlX6, by decide, mf_RX3_108, by decide, by decide⟩
theorem pX3_flowInUp_25 : u_pf cX3_flowInUp RX3 25 6 5 false (.int) := ⟨108, RX6, TX6, 8, tyX6, dX3_flowInUp_25, rfl, inlX6, tyX6_ok, nmX6, by decide, mf_RX3_108, by decide, by decide, rfl, by decide +kernel, fun h => nomatch h⟩
theorem gX3_flowInUp_29 : u_gf cX3_flowInUp RX3 29 6 0 := ⟨186, RX6, TX6, 8, dX3_flowInUp_29, rfl, inlX6, by decide, mf_RX3_186, by decide, by decide⟩
theorem gX3_serveIntakes_4 : u_gf cX3_serveIntakes RX3 4 3 6 := ⟨51, RX3, TX3, 10, dX3_serveIntakes_4, rfl, inlX3, by decide, mf_RX3_51, by decide, by decide⟩
theorem gX3_serveIntakes_11 : u_gf cX3_serveIntakes RX3 11 3 3 := ⟨33, RX3, TX3, 10, dX3_serveIntakes_11, rfl, inlX3, by decide, mf_RX3_33, by decide, by decide⟩
theorem mf_RX3_208 : Cond.fieldLink RX3 208 "Saltwedge$Intake" "section" "I" ∈ wsL_law := u_r18 _ (List.mem_of_getElem? (i := 4) rfl)
theorem gX3_serveIntakes_19 : u_gf cX3_serveIntakes RX3 19 1 0 := ⟨208, RX1, TX1, 10, dX3_serveIntakes_19, rfl, inlX1, by decide, mf_RX3_208, by decide, by decide⟩
theorem gX3_serveIntakes_30 : u_gf cX3_serveIntakes RX3 30 3 2 := ⟨27, RX3, TX3, 10, dX3_serveIntakes_30, rfl, inlX3, by decide, mf_RX3_27, by decide, by decide⟩
theorem gX3_serveIntakes_34 : u_gf cX3_serveIntakes RX3 34 1 0 := ⟨208, RX1, TX1, 10, dX3_serveIntakes_34, rfl, inlX1, by decide, mf_RX3_208, by decide, by decide⟩
theorem gX3_serveIntakes_38 : u_gf cX3_serveIntakes RX3 38 6 0 := ⟨186, RX6, TX6, 8, dX3_serveIntakes_38, rfl, inlX6, by decide, mf_RX3_186, by decide, by decide⟩
theorem gX3_serveIntakes_42 : u_gf cX3_serveIntakes RX3 42 3 4 := ⟨37, RX3, TX3, 10, dX3_serveIntakes_42, rfl, inlX3, by decide, mf_RX3_37, by decide, by decide⟩
theorem ml_RX3_211 : Cond.methodLink RX3 211 yX1_take ∈ wsL_law := u_r18 _ (List.mem_of_getElem? (i := 5) rfl)
theorem ml_RX3_215 : Cond.methodLink RX3 215 yX1_supply ∈ wsL_law := u_r18 _ (List.mem_of_getElem? (i := 13) rfl)
theorem ml_RX4_1 : Cond.methodLink RX4 1 objectInit ∈ wsL_law := u_r4 _ (List.mem_of_getElem? (i := 23) rfl)
theorem ml_RX5_3 : Cond.methodLink RX5 3 objectInit ∈ wsL_law := u_r3 _ (List.mem_of_getElem? (i := 0) rfl)
theorem mf_RX5_11 : Cond.fieldLink RX5 11 "Saltwedge$Sea" "turns" "[LSaltwedge$Turn;" ∈ wsL_law := u_r3 _ (List.mem_of_getElem? (i := 2) rfl)
theorem pX5_init_10 : u_pf cX5_init RX5 10 5 0 true (.array (.object "Saltwedge$Turn")) := ⟨11, RX5, TX5, 6, tyX5, dX5_init_10, rfl, inlX5, tyX5_ok, nmX5, by decide, mf_RX5_11, by decide, by decide, rfl, by decide +kernel, fun h => rfl⟩
theorem mf_RX5_19 : Cond.fieldLink RX5 19 "Saltwedge$Sea" "surges" "[LSaltwedge$Surge;" ∈ wsL_law := u_r3 _ (List.mem_of_getElem? (i := 4) rfl)
theorem pX5_init_19 : u_pf cX5_init RX5 19 5 1 true (.array (.object "Saltwedge$Surge")) := ⟨19, RX5, TX5, 6, tyX5, dX5_init_19, rfl, inlX5, tyX5_ok, nmX5, by decide, mf_RX5_19, by decide, by decide, rfl, by decide +kernel, fun h => rfl⟩
theorem mf_RX5_23 : Cond.fieldLink RX5 23 "Saltwedge$Sea" "past" "[I" ∈ wsL_law := u_r3 _ (List.mem_of_getElem? (i := 5) rfl)
theorem pX5_init_28 : u_pf cX5_init RX5 28 5 2 true (.array (.int)) := ⟨23, RX5, TX5, 6, tyX5, dX5_init_28, rfl, inlX5, tyX5_ok, nmX5, by decide, mf_RX5_23, by decide, by decide, rfl, by decide +kernel, fun h => rfl⟩
theorem mf_RX5_27 : Cond.fieldLink RX5 27 "Saltwedge$Sea" "mean" "I" ∈ wsL_law := u_r3 _ (List.mem_of_getElem? (i := 6) rfl)
theorem pX5_init_34 : u_pf cX5_init RX5 34 5 5 false (.int) := ⟨27, RX5, TX5, 6, tyX5, dX5_init_34, rfl, inlX5, tyX5_ok, nmX5, by decide, mf_RX5_27, by decide, by decide, rfl, by decide +kernel, fun h => nomatch h⟩
theorem gX5_init_41 : u_gf cX5_init RX5 41 5 0 := ⟨11, RX5, TX5, 6, dX5_init_41, rfl, inlX5, by decide, mf_RX5_11, by decide, by decide⟩
theorem gX5_init_49 : u_gf cX5_init RX5 49 5 0 := ⟨11, RX5, TX5, 6, dX5_init_49, rfl, inlX5, by decide, mf_RX5_11, by decide, by decide⟩
theorem gX5_init_71 : u_gf cX5_init RX5 71 5 1 := ⟨19, RX5, TX5, 6, dX5_init_71, rfl, inlX5, by decide, mf_RX5_19, by decide, by decide⟩
theorem gX5_init_79 : u_gf cX5_init RX5 79 5 1 := ⟨19, RX5, TX5, 6, dX5_init_79, rfl, inlX5, by decide, mf_RX5_19, by decide, by decide⟩
theorem mf_RX5_33 : Cond.fieldLink RX5 33 "Saltwedge$Sea" "turnCount" "I" ∈ wsL_law := u_r6 _ (List.mem_of_getElem? (i := 0) rfl)
theorem pX5_begin_2 : u_pf cX5_begin RX5 2 5 3 false (.int) := ⟨33, RX5, TX5, 6, tyX5, dX5_begin_2, rfl, inlX5, tyX5_ok, nmX5, by decide, mf_RX5_33, by decide, by decide, rfl, by decide +kernel, fun h => nomatch h⟩
theorem mf_RX5_36 : Cond.fieldLink RX5 36 "Saltwedge$Sea" "surgeCount" "I" ∈ wsL_law := u_r6 _ (List.mem_of_getElem? (i := 1) rfl)
theorem pX5_begin_7 : u_pf cX5_begin RX5 7 5 4 false (.int) := ⟨36, RX5, TX5, 6, tyX5, dX5_begin_7, rfl, inlX5, tyX5_ok, nmX5, by decide, mf_RX5_36, by decide, by decide, rfl, by decide +kernel, fun h => nomatch h⟩
theorem pX5_begin_13 : u_pf cX5_begin RX5 13 5 5 false (.int) := ⟨27, RX5, TX5, 6, tyX5, dX5_begin_13, rfl, inlX5, tyX5_ok, nmX5, by decide, mf_RX5_27, by decide, by decide, rfl, by decide +kernel, fun h => nomatch h⟩
theorem gX5_addTurn_1 : u_gf cX5_addTurn RX5 1 5 3 := ⟨33, RX5, TX5, 6, dX5_addTurn_1, rfl, inlX5, by decide, mf_RX5_33, by decide, by decide⟩
theorem gX5_addTurn_5 : u_gf cX5_addTurn RX5 5 5 0 := ⟨11, RX5, TX5, 6, dX5_addTurn_5, rfl, inlX5, by decide, mf_RX5_11, by decide, by decide⟩
theorem gX5_addTurn_14 : u_gf cX5_addTurn RX5 14 5 0 := ⟨11, RX5, TX5, 6, dX5_addTurn_14, rfl, inlX5, by decide, mf_RX5_11, by decide, by decide⟩
theorem gX5_addTurn_18 : u_gf cX5_addTurn RX5 18 5 3 := ⟨33, RX5, TX5, 6, dX5_addTurn_18, rfl, inlX5, by decide, mf_RX5_33, by decide, by decide⟩
theorem mf_RX5_39 : Cond.fieldLink RX5 39 "Saltwedge$Turn" "period" "I" ∈ wsL_law := u_r9 _ (List.mem_of_getElem? (i := 7) rfl)
theorem pX5_addTurn_27 : u_pf cX5_addTurn RX5 27 9 0 false (.int) := ⟨39, RX9, TX9, 4, tyX9, dX5_addTurn_27, rfl, inlX9, tyX9_ok, nmX9, by decide, mf_RX5_39, by decide, by decide, rfl, by decide +kernel, fun h => nomatch h⟩
theorem mf_RX5_42 : Cond.fieldLink RX5 42 "Saltwedge$Turn" "rise" "I" ∈ wsL_law := u_r9 _ (List.mem_of_getElem? (i := 8) rfl)
theorem pX5_addTurn_33 : u_pf cX5_addTurn RX5 33 9 1 false (.int) := ⟨42, RX9, TX9, 4, tyX9, dX5_addTurn_33, rfl, inlX9, tyX9_ok, nmX9, by decide, mf_RX5_42, by decide, by decide, rfl, by decide +kernel, fun h => nomatch h⟩
theorem mf_RX5_45 : Cond.fieldLink RX5 45 "Saltwedge$Turn" "range" "I" ∈ wsL_law := u_r9 _ (List.mem_of_getElem? (i := 9) rfl)
theorem pX5_addTurn_39 : u_pf cX5_addTurn RX5 39 9 2 false (.int) := ⟨45, RX9, TX9, 4, tyX9, dX5_addTurn_39, rfl, inlX9, tyX9_ok, nmX9, by decide, mf_RX5_45, by decide, by decide, rfl, by decide +kernel, fun h => nomatch h⟩
theorem mf_RX5_48 : Cond.fieldLink RX5 48 "Saltwedge$Turn" "phase" "I" ∈ wsL_law := u_r9 _ (List.mem_of_getElem? (i := 10) rfl)
theorem pX5_addTurn_46 : u_pf cX5_addTurn RX5 46 9 3 false (.int) := ⟨48, RX9, TX9, 4, tyX9, dX5_addTurn_46, rfl, inlX9, tyX9_ok, nmX9, by decide, mf_RX5_48, by decide, by decide, rfl, by decide +kernel, fun h => nomatch h⟩
theorem gX5_addTurn_51 : u_gf cX5_addTurn RX5 51 5 3 := ⟨33, RX5, TX5, 6, dX5_addTurn_51, rfl, inlX5, by decide, mf_RX5_33, by decide, by decide⟩
theorem pX5_addTurn_56 : u_pf cX5_addTurn RX5 56 5 3 false (.int) := ⟨33, RX5, TX5, 6, tyX5, dX5_addTurn_56, rfl, inlX5, tyX5_ok, nmX5, by decide, mf_RX5_33, by decide, by decide, rfl, by decide +kernel, fun h => nomatch h⟩
theorem gX5_addSurge_1 : u_gf cX5_addSurge RX5 1 5 4 := ⟨36, RX5, TX5, 6, dX5_addSurge_1, rfl, inlX5, by decide, mf_RX5_36, by decide, by decide⟩
theorem gX5_addSurge_5 : u_gf cX5_addSurge RX5 5 5 1 := ⟨19, RX5, TX5, 6, dX5_addSurge_5, rfl, inlX5, by decide, mf_RX5_19, by decide, by decide⟩
theorem gX5_addSurge_14 : u_gf cX5_addSurge RX5 14 5 1 := ⟨19, RX5, TX5, 6, dX5_addSurge_14, rfl, inlX5, by decide, mf_RX5_19, by decide, by decide⟩
theorem gX5_addSurge_18 : u_gf cX5_addSurge RX5 18 5 4 := ⟨36, RX5, TX5, 6, dX5_addSurge_18, rfl, inlX5, by decide, mf_RX5_36, by decide, by decide⟩
theorem mf_RX5_51 : Cond.fieldLink RX5 51 "Saltwedge$Surge" "from" "I" ∈ wsL_law := u_r6 _ (List.mem_of_getElem? (i := 2) rfl)
theorem pX5_addSurge_27 : u_pf cX5_addSurge RX5 27 7 0 false (.int) := ⟨51, RX7, TX7, 3, tyX7, dX5_addSurge_27, rfl, inlX7, tyX7_ok, nmX7, by decide, mf_RX5_51, by decide, by decide, rfl, by decide +kernel, fun h => nomatch h⟩
theorem mf_RX5_54 : Cond.fieldLink RX5 54 "Saltwedge$Surge" "to" "I" ∈ wsL_law := u_r6 _ (List.mem_of_getElem? (i := 3) rfl)
theorem pX5_addSurge_33 : u_pf cX5_addSurge RX5 33 7 1 false (.int) := ⟨54, RX7, TX7, 3, tyX7, dX5_addSurge_33, rfl, inlX7, tyX7_ok, nmX7, by decide, mf_RX5_54, by decide, by decide, rfl, by decide +kernel, fun h => nomatch h⟩
theorem mf_RX5_57 : Cond.fieldLink RX5 57 "Saltwedge$Surge" "height" "I" ∈ wsL_law := u_r6 _ (List.mem_of_getElem? (i := 4) rfl)
theorem pX5_addSurge_39 : u_pf cX5_addSurge RX5 39 7 2 false (.int) := ⟨57, RX7, TX7, 3, tyX7, dX5_addSurge_39, rfl, inlX7, tyX7_ok, nmX7, by decide, mf_RX5_57, by decide, by decide, rfl, by decide +kernel, fun h => nomatch h⟩
theorem gX5_addSurge_44 : u_gf cX5_addSurge RX5 44 5 4 := ⟨36, RX5, TX5, 6, dX5_addSurge_44, rfl, inlX5, by decide, mf_RX5_36, by decide, by decide⟩
theorem pX5_addSurge_49 : u_pf cX5_addSurge RX5 49 5 4 false (.int) := ⟨36, RX5, TX5, 6, tyX5, dX5_addSurge_49, rfl, inlX5, tyX5_ok, nmX5, by decide, mf_RX5_36, by decide, by decide, rfl, by decide +kernel, fun h => nomatch h⟩
theorem gX5_foretold_1 : u_gf cX5_foretold RX5 1 5 5 := ⟨27, RX5, TX5, 6, dX5_foretold_1, rfl, inlX5, by decide, mf_RX5_27, by decide, by decide⟩
theorem gX5_foretold_9 : u_gf cX5_foretold RX5 9 5 3 := ⟨33, RX5, TX5, 6, dX5_foretold_9, rfl, inlX5, by decide, mf_RX5_33, by decide, by decide⟩
theorem gX5_foretold_17 : u_gf cX5_foretold RX5 17 5 0 := ⟨11, RX5, TX5, 6, dX5_foretold_17, rfl, inlX5, by decide, mf_RX5_11, by decide, by decide⟩
theorem ml_RX5_60 : Cond.methodLink RX5 60 yX9_height ∈ wsL_law := u_r6 _ (List.mem_of_getElem? (i := 5) rfl)
theorem gX5_foretold_38 : u_gf cX5_foretold RX5 38 5 4 := ⟨36, RX5, TX5, 6, dX5_foretold_38, rfl, inlX5, by decide, mf_RX5_36, by decide, by decide⟩
theorem gX5_foretold_45 : u_gf cX5_foretold RX5 45 5 1 := ⟨19, RX5, TX5, 6, dX5_foretold_45, rfl, inlX5, by decide, mf_RX5_19, by decide, by decide⟩
theorem gX5_foretold_50 : u_gf cX5_foretold RX5 50 7 0 := ⟨51, RX7, TX7, 3, dX5_foretold_50, rfl, inlX7, by decide, mf_RX5_51, by decide, by decide⟩
theorem gX5_foretold_59 : u_gf cX5_foretold RX5 59 5 1 := ⟨19, RX5, TX5, 6, dX5_foretold_59, rfl, inlX5, by decide, mf_RX5_19, by decide, by decide⟩
theorem gX5_foretold_64 : u_gf cX5_foretold RX5 64 7 1 := ⟨54, RX7, TX7, 3, dX5_foretold_64, rfl, inlX7, by decide, mf_RX5_54, by decide, by decide⟩
theorem gX5_foretold_72 : u_gf cX5_foretold RX5 72 5 1 := ⟨19, RX5, TX5, 6, dX5_foretold_72, rfl, inlX5, by decide, mf_RX5_19, by decide, by decide⟩
theorem gX5_foretold_77 : u_gf cX5_foretold RX5 77 7 2 := ⟨57, RX7, TX7, 3, dX5_foretold_77, rfl, inlX7, by decide, mf_RX5_57, by decide, by decide⟩
theorem ml_RX5_63 : Cond.methodLink RX5 63 yX5_foretold ∈ wsL_law := u_r15 _ (List.mem_of_getElem? (i := 13) rfl)
theorem gX5_keep_6 : u_gf cX5_keep RX5 6 5 2 := ⟨23, RX5, TX5, 6, dX5_keep_6, rfl, inlX5, by decide, mf_RX5_23, by decide, by decide⟩
theorem gX5_keep_14 : u_gf cX5_keep RX5 14 5 2 := ⟨23, RX5, TX5, 6, dX5_keep_14, rfl, inlX5, by decide, mf_RX5_23, by decide, by decide⟩
theorem ml_RX6_3 : Cond.methodLink RX6 3 objectInit ∈ wsL_law := u_r4 _ (List.mem_of_getElem? (i := 3) rfl)
theorem mf_RX6_12 : Cond.fieldLink RX6 12 "Saltwedge$Section" "up" "LSaltwedge$Layer;" ∈ wsL_law := u_r4 _ (List.mem_of_getElem? (i := 7) rfl)
theorem pX6_init_12 : u_pf cX6_init RX6 12 6 0 true (.object "Saltwedge$Layer") := ⟨12, RX6, TX6, 8, tyX6, dX6_init_12, rfl, inlX6, tyX6_ok, nmX6, by decide, mf_RX6_12, by decide, by decide, rfl, by decide +kernel, fun h => rfl⟩
theorem mf_RX6_18 : Cond.fieldLink RX6 18 "Saltwedge$Section" "low" "LSaltwedge$Layer;" ∈ wsL_law := u_r4 _ (List.mem_of_getElem? (i := 8) rfl)
theorem pX6_init_23 : u_pf cX6_init RX6 23 6 1 true (.object "Saltwedge$Layer") := ⟨18, RX6, TX6, 8, tyX6, dX6_init_23, rfl, inlX6, tyX6_ok, nmX6, by decide, mf_RX6_18, by decide, by decide, rfl, by decide +kernel, fun h => rfl⟩
theorem mf_RX6_21 : Cond.fieldLink RX6 21 "Saltwedge$Section" "lowAtEnd" "[I" ∈ wsL_law := u_r4 _ (List.mem_of_getElem? (i := 9) rfl)
theorem pX6_init_31 : u_pf cX6_init RX6 31 6 2 true (.array (.int)) := ⟨21, RX6, TX6, 8, tyX6, dX6_init_31, rfl, inlX6, tyX6_ok, nmX6, by decide, mf_RX6_21, by decide, by decide, rfl, by decide +kernel, fun h => rfl⟩
theorem mf_RX6_25 : Cond.fieldLink RX6 25 "Saltwedge$Section" "area" "I" ∈ wsL_law := u_r4 _ (List.mem_of_getElem? (i := 10) rfl)
theorem pX6_init_36 : u_pf cX6_init RX6 36 6 3 false (.int) := ⟨25, RX6, TX6, 8, tyX6, dX6_init_36, rfl, inlX6, tyX6_ok, nmX6, by decide, mf_RX6_25, by decide, by decide, rfl, by decide +kernel, fun h => nomatch h⟩
theorem pX6_begin_2 : u_pf cX6_begin RX6 2 6 3 false (.int) := ⟨25, RX6, TX6, 8, tyX6, dX6_begin_2, rfl, inlX6, tyX6_ok, nmX6, by decide, mf_RX6_25, by decide, by decide, rfl, by decide +kernel, fun h => nomatch h⟩
theorem mf_RX6_29 : Cond.fieldLink RX6 29 "Saltwedge$Section" "mud" "I" ∈ wsL_law := u_r10 _ (List.mem_of_getElem? (i := 0) rfl)
theorem pX6_begin_8 : u_pf cX6_begin RX6 8 6 4 false (.int) := ⟨29, RX6, TX6, 8, tyX6, dX6_begin_8, rfl, inlX6, tyX6_ok, nmX6, by decide, mf_RX6_29, by decide, by decide, rfl, by decide +kernel, fun h => nomatch h⟩
theorem gX6_begin_12 : u_gf cX6_begin RX6 12 6 0 := ⟨12, RX6, TX6, 8, dX6_begin_12, rfl, inlX6, by decide, mf_RX6_12, by decide, by decide⟩
theorem ml_RX6_32 : Cond.methodLink RX6 32 yX2_begin ∈ wsL_law := u_r10 _ (List.mem_of_getElem? (i := 4) rfl)
theorem gX6_begin_20 : u_gf cX6_begin RX6 20 6 1 := ⟨18, RX6, TX6, 8, dX6_begin_20, rfl, inlX6, by decide, mf_RX6_18, by decide, by decide⟩
theorem mf_RX6_36 : Cond.fieldLink RX6 36 "Saltwedge$Section" "cloud" "I" ∈ wsL_law := u_r10 _ (List.mem_of_getElem? (i := 1) rfl)
theorem pX6_begin_29 : u_pf cX6_begin RX6 29 6 5 false (.int) := ⟨36, RX6, TX6, 8, tyX6, dX6_begin_29, rfl, inlX6, tyX6_ok, nmX6, by decide, mf_RX6_36, by decide, by decide, rfl, by decide +kernel, fun h => nomatch h⟩
theorem mf_RX6_39 : Cond.fieldLink RX6 39 "Saltwedge$Section" "run" "I" ∈ wsL_law := u_r10 _ (List.mem_of_getElem? (i := 2) rfl)
theorem pX6_begin_34 : u_pf cX6_begin RX6 34 6 6 false (.int) := ⟨39, RX6, TX6, 8, tyX6, dX6_begin_34, rfl, inlX6, tyX6_ok, nmX6, by decide, mf_RX6_39, by decide, by decide, rfl, by decide +kernel, fun h => nomatch h⟩
theorem mf_RX6_42 : Cond.fieldLink RX6 42 "Saltwedge$Section" "permit" "I" ∈ wsL_law := u_r10 _ (List.mem_of_getElem? (i := 3) rfl)
theorem pX6_begin_39 : u_pf cX6_begin RX6 39 6 7 false (.int) := ⟨42, RX6, TX6, 8, tyX6, dX6_begin_39, rfl, inlX6, tyX6_ok, nmX6, by decide, mf_RX6_42, by decide, by decide, rfl, by decide +kernel, fun h => nomatch h⟩
theorem gX6_bed_1 : u_gf cX6_bed RX6 1 6 3 := ⟨25, RX6, TX6, 8, dX6_bed_1, rfl, inlX6, by decide, mf_RX6_25, by decide, by decide⟩
theorem gX6_bed_12 : u_gf cX6_bed RX6 12 6 4 := ⟨29, RX6, TX6, 8, dX6_bed_12, rfl, inlX6, by decide, mf_RX6_29, by decide, by decide⟩
theorem gX6_bed_16 : u_gf cX6_bed RX6 16 6 3 := ⟨25, RX6, TX6, 8, dX6_bed_16, rfl, inlX6, by decide, mf_RX6_25, by decide, by decide⟩
theorem gX6_level_1 : u_gf cX6_level RX6 1 6 3 := ⟨25, RX6, TX6, 8, dX6_level_1, rfl, inlX6, by decide, mf_RX6_25, by decide, by decide⟩
theorem ml_RX6_45 : Cond.methodLink RX6 45 yX6_bed ∈ wsL_law := u_r12 _ (List.mem_of_getElem? (i := 11) rfl)
theorem gX6_level_16 : u_gf cX6_level RX6 16 6 0 := ⟨12, RX6, TX6, 8, dX6_level_16, rfl, inlX6, by decide, mf_RX6_12, by decide, by decide⟩
theorem mf_RX6_49 : Cond.fieldLink RX6 49 "Saltwedge$Layer" "water" "I" ∈ wsL_law := u_r12 _ (List.mem_of_getElem? (i := 5) rfl)
theorem gX6_level_19 : u_gf cX6_level RX6 19 2 0 := ⟨49, RX2, TX2, 2, dX6_level_19, rfl, inlX2, by decide, mf_RX6_49, by decide, by decide⟩
theorem gX6_level_23 : u_gf cX6_level RX6 23 6 1 := ⟨18, RX6, TX6, 8, dX6_level_23, rfl, inlX6, by decide, mf_RX6_18, by decide, by decide⟩
theorem gX6_level_26 : u_gf cX6_level RX6 26 2 0 := ⟨49, RX2, TX2, 2, dX6_level_26, rfl, inlX2, by decide, mf_RX6_49, by decide, by decide⟩
theorem gX6_level_31 : u_gf cX6_level RX6 31 6 3 := ⟨25, RX6, TX6, 8, dX6_level_31, rfl, inlX6, by decide, mf_RX6_25, by decide, by decide⟩
theorem gX6_giveCloud_2 : u_gf cX6_giveCloud RX6 2 6 5 := ⟨36, RX6, TX6, 8, dX6_giveCloud_2, rfl, inlX6, by decide, mf_RX6_36, by decide, by decide⟩
theorem gX6_giveCloud_6 : u_gf cX6_giveCloud RX6 6 6 0 := ⟨12, RX6, TX6, 8, dX6_giveCloud_6, rfl, inlX6, by decide, mf_RX6_12, by decide, by decide⟩
theorem gX6_giveCloud_9 : u_gf cX6_giveCloud RX6 9 2 0 := ⟨49, RX2, TX2, 2, dX6_giveCloud_9, rfl, inlX2, by decide, mf_RX6_49, by decide, by decide⟩
theorem gX6_giveCloud_18 : u_gf cX6_giveCloud RX6 18 6 5 := ⟨36, RX6, TX6, 8, dX6_giveCloud_18, rfl, inlX6, by decide, mf_RX6_36, by decide, by decide⟩
theorem pX6_giveCloud_23 : u_pf cX6_giveCloud RX6 23 6 5 false (.int) := ⟨36, RX6, TX6, 8, tyX6, dX6_giveCloud_23, rfl, inlX6, tyX6_ok, nmX6, by decide, mf_RX6_36, by decide, by decide, rfl, by decide +kernel, fun h => nomatch h⟩
theorem gX6_refusal_1 : u_gf cX6_refusal RX6 1 6 7 := ⟨42, RX6, TX6, 8, dX6_refusal_1, rfl, inlX6, by decide, mf_RX6_42, by decide, by decide⟩
theorem gX6_refusal_11 : u_gf cX6_refusal RX6 11 6 7 := ⟨42, RX6, TX6, 8, dX6_refusal_11, rfl, inlX6, by decide, mf_RX6_42, by decide, by decide⟩
theorem gX6_refusal_20 : u_gf cX6_refusal RX6 20 6 4 := ⟨29, RX6, TX6, 8, dX6_refusal_20, rfl, inlX6, by decide, mf_RX6_29, by decide, by decide⟩
theorem gX6_mix_1 : u_gf cX6_mix RX6 1 6 6 := ⟨39, RX6, TX6, 8, dX6_mix_1, rfl, inlX6, by decide, mf_RX6_39, by decide, by decide⟩
theorem gX6_mix_11 : u_gf cX6_mix RX6 11 6 0 := ⟨12, RX6, TX6, 8, dX6_mix_11, rfl, inlX6, by decide, mf_RX6_12, by decide, by decide⟩
theorem gX6_mix_14 : u_gf cX6_mix RX6 14 2 0 := ⟨49, RX2, TX2, 2, dX6_mix_14, rfl, inlX2, by decide, mf_RX6_49, by decide, by decide⟩
theorem gX6_mix_18 : u_gf cX6_mix RX6 18 6 1 := ⟨18, RX6, TX6, 8, dX6_mix_18, rfl, inlX6, by decide, mf_RX6_18, by decide, by decide⟩
theorem gX6_mix_21 : u_gf cX6_mix RX6 21 2 0 := ⟨49, RX2, TX2, 2, dX6_mix_21, rfl, inlX2, by decide, mf_RX6_49, by decide, by decide⟩
theorem ml_RX6_56 : Cond.methodLink RX6 56 Lib.Math.min.name ∈ wsL_law := u_r17 _ (List.mem_of_getElem? (i := 15) rfl)
theorem gX6_mix_31 : u_gf cX6_mix RX6 31 6 1 := ⟨18, RX6, TX6, 8, dX6_mix_31, rfl, inlX6, by decide, mf_RX6_18, by decide, by decide⟩
theorem ml_RX6_62 : Cond.methodLink RX6 62 yX2_saltWith ∈ wsL_law := u_r17 _ (List.mem_of_getElem? (i := 16) rfl)
theorem gX6_mix_39 : u_gf cX6_mix RX6 39 6 0 := ⟨12, RX6, TX6, 8, dX6_mix_39, rfl, inlX6, by decide, mf_RX6_12, by decide, by decide⟩
theorem gX6_mix_53 : u_gf cX6_mix RX6 53 6 1 := ⟨18, RX6, TX6, 8, dX6_mix_53, rfl, inlX6, by decide, mf_RX6_18, by decide, by decide⟩
theorem mf_RX6_66 : Cond.fieldLink RX6 66 "Saltwedge$Layer" "salt" "I" ∈ wsL_law := u_r12 _ (List.mem_of_getElem? (i := 6) rfl)
theorem gX6_mix_57 : u_gf cX6_mix RX6 57 2 1 := ⟨66, RX2, TX2, 2, dX6_mix_57, rfl, inlX2, by decide, mf_RX6_66, by decide, by decide⟩
theorem pX6_mix_62 : u_pf cX6_mix RX6 62 2 1 false (.int) := ⟨66, RX2, TX2, 2, tyX2, dX6_mix_62, rfl, inlX2, tyX2_ok, nmX2, by decide, mf_RX6_66, by decide, by decide, rfl, by decide +kernel, fun h => nomatch h⟩
theorem gX6_mix_66 : u_gf cX6_mix RX6 66 6 0 := ⟨12, RX6, TX6, 8, dX6_mix_66, rfl, inlX6, by decide, mf_RX6_12, by decide, by decide⟩
theorem gX6_mix_70 : u_gf cX6_mix RX6 70 2 1 := ⟨66, RX2, TX2, 2, dX6_mix_70, rfl, inlX2, by decide, mf_RX6_66, by decide, by decide⟩
theorem pX6_mix_75 : u_pf cX6_mix RX6 75 2 1 false (.int) := ⟨66, RX2, TX2, 2, tyX2, dX6_mix_75, rfl, inlX2, tyX2_ok, nmX2, by decide, mf_RX6_66, by decide, by decide, rfl, by decide +kernel, fun h => nomatch h⟩
theorem gX6_settleOrLift_1 : u_gf cX6_settleOrLift RX6 1 6 6 := ⟨39, RX6, TX6, 8, dX6_settleOrLift_1, rfl, inlX6, by decide, mf_RX6_39, by decide, by decide⟩
theorem gX6_settleOrLift_10 : u_gf cX6_settleOrLift RX6 10 6 5 := ⟨36, RX6, TX6, 8, dX6_settleOrLift_10, rfl, inlX6, by decide, mf_RX6_36, by decide, by decide⟩
theorem gX6_settleOrLift_14 : u_gf cX6_settleOrLift RX6 14 6 5 := ⟨36, RX6, TX6, 8, dX6_settleOrLift_14, rfl, inlX6, by decide, mf_RX6_36, by decide, by decide⟩
theorem gX6_settleOrLift_23 : u_gf cX6_settleOrLift RX6 23 6 5 := ⟨36, RX6, TX6, 8, dX6_settleOrLift_23, rfl, inlX6, by decide, mf_RX6_36, by decide, by decide⟩
theorem pX6_settleOrLift_28 : u_pf cX6_settleOrLift RX6 28 6 5 false (.int) := ⟨36, RX6, TX6, 8, tyX6, dX6_settleOrLift_28, rfl, inlX6, tyX6_ok, nmX6, by decide, mf_RX6_36, by decide, by decide, rfl, by decide +kernel, fun h => nomatch h⟩
theorem gX6_settleOrLift_33 : u_gf cX6_settleOrLift RX6 33 6 4 := ⟨29, RX6, TX6, 8, dX6_settleOrLift_33, rfl, inlX6, by decide, mf_RX6_29, by decide, by decide⟩
theorem pX6_settleOrLift_38 : u_pf cX6_settleOrLift RX6 38 6 4 false (.int) := ⟨29, RX6, TX6, 8, tyX6, dX6_settleOrLift_38, rfl, inlX6, tyX6_ok, nmX6, by decide, mf_RX6_29, by decide, by decide, rfl, by decide +kernel, fun h => nomatch h⟩
theorem gX6_settleOrLift_45 : u_gf cX6_settleOrLift RX6 45 6 6 := ⟨39, RX6, TX6, 8, dX6_settleOrLift_45, rfl, inlX6, by decide, mf_RX6_39, by decide, by decide⟩
theorem gX6_settleOrLift_54 : u_gf cX6_settleOrLift RX6 54 6 6 := ⟨39, RX6, TX6, 8, dX6_settleOrLift_54, rfl, inlX6, by decide, mf_RX6_39, by decide, by decide⟩
theorem gX6_settleOrLift_61 : u_gf cX6_settleOrLift RX6 61 6 4 := ⟨29, RX6, TX6, 8, dX6_settleOrLift_61, rfl, inlX6, by decide, mf_RX6_29, by decide, by decide⟩
theorem gX6_settleOrLift_70 : u_gf cX6_settleOrLift RX6 70 6 4 := ⟨29, RX6, TX6, 8, dX6_settleOrLift_70, rfl, inlX6, by decide, mf_RX6_29, by decide, by decide⟩
theorem pX6_settleOrLift_75 : u_pf cX6_settleOrLift RX6 75 6 4 false (.int) := ⟨29, RX6, TX6, 8, tyX6, dX6_settleOrLift_75, rfl, inlX6, tyX6_ok, nmX6, by decide, mf_RX6_29, by decide, by decide, rfl, by decide +kernel, fun h => nomatch h⟩
theorem gX6_settleOrLift_80 : u_gf cX6_settleOrLift RX6 80 6 5 := ⟨36, RX6, TX6, 8, dX6_settleOrLift_80, rfl, inlX6, by decide, mf_RX6_36, by decide, by decide⟩
theorem pX6_settleOrLift_85 : u_pf cX6_settleOrLift RX6 85 6 5 false (.int) := ⟨36, RX6, TX6, 8, tyX6, dX6_settleOrLift_85, rfl, inlX6, tyX6_ok, nmX6, by decide, mf_RX6_36, by decide, by decide, rfl, by decide +kernel, fun h => nomatch h⟩
theorem gX6_endHour_1 : u_gf cX6_endHour RX6 1 6 2 := ⟨21, RX6, TX6, 8, dX6_endHour_1, rfl, inlX6, by decide, mf_RX6_21, by decide, by decide⟩
theorem ml_RX6_69 : Cond.methodLink RX6 69 yJ9_floorMod_7cf53 ∈ wsL_law := u_r18 _ (List.mem_of_getElem? (i := 21) rfl)
theorem gX6_endHour_11 : u_gf cX6_endHour RX6 11 6 1 := ⟨18, RX6, TX6, 8, dX6_endHour_11, rfl, inlX6, by decide, mf_RX6_18, by decide, by decide⟩
theorem ml_RX6_72 : Cond.methodLink RX6 72 yX2_salinity ∈ wsL_law := u_r12 _ (List.mem_of_getElem? (i := 15) rfl)
theorem ml_RX6_75 : Cond.methodLink RX6 75 Lib.Math.max.name ∈ wsL_law := u_r21 _ (List.mem_of_getElem? (i := 8) rfl)
theorem gX6_wasFresher_16 : u_gf cX6_wasFresher RX6 16 6 2 := ⟨21, RX6, TX6, 8, dX6_wasFresher_16, rfl, inlX6, by decide, mf_RX6_21, by decide, by decide⟩
theorem gX6_answer_53 : u_gf cX6_answer RX6 53 6 0 := ⟨12, RX6, TX6, 8, dX6_answer_53, rfl, inlX6, by decide, mf_RX6_12, by decide, by decide⟩
theorem gX6_answer_56 : u_gf cX6_answer RX6 56 2 0 := ⟨49, RX2, TX2, 2, dX6_answer_56, rfl, inlX2, by decide, mf_RX6_49, by decide, by decide⟩
theorem gX6_answer_61 : u_gf cX6_answer RX6 61 6 0 := ⟨12, RX6, TX6, 8, dX6_answer_61, rfl, inlX6, by decide, mf_RX6_12, by decide, by decide⟩
theorem gX6_answer_64 : u_gf cX6_answer RX6 64 2 1 := ⟨66, RX2, TX2, 2, dX6_answer_64, rfl, inlX2, by decide, mf_RX6_66, by decide, by decide⟩
theorem gX6_answer_69 : u_gf cX6_answer RX6 69 6 1 := ⟨18, RX6, TX6, 8, dX6_answer_69, rfl, inlX6, by decide, mf_RX6_18, by decide, by decide⟩
theorem gX6_answer_72 : u_gf cX6_answer RX6 72 2 0 := ⟨49, RX2, TX2, 2, dX6_answer_72, rfl, inlX2, by decide, mf_RX6_49, by decide, by decide⟩
theorem gX6_answer_77 : u_gf cX6_answer RX6 77 6 1 := ⟨18, RX6, TX6, 8, dX6_answer_77, rfl, inlX6, by decide, mf_RX6_18, by decide, by decide⟩
theorem gX6_answer_80 : u_gf cX6_answer RX6 80 2 1 := ⟨66, RX2, TX2, 2, dX6_answer_80, rfl, inlX2, by decide, mf_RX6_66, by decide, by decide⟩
theorem gX6_answer_85 : u_gf cX6_answer RX6 85 6 5 := ⟨36, RX6, TX6, 8, dX6_answer_85, rfl, inlX6, by decide, mf_RX6_36, by decide, by decide⟩
theorem gX6_answer_90 : u_gf cX6_answer RX6 90 6 4 := ⟨29, RX6, TX6, 8, dX6_answer_90, rfl, inlX6, by decide, mf_RX6_29, by decide, by decide⟩
theorem ml_RX6_78 : Cond.methodLink RX6 78 yX6_level ∈ wsL_law := u_r12 _ (List.mem_of_getElem? (i := 7) rfl)
theorem gX6_answer_100 : u_gf cX6_answer RX6 100 6 0 := ⟨12, RX6, TX6, 8, dX6_answer_100, rfl, inlX6, by decide, mf_RX6_12, by decide, by decide⟩
theorem gX6_answer_108 : u_gf cX6_answer RX6 108 6 1 := ⟨18, RX6, TX6, 8, dX6_answer_108, rfl, inlX6, by decide, mf_RX6_18, by decide, by decide⟩
theorem gX6_answer_116 : u_gf cX6_answer RX6 116 6 6 := ⟨39, RX6, TX6, 8, dX6_answer_116, rfl, inlX6, by decide, mf_RX6_39, by decide, by decide⟩
theorem ml_RX7_1 : Cond.methodLink RX7 1 objectInit ∈ wsL_law := u_r3 _ (List.mem_of_getElem? (i := 16) rfl)
theorem ml_RX8_3 : Cond.methodLink RX8 3 objectInit ∈ wsL_law := u_r4 _ (List.mem_of_getElem? (i := 19) rfl)
theorem mf_RX8_11 : Cond.fieldLink RX8 11 "Saltwedge$Told" "rows" "[I" ∈ wsL_law := u_r4 _ (List.mem_of_getElem? (i := 20) rfl)
theorem pX8_init_10 : u_pf cX8_init RX8 10 8 0 true (.array (.int)) := ⟨11, RX8, TX8, 2, tyX8, dX8_init_10, rfl, inlX8, tyX8_ok, nmX8, by decide, mf_RX8_11, by decide, by decide, rfl, by decide +kernel, fun h => rfl⟩
theorem mf_RX8_15 : Cond.fieldLink RX8 15 "Saltwedge$Told" "count" "I" ∈ wsL_law := u_r8 _ (List.mem_of_getElem? (i := 17) rfl)
theorem gX8_keep_1 : u_gf cX8_keep RX8 1 8 1 := ⟨15, RX8, TX8, 2, dX8_keep_1, rfl, inlX8, by decide, mf_RX8_15, by decide, by decide⟩
theorem gX8_keep_12 : u_gf cX8_keep RX8 12 8 1 := ⟨15, RX8, TX8, 2, dX8_keep_12, rfl, inlX8, by decide, mf_RX8_15, by decide, by decide⟩
theorem gX8_keep_21 : u_gf cX8_keep RX8 21 8 0 := ⟨11, RX8, TX8, 2, dX8_keep_21, rfl, inlX8, by decide, mf_RX8_11, by decide, by decide⟩
theorem gX8_keep_31 : u_gf cX8_keep RX8 31 8 0 := ⟨11, RX8, TX8, 2, dX8_keep_31, rfl, inlX8, by decide, mf_RX8_11, by decide, by decide⟩
theorem gX8_keep_41 : u_gf cX8_keep RX8 41 8 0 := ⟨11, RX8, TX8, 2, dX8_keep_41, rfl, inlX8, by decide, mf_RX8_11, by decide, by decide⟩
theorem gX8_keep_51 : u_gf cX8_keep RX8 51 8 0 := ⟨11, RX8, TX8, 2, dX8_keep_51, rfl, inlX8, by decide, mf_RX8_11, by decide, by decide⟩
theorem gX8_keep_64 : u_gf cX8_keep RX8 64 8 0 := ⟨11, RX8, TX8, 2, dX8_keep_64, rfl, inlX8, by decide, mf_RX8_11, by decide, by decide⟩
theorem gX8_keep_77 : u_gf cX8_keep RX8 77 8 0 := ⟨11, RX8, TX8, 2, dX8_keep_77, rfl, inlX8, by decide, mf_RX8_11, by decide, by decide⟩
theorem gX8_keep_90 : u_gf cX8_keep RX8 90 8 0 := ⟨11, RX8, TX8, 2, dX8_keep_90, rfl, inlX8, by decide, mf_RX8_11, by decide, by decide⟩
theorem gX8_keep_104 : u_gf cX8_keep RX8 104 8 1 := ⟨15, RX8, TX8, 2, dX8_keep_104, rfl, inlX8, by decide, mf_RX8_15, by decide, by decide⟩
theorem pX8_keep_109 : u_pf cX8_keep RX8 109 8 1 false (.int) := ⟨15, RX8, TX8, 2, tyX8, dX8_keep_109, rfl, inlX8, tyX8_ok, nmX8, by decide, mf_RX8_15, by decide, by decide, rfl, by decide +kernel, fun h => nomatch h⟩
theorem gX8_part_13 : u_gf cX8_part RX8 13 8 0 := ⟨11, RX8, TX8, 2, dX8_part_13, rfl, inlX8, by decide, mf_RX8_11, by decide, by decide⟩
theorem gX8_part_21 : u_gf cX8_part RX8 21 8 0 := ⟨11, RX8, TX8, 2, dX8_part_21, rfl, inlX8, by decide, mf_RX8_11, by decide, by decide⟩
theorem ml_RX9_1 : Cond.methodLink RX9 1 objectInit ∈ wsL_law := u_r3 _ (List.mem_of_getElem? (i := 13) rfl)
theorem mf_RX9_7 : Cond.fieldLink RX9 7 "Saltwedge$Turn" "rise" "I" ∈ wsL_law := u_r6 _ (List.mem_of_getElem? (i := 9) rfl)
theorem gX9_height_1 : u_gf cX9_height RX9 1 9 1 := ⟨7, RX9, TX9, 4, dX9_height_1, rfl, inlX9, by decide, mf_RX9_7, by decide, by decide⟩
theorem mf_RX9_13 : Cond.fieldLink RX9 13 "Saltwedge$Turn" "period" "I" ∈ wsL_law := u_r6 _ (List.mem_of_getElem? (i := 10) rfl)
theorem gX9_height_8 : u_gf cX9_height RX9 8 9 0 := ⟨13, RX9, TX9, 4, dX9_height_8, rfl, inlX9, by decide, mf_RX9_13, by decide, by decide⟩
theorem gX9_height_12 : u_gf cX9_height RX9 12 9 1 := ⟨7, RX9, TX9, 4, dX9_height_12, rfl, inlX9, by decide, mf_RX9_7, by decide, by decide⟩
theorem mf_RX9_16 : Cond.fieldLink RX9 16 "Saltwedge$Turn" "phase" "I" ∈ wsL_law := u_r6 _ (List.mem_of_getElem? (i := 11) rfl)
theorem gX9_height_22 : u_gf cX9_height RX9 22 9 3 := ⟨16, RX9, TX9, 4, dX9_height_22, rfl, inlX9, by decide, mf_RX9_16, by decide, by decide⟩
theorem gX9_height_27 : u_gf cX9_height RX9 27 9 0 := ⟨13, RX9, TX9, 4, dX9_height_27, rfl, inlX9, by decide, mf_RX9_13, by decide, by decide⟩
theorem gX9_height_34 : u_gf cX9_height RX9 34 9 1 := ⟨7, RX9, TX9, 4, dX9_height_34, rfl, inlX9, by decide, mf_RX9_7, by decide, by decide⟩
theorem mf_RX9_19 : Cond.fieldLink RX9 19 "Saltwedge$Turn" "range" "I" ∈ wsL_law := u_r6 _ (List.mem_of_getElem? (i := 12) rfl)
theorem gX9_height_41 : u_gf cX9_height RX9 41 9 2 := ⟨19, RX9, TX9, 4, dX9_height_41, rfl, inlX9, by decide, mf_RX9_19, by decide, by decide⟩
theorem gX9_height_47 : u_gf cX9_height RX9 47 9 1 := ⟨7, RX9, TX9, 4, dX9_height_47, rfl, inlX9, by decide, mf_RX9_7, by decide, by decide⟩
theorem gX9_height_55 : u_gf cX9_height RX9 55 9 2 := ⟨19, RX9, TX9, 4, dX9_height_55, rfl, inlX9, by decide, mf_RX9_19, by decide, by decide⟩
theorem gX9_height_59 : u_gf cX9_height RX9 59 9 0 := ⟨13, RX9, TX9, 4, dX9_height_59, rfl, inlX9, by decide, mf_RX9_13, by decide, by decide⟩
theorem gX9_height_66 : u_gf cX9_height RX9 66 9 0 := ⟨13, RX9, TX9, 4, dX9_height_66, rfl, inlX9, by decide, mf_RX9_13, by decide, by decide⟩
theorem gX9_height_70 : u_gf cX9_height RX9 70 9 1 := ⟨7, RX9, TX9, 4, dX9_height_70, rfl, inlX9, by decide, mf_RX9_7, by decide, by decide⟩
theorem ml_RX10_1 : Cond.methodLink RX10 1 objectInit ∈ wsL_law := u_r1 _ (List.mem_of_getElem? (i := 7) rfl)
theorem ml_RX10_9 : Cond.methodLink RX10 9 yX3_init ∈ wsL_law := u_r1 _ (List.mem_of_getElem? (i := 23) rfl)
theorem mf_RX10_10 : Cond.fieldLink RX10 10 "Saltwedge" "live" "LSaltwedge$Mouth;" ∈ wsL_law := u_r1 _ (List.mem_of_getElem? (i := 13) rfl)
theorem pX10_init_12 : u_pf cX10_init RX10 12 10 0 true (.object "Saltwedge$Mouth") := ⟨10, RX10, TX10, 5, tyX10, dX10_init_12, rfl, inlX10, tyX10_ok, nmX10, by decide, mf_RX10_10, by decide, by decide, rfl, by decide +kernel, fun h => rfl⟩
theorem mf_RX10_16 : Cond.fieldLink RX10 16 "Saltwedge" "anew" "LSaltwedge$Mouth;" ∈ wsL_law := u_r1 _ (List.mem_of_getElem? (i := 14) rfl)
theorem pX10_init_23 : u_pf cX10_init RX10 23 10 1 true (.object "Saltwedge$Mouth") := ⟨16, RX10, TX10, 5, tyX10, dX10_init_23, rfl, inlX10, tyX10_ok, nmX10, by decide, mf_RX10_16, by decide, by decide, rfl, by decide +kernel, fun h => rfl⟩
theorem mf_RX10_22 : Cond.fieldLink RX10 22 "Saltwedge" "told" "LSaltwedge$Told;" ∈ wsL_law := u_r1 _ (List.mem_of_getElem? (i := 18) rfl)
theorem pX10_init_34 : u_pf cX10_init RX10 34 10 2 true (.object "Saltwedge$Told") := ⟨22, RX10, TX10, 5, tyX10, dX10_init_34, rfl, inlX10, tyX10_ok, nmX10, by decide, mf_RX10_22, by decide, by decide, rfl, by decide +kernel, fun h => rfl⟩
theorem mf_RX10_28 : Cond.fieldLink RX10 28 "Saltwedge" "oysters" "[LSaltwedge$Oysters;" ∈ wsL_law := u_r1 _ (List.mem_of_getElem? (i := 20) rfl)
theorem pX10_init_43 : u_pf cX10_init RX10 43 10 3 true (.array (.object "Saltwedge$Oysters")) := ⟨28, RX10, TX10, 5, tyX10, dX10_init_43, rfl, inlX10, tyX10_ok, nmX10, by decide, mf_RX10_28, by decide, by decide, rfl, by decide +kernel, fun h => rfl⟩
theorem gX10_init_50 : u_gf cX10_init RX10 50 10 3 := ⟨28, RX10, TX10, 5, dX10_init_50, rfl, inlX10, by decide, mf_RX10_28, by decide, by decide⟩
theorem gX10_init_58 : u_gf cX10_init RX10 58 10 3 := ⟨28, RX10, TX10, 5, dX10_init_58, rfl, inlX10, by decide, mf_RX10_28, by decide, by decide⟩
theorem ml_RX10_33 : Cond.methodLink RX10 33 yX10_within ∈ wsL_law := u_r5 _ (List.mem_of_getElem? (i := 11) rfl)
theorem gX10_turn_63 : u_gf cX10_turn RX10 63 10 0 := ⟨10, RX10, TX10, 5, dX10_turn_63, rfl, inlX10, by decide, mf_RX10_10, by decide, by decide⟩
theorem mf_RX10_46 : Cond.fieldLink RX10 46 "Saltwedge$Mouth" "sea" "LSaltwedge$Sea;" ∈ wsL_law := u_r12 _ (List.mem_of_getElem? (i := 23) rfl)
theorem gX10_turn_66 : u_gf cX10_turn RX10 66 3 0 := ⟨46, RX3, TX3, 10, dX10_turn_66, rfl, inlX3, by decide, mf_RX10_46, by decide, by decide⟩
theorem mf_RX10_50 : Cond.fieldLink RX10 50 "Saltwedge$Sea" "turnCount" "I" ∈ wsL_law := u_r13 _ (List.mem_of_getElem? (i := 0) rfl)
theorem gX10_turn_69 : u_gf cX10_turn RX10 69 5 3 := ⟨50, RX5, TX5, 6, dX10_turn_69, rfl, inlX5, by decide, mf_RX10_50, by decide, by decide⟩
theorem gX10_turn_88 : u_gf cX10_turn RX10 88 10 0 := ⟨10, RX10, TX10, 5, dX10_turn_88, rfl, inlX10, by decide, mf_RX10_10, by decide, by decide⟩
theorem gX10_turn_91 : u_gf cX10_turn RX10 91 3 0 := ⟨46, RX3, TX3, 10, dX10_turn_91, rfl, inlX3, by decide, mf_RX10_46, by decide, by decide⟩
theorem gX10_turn_94 : u_gf cX10_turn RX10 94 5 3 := ⟨50, RX5, TX5, 6, dX10_turn_94, rfl, inlX5, by decide, mf_RX10_50, by decide, by decide⟩
theorem ml_RX10_61 : Cond.methodLink RX10 61 yX10_tell ∈ wsL_law := u_r8 _ (List.mem_of_getElem? (i := 9) rfl)
theorem gX10_mean_21 : u_gf cX10_mean RX10 21 10 0 := ⟨10, RX10, TX10, 5, dX10_mean_21, rfl, inlX10, by decide, mf_RX10_10, by decide, by decide⟩
theorem gX10_mean_24 : u_gf cX10_mean RX10 24 3 0 := ⟨46, RX3, TX3, 10, dX10_mean_24, rfl, inlX3, by decide, mf_RX10_46, by decide, by decide⟩
theorem mf_RX10_67 : Cond.fieldLink RX10 67 "Saltwedge$Sea" "mean" "I" ∈ wsL_law := u_r13 _ (List.mem_of_getElem? (i := 8) rfl)
theorem gX10_mean_27 : u_gf cX10_mean RX10 27 5 5 := ⟨67, RX5, TX5, 6, dX10_mean_27, rfl, inlX5, by decide, mf_RX10_67, by decide, by decide⟩
theorem gX10_surge_2 : u_gf cX10_surge RX10 2 10 0 := ⟨10, RX10, TX10, 5, dX10_surge_2, rfl, inlX10, by decide, mf_RX10_10, by decide, by decide⟩
theorem mf_RX10_70 : Cond.fieldLink RX10 70 "Saltwedge$Mouth" "now" "I" ∈ wsL_law := u_r5 _ (List.mem_of_getElem? (i := 4) rfl)
theorem gX10_surge_5 : u_gf cX10_surge RX10 5 3 9 := ⟨70, RX3, TX3, 10, dX10_surge_5, rfl, inlX3, by decide, mf_RX10_70, by decide, by decide⟩
theorem gX10_surge_50 : u_gf cX10_surge RX10 50 10 0 := ⟨10, RX10, TX10, 5, dX10_surge_50, rfl, inlX10, by decide, mf_RX10_10, by decide, by decide⟩
theorem gX10_surge_53 : u_gf cX10_surge RX10 53 3 0 := ⟨46, RX3, TX3, 10, dX10_surge_53, rfl, inlX3, by decide, mf_RX10_46, by decide, by decide⟩
theorem mf_RX10_75 : Cond.fieldLink RX10 75 "Saltwedge$Sea" "surgeCount" "I" ∈ wsL_law := u_r19 _ (List.mem_of_getElem? (i := 9) rfl)
theorem gX10_surge_56 : u_gf cX10_surge RX10 56 5 4 := ⟨75, RX5, TX5, 6, dX10_surge_56, rfl, inlX5, by decide, mf_RX10_75, by decide, by decide⟩
theorem gX10_surge_85 : u_gf cX10_surge RX10 85 10 0 := ⟨10, RX10, TX10, 5, dX10_surge_85, rfl, inlX10, by decide, mf_RX10_10, by decide, by decide⟩
theorem gX10_surge_88 : u_gf cX10_surge RX10 88 3 0 := ⟨46, RX3, TX3, 10, dX10_surge_88, rfl, inlX3, by decide, mf_RX10_46, by decide, by decide⟩
theorem gX10_surge_91 : u_gf cX10_surge RX10 91 5 4 := ⟨75, RX5, TX5, 6, dX10_surge_91, rfl, inlX5, by decide, mf_RX10_75, by decide, by decide⟩
theorem gX10_river_33 : u_gf cX10_river RX10 33 10 0 := ⟨10, RX10, TX10, 5, dX10_river_33, rfl, inlX10, by decide, mf_RX10_10, by decide, by decide⟩
theorem mf_RX10_82 : Cond.fieldLink RX10 82 "Saltwedge$Mouth" "riverWater" "I" ∈ wsL_law := u_r19 _ (List.mem_of_getElem? (i := 14) rfl)
theorem gX10_river_36 : u_gf cX10_river RX10 36 3 7 := ⟨82, RX3, TX3, 10, dX10_river_36, rfl, inlX3, by decide, mf_RX10_82, by decide, by decide⟩
theorem gX10_barrier_37 : u_gf cX10_barrier RX10 37 10 0 := ⟨10, RX10, TX10, 5, dX10_barrier_37, rfl, inlX10, by decide, mf_RX10_10, by decide, by decide⟩
theorem mf_RX10_87 : Cond.fieldLink RX10 87 "Saltwedge$Mouth" "barrier" "LSaltwedge$Barrier;" ∈ wsL_law := u_r6 _ (List.mem_of_getElem? (i := 17) rfl)
theorem gX10_barrier_40 : u_gf cX10_barrier RX10 40 3 1 := ⟨87, RX3, TX3, 10, dX10_barrier_40, rfl, inlX3, by decide, mf_RX10_87, by decide, by decide⟩
theorem mf_RX10_91 : Cond.fieldLink RX10 91 "Saltwedge$Barrier" "mark" "I" ∈ wsL_law := u_r19 _ (List.mem_of_getElem? (i := 19) rfl)
theorem gX10_barrier_43 : u_gf cX10_barrier RX10 43 0 4 := ⟨91, RX0, TX0, 7, dX10_barrier_43, rfl, inlX0, by decide, mf_RX10_91, by decide, by decide⟩
theorem gX10_section_65 : u_gf cX10_section RX10 65 10 0 := ⟨10, RX10, TX10, 5, dX10_section_65, rfl, inlX10, by decide, mf_RX10_10, by decide, by decide⟩
theorem mf_RX10_100 : Cond.fieldLink RX10 100 "Saltwedge$Mouth" "sectionCount" "I" ∈ wsL_law := u_r6 _ (List.mem_of_getElem? (i := 23) rfl)
theorem gX10_section_68 : u_gf cX10_section RX10 68 3 5 := ⟨100, RX3, TX3, 10, dX10_section_68, rfl, inlX3, by decide, mf_RX10_100, by decide, by decide⟩
theorem gX10_section_77 : u_gf cX10_section RX10 77 10 0 := ⟨10, RX10, TX10, 5, dX10_section_77, rfl, inlX10, by decide, mf_RX10_10, by decide, by decide⟩
theorem gX10_section_80 : u_gf cX10_section RX10 80 3 9 := ⟨70, RX3, TX3, 10, dX10_section_80, rfl, inlX3, by decide, mf_RX10_70, by decide, by decide⟩
theorem gX10_section_97 : u_gf cX10_section RX10 97 10 0 := ⟨10, RX10, TX10, 5, dX10_section_97, rfl, inlX10, by decide, mf_RX10_10, by decide, by decide⟩
theorem gX10_section_100 : u_gf cX10_section RX10 100 3 5 := ⟨100, RX3, TX3, 10, dX10_section_100, rfl, inlX3, by decide, mf_RX10_100, by decide, by decide⟩
theorem gX10_intake_1 : u_gf cX10_intake RX10 1 10 0 := ⟨10, RX10, TX10, 5, dX10_intake_1, rfl, inlX10, by decide, mf_RX10_10, by decide, by decide⟩
theorem ml_RX10_105 : Cond.methodLink RX10 105 yX3_hasSection ∈ wsL_law := u_r12 _ (List.mem_of_getElem? (i := 0) rfl)
theorem gX10_intake_87 : u_gf cX10_intake RX10 87 10 0 := ⟨10, RX10, TX10, 5, dX10_intake_87, rfl, inlX10, by decide, mf_RX10_10, by decide, by decide⟩
theorem mf_RX10_118 : Cond.fieldLink RX10 118 "Saltwedge$Mouth" "intakeCount" "I" ∈ wsL_law := u_r20 _ (List.mem_of_getElem? (i := 3) rfl)
theorem gX10_intake_90 : u_gf cX10_intake RX10 90 3 6 := ⟨118, RX3, TX3, 10, dX10_intake_90, rfl, inlX3, by decide, mf_RX10_118, by decide, by decide⟩
theorem gX10_intake_109 : u_gf cX10_intake RX10 109 10 0 := ⟨10, RX10, TX10, 5, dX10_intake_109, rfl, inlX10, by decide, mf_RX10_10, by decide, by decide⟩
theorem gX10_intake_112 : u_gf cX10_intake RX10 112 3 6 := ⟨118, RX3, TX3, 10, dX10_intake_112, rfl, inlX3, by decide, mf_RX10_118, by decide, by decide⟩
theorem gX10_oysters_1 : u_gf cX10_oysters RX10 1 10 0 := ⟨10, RX10, TX10, 5, dX10_oysters_1, rfl, inlX10, by decide, mf_RX10_10, by decide, by decide⟩
theorem mf_RX10_125 : Cond.fieldLink RX10 125 "Saltwedge" "oysterCount" "I" ∈ wsL_law := u_r20 _ (List.mem_of_getElem? (i := 20) rfl)
theorem gX10_oysters_52 : u_gf cX10_oysters RX10 52 10 4 := ⟨125, RX10, TX10, 5, dX10_oysters_52, rfl, inlX10, by decide, mf_RX10_125, by decide, by decide⟩
theorem gX10_oysters_71 : u_gf cX10_oysters RX10 71 10 4 := ⟨125, RX10, TX10, 5, dX10_oysters_71, rfl, inlX10, by decide, mf_RX10_125, by decide, by decide⟩
theorem gX10_oysters_77 : u_gf cX10_oysters RX10 77 10 3 := ⟨28, RX10, TX10, 5, dX10_oysters_77, rfl, inlX10, by decide, mf_RX10_28, by decide, by decide⟩
theorem mf_RX10_130 : Cond.fieldLink RX10 130 "Saltwedge$Oysters" "section" "I" ∈ wsL_law := u_r20 _ (List.mem_of_getElem? (i := 21) rfl)
theorem pX10_oysters_84 : u_pf cX10_oysters RX10 84 4 0 false (.int) := ⟨130, RX4, TX4, 3, tyX4, dX10_oysters_84, rfl, inlX4, tyX4_ok, nmX4, by decide, mf_RX10_130, by decide, by decide, rfl, by decide +kernel, fun h => nomatch h⟩
theorem gX10_oysters_88 : u_gf cX10_oysters RX10 88 10 3 := ⟨28, RX10, TX10, 5, dX10_oysters_88, rfl, inlX10, by decide, mf_RX10_28, by decide, by decide⟩
theorem mf_RX10_133 : Cond.fieldLink RX10 133 "Saltwedge$Oysters" "grain" "I" ∈ wsL_law := u_r20 _ (List.mem_of_getElem? (i := 22) rfl)
theorem pX10_oysters_95 : u_pf cX10_oysters RX10 95 4 1 false (.int) := ⟨133, RX4, TX4, 3, tyX4, dX10_oysters_95, rfl, inlX4, tyX4_ok, nmX4, by decide, mf_RX10_133, by decide, by decide, rfl, by decide +kernel, fun h => nomatch h⟩
theorem gX10_oysters_99 : u_gf cX10_oysters RX10 99 10 3 := ⟨28, RX10, TX10, 5, dX10_oysters_99, rfl, inlX10, by decide, mf_RX10_28, by decide, by decide⟩
theorem mf_RX10_136 : Cond.fieldLink RX10 136 "Saltwedge$Oysters" "hours" "I" ∈ wsL_law := u_r20 _ (List.mem_of_getElem? (i := 23) rfl)
theorem pX10_oysters_106 : u_pf cX10_oysters RX10 106 4 2 false (.int) := ⟨136, RX4, TX4, 3, tyX4, dX10_oysters_106, rfl, inlX4, tyX4_ok, nmX4, by decide, mf_RX10_136, by decide, by decide, rfl, by decide +kernel, fun h => nomatch h⟩
theorem pX10_oysters_114 : u_pf cX10_oysters RX10 114 10 4 false (.int) := ⟨125, RX10, TX10, 5, tyX10, dX10_oysters_114, rfl, inlX10, tyX10_ok, nmX10, by decide, mf_RX10_125, by decide, by decide, rfl, by decide +kernel, fun h => nomatch h⟩
theorem gX10_permit_1 : u_gf cX10_permit RX10 1 10 0 := ⟨10, RX10, TX10, 5, dX10_permit_1, rfl, inlX10, by decide, mf_RX10_10, by decide, by decide⟩
theorem gX10_permit_43 : u_gf cX10_permit RX10 43 10 0 := ⟨10, RX10, TX10, 5, dX10_permit_43, rfl, inlX10, by decide, mf_RX10_10, by decide, by decide⟩
theorem mf_RX10_141 : Cond.fieldLink RX10 141 "Saltwedge$Mouth" "sections" "[LSaltwedge$Section;" ∈ wsL_law := u_r7 _ (List.mem_of_getElem? (i := 0) rfl)
theorem gX10_permit_46 : u_gf cX10_permit RX10 46 3 2 := ⟨141, RX3, TX3, 10, dX10_permit_46, rfl, inlX3, by decide, mf_RX10_141, by decide, by decide⟩
theorem mf_RX10_145 : Cond.fieldLink RX10 145 "Saltwedge$Section" "permit" "I" ∈ wsL_law := u_r13 _ (List.mem_of_getElem? (i := 18) rfl)
theorem gX10_permit_51 : u_gf cX10_permit RX10 51 6 7 := ⟨145, RX6, TX6, 8, dX10_permit_51, rfl, inlX6, by decide, mf_RX10_145, by decide, by decide⟩
theorem gX10_whyNot_1 : u_gf cX10_whyNot RX10 1 10 0 := ⟨10, RX10, TX10, 5, dX10_whyNot_1, rfl, inlX10, by decide, mf_RX10_10, by decide, by decide⟩
theorem gX10_whyNot_43 : u_gf cX10_whyNot RX10 43 10 0 := ⟨10, RX10, TX10, 5, dX10_whyNot_43, rfl, inlX10, by decide, mf_RX10_10, by decide, by decide⟩
theorem gX10_whyNot_46 : u_gf cX10_whyNot RX10 46 3 2 := ⟨141, RX3, TX3, 10, dX10_whyNot_46, rfl, inlX3, by decide, mf_RX10_141, by decide, by decide⟩
theorem ml_RX10_150 : Cond.methodLink RX10 150 yX6_refusal ∈ wsL_law := u_r13 _ (List.mem_of_getElem? (i := 19) rfl)
theorem gX10_dredge_1 : u_gf cX10_dredge RX10 1 10 0 := ⟨10, RX10, TX10, 5, dX10_dredge_1, rfl, inlX10, by decide, mf_RX10_10, by decide, by decide⟩
theorem gX10_dredge_17 : u_gf cX10_dredge RX10 17 10 0 := ⟨10, RX10, TX10, 5, dX10_dredge_17, rfl, inlX10, by decide, mf_RX10_10, by decide, by decide⟩
theorem gX10_dredge_64 : u_gf cX10_dredge RX10 64 10 0 := ⟨10, RX10, TX10, 5, dX10_dredge_64, rfl, inlX10, by decide, mf_RX10_10, by decide, by decide⟩
theorem gX10_dredge_67 : u_gf cX10_dredge RX10 67 3 2 := ⟨141, RX3, TX3, 10, dX10_dredge_67, rfl, inlX3, by decide, mf_RX10_141, by decide, by decide⟩
theorem gX10_dredge_101 : u_gf cX10_dredge RX10 101 10 0 := ⟨10, RX10, TX10, 5, dX10_dredge_101, rfl, inlX10, by decide, mf_RX10_10, by decide, by decide⟩
theorem gX10_dredge_104 : u_gf cX10_dredge RX10 104 3 2 := ⟨141, RX3, TX3, 10, dX10_dredge_104, rfl, inlX3, by decide, mf_RX10_141, by decide, by decide⟩
theorem gX10_dredge_109 : u_gf cX10_dredge RX10 109 6 7 := ⟨145, RX6, TX6, 8, dX10_dredge_109, rfl, inlX6, by decide, mf_RX10_145, by decide, by decide⟩
theorem gX10_pass_21 : u_gf cX10_pass RX10 21 10 0 := ⟨10, RX10, TX10, 5, dX10_pass_21, rfl, inlX10, by decide, mf_RX10_10, by decide, by decide⟩
theorem gX10_pass_24 : u_gf cX10_pass RX10 24 3 9 := ⟨70, RX3, TX3, 10, dX10_pass_24, rfl, inlX3, by decide, mf_RX10_70, by decide, by decide⟩
theorem gX10_pass_46 : u_gf cX10_pass RX10 46 10 0 := ⟨10, RX10, TX10, 5, dX10_pass_46, rfl, inlX10, by decide, mf_RX10_10, by decide, by decide⟩
theorem gX10_pass_50 : u_gf cX10_pass RX10 50 10 0 := ⟨10, RX10, TX10, 5, dX10_pass_50, rfl, inlX10, by decide, mf_RX10_10, by decide, by decide⟩
theorem gX10_pass_53 : u_gf cX10_pass RX10 53 3 9 := ⟨70, RX3, TX3, 10, dX10_pass_53, rfl, inlX3, by decide, mf_RX10_70, by decide, by decide⟩
theorem ml_RX10_162 : Cond.methodLink RX10 162 yX3_goOnTo ∈ wsL_law := u_r14 _ (List.mem_of_getElem? (i := 12) rfl)
theorem gX10_pass_62 : u_gf cX10_pass RX10 62 10 0 := ⟨10, RX10, TX10, 5, dX10_pass_62, rfl, inlX10, by decide, mf_RX10_10, by decide, by decide⟩
theorem gX10_pass_65 : u_gf cX10_pass RX10 65 3 9 := ⟨70, RX3, TX3, 10, dX10_pass_65, rfl, inlX3, by decide, mf_RX10_70, by decide, by decide⟩
theorem gX10_now_1 : u_gf cX10_now RX10 1 10 0 := ⟨10, RX10, TX10, 5, dX10_now_1, rfl, inlX10, by decide, mf_RX10_10, by decide, by decide⟩
theorem gX10_now_4 : u_gf cX10_now RX10 4 3 9 := ⟨70, RX3, TX3, 10, dX10_now_4, rfl, inlX3, by decide, mf_RX10_70, by decide, by decide⟩
theorem gX10_sea_22 : u_gf cX10_sea RX10 22 10 0 := ⟨10, RX10, TX10, 5, dX10_sea_22, rfl, inlX10, by decide, mf_RX10_10, by decide, by decide⟩
theorem ml_RX10_168 : Cond.methodLink RX10 168 yX3_seaOf ∈ wsL_law := u_r5 _ (List.mem_of_getElem? (i := 14) rfl)
theorem gX10_ofSection_1 : u_gf cX10_ofSection RX10 1 10 0 := ⟨10, RX10, TX10, 5, dX10_ofSection_1, rfl, inlX10, by decide, mf_RX10_10, by decide, by decide⟩
theorem gX10_ofSection_42 : u_gf cX10_ofSection RX10 42 10 0 := ⟨10, RX10, TX10, 5, dX10_ofSection_42, rfl, inlX10, by decide, mf_RX10_10, by decide, by decide⟩
theorem gX10_ofSection_45 : u_gf cX10_ofSection RX10 45 3 2 := ⟨141, RX3, TX3, 10, dX10_ofSection_45, rfl, inlX3, by decide, mf_RX10_141, by decide, by decide⟩
theorem ml_RX10_173 : Cond.methodLink RX10 173 yX6_answer ∈ wsL_law := u_r12 _ (List.mem_of_getElem? (i := 1) rfl)
theorem gX10_ofSectionAnew_1 : u_gf cX10_ofSectionAnew RX10 1 10 0 := ⟨10, RX10, TX10, 5, dX10_ofSectionAnew_1, rfl, inlX10, by decide, mf_RX10_10, by decide, by decide⟩
theorem gX10_ofSectionAnew_42 : u_gf cX10_ofSectionAnew RX10 42 10 1 := ⟨16, RX10, TX10, 5, dX10_ofSectionAnew_42, rfl, inlX10, by decide, mf_RX10_16, by decide, by decide⟩
theorem ml_RX10_176 : Cond.methodLink RX10 176 yX3_begin ∈ wsL_law := u_r22 _ (List.mem_of_getElem? (i := 6) rfl)
theorem gX10_ofSectionAnew_52 : u_gf cX10_ofSectionAnew RX10 52 10 2 := ⟨22, RX10, TX10, 5, dX10_ofSectionAnew_52, rfl, inlX10, by decide, mf_RX10_22, by decide, by decide⟩
theorem mf_RX10_179 : Cond.fieldLink RX10 179 "Saltwedge$Told" "count" "I" ∈ wsL_law := u_r22 _ (List.mem_of_getElem? (i := 5) rfl)
theorem gX10_ofSectionAnew_55 : u_gf cX10_ofSectionAnew RX10 55 8 1 := ⟨179, RX8, TX8, 2, dX10_ofSectionAnew_55, rfl, inlX8, by decide, mf_RX10_179, by decide, by decide⟩
theorem gX10_ofSectionAnew_62 : u_gf cX10_ofSectionAnew RX10 62 10 1 := ⟨16, RX10, TX10, 5, dX10_ofSectionAnew_62, rfl, inlX10, by decide, mf_RX10_16, by decide, by decide⟩
theorem gX10_ofSectionAnew_66 : u_gf cX10_ofSectionAnew RX10 66 10 2 := ⟨22, RX10, TX10, 5, dX10_ofSectionAnew_66, rfl, inlX10, by decide, mf_RX10_22, by decide, by decide⟩
theorem ml_RX10_182 : Cond.methodLink RX10 182 yX8_part ∈ wsL_law := u_r22 _ (List.mem_of_getElem? (i := 18) rfl)
theorem gX10_ofSectionAnew_78 : u_gf cX10_ofSectionAnew RX10 78 10 1 := ⟨16, RX10, TX10, 5, dX10_ofSectionAnew_78, rfl, inlX10, by decide, mf_RX10_16, by decide, by decide⟩
theorem gX10_ofSectionAnew_82 : u_gf cX10_ofSectionAnew RX10 82 10 2 := ⟨22, RX10, TX10, 5, dX10_ofSectionAnew_82, rfl, inlX10, by decide, mf_RX10_22, by decide, by decide⟩
theorem gX10_ofSectionAnew_91 : u_gf cX10_ofSectionAnew RX10 91 10 2 := ⟨22, RX10, TX10, 5, dX10_ofSectionAnew_91, rfl, inlX10, by decide, mf_RX10_22, by decide, by decide⟩
theorem gX10_ofSectionAnew_100 : u_gf cX10_ofSectionAnew RX10 100 10 2 := ⟨22, RX10, TX10, 5, dX10_ofSectionAnew_100, rfl, inlX10, by decide, mf_RX10_22, by decide, by decide⟩
theorem gX10_ofSectionAnew_109 : u_gf cX10_ofSectionAnew RX10 109 10 2 := ⟨22, RX10, TX10, 5, dX10_ofSectionAnew_109, rfl, inlX10, by decide, mf_RX10_22, by decide, by decide⟩
theorem gX10_ofSectionAnew_118 : u_gf cX10_ofSectionAnew RX10 118 10 2 := ⟨22, RX10, TX10, 5, dX10_ofSectionAnew_118, rfl, inlX10, by decide, mf_RX10_22, by decide, by decide⟩
theorem gX10_ofSectionAnew_127 : u_gf cX10_ofSectionAnew RX10 127 10 2 := ⟨22, RX10, TX10, 5, dX10_ofSectionAnew_127, rfl, inlX10, by decide, mf_RX10_22, by decide, by decide⟩
theorem ml_RX10_186 : Cond.methodLink RX10 186 yX3_hear ∈ wsL_law := u_r8 _ (List.mem_of_getElem? (i := 18) rfl)
theorem gX10_ofSectionAnew_146 : u_gf cX10_ofSectionAnew RX10 146 10 1 := ⟨16, RX10, TX10, 5, dX10_ofSectionAnew_146, rfl, inlX10, by decide, mf_RX10_16, by decide, by decide⟩
theorem gX10_ofSectionAnew_150 : u_gf cX10_ofSectionAnew RX10 150 10 0 := ⟨10, RX10, TX10, 5, dX10_ofSectionAnew_150, rfl, inlX10, by decide, mf_RX10_10, by decide, by decide⟩
theorem gX10_ofSectionAnew_153 : u_gf cX10_ofSectionAnew RX10 153 3 9 := ⟨70, RX3, TX3, 10, dX10_ofSectionAnew_153, rfl, inlX3, by decide, mf_RX10_70, by decide, by decide⟩
theorem gX10_ofSectionAnew_160 : u_gf cX10_ofSectionAnew RX10 160 10 1 := ⟨16, RX10, TX10, 5, dX10_ofSectionAnew_160, rfl, inlX10, by decide, mf_RX10_16, by decide, by decide⟩
theorem gX10_ofSectionAnew_163 : u_gf cX10_ofSectionAnew RX10 163 3 2 := ⟨141, RX3, TX3, 10, dX10_ofSectionAnew_163, rfl, inlX3, by decide, mf_RX10_141, by decide, by decide⟩
theorem gX10_ofIntake_6 : u_gf cX10_ofIntake RX10 6 10 0 := ⟨10, RX10, TX10, 5, dX10_ofIntake_6, rfl, inlX10, by decide, mf_RX10_10, by decide, by decide⟩
theorem gX10_ofIntake_9 : u_gf cX10_ofIntake RX10 9 3 6 := ⟨118, RX3, TX3, 10, dX10_ofIntake_9, rfl, inlX3, by decide, mf_RX10_118, by decide, by decide⟩
theorem gX10_ofIntake_45 : u_gf cX10_ofIntake RX10 45 10 0 := ⟨10, RX10, TX10, 5, dX10_ofIntake_45, rfl, inlX10, by decide, mf_RX10_10, by decide, by decide⟩
theorem mf_RX10_191 : Cond.fieldLink RX10 191 "Saltwedge$Mouth" "intakes" "[LSaltwedge$Intake;" ∈ wsL_law := u_r20 _ (List.mem_of_getElem? (i := 8) rfl)
theorem gX10_ofIntake_48 : u_gf cX10_ofIntake RX10 48 3 3 := ⟨191, RX3, TX3, 10, dX10_ofIntake_48, rfl, inlX3, by decide, mf_RX10_191, by decide, by decide⟩
theorem ml_RX10_195 : Cond.methodLink RX10 195 yX1_answer ∈ wsL_law := u_r20 _ (List.mem_of_getElem? (i := 9) rfl)
theorem gX10_isClosed_6 : u_gf cX10_isClosed RX10 6 10 4 := ⟨125, RX10, TX10, 5, dX10_isClosed_6, rfl, inlX10, by decide, mf_RX10_125, by decide, by decide⟩
theorem gX10_isClosed_23 : u_gf cX10_isClosed RX10 23 10 3 := ⟨28, RX10, TX10, 5, dX10_isClosed_23, rfl, inlX10, by decide, mf_RX10_28, by decide, by decide⟩
theorem gX10_isClosed_30 : u_gf cX10_isClosed RX10 30 10 0 := ⟨10, RX10, TX10, 5, dX10_isClosed_30, rfl, inlX10, by decide, mf_RX10_10, by decide, by decide⟩
theorem gX10_isClosed_33 : u_gf cX10_isClosed RX10 33 3 2 := ⟨141, RX3, TX3, 10, dX10_isClosed_33, rfl, inlX3, by decide, mf_RX10_141, by decide, by decide⟩
theorem gX10_isClosed_37 : u_gf cX10_isClosed RX10 37 4 0 := ⟨130, RX4, TX4, 3, dX10_isClosed_37, rfl, inlX4, by decide, mf_RX10_130, by decide, by decide⟩
theorem gX10_isClosed_42 : u_gf cX10_isClosed RX10 42 4 1 := ⟨133, RX4, TX4, 3, dX10_isClosed_42, rfl, inlX4, by decide, mf_RX10_133, by decide, by decide⟩
theorem gX10_isClosed_46 : u_gf cX10_isClosed RX10 46 4 2 := ⟨136, RX4, TX4, 3, dX10_isClosed_46, rfl, inlX4, by decide, mf_RX10_136, by decide, by decide⟩
theorem gX10_isClosed_50 : u_gf cX10_isClosed RX10 50 10 0 := ⟨10, RX10, TX10, 5, dX10_isClosed_50, rfl, inlX10, by decide, mf_RX10_10, by decide, by decide⟩
theorem gX10_isClosed_53 : u_gf cX10_isClosed RX10 53 3 9 := ⟨70, RX3, TX3, 10, dX10_isClosed_53, rfl, inlX3, by decide, mf_RX10_70, by decide, by decide⟩
theorem ml_RX10_200 : Cond.methodLink RX10 200 yX6_wasFresher ∈ wsL_law := u_r21 _ (List.mem_of_getElem? (i := 4) rfl)
theorem gX10_closures_1 : u_gf cX10_closures RX10 1 10 0 := ⟨10, RX10, TX10, 5, dX10_closures_1, rfl, inlX10, by decide, mf_RX10_10, by decide, by decide⟩
theorem gX10_closures_4 : u_gf cX10_closures RX10 4 3 1 := ⟨87, RX3, TX3, 10, dX10_closures_4, rfl, inlX3, by decide, mf_RX10_87, by decide, by decide⟩
theorem mf_RX10_203 : Cond.fieldLink RX10 203 "Saltwedge$Barrier" "closureCount" "I" ∈ wsL_law := u_r6 _ (List.mem_of_getElem? (i := 18) rfl)
theorem gX10_closures_7 : u_gf cX10_closures RX10 7 0 3 := ⟨203, RX0, TX0, 7, dX10_closures_7, rfl, inlX0, by decide, mf_RX10_203, by decide, by decide⟩
theorem gX10_closure_6 : u_gf cX10_closure RX10 6 10 0 := ⟨10, RX10, TX10, 5, dX10_closure_6, rfl, inlX10, by decide, mf_RX10_10, by decide, by decide⟩
theorem gX10_closure_9 : u_gf cX10_closure RX10 9 3 1 := ⟨87, RX3, TX3, 10, dX10_closure_9, rfl, inlX3, by decide, mf_RX10_87, by decide, by decide⟩
theorem gX10_closure_12 : u_gf cX10_closure RX10 12 0 3 := ⟨203, RX0, TX0, 7, dX10_closure_12, rfl, inlX0, by decide, mf_RX10_203, by decide, by decide⟩
theorem gX10_closure_48 : u_gf cX10_closure RX10 48 10 0 := ⟨10, RX10, TX10, 5, dX10_closure_48, rfl, inlX10, by decide, mf_RX10_10, by decide, by decide⟩
theorem gX10_closure_51 : u_gf cX10_closure RX10 51 3 1 := ⟨87, RX3, TX3, 10, dX10_closure_51, rfl, inlX3, by decide, mf_RX10_87, by decide, by decide⟩
theorem ml_RX10_208 : Cond.methodLink RX10 208 yX0_answer ∈ wsL_law := u_r23 _ (List.mem_of_getElem? (i := 5) rfl)
theorem gX10_intrusion_24 : u_gf cX10_intrusion RX10 24 10 0 := ⟨10, RX10, TX10, 5, dX10_intrusion_24, rfl, inlX10, by decide, mf_RX10_10, by decide, by decide⟩
theorem gX10_intrusion_27 : u_gf cX10_intrusion RX10 27 3 5 := ⟨100, RX3, TX3, 10, dX10_intrusion_27, rfl, inlX3, by decide, mf_RX10_100, by decide, by decide⟩
theorem gX10_intrusion_34 : u_gf cX10_intrusion RX10 34 10 0 := ⟨10, RX10, TX10, 5, dX10_intrusion_34, rfl, inlX10, by decide, mf_RX10_10, by decide, by decide⟩
theorem gX10_intrusion_37 : u_gf cX10_intrusion RX10 37 3 2 := ⟨141, RX3, TX3, 10, dX10_intrusion_37, rfl, inlX3, by decide, mf_RX10_141, by decide, by decide⟩
theorem mf_RX10_212 : Cond.fieldLink RX10 212 "Saltwedge$Section" "low" "LSaltwedge$Layer;" ∈ wsL_law := u_r7 _ (List.mem_of_getElem? (i := 1) rfl)
theorem gX10_intrusion_42 : u_gf cX10_intrusion RX10 42 6 1 := ⟨212, RX6, TX6, 8, dX10_intrusion_42, rfl, inlX6, by decide, mf_RX10_212, by decide, by decide⟩
theorem ml_RX10_216 : Cond.methodLink RX10 216 yX2_salinity ∈ wsL_law := u_r7 _ (List.mem_of_getElem? (i := 2) rfl)
theorem gX10_window_32 : u_gf cX10_window RX10 32 10 0 := ⟨10, RX10, TX10, 5, dX10_window_32, rfl, inlX10, by decide, mf_RX10_10, by decide, by decide⟩
theorem gX10_window_35 : u_gf cX10_window RX10 35 3 5 := ⟨100, RX3, TX3, 10, dX10_window_35, rfl, inlX3, by decide, mf_RX10_100, by decide, by decide⟩
theorem gX10_window_52 : u_gf cX10_window RX10 52 10 0 := ⟨10, RX10, TX10, 5, dX10_window_52, rfl, inlX10, by decide, mf_RX10_10, by decide, by decide⟩
theorem gX10_window_56 : u_gf cX10_window RX10 56 10 0 := ⟨10, RX10, TX10, 5, dX10_window_56, rfl, inlX10, by decide, mf_RX10_10, by decide, by decide⟩
theorem gX10_window_59 : u_gf cX10_window RX10 59 3 2 := ⟨141, RX3, TX3, 10, dX10_window_59, rfl, inlX3, by decide, mf_RX10_141, by decide, by decide⟩
theorem ml_RX10_226 : Cond.methodLink RX10 226 yX6_bed ∈ wsL_law := u_r14 _ (List.mem_of_getElem? (i := 3) rfl)
theorem ml_RX10_229 : Cond.methodLink RX10 229 yX3_firstHourAt ∈ wsL_law := u_r14 _ (List.mem_of_getElem? (i := 4) rfl)
theorem gX10_sum_21 : u_gf cX10_sum RX10 21 10 0 := ⟨10, RX10, TX10, 5, dX10_sum_21, rfl, inlX10, by decide, mf_RX10_10, by decide, by decide⟩
theorem mf_RX10_232 : Cond.fieldLink RX10 232 "Saltwedge$Mouth" "sums" "[J" ∈ wsL_law := u_r7 _ (List.mem_of_getElem? (i := 12) rfl)
theorem gX10_sum_24 : u_gf cX10_sum RX10 24 3 4 := ⟨232, RX3, TX3, 10, dX10_sum_24, rfl, inlX3, by decide, mf_RX10_232, by decide, by decide⟩
theorem gX10_tell_1 : u_gf cX10_tell RX10 1 10 2 := ⟨22, RX10, TX10, 5, dX10_tell_1, rfl, inlX10, by decide, mf_RX10_22, by decide, by decide⟩
theorem gX10_tell_5 : u_gf cX10_tell RX10 5 10 0 := ⟨10, RX10, TX10, 5, dX10_tell_5, rfl, inlX10, by decide, mf_RX10_10, by decide, by decide⟩
theorem gX10_tell_8 : u_gf cX10_tell RX10 8 3 9 := ⟨70, RX3, TX3, 10, dX10_tell_8, rfl, inlX3, by decide, mf_RX10_70, by decide, by decide⟩
theorem ml_RX10_236 : Cond.methodLink RX10 236 yX8_keep ∈ wsL_law := u_r8 _ (List.mem_of_getElem? (i := 13) rfl)
theorem gX10_tell_24 : u_gf cX10_tell RX10 24 10 0 := ⟨10, RX10, TX10, 5, dX10_tell_24, rfl, inlX10, by decide, mf_RX10_10, by decide, by decide⟩
