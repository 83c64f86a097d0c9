set_option maxRecDepth 20000 in
theorem gg_wsX11_init_r1 : GoodIn lw_tbl wsX11_init_r1 := (gi_r _ [(0, 1), (0, 2), (0, 3), (0, 4), (0, 5), (0, 6), (0, 7), (0, 8), (0, 9), (0, 10), (0, 11), (0, 12), (0, 13), (0, 14), (0, 15), (0, 16), (0, 17), (0, 18), (0, 19), (0, 20), (0, 21), (0, 22), (0, 23), (0, 24)] rfl (by decide +kernel))
set_option maxRecDepth 20000 in
theorem gg_wsX11_init_r2 : GoodIn lw_tbl wsX11_init_r2 := (gi_r _ [(0, 25), (0, 26), (0, 27), (0, 28), (0, 29), (0, 30), (0, 31), (0, 32), (0, 33), (0, 34), (0, 35), (0, 36), (0, 37), (0, 38), (0, 39), (1, 0), (1, 1), (1, 2), (1, 3), (1, 4), (1, 5), (1, 6), (1, 7), (1, 8)] rfl (by decide +kernel))
set_option maxRecDepth 20000 in
theorem gg_wsX11_init_r3 : GoodIn lw_tbl wsX11_init_r3 := (gi_r _ [(1, 9), (1, 10), (1, 11), (1, 12), (1, 13), (1, 14), (1, 15), (1, 16), (1, 17), (1, 18), (1, 19), (1, 20), (1, 21), (1, 22), (1, 23), (1, 24), (1, 25), (1, 26), (1, 27), (1, 28), (1, 29), (1, 30), (1, 31), (1, 32)] rfl (by decide +kernel))
set_option maxRecDepth 20000 in
theorem gg_wsX11_init_r4 : GoodIn lw_tbl wsX11_init_r4 := (gi_r _ [(1, 33), (1, 34), (1, 35), (1, 36), (1, 37), (1, 38), (1, 39), (2, 0), (2, 1), (2, 2), (2, 3), (2, 4), (2, 5), (2, 6), (2, 7), (2, 8), (2, 9), (2, 10), (2, 11), (2, 12), (2, 13), (2, 14), (2, 15), (2, 16)] rfl (by decide +kernel))
set_option maxRecDepth 20000 in
theorem gg_wsX11_init_r5 : GoodIn lw_tbl wsX11_init_r5 := (gi_r _ [(2, 17), (2, 18), (2, 19), (2, 20), (2, 21), (2, 22), (2, 23), (2, 24), (2, 25), (2, 26), (2, 27), (2, 28), (2, 29), (2, 30), (2, 31), (2, 32), (2, 33), (2, 34), (2, 35), (2, 36), (2, 37), (2, 38), (2, 39), (3, 0)] rfl (by decide +kernel))
set_option maxRecDepth 20000 in
theorem gg_wsX11_init_r6 : GoodIn lw_tbl wsX11_init_r6 := (gi_r _ [(3, 1), (3, 2), (3, 3), (3, 4), (3, 5), (3, 6), (3, 7), (3, 8), (3, 9), (3, 10), (3, 11), (3, 12), (3, 13), (3, 14), (3, 15), (3, 16), (3, 17), (3, 18), (3, 19), (3, 20), (3, 21), (3, 22), (3, 23), (3, 24)] rfl (by decide +kernel))
set_option maxRecDepth 20000 in
theorem gg_wsX11_init_r7 : GoodIn lw_tbl wsX11_init_r7 := (gi_r _ [(3, 25), (3, 26), (3, 27), (3, 28), (3, 29), (3, 30), (3, 31), (3, 32), (3, 33), (3, 34), (3, 35), (3, 36), (3, 37), (3, 38), (3, 39), (4, 0), (4, 1), (4, 2), (4, 3), (4, 4), (4, 5), (4, 6), (4, 7), (4, 8)] rfl (by decide +kernel))
set_option maxRecDepth 20000 in
theorem gg_wsX11_init_r8 : GoodIn lw_tbl wsX11_init_r8 := (gi_r _ [(4, 9), (4, 10), (4, 11)] rfl (by decide +kernel))
set_option maxRecDepth 20000 in
theorem ggL_law_X11_init : GoodIn lw_tbl wsX11_init := (gi_c (gi_r _ [(0, 0)] rfl (by decide +kernel)) (goodIn_app (goodIn_app (goodIn_app (goodIn_app (goodIn_app (goodIn_app (goodIn_app (goodIn_app (goodIn_app (goodIn_app (goodIn_app (goodIn_app (goodIn_app (gg_wsX11_init_r1) (goodIn_app (gg_wsX11_init_r2) (goodIn_app (gg_wsX11_init_r3) (goodIn_app (gg_wsX11_init_r4) (goodIn_app (gg_wsX11_init_r5) (goodIn_app (gg_wsX11_init_r6) (goodIn_app (gg_wsX11_init_r7) (gg_wsX11_init_r8)))))))) gi_wsX90) gi_wsX110) gi_wsX60) gi_wsX20) gi_wsX70) gi_wsX10) gi_wsX30) gi_wsX40) gi_wsX80) gi_wsX100) gi_wsX00) gi_wsX50))
set_option maxRecDepth 20000 in
theorem gL_law_X11_init : GoodIn lw_tbl (wsX11_init) := ggL_law_X11_init
set_option maxRecDepth 20000 in
theorem gg_wsX12_init_r1 : GoodIn lw_tbl wsX12_init_r1 := (gi_r _ [(4, 13), (0, 2), (0, 3), (1, 8), (4, 14), (1, 21), (4, 15), (4, 16), (4, 17), (4, 18), (3, 22), (4, 19), (4, 20), (4, 21), (4, 22), (4, 23), (4, 24), (4, 25), (4, 26), (4, 27), (4, 28), (4, 29), (4, 30), (4, 31)] rfl (by decide +kernel))
set_option maxRecDepth 20000 in
theorem gg_wsX12_init_r2 : GoodIn lw_tbl wsX12_init_r2 := (gi_r _ [(4, 32), (4, 33), (4, 34), (4, 35), (4, 36), (4, 37), (4, 38), (4, 39), (5, 0), (5, 1), (5, 2), (5, 3), (5, 4), (5, 5), (5, 6), (5, 7), (5, 8), (5, 9), (5, 10), (5, 11), (5, 12), (5, 13), (5, 14), (5, 15)] rfl (by decide +kernel))
set_option maxRecDepth 20000 in
theorem gg_wsX12_init_r3 : GoodIn lw_tbl wsX12_init_r3 := (gi_r _ [(5, 16), (5, 17), (5, 18)] rfl (by decide +kernel))
set_option maxRecDepth 20000 in
theorem ggL_law_X12_init : GoodIn lw_tbl wsX12_init := (gi_c (gi_r _ [(4, 12)] rfl (by decide +kernel)) (goodIn_app (goodIn_app (gg_wsX12_init_r1) (goodIn_app (gg_wsX12_init_r2) (gg_wsX12_init_r3))) gi_wsX120))
set_option maxRecDepth 20000 in
theorem gL_law_X12_init : GoodIn lw_tbl (wsX12_init) := ggL_law_X12_init
set_option maxRecDepth 20000 in
theorem ggL_law_X11_feed : GoodIn lw_tbl wsX11_feed := (gi_c (gi_r _ [(5, 19)] rfl (by decide +kernel)) (goodIn_app (goodIn_app (gi_r _ [(0, 7), (5, 20), (5, 21), (5, 22), (5, 23), (0, 6), (5, 24), (1, 10), (5, 25), (5, 26), (5, 27), (5, 28), (1, 9)] rfl (by decide +kernel)) gi_wsX110) gi_wsX90))
set_option maxRecDepth 20000 in
theorem gL_law_X11_feed : GoodIn lw_tbl (wsV RL 22 RX11 yX11_feed wsX11_feed) := goodIn_app (goodIn_of _ (by decide +kernel)) ggL_law_X11_feed
set_option maxRecDepth 20000 in
theorem ggL_law_X12_feed : GoodIn lw_tbl wsX12_feed := (gi_c (gi_r _ [(5, 29)] rfl (by decide +kernel)) (goodIn_app (gi_r _ [(5, 30), (5, 31), (5, 32), (5, 33), (5, 34), (5, 35), (5, 36), (4, 14)] rfl (by decide +kernel)) gi_wsX120))
set_option maxRecDepth 20000 in
theorem gL_law_X12_feed : GoodIn lw_tbl (wsV RL 26 RX12 yX12_feed wsX12_feed) := goodIn_app (goodIn_of _ (by decide +kernel)) ggL_law_X12_feed
set_option maxRecDepth 20000 in
theorem ggL_law_X11_end : GoodIn lw_tbl wsX11_end := (gi_c (gi_r _ [(5, 37)] rfl (by decide +kernel)) (goodIn_app (goodIn_app (gi_r _ [(0, 7), (5, 20), (5, 38), (5, 39), (6, 0), (0, 6), (6, 1), (1, 10)] rfl (by decide +kernel)) gi_wsX110) gi_wsX90))
set_option maxRecDepth 20000 in
theorem gL_law_X11_end : GoodIn lw_tbl (wsV RL 27 RX11 yX11_end wsX11_end) := goodIn_app (goodIn_of _ (by decide +kernel)) ggL_law_X11_end
set_option maxRecDepth 20000 in
theorem ggL_law_X12_end : GoodIn lw_tbl wsX12_end := (gi_c (gi_r _ [(6, 2)] rfl (by decide +kernel)) (goodIn_app (gi_r _ [(5, 30), (5, 31)] rfl (by decide +kernel)) gi_wsX120))
set_option maxRecDepth 20000 in
theorem gL_law_X12_end : GoodIn lw_tbl (wsV RL 31 RX12 yX12_end wsX12_end) := goodIn_app (goodIn_of _ (by decide +kernel)) ggL_law_X12_end
set_option maxRecDepth 20000 in
theorem gg_wsX11_town_r1 : GoodIn lw_tbl wsX11_town_r1 := (gi_r _ [(0, 11), (1, 1), (0, 7), (6, 4), (0, 35), (6, 5), (6, 6), (6, 7), (6, 8), (6, 9), (6, 10), (0, 10), (6, 11), (1, 27), (1, 28), (1, 29), (1, 30), (6, 12), (1, 24), (6, 13), (6, 14), (6, 15), (1, 0), (6, 16)] rfl (by decide +kernel))
set_option maxRecDepth 20000 in
theorem gg_wsX11_town_r2 : GoodIn lw_tbl wsX11_town_r2 := (gi_r _ [(3, 18), (3, 19), (3, 20), (3, 21), (3, 38), (6, 17), (6, 18), (6, 19), (3, 37), (6, 20), (4, 3), (4, 5), (4, 7), (4, 8), (4, 9), (4, 10), (4, 11), (6, 21), (6, 22), (6, 23), (6, 24), (1, 25), (1, 26), (6, 25)] rfl (by decide +kernel))
set_option maxRecDepth 20000 in
theorem gg_wsX11_town_r3 : GoodIn lw_tbl wsX11_town_r3 := (gi_r _ [(6, 26), (6, 27), (0, 6), (6, 28), (1, 15), (1, 10), (6, 29), (6, 30), (6, 31), (6, 32), (1, 16), (6, 33), (6, 34), (6, 35), (6, 36), (1, 9), (1, 11), (1, 12), (6, 37), (6, 38), (6, 39), (7, 0), (1, 13), (1, 14)] rfl (by decide +kernel))
set_option maxRecDepth 20000 in
theorem gg_wsX11_town_r4 : GoodIn lw_tbl wsX11_town_r4 := (gi_r _ [(7, 1), (7, 2), (7, 3), (7, 4), (7, 5), (3, 30), (3, 34), (7, 6), (7, 7), (7, 8), (7, 9), (7, 10), (7, 11), (7, 12), (7, 13), (7, 14), (7, 15), (7, 16), (7, 17), (7, 18), (7, 19), (7, 20), (7, 21), (7, 22)] rfl (by decide +kernel))
set_option maxRecDepth 20000 in
theorem gg_wsX11_town_r5 : GoodIn lw_tbl wsX11_town_r5 := (gi_r _ [(7, 23), (7, 24), (7, 25), (7, 26), (7, 27), (7, 28), (7, 29), (7, 30), (7, 31), (7, 32), (7, 33), (7, 34), (7, 35), (7, 36), (7, 37), (7, 38), (7, 39), (8, 0), (8, 1), (8, 2), (8, 3), (8, 4), (8, 5), (8, 6)] rfl (by decide +kernel))
set_option maxRecDepth 20000 in
theorem gg_wsX11_town_r6 : GoodIn lw_tbl wsX11_town_r6 := (gi_r _ [(8, 7), (8, 8), (8, 9), (8, 10), (8, 11), (8, 12), (8, 13), (8, 14), (8, 15), (8, 16), (8, 17), (8, 18), (8, 19), (8, 20), (8, 21), (8, 22), (8, 23), (8, 24), (8, 25), (8, 26), (8, 27), (8, 28), (8, 29), (8, 30)] rfl (by decide +kernel))
set_option maxRecDepth 20000 in
theorem gg_wsX11_town_r7 : GoodIn lw_tbl wsX11_town_r7 := (gi_r _ [(8, 31), (8, 32), (8, 33), (8, 34), (8, 35), (8, 36), (8, 37), (8, 38), (8, 39), (9, 0), (9, 1), (9, 2), (9, 3), (9, 4), (9, 5), (9, 6), (9, 7), (9, 8), (9, 9), (9, 10), (9, 11), (9, 12), (9, 13), (3, 23)] rfl (by decide +kernel))
set_option maxRecDepth 20000 in
theorem gg_wsX11_town_r8 : GoodIn lw_tbl wsX11_town_r8 := (gi_r _ [(9, 14), (9, 15), (9, 16), (9, 17), (3, 27), (9, 18), (9, 19), (9, 20), (9, 21), (9, 22), (9, 23), (9, 24), (9, 25), (3, 24), (3, 25), (3, 26), (9, 26), (9, 27), (9, 28), (9, 29), (9, 30), (9, 31), (9, 32), (9, 33)] rfl (by decide +kernel))
set_option maxRecDepth 20000 in
theorem gg_wsX11_town_r9 : GoodIn lw_tbl wsX11_town_r9 := (gi_r _ [(9, 34), (9, 35), (9, 36), (9, 37), (9, 38), (9, 39), (10, 0), (10, 1), (10, 2), (10, 3), (10, 4), (10, 5), (10, 6), (10, 7), (10, 8), (10, 9), (10, 10), (10, 11), (10, 12), (10, 13), (10, 14), (10, 15), (10, 16), (10, 17)] rfl (by decide +kernel))
set_option maxRecDepth 20000 in
theorem gg_wsX11_town_r10 : GoodIn lw_tbl wsX11_town_r10 := (gi_r _ [(10, 18), (10, 19), (10, 20), (10, 21), (10, 22), (10, 23), (10, 24), (10, 25), (10, 26), (10, 27), (10, 28), (10, 29), (10, 30), (10, 31), (10, 32), (10, 33), (5, 38), (5, 39), (6, 0), (6, 1), (10, 34), (10, 35), (10, 36), (2, 26)] rfl (by decide +kernel))
set_option maxRecDepth 20000 in
theorem gg_wsX11_town_r11 : GoodIn lw_tbl wsX11_town_r11 := (gi_r _ [(10, 37), (2, 36)] rfl (by decide +kernel))
set_option maxRecDepth 20000 in
theorem ggL_law_X11_town : GoodIn lw_tbl wsX11_town := (gi_c (gi_r _ [(6, 3)] rfl (by decide +kernel)) (goodIn_app (goodIn_app (goodIn_app (goodIn_app (goodIn_app (goodIn_app (goodIn_app (goodIn_app (gg_wsX11_town_r1) (goodIn_app (gg_wsX11_town_r2) (goodIn_app (gg_wsX11_town_r3) (goodIn_app (gg_wsX11_town_r4) (goodIn_app (gg_wsX11_town_r5) (goodIn_app (gg_wsX11_town_r6) (goodIn_app (gg_wsX11_town_r7) (goodIn_app (gg_wsX11_town_r8) (goodIn_app (gg_wsX11_town_r9) (goodIn_app (gg_wsX11_town_r10) (gg_wsX11_town_r11))))))))))) gi_wsX110) gi_wsX60) gi_wsX80) gi_wsX90) gi_wsX100) gi_wsX50) gi_wsX00))
set_option maxRecDepth 20000 in
theorem gL_law_X11_town : GoodIn lw_tbl (wsV RL 32 RX11 yX11_town wsX11_town) := goodIn_app (goodIn_of _ (by decide +kernel)) ggL_law_X11_town
set_option maxRecDepth 20000 in
theorem gg_wsX12_town_r1 : GoodIn lw_tbl wsX12_town_r1 := (gi_r _ [(5, 30), (10, 39), (11, 0), (11, 1), (11, 2), (4, 16), (11, 3), (11, 4), (4, 15), (4, 19), (5, 18), (11, 5), (11, 6), (11, 7), (5, 35), (11, 8), (5, 31), (11, 9), (11, 10), (11, 11), (11, 12), (11, 13), (11, 14), (11, 15)] rfl (by decide +kernel))
set_option maxRecDepth 20000 in
theorem gg_wsX12_town_r2 : GoodIn lw_tbl wsX12_town_r2 := (gi_r _ [(11, 16), (11, 17), (11, 18), (11, 19), (11, 20), (11, 21), (11, 22), (11, 23), (4, 14), (11, 24), (11, 25), (11, 26), (11, 27), (11, 28), (11, 29), (11, 30), (11, 31), (11, 32), (11, 33), (5, 7), (11, 34), (5, 8), (5, 9), (5, 11)] rfl (by decide +kernel))
set_option maxRecDepth 20000 in
theorem gg_wsX12_town_r3 : GoodIn lw_tbl wsX12_town_r3 := (gi_r _ [(5, 14), (5, 15), (5, 16), (11, 35), (11, 36), (11, 37), (11, 38), (11, 39), (12, 0), (12, 1), (12, 2), (12, 3), (12, 4), (12, 5), (12, 6), (12, 7), (12, 8), (12, 9), (12, 10), (4, 20), (12, 11), (12, 12), (12, 13), (12, 14)] rfl (by decide +kernel))
set_option maxRecDepth 20000 in
theorem gg_wsX12_town_r4 : GoodIn lw_tbl wsX12_town_r4 := (gi_r _ [(12, 15), (12, 16), (12, 17), (12, 18), (12, 19), (12, 20), (12, 21), (12, 22), (12, 23), (12, 24), (12, 25), (12, 26), (12, 27), (12, 28), (12, 29), (12, 30), (12, 31), (12, 32), (5, 10), (12, 33), (12, 34), (12, 35), (12, 36), (12, 37)] rfl (by decide +kernel))
set_option maxRecDepth 20000 in
theorem gg_wsX12_town_r5 : GoodIn lw_tbl wsX12_town_r5 := (gi_r _ [(12, 38), (12, 39), (13, 0), (5, 12), (5, 13), (13, 1), (13, 2), (13, 3), (13, 4), (13, 5), (13, 6), (13, 7), (13, 8)] rfl (by decide +kernel))
set_option maxRecDepth 20000 in
theorem ggL_law_X12_town : GoodIn lw_tbl wsX12_town := (gi_c (gi_r _ [(10, 38)] rfl (by decide +kernel)) (goodIn_app (goodIn_app (gg_wsX12_town_r1) (goodIn_app (gg_wsX12_town_r2) (goodIn_app (gg_wsX12_town_r3) (goodIn_app (gg_wsX12_town_r4) (gg_wsX12_town_r5))))) gi_wsX120))
set_option maxRecDepth 20000 in
theorem gL_law_X12_town : GoodIn lw_tbl (wsV RL 36 RX12 yX12_town wsX12_town) := goodIn_app (goodIn_of _ (by decide +kernel)) ggL_law_X12_town
set_option maxRecDepth 20000 in
theorem ggL_law_X11_fault : GoodIn lw_tbl wsX11_fault := (gi_c (gi_r _ [(13, 9)] rfl (by decide +kernel)) (goodIn_app (goodIn_app (gi_r _ [(0, 11), (13, 10)] rfl (by decide +kernel)) gi_wsX110) gi_wsX60))
set_option maxRecDepth 20000 in
theorem gL_law_X11_fault : GoodIn lw_tbl (wsV RL 37 RX11 yX11_fault wsX11_fault) := goodIn_app (goodIn_of _ (by decide +kernel)) ggL_law_X11_fault
set_option maxRecDepth 20000 in
theorem ggL_law_X12_fault : GoodIn lw_tbl wsX12_fault := (gi_c (gi_r _ [(13, 11)] rfl (by decide +kernel)) (goodIn_app (gi_r _ [(5, 30), (10, 39)] rfl (by decide +kernel)) gi_wsX120))
set_option maxRecDepth 20000 in
theorem gL_law_X12_fault : GoodIn lw_tbl (wsV RL 40 RX12 yX12_fault wsX12_fault) := goodIn_app (goodIn_of _ (by decide +kernel)) ggL_law_X12_fault
set_option maxRecDepth 20000 in
theorem ggL_law_L_person : GoodIn lw_tbl wsL_person := (gi_c (gi_r _ [(13, 12)] rfl (by decide +kernel)) (goodIn_app (goodIn_app (goodIn_app (goodIn_app (gi_r _ [(13, 13), (13, 14), (13, 15), (13, 16), (13, 17), (13, 18), (13, 19), (13, 20), (0, 35), (6, 5), (13, 21), (13, 22), (13, 23), (13, 24), (13, 25), (13, 26), (13, 27), (1, 0), (13, 28), (3, 18)] rfl (by decide +kernel)) gi_wsX110) gi_wsX80) gi_wsX100) gi_vx))
set_option maxRecDepth 20000 in
theorem gL_law_L_person : GoodIn lw_tbl (va_wsS RL 41 yL_person wsL_person) := goodIn_app (goodIn_of _ (by decide +kernel)) ggL_law_L_person
set_option maxRecDepth 20000 in
theorem ggL_law_X12_person : GoodIn lw_tbl wsX12_person := (gi_c (gi_r _ [(13, 29)] rfl (by decide +kernel)) (goodIn_app (gi_r _ [(4, 15), (13, 30), (13, 31), (13, 32), (5, 35), (13, 33), (12, 19), (12, 20), (12, 21), (13, 34), (13, 35), (13, 36), (13, 37), (5, 30)] rfl (by decide +kernel)) gi_wsX120))
set_option maxRecDepth 20000 in
theorem gL_law_X12_person : GoodIn lw_tbl (wsV RL 46 RX12 yX12_person wsX12_person) := goodIn_app (goodIn_of _ (by decide +kernel)) ggL_law_X12_person
set_option maxRecDepth 20000 in
theorem ggL_law_X12_thrown : GoodIn lw_tbl wsX12_thrown := (gi_c (gi_r _ [(13, 38)] rfl (by decide +kernel)) (goodIn_app (gi_r _ [(5, 30)] rfl (by decide +kernel)) gi_wsX120))
set_option maxRecDepth 20000 in
theorem gL_law_X12_thrown : GoodIn lw_tbl (wsV RL 47 RX12 yX12_thrown wsX12_thrown) := goodIn_app (goodIn_of _ (by decide +kernel)) ggL_law_X12_thrown
set_option maxRecDepth 20000 in
theorem gg_wsL_deal_r1 : GoodIn lw_tbl wsL_deal_r1 := (gi_r _ [(13, 13), (14, 0), (14, 1), (14, 2), (13, 17), (14, 3), (13, 19), (13, 20), (0, 35), (6, 5), (14, 4), (14, 5), (14, 6), (14, 7), (14, 8), (14, 9), (6, 6), (14, 10), (14, 11), (14, 12), (1, 0), (14, 13), (3, 19), (14, 14)] rfl (by decide +kernel))
set_option maxRecDepth 20000 in
theorem gg_wsL_deal_r2 : GoodIn lw_tbl wsL_deal_r2 := (gi_r _ [(14, 15), (14, 16), (2, 26), (14, 17), (2, 36), (2, 33), (2, 34)] rfl (by decide +kernel))
set_option maxRecDepth 20000 in
theorem ggL_law_L_deal : GoodIn lw_tbl wsL_deal := (gi_c (gi_r _ [(13, 39)] rfl (by decide +kernel)) (goodIn_app (goodIn_app (goodIn_app (goodIn_app (goodIn_app (goodIn_app (gg_wsL_deal_r1) (gg_wsL_deal_r2)) gi_wsX110) gi_wsX80) gi_wsX100) gi_wsX00) gi_vx))
set_option maxRecDepth 20000 in
theorem gL_law_L_deal : GoodIn lw_tbl (va_wsS RL 50 yL_deal wsL_deal) := goodIn_app (goodIn_of _ (by decide +kernel)) ggL_law_L_deal
set_option maxRecDepth 20000 in
theorem ggL_law_X12_deal : GoodIn lw_tbl wsX12_deal := (gi_c (gi_r _ [(14, 18)] rfl (by decide +kernel)) (goodIn_app (gi_r _ [(14, 19), (14, 20), (14, 21), (5, 35), (14, 22), (4, 15), (12, 19), (12, 20), (12, 21), (13, 34), (13, 35), (13, 36), (13, 37), (5, 30), (14, 23), (14, 24), (14, 25), (14, 26), (14, 27), (14, 28), (14, 29), (14, 30)] rfl (by decide +kernel)) gi_wsX120))
set_option maxRecDepth 20000 in
theorem gL_law_X12_deal : GoodIn lw_tbl (wsV RL 52 RX12 yX12_deal wsX12_deal) := goodIn_app (goodIn_of _ (by decide +kernel)) ggL_law_X12_deal
set_option maxRecDepth 20000 in
theorem gg_wsX11_does_r1 : GoodIn lw_tbl wsX11_does_r1 := (gi_r _ [(0, 35), (6, 5), (6, 6), (14, 10), (14, 11), (14, 12), (1, 0), (14, 13), (3, 19), (14, 32), (14, 33), (14, 34), (2, 26), (14, 35), (2, 36), (14, 36), (14, 37), (14, 38), (2, 33), (2, 34), (2, 35), (14, 39), (15, 0), (15, 1)] rfl (by decide +kernel))
set_option maxRecDepth 20000 in
theorem gg_wsX11_does_r2 : GoodIn lw_tbl wsX11_does_r2 := (gi_r _ [(15, 2), (15, 3), (15, 4), (14, 15), (14, 16), (14, 17), (15, 5), (15, 6), (15, 7), (15, 8), (3, 28), (3, 29), (15, 9), (15, 10), (15, 11), (15, 12), (15, 13), (15, 14), (15, 15), (15, 16), (15, 17), (15, 18), (15, 19), (15, 20)] rfl (by decide +kernel))
set_option maxRecDepth 20000 in
theorem gg_wsX11_does_r3 : GoodIn lw_tbl wsX11_does_r3 := (gi_r _ [(15, 21), (15, 22)] rfl (by decide +kernel))
set_option maxRecDepth 20000 in
theorem ggL_law_X11_does : GoodIn lw_tbl wsX11_does := (gi_c (gi_r _ [(14, 31)] rfl (by decide +kernel)) (goodIn_app (goodIn_app (goodIn_app (goodIn_app (goodIn_app (gg_wsX11_does_r1) (goodIn_app (gg_wsX11_does_r2) (gg_wsX11_does_r3))) gi_wsX110) gi_wsX80) gi_wsX100) gi_wsX00))
set_option maxRecDepth 20000 in
theorem gL_law_X11_does : GoodIn lw_tbl (wsV RL 53 RX11 yX11_does wsX11_does) := goodIn_app (goodIn_of _ (by decide +kernel)) ggL_law_X11_does
set_option maxRecDepth 20000 in
theorem gg_wsX12_does_r1 : GoodIn lw_tbl wsX12_does_r1 := (gi_r _ [(5, 30), (14, 19), (14, 20), (14, 21), (5, 35), (14, 22), (4, 15), (12, 19), (12, 20), (12, 21), (15, 24), (15, 25), (15, 26), (15, 27), (14, 23), (14, 24), (14, 25), (14, 26), (14, 27), (14, 28), (14, 29), (14, 30), (15, 28), (15, 29)] rfl (by decide +kernel))
set_option maxRecDepth 20000 in
theorem gg_wsX12_does_r2 : GoodIn lw_tbl wsX12_does_r2 := (gi_r _ [(15, 30), (15, 31), (4, 21), (15, 32), (15, 33), (15, 34), (15, 35), (15, 36), (15, 37), (15, 38), (15, 39), (4, 22), (16, 0), (16, 1), (16, 2), (16, 3), (16, 4), (16, 5), (16, 6), (16, 7), (16, 8), (16, 9), (16, 10), (16, 11)] rfl (by decide +kernel))
set_option maxRecDepth 20000 in
theorem gg_wsX12_does_r3 : GoodIn lw_tbl wsX12_does_r3 := (gi_r _ [(16, 12), (16, 13), (16, 14), (16, 15)] rfl (by decide +kernel))
set_option maxRecDepth 20000 in
theorem ggL_law_X12_does : GoodIn lw_tbl wsX12_does := (gi_c (gi_r _ [(15, 23)] rfl (by decide +kernel)) (goodIn_app (goodIn_app (gg_wsX12_does_r1) (goodIn_app (gg_wsX12_does_r2) (gg_wsX12_does_r3))) gi_wsX120))
set_option maxRecDepth 20000 in
theorem gL_law_X12_does : GoodIn lw_tbl (wsV RL 56 RX12 yX12_does wsX12_does) := goodIn_app (goodIn_of _ (by decide +kernel)) ggL_law_X12_does
set_option maxRecDepth 20000 in
theorem ggL_law_X11_undo : GoodIn lw_tbl wsX11_undo := (gi_c (gi_r _ [(16, 16)] rfl (by decide +kernel)) (goodIn_app (goodIn_app (goodIn_app (gi_r _ [(0, 35), (6, 6), (16, 17), (16, 18), (16, 19), (16, 20), (2, 26), (16, 21), (2, 36)] rfl (by decide +kernel)) gi_wsX110) gi_wsX80) gi_wsX00))
set_option maxRecDepth 20000 in
theorem gL_law_X11_undo : GoodIn lw_tbl (wsV RL 57 RX11 yX11_undo wsX11_undo) := goodIn_app (goodIn_of _ (by decide +kernel)) ggL_law_X11_undo
set_option maxRecDepth 20000 in
theorem ggL_law_X12_undo : GoodIn lw_tbl wsX12_undo := (gi_c (gi_r _ [(16, 22)] rfl (by decide +kernel)) (goodIn_app (gi_r _ [(5, 30), (4, 15)] rfl (by decide +kernel)) gi_wsX120))
set_option maxRecDepth 20000 in
theorem gL_law_X12_undo : GoodIn lw_tbl (wsV RL 60 RX12 yX12_undo wsX12_undo) := goodIn_app (goodIn_of _ (by decide +kernel)) ggL_law_X12_undo
set_option maxRecDepth 20000 in
theorem gg_wsX11_book_r1 : GoodIn lw_tbl wsX11_book_r1 := (gi_r _ [(1, 2), (0, 11), (0, 35), (6, 5), (0, 7), (6, 4), (6, 6), (6, 7), (16, 24), (16, 25), (16, 26), (16, 27), (16, 28), (0, 10), (16, 29), (1, 30), (6, 12), (1, 24), (6, 21), (6, 22), (6, 23), (6, 24), (1, 25), (1, 26)] rfl (by decide +kernel))
set_option maxRecDepth 20000 in
theorem gg_wsX11_book_r2 : GoodIn lw_tbl wsX11_book_r2 := (gi_r _ [(6, 25), (6, 26), (6, 27), (0, 6), (6, 28), (1, 15), (1, 10), (6, 29), (6, 30), (6, 31), (6, 32), (1, 16), (6, 33), (6, 34), (6, 35), (6, 36), (1, 9), (1, 11), (1, 12), (6, 37), (6, 38), (6, 39), (7, 0), (1, 13)] rfl (by decide +kernel))
set_option maxRecDepth 20000 in
theorem gg_wsX11_book_r3 : GoodIn lw_tbl wsX11_book_r3 := (gi_r _ [(1, 14), (7, 1), (7, 6), (7, 7), (7, 8), (7, 9), (7, 10), (7, 11), (7, 12), (7, 13), (7, 14), (7, 15), (16, 30), (16, 31), (16, 32), (16, 33), (8, 39), (1, 22), (1, 23), (9, 5), (9, 6), (9, 7), (9, 8), (9, 9)] rfl (by decide +kernel))
set_option maxRecDepth 20000 in
theorem gg_wsX11_book_r4 : GoodIn lw_tbl wsX11_book_r4 := (gi_r _ [(7, 22), (7, 23), (7, 24), (7, 25), (7, 26), (7, 27), (7, 28), (7, 29), (7, 30), (7, 31), (7, 32), (7, 33), (7, 34), (7, 35), (7, 36), (7, 37), (7, 38), (7, 39), (8, 0), (8, 1), (8, 2), (8, 3), (8, 4), (8, 5)] rfl (by decide +kernel))
set_option maxRecDepth 20000 in
theorem gg_wsX11_book_r5 : GoodIn lw_tbl wsX11_book_r5 := (gi_r _ [(8, 6), (8, 7), (8, 8), (8, 9), (8, 10), (8, 11), (8, 12), (8, 13), (8, 14), (8, 15), (8, 16), (8, 17), (8, 18), (8, 19), (8, 20), (8, 21), (8, 22), (8, 23), (8, 24), (8, 25), (8, 26), (8, 27), (8, 28), (8, 29)] rfl (by decide +kernel))
set_option maxRecDepth 20000 in
theorem gg_wsX11_book_r6 : GoodIn lw_tbl wsX11_book_r6 := (gi_r _ [(8, 30), (8, 31), (8, 32), (8, 33), (9, 14), (9, 15), (9, 16), (1, 0), (9, 17), (3, 19), (3, 27), (7, 21), (9, 30), (9, 31), (9, 32), (9, 33), (5, 38), (5, 39), (6, 0), (6, 1), (10, 34), (10, 35), (10, 36), (2, 26)] rfl (by decide +kernel))
set_option maxRecDepth 20000 in
theorem gg_wsX11_book_r7 : GoodIn lw_tbl wsX11_book_r7 := (gi_r _ [(10, 37), (2, 36), (14, 32), (14, 33), (14, 34), (14, 35), (14, 36), (14, 37), (14, 38), (2, 33), (2, 34), (2, 35), (14, 39), (15, 0), (15, 1), (15, 2), (15, 3), (15, 4), (14, 15), (14, 16), (14, 17), (15, 5), (15, 6), (15, 7)] rfl (by decide +kernel))
set_option maxRecDepth 20000 in
theorem gg_wsX11_book_r8 : GoodIn lw_tbl wsX11_book_r8 := (gi_r _ [(15, 8), (3, 28), (3, 29), (15, 9), (15, 10), (15, 11), (15, 12), (15, 13), (15, 14), (15, 15), (15, 16), (15, 17), (15, 18), (15, 19), (15, 20), (15, 21), (15, 22)] rfl (by decide +kernel))
set_option maxRecDepth 20000 in
theorem ggL_law_X11_book : GoodIn lw_tbl wsX11_book := (gi_c (gi_r _ [(16, 23)] rfl (by decide +kernel)) (goodIn_app (goodIn_app (goodIn_app (goodIn_app (goodIn_app (goodIn_app (goodIn_app (gg_wsX11_book_r1) (goodIn_app (gg_wsX11_book_r2) (goodIn_app (gg_wsX11_book_r3) (goodIn_app (gg_wsX11_book_r4) (goodIn_app (gg_wsX11_book_r5) (goodIn_app (gg_wsX11_book_r6) (goodIn_app (gg_wsX11_book_r7) (gg_wsX11_book_r8)))))))) gi_wsX110) gi_wsX80) gi_wsX60) gi_wsX90) gi_wsX100) gi_wsX00))
set_option maxRecDepth 20000 in
theorem gL_law_X11_book : GoodIn lw_tbl (wsV RL 61 RX11 yX11_book wsX11_book) := goodIn_app (goodIn_of _ (by decide +kernel)) ggL_law_X11_book
set_option maxRecDepth 20000 in
theorem gg_wsX12_book_r1 : GoodIn lw_tbl wsX12_book_r1 := (gi_r _ [(5, 30), (10, 39), (16, 35), (16, 36), (11, 3), (11, 4), (4, 15), (4, 17), (4, 18), (11, 5), (11, 6), (11, 7), (5, 35), (11, 8), (5, 31), (11, 9), (11, 10), (11, 11), (11, 12), (11, 13), (11, 14), (11, 15), (11, 16), (11, 17)] rfl (by decide +kernel))
set_option maxRecDepth 20000 in
theorem gg_wsX12_book_r2 : GoodIn lw_tbl wsX12_book_r2 := (gi_r _ [(11, 18), (11, 19), (11, 20), (11, 21), (11, 22), (11, 23), (4, 14), (11, 24), (11, 25), (11, 26), (11, 27), (11, 28), (11, 29), (16, 37), (16, 38), (16, 39), (17, 0), (5, 17), (12, 7), (12, 8), (12, 9), (12, 10), (4, 20), (11, 39)] rfl (by decide +kernel))
set_option maxRecDepth 20000 in
theorem gg_wsX12_book_r3 : GoodIn lw_tbl wsX12_book_r3 := (gi_r _ [(12, 0), (12, 1), (12, 2), (12, 11), (12, 12), (12, 13), (12, 14), (4, 19), (11, 35), (11, 36), (11, 37), (11, 38), (13, 1), (13, 2), (13, 3), (13, 4), (13, 5), (13, 6), (13, 7), (13, 8), (15, 24), (15, 25), (15, 26), (15, 27)] rfl (by decide +kernel))
set_option maxRecDepth 20000 in
theorem gg_wsX12_book_r4 : GoodIn lw_tbl wsX12_book_r4 := (gi_r _ [(14, 23), (14, 24), (14, 25), (14, 26), (14, 27), (14, 28), (14, 29), (14, 30), (15, 28), (15, 29), (15, 30), (15, 31), (4, 21), (15, 32), (15, 33), (15, 34), (15, 35), (15, 36), (15, 37), (15, 38), (15, 39), (4, 22), (16, 0), (16, 1)] rfl (by decide +kernel))
set_option maxRecDepth 20000 in
theorem gg_wsX12_book_r5 : GoodIn lw_tbl wsX12_book_r5 := (gi_r _ [(16, 2), (16, 3), (16, 4), (16, 5), (16, 6), (16, 7), (16, 8), (16, 9), (16, 10), (16, 11), (16, 12), (16, 13), (16, 14), (16, 15)] rfl (by decide +kernel))
set_option maxRecDepth 20000 in
theorem ggL_law_X12_book : GoodIn lw_tbl wsX12_book := (gi_c (gi_r _ [(16, 34)] rfl (by decide +kernel)) (goodIn_app (goodIn_app (gg_wsX12_book_r1) (goodIn_app (gg_wsX12_book_r2) (goodIn_app (gg_wsX12_book_r3) (goodIn_app (gg_wsX12_book_r4) (gg_wsX12_book_r5))))) gi_wsX120))
set_option maxRecDepth 20000 in
theorem gL_law_X12_book : GoodIn lw_tbl (wsV RL 64 RX12 yX12_book wsX12_book) := goodIn_app (goodIn_of _ (by decide +kernel)) ggL_law_X12_book
set_option maxRecDepth 20000 in
theorem ggL_law_X11_why : GoodIn lw_tbl wsX11_why := (gi_c (gi_r _ [(17, 1)] rfl (by decide +kernel)) (goodIn_app (gi_r _ [(1, 2)] rfl (by decide +kernel)) gi_wsX110))
set_option maxRecDepth 20000 in
theorem gL_law_X11_why : GoodIn lw_tbl (wsV RL 65 RX11 yX11_why wsX11_why) := goodIn_app (goodIn_of _ (by decide +kernel)) ggL_law_X11_why
set_option maxRecDepth 20000 in
theorem ggL_law_X12_why : GoodIn lw_tbl wsX12_why := (gi_c (gi_r _ [(17, 2)] rfl (by decide +kernel)) (goodIn_app (gi_r _ [(5, 30), (16, 35)] rfl (by decide +kernel)) gi_wsX120))
set_option maxRecDepth 20000 in
theorem gL_law_X12_why : GoodIn lw_tbl (wsV RL 68 RX12 yX12_why wsX12_why) := goodIn_app (goodIn_of _ (by decide +kernel)) ggL_law_X12_why
set_option maxRecDepth 20000 in
theorem gg_wsX11_is_r1 : GoodIn lw_tbl wsX11_is_r1 := (gi_r _ [(0, 35), (6, 5), (6, 6), (13, 25), (13, 26), (13, 27), (1, 0), (13, 28), (3, 18), (17, 4), (17, 5), (13, 17), (17, 6), (17, 7), (15, 10), (15, 11), (2, 26), (15, 12), (2, 36), (2, 33), (14, 37), (2, 35), (15, 13), (2, 34)] rfl (by decide +kernel))
set_option maxRecDepth 20000 in
theorem gg_wsX11_is_r2 : GoodIn lw_tbl wsX11_is_r2 := (gi_r _ [(14, 38), (14, 36)] rfl (by decide +kernel))
set_option maxRecDepth 20000 in
theorem ggL_law_X11_is : GoodIn lw_tbl wsX11_is := (gi_c (gi_r _ [(17, 3)] rfl (by decide +kernel)) (goodIn_app (goodIn_app (goodIn_app (goodIn_app (goodIn_app (gg_wsX11_is_r1) (gg_wsX11_is_r2)) gi_wsX110) gi_wsX80) gi_wsX100) gi_wsX00))
set_option maxRecDepth 20000 in
theorem gL_law_X11_is : GoodIn lw_tbl (wsV RL 69 RX11 yX11_is wsX11_is) := goodIn_app (goodIn_of _ (by decide +kernel)) ggL_law_X11_is
set_option maxRecDepth 20000 in
theorem gg_wsX12_is_r1 : GoodIn lw_tbl wsX12_is_r1 := (gi_r _ [(5, 30), (13, 30), (13, 31), (13, 32), (5, 35), (13, 33), (4, 15), (12, 19), (12, 20), (12, 21), (15, 28), (15, 29), (15, 30), (15, 31), (4, 21), (14, 23), (14, 24), (14, 25), (14, 26), (15, 32), (15, 33), (15, 34), (15, 35), (15, 36)] rfl (by decide +kernel))
set_option maxRecDepth 20000 in
theorem gg_wsX12_is_r2 : GoodIn lw_tbl wsX12_is_r2 := (gi_r _ [(15, 37), (15, 38), (15, 39), (4, 22), (16, 0), (16, 1), (16, 2), (16, 3), (16, 4), (16, 5), (16, 6), (16, 7)] rfl (by decide +kernel))
set_option maxRecDepth 20000 in
theorem ggL_law_X12_is : GoodIn lw_tbl wsX12_is := (gi_c (gi_r _ [(17, 8)] rfl (by decide +kernel)) (goodIn_app (goodIn_app (gg_wsX12_is_r1) (gg_wsX12_is_r2)) gi_wsX120))
set_option maxRecDepth 20000 in
theorem gL_law_X12_is : GoodIn lw_tbl (wsV RL 72 RX12 yX12_is wsX12_is) := goodIn_app (goodIn_of _ (by decide +kernel)) ggL_law_X12_is
set_option maxRecDepth 20000 in
theorem gg_wsX11_may_r1 : GoodIn lw_tbl wsX11_may_r1 := (gi_r _ [(0, 35), (6, 5), (17, 10), (6, 6), (17, 11), (15, 0), (15, 1), (2, 26), (15, 2), (15, 3), (14, 37), (2, 36), (2, 33), (14, 38), (14, 36), (15, 4), (14, 15), (14, 16), (14, 17), (2, 34), (15, 5), (15, 6), (15, 7), (1, 0)] rfl (by decide +kernel))
set_option maxRecDepth 20000 in
theorem gg_wsX11_may_r2 : GoodIn lw_tbl wsX11_may_r2 := (gi_r _ [(15, 8), (3, 28), (3, 29), (15, 9), (15, 10), (15, 11), (15, 12), (2, 35), (15, 13), (15, 14), (15, 15), (15, 16), (15, 17), (15, 18), (15, 19), (15, 20), (15, 21), (15, 22)] rfl (by decide +kernel))
set_option maxRecDepth 20000 in
theorem ggL_law_X11_may : GoodIn lw_tbl wsX11_may := (gi_c (gi_r _ [(17, 9)] rfl (by decide +kernel)) (goodIn_app (goodIn_app (goodIn_app (goodIn_app (goodIn_app (gg_wsX11_may_r1) (gg_wsX11_may_r2)) gi_wsX110) gi_wsX80) gi_wsX100) gi_wsX00))
set_option maxRecDepth 20000 in
theorem gL_law_X11_may : GoodIn lw_tbl (wsV RL 73 RX11 yX11_may wsX11_may) := goodIn_app (goodIn_of _ (by decide +kernel)) ggL_law_X11_may
set_option maxRecDepth 20000 in
theorem gg_wsX12_may_r1 : GoodIn lw_tbl wsX12_may_r1 := (gi_r _ [(5, 30), (4, 15), (12, 19), (12, 20), (5, 35), (12, 21), (15, 24), (15, 25), (15, 26), (15, 27), (14, 23), (14, 24), (14, 25), (14, 26), (14, 27), (14, 28), (14, 29), (14, 30), (15, 28), (15, 29), (15, 30), (15, 31), (4, 21), (15, 32)] rfl (by decide +kernel))
set_option maxRecDepth 20000 in
theorem gg_wsX12_may_r2 : GoodIn lw_tbl wsX12_may_r2 := (gi_r _ [(15, 33), (15, 34), (15, 35), (15, 36), (15, 37), (15, 38), (15, 39), (4, 22), (16, 0), (16, 1), (16, 2), (16, 3), (16, 4), (16, 5), (16, 6), (16, 7), (16, 8), (16, 9), (16, 10), (16, 11)] rfl (by decide +kernel))
set_option maxRecDepth 20000 in
theorem ggL_law_X12_may : GoodIn lw_tbl wsX12_may := (gi_c (gi_r _ [(17, 12)] rfl (by decide +kernel)) (goodIn_app (goodIn_app (gg_wsX12_may_r1) (gg_wsX12_may_r2)) gi_wsX120))
set_option maxRecDepth 20000 in
theorem gL_law_X12_may : GoodIn lw_tbl (wsV RL 77 RX12 yX12_may wsX12_may) := goodIn_app (goodIn_of _ (by decide +kernel)) ggL_law_X12_may
set_option maxRecDepth 20000 in
theorem ggL_law_X11_had : GoodIn lw_tbl wsX11_had := (gi_c (gi_r _ [(17, 13)] rfl (by decide +kernel)) (goodIn_app (goodIn_app (goodIn_app (goodIn_app (gi_r _ [(0, 35), (6, 5), (6, 6), (13, 25), (13, 26), (13, 27), (1, 0), (13, 28), (3, 18), (17, 14), (17, 15), (17, 16), (2, 26), (17, 17), (2, 36), (2, 33), (17, 18), (17, 19), (17, 20), (17, 21), (3, 28), (3, 31), (3, 29), (3, 32)] rfl (by decide +kernel)) gi_wsX110) gi_wsX80) gi_wsX100) gi_wsX00))
set_option maxRecDepth 20000 in
theorem gL_law_X11_had : GoodIn lw_tbl (wsV RL 78 RX11 yX11_had wsX11_had) := goodIn_app (goodIn_of _ (by decide +kernel)) ggL_law_X11_had
set_option maxRecDepth 20000 in
theorem ggL_law_X12_had : GoodIn lw_tbl wsX12_had := (gi_c (gi_r _ [(17, 22)] rfl (by decide +kernel)) (goodIn_app (gi_r _ [(5, 30), (4, 15), (13, 30), (13, 31), (13, 32), (5, 35), (13, 33), (12, 19), (12, 20), (12, 21), (17, 23), (17, 24), (17, 25), (17, 26), (14, 23), (14, 24), (14, 25), (14, 26)] rfl (by decide +kernel)) gi_wsX120))
set_option maxRecDepth 20000 in
theorem gL_law_X12_had : GoodIn lw_tbl (wsV RL 81 RX12 yX12_had wsX12_had) := goodIn_app (goodIn_of _ (by decide +kernel)) ggL_law_X12_had
set_option maxRecDepth 20000 in
theorem gg_wsX11_gain_r1 : GoodIn lw_tbl wsX11_gain_r1 := (gi_r _ [(0, 35), (6, 5), (0, 15), (17, 28), (17, 29), (17, 30), (1, 0), (17, 31), (17, 32), (17, 33), (17, 34), (17, 35), (3, 18), (17, 36), (17, 37), (17, 38), (0, 14), (17, 39), (18, 0), (18, 1), (18, 2), (18, 3), (18, 4), (18, 5)] rfl (by decide +kernel))
set_option maxRecDepth 20000 in
theorem gg_wsX11_gain_r2 : GoodIn lw_tbl wsX11_gain_r2 := (gi_r _ [(18, 6), (18, 7), (18, 8), (18, 9), (1, 38), (18, 10), (18, 11), (18, 12), (18, 13), (18, 14), (18, 15), (18, 16), (18, 17), (18, 18), (2, 1), (1, 37), (18, 19), (1, 34), (18, 20), (1, 35), (1, 36), (18, 21), (4, 9), (4, 10)] rfl (by decide +kernel))
