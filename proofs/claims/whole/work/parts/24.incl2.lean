set_option maxRecDepth 20000 in
theorem gg_wsX11_gain_r3 : GoodIn lw_tbl wsX11_gain_r3 := (gi_r _ [(4, 11), (18, 22), (18, 23), (18, 24), (18, 25), (3, 28), (3, 29), (3, 33), (18, 26), (18, 27), (18, 28), (18, 29), (3, 31), (3, 32), (18, 30), (18, 31), (18, 32), (18, 33), (2, 2), (1, 39), (18, 34), (18, 35), (18, 36), (18, 37)] rfl (by decide +kernel))
set_option maxRecDepth 20000 in
theorem gg_wsX11_gain_r4 : GoodIn lw_tbl wsX11_gain_r4 := (gi_r _ [(18, 38), (18, 39), (19, 0), (19, 1), (19, 2), (19, 3), (19, 4), (19, 5), (19, 6), (2, 0), (19, 7), (19, 8), (19, 9), (19, 10), (19, 11), (19, 12), (19, 13), (19, 14), (19, 15), (19, 16), (19, 17), (19, 18)] rfl (by decide +kernel))
set_option maxRecDepth 20000 in
theorem ggL_law_X11_gain : GoodIn lw_tbl wsX11_gain := (gi_c (gi_r _ [(17, 27)] rfl (by decide +kernel)) (goodIn_app (goodIn_app (goodIn_app (goodIn_app (goodIn_app (goodIn_app (gg_wsX11_gain_r1) (goodIn_app (gg_wsX11_gain_r2) (goodIn_app (gg_wsX11_gain_r3) (gg_wsX11_gain_r4)))) gi_wsX110) gi_wsX80) gi_wsX100) gi_wsX50) gi_wsX20))
set_option maxRecDepth 20000 in
theorem gL_law_X11_gain : GoodIn lw_tbl (wsV RL 82 RX11 yX11_gain wsX11_gain) := goodIn_app (goodIn_of _ (by decide +kernel)) ggL_law_X11_gain
set_option maxRecDepth 20000 in
theorem gg_wsX12_gain_r1 : GoodIn lw_tbl wsX12_gain_r1 := (gi_r _ [(5, 30), (19, 20), (19, 21), (19, 22), (5, 35), (19, 23), (4, 15), (12, 19), (12, 20), (12, 21), (19, 24), (19, 25), (19, 26), (19, 27), (4, 26), (19, 28), (4, 24), (4, 23), (19, 29), (19, 30), (19, 31), (19, 32), (14, 23), (14, 24)] rfl (by decide +kernel))
set_option maxRecDepth 20000 in
theorem gg_wsX12_gain_r2 : GoodIn lw_tbl wsX12_gain_r2 := (gi_r _ [(14, 25), (14, 26), (19, 33), (19, 34), (19, 35), (19, 36), (12, 26), (12, 27), (12, 28), (15, 32), (15, 33), (15, 34), (15, 35), (16, 4), (16, 5), (16, 6), (16, 7), (19, 37), (19, 38), (19, 39), (20, 0), (4, 25), (4, 31), (4, 27)] rfl (by decide +kernel))
set_option maxRecDepth 20000 in
theorem gg_wsX12_gain_r3 : GoodIn lw_tbl wsX12_gain_r3 := (gi_r _ [(4, 29), (20, 1), (20, 2), (20, 3), (20, 4), (20, 5), (4, 28), (20, 6), (20, 7), (20, 8), (20, 9)] rfl (by decide +kernel))
set_option maxRecDepth 20000 in
theorem ggL_law_X12_gain : GoodIn lw_tbl wsX12_gain := (gi_c (gi_r _ [(19, 19)] rfl (by decide +kernel)) (goodIn_app (goodIn_app (gg_wsX12_gain_r1) (goodIn_app (gg_wsX12_gain_r2) (gg_wsX12_gain_r3))) gi_wsX120))
set_option maxRecDepth 20000 in
theorem gL_law_X12_gain : GoodIn lw_tbl (wsV RL 85 RX12 yX12_gain wsX12_gain) := goodIn_app (goodIn_of _ (by decide +kernel)) ggL_law_X12_gain
set_option maxRecDepth 20000 in
theorem gg_wsX11_best_r1 : GoodIn lw_tbl wsX11_best_r1 := (gi_r _ [(0, 15), (0, 35), (6, 5), (20, 11), (20, 12), (20, 13), (13, 17), (20, 14), (20, 15), (17, 33), (17, 34), (1, 0), (17, 35), (3, 18), (17, 36), (17, 37), (17, 38), (0, 14), (17, 39), (18, 0), (18, 1), (18, 2), (18, 3), (18, 4)] rfl (by decide +kernel))
set_option maxRecDepth 20000 in
theorem gg_wsX11_best_r2 : GoodIn lw_tbl wsX11_best_r2 := (gi_r _ [(18, 5), (18, 6), (18, 7), (18, 8), (18, 9), (1, 38), (18, 10), (18, 11), (18, 12), (18, 13), (18, 14), (18, 15), (18, 16), (18, 17), (18, 18), (2, 1), (1, 37), (18, 19), (1, 34), (18, 20), (1, 35), (1, 36), (18, 21), (4, 9)] rfl (by decide +kernel))
set_option maxRecDepth 20000 in
theorem gg_wsX11_best_r3 : GoodIn lw_tbl wsX11_best_r3 := (gi_r _ [(4, 10), (4, 11), (18, 22), (18, 23), (18, 24), (18, 25), (3, 28), (3, 29), (3, 33), (18, 26), (18, 27), (18, 28), (18, 29), (3, 31), (3, 32), (18, 30), (18, 31), (18, 32), (18, 33), (2, 2), (1, 39), (18, 34), (18, 35), (18, 36)] rfl (by decide +kernel))
set_option maxRecDepth 20000 in
theorem gg_wsX11_best_r4 : GoodIn lw_tbl wsX11_best_r4 := (gi_r _ [(18, 37), (18, 38), (18, 39), (19, 0), (19, 1), (19, 2), (19, 3), (19, 4), (19, 5), (19, 6), (2, 0), (19, 7), (19, 8), (19, 9), (19, 10), (19, 11), (19, 12), (19, 13), (19, 14), (19, 15), (19, 16), (19, 17), (19, 18)] rfl (by decide +kernel))
set_option maxRecDepth 20000 in
theorem ggL_law_X11_best : GoodIn lw_tbl wsX11_best := (gi_c (gi_r _ [(20, 10)] rfl (by decide +kernel)) (goodIn_app (goodIn_app (goodIn_app (goodIn_app (goodIn_app (goodIn_app (gg_wsX11_best_r1) (goodIn_app (gg_wsX11_best_r2) (goodIn_app (gg_wsX11_best_r3) (gg_wsX11_best_r4)))) gi_wsX110) gi_wsX80) gi_wsX100) gi_wsX50) gi_wsX20))
set_option maxRecDepth 20000 in
theorem gL_law_X11_best : GoodIn lw_tbl (wsV RL 86 RX11 yX11_best wsX11_best) := goodIn_app (goodIn_of _ (by decide +kernel)) ggL_law_X11_best
set_option maxRecDepth 20000 in
theorem gg_wsX12_best_r1 : GoodIn lw_tbl wsX12_best_r1 := (gi_r _ [(5, 30), (4, 32), (20, 17), (20, 18), (20, 19), (5, 35), (20, 20), (4, 15), (20, 21), (20, 22), (20, 23), (20, 24), (5, 18), (19, 24), (19, 25), (19, 26), (19, 27), (4, 26), (19, 28), (4, 24), (4, 23), (19, 29), (19, 30), (19, 31)] rfl (by decide +kernel))
set_option maxRecDepth 20000 in
theorem gg_wsX12_best_r2 : GoodIn lw_tbl wsX12_best_r2 := (gi_r _ [(19, 32), (14, 23), (14, 24), (14, 25), (14, 26), (19, 33), (19, 34), (19, 35), (19, 36), (12, 26), (12, 27), (12, 28), (15, 32), (15, 33), (15, 34), (15, 35), (16, 4), (16, 5), (16, 6), (16, 7), (19, 37), (19, 38), (19, 39), (20, 0)] rfl (by decide +kernel))
set_option maxRecDepth 20000 in
theorem gg_wsX12_best_r3 : GoodIn lw_tbl wsX12_best_r3 := (gi_r _ [(4, 25), (4, 31), (4, 27), (4, 29), (20, 1), (20, 2), (20, 3), (20, 4), (20, 5), (4, 28), (20, 6), (20, 7), (20, 8), (20, 9)] rfl (by decide +kernel))
set_option maxRecDepth 20000 in
theorem ggL_law_X12_best : GoodIn lw_tbl wsX12_best := (gi_c (gi_r _ [(20, 16)] rfl (by decide +kernel)) (goodIn_app (goodIn_app (gg_wsX12_best_r1) (goodIn_app (gg_wsX12_best_r2) (gg_wsX12_best_r3))) gi_wsX120))
set_option maxRecDepth 20000 in
theorem gL_law_X12_best : GoodIn lw_tbl (wsV RL 89 RX12 yX12_best wsX12_best) := goodIn_app (goodIn_of _ (by decide +kernel)) ggL_law_X12_best
set_option maxRecDepth 20000 in
theorem gg_wsX11_bestParts_r1 : GoodIn lw_tbl wsX11_bestParts_r1 := (gi_r _ [(20, 11), (20, 12), (20, 13), (13, 17), (20, 14), (0, 35), (6, 5), (0, 15), (20, 15), (17, 33), (17, 34), (1, 0), (17, 35), (3, 18), (17, 36), (17, 37), (17, 38), (0, 14), (17, 39), (18, 0), (18, 1), (18, 2), (18, 3), (18, 4)] rfl (by decide +kernel))
set_option maxRecDepth 20000 in
theorem gg_wsX11_bestParts_r2 : GoodIn lw_tbl wsX11_bestParts_r2 := (gi_r _ [(18, 5), (18, 6), (18, 7), (18, 8), (18, 9), (1, 38), (18, 10), (18, 11), (18, 12), (18, 13), (18, 14), (18, 15), (18, 16), (18, 17), (18, 18), (2, 1), (1, 37), (18, 19), (1, 34), (18, 20), (1, 35), (1, 36), (18, 21), (4, 9)] rfl (by decide +kernel))
set_option maxRecDepth 20000 in
theorem gg_wsX11_bestParts_r3 : GoodIn lw_tbl wsX11_bestParts_r3 := (gi_r _ [(4, 10), (4, 11), (18, 22), (18, 23), (18, 24), (18, 25), (3, 28), (3, 29), (3, 33), (18, 26), (18, 27), (18, 28), (18, 29), (3, 31), (3, 32), (18, 30), (18, 31), (18, 32), (18, 33), (2, 2), (1, 39), (18, 34), (18, 35), (18, 36)] rfl (by decide +kernel))
set_option maxRecDepth 20000 in
theorem gg_wsX11_bestParts_r4 : GoodIn lw_tbl wsX11_bestParts_r4 := (gi_r _ [(18, 37), (18, 38), (18, 39), (19, 0), (19, 1), (19, 2), (19, 3), (19, 4), (19, 5), (19, 6), (2, 0), (19, 7), (19, 8), (19, 9), (19, 10), (19, 11), (19, 12), (19, 13), (19, 14), (19, 15), (19, 16), (19, 17), (19, 18)] rfl (by decide +kernel))
set_option maxRecDepth 20000 in
theorem ggL_law_X11_bestParts : GoodIn lw_tbl wsX11_bestParts := (gi_c (gi_r _ [(20, 25)] rfl (by decide +kernel)) (goodIn_app (goodIn_app (goodIn_app (goodIn_app (goodIn_app (goodIn_app (gg_wsX11_bestParts_r1) (goodIn_app (gg_wsX11_bestParts_r2) (goodIn_app (gg_wsX11_bestParts_r3) (gg_wsX11_bestParts_r4)))) gi_wsX110) gi_wsX80) gi_wsX100) gi_wsX50) gi_wsX20))
set_option maxRecDepth 20000 in
theorem gL_law_X11_bestParts : GoodIn lw_tbl (wsV RL 90 RX11 yX11_bestParts wsX11_bestParts) := goodIn_app (goodIn_of _ (by decide +kernel)) ggL_law_X11_bestParts
set_option maxRecDepth 20000 in
theorem gg_wsX12_bestParts_r1 : GoodIn lw_tbl wsX12_bestParts_r1 := (gi_r _ [(5, 30), (20, 17), (20, 18), (20, 19), (5, 35), (20, 20), (4, 15), (4, 32), (20, 21), (20, 22), (20, 23), (20, 24), (5, 18), (19, 24), (19, 25), (19, 26), (19, 27), (4, 26), (19, 28), (4, 24), (4, 23), (19, 29), (19, 30), (19, 31)] rfl (by decide +kernel))
set_option maxRecDepth 20000 in
theorem gg_wsX12_bestParts_r2 : GoodIn lw_tbl wsX12_bestParts_r2 := (gi_r _ [(19, 32), (14, 23), (14, 24), (14, 25), (14, 26), (19, 33), (19, 34), (19, 35), (19, 36), (12, 26), (12, 27), (12, 28), (15, 32), (15, 33), (15, 34), (15, 35), (16, 4), (16, 5), (16, 6), (16, 7), (19, 37), (19, 38), (19, 39), (20, 0)] rfl (by decide +kernel))
set_option maxRecDepth 20000 in
theorem gg_wsX12_bestParts_r3 : GoodIn lw_tbl wsX12_bestParts_r3 := (gi_r _ [(4, 25), (4, 31), (4, 27), (4, 29), (20, 1), (20, 2), (20, 3), (20, 4), (20, 5), (4, 28), (20, 6), (20, 7), (20, 8), (20, 9)] rfl (by decide +kernel))
set_option maxRecDepth 20000 in
theorem ggL_law_X12_bestParts : GoodIn lw_tbl wsX12_bestParts := (gi_c (gi_r _ [(20, 26)] rfl (by decide +kernel)) (goodIn_app (goodIn_app (gg_wsX12_bestParts_r1) (goodIn_app (gg_wsX12_bestParts_r2) (gg_wsX12_bestParts_r3))) gi_wsX120))
set_option maxRecDepth 20000 in
theorem gL_law_X12_bestParts : GoodIn lw_tbl (wsV RL 93 RX12 yX12_bestParts wsX12_bestParts) := goodIn_app (goodIn_of _ (by decide +kernel)) ggL_law_X12_bestParts
set_option maxRecDepth 20000 in
theorem ggL_law_X11_goes : GoodIn lw_tbl wsX11_goes := (gi_c (gi_r _ [(20, 27)] rfl (by decide +kernel)) (goodIn_app (goodIn_app (goodIn_app (gi_r _ [(0, 35), (6, 5), (17, 10), (17, 28), (17, 29), (17, 30), (1, 0), (17, 31), (17, 32), (17, 33), (17, 34), (17, 35), (3, 18), (20, 28), (18, 23), (18, 24), (18, 25), (3, 28), (3, 29), (3, 33)] rfl (by decide +kernel)) gi_wsX110) gi_wsX80) gi_wsX100))
set_option maxRecDepth 20000 in
theorem gL_law_X11_goes : GoodIn lw_tbl (wsV RL 94 RX11 yX11_goes wsX11_goes) := goodIn_app (goodIn_of _ (by decide +kernel)) ggL_law_X11_goes
set_option maxRecDepth 20000 in
theorem ggL_law_X12_goes : GoodIn lw_tbl wsX12_goes := (gi_c (gi_r _ [(20, 29)] rfl (by decide +kernel)) (goodIn_app (gi_r _ [(5, 30), (4, 15), (19, 20), (19, 21), (19, 22), (5, 35), (19, 23), (12, 19), (12, 20), (12, 21), (19, 33), (19, 34), (19, 35), (19, 36), (14, 23), (14, 24), (14, 25), (14, 26), (12, 26), (12, 27), (12, 28)] rfl (by decide +kernel)) gi_wsX120))
set_option maxRecDepth 20000 in
theorem gL_law_X12_goes : GoodIn lw_tbl (wsV RL 97 RX12 yX12_goes wsX12_goes) := goodIn_app (goodIn_of _ (by decide +kernel)) ggL_law_X12_goes
set_option maxRecDepth 20000 in
theorem gg_wsX11_above_r1 : GoodIn lw_tbl wsX11_above_r1 := (gi_r _ [(0, 35), (6, 5), (0, 15), (20, 15), (17, 33), (17, 34), (1, 0), (17, 35), (3, 18), (17, 36), (17, 37), (17, 38), (0, 14), (17, 39), (18, 0), (18, 1), (18, 2), (18, 3), (18, 4), (18, 5), (18, 6), (18, 7), (18, 8), (18, 9)] rfl (by decide +kernel))
set_option maxRecDepth 20000 in
theorem gg_wsX11_above_r2 : GoodIn lw_tbl wsX11_above_r2 := (gi_r _ [(1, 38), (18, 10), (18, 11), (18, 12), (18, 13), (18, 14), (18, 15), (18, 16), (18, 17), (18, 18), (2, 1), (1, 37), (18, 19), (1, 34), (18, 20), (1, 35), (1, 36), (18, 21), (4, 9), (4, 10), (4, 11), (18, 22), (18, 23), (18, 24)] rfl (by decide +kernel))
set_option maxRecDepth 20000 in
theorem gg_wsX11_above_r3 : GoodIn lw_tbl wsX11_above_r3 := (gi_r _ [(18, 25), (3, 28), (3, 29), (3, 33), (18, 26), (18, 27), (18, 28), (18, 29), (3, 31), (3, 32), (18, 30), (18, 31), (18, 32), (18, 33), (2, 2), (1, 39), (18, 34), (18, 35), (18, 36), (18, 37), (18, 38), (18, 39), (19, 0), (19, 1)] rfl (by decide +kernel))
set_option maxRecDepth 20000 in
theorem gg_wsX11_above_r4 : GoodIn lw_tbl wsX11_above_r4 := (gi_r _ [(19, 2), (19, 3), (19, 4), (19, 5), (19, 6), (2, 0), (19, 7), (19, 8), (19, 9), (19, 10), (19, 11), (19, 12), (19, 13), (19, 14), (19, 15), (19, 16), (19, 17), (19, 18)] rfl (by decide +kernel))
set_option maxRecDepth 20000 in
theorem ggL_law_X11_above : GoodIn lw_tbl wsX11_above := (gi_c (gi_r _ [(20, 30)] rfl (by decide +kernel)) (goodIn_app (goodIn_app (goodIn_app (goodIn_app (goodIn_app (goodIn_app (gg_wsX11_above_r1) (goodIn_app (gg_wsX11_above_r2) (goodIn_app (gg_wsX11_above_r3) (gg_wsX11_above_r4)))) gi_wsX110) gi_wsX80) gi_wsX100) gi_wsX50) gi_wsX20))
set_option maxRecDepth 20000 in
theorem gL_law_X11_above : GoodIn lw_tbl (wsV RL 98 RX11 yX11_above wsX11_above) := goodIn_app (goodIn_of _ (by decide +kernel)) ggL_law_X11_above
set_option maxRecDepth 20000 in
theorem gg_wsX12_above_r1 : GoodIn lw_tbl wsX12_above_r1 := (gi_r _ [(5, 30), (4, 15), (4, 32), (20, 21), (20, 22), (20, 23), (5, 35), (20, 24), (5, 18), (19, 24), (19, 25), (19, 26), (19, 27), (4, 26), (19, 28), (4, 24), (4, 23), (19, 29), (19, 30), (19, 31), (19, 32), (14, 23), (14, 24), (14, 25)] rfl (by decide +kernel))
set_option maxRecDepth 20000 in
theorem gg_wsX12_above_r2 : GoodIn lw_tbl wsX12_above_r2 := (gi_r _ [(14, 26), (19, 33), (19, 34), (19, 35), (19, 36), (12, 26), (12, 27), (12, 28), (15, 32), (15, 33), (15, 34), (15, 35), (16, 4), (16, 5), (16, 6), (16, 7), (19, 37), (19, 38), (19, 39), (20, 0), (4, 25), (4, 31), (4, 27), (4, 29)] rfl (by decide +kernel))
set_option maxRecDepth 20000 in
theorem gg_wsX12_above_r3 : GoodIn lw_tbl wsX12_above_r3 := (gi_r _ [(20, 1), (20, 2), (20, 3), (20, 4), (20, 5), (4, 28), (20, 6), (20, 7), (20, 8), (20, 9)] rfl (by decide +kernel))
set_option maxRecDepth 20000 in
theorem ggL_law_X12_above : GoodIn lw_tbl wsX12_above := (gi_c (gi_r _ [(20, 31)] rfl (by decide +kernel)) (goodIn_app (goodIn_app (gg_wsX12_above_r1) (goodIn_app (gg_wsX12_above_r2) (gg_wsX12_above_r3))) gi_wsX120))
set_option maxRecDepth 20000 in
theorem gL_law_X12_above : GoodIn lw_tbl (wsV RL 101 RX12 yX12_above wsX12_above) := goodIn_app (goodIn_of _ (by decide +kernel)) ggL_law_X12_above
set_option maxRecDepth 20000 in
theorem gg_wsX11_price_r1 : GoodIn lw_tbl wsX11_price_r1 := (gi_r _ [(0, 35), (6, 5), (0, 15), (13, 23), (13, 25), (13, 26), (13, 27), (1, 0), (13, 28), (3, 18), (17, 28), (17, 29), (17, 30), (17, 31), (17, 32), (17, 33), (17, 34), (17, 35), (20, 33), (18, 3), (18, 4), (0, 14), (18, 5), (18, 6)] rfl (by decide +kernel))
set_option maxRecDepth 20000 in
theorem gg_wsX11_price_r2 : GoodIn lw_tbl wsX11_price_r2 := (gi_r _ [(18, 7), (18, 8), (18, 9), (1, 38), (18, 10), (18, 11), (18, 12), (18, 13), (18, 14), (18, 15), (18, 16), (18, 17), (18, 18), (2, 1), (1, 37), (18, 19), (1, 34), (18, 20), (1, 35), (1, 36), (18, 21), (4, 9), (4, 10), (4, 11)] rfl (by decide +kernel))
set_option maxRecDepth 20000 in
theorem gg_wsX11_price_r3 : GoodIn lw_tbl wsX11_price_r3 := (gi_r _ [(18, 22), (18, 23), (18, 24), (18, 25), (3, 28), (3, 29), (3, 33), (18, 26), (18, 27), (18, 28), (18, 29), (3, 31), (3, 32), (18, 30), (18, 31), (18, 32), (18, 33), (2, 2), (1, 39), (18, 34), (18, 35), (18, 36), (18, 37), (18, 38)] rfl (by decide +kernel))
set_option maxRecDepth 20000 in
theorem gg_wsX11_price_r4 : GoodIn lw_tbl wsX11_price_r4 := (gi_r _ [(18, 39), (19, 0), (19, 1), (19, 2), (19, 3), (19, 4), (19, 5), (19, 6), (2, 0), (19, 7), (19, 8), (19, 9), (19, 10), (19, 11), (19, 12), (19, 13), (19, 14), (19, 15), (19, 16), (19, 17), (19, 18), (17, 36), (17, 37), (17, 38)] rfl (by decide +kernel))
set_option maxRecDepth 20000 in
theorem gg_wsX11_price_r5 : GoodIn lw_tbl wsX11_price_r5 := (gi_r _ [(17, 39), (18, 0), (18, 1), (18, 2)] rfl (by decide +kernel))
set_option maxRecDepth 20000 in
theorem ggL_law_X11_price : GoodIn lw_tbl wsX11_price := (gi_c (gi_r _ [(20, 32)] rfl (by decide +kernel)) (goodIn_app (goodIn_app (goodIn_app (goodIn_app (goodIn_app (goodIn_app (gg_wsX11_price_r1) (goodIn_app (gg_wsX11_price_r2) (goodIn_app (gg_wsX11_price_r3) (goodIn_app (gg_wsX11_price_r4) (gg_wsX11_price_r5))))) gi_wsX110) gi_wsX80) gi_wsX100) gi_wsX20) gi_wsX50))
set_option maxRecDepth 20000 in
theorem gL_law_X11_price : GoodIn lw_tbl (wsV RL 102 RX11 yX11_price wsX11_price) := goodIn_app (goodIn_of _ (by decide +kernel)) ggL_law_X11_price
set_option maxRecDepth 20000 in
theorem gg_wsX12_price_r1 : GoodIn lw_tbl wsX12_price_r1 := (gi_r _ [(5, 30), (4, 15), (13, 30), (13, 31), (13, 32), (5, 35), (13, 33), (12, 19), (12, 20), (12, 21), (19, 20), (19, 21), (19, 22), (19, 23), (19, 24), (19, 25), (19, 26), (19, 27), (4, 26), (19, 28), (4, 24), (4, 23), (19, 29), (19, 30)] rfl (by decide +kernel))
set_option maxRecDepth 20000 in
theorem gg_wsX12_price_r2 : GoodIn lw_tbl wsX12_price_r2 := (gi_r _ [(19, 31), (19, 32), (14, 23), (14, 24), (14, 25), (14, 26), (19, 33), (19, 34), (19, 35), (19, 36), (12, 26), (12, 27), (12, 28), (15, 32), (15, 33), (15, 34), (15, 35), (16, 4), (16, 5), (16, 6), (16, 7), (19, 37), (19, 38), (19, 39)] rfl (by decide +kernel))
set_option maxRecDepth 20000 in
theorem gg_wsX12_price_r3 : GoodIn lw_tbl wsX12_price_r3 := (gi_r _ [(20, 0), (4, 25), (4, 31), (4, 27), (4, 29), (20, 1), (20, 2), (20, 3), (20, 4), (20, 5), (4, 28), (20, 6), (20, 7), (20, 8), (20, 9)] rfl (by decide +kernel))
set_option maxRecDepth 20000 in
theorem ggL_law_X12_price : GoodIn lw_tbl wsX12_price := (gi_c (gi_r _ [(20, 34)] rfl (by decide +kernel)) (goodIn_app (goodIn_app (gg_wsX12_price_r1) (goodIn_app (gg_wsX12_price_r2) (gg_wsX12_price_r3))) gi_wsX120))
set_option maxRecDepth 20000 in
theorem gL_law_X12_price : GoodIn lw_tbl (wsV RL 105 RX12 yX12_price wsX12_price) := goodIn_app (goodIn_of _ (by decide +kernel)) ggL_law_X12_price
set_option maxRecDepth 20000 in
theorem gg_wsX11_loss_r1 : GoodIn lw_tbl wsX11_loss_r1 := (gi_r _ [(0, 35), (6, 5), (0, 15), (13, 25), (13, 26), (13, 27), (1, 0), (13, 28), (3, 18), (17, 28), (17, 29), (17, 30), (17, 31), (17, 32), (17, 33), (17, 34), (17, 35), (17, 36), (17, 37), (17, 38), (0, 14), (17, 39), (18, 0), (18, 1)] rfl (by decide +kernel))
set_option maxRecDepth 20000 in
theorem gg_wsX11_loss_r2 : GoodIn lw_tbl wsX11_loss_r2 := (gi_r _ [(18, 2), (18, 3), (18, 4), (18, 5), (18, 6), (18, 7), (18, 8), (18, 9), (1, 38), (18, 10), (18, 11), (18, 12), (18, 13), (18, 14), (18, 15), (18, 16), (18, 17), (18, 18), (2, 1), (1, 37), (18, 19), (1, 34), (18, 20), (1, 35)] rfl (by decide +kernel))
set_option maxRecDepth 20000 in
theorem gg_wsX11_loss_r3 : GoodIn lw_tbl wsX11_loss_r3 := (gi_r _ [(1, 36), (18, 21), (4, 9), (4, 10), (4, 11), (18, 22), (18, 23), (18, 24), (18, 25), (3, 28), (3, 29), (3, 33), (18, 26), (18, 27), (18, 28), (18, 29), (3, 31), (3, 32), (18, 30), (18, 31), (18, 32), (18, 33), (2, 2), (1, 39)] rfl (by decide +kernel))
set_option maxRecDepth 20000 in
theorem gg_wsX11_loss_r4 : GoodIn lw_tbl wsX11_loss_r4 := (gi_r _ [(18, 34), (18, 35), (18, 36), (18, 37), (18, 38), (18, 39), (19, 0), (19, 1), (19, 2), (19, 3), (19, 4), (19, 5), (19, 6), (2, 0), (19, 7), (19, 8), (19, 9), (19, 10), (19, 11), (19, 12), (19, 13), (19, 14), (19, 15), (19, 16)] rfl (by decide +kernel))
set_option maxRecDepth 20000 in
theorem gg_wsX11_loss_r5 : GoodIn lw_tbl wsX11_loss_r5 := (gi_r _ [(19, 17), (19, 18), (20, 33)] rfl (by decide +kernel))
set_option maxRecDepth 20000 in
theorem ggL_law_X11_loss : GoodIn lw_tbl wsX11_loss := (gi_c (gi_r _ [(20, 35)] rfl (by decide +kernel)) (goodIn_app (goodIn_app (goodIn_app (goodIn_app (goodIn_app (goodIn_app (gg_wsX11_loss_r1) (goodIn_app (gg_wsX11_loss_r2) (goodIn_app (gg_wsX11_loss_r3) (goodIn_app (gg_wsX11_loss_r4) (gg_wsX11_loss_r5))))) gi_wsX110) gi_wsX80) gi_wsX100) gi_wsX50) gi_wsX20))
set_option maxRecDepth 20000 in
theorem gL_law_X11_loss : GoodIn lw_tbl (wsV RL 106 RX11 yX11_loss wsX11_loss) := goodIn_app (goodIn_of _ (by decide +kernel)) ggL_law_X11_loss
set_option maxRecDepth 20000 in
theorem gg_wsX12_loss_r1 : GoodIn lw_tbl wsX12_loss_r1 := (gi_r _ [(5, 30), (13, 30), (13, 31), (13, 32), (5, 35), (13, 33), (4, 15), (12, 19), (12, 20), (12, 21), (19, 20), (19, 21), (19, 22), (19, 23), (19, 24), (19, 25), (19, 26), (19, 27), (4, 26), (19, 28), (4, 24), (4, 23), (19, 29), (19, 30)] rfl (by decide +kernel))
set_option maxRecDepth 20000 in
theorem gg_wsX12_loss_r2 : GoodIn lw_tbl wsX12_loss_r2 := (gi_r _ [(19, 31), (19, 32), (14, 23), (14, 24), (14, 25), (14, 26), (19, 33), (19, 34), (19, 35), (19, 36), (12, 26), (12, 27), (12, 28), (15, 32), (15, 33), (15, 34), (15, 35), (16, 4), (16, 5), (16, 6), (16, 7), (19, 37), (19, 38), (19, 39)] rfl (by decide +kernel))
set_option maxRecDepth 20000 in
theorem gg_wsX12_loss_r3 : GoodIn lw_tbl wsX12_loss_r3 := (gi_r _ [(20, 0), (4, 25), (4, 31), (4, 27), (4, 29), (20, 1), (20, 2), (20, 3), (20, 4), (20, 5), (4, 28), (20, 6), (20, 7), (20, 8), (20, 9)] rfl (by decide +kernel))
set_option maxRecDepth 20000 in
theorem ggL_law_X12_loss : GoodIn lw_tbl wsX12_loss := (gi_c (gi_r _ [(20, 36)] rfl (by decide +kernel)) (goodIn_app (goodIn_app (gg_wsX12_loss_r1) (goodIn_app (gg_wsX12_loss_r2) (gg_wsX12_loss_r3))) gi_wsX120))
set_option maxRecDepth 20000 in
theorem gL_law_X12_loss : GoodIn lw_tbl (wsV RL 109 RX12 yX12_loss wsX12_loss) := goodIn_app (goodIn_of _ (by decide +kernel)) ggL_law_X12_loss
set_option maxRecDepth 20000 in
theorem gg_wsX11_climb_r1 : GoodIn lw_tbl wsX11_climb_r1 := (gi_r _ [(0, 35), (6, 5), (1, 3), (17, 28), (17, 29), (17, 30), (1, 0), (17, 31), (17, 32), (17, 33), (17, 34), (17, 35), (3, 18), (20, 38), (20, 39), (21, 0), (13, 17), (21, 1), (0, 15), (21, 2), (17, 36), (17, 37), (17, 38), (0, 14)] rfl (by decide +kernel))
set_option maxRecDepth 20000 in
theorem gg_wsX11_climb_r2 : GoodIn lw_tbl wsX11_climb_r2 := (gi_r _ [(17, 39), (18, 0), (18, 1), (18, 2), (18, 3), (18, 4), (18, 5), (18, 6), (18, 7), (18, 8), (18, 9), (1, 38), (18, 10), (18, 11), (18, 12), (18, 13), (18, 14), (18, 15), (18, 16), (18, 17), (18, 18), (2, 1), (1, 37), (18, 19)] rfl (by decide +kernel))
set_option maxRecDepth 20000 in
theorem gg_wsX11_climb_r3 : GoodIn lw_tbl wsX11_climb_r3 := (gi_r _ [(1, 34), (18, 20), (1, 35), (1, 36), (18, 21), (4, 9), (4, 10), (4, 11), (18, 22), (18, 23), (18, 24), (18, 25), (3, 28), (3, 29), (3, 33), (18, 26), (18, 27), (18, 28), (18, 29), (3, 31), (3, 32), (18, 30), (18, 31), (18, 32)] rfl (by decide +kernel))
set_option maxRecDepth 20000 in
theorem gg_wsX11_climb_r4 : GoodIn lw_tbl wsX11_climb_r4 := (gi_r _ [(18, 33), (2, 2), (1, 39), (18, 34), (18, 35), (18, 36), (18, 37), (18, 38), (18, 39), (19, 0), (19, 1), (19, 2), (19, 3), (19, 4), (19, 5), (19, 6), (2, 0), (19, 7), (19, 8), (19, 9), (19, 10), (19, 11), (19, 12), (19, 13)] rfl (by decide +kernel))
set_option maxRecDepth 20000 in
theorem gg_wsX11_climb_r5 : GoodIn lw_tbl wsX11_climb_r5 := (gi_r _ [(19, 14), (19, 15), (19, 16), (19, 17), (19, 18)] rfl (by decide +kernel))
set_option maxRecDepth 20000 in
theorem ggL_law_X11_climb : GoodIn lw_tbl wsX11_climb := (gi_c (gi_r _ [(20, 37)] rfl (by decide +kernel)) (goodIn_app (goodIn_app (goodIn_app (goodIn_app (goodIn_app (goodIn_app (gg_wsX11_climb_r1) (goodIn_app (gg_wsX11_climb_r2) (goodIn_app (gg_wsX11_climb_r3) (goodIn_app (gg_wsX11_climb_r4) (gg_wsX11_climb_r5))))) gi_wsX110) gi_wsX80) gi_wsX100) gi_wsX50) gi_wsX20))
set_option maxRecDepth 20000 in
theorem gL_law_X11_climb : GoodIn lw_tbl (wsV RL 110 RX11 yX11_climb wsX11_climb) := goodIn_app (goodIn_of _ (by decide +kernel)) ggL_law_X11_climb
set_option maxRecDepth 20000 in
theorem gg_wsX12_climb_r1 : GoodIn lw_tbl wsX12_climb_r1 := (gi_r _ [(5, 30), (21, 4), (4, 15), (4, 32), (19, 20), (19, 21), (19, 22), (5, 35), (19, 23), (12, 19), (12, 20), (12, 21), (20, 21), (20, 22), (20, 23), (20, 24), (5, 18), (19, 24), (19, 25), (19, 26), (19, 27), (4, 26), (19, 28), (4, 24)] rfl (by decide +kernel))
set_option maxRecDepth 20000 in
theorem gg_wsX12_climb_r2 : GoodIn lw_tbl wsX12_climb_r2 := (gi_r _ [(4, 23), (19, 29), (19, 30), (19, 31), (19, 32), (14, 23), (14, 24), (14, 25), (14, 26), (19, 33), (19, 34), (19, 35), (19, 36), (12, 26), (12, 27), (12, 28), (15, 32), (15, 33), (15, 34), (15, 35), (16, 4), (16, 5), (16, 6), (16, 7)] rfl (by decide +kernel))
set_option maxRecDepth 20000 in
theorem gg_wsX12_climb_r3 : GoodIn lw_tbl wsX12_climb_r3 := (gi_r _ [(19, 37), (19, 38), (19, 39), (20, 0), (4, 25), (4, 31), (4, 27), (4, 29), (20, 1), (20, 2), (20, 3), (20, 4), (20, 5), (4, 28), (20, 6), (20, 7), (20, 8), (20, 9)] rfl (by decide +kernel))
set_option maxRecDepth 20000 in
theorem ggL_law_X12_climb : GoodIn lw_tbl wsX12_climb := (gi_c (gi_r _ [(21, 3)] rfl (by decide +kernel)) (goodIn_app (goodIn_app (gg_wsX12_climb_r1) (goodIn_app (gg_wsX12_climb_r2) (gg_wsX12_climb_r3))) gi_wsX120))
set_option maxRecDepth 20000 in
theorem gL_law_X12_climb : GoodIn lw_tbl (wsV RL 113 RX12 yX12_climb wsX12_climb) := goodIn_app (goodIn_of _ (by decide +kernel)) ggL_law_X12_climb
set_option maxRecDepth 20000 in
theorem ggL_law_X11_climbed : GoodIn lw_tbl wsX11_climbed := (gi_c (gi_r _ [(21, 5)] rfl (by decide +kernel)) (goodIn_app (gi_r _ [(1, 3)] rfl (by decide +kernel)) gi_wsX110))
set_option maxRecDepth 20000 in
theorem gL_law_X11_climbed : GoodIn lw_tbl (wsV RL 114 RX11 yX11_climbed wsX11_climbed) := goodIn_app (goodIn_of _ (by decide +kernel)) ggL_law_X11_climbed
set_option maxRecDepth 20000 in
theorem ggL_law_X12_climbed : GoodIn lw_tbl wsX12_climbed := (gi_c (gi_r _ [(21, 6)] rfl (by decide +kernel)) (goodIn_app (gi_r _ [(5, 30), (21, 4)] rfl (by decide +kernel)) gi_wsX120))
set_option maxRecDepth 20000 in
theorem gL_law_X12_climbed : GoodIn lw_tbl (wsV RL 117 RX12 yX12_climbed wsX12_climbed) := goodIn_app (goodIn_of _ (by decide +kernel)) ggL_law_X12_climbed
set_option maxRecDepth 20000 in
theorem ggL_law_X11_told : GoodIn lw_tbl wsX11_told := (gi_c (gi_r _ [(21, 7)] rfl (by decide +kernel)) (goodIn_app (goodIn_app (goodIn_app (gi_r _ [(0, 35), (6, 5), (13, 24)] rfl (by decide +kernel)) gi_wsX110) gi_wsX80) gi_wsX100))
set_option maxRecDepth 20000 in
theorem gL_law_X11_told : GoodIn lw_tbl (wsV RL 118 RX11 yX11_told wsX11_told) := goodIn_app (goodIn_of _ (by decide +kernel)) ggL_law_X11_told
set_option maxRecDepth 20000 in
theorem ggL_law_X12_told : GoodIn lw_tbl wsX12_told := (gi_c (gi_r _ [(21, 8)] rfl (by decide +kernel)) (goodIn_app (gi_r _ [(5, 30), (4, 15)] rfl (by decide +kernel)) gi_wsX120))
set_option maxRecDepth 20000 in
theorem gL_law_X12_told : GoodIn lw_tbl (wsV RL 121 RX12 yX12_told wsX12_told) := goodIn_app (goodIn_of _ (by decide +kernel)) ggL_law_X12_told
set_option maxRecDepth 20000 in
theorem gg_wsX11_own_r1 : GoodIn lw_tbl wsX11_own_r1 := (gi_r _ [(0, 35), (6, 5), (13, 25), (13, 26), (13, 27), (1, 0), (13, 28), (3, 18), (17, 28), (17, 29), (17, 30), (17, 31), (17, 32), (17, 33), (17, 34), (17, 35), (21, 10), (21, 11), (21, 12), (21, 13), (3, 19), (21, 14), (15, 20), (15, 21)] rfl (by decide +kernel))
set_option maxRecDepth 20000 in
theorem gg_wsX11_own_r2 : GoodIn lw_tbl wsX11_own_r2 := (gi_r _ [(15, 22), (3, 28), (3, 29), (21, 15), (18, 23), (18, 24), (18, 25), (3, 33), (21, 16), (17, 19), (17, 20), (17, 21), (3, 31), (3, 32)] rfl (by decide +kernel))
set_option maxRecDepth 20000 in
theorem ggL_law_X11_own : GoodIn lw_tbl wsX11_own := (gi_c (gi_r _ [(21, 9)] rfl (by decide +kernel)) (goodIn_app (goodIn_app (goodIn_app (goodIn_app (gg_wsX11_own_r1) (gg_wsX11_own_r2)) gi_wsX110) gi_wsX80) gi_wsX100))
set_option maxRecDepth 20000 in
theorem gL_law_X11_own : GoodIn lw_tbl (wsV RL 122 RX11 yX11_own wsX11_own) := goodIn_app (goodIn_of _ (by decide +kernel)) ggL_law_X11_own
set_option maxRecDepth 20000 in
theorem gg_wsX12_own_r1 : GoodIn lw_tbl wsX12_own_r1 := (gi_r _ [(5, 30), (13, 30), (13, 31), (13, 32), (5, 35), (13, 33), (4, 15), (12, 19), (12, 20), (12, 21), (19, 20), (19, 21), (19, 22), (19, 23), (21, 18), (21, 19), (21, 20), (21, 21), (19, 33), (19, 34), (19, 35), (19, 36), (14, 23), (14, 24)] rfl (by decide +kernel))
set_option maxRecDepth 20000 in
theorem gg_wsX12_own_r2 : GoodIn lw_tbl wsX12_own_r2 := (gi_r _ [(14, 25), (14, 26), (12, 26), (12, 27), (12, 28), (17, 23), (17, 24), (17, 25), (17, 26)] rfl (by decide +kernel))
set_option maxRecDepth 20000 in
theorem ggL_law_X12_own : GoodIn lw_tbl wsX12_own := (gi_c (gi_r _ [(21, 17)] rfl (by decide +kernel)) (goodIn_app (goodIn_app (gg_wsX12_own_r1) (gg_wsX12_own_r2)) gi_wsX120))
set_option maxRecDepth 20000 in
theorem gL_law_X12_own : GoodIn lw_tbl (wsV RL 125 RX12 yX12_own wsX12_own) := goodIn_app (goodIn_of _ (by decide +kernel)) ggL_law_X12_own
set_option maxRecDepth 20000 in
theorem gg_wsX11_rests_r1 : GoodIn lw_tbl wsX11_rests_r1 := (gi_r _ [(0, 35), (6, 5), (21, 23), (21, 24), (21, 25), (21, 26), (21, 27), (13, 17), (21, 28), (20, 15), (17, 33), (17, 34), (1, 0), (17, 35), (3, 18), (21, 29), (21, 30), (21, 31), (21, 32), (21, 33), (21, 34), (21, 35), (21, 36), (21, 37)] rfl (by decide +kernel))
set_option maxRecDepth 20000 in
theorem gg_wsX11_rests_r2 : GoodIn lw_tbl wsX11_rests_r2 := (gi_r _ [(21, 11), (21, 12), (21, 13), (3, 19), (21, 14), (15, 20), (15, 21), (15, 22), (3, 28), (3, 29), (21, 15), (18, 23), (18, 24), (18, 25), (3, 33), (21, 16), (17, 19), (17, 20), (17, 21), (3, 31), (3, 32)] rfl (by decide +kernel))
set_option maxRecDepth 20000 in
theorem ggL_law_X11_rests : GoodIn lw_tbl wsX11_rests := (gi_c (gi_r _ [(21, 22)] rfl (by decide +kernel)) (goodIn_app (goodIn_app (goodIn_app (goodIn_app (goodIn_app (gg_wsX11_rests_r1) (gg_wsX11_rests_r2)) gi_wsX110) gi_wsX80) gi_wsX100) gi_wsX50))
set_option maxRecDepth 20000 in
theorem gL_law_X11_rests : GoodIn lw_tbl (wsV RL 126 RX11 yX11_rests wsX11_rests) := goodIn_app (goodIn_of _ (by decide +kernel)) ggL_law_X11_rests
set_option maxRecDepth 20000 in
theorem gg_wsX12_rests_r1 : GoodIn lw_tbl wsX12_rests_r1 := (gi_r _ [(5, 30), (4, 15), (21, 39), (22, 0), (22, 1), (5, 35), (22, 2), (21, 18), (21, 19), (21, 20), (21, 21), (19, 33), (19, 34), (19, 35), (19, 36), (14, 23), (14, 24), (14, 25), (14, 26), (12, 26), (12, 27), (12, 28), (17, 23), (17, 24)] rfl (by decide +kernel))
set_option maxRecDepth 20000 in
theorem gg_wsX12_rests_r2 : GoodIn lw_tbl wsX12_rests_r2 := (gi_r _ [(17, 25), (17, 26)] rfl (by decide +kernel))
set_option maxRecDepth 20000 in
theorem ggL_law_X12_rests : GoodIn lw_tbl wsX12_rests := (gi_c (gi_r _ [(21, 38)] rfl (by decide +kernel)) (goodIn_app (goodIn_app (gg_wsX12_rests_r1) (gg_wsX12_rests_r2)) gi_wsX120))
set_option maxRecDepth 20000 in
theorem gL_law_X12_rests : GoodIn lw_tbl (wsV RL 129 RX12 yX12_rests wsX12_rests) := goodIn_app (goodIn_of _ (by decide +kernel)) ggL_law_X12_rests
set_option maxRecDepth 20000 in
theorem gg_wsX11_rounds_r1 : GoodIn lw_tbl wsX11_rounds_r1 := (gi_r _ [(0, 35), (6, 5), (0, 19), (17, 28), (17, 29), (17, 30), (1, 0), (17, 31), (17, 32), (17, 33), (17, 34), (17, 35), (3, 18), (22, 4), (22, 5), (22, 6), (0, 18), (22, 7), (2, 6), (2, 7), (2, 8), (2, 9), (22, 8), (4, 9)] rfl (by decide +kernel))
set_option maxRecDepth 20000 in
theorem gg_wsX11_rounds_r2 : GoodIn lw_tbl wsX11_rounds_r2 := (gi_r _ [(4, 10), (4, 11), (22, 9), (22, 10), (22, 11), (22, 12), (22, 13), (21, 34), (21, 35), (21, 36), (21, 37), (21, 11), (21, 12), (21, 13), (3, 19), (21, 14), (15, 20), (15, 21), (15, 22), (3, 28), (3, 29), (21, 15), (18, 23), (18, 24)] rfl (by decide +kernel))
set_option maxRecDepth 20000 in
theorem gg_wsX11_rounds_r3 : GoodIn lw_tbl wsX11_rounds_r3 := (gi_r _ [(18, 25), (3, 33), (21, 16), (17, 19), (17, 20), (17, 21), (3, 31), (3, 32)] rfl (by decide +kernel))
set_option maxRecDepth 20000 in
theorem ggL_law_X11_rounds : GoodIn lw_tbl wsX11_rounds := (gi_c (gi_r _ [(22, 3)] rfl (by decide +kernel)) (goodIn_app (goodIn_app (goodIn_app (goodIn_app (goodIn_app (gg_wsX11_rounds_r1) (goodIn_app (gg_wsX11_rounds_r2) (gg_wsX11_rounds_r3))) gi_wsX110) gi_wsX80) gi_wsX100) gi_wsX70))
set_option maxRecDepth 20000 in
theorem gL_law_X11_rounds : GoodIn lw_tbl (wsV RL 130 RX11 yX11_rounds wsX11_rounds) := goodIn_app (goodIn_of _ (by decide +kernel)) ggL_law_X11_rounds
set_option maxRecDepth 20000 in
theorem gg_wsX12_rounds_r1 : GoodIn lw_tbl wsX12_rounds_r1 := (gi_r _ [(5, 30), (4, 33), (22, 15), (4, 15), (4, 34), (19, 20), (19, 21), (19, 22), (5, 35), (19, 23), (12, 19), (12, 20), (12, 21), (21, 18), (21, 19), (21, 20), (21, 21), (19, 33), (19, 34), (19, 35), (19, 36), (14, 23), (14, 24), (14, 25)] rfl (by decide +kernel))
set_option maxRecDepth 20000 in
theorem gg_wsX12_rounds_r2 : GoodIn lw_tbl wsX12_rounds_r2 := (gi_r _ [(14, 26), (12, 26), (12, 27), (12, 28), (17, 23), (17, 24), (17, 25), (17, 26)] rfl (by decide +kernel))
set_option maxRecDepth 20000 in
theorem ggL_law_X12_rounds : GoodIn lw_tbl wsX12_rounds := (gi_c (gi_r _ [(22, 14)] rfl (by decide +kernel)) (goodIn_app (goodIn_app (gg_wsX12_rounds_r1) (gg_wsX12_rounds_r2)) gi_wsX120))
set_option maxRecDepth 20000 in
theorem gL_law_X12_rounds : GoodIn lw_tbl (wsV RL 133 RX12 yX12_rounds wsX12_rounds) := goodIn_app (goodIn_of _ (by decide +kernel)) ggL_law_X12_rounds
set_option maxRecDepth 20000 in
theorem ggL_law_X11_ended : GoodIn lw_tbl wsX11_ended := (gi_c (gi_r _ [(22, 16)] rfl (by decide +kernel)) (goodIn_app (goodIn_app (gi_r _ [(0, 19), (22, 17), (22, 18), (22, 19)] rfl (by decide +kernel)) gi_wsX110) gi_wsX70))
