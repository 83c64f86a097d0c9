set_option maxRecDepth 20000 in
theorem gL_law_X11_ended : GoodIn lw_tbl (wsV RL 134 RX11 yX11_ended wsX11_ended) := goodIn_app (goodIn_of _ (by decide +kernel)) ggL_law_X11_ended
set_option maxRecDepth 20000 in
theorem ggL_law_X12_ended : GoodIn lw_tbl wsX12_ended := (gi_c (gi_r _ [(22, 20)] rfl (by decide +kernel)) (goodIn_app (gi_r _ [(5, 30), (22, 15), (4, 34), (12, 19), (12, 20), (5, 35), (12, 21)] rfl (by decide +kernel)) gi_wsX120))
set_option maxRecDepth 20000 in
theorem gL_law_X12_ended : GoodIn lw_tbl (wsV RL 137 RX12 yX12_ended wsX12_ended) := goodIn_app (goodIn_of _ (by decide +kernel)) ggL_law_X12_ended
set_option maxRecDepth 20000 in
theorem gg_wsX11_one_r1 : GoodIn lw_tbl wsX11_one_r1 := (gi_r _ [(0, 35), (6, 5), (0, 23), (22, 22), (22, 23), (13, 25), (13, 26), (13, 27), (1, 0), (13, 28), (3, 18), (17, 28), (17, 29), (17, 30), (17, 31), (17, 32), (17, 33), (17, 34), (17, 35), (22, 24), (22, 25), (22, 26), (0, 22), (22, 27)] rfl (by decide +kernel))
set_option maxRecDepth 20000 in
theorem gg_wsX11_one_r2 : GoodIn lw_tbl wsX11_one_r2 := (gi_r _ [(2, 18), (2, 16), (2, 17), (2, 13), (22, 28), (10, 10), (6, 31), (10, 11), (22, 29), (22, 30), (22, 31), (22, 32), (22, 33), (22, 34), (4, 9), (4, 10), (4, 11), (22, 35), (18, 23), (18, 24), (18, 25), (3, 28), (3, 29), (3, 33)] rfl (by decide +kernel))
set_option maxRecDepth 20000 in
theorem gg_wsX11_one_r3 : GoodIn lw_tbl wsX11_one_r3 := (gi_r _ [(22, 36), (17, 19), (17, 20), (17, 21), (3, 31), (3, 32), (22, 37), (22, 38), (22, 39), (23, 0), (23, 1), (23, 2), (23, 3), (23, 4), (23, 5), (6, 30), (6, 32), (23, 6), (23, 7), (23, 8), (23, 9), (2, 15), (2, 14)] rfl (by decide +kernel))
set_option maxRecDepth 20000 in
theorem ggL_law_X11_one : GoodIn lw_tbl wsX11_one := (gi_c (gi_r _ [(22, 21)] rfl (by decide +kernel)) (goodIn_app (goodIn_app (goodIn_app (goodIn_app (goodIn_app (gg_wsX11_one_r1) (goodIn_app (gg_wsX11_one_r2) (gg_wsX11_one_r3))) gi_wsX110) gi_wsX80) gi_wsX100) gi_wsX10))
set_option maxRecDepth 20000 in
theorem gL_law_X11_one : GoodIn lw_tbl (wsV RL 138 RX11 yX11_one wsX11_one) := goodIn_app (goodIn_of _ (by decide +kernel)) ggL_law_X11_one
set_option maxRecDepth 20000 in
theorem gg_wsX12_one_r1 : GoodIn lw_tbl wsX12_one_r1 := (gi_r _ [(5, 30), (4, 15), (4, 36), (4, 37), (23, 11), (13, 30), (13, 31), (13, 32), (5, 35), (13, 33), (12, 19), (12, 20), (12, 21), (19, 20), (19, 21), (19, 22), (19, 23), (23, 12), (23, 13), (23, 14), (23, 15), (23, 16), (23, 17), (23, 18)] rfl (by decide +kernel))
set_option maxRecDepth 20000 in
theorem gg_wsX12_one_r2 : GoodIn lw_tbl wsX12_one_r2 := (gi_r _ [(23, 19), (4, 35), (14, 23), (14, 24), (14, 25), (14, 26), (19, 33), (19, 34), (19, 35), (19, 36), (12, 26), (12, 27), (12, 28), (17, 23), (17, 24), (17, 25), (17, 26), (23, 20), (23, 21), (23, 22), (23, 23), (23, 24), (23, 25), (23, 26)] rfl (by decide +kernel))
set_option maxRecDepth 20000 in
theorem gg_wsX12_one_r3 : GoodIn lw_tbl wsX12_one_r3 := (gi_r _ [(23, 27), (23, 28), (23, 29), (23, 30), (23, 31)] rfl (by decide +kernel))
set_option maxRecDepth 20000 in
theorem ggL_law_X12_one : GoodIn lw_tbl wsX12_one := (gi_c (gi_r _ [(23, 10)] rfl (by decide +kernel)) (goodIn_app (goodIn_app (gg_wsX12_one_r1) (goodIn_app (gg_wsX12_one_r2) (gg_wsX12_one_r3))) gi_wsX120))
set_option maxRecDepth 20000 in
theorem gL_law_X12_one : GoodIn lw_tbl (wsV RL 141 RX12 yX12_one wsX12_one) := goodIn_app (goodIn_of _ (by decide +kernel)) ggL_law_X12_one
set_option maxRecDepth 20000 in
theorem gg_wsX11_oneBy_r1 : GoodIn lw_tbl wsX11_oneBy_r1 := (gi_r _ [(0, 35), (6, 5), (0, 23), (22, 23), (13, 25), (13, 26), (13, 27), (1, 0), (13, 28), (3, 18), (17, 28), (17, 29), (17, 30), (17, 31), (17, 32), (17, 33), (17, 34), (17, 35), (22, 24), (22, 25), (22, 26), (0, 22), (22, 27), (2, 18)] rfl (by decide +kernel))
set_option maxRecDepth 20000 in
theorem gg_wsX11_oneBy_r2 : GoodIn lw_tbl wsX11_oneBy_r2 := (gi_r _ [(2, 16), (2, 17), (2, 13), (22, 28), (10, 10), (6, 31), (10, 11), (22, 29), (22, 30), (22, 31), (22, 32), (22, 33), (22, 34), (4, 9), (4, 10), (4, 11), (22, 35), (18, 23), (18, 24), (18, 25), (3, 28), (3, 29), (3, 33), (22, 36)] rfl (by decide +kernel))
set_option maxRecDepth 20000 in
theorem gg_wsX11_oneBy_r3 : GoodIn lw_tbl wsX11_oneBy_r3 := (gi_r _ [(17, 19), (17, 20), (17, 21), (3, 31), (3, 32), (22, 37), (22, 38), (22, 39), (23, 0), (23, 1), (23, 2), (23, 3), (23, 4), (23, 5), (6, 30), (6, 32)] rfl (by decide +kernel))
set_option maxRecDepth 20000 in
theorem ggL_law_X11_oneBy : GoodIn lw_tbl wsX11_oneBy := (gi_c (gi_r _ [(23, 32)] rfl (by decide +kernel)) (goodIn_app (goodIn_app (goodIn_app (goodIn_app (goodIn_app (gg_wsX11_oneBy_r1) (goodIn_app (gg_wsX11_oneBy_r2) (gg_wsX11_oneBy_r3))) gi_wsX110) gi_wsX80) gi_wsX10) gi_wsX100))
set_option maxRecDepth 20000 in
theorem gL_law_X11_oneBy : GoodIn lw_tbl (wsV RL 142 RX11 yX11_oneBy wsX11_oneBy) := goodIn_app (goodIn_of _ (by decide +kernel)) ggL_law_X11_oneBy
set_option maxRecDepth 20000 in
theorem gg_wsX12_oneBy_r1 : GoodIn lw_tbl wsX12_oneBy_r1 := (gi_r _ [(5, 30), (13, 30), (13, 31), (13, 32), (5, 35), (13, 33), (4, 15), (12, 19), (12, 20), (12, 21), (19, 20), (19, 21), (19, 22), (19, 23), (23, 12), (23, 13), (23, 14), (23, 15), (4, 36), (23, 16), (23, 17), (23, 18), (23, 19), (4, 35)] rfl (by decide +kernel))
set_option maxRecDepth 20000 in
theorem gg_wsX12_oneBy_r2 : GoodIn lw_tbl wsX12_oneBy_r2 := (gi_r _ [(14, 23), (14, 24), (14, 25), (14, 26), (19, 33), (19, 34), (19, 35), (19, 36), (12, 26), (12, 27), (12, 28), (17, 23), (17, 24), (17, 25), (17, 26), (23, 20), (23, 21), (23, 22), (23, 23), (23, 24), (23, 25), (23, 26), (23, 27), (23, 28)] rfl (by decide +kernel))
set_option maxRecDepth 20000 in
theorem gg_wsX12_oneBy_r3 : GoodIn lw_tbl wsX12_oneBy_r3 := (gi_r _ [(23, 29), (23, 30), (23, 31)] rfl (by decide +kernel))
set_option maxRecDepth 20000 in
theorem ggL_law_X12_oneBy : GoodIn lw_tbl wsX12_oneBy := (gi_c (gi_r _ [(23, 33)] rfl (by decide +kernel)) (goodIn_app (goodIn_app (gg_wsX12_oneBy_r1) (goodIn_app (gg_wsX12_oneBy_r2) (gg_wsX12_oneBy_r3))) gi_wsX120))
set_option maxRecDepth 20000 in
theorem gL_law_X12_oneBy : GoodIn lw_tbl (wsV RL 146 RX12 yX12_oneBy wsX12_oneBy) := goodIn_app (goodIn_of _ (by decide +kernel)) ggL_law_X12_oneBy
set_option maxRecDepth 20000 in
theorem gg_wsX11_lawful_r1 : GoodIn lw_tbl wsX11_lawful_r1 := (gi_r _ [(0, 35), (6, 5), (17, 10), (0, 27), (23, 35), (23, 36), (23, 37), (0, 26), (23, 38), (23, 39), (24, 0), (2, 29), (24, 1), (24, 2), (2, 27), (24, 3), (2, 22), (24, 4), (18, 11), (18, 12), (18, 13), (2, 23), (24, 5), (18, 27)] rfl (by decide +kernel))
set_option maxRecDepth 20000 in
theorem gg_wsX11_lawful_r2 : GoodIn lw_tbl wsX11_lawful_r2 := (gi_r _ [(18, 28), (1, 0), (18, 29), (3, 31), (3, 32), (24, 6), (10, 35), (10, 36), (2, 26), (10, 37), (2, 36), (24, 7), (24, 8), (24, 9), (24, 10), (2, 28), (24, 11), (14, 33), (14, 34), (14, 35), (14, 36), (14, 37), (14, 38), (2, 33)] rfl (by decide +kernel))
set_option maxRecDepth 20000 in
theorem gg_wsX11_lawful_r3 : GoodIn lw_tbl wsX11_lawful_r3 := (gi_r _ [(2, 34), (2, 35), (14, 39), (15, 0), (15, 1), (15, 2), (15, 3), (15, 4), (14, 15), (14, 16), (14, 17), (15, 5), (15, 6), (15, 7), (15, 8), (3, 28), (3, 29), (15, 9), (15, 10), (15, 11), (15, 12), (15, 13), (15, 14), (15, 15)] rfl (by decide +kernel))
set_option maxRecDepth 20000 in
theorem gg_wsX11_lawful_r4 : GoodIn lw_tbl wsX11_lawful_r4 := (gi_r _ [(15, 16), (15, 17), (15, 18), (15, 19), (15, 20), (15, 21), (15, 22), (24, 12), (16, 19), (16, 20), (16, 21)] rfl (by decide +kernel))
set_option maxRecDepth 20000 in
theorem ggL_law_X11_lawful : GoodIn lw_tbl wsX11_lawful := (gi_c (gi_r _ [(23, 34)] rfl (by decide +kernel)) (goodIn_app (goodIn_app (goodIn_app (goodIn_app (goodIn_app (goodIn_app (goodIn_app (gg_wsX11_lawful_r1) (goodIn_app (gg_wsX11_lawful_r2) (goodIn_app (gg_wsX11_lawful_r3) (gg_wsX11_lawful_r4)))) gi_wsX110) gi_wsX80) gi_wsX100) gi_wsX50) gi_wsX30) gi_wsX00))
set_option maxRecDepth 20000 in
theorem gL_law_X11_lawful : GoodIn lw_tbl (wsV RL 147 RX11 yX11_lawful wsX11_lawful) := goodIn_app (goodIn_of _ (by decide +kernel)) ggL_law_X11_lawful
set_option maxRecDepth 20000 in
theorem gg_wsX12_lawful_r1 : GoodIn lw_tbl wsX12_lawful_r1 := (gi_r _ [(5, 30), (4, 15), (4, 39), (5, 0), (4, 38), (5, 1), (24, 14), (24, 15), (24, 16), (5, 35), (24, 17), (14, 23), (14, 24), (14, 25), (14, 26), (24, 18), (24, 19), (24, 20), (24, 21), (5, 2), (15, 24), (15, 25), (15, 26), (15, 27)] rfl (by decide +kernel))
set_option maxRecDepth 20000 in
theorem gg_wsX12_lawful_r2 : GoodIn lw_tbl wsX12_lawful_r2 := (gi_r _ [(14, 27), (14, 28), (14, 29), (14, 30), (15, 28), (15, 29), (15, 30), (15, 31), (4, 21), (15, 32), (15, 33), (15, 34), (15, 35), (15, 36), (15, 37), (15, 38), (15, 39), (4, 22), (16, 0), (16, 1), (16, 2), (16, 3), (16, 4), (16, 5)] rfl (by decide +kernel))
set_option maxRecDepth 20000 in
theorem gg_wsX12_lawful_r3 : GoodIn lw_tbl wsX12_lawful_r3 := (gi_r _ [(16, 6), (16, 7), (16, 8), (16, 9), (16, 10), (16, 11), (16, 12), (16, 13), (16, 14), (16, 15), (24, 22), (24, 23), (24, 24), (24, 25)] rfl (by decide +kernel))
set_option maxRecDepth 20000 in
theorem ggL_law_X12_lawful : GoodIn lw_tbl wsX12_lawful := (gi_c (gi_r _ [(24, 13)] rfl (by decide +kernel)) (goodIn_app (goodIn_app (gg_wsX12_lawful_r1) (goodIn_app (gg_wsX12_lawful_r2) (gg_wsX12_lawful_r3))) gi_wsX120))
set_option maxRecDepth 20000 in
theorem gL_law_X12_lawful : GoodIn lw_tbl (wsV RL 150 RX12 yX12_lawful wsX12_lawful) := goodIn_app (goodIn_of _ (by decide +kernel)) ggL_law_X12_lawful
set_option maxRecDepth 20000 in
theorem ggL_law_X11_lawfulBy : GoodIn lw_tbl wsX11_lawfulBy := (gi_c (gi_r _ [(24, 26)] rfl (by decide +kernel)) (goodIn_app (goodIn_app (gi_r _ [(0, 27), (24, 27), (24, 28)] rfl (by decide +kernel)) gi_wsX110) gi_wsX30))
set_option maxRecDepth 20000 in
theorem gL_law_X11_lawfulBy : GoodIn lw_tbl (wsV RL 151 RX11 yX11_lawfulBy wsX11_lawfulBy) := goodIn_app (goodIn_of _ (by decide +kernel)) ggL_law_X11_lawfulBy
set_option maxRecDepth 20000 in
theorem ggL_law_X12_lawfulBy : GoodIn lw_tbl wsX12_lawfulBy := (gi_c (gi_r _ [(24, 29)] rfl (by decide +kernel)) (goodIn_app (gi_r _ [(5, 30), (5, 1), (5, 0), (12, 19), (12, 20), (5, 35), (12, 21)] rfl (by decide +kernel)) gi_wsX120))
set_option maxRecDepth 20000 in
theorem gL_law_X12_lawfulBy : GoodIn lw_tbl (wsV RL 154 RX12 yX12_lawfulBy wsX12_lawfulBy) := goodIn_app (goodIn_of _ (by decide +kernel)) ggL_law_X12_lawfulBy
set_option maxRecDepth 20000 in
theorem ggL_law_X11_oneIs : GoodIn lw_tbl wsX11_oneIs := (gi_c (gi_r _ [(24, 30)] rfl (by decide +kernel)) (goodIn_app (goodIn_app (gi_r _ [(0, 23), (24, 31), (24, 32), (17, 4), (17, 5), (13, 17), (17, 6)] rfl (by decide +kernel)) gi_wsX110) gi_wsX10))
set_option maxRecDepth 20000 in
theorem gL_law_X11_oneIs : GoodIn lw_tbl (wsV RL 155 RX11 yX11_oneIs wsX11_oneIs) := goodIn_app (goodIn_of _ (by decide +kernel)) ggL_law_X11_oneIs
set_option maxRecDepth 20000 in
theorem ggL_law_X12_oneIs : GoodIn lw_tbl wsX12_oneIs := (gi_c (gi_r _ [(24, 33)] rfl (by decide +kernel)) (goodIn_app (gi_r _ [(5, 30), (23, 11), (4, 37), (12, 19), (12, 20), (5, 35), (12, 21)] rfl (by decide +kernel)) gi_wsX120))
set_option maxRecDepth 20000 in
theorem gL_law_X12_oneIs : GoodIn lw_tbl (wsV RL 158 RX12 yX12_oneIs wsX12_oneIs) := goodIn_app (goodIn_of _ (by decide +kernel)) ggL_law_X12_oneIs
set_option maxRecDepth 20000 in
theorem gg_wsX11_fewest_r1 : GoodIn lw_tbl wsX11_fewest_r1 := (gi_r _ [(0, 35), (6, 5), (24, 35), (24, 36), (24, 37), (1, 0), (24, 38), (3, 19), (3, 28), (3, 29), (20, 15), (17, 33), (17, 34), (17, 35), (3, 18), (24, 39), (25, 0), (25, 1), (25, 2), (25, 3), (25, 4), (25, 5), (25, 6), (25, 7)] rfl (by decide +kernel))
set_option maxRecDepth 20000 in
theorem gg_wsX11_fewest_r2 : GoodIn lw_tbl wsX11_fewest_r2 := (gi_r _ [(25, 8), (25, 9), (3, 33)] rfl (by decide +kernel))
set_option maxRecDepth 20000 in
theorem ggL_law_X11_fewest : GoodIn lw_tbl wsX11_fewest := (gi_c (gi_r _ [(24, 34)] rfl (by decide +kernel)) (goodIn_app (goodIn_app (goodIn_app (goodIn_app (gg_wsX11_fewest_r1) (gg_wsX11_fewest_r2)) gi_wsX110) gi_wsX80) gi_wsX100))
set_option maxRecDepth 20000 in
theorem gL_law_X11_fewest : GoodIn lw_tbl (wsV RL 159 RX11 yX11_fewest wsX11_fewest) := goodIn_app (goodIn_of _ (by decide +kernel)) ggL_law_X11_fewest
set_option maxRecDepth 20000 in
theorem ggL_law_X12_fewest : GoodIn lw_tbl wsX12_fewest := (gi_c (gi_r _ [(25, 10)] rfl (by decide +kernel)) (goodIn_app (gi_r _ [(5, 30), (4, 15), (25, 11), (25, 12), (5, 35), (25, 13), (25, 14), (25, 15), (25, 16), (25, 17), (14, 23), (14, 24), (14, 25), (14, 26), (12, 26), (12, 27), (12, 28)] rfl (by decide +kernel)) gi_wsX120))
set_option maxRecDepth 20000 in
theorem gL_law_X12_fewest : GoodIn lw_tbl (wsV RL 162 RX12 yX12_fewest wsX12_fewest) := goodIn_app (goodIn_of _ (by decide +kernel)) ggL_law_X12_fewest
set_option maxRecDepth 20000 in
theorem gg_wsX11_meet_r1 : GoodIn lw_tbl wsX11_meet_r1 := (gi_r _ [(0, 31), (0, 7), (0, 35), (6, 5), (21, 2), (25, 19), (25, 20), (25, 21), (0, 30), (25, 22), (3, 0), (3, 4), (3, 3), (25, 23), (25, 24), (25, 25), (4, 9), (4, 10), (4, 11), (25, 26), (25, 27), (25, 28), (25, 29), (3, 1)] rfl (by decide +kernel))
set_option maxRecDepth 20000 in
theorem gg_wsX11_meet_r2 : GoodIn lw_tbl wsX11_meet_r2 := (gi_r _ [(3, 2), (5, 38), (5, 39), (6, 0), (0, 6), (6, 1), (1, 10), (25, 30), (25, 31), (25, 32), (25, 33), (3, 5), (3, 6), (25, 34), (25, 35), (25, 36), (25, 37), (25, 38), (25, 39), (26, 0), (26, 1)] rfl (by decide +kernel))
set_option maxRecDepth 20000 in
theorem ggL_law_X11_meet : GoodIn lw_tbl wsX11_meet := (gi_c (gi_r _ [(25, 18)] rfl (by decide +kernel)) (goodIn_app (goodIn_app (goodIn_app (goodIn_app (goodIn_app (goodIn_app (gg_wsX11_meet_r1) (gg_wsX11_meet_r2)) gi_wsX110) gi_wsX80) gi_wsX100) gi_wsX40) gi_wsX90))
set_option maxRecDepth 20000 in
theorem gL_law_X11_meet : GoodIn lw_tbl (wsV RL 163 RX11 yX11_meet wsX11_meet) := goodIn_app (goodIn_of _ (by decide +kernel)) ggL_law_X11_meet
set_option maxRecDepth 20000 in
theorem gg_wsX12_meet_r1 : GoodIn lw_tbl wsX12_meet_r1 := (gi_r _ [(5, 30), (26, 3), (26, 4), (26, 5), (26, 6), (5, 35), (26, 7), (11, 9), (26, 8), (11, 5), (11, 6), (11, 7), (11, 8), (5, 31), (11, 10), (11, 11), (26, 9), (26, 10), (26, 11), (26, 12), (4, 14), (13, 30), (13, 31), (13, 32)] rfl (by decide +kernel))
set_option maxRecDepth 20000 in
theorem gg_wsX12_meet_r2 : GoodIn lw_tbl wsX12_meet_r2 := (gi_r _ [(13, 33), (4, 15), (12, 19), (12, 20), (12, 21), (26, 13), (26, 14), (26, 15), (26, 16), (12, 26), (12, 27), (12, 28)] rfl (by decide +kernel))
set_option maxRecDepth 20000 in
theorem ggL_law_X12_meet : GoodIn lw_tbl wsX12_meet := (gi_c (gi_r _ [(26, 2)] rfl (by decide +kernel)) (goodIn_app (goodIn_app (gg_wsX12_meet_r1) (gg_wsX12_meet_r2)) gi_wsX120))
set_option maxRecDepth 20000 in
theorem gL_law_X12_meet : GoodIn lw_tbl (wsV RL 166 RX12 yX12_meet wsX12_meet) := goodIn_app (goodIn_of _ (by decide +kernel)) ggL_law_X12_meet
set_option maxRecDepth 20000 in
theorem gg_wsX11_must_r1 : GoodIn lw_tbl wsX11_must_r1 := (gi_r _ [(0, 31), (0, 7), (0, 35), (6, 5), (21, 2), (25, 19), (25, 20), (25, 21), (0, 30), (25, 22), (3, 0), (3, 4), (3, 3), (25, 23), (25, 24), (25, 25), (4, 9), (4, 10), (4, 11), (25, 26), (25, 27), (25, 28), (25, 29), (3, 1)] rfl (by decide +kernel))
set_option maxRecDepth 20000 in
theorem gg_wsX11_must_r2 : GoodIn lw_tbl wsX11_must_r2 := (gi_r _ [(3, 2), (5, 38), (5, 39), (6, 0), (0, 6), (6, 1), (1, 10), (26, 18), (26, 19), (26, 20), (26, 21), (3, 5), (3, 6), (26, 22), (25, 31), (25, 32), (25, 33), (25, 34), (25, 35), (25, 36), (25, 37), (25, 38), (25, 39), (26, 0)] rfl (by decide +kernel))
set_option maxRecDepth 20000 in
theorem gg_wsX11_must_r3 : GoodIn lw_tbl wsX11_must_r3 := (gi_r _ [(26, 1)] rfl (by decide +kernel))
set_option maxRecDepth 20000 in
theorem ggL_law_X11_must : GoodIn lw_tbl wsX11_must := (gi_c (gi_r _ [(26, 17)] rfl (by decide +kernel)) (goodIn_app (goodIn_app (goodIn_app (goodIn_app (goodIn_app (goodIn_app (gg_wsX11_must_r1) (goodIn_app (gg_wsX11_must_r2) (gg_wsX11_must_r3))) gi_wsX110) gi_wsX80) gi_wsX100) gi_wsX40) gi_wsX90))
set_option maxRecDepth 20000 in
theorem gL_law_X11_must : GoodIn lw_tbl (wsV RL 167 RX11 yX11_must wsX11_must) := goodIn_app (goodIn_of _ (by decide +kernel)) ggL_law_X11_must
set_option maxRecDepth 20000 in
theorem gg_wsX12_must_r1 : GoodIn lw_tbl wsX12_must_r1 := (gi_r _ [(5, 30), (26, 3), (26, 4), (26, 5), (26, 6), (5, 35), (26, 7), (11, 9), (26, 8), (11, 5), (11, 6), (11, 7), (11, 8), (5, 31), (11, 10), (11, 11), (26, 9), (26, 10), (26, 11), (26, 12), (4, 14), (13, 30), (13, 31), (13, 32)] rfl (by decide +kernel))
set_option maxRecDepth 20000 in
theorem gg_wsX12_must_r2 : GoodIn lw_tbl wsX12_must_r2 := (gi_r _ [(13, 33), (4, 15), (12, 19), (12, 20), (12, 21), (26, 13), (26, 14), (26, 15), (26, 16), (12, 26), (12, 27), (12, 28)] rfl (by decide +kernel))
set_option maxRecDepth 20000 in
theorem ggL_law_X12_must : GoodIn lw_tbl wsX12_must := (gi_c (gi_r _ [(26, 23)] rfl (by decide +kernel)) (goodIn_app (goodIn_app (gg_wsX12_must_r1) (gg_wsX12_must_r2)) gi_wsX120))
set_option maxRecDepth 20000 in
theorem gL_law_X12_must : GoodIn lw_tbl (wsV RL 170 RX12 yX12_must wsX12_must) := goodIn_app (goodIn_of _ (by decide +kernel)) ggL_law_X12_must
set_option maxRecDepth 20000 in
theorem gg_wsX11_wrongly_r1 : GoodIn lw_tbl wsX11_wrongly_r1 := (gi_r _ [(0, 31), (0, 7), (0, 35), (6, 5), (21, 2), (26, 25), (25, 19), (25, 20), (25, 21), (0, 30), (25, 22), (3, 0), (3, 4), (3, 3), (25, 23), (25, 24), (25, 25), (4, 9), (4, 10), (4, 11), (25, 26), (25, 27), (25, 28), (25, 29)] rfl (by decide +kernel))
set_option maxRecDepth 20000 in
theorem gg_wsX11_wrongly_r2 : GoodIn lw_tbl wsX11_wrongly_r2 := (gi_r _ [(3, 1), (3, 2), (5, 38), (5, 39), (6, 0), (0, 6), (6, 1), (1, 10), (20, 15), (17, 33), (17, 34), (1, 0), (17, 35), (3, 18), (26, 26), (26, 27), (26, 28), (26, 29), (26, 30), (26, 31), (26, 32), (26, 33), (26, 34), (25, 0)] rfl (by decide +kernel))
set_option maxRecDepth 20000 in
theorem gg_wsX11_wrongly_r3 : GoodIn lw_tbl wsX11_wrongly_r3 := (gi_r _ [(25, 1), (25, 2), (25, 3), (25, 4), (25, 5)] rfl (by decide +kernel))
set_option maxRecDepth 20000 in
theorem ggL_law_X11_wrongly : GoodIn lw_tbl wsX11_wrongly := (gi_c (gi_r _ [(26, 24)] rfl (by decide +kernel)) (goodIn_app (goodIn_app (goodIn_app (goodIn_app (goodIn_app (goodIn_app (gg_wsX11_wrongly_r1) (goodIn_app (gg_wsX11_wrongly_r2) (gg_wsX11_wrongly_r3))) gi_wsX110) gi_wsX80) gi_wsX100) gi_wsX40) gi_wsX90))
set_option maxRecDepth 20000 in
theorem gL_law_X11_wrongly : GoodIn lw_tbl (wsV RL 171 RX11 yX11_wrongly wsX11_wrongly) := goodIn_app (goodIn_of _ (by decide +kernel)) ggL_law_X11_wrongly
set_option maxRecDepth 20000 in
theorem gg_wsX12_wrongly_r1 : GoodIn lw_tbl wsX12_wrongly_r1 := (gi_r _ [(5, 30), (26, 8), (26, 3), (26, 4), (26, 5), (26, 6), (5, 35), (26, 7), (11, 9), (11, 5), (11, 6), (11, 7), (11, 8), (5, 31), (11, 10), (11, 11), (26, 9), (26, 10), (26, 11), (26, 12), (4, 14), (13, 30), (13, 31), (13, 32)] rfl (by decide +kernel))
set_option maxRecDepth 20000 in
theorem gg_wsX12_wrongly_r2 : GoodIn lw_tbl wsX12_wrongly_r2 := (gi_r _ [(13, 33), (4, 15), (12, 19), (12, 20), (12, 21), (26, 13), (26, 14), (26, 15), (26, 16), (12, 26), (12, 27), (12, 28), (25, 11), (25, 12), (25, 13)] rfl (by decide +kernel))
set_option maxRecDepth 20000 in
theorem ggL_law_X12_wrongly : GoodIn lw_tbl wsX12_wrongly := (gi_c (gi_r _ [(26, 35)] rfl (by decide +kernel)) (goodIn_app (goodIn_app (gg_wsX12_wrongly_r1) (gg_wsX12_wrongly_r2)) gi_wsX120))
set_option maxRecDepth 20000 in
theorem gL_law_X12_wrongly : GoodIn lw_tbl (wsV RL 174 RX12 yX12_wrongly wsX12_wrongly) := goodIn_app (goodIn_of _ (by decide +kernel)) ggL_law_X12_wrongly
set_option maxRecDepth 20000 in
theorem gg_wsX11_between_r1 : GoodIn lw_tbl wsX11_between_r1 := (gi_r _ [(0, 35), (6, 5), (21, 2), (17, 4), (17, 5), (13, 17), (17, 6), (26, 37), (26, 38), (26, 39), (27, 0), (13, 21), (13, 22), (6, 6), (17, 10), (14, 6), (14, 9), (14, 5), (14, 4), (17, 7), (15, 10), (15, 11), (2, 26), (15, 12)] rfl (by decide +kernel))
set_option maxRecDepth 20000 in
theorem gg_wsX11_between_r2 : GoodIn lw_tbl wsX11_between_r2 := (gi_r _ [(2, 36), (2, 33), (14, 37), (2, 35), (15, 13), (2, 34), (14, 38), (14, 36), (27, 1), (15, 20), (15, 21), (1, 0), (15, 22), (3, 28), (3, 29), (14, 14), (14, 15), (14, 16), (14, 17), (27, 2), (15, 6), (15, 7), (15, 8), (24, 39)] rfl (by decide +kernel))
set_option maxRecDepth 20000 in
theorem gg_wsX11_between_r3 : GoodIn lw_tbl wsX11_between_r3 := (gi_r _ [(25, 0), (25, 1), (25, 2), (25, 3), (25, 4), (25, 5)] rfl (by decide +kernel))
set_option maxRecDepth 20000 in
theorem ggL_law_X11_between : GoodIn lw_tbl wsX11_between := (gi_c (gi_r _ [(26, 36)] rfl (by decide +kernel)) (goodIn_app (goodIn_app (goodIn_app (goodIn_app (goodIn_app (gg_wsX11_between_r1) (goodIn_app (gg_wsX11_between_r2) (gg_wsX11_between_r3))) gi_wsX110) gi_wsX80) gi_wsX100) gi_wsX00))
set_option maxRecDepth 20000 in
theorem gL_law_X11_between : GoodIn lw_tbl (wsV RL 175 RX11 yX11_between wsX11_between) := goodIn_app (goodIn_of _ (by decide +kernel)) ggL_law_X11_between
set_option maxRecDepth 20000 in
theorem gg_wsX12_between_r1 : GoodIn lw_tbl wsX12_between_r1 := (gi_r _ [(5, 30), (4, 15), (12, 19), (12, 20), (5, 35), (12, 21), (15, 28), (15, 29), (15, 30), (15, 31), (4, 21), (14, 23), (14, 24), (14, 25), (14, 26), (15, 32), (15, 33), (15, 34), (15, 35), (15, 36), (15, 37), (15, 38), (15, 39), (4, 22)] rfl (by decide +kernel))
set_option maxRecDepth 20000 in
theorem gg_wsX12_between_r2 : GoodIn lw_tbl wsX12_between_r2 := (gi_r _ [(16, 0), (16, 1), (16, 2), (16, 3), (16, 4), (16, 5), (16, 6), (16, 7), (14, 27), (14, 28), (14, 29), (14, 30), (25, 11), (25, 12), (25, 13)] rfl (by decide +kernel))
set_option maxRecDepth 20000 in
theorem ggL_law_X12_between : GoodIn lw_tbl wsX12_between := (gi_c (gi_r _ [(27, 3)] rfl (by decide +kernel)) (goodIn_app (goodIn_app (gg_wsX12_between_r1) (gg_wsX12_between_r2)) gi_wsX120))
set_option maxRecDepth 20000 in
theorem gL_law_X12_between : GoodIn lw_tbl (wsV RL 178 RX12 yX12_between wsX12_between) := goodIn_app (goodIn_of _ (by decide +kernel)) ggL_law_X12_between
set_option maxRecDepth 20000 in
theorem gg_wsX11_run_r1 : GoodIn lw_tbl wsX11_run_r1 := (gi_r _ [(0, 35), (6, 5), (17, 10), (6, 6), (1, 4), (27, 5), (27, 6), (14, 9), (16, 17), (10, 34), (10, 35), (10, 36), (2, 26), (10, 37), (2, 36), (14, 32), (14, 33), (14, 34), (14, 35), (14, 36), (14, 37), (14, 38), (2, 33), (2, 34)] rfl (by decide +kernel))
set_option maxRecDepth 20000 in
theorem gg_wsX11_run_r2 : GoodIn lw_tbl wsX11_run_r2 := (gi_r _ [(2, 35), (14, 39), (15, 0), (15, 1), (15, 2), (15, 3), (15, 4), (14, 15), (14, 16), (14, 17), (15, 5), (15, 6), (15, 7), (1, 0), (15, 8), (3, 28), (3, 29), (15, 9), (15, 10), (15, 11), (15, 12), (15, 13), (15, 14), (15, 15)] rfl (by decide +kernel))
set_option maxRecDepth 20000 in
theorem gg_wsX11_run_r3 : GoodIn lw_tbl wsX11_run_r3 := (gi_r _ [(15, 16), (15, 17), (15, 18), (15, 19), (15, 20), (15, 21), (15, 22)] rfl (by decide +kernel))
set_option maxRecDepth 20000 in
theorem ggL_law_X11_run : GoodIn lw_tbl wsX11_run := (gi_c (gi_r _ [(27, 4)] rfl (by decide +kernel)) (goodIn_app (goodIn_app (goodIn_app (goodIn_app (goodIn_app (gg_wsX11_run_r1) (goodIn_app (gg_wsX11_run_r2) (gg_wsX11_run_r3))) gi_wsX110) gi_wsX80) gi_wsX100) gi_wsX00))
set_option maxRecDepth 20000 in
theorem gL_law_X11_run : GoodIn lw_tbl (wsV RL 179 RX11 yX11_run wsX11_run) := goodIn_app (goodIn_of _ (by decide +kernel)) ggL_law_X11_run
set_option maxRecDepth 20000 in
theorem gg_wsX12_run_r1 : GoodIn lw_tbl wsX12_run_r1 := (gi_r _ [(5, 30), (4, 15), (27, 8), (5, 3), (4, 38), (24, 14), (24, 15), (24, 16), (5, 35), (24, 17), (14, 23), (14, 24), (14, 25), (14, 26), (27, 9), (27, 10), (27, 11), (27, 12), (27, 13), (15, 24), (15, 25), (15, 26), (15, 27), (14, 27)] rfl (by decide +kernel))
set_option maxRecDepth 20000 in
theorem gg_wsX12_run_r2 : GoodIn lw_tbl wsX12_run_r2 := (gi_r _ [(14, 28), (14, 29), (14, 30), (15, 28), (15, 29), (15, 30), (15, 31), (4, 21), (15, 32), (15, 33), (15, 34), (15, 35), (15, 36), (15, 37), (15, 38), (15, 39), (4, 22), (16, 0), (16, 1), (16, 2), (16, 3), (16, 4), (16, 5), (16, 6)] rfl (by decide +kernel))
set_option maxRecDepth 20000 in
theorem gg_wsX12_run_r3 : GoodIn lw_tbl wsX12_run_r3 := (gi_r _ [(16, 7), (16, 8), (16, 9), (16, 10), (16, 11), (16, 12), (16, 13), (16, 14), (16, 15)] rfl (by decide +kernel))
set_option maxRecDepth 20000 in
theorem ggL_law_X12_run : GoodIn lw_tbl wsX12_run := (gi_c (gi_r _ [(27, 7)] rfl (by decide +kernel)) (goodIn_app (goodIn_app (gg_wsX12_run_r1) (goodIn_app (gg_wsX12_run_r2) (gg_wsX12_run_r3))) gi_wsX120))
set_option maxRecDepth 20000 in
theorem gL_law_X12_run : GoodIn lw_tbl (wsV RL 182 RX12 yX12_run wsX12_run) := goodIn_app (goodIn_of _ (by decide +kernel)) ggL_law_X12_run
set_option maxRecDepth 20000 in
theorem ggL_law_X11_refused : GoodIn lw_tbl wsX11_refused := (gi_c (gi_r _ [(27, 14)] rfl (by decide +kernel)) (goodIn_app (gi_r _ [(1, 4)] rfl (by decide +kernel)) gi_wsX110))
set_option maxRecDepth 20000 in
theorem gL_law_X11_refused : GoodIn lw_tbl (wsV RL 183 RX11 yX11_refused wsX11_refused) := goodIn_app (goodIn_of _ (by decide +kernel)) ggL_law_X11_refused
set_option maxRecDepth 20000 in
theorem ggL_law_X12_refused : GoodIn lw_tbl wsX12_refused := (gi_c (gi_r _ [(27, 15)] rfl (by decide +kernel)) (goodIn_app (gi_r _ [(5, 30), (5, 3)] rfl (by decide +kernel)) gi_wsX120))
set_option maxRecDepth 20000 in
theorem gL_law_X12_refused : GoodIn lw_tbl (wsV RL 186 RX12 yX12_refused wsX12_refused) := goodIn_app (goodIn_of _ (by decide +kernel)) ggL_law_X12_refused
set_option maxRecDepth 20000 in
theorem gg_wsX11_image_r1 : GoodIn lw_tbl wsX11_image_r1 := (gi_r _ [(0, 35), (27, 17), (27, 18), (27, 19), (27, 20), (13, 17), (27, 21), (0, 36), (0, 37), (27, 22), (27, 23), (27, 24), (0, 34), (27, 25), (3, 11), (3, 13), (27, 26), (27, 27), (27, 28), (1, 0), (27, 29), (3, 18), (3, 19), (3, 20)] rfl (by decide +kernel))
set_option maxRecDepth 20000 in
theorem gg_wsX11_image_r2 : GoodIn lw_tbl wsX11_image_r2 := (gi_r _ [(3, 21), (3, 23), (27, 30), (18, 11), (18, 12), (18, 13), (3, 24), (3, 25), (3, 26), (3, 27), (3, 28), (3, 29), (3, 30), (3, 31), (3, 32), (3, 33), (3, 34), (3, 38), (27, 31), (27, 32), (27, 33), (3, 37), (27, 34), (4, 3)] rfl (by decide +kernel))
set_option maxRecDepth 20000 in
theorem gg_wsX11_image_r3 : GoodIn lw_tbl wsX11_image_r3 := (gi_r _ [(27, 35), (4, 4), (4, 6), (4, 5), (4, 7), (27, 36), (27, 37), (27, 38), (2, 26), (27, 39), (2, 33), (28, 0), (2, 34), (2, 35), (2, 36)] rfl (by decide +kernel))
set_option maxRecDepth 20000 in
theorem ggL_law_X11_image : GoodIn lw_tbl wsX11_image := (gi_c (gi_r _ [(27, 16)] rfl (by decide +kernel)) (goodIn_app (goodIn_app (goodIn_app (goodIn_app (goodIn_app (goodIn_app (gg_wsX11_image_r1) (goodIn_app (gg_wsX11_image_r2) (gg_wsX11_image_r3))) gi_wsX110) gi_wsX80) gi_wsX100) gi_wsX50) gi_wsX00))
set_option maxRecDepth 20000 in
theorem gL_law_X11_image : GoodIn lw_tbl (wsV RL 187 RX11 yX11_image wsX11_image) := goodIn_app (goodIn_of _ (by decide +kernel)) ggL_law_X11_image
set_option maxRecDepth 20000 in
theorem ggL_law_X12_image : GoodIn lw_tbl wsX12_image := (gi_c (gi_r _ [(28, 1)] rfl (by decide +kernel)) (goodIn_app (gi_r _ [(5, 30), (5, 4), (4, 15), (5, 5), (4, 19), (5, 6), (12, 19), (12, 20), (5, 35), (12, 21)] rfl (by decide +kernel)) gi_wsX120))
set_option maxRecDepth 20000 in
theorem gL_law_X12_image : GoodIn lw_tbl (wsV RL 190 RX12 yX12_image wsX12_image) := goodIn_app (goodIn_of _ (by decide +kernel)) ggL_law_X12_image
set_option maxRecDepth 20000 in
theorem gg_wsX11_restore_r1 : GoodIn lw_tbl wsX11_restore_r1 := (gi_r _ [(27, 17), (0, 35), (27, 18), (27, 19), (27, 20), (13, 17), (27, 21), (0, 36), (0, 37), (27, 22), (27, 23), (27, 24), (0, 34), (27, 25), (3, 11), (3, 13), (27, 26), (27, 27), (27, 28), (1, 0), (27, 29), (3, 18), (3, 19), (3, 20)] rfl (by decide +kernel))
set_option maxRecDepth 20000 in
theorem gg_wsX11_restore_r2 : GoodIn lw_tbl wsX11_restore_r2 := (gi_r _ [(3, 21), (3, 23), (27, 30), (18, 11), (18, 12), (18, 13), (3, 24), (3, 25), (3, 26), (3, 27), (3, 28), (3, 29), (3, 30), (3, 31), (3, 32), (3, 33), (3, 34), (3, 38), (27, 31), (27, 32), (27, 33), (3, 37), (27, 34), (4, 3)] rfl (by decide +kernel))
set_option maxRecDepth 20000 in
theorem gg_wsX11_restore_r3 : GoodIn lw_tbl wsX11_restore_r3 := (gi_r _ [(27, 35), (4, 4), (4, 6), (4, 5), (4, 7), (27, 36), (27, 37), (27, 38), (2, 26), (27, 39), (2, 33), (28, 0), (2, 34), (2, 35), (2, 36)] rfl (by decide +kernel))
set_option maxRecDepth 20000 in
theorem ggL_law_X11_restore : GoodIn lw_tbl wsX11_restore := (gi_c (gi_r _ [(28, 2)] rfl (by decide +kernel)) (goodIn_app (goodIn_app (goodIn_app (goodIn_app (goodIn_app (goodIn_app (gg_wsX11_restore_r1) (goodIn_app (gg_wsX11_restore_r2) (gg_wsX11_restore_r3))) gi_wsX80) gi_wsX110) gi_wsX100) gi_wsX50) gi_wsX00))
set_option maxRecDepth 20000 in
theorem gL_law_X11_restore : GoodIn lw_tbl (wsV RL 191 RX11 yX11_restore wsX11_restore) := goodIn_app (goodIn_of _ (by decide +kernel)) ggL_law_X11_restore
set_option maxRecDepth 20000 in
theorem ggL_law_X12_restore : GoodIn lw_tbl wsX12_restore := (gi_c (gi_r _ [(28, 3)] rfl (by decide +kernel)) (goodIn_app (gi_r _ [(5, 30), (5, 6), (4, 15), (5, 4), (4, 19), (5, 5), (5, 18), (12, 19), (12, 20), (5, 35), (12, 21)] rfl (by decide +kernel)) gi_wsX120))
set_option maxRecDepth 20000 in
theorem gL_law_X12_restore : GoodIn lw_tbl (wsV RL 194 RX12 yX12_restore wsX12_restore) := goodIn_app (goodIn_of _ (by decide +kernel)) ggL_law_X12_restore
set_option maxRecDepth 20000 in
theorem ggL_law_X11_count : GoodIn lw_tbl wsX11_count := (gi_c (gi_r _ [(28, 4)] rfl (by decide +kernel)) (goodIn_app (goodIn_app (goodIn_app (goodIn_app (goodIn_app (gi_r _ [(0, 35), (6, 5), (21, 2), (17, 10), (22, 22), (6, 6), (16, 17), (0, 7), (5, 20)] rfl (by decide +kernel)) gi_wsX110) gi_wsX80) gi_wsX100) gi_wsX00) gi_wsX90))
set_option maxRecDepth 20000 in
theorem gL_law_X11_count : GoodIn lw_tbl (wsV RL 195 RX11 yX11_count wsX11_count) := goodIn_app (goodIn_of _ (by decide +kernel)) ggL_law_X11_count
set_option maxRecDepth 20000 in
theorem ggL_law_X12_count : GoodIn lw_tbl wsX12_count := (gi_c (gi_r _ [(28, 5)] rfl (by decide +kernel)) (goodIn_app (gi_r _ [(5, 30), (4, 15), (5, 31), (12, 19), (12, 20), (5, 35), (12, 21)] rfl (by decide +kernel)) gi_wsX120))
set_option maxRecDepth 20000 in
theorem gL_law_X12_count : GoodIn lw_tbl (wsV RL 198 RX12 yX12_count wsX12_count) := goodIn_app (goodIn_of _ (by decide +kernel)) ggL_law_X12_count
