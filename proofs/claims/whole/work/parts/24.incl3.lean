set_option maxRecDepth 20000 in
theorem ggL_law_X12_one : GoodIn lw_tbl wsX12_one := goodIn_p _ [1784, 1591, 1552, 1687, 1788, 1792, 1607, 1699, 1559, 1679, 1796, 1800, 1804] (by decide +kernel) (by decide +kernel)
set_option maxRecDepth 20000 in
theorem gL_law_X12_one : GoodIn lw_tbl (wsV RL 141 RX12 yX12_one wsX12_one) := goodIn_app (goodIn_of _ (by decide +kernel)) ggL_law_X12_one
set_option maxRecDepth 20000 in
theorem ggL_law_X11_oneBy : GoodIn lw_tbl wsX11_oneBy := goodIn_p _ [1064, 855, 884, 888, 1040, 758, 1043, 385, 908, 876, 1050, 1054, 615] (by decide +kernel) (by decide +kernel)
set_option maxRecDepth 20000 in
theorem gL_law_X11_oneBy : GoodIn lw_tbl (wsV RL 142 RX11 yX11_oneBy wsX11_oneBy) := goodIn_app (goodIn_of _ (by decide +kernel)) ggL_law_X11_oneBy
set_option maxRecDepth 20000 in
theorem ggL_law_X12_oneBy : GoodIn lw_tbl wsX12_oneBy := goodIn_p _ [1808, 1591, 1552, 1687, 1788, 1792, 1607, 1699, 1559, 1679, 1796, 1800, 1804] (by decide +kernel) (by decide +kernel)
set_option maxRecDepth 20000 in
theorem gL_law_X12_oneBy : GoodIn lw_tbl (wsV RL 146 RX12 yX12_oneBy wsX12_oneBy) := goodIn_app (goodIn_of _ (by decide +kernel)) ggL_law_X12_oneBy
set_option maxRecDepth 20000 in
theorem ggL_law_X11_lawful : GoodIn lw_tbl wsX11_lawful := goodIn_p _ [1068, 1072, 912, 782, 1078, 798, 802, 806, 810, 814, 818, 822, 830] (by decide +kernel) (by decide +kernel)
set_option maxRecDepth 20000 in
theorem gL_law_X11_lawful : GoodIn lw_tbl (wsV RL 147 RX11 yX11_lawful wsX11_lawful) := goodIn_app (goodIn_of _ (by decide +kernel)) ggL_law_X11_lawful
set_option maxRecDepth 20000 in
theorem ggL_law_X12_lawful : GoodIn lw_tbl wsX12_lawful := goodIn_p _ [1816, 1820, 1607, 1824, 1619, 1611, 1623, 1627, 1631, 1635, 1639, 1643, 1647, 1828] (by decide +kernel) (by decide +kernel)
set_option maxRecDepth 20000 in
theorem gL_law_X12_lawful : GoodIn lw_tbl (wsV RL 150 RX12 yX12_lawful wsX12_lawful) := goodIn_app (goodIn_of _ (by decide +kernel)) ggL_law_X12_lawful
set_option maxRecDepth 20000 in
theorem ggL_law_X11_lawfulBy : GoodIn lw_tbl wsX11_lawfulBy := goodIn_p _ [1085] (by decide +kernel) (by decide +kernel)
set_option maxRecDepth 20000 in
theorem gL_law_X11_lawfulBy : GoodIn lw_tbl (wsV RL 151 RX11 yX11_lawfulBy wsX11_lawfulBy) := goodIn_app (goodIn_of _ (by decide +kernel)) ggL_law_X11_lawfulBy
set_option maxRecDepth 20000 in
theorem ggL_law_X12_lawfulBy : GoodIn lw_tbl wsX12_lawfulBy := goodIn_p _ [1832, 1552] (by decide +kernel) (by decide +kernel)
set_option maxRecDepth 20000 in
theorem gL_law_X12_lawfulBy : GoodIn lw_tbl (wsV RL 154 RX12 yX12_lawfulBy wsX12_lawfulBy) := goodIn_app (goodIn_of _ (by decide +kernel)) ggL_law_X12_lawfulBy
set_option maxRecDepth 20000 in
theorem ggL_law_X11_oneIs : GoodIn lw_tbl wsX11_oneIs := goodIn_p _ [1089, 858] (by decide +kernel) (by decide +kernel)
set_option maxRecDepth 20000 in
theorem gL_law_X11_oneIs : GoodIn lw_tbl (wsV RL 155 RX11 yX11_oneIs wsX11_oneIs) := goodIn_app (goodIn_of _ (by decide +kernel)) ggL_law_X11_oneIs
set_option maxRecDepth 20000 in
theorem ggL_law_X12_oneIs : GoodIn lw_tbl wsX12_oneIs := goodIn_p _ [1812, 1552] (by decide +kernel) (by decide +kernel)
set_option maxRecDepth 20000 in
theorem gL_law_X12_oneIs : GoodIn lw_tbl (wsV RL 158 RX12 yX12_oneIs wsX12_oneIs) := goodIn_app (goodIn_of _ (by decide +kernel)) ggL_law_X12_oneIs
set_option maxRecDepth 20000 in
theorem ggL_law_X11_fewest : GoodIn lw_tbl wsX11_fewest := goodIn_p _ [1093, 1097, 888, 1100, 1107] (by decide +kernel) (by decide +kernel)
set_option maxRecDepth 20000 in
theorem gL_law_X11_fewest : GoodIn lw_tbl (wsV RL 159 RX11 yX11_fewest wsX11_fewest) := goodIn_app (goodIn_of _ (by decide +kernel)) ggL_law_X11_fewest
set_option maxRecDepth 20000 in
theorem ggL_law_X12_fewest : GoodIn lw_tbl wsX12_fewest := goodIn_p _ [1836, 1839, 1843, 1607, 1559] (by decide +kernel) (by decide +kernel)
set_option maxRecDepth 20000 in
theorem gL_law_X12_fewest : GoodIn lw_tbl (wsV RL 162 RX12 yX12_fewest wsX12_fewest) := goodIn_app (goodIn_of _ (by decide +kernel)) ggL_law_X12_fewest
set_option maxRecDepth 20000 in
theorem ggL_law_X11_meet : GoodIn lw_tbl wsX11_meet := goodIn_p _ [1111, 1115, 385, 1120, 588, 1124, 1128, 1132] (by decide +kernel) (by decide +kernel)
set_option maxRecDepth 20000 in
theorem gL_law_X11_meet : GoodIn lw_tbl (wsV RL 163 RX11 yX11_meet wsX11_meet) := goodIn_app (goodIn_of _ (by decide +kernel)) ggL_law_X11_meet
set_option maxRecDepth 20000 in
theorem ggL_law_X12_meet : GoodIn lw_tbl wsX12_meet := goodIn_p _ [1847, 1851, 1507, 1855, 1591, 1552, 1859, 1559] (by decide +kernel) (by decide +kernel)
set_option maxRecDepth 20000 in
theorem gL_law_X12_meet : GoodIn lw_tbl (wsV RL 166 RX12 yX12_meet wsX12_meet) := goodIn_app (goodIn_of _ (by decide +kernel)) ggL_law_X12_meet
set_option maxRecDepth 20000 in
theorem ggL_law_X11_must : GoodIn lw_tbl wsX11_must := goodIn_p _ [1136, 1115, 385, 1120, 588, 1140, 1124, 1128, 1132] (by decide +kernel) (by decide +kernel)
set_option maxRecDepth 20000 in
theorem gL_law_X11_must : GoodIn lw_tbl (wsV RL 167 RX11 yX11_must wsX11_must) := goodIn_app (goodIn_of _ (by decide +kernel)) ggL_law_X11_must
set_option maxRecDepth 20000 in
theorem ggL_law_X12_must : GoodIn lw_tbl wsX12_must := goodIn_p _ [1863, 1851, 1507, 1855, 1591, 1552, 1859, 1559] (by decide +kernel) (by decide +kernel)
set_option maxRecDepth 20000 in
theorem gL_law_X12_must : GoodIn lw_tbl (wsV RL 170 RX12 yX12_must wsX12_must) := goodIn_app (goodIn_of _ (by decide +kernel)) ggL_law_X12_must
set_option maxRecDepth 20000 in
theorem ggL_law_X11_wrongly : GoodIn lw_tbl wsX11_wrongly := goodIn_p _ [1145, 1115, 385, 1120, 588, 888, 1149, 1153, 1100] (by decide +kernel) (by decide +kernel)
set_option maxRecDepth 20000 in
theorem gL_law_X11_wrongly : GoodIn lw_tbl (wsV RL 171 RX11 yX11_wrongly wsX11_wrongly) := goodIn_app (goodIn_of _ (by decide +kernel)) ggL_law_X11_wrongly
set_option maxRecDepth 20000 in
theorem ggL_law_X12_wrongly : GoodIn lw_tbl wsX12_wrongly := goodIn_p _ [1867, 1851, 1507, 1855, 1591, 1552, 1859, 1559, 1839] (by decide +kernel) (by decide +kernel)
set_option maxRecDepth 20000 in
theorem gL_law_X12_wrongly : GoodIn lw_tbl (wsV RL 174 RX12 yX12_wrongly wsX12_wrongly) := goodIn_app (goodIn_of _ (by decide +kernel)) ggL_law_X12_wrongly
set_option maxRecDepth 20000 in
theorem ggL_law_X11_between : GoodIn lw_tbl wsX11_between := goodIn_p _ [1158, 858, 1162, 814, 822, 806, 810, 1100] (by decide +kernel) (by decide +kernel)
set_option maxRecDepth 20000 in
theorem gL_law_X11_between : GoodIn lw_tbl (wsV RL 175 RX11 yX11_between wsX11_between) := goodIn_app (goodIn_of _ (by decide +kernel)) ggL_law_X11_between
set_option maxRecDepth 20000 in
theorem ggL_law_X12_between : GoodIn lw_tbl wsX12_between := goodIn_p _ [1871, 1552, 1623, 1607, 1627, 1631, 1635, 1639, 1611, 1839] (by decide +kernel) (by decide +kernel)
set_option maxRecDepth 20000 in
theorem gL_law_X12_between : GoodIn lw_tbl (wsV RL 178 RX12 yX12_between wsX12_between) := goodIn_app (goodIn_of _ (by decide +kernel)) ggL_law_X12_between
set_option maxRecDepth 20000 in
theorem ggL_law_X11_run : GoodIn lw_tbl wsX11_run := goodIn_p _ [1169, 782, 798, 802, 806, 810, 814, 818, 822] (by decide +kernel) (by decide +kernel)
set_option maxRecDepth 20000 in
theorem gL_law_X11_run : GoodIn lw_tbl (wsV RL 179 RX11 yX11_run wsX11_run) := goodIn_app (goodIn_of _ (by decide +kernel)) ggL_law_X11_run
set_option maxRecDepth 20000 in
theorem ggL_law_X12_run : GoodIn lw_tbl wsX12_run := goodIn_p _ [1875, 1820, 1607, 1879, 1619, 1611, 1623, 1627, 1631, 1635, 1639, 1643, 1647] (by decide +kernel) (by decide +kernel)
set_option maxRecDepth 20000 in
theorem gL_law_X12_run : GoodIn lw_tbl (wsV RL 182 RX12 yX12_run wsX12_run) := goodIn_app (goodIn_of _ (by decide +kernel)) ggL_law_X12_run
set_option maxRecDepth 20000 in
theorem ggL_law_X11_refused : GoodIn lw_tbl wsX11_refused := goodIn_p _ [1174] (by decide +kernel) (by decide +kernel)
set_option maxRecDepth 20000 in
theorem gL_law_X11_refused : GoodIn lw_tbl (wsV RL 183 RX11 yX11_refused wsX11_refused) := goodIn_app (goodIn_of _ (by decide +kernel)) ggL_law_X11_refused
set_option maxRecDepth 20000 in
theorem ggL_law_X12_refused : GoodIn lw_tbl wsX12_refused := goodIn_p _ [1884] (by decide +kernel) (by decide +kernel)
set_option maxRecDepth 20000 in
theorem gL_law_X12_refused : GoodIn lw_tbl (wsV RL 186 RX12 yX12_refused wsX12_refused) := goodIn_app (goodIn_of _ (by decide +kernel)) ggL_law_X12_refused
set_option maxRecDepth 20000 in
theorem ggL_law_X11_image : GoodIn lw_tbl wsX11_image := goodIn_p _ [1178, 1182, 1186, 1190, 1195, 1200] (by decide +kernel) (by decide +kernel)
set_option maxRecDepth 20000 in
theorem gL_law_X11_image : GoodIn lw_tbl (wsV RL 187 RX11 yX11_image wsX11_image) := goodIn_app (goodIn_of _ (by decide +kernel)) ggL_law_X11_image
set_option maxRecDepth 20000 in
theorem ggL_law_X12_image : GoodIn lw_tbl wsX12_image := goodIn_p _ [1888, 1552] (by decide +kernel) (by decide +kernel)
set_option maxRecDepth 20000 in
theorem gL_law_X12_image : GoodIn lw_tbl (wsV RL 190 RX12 yX12_image wsX12_image) := goodIn_app (goodIn_of _ (by decide +kernel)) ggL_law_X12_image
set_option maxRecDepth 20000 in
theorem ggL_law_X11_restore : GoodIn lw_tbl wsX11_restore := goodIn_p _ [1205, 1182, 1186, 1190, 1195, 1200] (by decide +kernel) (by decide +kernel)
set_option maxRecDepth 20000 in
theorem gL_law_X11_restore : GoodIn lw_tbl (wsV RL 191 RX11 yX11_restore wsX11_restore) := goodIn_app (goodIn_of _ (by decide +kernel)) ggL_law_X11_restore
set_option maxRecDepth 20000 in
theorem ggL_law_X12_restore : GoodIn lw_tbl wsX12_restore := goodIn_p _ [1892, 1552] (by decide +kernel) (by decide +kernel)
set_option maxRecDepth 20000 in
theorem gL_law_X12_restore : GoodIn lw_tbl (wsV RL 194 RX12 yX12_restore wsX12_restore) := goodIn_app (goodIn_of _ (by decide +kernel)) ggL_law_X12_restore
set_option maxRecDepth 20000 in
theorem ggL_law_X11_count : GoodIn lw_tbl wsX11_count := goodIn_p _ [1209] (by decide +kernel) (by decide +kernel)
set_option maxRecDepth 20000 in
theorem gL_law_X11_count : GoodIn lw_tbl (wsV RL 195 RX11 yX11_count wsX11_count) := goodIn_app (goodIn_of _ (by decide +kernel)) ggL_law_X11_count
set_option maxRecDepth 20000 in
theorem ggL_law_X12_count : GoodIn lw_tbl wsX12_count := goodIn_p _ [1896, 1552] (by decide +kernel) (by decide +kernel)
set_option maxRecDepth 20000 in
theorem gL_law_X12_count : GoodIn lw_tbl (wsV RL 198 RX12 yX12_count wsX12_count) := goodIn_app (goodIn_of _ (by decide +kernel)) ggL_law_X12_count
