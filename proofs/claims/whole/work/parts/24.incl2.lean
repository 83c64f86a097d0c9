set_option maxRecDepth 20000 in
theorem ggL_law_X11_gain : GoodIn lw_tbl wsX11_gain := goodIn_p _ [880, 884, 888, 892, 896, 903, 385, 908, 912, 916, 920, 924, 928, 933, 937, 941] (by decide +kernel) (by decide +kernel)
set_option maxRecDepth 20000 in
theorem gL_law_X11_gain : GoodIn lw_tbl (wsV RL 82 RX11 yX11_gain wsX11_gain) := goodIn_app (goodIn_of _ (by decide +kernel)) ggL_law_X11_gain
set_option maxRecDepth 20000 in
theorem ggL_law_X12_gain : GoodIn lw_tbl wsX12_gain := goodIn_p _ [1683, 1687, 1552, 1691, 1695, 1607, 1699, 1559, 1627, 1639, 1703, 1707, 1711] (by decide +kernel) (by decide +kernel)
set_option maxRecDepth 20000 in
theorem gL_law_X12_gain : GoodIn lw_tbl (wsV RL 85 RX12 yX12_gain wsX12_gain) := goodIn_app (goodIn_of _ (by decide +kernel)) ggL_law_X12_gain
set_option maxRecDepth 20000 in
theorem ggL_law_X11_best : GoodIn lw_tbl wsX11_best := goodIn_p _ [945, 949, 888, 892, 896, 903, 385, 908, 912, 916, 920, 924, 928, 933, 937, 941] (by decide +kernel) (by decide +kernel)
set_option maxRecDepth 20000 in
theorem gL_law_X11_best : GoodIn lw_tbl (wsV RL 86 RX11 yX11_best wsX11_best) := goodIn_app (goodIn_of _ (by decide +kernel)) ggL_law_X11_best
set_option maxRecDepth 20000 in
theorem ggL_law_X12_best : GoodIn lw_tbl wsX12_best := goodIn_p _ [1716, 1720, 1724, 1691, 1695, 1607, 1699, 1559, 1627, 1639, 1703, 1707, 1711] (by decide +kernel) (by decide +kernel)
set_option maxRecDepth 20000 in
theorem gL_law_X12_best : GoodIn lw_tbl (wsV RL 89 RX12 yX12_best wsX12_best) := goodIn_app (goodIn_of _ (by decide +kernel)) ggL_law_X12_best
set_option maxRecDepth 20000 in
theorem ggL_law_X11_bestParts : GoodIn lw_tbl wsX11_bestParts := goodIn_p _ [954, 949, 888, 892, 896, 903, 385, 908, 912, 916, 920, 924, 928, 933, 937, 941] (by decide +kernel) (by decide +kernel)
set_option maxRecDepth 20000 in
theorem gL_law_X11_bestParts : GoodIn lw_tbl (wsV RL 90 RX11 yX11_bestParts wsX11_bestParts) := goodIn_app (goodIn_of _ (by decide +kernel)) ggL_law_X11_bestParts
set_option maxRecDepth 20000 in
theorem ggL_law_X12_bestParts : GoodIn lw_tbl wsX12_bestParts := goodIn_p _ [1728, 1720, 1724, 1691, 1695, 1607, 1699, 1559, 1627, 1639, 1703, 1707, 1711] (by decide +kernel) (by decide +kernel)
set_option maxRecDepth 20000 in
theorem gL_law_X12_bestParts : GoodIn lw_tbl (wsV RL 93 RX12 yX12_bestParts wsX12_bestParts) := goodIn_app (goodIn_of _ (by decide +kernel)) ggL_law_X12_bestParts
set_option maxRecDepth 20000 in
theorem ggL_law_X11_goes : GoodIn lw_tbl wsX11_goes := goodIn_p _ [958, 884, 888, 908] (by decide +kernel) (by decide +kernel)
set_option maxRecDepth 20000 in
theorem gL_law_X11_goes : GoodIn lw_tbl (wsV RL 94 RX11 yX11_goes wsX11_goes) := goodIn_app (goodIn_of _ (by decide +kernel)) ggL_law_X11_goes
set_option maxRecDepth 20000 in
theorem ggL_law_X12_goes : GoodIn lw_tbl wsX12_goes := goodIn_p _ [1732, 1687, 1552, 1699, 1607, 1559] (by decide +kernel) (by decide +kernel)
set_option maxRecDepth 20000 in
theorem gL_law_X12_goes : GoodIn lw_tbl (wsV RL 97 RX12 yX12_goes wsX12_goes) := goodIn_app (goodIn_of _ (by decide +kernel)) ggL_law_X12_goes
set_option maxRecDepth 20000 in
theorem ggL_law_X11_above : GoodIn lw_tbl wsX11_above := goodIn_p _ [963, 888, 892, 896, 903, 385, 908, 912, 916, 920, 924, 928, 933, 937, 941] (by decide +kernel) (by decide +kernel)
set_option maxRecDepth 20000 in
theorem gL_law_X11_above : GoodIn lw_tbl (wsV RL 98 RX11 yX11_above wsX11_above) := goodIn_app (goodIn_of _ (by decide +kernel)) ggL_law_X11_above
set_option maxRecDepth 20000 in
theorem ggL_law_X12_above : GoodIn lw_tbl wsX12_above := goodIn_p _ [1736, 1724, 1691, 1695, 1607, 1699, 1559, 1627, 1639, 1703, 1707, 1711] (by decide +kernel) (by decide +kernel)
set_option maxRecDepth 20000 in
theorem gL_law_X12_above : GoodIn lw_tbl (wsV RL 101 RX12 yX12_above wsX12_above) := goodIn_app (goodIn_of _ (by decide +kernel)) ggL_law_X12_above
set_option maxRecDepth 20000 in
theorem ggL_law_X11_price : GoodIn lw_tbl wsX11_price := goodIn_p _ [967, 855, 884, 888, 896, 903, 385, 908, 912, 916, 920, 924, 928, 933, 937, 941, 892] (by decide +kernel) (by decide +kernel)
set_option maxRecDepth 20000 in
theorem gL_law_X11_price : GoodIn lw_tbl (wsV RL 102 RX11 yX11_price wsX11_price) := goodIn_app (goodIn_of _ (by decide +kernel)) ggL_law_X11_price
set_option maxRecDepth 20000 in
theorem ggL_law_X12_price : GoodIn lw_tbl wsX12_price := goodIn_p _ [1740, 1591, 1552, 1687, 1691, 1695, 1607, 1699, 1559, 1627, 1639, 1703, 1707, 1711] (by decide +kernel) (by decide +kernel)
set_option maxRecDepth 20000 in
theorem gL_law_X12_price : GoodIn lw_tbl (wsV RL 105 RX12 yX12_price wsX12_price) := goodIn_app (goodIn_of _ (by decide +kernel)) ggL_law_X12_price
set_option maxRecDepth 20000 in
theorem ggL_law_X11_loss : GoodIn lw_tbl wsX11_loss := goodIn_p _ [972, 855, 884, 888, 892, 896, 903, 385, 908, 912, 916, 920, 924, 928, 933, 937, 941] (by decide +kernel) (by decide +kernel)
set_option maxRecDepth 20000 in
theorem gL_law_X11_loss : GoodIn lw_tbl (wsV RL 106 RX11 yX11_loss wsX11_loss) := goodIn_app (goodIn_of _ (by decide +kernel)) ggL_law_X11_loss
set_option maxRecDepth 20000 in
theorem ggL_law_X12_loss : GoodIn lw_tbl wsX12_loss := goodIn_p _ [1744, 1591, 1552, 1687, 1691, 1695, 1607, 1699, 1559, 1627, 1639, 1703, 1707, 1711] (by decide +kernel) (by decide +kernel)
set_option maxRecDepth 20000 in
theorem gL_law_X12_loss : GoodIn lw_tbl (wsV RL 109 RX12 yX12_loss wsX12_loss) := goodIn_app (goodIn_of _ (by decide +kernel)) ggL_law_X12_loss
set_option maxRecDepth 20000 in
theorem ggL_law_X11_climb : GoodIn lw_tbl wsX11_climb := goodIn_p _ [976, 884, 888, 980, 892, 896, 903, 385, 908, 912, 916, 920, 924, 928, 933, 937, 941] (by decide +kernel) (by decide +kernel)
set_option maxRecDepth 20000 in
theorem gL_law_X11_climb : GoodIn lw_tbl (wsV RL 110 RX11 yX11_climb wsX11_climb) := goodIn_app (goodIn_of _ (by decide +kernel)) ggL_law_X11_climb
set_option maxRecDepth 20000 in
theorem ggL_law_X12_climb : GoodIn lw_tbl wsX12_climb := goodIn_p _ [1748, 1687, 1552, 1724, 1691, 1695, 1607, 1699, 1559, 1627, 1639, 1703, 1707, 1711] (by decide +kernel) (by decide +kernel)
set_option maxRecDepth 20000 in
theorem gL_law_X12_climb : GoodIn lw_tbl (wsV RL 113 RX12 yX12_climb wsX12_climb) := goodIn_app (goodIn_of _ (by decide +kernel)) ggL_law_X12_climb
set_option maxRecDepth 20000 in
theorem ggL_law_X11_climbed : GoodIn lw_tbl wsX11_climbed := goodIn_p _ [984] (by decide +kernel) (by decide +kernel)
set_option maxRecDepth 20000 in
theorem gL_law_X11_climbed : GoodIn lw_tbl (wsV RL 114 RX11 yX11_climbed wsX11_climbed) := goodIn_app (goodIn_of _ (by decide +kernel)) ggL_law_X11_climbed
set_option maxRecDepth 20000 in
theorem ggL_law_X12_climbed : GoodIn lw_tbl wsX12_climbed := goodIn_p _ [1752] (by decide +kernel) (by decide +kernel)
set_option maxRecDepth 20000 in
theorem gL_law_X12_climbed : GoodIn lw_tbl (wsV RL 117 RX12 yX12_climbed wsX12_climbed) := goodIn_app (goodIn_of _ (by decide +kernel)) ggL_law_X12_climbed
set_option maxRecDepth 20000 in
theorem ggL_law_X11_told : GoodIn lw_tbl wsX11_told := goodIn_p _ [988] (by decide +kernel) (by decide +kernel)
set_option maxRecDepth 20000 in
theorem gL_law_X11_told : GoodIn lw_tbl (wsV RL 118 RX11 yX11_told wsX11_told) := goodIn_app (goodIn_of _ (by decide +kernel)) ggL_law_X11_told
set_option maxRecDepth 20000 in
theorem ggL_law_X12_told : GoodIn lw_tbl wsX12_told := goodIn_p _ [1756] (by decide +kernel) (by decide +kernel)
set_option maxRecDepth 20000 in
theorem gL_law_X12_told : GoodIn lw_tbl (wsV RL 121 RX12 yX12_told wsX12_told) := goodIn_app (goodIn_of _ (by decide +kernel)) ggL_law_X12_told
set_option maxRecDepth 20000 in
theorem ggL_law_X11_own : GoodIn lw_tbl wsX11_own := goodIn_p _ [992, 855, 884, 888, 996, 822, 908, 876] (by decide +kernel) (by decide +kernel)
set_option maxRecDepth 20000 in
theorem gL_law_X11_own : GoodIn lw_tbl (wsV RL 122 RX11 yX11_own wsX11_own) := goodIn_app (goodIn_of _ (by decide +kernel)) ggL_law_X11_own
set_option maxRecDepth 20000 in
theorem ggL_law_X12_own : GoodIn lw_tbl wsX12_own := goodIn_p _ [1760, 1591, 1552, 1687, 1764, 1699, 1607, 1559, 1679] (by decide +kernel) (by decide +kernel)
set_option maxRecDepth 20000 in
theorem gL_law_X12_own : GoodIn lw_tbl (wsV RL 125 RX12 yX12_own wsX12_own) := goodIn_app (goodIn_of _ (by decide +kernel)) ggL_law_X12_own
set_option maxRecDepth 20000 in
theorem ggL_law_X11_rests : GoodIn lw_tbl wsX11_rests := goodIn_p _ [1003, 1006, 888, 1010, 1014, 996, 822, 908, 876] (by decide +kernel) (by decide +kernel)
set_option maxRecDepth 20000 in
theorem gL_law_X11_rests : GoodIn lw_tbl (wsV RL 126 RX11 yX11_rests wsX11_rests) := goodIn_app (goodIn_of _ (by decide +kernel)) ggL_law_X11_rests
set_option maxRecDepth 20000 in
theorem ggL_law_X12_rests : GoodIn lw_tbl wsX12_rests := goodIn_p _ [1768, 1772, 1764, 1699, 1607, 1559, 1679] (by decide +kernel) (by decide +kernel)
set_option maxRecDepth 20000 in
theorem gL_law_X12_rests : GoodIn lw_tbl (wsV RL 129 RX12 yX12_rests wsX12_rests) := goodIn_app (goodIn_of _ (by decide +kernel)) ggL_law_X12_rests
set_option maxRecDepth 20000 in
theorem ggL_law_X11_rounds : GoodIn lw_tbl wsX11_rounds := goodIn_p _ [1019, 884, 888, 1023, 385, 1027, 1014, 996, 822, 908, 876] (by decide +kernel) (by decide +kernel)
set_option maxRecDepth 20000 in
theorem gL_law_X11_rounds : GoodIn lw_tbl (wsV RL 130 RX11 yX11_rounds wsX11_rounds) := goodIn_app (goodIn_of _ (by decide +kernel)) ggL_law_X11_rounds
set_option maxRecDepth 20000 in
theorem ggL_law_X12_rounds : GoodIn lw_tbl wsX12_rounds := goodIn_p _ [1776, 1687, 1552, 1764, 1699, 1607, 1559, 1679] (by decide +kernel) (by decide +kernel)
set_option maxRecDepth 20000 in
theorem gL_law_X12_rounds : GoodIn lw_tbl (wsV RL 133 RX12 yX12_rounds wsX12_rounds) := goodIn_app (goodIn_of _ (by decide +kernel)) ggL_law_X12_rounds
set_option maxRecDepth 20000 in
theorem ggL_law_X11_ended : GoodIn lw_tbl wsX11_ended := goodIn_p _ [1032] (by decide +kernel) (by decide +kernel)
set_option maxRecDepth 20000 in
theorem gL_law_X11_ended : GoodIn lw_tbl (wsV RL 134 RX11 yX11_ended wsX11_ended) := goodIn_app (goodIn_of _ (by decide +kernel)) ggL_law_X11_ended
set_option maxRecDepth 20000 in
theorem ggL_law_X12_ended : GoodIn lw_tbl wsX12_ended := goodIn_p _ [1780, 1552] (by decide +kernel) (by decide +kernel)
set_option maxRecDepth 20000 in
theorem gL_law_X12_ended : GoodIn lw_tbl (wsV RL 137 RX12 yX12_ended wsX12_ended) := goodIn_app (goodIn_of _ (by decide +kernel)) ggL_law_X12_ended
set_option maxRecDepth 20000 in
theorem ggL_law_X11_one : GoodIn lw_tbl wsX11_one := goodIn_p _ [1036, 855, 884, 888, 1040, 758, 1043, 385, 908, 876, 1050, 1054, 615, 1060] (by decide +kernel) (by decide +kernel)
set_option maxRecDepth 20000 in
theorem gL_law_X11_one : GoodIn lw_tbl (wsV RL 138 RX11 yX11_one wsX11_one) := goodIn_app (goodIn_of _ (by decide +kernel)) ggL_law_X11_one
