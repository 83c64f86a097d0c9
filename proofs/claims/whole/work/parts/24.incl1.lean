set_option maxRecDepth 20000 in
theorem ggL_law_X11_init : GoodIn lw_tbl wsX11_init := goodIn_p _ [124, 127, 132, 172, 212, 246, 268, 296, 302, 340, 369, 375, 381, 385] (by decide +kernel) (by decide +kernel)
set_option maxRecDepth 20000 in
theorem gL_law_X11_init : GoodIn lw_tbl (wsX11_init) := ggL_law_X11_init
set_option maxRecDepth 20000 in
theorem ggL_law_X12_init : GoodIn lw_tbl wsX12_init := goodIn_p _ [1311, 127] (by decide +kernel) (by decide +kernel)
set_option maxRecDepth 20000 in
theorem gL_law_X12_init : GoodIn lw_tbl (wsX12_init) := ggL_law_X12_init
set_option maxRecDepth 20000 in
theorem ggL_law_X11_feed : GoodIn lw_tbl wsX11_feed := goodIn_p _ [572, 576, 580] (by decide +kernel) (by decide +kernel)
set_option maxRecDepth 20000 in
theorem gL_law_X11_feed : GoodIn lw_tbl (wsV RL 22 RX11 yX11_feed wsX11_feed) := goodIn_app (goodIn_of _ (by decide +kernel)) ggL_law_X11_feed
set_option maxRecDepth 20000 in
theorem ggL_law_X12_feed : GoodIn lw_tbl wsX12_feed := goodIn_p _ [1298, 1303] (by decide +kernel) (by decide +kernel)
set_option maxRecDepth 20000 in
theorem gL_law_X12_feed : GoodIn lw_tbl (wsV RL 26 RX12 yX12_feed wsX12_feed) := goodIn_app (goodIn_of _ (by decide +kernel)) ggL_law_X12_feed
set_option maxRecDepth 20000 in
theorem ggL_law_X11_end : GoodIn lw_tbl wsX11_end := goodIn_p _ [584, 588] (by decide +kernel) (by decide +kernel)
set_option maxRecDepth 20000 in
theorem gL_law_X11_end : GoodIn lw_tbl (wsV RL 27 RX11 yX11_end wsX11_end) := goodIn_app (goodIn_of _ (by decide +kernel)) ggL_law_X11_end
set_option maxRecDepth 20000 in
theorem ggL_law_X12_end : GoodIn lw_tbl wsX12_end := goodIn_p _ [1307] (by decide +kernel) (by decide +kernel)
set_option maxRecDepth 20000 in
theorem gL_law_X12_end : GoodIn lw_tbl (wsV RL 31 RX12 yX12_end wsX12_end) := goodIn_app (goodIn_of _ (by decide +kernel)) ggL_law_X12_end
set_option maxRecDepth 20000 in
theorem ggL_law_X11_town : GoodIn lw_tbl wsX11_town := goodIn_p _ [592, 596, 600, 604, 385, 608, 612, 615, 619, 623, 628, 632, 636, 640, 645, 649, 653, 659, 663, 666, 669, 674, 677, 680, 683, 687, 697, 701, 705, 721, 725, 729, 733, 737, 741, 746, 750, 755, 758, 763, 769, 776, 588, 782] (by decide +kernel) (by decide +kernel)
set_option maxRecDepth 20000 in
theorem gL_law_X11_town : GoodIn lw_tbl (wsV RL 32 RX11 yX11_town wsX11_town) := goodIn_app (goodIn_of _ (by decide +kernel)) ggL_law_X11_town
set_option maxRecDepth 20000 in
theorem ggL_law_X12_town : GoodIn lw_tbl wsX12_town := goodIn_p _ [1503, 1507, 1511, 1515, 1518, 1521, 1525, 1529, 1533, 1537, 1541, 1545, 1549, 1552, 1556, 1559, 1563, 1567, 1571, 1575, 1579] (by decide +kernel) (by decide +kernel)
set_option maxRecDepth 20000 in
theorem gL_law_X12_town : GoodIn lw_tbl (wsV RL 36 RX12 yX12_town wsX12_town) := goodIn_app (goodIn_of _ (by decide +kernel)) ggL_law_X12_town
set_option maxRecDepth 20000 in
theorem ggL_law_X11_fault : GoodIn lw_tbl wsX11_fault := goodIn_p _ [786] (by decide +kernel) (by decide +kernel)
set_option maxRecDepth 20000 in
theorem gL_law_X11_fault : GoodIn lw_tbl (wsV RL 37 RX11 yX11_fault wsX11_fault) := goodIn_app (goodIn_of _ (by decide +kernel)) ggL_law_X11_fault
set_option maxRecDepth 20000 in
theorem ggL_law_X12_fault : GoodIn lw_tbl wsX12_fault := goodIn_p _ [1583] (by decide +kernel) (by decide +kernel)
set_option maxRecDepth 20000 in
theorem gL_law_X12_fault : GoodIn lw_tbl (wsV RL 40 RX12 yX12_fault wsX12_fault) := goodIn_app (goodIn_of _ (by decide +kernel)) ggL_law_X12_fault
set_option maxRecDepth 20000 in
theorem ggL_law_L_person : GoodIn lw_tbl wsL_person := goodIn_p _ [1217, 855] (by decide +kernel) (by decide +kernel)
set_option maxRecDepth 20000 in
theorem gL_law_L_person : GoodIn lw_tbl (va_wsS RL 41 yL_person wsL_person) := goodIn_app (goodIn_of _ (by decide +kernel)) ggL_law_L_person
set_option maxRecDepth 20000 in
theorem ggL_law_X12_person : GoodIn lw_tbl wsX12_person := goodIn_p _ [1587, 1591, 1552, 1595] (by decide +kernel) (by decide +kernel)
set_option maxRecDepth 20000 in
theorem gL_law_X12_person : GoodIn lw_tbl (wsV RL 46 RX12 yX12_person wsX12_person) := goodIn_app (goodIn_of _ (by decide +kernel)) ggL_law_X12_person
set_option maxRecDepth 20000 in
theorem ggL_law_X12_thrown : GoodIn lw_tbl wsX12_thrown := goodIn_p _ [1294] (by decide +kernel) (by decide +kernel)
set_option maxRecDepth 20000 in
theorem gL_law_X12_thrown : GoodIn lw_tbl (wsV RL 47 RX12 yX12_thrown wsX12_thrown) := goodIn_app (goodIn_of _ (by decide +kernel)) ggL_law_X12_thrown
set_option maxRecDepth 20000 in
theorem ggL_law_L_deal : GoodIn lw_tbl wsL_deal := goodIn_p _ [1289, 794, 806] (by decide +kernel) (by decide +kernel)
set_option maxRecDepth 20000 in
theorem gL_law_L_deal : GoodIn lw_tbl (va_wsS RL 50 yL_deal wsL_deal) := goodIn_app (goodIn_of _ (by decide +kernel)) ggL_law_L_deal
set_option maxRecDepth 20000 in
theorem ggL_law_X12_deal : GoodIn lw_tbl wsX12_deal := goodIn_p _ [1599, 1603, 1552, 1595, 1607, 1611] (by decide +kernel) (by decide +kernel)
set_option maxRecDepth 20000 in
theorem gL_law_X12_deal : GoodIn lw_tbl (wsV RL 52 RX12 yX12_deal wsX12_deal) := goodIn_app (goodIn_of _ (by decide +kernel)) ggL_law_X12_deal
set_option maxRecDepth 20000 in
theorem ggL_law_X11_does : GoodIn lw_tbl wsX11_does := goodIn_p _ [790, 794, 798, 802, 806, 810, 814, 818, 822] (by decide +kernel) (by decide +kernel)
set_option maxRecDepth 20000 in
theorem gL_law_X11_does : GoodIn lw_tbl (wsV RL 53 RX11 yX11_does wsX11_does) := goodIn_app (goodIn_of _ (by decide +kernel)) ggL_law_X11_does
set_option maxRecDepth 20000 in
theorem ggL_law_X12_does : GoodIn lw_tbl wsX12_does := goodIn_p _ [1615, 1603, 1552, 1619, 1607, 1611, 1623, 1627, 1631, 1635, 1639, 1643, 1647] (by decide +kernel) (by decide +kernel)
set_option maxRecDepth 20000 in
theorem gL_law_X12_does : GoodIn lw_tbl (wsV RL 56 RX12 yX12_does wsX12_does) := goodIn_app (goodIn_of _ (by decide +kernel)) ggL_law_X12_does
set_option maxRecDepth 20000 in
theorem ggL_law_X11_undo : GoodIn lw_tbl wsX11_undo := goodIn_p _ [826, 830] (by decide +kernel) (by decide +kernel)
set_option maxRecDepth 20000 in
theorem gL_law_X11_undo : GoodIn lw_tbl (wsV RL 57 RX11 yX11_undo wsX11_undo) := goodIn_app (goodIn_of _ (by decide +kernel)) ggL_law_X11_undo
set_option maxRecDepth 20000 in
theorem ggL_law_X12_undo : GoodIn lw_tbl wsX12_undo := goodIn_p _ [1651] (by decide +kernel) (by decide +kernel)
set_option maxRecDepth 20000 in
theorem gL_law_X12_undo : GoodIn lw_tbl (wsV RL 60 RX12 yX12_undo wsX12_undo) := goodIn_app (goodIn_of _ (by decide +kernel)) ggL_law_X12_undo
set_option maxRecDepth 20000 in
theorem ggL_law_X11_book : GoodIn lw_tbl wsX11_book := goodIn_p _ [834, 838, 608, 612, 615, 619, 623, 632, 636, 842, 705, 645, 649, 653, 659, 663, 666, 669, 674, 677, 680, 683, 687, 725, 741, 588, 782, 798, 802, 806, 810, 814, 818, 822] (by decide +kernel) (by decide +kernel)
set_option maxRecDepth 20000 in
theorem gL_law_X11_book : GoodIn lw_tbl (wsV RL 61 RX11 yX11_book wsX11_book) := goodIn_app (goodIn_of _ (by decide +kernel)) ggL_law_X11_book
set_option maxRecDepth 20000 in
theorem ggL_law_X12_book : GoodIn lw_tbl wsX12_book := goodIn_p _ [1655, 1507, 1511, 1515, 1518, 1521, 1659, 1541, 1533, 1545, 1529, 1575, 1579, 1619, 1607, 1611, 1623, 1627, 1631, 1635, 1639, 1643, 1647] (by decide +kernel) (by decide +kernel)
set_option maxRecDepth 20000 in
theorem gL_law_X12_book : GoodIn lw_tbl (wsV RL 64 RX12 yX12_book wsX12_book) := goodIn_app (goodIn_of _ (by decide +kernel)) ggL_law_X12_book
set_option maxRecDepth 20000 in
theorem ggL_law_X11_why : GoodIn lw_tbl wsX11_why := goodIn_p _ [847] (by decide +kernel) (by decide +kernel)
set_option maxRecDepth 20000 in
theorem gL_law_X11_why : GoodIn lw_tbl (wsV RL 65 RX11 yX11_why wsX11_why) := goodIn_app (goodIn_of _ (by decide +kernel)) ggL_law_X11_why
set_option maxRecDepth 20000 in
theorem ggL_law_X12_why : GoodIn lw_tbl wsX12_why := goodIn_p _ [1663] (by decide +kernel) (by decide +kernel)
set_option maxRecDepth 20000 in
theorem gL_law_X12_why : GoodIn lw_tbl (wsV RL 68 RX12 yX12_why wsX12_why) := goodIn_app (goodIn_of _ (by decide +kernel)) ggL_law_X12_why
set_option maxRecDepth 20000 in
theorem ggL_law_X11_is : GoodIn lw_tbl wsX11_is := goodIn_p _ [851, 855, 858, 814] (by decide +kernel) (by decide +kernel)
set_option maxRecDepth 20000 in
theorem gL_law_X11_is : GoodIn lw_tbl (wsV RL 69 RX11 yX11_is wsX11_is) := goodIn_app (goodIn_of _ (by decide +kernel)) ggL_law_X11_is
set_option maxRecDepth 20000 in
theorem ggL_law_X12_is : GoodIn lw_tbl wsX12_is := goodIn_p _ [1667, 1591, 1552, 1623, 1607, 1627, 1631, 1635, 1639] (by decide +kernel) (by decide +kernel)
set_option maxRecDepth 20000 in
theorem gL_law_X12_is : GoodIn lw_tbl (wsV RL 72 RX12 yX12_is wsX12_is) := goodIn_app (goodIn_of _ (by decide +kernel)) ggL_law_X12_is
set_option maxRecDepth 20000 in
theorem ggL_law_X11_may : GoodIn lw_tbl wsX11_may := goodIn_p _ [863, 802, 806, 810, 814, 818, 822] (by decide +kernel) (by decide +kernel)
set_option maxRecDepth 20000 in
theorem gL_law_X11_may : GoodIn lw_tbl (wsV RL 73 RX11 yX11_may wsX11_may) := goodIn_app (goodIn_of _ (by decide +kernel)) ggL_law_X11_may
set_option maxRecDepth 20000 in
theorem ggL_law_X12_may : GoodIn lw_tbl wsX12_may := goodIn_p _ [1671, 1552, 1619, 1607, 1611, 1623, 1627, 1631, 1635, 1639, 1643] (by decide +kernel) (by decide +kernel)
set_option maxRecDepth 20000 in
theorem gL_law_X12_may : GoodIn lw_tbl (wsV RL 77 RX12 yX12_may wsX12_may) := goodIn_app (goodIn_of _ (by decide +kernel)) ggL_law_X12_may
set_option maxRecDepth 20000 in
theorem ggL_law_X11_had : GoodIn lw_tbl wsX11_had := goodIn_p _ [868, 855, 872, 876] (by decide +kernel) (by decide +kernel)
set_option maxRecDepth 20000 in
theorem gL_law_X11_had : GoodIn lw_tbl (wsV RL 78 RX11 yX11_had wsX11_had) := goodIn_app (goodIn_of _ (by decide +kernel)) ggL_law_X11_had
set_option maxRecDepth 20000 in
theorem ggL_law_X12_had : GoodIn lw_tbl wsX12_had := goodIn_p _ [1675, 1591, 1552, 1679, 1607] (by decide +kernel) (by decide +kernel)
set_option maxRecDepth 20000 in
theorem gL_law_X12_had : GoodIn lw_tbl (wsV RL 81 RX12 yX12_had wsX12_had) := goodIn_app (goodIn_of _ (by decide +kernel)) ggL_law_X12_had
