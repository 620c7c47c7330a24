set_option maxRecDepth 40000 in
theorem gP_X9_labelLength : GoodIn lw_tbl vsX9_labelLength := goodIn_ca (a := []) (goodIn_r _ [1406] (by decide +kernel) (by decide +kernel)) (show GoodIn lw_tbl (wsV RX9 146 RX9 yX9_isPlain wsX9_isPlain) from goodIn_app (goodIn_r _ [1365, 1367, 48, 68] (by decide +kernel) (by decide +kernel)) gP_X9_isPlain)
set_option maxRecDepth 40000 in
theorem gP_X9_labelAt : GoodIn lw_tbl vsX9_labelAt := goodIn_ca (a := []) (goodIn_r _ [1721] (by decide +kernel) (by decide +kernel)) (show GoodIn lw_tbl (wsV RX9 146 RX9 yX9_isPlain wsX9_isPlain) from goodIn_app (goodIn_r _ [1365, 1367, 48, 68] (by decide +kernel) (by decide +kernel)) gP_X9_isPlain)
set_option maxRecDepth 40000 in
theorem gP_X9_referenceLength : GoodIn lw_tbl vsX9_referenceLength := goodIn_ca (a := []) (goodIn_r _ [1753] (by decide +kernel) (by decide +kernel)) (show GoodIn lw_tbl (wsV RX9 239 RX9 yX9_isVoid wsX9_isVoid) from goodIn_app (goodIn_r _ [1754, 1756, 55, 68] (by decide +kernel) (by decide +kernel)) gP_X9_isVoid)
set_option maxRecDepth 40000 in
theorem gP_X9_referenceAt : GoodIn lw_tbl vsX9_referenceAt := goodIn_ca (a := []) (goodIn_r _ [1761] (by decide +kernel) (by decide +kernel)) (show GoodIn lw_tbl (wsV RX9 239 RX9 yX9_isVoid wsX9_isVoid) from goodIn_app (goodIn_r _ [1754, 1756, 55, 68] (by decide +kernel) (by decide +kernel)) gP_X9_isVoid)
set_option maxRecDepth 40000 in
theorem gP_X9_isUnique : GoodIn lw_tbl vsX9_isUnique := goodIn_ca (goodIn_r _ [1785, 1158, 1172] (by decide +kernel) (by decide +kernel)) gt_wsX90
set_option maxRecDepth 40000 in
theorem gq_219_X9_labelLength : GoodIn lw_tbl (wsV RL 219 RX9 yX9_labelLength vsX9_labelLength) := goodIn_app (goodIn_r _ [1403, 1404, 1405, 68] (by decide +kernel) (by decide +kernel)) gP_X9_labelLength
set_option maxRecDepth 40000 in
theorem gq_222_X9_labelAt : GoodIn lw_tbl (wsV RL 222 RX9 yX9_labelAt vsX9_labelAt) := goodIn_app (goodIn_r _ [1718, 1719, 1720, 68] (by decide +kernel) (by decide +kernel)) gP_X9_labelAt
set_option maxRecDepth 40000 in
theorem gq_238_X9_referenceLength : GoodIn lw_tbl (wsV RL 238 RX9 yX9_referenceLength vsX9_referenceLength) := goodIn_app (goodIn_r _ [1750, 1751, 1752, 68] (by decide +kernel) (by decide +kernel)) gP_X9_referenceLength
set_option maxRecDepth 40000 in
theorem gq_241_X9_referenceAt : GoodIn lw_tbl (wsV RL 241 RX9 yX9_referenceAt vsX9_referenceAt) := goodIn_app (goodIn_r _ [1758, 1759, 1760, 68] (by decide +kernel) (by decide +kernel)) gP_X9_referenceAt
set_option maxRecDepth 40000 in
theorem gq_263_X9_isUnique : GoodIn lw_tbl (wsV RL 263 RX9 yX9_isUnique vsX9_isUnique) := goodIn_app (goodIn_r _ [1782, 1783, 1784, 68] (by decide +kernel) (by decide +kernel)) gP_X9_isUnique
