set_option maxRecDepth 100000 in
theorem mjCd_ok26 : (((List.range 3).map (· + 194)).all fun k => (mjCode k).all fun q => decide (decode (mjB k) q.1 = .ok (q.2.1, q.2.2))) = true := by decide +kernel
set_option maxRecDepth 100000 in
theorem mjCd_ok27 : (((List.range 8).map (· + 197)).all fun k => (mjCode k).all fun q => decide (decode (mjB k) q.1 = .ok (q.2.1, q.2.2))) = true := by decide +kernel
set_option maxRecDepth 100000 in
theorem mjCd_ok28 : (((List.range 6).map (· + 205)).all fun k => (mjCode k).all fun q => decide (decode (mjB k) q.1 = .ok (q.2.1, q.2.2))) = true := by decide +kernel
set_option maxRecDepth 100000 in
theorem mjCd_ok29 : (((List.range 8).map (· + 211)).all fun k => (mjCode k).all fun q => decide (decode (mjB k) q.1 = .ok (q.2.1, q.2.2))) = true := by decide +kernel
set_option maxRecDepth 100000 in
theorem mjCd_ok30 : (((List.range 4).map (· + 219)).all fun k => (mjCode k).all fun q => decide (decode (mjB k) q.1 = .ok (q.2.1, q.2.2))) = true := by decide +kernel
set_option maxRecDepth 100000 in
theorem mjCd_ok31 : (((List.range 4).map (· + 223)).all fun k => (mjCode k).all fun q => decide (decode (mjB k) q.1 = .ok (q.2.1, q.2.2))) = true := by decide +kernel
set_option maxRecDepth 100000 in
theorem mjCd_ok32 : (((List.range 3).map (· + 227)).all fun k => (mjCode k).all fun q => decide (decode (mjB k) q.1 = .ok (q.2.1, q.2.2))) = true := by decide +kernel
set_option maxRecDepth 100000 in
theorem mjCd_ok33 : (((List.range 2).map (· + 230)).all fun k => (mjCode k).all fun q => decide (decode (mjB k) q.1 = .ok (q.2.1, q.2.2))) = true := by decide +kernel
set_option maxRecDepth 100000 in
theorem mjCd_ok34 : (((List.range 3).map (· + 232)).all fun k => (mjCode k).all fun q => decide (decode (mjB k) q.1 = .ok (q.2.1, q.2.2))) = true := by decide +kernel
set_option maxRecDepth 100000 in
theorem mjCd_ok35 : (((List.range 3).map (· + 235)).all fun k => (mjCode k).all fun q => decide (decode (mjB k) q.1 = .ok (q.2.1, q.2.2))) = true := by decide +kernel
set_option maxRecDepth 100000 in
theorem mjCd_ok36 : (((List.range 11).map (· + 238)).all fun k => (mjCode k).all fun q => decide (decode (mjB k) q.1 = .ok (q.2.1, q.2.2))) = true := by decide +kernel
set_option maxRecDepth 100000 in
theorem mjCd_ok37 : (((List.range 6).map (· + 249)).all fun k => (mjCode k).all fun q => decide (decode (mjB k) q.1 = .ok (q.2.1, q.2.2))) = true := by decide +kernel
set_option maxRecDepth 100000 in
theorem mjCd_ok38 : (((List.range 7).map (· + 255)).all fun k => (mjCode k).all fun q => decide (decode (mjB k) q.1 = .ok (q.2.1, q.2.2))) = true := by decide +kernel
set_option maxRecDepth 100000 in
theorem mjCd_ok39 : (((List.range 4).map (· + 262)).all fun k => (mjCode k).all fun q => decide (decode (mjB k) q.1 = .ok (q.2.1, q.2.2))) = true := by decide +kernel
