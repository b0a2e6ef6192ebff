/-! the code decoded -/
set_option maxRecDepth 100000 in
theorem mjCd_ok9 : (((List.range 10).map (· + 73)).all fun k => (mjCode k).all fun q => decide (decode (mjB k) q.1 = .ok (q.2.1, q.2.2))) = true := by decide +kernel
set_option maxRecDepth 100000 in
theorem mjCd_ok10 : (((List.range 6).map (· + 83)).all fun k => (mjCode k).all fun q => decide (decode (mjB k) q.1 = .ok (q.2.1, q.2.2))) = true := by decide +kernel
set_option maxRecDepth 100000 in
theorem mjCd_ok11 : (((List.range 4).map (· + 89)).all fun k => (mjCode k).all fun q => decide (decode (mjB k) q.1 = .ok (q.2.1, q.2.2))) = true := by decide +kernel
set_option maxRecDepth 100000 in
theorem mjCd_ok12 : (((List.range 5).map (· + 93)).all fun k => (mjCode k).all fun q => decide (decode (mjB k) q.1 = .ok (q.2.1, q.2.2))) = true := by decide +kernel
set_option maxRecDepth 100000 in
theorem mjCd_ok13 : (((List.range 10).map (· + 98)).all fun k => (mjCode k).all fun q => decide (decode (mjB k) q.1 = .ok (q.2.1, q.2.2))) = true := by decide +kernel
set_option maxRecDepth 100000 in
theorem mjCd_ok14 : (((List.range 5).map (· + 108)).all fun k => (mjCode k).all fun q => decide (decode (mjB k) q.1 = .ok (q.2.1, q.2.2))) = true := by decide +kernel
set_option maxRecDepth 100000 in
theorem mjCd_ok15 : (((List.range 2).map (· + 113)).all fun k => (mjCode k).all fun q => decide (decode (mjB k) q.1 = .ok (q.2.1, q.2.2))) = true := by decide +kernel
set_option maxRecDepth 100000 in
theorem mjCd_ok16 : (((List.range 5).map (· + 115)).all fun k => (mjCode k).all fun q => decide (decode (mjB k) q.1 = .ok (q.2.1, q.2.2))) = true := by decide +kernel
set_option maxRecDepth 100000 in
theorem mjCd_ok17 : (((List.range 5).map (· + 120)).all fun k => (mjCode k).all fun q => decide (decode (mjB k) q.1 = .ok (q.2.1, q.2.2))) = true := by decide +kernel
