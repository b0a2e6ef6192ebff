/-! the code decoded -/
set_option maxRecDepth 100000 in
theorem mjCd_ok27 : (((List.range 2).map (· + 198)).all fun k => (mjCode k).all fun q => decide (decode (mjB k) q.1 = .ok (q.2.1, q.2.2))) = true := by decide +kernel
set_option maxRecDepth 100000 in
theorem mjCd_ok28 : (((List.range 1).map (· + 200)).all fun k => (mjCode k).all fun q => decide (decode (mjB k) q.1 = .ok (q.2.1, q.2.2))) = true := by decide +kernel
set_option maxRecDepth 100000 in
theorem mjCd_ok29 : (((List.range 1).map (· + 201)).all fun k => (mjCode k).all fun q => decide (decode (mjB k) q.1 = .ok (q.2.1, q.2.2))) = true := by decide +kernel
set_option maxRecDepth 100000 in
theorem mjCd_ok30 : (((List.range 8).map (· + 202)).all fun k => (mjCode k).all fun q => decide (decode (mjB k) q.1 = .ok (q.2.1, q.2.2))) = true := by decide +kernel
set_option maxRecDepth 100000 in
theorem mjCd_ok31 : (((List.range 14).map (· + 210)).all fun k => (mjCode k).all fun q => decide (decode (mjB k) q.1 = .ok (q.2.1, q.2.2))) = true := by decide +kernel
set_option maxRecDepth 100000 in
theorem mjCd_ok32 : (((List.range 24).map (· + 224)).all fun k => (mjCode k).all fun q => decide (decode (mjB k) q.1 = .ok (q.2.1, q.2.2))) = true := by decide +kernel
set_option maxRecDepth 100000 in
theorem mjCd_ok33 : (((List.range 8).map (· + 248)).all fun k => (mjCode k).all fun q => decide (decode (mjB k) q.1 = .ok (q.2.1, q.2.2))) = true := by decide +kernel
