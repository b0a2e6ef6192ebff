/-! the code decoded, in slices -/
set_option maxRecDepth 100000 in
theorem mjLw_ok0 : (((mjC256.drop 0).take 20).all fun q => decide (decode code q.1 = .ok (q.2.1, q.2.2))) = true := by decide +kernel
set_option maxRecDepth 100000 in
theorem mjLw_ok20 : (((mjC256.drop 20).take 20).all fun q => decide (decode code q.1 = .ok (q.2.1, q.2.2))) = true := by decide +kernel
set_option maxRecDepth 100000 in
theorem mjLw_ok40 : (((mjC256.drop 40).take 20).all fun q => decide (decode code q.1 = .ok (q.2.1, q.2.2))) = true := by decide +kernel
set_option maxRecDepth 100000 in
theorem mjLw_ok60 : (((mjC256.drop 60).take 20).all fun q => decide (decode code q.1 = .ok (q.2.1, q.2.2))) = true := by decide +kernel
set_option maxRecDepth 100000 in
theorem mjLw_ok80 : (((mjC256.drop 80).take 20).all fun q => decide (decode code q.1 = .ok (q.2.1, q.2.2))) = true := by decide +kernel
set_option maxRecDepth 100000 in
theorem mjLw_ok100 : (((mjC256.drop 100).take 20).all fun q => decide (decode code q.1 = .ok (q.2.1, q.2.2))) = true := by decide +kernel
set_option maxRecDepth 100000 in
theorem mjLw_ok120 : (((mjC256.drop 120).take 20).all fun q => decide (decode code q.1 = .ok (q.2.1, q.2.2))) = true := by decide +kernel
set_option maxRecDepth 100000 in
theorem mjLw_ok140 : (((mjC256.drop 140).take 20).all fun q => decide (decode code q.1 = .ok (q.2.1, q.2.2))) = true := by decide +kernel
set_option maxRecDepth 100000 in
theorem mjLw_ok160 : (((mjC256.drop 160).take 20).all fun q => decide (decode code q.1 = .ok (q.2.1, q.2.2))) = true := by decide +kernel
set_option maxRecDepth 100000 in
theorem mjLw_ok180 : (((mjC256.drop 180).take 20).all fun q => decide (decode code q.1 = .ok (q.2.1, q.2.2))) = true := by decide +kernel
set_option maxRecDepth 100000 in
theorem mjBg26_ok0 : (((mjC197.drop 0).take 20).all fun q => decide (decode cX17_init q.1 = .ok (q.2.1, q.2.2))) = true := by decide +kernel
set_option maxRecDepth 100000 in
theorem mjBg26_ok20 : (((mjC197.drop 20).take 20).all fun q => decide (decode cX17_init q.1 = .ok (q.2.1, q.2.2))) = true := by decide +kernel
set_option maxRecDepth 100000 in
theorem mjBg26_ok40 : (((mjC197.drop 40).take 20).all fun q => decide (decode cX17_init q.1 = .ok (q.2.1, q.2.2))) = true := by decide +kernel
set_option maxRecDepth 100000 in
theorem mjBg26_ok60 : (((mjC197.drop 60).take 20).all fun q => decide (decode cX17_init q.1 = .ok (q.2.1, q.2.2))) = true := by decide +kernel
set_option maxRecDepth 100000 in
theorem mjBg26_ok80 : (((mjC197.drop 80).take 20).all fun q => decide (decode cX17_init q.1 = .ok (q.2.1, q.2.2))) = true := by decide +kernel
set_option maxRecDepth 100000 in
theorem mjBg26_ok100 : (((mjC197.drop 100).take 20).all fun q => decide (decode cX17_init q.1 = .ok (q.2.1, q.2.2))) = true := by decide +kernel
set_option maxRecDepth 100000 in
theorem mjBg26_ok120 : (((mjC197.drop 120).take 20).all fun q => decide (decode cX17_init q.1 = .ok (q.2.1, q.2.2))) = true := by decide +kernel
set_option maxRecDepth 100000 in
theorem mjBg26_ok140 : (((mjC197.drop 140).take 20).all fun q => decide (decode cX17_init q.1 = .ok (q.2.1, q.2.2))) = true := by decide +kernel
set_option maxRecDepth 100000 in
theorem mjBg26_ok160 : (((mjC197.drop 160).take 20).all fun q => decide (decode cX17_init q.1 = .ok (q.2.1, q.2.2))) = true := by decide +kernel
