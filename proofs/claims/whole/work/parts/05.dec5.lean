set_option maxRecDepth 100000 in
theorem mjLw_ok0 : (((mjC339.drop 0).take 20).all fun q => decide (decode code q.1 = .ok (q.2.1, q.2.2))) = true := by decide +kernel
set_option maxRecDepth 100000 in
theorem mjLw_ok20 : (((mjC339.drop 20).take 20).all fun q => decide (decode code q.1 = .ok (q.2.1, q.2.2))) = true := by decide +kernel
set_option maxRecDepth 100000 in
theorem mjLw_ok40 : (((mjC339.drop 40).take 20).all fun q => decide (decode code q.1 = .ok (q.2.1, q.2.2))) = true := by decide +kernel
set_option maxRecDepth 100000 in
theorem mjLw_ok60 : (((mjC339.drop 60).take 20).all fun q => decide (decode code q.1 = .ok (q.2.1, q.2.2))) = true := by decide +kernel
set_option maxRecDepth 100000 in
theorem mjLw_ok80 : (((mjC339.drop 80).take 20).all fun q => decide (decode code q.1 = .ok (q.2.1, q.2.2))) = true := by decide +kernel
set_option maxRecDepth 100000 in
theorem mjLw_ok100 : (((mjC339.drop 100).take 20).all fun q => decide (decode code q.1 = .ok (q.2.1, q.2.2))) = true := by decide +kernel
set_option maxRecDepth 100000 in
theorem mjLw_ok120 : (((mjC339.drop 120).take 20).all fun q => decide (decode code q.1 = .ok (q.2.1, q.2.2))) = true := by decide +kernel
set_option maxRecDepth 100000 in
theorem mjLw_ok140 : (((mjC339.drop 140).take 20).all fun q => decide (decode code q.1 = .ok (q.2.1, q.2.2))) = true := by decide +kernel
set_option maxRecDepth 100000 in
theorem mjLw_ok160 : (((mjC339.drop 160).take 20).all fun q => decide (decode code q.1 = .ok (q.2.1, q.2.2))) = true := by decide +kernel
set_option maxRecDepth 100000 in
theorem mjLw_ok180 : (((mjC339.drop 180).take 20).all fun q => decide (decode code q.1 = .ok (q.2.1, q.2.2))) = true := by decide +kernel
set_option maxRecDepth 100000 in
theorem mjLw_ok200 : (((mjC339.drop 200).take 20).all fun q => decide (decode code q.1 = .ok (q.2.1, q.2.2))) = true := by decide +kernel
set_option maxRecDepth 100000 in
theorem mjLw_ok220 : (((mjC339.drop 220).take 20).all fun q => decide (decode code q.1 = .ok (q.2.1, q.2.2))) = true := by decide +kernel
set_option maxRecDepth 100000 in
theorem mjLw_ok240 : (((mjC339.drop 240).take 20).all fun q => decide (decode code q.1 = .ok (q.2.1, q.2.2))) = true := by decide +kernel
set_option maxRecDepth 100000 in
theorem mjLw_ok260 : (((mjC339.drop 260).take 20).all fun q => decide (decode code q.1 = .ok (q.2.1, q.2.2))) = true := by decide +kernel
set_option maxRecDepth 100000 in
theorem mjLw_ok280 : (((mjC339.drop 280).take 20).all fun q => decide (decode code q.1 = .ok (q.2.1, q.2.2))) = true := by decide +kernel
set_option maxRecDepth 100000 in
theorem mjLw_ok300 : (((mjC339.drop 300).take 20).all fun q => decide (decode code q.1 = .ok (q.2.1, q.2.2))) = true := by decide +kernel
set_option maxRecDepth 100000 in
theorem mjLw_ok320 : (((mjC339.drop 320).take 20).all fun q => decide (decode code q.1 = .ok (q.2.1, q.2.2))) = true := by decide +kernel
set_option maxRecDepth 100000 in
theorem mjLw_ok340 : (((mjC339.drop 340).take 20).all fun q => decide (decode code q.1 = .ok (q.2.1, q.2.2))) = true := by decide +kernel
set_option maxRecDepth 100000 in
theorem mjLw_ok360 : (((mjC339.drop 360).take 20).all fun q => decide (decode code q.1 = .ok (q.2.1, q.2.2))) = true := by decide +kernel
set_option maxRecDepth 100000 in
theorem mjLw_ok380 : (((mjC339.drop 380).take 20).all fun q => decide (decode code q.1 = .ok (q.2.1, q.2.2))) = true := by decide +kernel
set_option maxRecDepth 100000 in
theorem mjLw_ok400 : (((mjC339.drop 400).take 20).all fun q => decide (decode code q.1 = .ok (q.2.1, q.2.2))) = true := by decide +kernel
set_option maxRecDepth 100000 in
theorem mjLw_ok420 : (((mjC339.drop 420).take 20).all fun q => decide (decode code q.1 = .ok (q.2.1, q.2.2))) = true := by decide +kernel
set_option maxRecDepth 100000 in
theorem mjLw_ok440 : (((mjC339.drop 440).take 20).all fun q => decide (decode code q.1 = .ok (q.2.1, q.2.2))) = true := by decide +kernel
set_option maxRecDepth 100000 in
theorem mjLw_ok460 : (((mjC339.drop 460).take 20).all fun q => decide (decode code q.1 = .ok (q.2.1, q.2.2))) = true := by decide +kernel
set_option maxRecDepth 100000 in
theorem mjLw_ok480 : (((mjC339.drop 480).take 20).all fun q => decide (decode code q.1 = .ok (q.2.1, q.2.2))) = true := by decide +kernel
set_option maxRecDepth 100000 in
theorem mjLw_ok500 : (((mjC339.drop 500).take 20).all fun q => decide (decode code q.1 = .ok (q.2.1, q.2.2))) = true := by decide +kernel
