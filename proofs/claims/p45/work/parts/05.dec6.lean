/-! the code decoded, in slices -/
set_option maxRecDepth 100000 in
theorem mjBg26_ok180 : (((mjC197.drop 180).take 20).all fun q => decide (decode cX17_init q.1 = .ok (q.2.1, q.2.2))) = true := by decide +kernel
set_option maxRecDepth 100000 in
theorem mjBg26_ok200 : (((mjC197.drop 200).take 20).all fun q => decide (decode cX17_init q.1 = .ok (q.2.1, q.2.2))) = true := by decide +kernel
set_option maxRecDepth 100000 in
theorem mjBg26_ok220 : (((mjC197.drop 220).take 20).all fun q => decide (decode cX17_init q.1 = .ok (q.2.1, q.2.2))) = true := by decide +kernel
set_option maxRecDepth 100000 in
theorem mjBg26_ok240 : (((mjC197.drop 240).take 20).all fun q => decide (decode cX17_init q.1 = .ok (q.2.1, q.2.2))) = true := by decide +kernel
set_option maxRecDepth 100000 in
theorem mjBg26_ok260 : (((mjC197.drop 260).take 20).all fun q => decide (decode cX17_init q.1 = .ok (q.2.1, q.2.2))) = true := by decide +kernel
set_option maxRecDepth 100000 in
theorem mjBg26_ok280 : (((mjC197.drop 280).take 20).all fun q => decide (decode cX17_init q.1 = .ok (q.2.1, q.2.2))) = true := by decide +kernel
set_option maxRecDepth 100000 in
theorem mjBg26_ok300 : (((mjC197.drop 300).take 20).all fun q => decide (decode cX17_init q.1 = .ok (q.2.1, q.2.2))) = true := by decide +kernel
set_option maxRecDepth 100000 in
theorem mjBg26_ok320 : (((mjC197.drop 320).take 20).all fun q => decide (decode cX17_init q.1 = .ok (q.2.1, q.2.2))) = true := by decide +kernel
set_option maxRecDepth 100000 in
theorem mjBg26_ok340 : (((mjC197.drop 340).take 20).all fun q => decide (decode cX17_init q.1 = .ok (q.2.1, q.2.2))) = true := by decide +kernel
set_option maxRecDepth 100000 in
theorem mjBg26_ok360 : (((mjC197.drop 360).take 20).all fun q => decide (decode cX17_init q.1 = .ok (q.2.1, q.2.2))) = true := by decide +kernel
set_option maxRecDepth 100000 in
theorem mjBg26_ok380 : (((mjC197.drop 380).take 20).all fun q => decide (decode cX17_init q.1 = .ok (q.2.1, q.2.2))) = true := by decide +kernel
set_option maxRecDepth 100000 in
theorem mjBg26_ok400 : (((mjC197.drop 400).take 20).all fun q => decide (decode cX17_init q.1 = .ok (q.2.1, q.2.2))) = true := by decide +kernel
set_option maxRecDepth 100000 in
theorem mjBg26_ok420 : (((mjC197.drop 420).take 20).all fun q => decide (decode cX17_init q.1 = .ok (q.2.1, q.2.2))) = true := by decide +kernel
set_option maxRecDepth 100000 in
theorem mjBg26_ok440 : (((mjC197.drop 440).take 20).all fun q => decide (decode cX17_init q.1 = .ok (q.2.1, q.2.2))) = true := by decide +kernel
set_option maxRecDepth 100000 in
theorem mjBg26_ok460 : (((mjC197.drop 460).take 20).all fun q => decide (decode cX17_init q.1 = .ok (q.2.1, q.2.2))) = true := by decide +kernel
set_option maxRecDepth 100000 in
theorem mjBg26_ok480 : (((mjC197.drop 480).take 20).all fun q => decide (decode cX17_init q.1 = .ok (q.2.1, q.2.2))) = true := by decide +kernel
set_option maxRecDepth 100000 in
theorem mjBg26_ok500 : (((mjC197.drop 500).take 20).all fun q => decide (decode cX17_init q.1 = .ok (q.2.1, q.2.2))) = true := by decide +kernel
set_option maxRecDepth 100000 in
theorem mjBg26_ok520 : (((mjC197.drop 520).take 20).all fun q => decide (decode cX17_init q.1 = .ok (q.2.1, q.2.2))) = true := by decide +kernel
set_option maxRecDepth 100000 in
theorem mjBg26_ok540 : (((mjC197.drop 540).take 20).all fun q => decide (decode cX17_init q.1 = .ok (q.2.1, q.2.2))) = true := by decide +kernel
set_option maxRecDepth 100000 in
theorem mjBg26_ok560 : (((mjC197.drop 560).take 20).all fun q => decide (decode cX17_init q.1 = .ok (q.2.1, q.2.2))) = true := by decide +kernel
