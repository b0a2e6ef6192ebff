set_option maxRecDepth 100000 in
theorem mjLw_ok520 : (((mjC339.drop 520).take 20).all fun q => decide (decode code q.1 = .ok (q.2.1, q.2.2))) = true := by decide +kernel
set_option maxRecDepth 100000 in
theorem mjLw_ok540 : (((mjC339.drop 540).take 20).all fun q => decide (decode code q.1 = .ok (q.2.1, q.2.2))) = true := by decide +kernel
set_option maxRecDepth 100000 in
theorem mjLw_ok560 : (((mjC339.drop 560).take 20).all fun q => decide (decode code q.1 = .ok (q.2.1, q.2.2))) = true := by decide +kernel
set_option maxRecDepth 100000 in
theorem mjLw_ok580 : (((mjC339.drop 580).take 20).all fun q => decide (decode code q.1 = .ok (q.2.1, q.2.2))) = true := by decide +kernel
set_option maxRecDepth 100000 in
theorem mjLw_ok600 : (((mjC339.drop 600).take 20).all fun q => decide (decode code q.1 = .ok (q.2.1, q.2.2))) = true := by decide +kernel
set_option maxRecDepth 100000 in
theorem mjLw_ok620 : (((mjC339.drop 620).take 20).all fun q => decide (decode code q.1 = .ok (q.2.1, q.2.2))) = true := by decide +kernel
set_option maxRecDepth 100000 in
theorem mjLw_ok640 : (((mjC339.drop 640).take 20).all fun q => decide (decode code q.1 = .ok (q.2.1, q.2.2))) = true := by decide +kernel
set_option maxRecDepth 100000 in
theorem mjLw_ok660 : (((mjC339.drop 660).take 20).all fun q => decide (decode code q.1 = .ok (q.2.1, q.2.2))) = true := by decide +kernel
set_option maxRecDepth 100000 in
theorem mjLw_ok680 : (((mjC339.drop 680).take 20).all fun q => decide (decode code q.1 = .ok (q.2.1, q.2.2))) = true := by decide +kernel
set_option maxRecDepth 100000 in
theorem mjLw_ok700 : (((mjC339.drop 700).take 20).all fun q => decide (decode code q.1 = .ok (q.2.1, q.2.2))) = true := by decide +kernel
set_option maxRecDepth 100000 in
theorem mjLw_ok720 : (((mjC339.drop 720).take 20).all fun q => decide (decode code q.1 = .ok (q.2.1, q.2.2))) = true := by decide +kernel
set_option maxRecDepth 100000 in
theorem mjLw_ok740 : (((mjC339.drop 740).take 20).all fun q => decide (decode code q.1 = .ok (q.2.1, q.2.2))) = true := by decide +kernel
set_option maxRecDepth 100000 in
theorem mjLw_ok760 : (((mjC339.drop 760).take 20).all fun q => decide (decode code q.1 = .ok (q.2.1, q.2.2))) = true := by decide +kernel
set_option maxRecDepth 100000 in
theorem mjLw_ok780 : (((mjC339.drop 780).take 20).all fun q => decide (decode code q.1 = .ok (q.2.1, q.2.2))) = true := by decide +kernel
set_option maxRecDepth 100000 in
theorem mjLw_ok800 : (((mjC339.drop 800).take 20).all fun q => decide (decode code q.1 = .ok (q.2.1, q.2.2))) = true := by decide +kernel
set_option maxRecDepth 100000 in
theorem mjLw_ok820 : (((mjC339.drop 820).take 20).all fun q => decide (decode code q.1 = .ok (q.2.1, q.2.2))) = true := by decide +kernel
set_option maxRecDepth 100000 in
theorem mjLw_ok840 : (((mjC339.drop 840).take 20).all fun q => decide (decode code q.1 = .ok (q.2.1, q.2.2))) = true := by decide +kernel
set_option maxRecDepth 100000 in
theorem mjLw_ok860 : (((mjC339.drop 860).take 20).all fun q => decide (decode code q.1 = .ok (q.2.1, q.2.2))) = true := by decide +kernel
set_option maxRecDepth 100000 in
theorem mjLw_ok880 : (((mjC339.drop 880).take 20).all fun q => decide (decode code q.1 = .ok (q.2.1, q.2.2))) = true := by decide +kernel
set_option maxRecDepth 100000 in
theorem mjLw_ok900 : (((mjC339.drop 900).take 20).all fun q => decide (decode code q.1 = .ok (q.2.1, q.2.2))) = true := by decide +kernel
set_option maxRecDepth 100000 in
theorem mjLw_ok920 : (((mjC339.drop 920).take 20).all fun q => decide (decode code q.1 = .ok (q.2.1, q.2.2))) = true := by decide +kernel
set_option maxRecDepth 100000 in
theorem mjLw_ok940 : (((mjC339.drop 940).take 20).all fun q => decide (decode code q.1 = .ok (q.2.1, q.2.2))) = true := by decide +kernel
set_option maxRecDepth 100000 in
theorem mjLw_ok960 : (((mjC339.drop 960).take 20).all fun q => decide (decode code q.1 = .ok (q.2.1, q.2.2))) = true := by decide +kernel
set_option maxRecDepth 100000 in
theorem mjLw_ok980 : (((mjC339.drop 980).take 20).all fun q => decide (decode code q.1 = .ok (q.2.1, q.2.2))) = true := by decide +kernel
set_option maxRecDepth 100000 in
theorem mjLw_ok1000 : (((mjC339.drop 1000).take 20).all fun q => decide (decode code q.1 = .ok (q.2.1, q.2.2))) = true := by decide +kernel
set_option maxRecDepth 100000 in
theorem mjLw_ok1020 : (((mjC339.drop 1020).take 20).all fun q => decide (decode code q.1 = .ok (q.2.1, q.2.2))) = true := by decide +kernel
set_option maxRecDepth 100000 in
theorem mjLw_ok1040 : (((mjC339.drop 1040).take 20).all fun q => decide (decode code q.1 = .ok (q.2.1, q.2.2))) = true := by decide +kernel
