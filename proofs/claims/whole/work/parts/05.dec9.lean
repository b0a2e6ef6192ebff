theorem mjSlice {α : Type} {l : List α} {P : α → Bool} (b w j : Nat) (h : ((l.drop b).take w).all P = true) (h1 : b ≤ j) (h2 : j < b + w) (x : α) (hj : l[j]? = some x) : P x = true := by
  have h3 : ((l.drop b).take w)[j - b]? = some x := by
    rw [List.getElem?_take, if_pos (by omega), List.getElem?_drop, show b + (j - b) = j by omega]
    exact hj
  exact List.all_eq_true.mp h _ (List.mem_of_getElem? h3)
theorem mjLw_len : mjC339.length = 1060 := by decide +kernel
theorem mjLw_ok : ∀ q ∈ mjC339, decide (decode code q.1 = .ok (q.2.1, q.2.2)) = true := by
  intro q hq
  obtain ⟨j, hj⟩ := List.getElem?_of_mem hq
  have hl : j < 1060 := by rw [← mjLw_len]; exact (List.getElem?_eq_some_iff.mp hj).1
  by_cases h0 : j < 20
  · exact mjSlice 0 20 j mjLw_ok0 (by omega) h0 q hj
  by_cases h20 : j < 40
  · exact mjSlice 20 20 j mjLw_ok20 (by omega) h20 q hj
  by_cases h40 : j < 60
  · exact mjSlice 40 20 j mjLw_ok40 (by omega) h40 q hj
  by_cases h60 : j < 80
  · exact mjSlice 60 20 j mjLw_ok60 (by omega) h60 q hj
  by_cases h80 : j < 100
  · exact mjSlice 80 20 j mjLw_ok80 (by omega) h80 q hj
  by_cases h100 : j < 120
  · exact mjSlice 100 20 j mjLw_ok100 (by omega) h100 q hj
  by_cases h120 : j < 140
  · exact mjSlice 120 20 j mjLw_ok120 (by omega) h120 q hj
  by_cases h140 : j < 160
  · exact mjSlice 140 20 j mjLw_ok140 (by omega) h140 q hj
  by_cases h160 : j < 180
  · exact mjSlice 160 20 j mjLw_ok160 (by omega) h160 q hj
  by_cases h180 : j < 200
  · exact mjSlice 180 20 j mjLw_ok180 (by omega) h180 q hj
  by_cases h200 : j < 220
  · exact mjSlice 200 20 j mjLw_ok200 (by omega) h200 q hj
  by_cases h220 : j < 240
  · exact mjSlice 220 20 j mjLw_ok220 (by omega) h220 q hj
  by_cases h240 : j < 260
  · exact mjSlice 240 20 j mjLw_ok240 (by omega) h240 q hj
  by_cases h260 : j < 280
  · exact mjSlice 260 20 j mjLw_ok260 (by omega) h260 q hj
  by_cases h280 : j < 300
  · exact mjSlice 280 20 j mjLw_ok280 (by omega) h280 q hj
  by_cases h300 : j < 320
  · exact mjSlice 300 20 j mjLw_ok300 (by omega) h300 q hj
  by_cases h320 : j < 340
  · exact mjSlice 320 20 j mjLw_ok320 (by omega) h320 q hj
  by_cases h340 : j < 360
  · exact mjSlice 340 20 j mjLw_ok340 (by omega) h340 q hj
  by_cases h360 : j < 380
  · exact mjSlice 360 20 j mjLw_ok360 (by omega) h360 q hj
  by_cases h380 : j < 400
  · exact mjSlice 380 20 j mjLw_ok380 (by omega) h380 q hj
  by_cases h400 : j < 420
  · exact mjSlice 400 20 j mjLw_ok400 (by omega) h400 q hj
  by_cases h420 : j < 440
  · exact mjSlice 420 20 j mjLw_ok420 (by omega) h420 q hj
  by_cases h440 : j < 460
  · exact mjSlice 440 20 j mjLw_ok440 (by omega) h440 q hj
  by_cases h460 : j < 480
  · exact mjSlice 460 20 j mjLw_ok460 (by omega) h460 q hj
  by_cases h480 : j < 500
  · exact mjSlice 480 20 j mjLw_ok480 (by omega) h480 q hj
  by_cases h500 : j < 520
  · exact mjSlice 500 20 j mjLw_ok500 (by omega) h500 q hj
  by_cases h520 : j < 540
  · exact mjSlice 520 20 j mjLw_ok520 (by omega) h520 q hj
  by_cases h540 : j < 560
  · exact mjSlice 540 20 j mjLw_ok540 (by omega) h540 q hj
  by_cases h560 : j < 580
  · exact mjSlice 560 20 j mjLw_ok560 (by omega) h560 q hj
  by_cases h580 : j < 600
  · exact mjSlice 580 20 j mjLw_ok580 (by omega) h580 q hj
  by_cases h600 : j < 620
  · exact mjSlice 600 20 j mjLw_ok600 (by omega) h600 q hj
  by_cases h620 : j < 640
  · exact mjSlice 620 20 j mjLw_ok620 (by omega) h620 q hj
  by_cases h640 : j < 660
  · exact mjSlice 640 20 j mjLw_ok640 (by omega) h640 q hj
  by_cases h660 : j < 680
  · exact mjSlice 660 20 j mjLw_ok660 (by omega) h660 q hj
  by_cases h680 : j < 700
  · exact mjSlice 680 20 j mjLw_ok680 (by omega) h680 q hj
  by_cases h700 : j < 720
  · exact mjSlice 700 20 j mjLw_ok700 (by omega) h700 q hj
  by_cases h720 : j < 740
  · exact mjSlice 720 20 j mjLw_ok720 (by omega) h720 q hj
  by_cases h740 : j < 760
  · exact mjSlice 740 20 j mjLw_ok740 (by omega) h740 q hj
  by_cases h760 : j < 780
  · exact mjSlice 760 20 j mjLw_ok760 (by omega) h760 q hj
  by_cases h780 : j < 800
  · exact mjSlice 780 20 j mjLw_ok780 (by omega) h780 q hj
  by_cases h800 : j < 820
  · exact mjSlice 800 20 j mjLw_ok800 (by omega) h800 q hj
  by_cases h820 : j < 840
  · exact mjSlice 820 20 j mjLw_ok820 (by omega) h820 q hj
  by_cases h840 : j < 860
  · exact mjSlice 840 20 j mjLw_ok840 (by omega) h840 q hj
  by_cases h860 : j < 880
  · exact mjSlice 860 20 j mjLw_ok860 (by omega) h860 q hj
  by_cases h880 : j < 900
  · exact mjSlice 880 20 j mjLw_ok880 (by omega) h880 q hj
  by_cases h900 : j < 920
  · exact mjSlice 900 20 j mjLw_ok900 (by omega) h900 q hj
  by_cases h920 : j < 940
  · exact mjSlice 920 20 j mjLw_ok920 (by omega) h920 q hj
  by_cases h940 : j < 960
  · exact mjSlice 940 20 j mjLw_ok940 (by omega) h940 q hj
  by_cases h960 : j < 980
  · exact mjSlice 960 20 j mjLw_ok960 (by omega) h960 q hj
  by_cases h980 : j < 1000
  · exact mjSlice 980 20 j mjLw_ok980 (by omega) h980 q hj
  by_cases h1000 : j < 1020
  · exact mjSlice 1000 20 j mjLw_ok1000 (by omega) h1000 q hj
  by_cases h1020 : j < 1040
  · exact mjSlice 1020 20 j mjLw_ok1020 (by omega) h1020 q hj
  by_cases h1040 : j < 1060
  · exact mjSlice 1040 20 j mjLw_ok1040 (by omega) h1040 q hj
  omega
theorem mjCd_ok (k : Nat) (h : k < 340) : ((mjCode k).all fun q => decide (decode (mjB k) q.1 = .ok (q.2.1, q.2.2))) = true := by
  have g : ∀ (b w : Nat), (((List.range w).map (· + b)).all fun k => (mjCode k).all fun q => decide (decode (mjB k) q.1 = .ok (q.2.1, q.2.2))) = true → b ≤ k → k < b + w → ((mjCode k).all fun q => decide (decode (mjB k) q.1 = .ok (q.2.1, q.2.2))) = true := fun b w hb h1 h2 => List.all_eq_true.mp hb k (List.mem_map.mpr ⟨k - b, List.mem_range.mpr (by omega), by omega⟩)
  by_cases h0 : k < 11
  · exact g 0 11 mjCd_ok0 (by omega) h0
  by_cases h1 : k < 23
  · exact g 11 12 mjCd_ok1 (by omega) h1
  by_cases h2 : k < 35
  · exact g 23 12 mjCd_ok2 (by omega) h2
  by_cases h3 : k < 43
  · exact g 35 8 mjCd_ok3 (by omega) h3
  by_cases h4 : k < 50
  · exact g 43 7 mjCd_ok4 (by omega) h4
  by_cases h5 : k < 59
  · exact g 50 9 mjCd_ok5 (by omega) h5
  by_cases h6 : k < 67
  · exact g 59 8 mjCd_ok6 (by omega) h6
  by_cases h7 : k < 70
  · exact g 67 3 mjCd_ok7 (by omega) h7
  by_cases h8 : k < 74
  · exact g 70 4 mjCd_ok8 (by omega) h8
  by_cases h9 : k < 84
  · exact g 74 10 mjCd_ok9 (by omega) h9
  by_cases h10 : k < 90
  · exact g 84 6 mjCd_ok10 (by omega) h10
  by_cases h11 : k < 94
  · exact g 90 4 mjCd_ok11 (by omega) h11
  by_cases h12 : k < 96
  · exact g 94 2 mjCd_ok12 (by omega) h12
  by_cases h13 : k < 104
  · exact g 96 8 mjCd_ok13 (by omega) h13
  by_cases h14 : k < 112
  · exact g 104 8 mjCd_ok14 (by omega) h14
  by_cases h15 : k < 120
  · exact g 112 8 mjCd_ok15 (by omega) h15
  by_cases h16 : k < 124
  · exact g 120 4 mjCd_ok16 (by omega) h16
  by_cases h17 : k < 128
  · exact g 124 4 mjCd_ok17 (by omega) h17
  by_cases h18 : k < 135
  · exact g 128 7 mjCd_ok18 (by omega) h18
  by_cases h19 : k < 141
  · exact g 135 6 mjCd_ok19 (by omega) h19
  by_cases h20 : k < 149
  · exact g 141 8 mjCd_ok20 (by omega) h20
  by_cases h21 : k < 160
  · exact g 149 11 mjCd_ok21 (by omega) h21
  by_cases h22 : k < 170
  · exact g 160 10 mjCd_ok22 (by omega) h22
  by_cases h23 : k < 179
  · exact g 170 9 mjCd_ok23 (by omega) h23
  by_cases h24 : k < 190
  · exact g 179 11 mjCd_ok24 (by omega) h24
  by_cases h25 : k < 194
  · exact g 190 4 mjCd_ok25 (by omega) h25
  by_cases h26 : k < 197
  · exact g 194 3 mjCd_ok26 (by omega) h26
  by_cases h27 : k < 205
  · exact g 197 8 mjCd_ok27 (by omega) h27
  by_cases h28 : k < 211
  · exact g 205 6 mjCd_ok28 (by omega) h28
  by_cases h29 : k < 219
  · exact g 211 8 mjCd_ok29 (by omega) h29
  by_cases h30 : k < 223
  · exact g 219 4 mjCd_ok30 (by omega) h30
  by_cases h31 : k < 227
  · exact g 223 4 mjCd_ok31 (by omega) h31
  by_cases h32 : k < 230
  · exact g 227 3 mjCd_ok32 (by omega) h32
  by_cases h33 : k < 232
  · exact g 230 2 mjCd_ok33 (by omega) h33
  by_cases h34 : k < 235
  · exact g 232 3 mjCd_ok34 (by omega) h34
  by_cases h35 : k < 238
  · exact g 235 3 mjCd_ok35 (by omega) h35
  by_cases h36 : k < 249
  · exact g 238 11 mjCd_ok36 (by omega) h36
  by_cases h37 : k < 255
  · exact g 249 6 mjCd_ok37 (by omega) h37
  by_cases h38 : k < 262
  · exact g 255 7 mjCd_ok38 (by omega) h38
  by_cases h39 : k < 266
  · exact g 262 4 mjCd_ok39 (by omega) h39
  by_cases h40 : k < 269
  · exact g 266 3 mjCd_ok40 (by omega) h40
  by_cases h41 : k < 278
  · exact g 269 9 mjCd_ok41 (by omega) h41
  by_cases h42 : k < 281
  · exact g 278 3 mjCd_ok42 (by omega) h42
  by_cases h43 : k < 287
  · exact g 281 6 mjCd_ok43 (by omega) h43
  by_cases h44 : k < 288
  · exact g 287 1 mjCd_ok44 (by omega) h44
  by_cases h45 : k < 293
  · exact g 288 5 mjCd_ok45 (by omega) h45
  by_cases h46 : k < 299
  · exact g 293 6 mjCd_ok46 (by omega) h46
  by_cases h47 : k < 304
  · exact g 299 5 mjCd_ok47 (by omega) h47
  by_cases h48 : k < 313
  · exact g 304 9 mjCd_ok48 (by omega) h48
  by_cases h49 : k < 319
  · exact g 313 6 mjCd_ok49 (by omega) h49
  by_cases h50 : k < 322
  · exact g 319 3 mjCd_ok50 (by omega) h50
  by_cases h51 : k < 332
  · exact g 322 10 mjCd_ok51 (by omega) h51
  by_cases h52 : k < 339
  · exact g 332 7 mjCd_ok52 (by omega) h52
  obtain rfl : k = 339 := by omega
  exact List.all_eq_true.mpr mjLw_ok
