/-! the code is what the bytes decode to -/
theorem mjSlice {α : Type} {l : List α} {P : α → Bool} (b w j : Nat) (h : ((l.drop b).take w).all P = true) (h1 : b ≤ j) (h2 : j < b + w) (x : α) (hj : l[j]? = some x) : P x = true := by
  have h3 : ((l.drop b).take w)[j - b]? = some x := by
    rw [List.getElem?_take, if_pos (by omega), List.getElem?_drop, show b + (j - b) = j by omega]
    exact hj
  exact List.all_eq_true.mp h _ (List.mem_of_getElem? h3)
theorem mjLw_len : mjC256.length = 187 := by decide +kernel
theorem mjLw_ok : ∀ q ∈ mjC256, decide (decode code q.1 = .ok (q.2.1, q.2.2)) = true := by
  intro q hq
  obtain ⟨j, hj⟩ := List.getElem?_of_mem hq
  have hl : j < 187 := by rw [← mjLw_len]; exact (List.getElem?_eq_some_iff.mp hj).1
  by_cases h0 : j < 20
  · exact mjSlice 0 20 j mjLw_ok0 (by omega) h0 q hj
  by_cases h20 : j < 40
  · exact mjSlice 20 20 j mjLw_ok20 (by omega) h20 q hj
  by_cases h40 : j < 60
  · exact mjSlice 40 20 j mjLw_ok40 (by omega) h40 q hj
  by_cases h60 : j < 80
  · exact mjSlice 60 20 j mjLw_ok60 (by omega) h60 q hj
  by_cases h80 : j < 100
  · exact mjSlice 80 20 j mjLw_ok80 (by omega) h80 q hj
  by_cases h100 : j < 120
  · exact mjSlice 100 20 j mjLw_ok100 (by omega) h100 q hj
  by_cases h120 : j < 140
  · exact mjSlice 120 20 j mjLw_ok120 (by omega) h120 q hj
  by_cases h140 : j < 160
  · exact mjSlice 140 20 j mjLw_ok140 (by omega) h140 q hj
  by_cases h160 : j < 180
  · exact mjSlice 160 20 j mjLw_ok160 (by omega) h160 q hj
  by_cases h180 : j < 200
  · exact mjSlice 180 20 j mjLw_ok180 (by omega) h180 q hj
  omega
theorem mjBg26_len : mjC197.length = 574 := by decide +kernel
theorem mjBg26_ok : ∀ q ∈ mjC197, decide (decode cX17_init q.1 = .ok (q.2.1, q.2.2)) = true := by
  intro q hq
  obtain ⟨j, hj⟩ := List.getElem?_of_mem hq
  have hl : j < 574 := by rw [← mjBg26_len]; exact (List.getElem?_eq_some_iff.mp hj).1
  by_cases h0 : j < 20
  · exact mjSlice 0 20 j mjBg26_ok0 (by omega) h0 q hj
  by_cases h20 : j < 40
  · exact mjSlice 20 20 j mjBg26_ok20 (by omega) h20 q hj
  by_cases h40 : j < 60
  · exact mjSlice 40 20 j mjBg26_ok40 (by omega) h40 q hj
  by_cases h60 : j < 80
  · exact mjSlice 60 20 j mjBg26_ok60 (by omega) h60 q hj
  by_cases h80 : j < 100
  · exact mjSlice 80 20 j mjBg26_ok80 (by omega) h80 q hj
  by_cases h100 : j < 120
  · exact mjSlice 100 20 j mjBg26_ok100 (by omega) h100 q hj
  by_cases h120 : j < 140
  · exact mjSlice 120 20 j mjBg26_ok120 (by omega) h120 q hj
  by_cases h140 : j < 160
  · exact mjSlice 140 20 j mjBg26_ok140 (by omega) h140 q hj
  by_cases h160 : j < 180
  · exact mjSlice 160 20 j mjBg26_ok160 (by omega) h160 q hj
  by_cases h180 : j < 200
  · exact mjSlice 180 20 j mjBg26_ok180 (by omega) h180 q hj
  by_cases h200 : j < 220
  · exact mjSlice 200 20 j mjBg26_ok200 (by omega) h200 q hj
  by_cases h220 : j < 240
  · exact mjSlice 220 20 j mjBg26_ok220 (by omega) h220 q hj
  by_cases h240 : j < 260
  · exact mjSlice 240 20 j mjBg26_ok240 (by omega) h240 q hj
  by_cases h260 : j < 280
  · exact mjSlice 260 20 j mjBg26_ok260 (by omega) h260 q hj
  by_cases h280 : j < 300
  · exact mjSlice 280 20 j mjBg26_ok280 (by omega) h280 q hj
  by_cases h300 : j < 320
  · exact mjSlice 300 20 j mjBg26_ok300 (by omega) h300 q hj
  by_cases h320 : j < 340
  · exact mjSlice 320 20 j mjBg26_ok320 (by omega) h320 q hj
  by_cases h340 : j < 360
  · exact mjSlice 340 20 j mjBg26_ok340 (by omega) h340 q hj
  by_cases h360 : j < 380
  · exact mjSlice 360 20 j mjBg26_ok360 (by omega) h360 q hj
  by_cases h380 : j < 400
  · exact mjSlice 380 20 j mjBg26_ok380 (by omega) h380 q hj
  by_cases h400 : j < 420
  · exact mjSlice 400 20 j mjBg26_ok400 (by omega) h400 q hj
  by_cases h420 : j < 440
  · exact mjSlice 420 20 j mjBg26_ok420 (by omega) h420 q hj
  by_cases h440 : j < 460
  · exact mjSlice 440 20 j mjBg26_ok440 (by omega) h440 q hj
  by_cases h460 : j < 480
  · exact mjSlice 460 20 j mjBg26_ok460 (by omega) h460 q hj
  by_cases h480 : j < 500
  · exact mjSlice 480 20 j mjBg26_ok480 (by omega) h480 q hj
  by_cases h500 : j < 520
  · exact mjSlice 500 20 j mjBg26_ok500 (by omega) h500 q hj
  by_cases h520 : j < 540
  · exact mjSlice 520 20 j mjBg26_ok520 (by omega) h520 q hj
  by_cases h540 : j < 560
  · exact mjSlice 540 20 j mjBg26_ok540 (by omega) h540 q hj
  by_cases h560 : j < 580
  · exact mjSlice 560 20 j mjBg26_ok560 (by omega) h560 q hj
  omega
theorem mjCd_ok (k : Nat) (h : k < 257) : ((mjCode k).all fun q => decide (decode (mjB k) q.1 = .ok (q.2.1, q.2.2))) = true := by
  have g : ∀ (b w : Nat), (((List.range w).map (· + b)).all fun k => (mjCode k).all fun q => decide (decode (mjB k) q.1 = .ok (q.2.1, q.2.2))) = true → b ≤ k → k < b + w → ((mjCode k).all fun q => decide (decode (mjB k) q.1 = .ok (q.2.1, q.2.2))) = true := fun b w hb h1 h2 => List.all_eq_true.mp hb k (List.mem_map.mpr ⟨k - b, List.mem_range.mpr (by omega), by omega⟩)
  by_cases h0 : k < 11
  · exact g 0 11 mjCd_ok0 (by omega) h0
  by_cases h1 : k < 23
  · exact g 11 12 mjCd_ok1 (by omega) h1
  by_cases h2 : k < 35
  · exact g 23 12 mjCd_ok2 (by omega) h2
  by_cases h3 : k < 43
  · exact g 35 8 mjCd_ok3 (by omega) h3
  by_cases h4 : k < 50
  · exact g 43 7 mjCd_ok4 (by omega) h4
  by_cases h5 : k < 59
  · exact g 50 9 mjCd_ok5 (by omega) h5
  by_cases h6 : k < 67
  · exact g 59 8 mjCd_ok6 (by omega) h6
  by_cases h7 : k < 70
  · exact g 67 3 mjCd_ok7 (by omega) h7
  by_cases h8 : k < 73
  · exact g 70 3 mjCd_ok8 (by omega) h8
  by_cases h9 : k < 83
  · exact g 73 10 mjCd_ok9 (by omega) h9
  by_cases h10 : k < 89
  · exact g 83 6 mjCd_ok10 (by omega) h10
  by_cases h11 : k < 93
  · exact g 89 4 mjCd_ok11 (by omega) h11
  by_cases h12 : k < 98
  · exact g 93 5 mjCd_ok12 (by omega) h12
  by_cases h13 : k < 108
  · exact g 98 10 mjCd_ok13 (by omega) h13
  by_cases h14 : k < 113
  · exact g 108 5 mjCd_ok14 (by omega) h14
  by_cases h15 : k < 115
  · exact g 113 2 mjCd_ok15 (by omega) h15
  by_cases h16 : k < 120
  · exact g 115 5 mjCd_ok16 (by omega) h16
  by_cases h17 : k < 125
  · exact g 120 5 mjCd_ok17 (by omega) h17
  by_cases h18 : k < 133
  · exact g 125 8 mjCd_ok18 (by omega) h18
  by_cases h19 : k < 141
  · exact g 133 8 mjCd_ok19 (by omega) h19
  by_cases h20 : k < 151
  · exact g 141 10 mjCd_ok20 (by omega) h20
  by_cases h21 : k < 162
  · exact g 151 11 mjCd_ok21 (by omega) h21
  by_cases h22 : k < 167
  · exact g 162 5 mjCd_ok22 (by omega) h22
  by_cases h23 : k < 185
  · exact g 167 18 mjCd_ok23 (by omega) h23
  by_cases h24 : k < 191
  · exact g 185 6 mjCd_ok24 (by omega) h24
  by_cases h25 : k < 197
  · exact g 191 6 mjCd_ok25 (by omega) h25
  by_cases h26 : k < 198
  · obtain rfl : k = 197 := by omega
    exact List.all_eq_true.mpr mjBg26_ok
  by_cases h27 : k < 200
  · exact g 198 2 mjCd_ok27 (by omega) h27
  by_cases h28 : k < 201
  · exact g 200 1 mjCd_ok28 (by omega) h28
  by_cases h29 : k < 202
  · exact g 201 1 mjCd_ok29 (by omega) h29
  by_cases h30 : k < 210
  · exact g 202 8 mjCd_ok30 (by omega) h30
  by_cases h31 : k < 224
  · exact g 210 14 mjCd_ok31 (by omega) h31
  by_cases h32 : k < 248
  · exact g 224 24 mjCd_ok32 (by omega) h32
  by_cases h33 : k < 256
  · exact g 248 8 mjCd_ok33 (by omega) h33
  obtain rfl : k = 256 := by omega
  exact List.all_eq_true.mpr mjLw_ok
