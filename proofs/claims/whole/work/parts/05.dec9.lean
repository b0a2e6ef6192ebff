theorem mjCd_ok (k : Nat) (h : k < 340) : ((mjCode k).all fun q => decide (decode (mjB k) q.1 = .ok (q.2.1, q.2.2))) = true := by
  have g : ∀ (b w : Nat), (((List.range w).map (· + b)).all fun k => (mjCode k).all fun q => decide (decode (mjB k) q.1 = .ok (q.2.1, q.2.2))) = true → b ≤ k → k < b + w → ((mjCode k).all fun q => decide (decode (mjB k) q.1 = .ok (q.2.1, q.2.2))) = true := fun b w hb h1 h2 => List.all_eq_true.mp hb k (List.mem_map.mpr ⟨k - b, List.mem_range.mpr (by omega), by omega⟩)
  by_cases h0 : k < 11
  · exact g 0 11 mjCd_ok0 (by omega) h0
  by_cases h1 : k < 23
  · exact g 11 12 mjCd_ok1 (by omega) h1
  by_cases h2 : k < 35
  · exact g 23 12 mjCd_ok2 (by omega) h2
  by_cases h3 : k < 43
  · exact g 35 8 mjCd_ok3 (by omega) h3
  by_cases h4 : k < 50
  · exact g 43 7 mjCd_ok4 (by omega) h4
  by_cases h5 : k < 59
  · exact g 50 9 mjCd_ok5 (by omega) h5
  by_cases h6 : k < 67
  · exact g 59 8 mjCd_ok6 (by omega) h6
  by_cases h7 : k < 70
  · exact g 67 3 mjCd_ok7 (by omega) h7
  by_cases h8 : k < 74
  · exact g 70 4 mjCd_ok8 (by omega) h8
  by_cases h9 : k < 84
  · exact g 74 10 mjCd_ok9 (by omega) h9
  by_cases h10 : k < 90
  · exact g 84 6 mjCd_ok10 (by omega) h10
  by_cases h11 : k < 94
  · exact g 90 4 mjCd_ok11 (by omega) h11
  by_cases h12 : k < 96
  · exact g 94 2 mjCd_ok12 (by omega) h12
  by_cases h13 : k < 104
  · exact g 96 8 mjCd_ok13 (by omega) h13
  by_cases h14 : k < 112
  · exact g 104 8 mjCd_ok14 (by omega) h14
  by_cases h15 : k < 120
  · exact g 112 8 mjCd_ok15 (by omega) h15
  by_cases h16 : k < 124
  · exact g 120 4 mjCd_ok16 (by omega) h16
  by_cases h17 : k < 128
  · exact g 124 4 mjCd_ok17 (by omega) h17
  by_cases h18 : k < 135
  · exact g 128 7 mjCd_ok18 (by omega) h18
  by_cases h19 : k < 141
  · exact g 135 6 mjCd_ok19 (by omega) h19
  by_cases h20 : k < 149
  · exact g 141 8 mjCd_ok20 (by omega) h20
  by_cases h21 : k < 160
  · exact g 149 11 mjCd_ok21 (by omega) h21
  by_cases h22 : k < 170
  · exact g 160 10 mjCd_ok22 (by omega) h22
  by_cases h23 : k < 179
  · exact g 170 9 mjCd_ok23 (by omega) h23
  by_cases h24 : k < 190
  · exact g 179 11 mjCd_ok24 (by omega) h24
  by_cases h25 : k < 194
  · exact g 190 4 mjCd_ok25 (by omega) h25
  by_cases h26 : k < 197
  · exact g 194 3 mjCd_ok26 (by omega) h26
  by_cases h27 : k < 205
  · exact g 197 8 mjCd_ok27 (by omega) h27
  by_cases h28 : k < 211
  · exact g 205 6 mjCd_ok28 (by omega) h28
  by_cases h29 : k < 219
  · exact g 211 8 mjCd_ok29 (by omega) h29
  by_cases h30 : k < 223
  · exact g 219 4 mjCd_ok30 (by omega) h30
  by_cases h31 : k < 227
  · exact g 223 4 mjCd_ok31 (by omega) h31
  by_cases h32 : k < 230
  · exact g 227 3 mjCd_ok32 (by omega) h32
  by_cases h33 : k < 232
  · exact g 230 2 mjCd_ok33 (by omega) h33
  by_cases h34 : k < 235
  · exact g 232 3 mjCd_ok34 (by omega) h34
  by_cases h35 : k < 238
  · exact g 235 3 mjCd_ok35 (by omega) h35
  by_cases h36 : k < 249
  · exact g 238 11 mjCd_ok36 (by omega) h36
  by_cases h37 : k < 255
  · exact g 249 6 mjCd_ok37 (by omega) h37
  by_cases h38 : k < 262
  · exact g 255 7 mjCd_ok38 (by omega) h38
  by_cases h39 : k < 266
  · exact g 262 4 mjCd_ok39 (by omega) h39
  by_cases h40 : k < 269
  · exact g 266 3 mjCd_ok40 (by omega) h40
  by_cases h41 : k < 278
  · exact g 269 9 mjCd_ok41 (by omega) h41
  by_cases h42 : k < 281
  · exact g 278 3 mjCd_ok42 (by omega) h42
  by_cases h43 : k < 287
  · exact g 281 6 mjCd_ok43 (by omega) h43
  by_cases h44 : k < 288
  · exact g 287 1 mjCd_ok44 (by omega) h44
  by_cases h45 : k < 293
  · exact g 288 5 mjCd_ok45 (by omega) h45
  by_cases h46 : k < 299
  · exact g 293 6 mjCd_ok46 (by omega) h46
  by_cases h47 : k < 304
  · exact g 299 5 mjCd_ok47 (by omega) h47
  by_cases h48 : k < 313
  · exact g 304 9 mjCd_ok48 (by omega) h48
  by_cases h49 : k < 319
  · exact g 313 6 mjCd_ok49 (by omega) h49
  by_cases h50 : k < 322
  · exact g 319 3 mjCd_ok50 (by omega) h50
  by_cases h51 : k < 332
  · exact g 322 10 mjCd_ok51 (by omega) h51
  by_cases h52 : k < 339
  · exact g 332 7 mjCd_ok52 (by omega) h52
  by_cases h53 : k < 340
  · exact g 339 1 mjCd_ok53 (by omega) h53
  omega
