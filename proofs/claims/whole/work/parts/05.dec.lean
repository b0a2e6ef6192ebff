set_option maxRecDepth 100000 in
theorem mjCd_ok0 : (((List.range 5).map (· + 0)).all fun k => (mjCode k).all fun q => decide (decode (mjB k) q.1 = .ok (q.2.1, q.2.2))) = true := by decide +kernel
set_option maxRecDepth 100000 in
theorem mjCd_ok1 : (((List.range 5).map (· + 5)).all fun k => (mjCode k).all fun q => decide (decode (mjB k) q.1 = .ok (q.2.1, q.2.2))) = true := by decide +kernel
set_option maxRecDepth 100000 in
theorem mjCd_ok2 : (((List.range 5).map (· + 10)).all fun k => (mjCode k).all fun q => decide (decode (mjB k) q.1 = .ok (q.2.1, q.2.2))) = true := by decide +kernel
set_option maxRecDepth 100000 in
theorem mjCd_ok3 : (((List.range 5).map (· + 15)).all fun k => (mjCode k).all fun q => decide (decode (mjB k) q.1 = .ok (q.2.1, q.2.2))) = true := by decide +kernel
set_option maxRecDepth 100000 in
theorem mjCd_ok4 : (((List.range 5).map (· + 20)).all fun k => (mjCode k).all fun q => decide (decode (mjB k) q.1 = .ok (q.2.1, q.2.2))) = true := by decide +kernel
set_option maxRecDepth 100000 in
theorem mjCd_ok5 : (((List.range 5).map (· + 25)).all fun k => (mjCode k).all fun q => decide (decode (mjB k) q.1 = .ok (q.2.1, q.2.2))) = true := by decide +kernel
set_option maxRecDepth 100000 in
theorem mjCd_ok6 : (((List.range 5).map (· + 30)).all fun k => (mjCode k).all fun q => decide (decode (mjB k) q.1 = .ok (q.2.1, q.2.2))) = true := by decide +kernel
set_option maxRecDepth 100000 in
theorem mjCd_ok7 : (((List.range 5).map (· + 35)).all fun k => (mjCode k).all fun q => decide (decode (mjB k) q.1 = .ok (q.2.1, q.2.2))) = true := by decide +kernel
set_option maxRecDepth 100000 in
theorem mjCd_ok8 : (((List.range 5).map (· + 40)).all fun k => (mjCode k).all fun q => decide (decode (mjB k) q.1 = .ok (q.2.1, q.2.2))) = true := by decide +kernel
set_option maxRecDepth 100000 in
theorem mjCd_ok9 : (((List.range 5).map (· + 45)).all fun k => (mjCode k).all fun q => decide (decode (mjB k) q.1 = .ok (q.2.1, q.2.2))) = true := by decide +kernel
set_option maxRecDepth 100000 in
theorem mjCd_ok10 : (((List.range 5).map (· + 50)).all fun k => (mjCode k).all fun q => decide (decode (mjB k) q.1 = .ok (q.2.1, q.2.2))) = true := by decide +kernel
set_option maxRecDepth 100000 in
theorem mjCd_ok11 : (((List.range 5).map (· + 55)).all fun k => (mjCode k).all fun q => decide (decode (mjB k) q.1 = .ok (q.2.1, q.2.2))) = true := by decide +kernel
set_option maxRecDepth 100000 in
theorem mjCd_ok12 : (((List.range 5).map (· + 60)).all fun k => (mjCode k).all fun q => decide (decode (mjB k) q.1 = .ok (q.2.1, q.2.2))) = true := by decide +kernel
set_option maxRecDepth 100000 in
theorem mjCd_ok13 : (((List.range 5).map (· + 65)).all fun k => (mjCode k).all fun q => decide (decode (mjB k) q.1 = .ok (q.2.1, q.2.2))) = true := by decide +kernel
set_option maxRecDepth 100000 in
theorem mjCd_ok14 : (((List.range 5).map (· + 70)).all fun k => (mjCode k).all fun q => decide (decode (mjB k) q.1 = .ok (q.2.1, q.2.2))) = true := by decide +kernel
set_option maxRecDepth 100000 in
theorem mjCd_ok15 : (((List.range 5).map (· + 75)).all fun k => (mjCode k).all fun q => decide (decode (mjB k) q.1 = .ok (q.2.1, q.2.2))) = true := by decide +kernel
set_option maxRecDepth 100000 in
theorem mjCd_ok16 : (((List.range 5).map (· + 80)).all fun k => (mjCode k).all fun q => decide (decode (mjB k) q.1 = .ok (q.2.1, q.2.2))) = true := by decide +kernel
set_option maxRecDepth 100000 in
theorem mjCd_ok17 : (((List.range 5).map (· + 85)).all fun k => (mjCode k).all fun q => decide (decode (mjB k) q.1 = .ok (q.2.1, q.2.2))) = true := by decide +kernel
set_option maxRecDepth 100000 in
theorem mjCd_ok18 : (((List.range 5).map (· + 90)).all fun k => (mjCode k).all fun q => decide (decode (mjB k) q.1 = .ok (q.2.1, q.2.2))) = true := by decide +kernel
set_option maxRecDepth 100000 in
theorem mjCd_ok19 : (((List.range 5).map (· + 95)).all fun k => (mjCode k).all fun q => decide (decode (mjB k) q.1 = .ok (q.2.1, q.2.2))) = true := by decide +kernel
set_option maxRecDepth 100000 in
theorem mjCd_ok20 : (((List.range 5).map (· + 100)).all fun k => (mjCode k).all fun q => decide (decode (mjB k) q.1 = .ok (q.2.1, q.2.2))) = true := by decide +kernel
set_option maxRecDepth 100000 in
theorem mjCd_ok21 : (((List.range 5).map (· + 105)).all fun k => (mjCode k).all fun q => decide (decode (mjB k) q.1 = .ok (q.2.1, q.2.2))) = true := by decide +kernel
set_option maxRecDepth 100000 in
theorem mjCd_ok22 : (((List.range 5).map (· + 110)).all fun k => (mjCode k).all fun q => decide (decode (mjB k) q.1 = .ok (q.2.1, q.2.2))) = true := by decide +kernel
set_option maxRecDepth 100000 in
theorem mjCd_ok23 : (((List.range 5).map (· + 115)).all fun k => (mjCode k).all fun q => decide (decode (mjB k) q.1 = .ok (q.2.1, q.2.2))) = true := by decide +kernel
set_option maxRecDepth 100000 in
theorem mjCd_ok24 : (((List.range 5).map (· + 120)).all fun k => (mjCode k).all fun q => decide (decode (mjB k) q.1 = .ok (q.2.1, q.2.2))) = true := by decide +kernel
set_option maxRecDepth 100000 in
theorem mjCd_ok25 : (((List.range 5).map (· + 125)).all fun k => (mjCode k).all fun q => decide (decode (mjB k) q.1 = .ok (q.2.1, q.2.2))) = true := by decide +kernel
set_option maxRecDepth 100000 in
theorem mjCd_ok26 : (((List.range 5).map (· + 130)).all fun k => (mjCode k).all fun q => decide (decode (mjB k) q.1 = .ok (q.2.1, q.2.2))) = true := by decide +kernel
set_option maxRecDepth 100000 in
theorem mjCd_ok27 : (((List.range 5).map (· + 135)).all fun k => (mjCode k).all fun q => decide (decode (mjB k) q.1 = .ok (q.2.1, q.2.2))) = true := by decide +kernel
set_option maxRecDepth 100000 in
theorem mjCd_ok28 : (((List.range 5).map (· + 140)).all fun k => (mjCode k).all fun q => decide (decode (mjB k) q.1 = .ok (q.2.1, q.2.2))) = true := by decide +kernel
set_option maxRecDepth 100000 in
theorem mjCd_ok29 : (((List.range 5).map (· + 145)).all fun k => (mjCode k).all fun q => decide (decode (mjB k) q.1 = .ok (q.2.1, q.2.2))) = true := by decide +kernel
set_option maxRecDepth 100000 in
theorem mjCd_ok30 : (((List.range 5).map (· + 150)).all fun k => (mjCode k).all fun q => decide (decode (mjB k) q.1 = .ok (q.2.1, q.2.2))) = true := by decide +kernel
set_option maxRecDepth 100000 in
theorem mjCd_ok31 : (((List.range 5).map (· + 155)).all fun k => (mjCode k).all fun q => decide (decode (mjB k) q.1 = .ok (q.2.1, q.2.2))) = true := by decide +kernel
set_option maxRecDepth 100000 in
theorem mjCd_ok32 : (((List.range 5).map (· + 160)).all fun k => (mjCode k).all fun q => decide (decode (mjB k) q.1 = .ok (q.2.1, q.2.2))) = true := by decide +kernel
set_option maxRecDepth 100000 in
theorem mjCd_ok33 : (((List.range 5).map (· + 165)).all fun k => (mjCode k).all fun q => decide (decode (mjB k) q.1 = .ok (q.2.1, q.2.2))) = true := by decide +kernel
set_option maxRecDepth 100000 in
theorem mjCd_ok34 : (((List.range 5).map (· + 170)).all fun k => (mjCode k).all fun q => decide (decode (mjB k) q.1 = .ok (q.2.1, q.2.2))) = true := by decide +kernel
set_option maxRecDepth 100000 in
theorem mjCd_ok35 : (((List.range 5).map (· + 175)).all fun k => (mjCode k).all fun q => decide (decode (mjB k) q.1 = .ok (q.2.1, q.2.2))) = true := by decide +kernel
set_option maxRecDepth 100000 in
theorem mjCd_ok36 : (((List.range 5).map (· + 180)).all fun k => (mjCode k).all fun q => decide (decode (mjB k) q.1 = .ok (q.2.1, q.2.2))) = true := by decide +kernel
set_option maxRecDepth 100000 in
theorem mjCd_ok37 : (((List.range 5).map (· + 185)).all fun k => (mjCode k).all fun q => decide (decode (mjB k) q.1 = .ok (q.2.1, q.2.2))) = true := by decide +kernel
set_option maxRecDepth 100000 in
theorem mjCd_ok38 : (((List.range 5).map (· + 190)).all fun k => (mjCode k).all fun q => decide (decode (mjB k) q.1 = .ok (q.2.1, q.2.2))) = true := by decide +kernel
set_option maxRecDepth 100000 in
theorem mjCd_ok39 : (((List.range 5).map (· + 195)).all fun k => (mjCode k).all fun q => decide (decode (mjB k) q.1 = .ok (q.2.1, q.2.2))) = true := by decide +kernel
set_option maxRecDepth 100000 in
theorem mjCd_ok40 : (((List.range 5).map (· + 200)).all fun k => (mjCode k).all fun q => decide (decode (mjB k) q.1 = .ok (q.2.1, q.2.2))) = true := by decide +kernel
set_option maxRecDepth 100000 in
theorem mjCd_ok41 : (((List.range 5).map (· + 205)).all fun k => (mjCode k).all fun q => decide (decode (mjB k) q.1 = .ok (q.2.1, q.2.2))) = true := by decide +kernel
set_option maxRecDepth 100000 in
theorem mjCd_ok42 : (((List.range 5).map (· + 210)).all fun k => (mjCode k).all fun q => decide (decode (mjB k) q.1 = .ok (q.2.1, q.2.2))) = true := by decide +kernel
set_option maxRecDepth 100000 in
theorem mjCd_ok43 : (((List.range 5).map (· + 215)).all fun k => (mjCode k).all fun q => decide (decode (mjB k) q.1 = .ok (q.2.1, q.2.2))) = true := by decide +kernel
set_option maxRecDepth 100000 in
theorem mjCd_ok44 : (((List.range 5).map (· + 220)).all fun k => (mjCode k).all fun q => decide (decode (mjB k) q.1 = .ok (q.2.1, q.2.2))) = true := by decide +kernel
set_option maxRecDepth 100000 in
theorem mjCd_ok45 : (((List.range 5).map (· + 225)).all fun k => (mjCode k).all fun q => decide (decode (mjB k) q.1 = .ok (q.2.1, q.2.2))) = true := by decide +kernel
set_option maxRecDepth 100000 in
theorem mjCd_ok46 : (((List.range 5).map (· + 230)).all fun k => (mjCode k).all fun q => decide (decode (mjB k) q.1 = .ok (q.2.1, q.2.2))) = true := by decide +kernel
set_option maxRecDepth 100000 in
theorem mjCd_ok47 : (((List.range 5).map (· + 235)).all fun k => (mjCode k).all fun q => decide (decode (mjB k) q.1 = .ok (q.2.1, q.2.2))) = true := by decide +kernel
set_option maxRecDepth 100000 in
theorem mjCd_ok48 : (((List.range 5).map (· + 240)).all fun k => (mjCode k).all fun q => decide (decode (mjB k) q.1 = .ok (q.2.1, q.2.2))) = true := by decide +kernel
set_option maxRecDepth 100000 in
theorem mjCd_ok49 : (((List.range 5).map (· + 245)).all fun k => (mjCode k).all fun q => decide (decode (mjB k) q.1 = .ok (q.2.1, q.2.2))) = true := by decide +kernel
set_option maxRecDepth 100000 in
theorem mjCd_ok50 : (((List.range 5).map (· + 250)).all fun k => (mjCode k).all fun q => decide (decode (mjB k) q.1 = .ok (q.2.1, q.2.2))) = true := by decide +kernel
set_option maxRecDepth 100000 in
theorem mjCd_ok51 : (((List.range 5).map (· + 255)).all fun k => (mjCode k).all fun q => decide (decode (mjB k) q.1 = .ok (q.2.1, q.2.2))) = true := by decide +kernel
set_option maxRecDepth 100000 in
theorem mjCd_ok52 : (((List.range 5).map (· + 260)).all fun k => (mjCode k).all fun q => decide (decode (mjB k) q.1 = .ok (q.2.1, q.2.2))) = true := by decide +kernel
set_option maxRecDepth 100000 in
theorem mjCd_ok53 : (((List.range 5).map (· + 265)).all fun k => (mjCode k).all fun q => decide (decode (mjB k) q.1 = .ok (q.2.1, q.2.2))) = true := by decide +kernel
set_option maxRecDepth 100000 in
theorem mjCd_ok54 : (((List.range 5).map (· + 270)).all fun k => (mjCode k).all fun q => decide (decode (mjB k) q.1 = .ok (q.2.1, q.2.2))) = true := by decide +kernel
set_option maxRecDepth 100000 in
theorem mjCd_ok55 : (((List.range 5).map (· + 275)).all fun k => (mjCode k).all fun q => decide (decode (mjB k) q.1 = .ok (q.2.1, q.2.2))) = true := by decide +kernel
set_option maxRecDepth 100000 in
theorem mjCd_ok56 : (((List.range 5).map (· + 280)).all fun k => (mjCode k).all fun q => decide (decode (mjB k) q.1 = .ok (q.2.1, q.2.2))) = true := by decide +kernel
set_option maxRecDepth 100000 in
theorem mjCd_ok57 : (((List.range 5).map (· + 285)).all fun k => (mjCode k).all fun q => decide (decode (mjB k) q.1 = .ok (q.2.1, q.2.2))) = true := by decide +kernel
set_option maxRecDepth 100000 in
theorem mjCd_ok58 : (((List.range 5).map (· + 290)).all fun k => (mjCode k).all fun q => decide (decode (mjB k) q.1 = .ok (q.2.1, q.2.2))) = true := by decide +kernel
set_option maxRecDepth 100000 in
theorem mjCd_ok59 : (((List.range 5).map (· + 295)).all fun k => (mjCode k).all fun q => decide (decode (mjB k) q.1 = .ok (q.2.1, q.2.2))) = true := by decide +kernel
set_option maxRecDepth 100000 in
theorem mjCd_ok60 : (((List.range 5).map (· + 300)).all fun k => (mjCode k).all fun q => decide (decode (mjB k) q.1 = .ok (q.2.1, q.2.2))) = true := by decide +kernel
set_option maxRecDepth 100000 in
theorem mjCd_ok61 : (((List.range 5).map (· + 305)).all fun k => (mjCode k).all fun q => decide (decode (mjB k) q.1 = .ok (q.2.1, q.2.2))) = true := by decide +kernel
set_option maxRecDepth 100000 in
theorem mjCd_ok62 : (((List.range 5).map (· + 310)).all fun k => (mjCode k).all fun q => decide (decode (mjB k) q.1 = .ok (q.2.1, q.2.2))) = true := by decide +kernel
set_option maxRecDepth 100000 in
theorem mjCd_ok63 : (((List.range 5).map (· + 315)).all fun k => (mjCode k).all fun q => decide (decode (mjB k) q.1 = .ok (q.2.1, q.2.2))) = true := by decide +kernel
set_option maxRecDepth 100000 in
theorem mjCd_ok64 : (((List.range 5).map (· + 320)).all fun k => (mjCode k).all fun q => decide (decode (mjB k) q.1 = .ok (q.2.1, q.2.2))) = true := by decide +kernel
set_option maxRecDepth 100000 in
theorem mjCd_ok65 : (((List.range 5).map (· + 325)).all fun k => (mjCode k).all fun q => decide (decode (mjB k) q.1 = .ok (q.2.1, q.2.2))) = true := by decide +kernel
set_option maxRecDepth 100000 in
theorem mjCd_ok66 : (((List.range 5).map (· + 330)).all fun k => (mjCode k).all fun q => decide (decode (mjB k) q.1 = .ok (q.2.1, q.2.2))) = true := by decide +kernel
set_option maxRecDepth 100000 in
theorem mjCd_ok67 : (((List.range 5).map (· + 335)).all fun k => (mjCode k).all fun q => decide (decode (mjB k) q.1 = .ok (q.2.1, q.2.2))) = true := by decide +kernel
theorem mjCd_ok (k : Nat) (h : k < 340) : ((mjCode k).all fun q => decide (decode (mjB k) q.1 = .ok (q.2.1, q.2.2))) = true := by
  have g : ∀ (b w : Nat), (((List.range w).map (· + b)).all fun k => (mjCode k).all fun q => decide (decode (mjB k) q.1 = .ok (q.2.1, q.2.2))) = true → b ≤ k → k < b + w → ((mjCode k).all fun q => decide (decode (mjB k) q.1 = .ok (q.2.1, q.2.2))) = true := fun b w hb h1 h2 => List.all_eq_true.mp hb k (List.mem_map.mpr ⟨k - b, List.mem_range.mpr (by omega), by omega⟩)
  by_cases h0 : k < 5
  · exact g 0 5 mjCd_ok0 (by omega) h0
  by_cases h1 : k < 10
  · exact g 5 5 mjCd_ok1 (by omega) h1
  by_cases h2 : k < 15
  · exact g 10 5 mjCd_ok2 (by omega) h2
  by_cases h3 : k < 20
  · exact g 15 5 mjCd_ok3 (by omega) h3
  by_cases h4 : k < 25
  · exact g 20 5 mjCd_ok4 (by omega) h4
  by_cases h5 : k < 30
  · exact g 25 5 mjCd_ok5 (by omega) h5
  by_cases h6 : k < 35
  · exact g 30 5 mjCd_ok6 (by omega) h6
  by_cases h7 : k < 40
  · exact g 35 5 mjCd_ok7 (by omega) h7
  by_cases h8 : k < 45
  · exact g 40 5 mjCd_ok8 (by omega) h8
  by_cases h9 : k < 50
  · exact g 45 5 mjCd_ok9 (by omega) h9
  by_cases h10 : k < 55
  · exact g 50 5 mjCd_ok10 (by omega) h10
  by_cases h11 : k < 60
  · exact g 55 5 mjCd_ok11 (by omega) h11
  by_cases h12 : k < 65
  · exact g 60 5 mjCd_ok12 (by omega) h12
  by_cases h13 : k < 70
  · exact g 65 5 mjCd_ok13 (by omega) h13
  by_cases h14 : k < 75
  · exact g 70 5 mjCd_ok14 (by omega) h14
  by_cases h15 : k < 80
  · exact g 75 5 mjCd_ok15 (by omega) h15
  by_cases h16 : k < 85
  · exact g 80 5 mjCd_ok16 (by omega) h16
  by_cases h17 : k < 90
  · exact g 85 5 mjCd_ok17 (by omega) h17
  by_cases h18 : k < 95
  · exact g 90 5 mjCd_ok18 (by omega) h18
  by_cases h19 : k < 100
  · exact g 95 5 mjCd_ok19 (by omega) h19
  by_cases h20 : k < 105
  · exact g 100 5 mjCd_ok20 (by omega) h20
  by_cases h21 : k < 110
  · exact g 105 5 mjCd_ok21 (by omega) h21
  by_cases h22 : k < 115
  · exact g 110 5 mjCd_ok22 (by omega) h22
  by_cases h23 : k < 120
  · exact g 115 5 mjCd_ok23 (by omega) h23
  by_cases h24 : k < 125
  · exact g 120 5 mjCd_ok24 (by omega) h24
  by_cases h25 : k < 130
  · exact g 125 5 mjCd_ok25 (by omega) h25
  by_cases h26 : k < 135
  · exact g 130 5 mjCd_ok26 (by omega) h26
  by_cases h27 : k < 140
  · exact g 135 5 mjCd_ok27 (by omega) h27
  by_cases h28 : k < 145
  · exact g 140 5 mjCd_ok28 (by omega) h28
  by_cases h29 : k < 150
  · exact g 145 5 mjCd_ok29 (by omega) h29
  by_cases h30 : k < 155
  · exact g 150 5 mjCd_ok30 (by omega) h30
  by_cases h31 : k < 160
  · exact g 155 5 mjCd_ok31 (by omega) h31
  by_cases h32 : k < 165
  · exact g 160 5 mjCd_ok32 (by omega) h32
  by_cases h33 : k < 170
  · exact g 165 5 mjCd_ok33 (by omega) h33
  by_cases h34 : k < 175
  · exact g 170 5 mjCd_ok34 (by omega) h34
  by_cases h35 : k < 180
  · exact g 175 5 mjCd_ok35 (by omega) h35
  by_cases h36 : k < 185
  · exact g 180 5 mjCd_ok36 (by omega) h36
  by_cases h37 : k < 190
  · exact g 185 5 mjCd_ok37 (by omega) h37
  by_cases h38 : k < 195
  · exact g 190 5 mjCd_ok38 (by omega) h38
  by_cases h39 : k < 200
  · exact g 195 5 mjCd_ok39 (by omega) h39
  by_cases h40 : k < 205
  · exact g 200 5 mjCd_ok40 (by omega) h40
  by_cases h41 : k < 210
  · exact g 205 5 mjCd_ok41 (by omega) h41
  by_cases h42 : k < 215
  · exact g 210 5 mjCd_ok42 (by omega) h42
  by_cases h43 : k < 220
  · exact g 215 5 mjCd_ok43 (by omega) h43
  by_cases h44 : k < 225
  · exact g 220 5 mjCd_ok44 (by omega) h44
  by_cases h45 : k < 230
  · exact g 225 5 mjCd_ok45 (by omega) h45
  by_cases h46 : k < 235
  · exact g 230 5 mjCd_ok46 (by omega) h46
  by_cases h47 : k < 240
  · exact g 235 5 mjCd_ok47 (by omega) h47
  by_cases h48 : k < 245
  · exact g 240 5 mjCd_ok48 (by omega) h48
  by_cases h49 : k < 250
  · exact g 245 5 mjCd_ok49 (by omega) h49
  by_cases h50 : k < 255
  · exact g 250 5 mjCd_ok50 (by omega) h50
  by_cases h51 : k < 260
  · exact g 255 5 mjCd_ok51 (by omega) h51
  by_cases h52 : k < 265
  · exact g 260 5 mjCd_ok52 (by omega) h52
  by_cases h53 : k < 270
  · exact g 265 5 mjCd_ok53 (by omega) h53
  by_cases h54 : k < 275
  · exact g 270 5 mjCd_ok54 (by omega) h54
  by_cases h55 : k < 280
  · exact g 275 5 mjCd_ok55 (by omega) h55
  by_cases h56 : k < 285
  · exact g 280 5 mjCd_ok56 (by omega) h56
  by_cases h57 : k < 290
  · exact g 285 5 mjCd_ok57 (by omega) h57
  by_cases h58 : k < 295
  · exact g 290 5 mjCd_ok58 (by omega) h58
  by_cases h59 : k < 300
  · exact g 295 5 mjCd_ok59 (by omega) h59
  by_cases h60 : k < 305
  · exact g 300 5 mjCd_ok60 (by omega) h60
  by_cases h61 : k < 310
  · exact g 305 5 mjCd_ok61 (by omega) h61
  by_cases h62 : k < 315
  · exact g 310 5 mjCd_ok62 (by omega) h62
  by_cases h63 : k < 320
  · exact g 315 5 mjCd_ok63 (by omega) h63
  by_cases h64 : k < 325
  · exact g 320 5 mjCd_ok64 (by omega) h64
  by_cases h65 : k < 330
  · exact g 325 5 mjCd_ok65 (by omega) h65
  by_cases h66 : k < 335
  · exact g 330 5 mjCd_ok66 (by omega) h66
  by_cases h67 : k < 340
  · exact g 335 5 mjCd_ok67 (by omega) h67
  omega
