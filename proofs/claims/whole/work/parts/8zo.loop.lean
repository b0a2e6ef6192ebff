/-! MACHINE: THE LAW'S LOOP -/
set_option maxRecDepth 100000 in
theorem law_loop {LL : Nat} {xs : Nat → Int32} (hL : LL ≤ 3072) : ∀ (f i : Nat) (Z : mjZt), LL < i + f → i ≤ 4000 → lpR LL xs Z → pG 339 18 [some (.ref 2000000), some (.ref 0), some (.ref 211), some (.int (i3 i))] [] (mjTo Z) (fun r _ => r = some (.int 1))
  | f, i, Z, hf, hi, h => by
    refine pG_many 5 (pc1 := 24) (L1 := [some (.ref 2000000), some (.ref 0), some (.ref 211), some (.int (i3 i))]) (st1 := [.int (Z.1 2000001 0 - 6), .int (i3 i)]) (M1 := mjTo Z) rfl ?_
    rw [h.2.2, show (6 : Int32) = i3 6 from rfl, i3_sub]
    by_cases q : (LL : Int) - 6 < i
    · refine pG_cmt (t := 1508) rfl rfl (by rw [c_gt (by omega)]; omega) ?_
      refine pG_many 1 (pc1 := 1509) (L1 := [some (.ref 2000000), some (.ref 0), some (.ref 211), some (.int (i3 i))]) (st1 := [.int 1]) (M1 := mjTo Z) rfl ?_
      exact pG_ret (r := some (.int 1)) rfl rfl
    · cases f with
      | zero => omega
      | succ f =>
        refine pG_cmf (t := 1508) rfl rfl (by rw [c_gt (by omega)]; omega) ?_
        have tail : ∀ Z2, lpR LL xs Z2 → pG 339 1502 [some (.ref 2000000), some (.ref 0), some (.ref 211), some (.int (i3 i))] [] (mjTo Z2) (fun r _ => r = some (.int 1)) := fun Z2 h2 => by
          refine pG_many 2 (pc1 := 18) (L1 := [some (.ref 2000000), some (.ref 0), some (.ref 211), some (.int (i3 i + 6))]) (st1 := []) (M1 := mjTo Z2) rfl ?_
          rw [show i3 (i : Int) + 6 = i3 ((i + 6 : Nat) : Int) from ix_c i 6]
          exact law_loop hL f (i + 6) Z2 (by omega) (by omega) h2
        have hi6 : i + 6 ≤ LL := by omega
        refine pG_many 2 (pc1 := 29) (L1 := [some (.ref 2000000), some (.ref 0), some (.ref 211), some (.int (i3 i))]) (st1 := [.int (i3 i), .ref 2000000]) (M1 := mjTo Z) rfl ?_
        refine pG_ials (j := i) rfl h.2.1 h.2.2 rfl (by omega) hL ?_
        refine pG_many 2 (pc1 := 33) (L1 := [some (.ref 2000000), some (.ref 0), some (.ref 211), some (.int (i3 i))]) (st1 := [.int (xs i &&& 63)]) (M1 := mjTo Z) rfl ?_
        by_cases hs : (xs i &&& 63).toInt < 0 ∨ 41 < (xs i &&& 63).toInt
        · exact pG_tso (t := 1502) rfl hs rfl (tail Z h)
        by_cases hj0 : ((xs i &&& 63).toInt - 0).toNat = 0
        · exact pG_tsi (t := 216) (j := 0) (o := 183) rfl hs hj0 rfl rfl (br_0 h hi6 hL tail)
        by_cases hj1 : ((xs i &&& 63).toInt - 0).toNat = 1
        · exact pG_tsi (t := 279) (j := 1) (o := 246) rfl hs hj1 rfl rfl (br_1 h hi6 hL tail)
        by_cases hj2 : ((xs i &&& 63).toInt - 0).toNat = 2
        · exact pG_tsi (t := 302) (j := 2) (o := 269) rfl hs hj2 rfl rfl (br_2 h hi6 hL tail)
        by_cases hj3 : ((xs i &&& 63).toInt - 0).toNat = 3
        · exact pG_tsi (t := 315) (j := 3) (o := 282) rfl hs hj3 rfl rfl (br_3 h hi6 hL tail)
        by_cases hj4 : ((xs i &&& 63).toInt - 0).toNat = 4
        · exact pG_tsi (t := 338) (j := 4) (o := 305) rfl hs hj4 rfl rfl (br_4 h hi6 hL tail)
        by_cases hj5 : ((xs i &&& 63).toInt - 0).toNat = 5
        · exact pG_tsi (t := 361) (j := 5) (o := 328) rfl hs hj5 rfl rfl (br_5 h hi6 hL tail)
        by_cases hj6 : ((xs i &&& 63).toInt - 0).toNat = 6
        · exact pG_tsi (t := 404) (j := 6) (o := 371) rfl hs hj6 rfl rfl (br_6 h hi6 hL tail)
        by_cases hj7 : ((xs i &&& 63).toInt - 0).toNat = 7
        · exact pG_tsi (t := 437) (j := 7) (o := 404) rfl hs hj7 rfl rfl (br_7 h hi6 hL tail)
        by_cases hj8 : ((xs i &&& 63).toInt - 0).toNat = 8
        · exact pG_tsi (t := 460) (j := 8) (o := 427) rfl hs hj8 rfl rfl (br_8 h hi6 hL tail)
        by_cases hj9 : ((xs i &&& 63).toInt - 0).toNat = 9
        · exact pG_tsi (t := 493) (j := 9) (o := 460) rfl hs hj9 rfl rfl (br_9 h hi6 hL tail)
        by_cases hj10 : ((xs i &&& 63).toInt - 0).toNat = 10
        · exact pG_tsi (t := 526) (j := 10) (o := 493) rfl hs hj10 rfl rfl (br_10 h hi6 hL tail)
        by_cases hj11 : ((xs i &&& 63).toInt - 0).toNat = 11
        · exact pG_tsi (t := 559) (j := 11) (o := 526) rfl hs hj11 rfl rfl (br_11 h hi6 hL tail)
        by_cases hj12 : ((xs i &&& 63).toInt - 0).toNat = 12
        · exact pG_tsi (t := 582) (j := 12) (o := 549) rfl hs hj12 rfl rfl (br_12 h hi6 hL tail)
        by_cases hj13 : ((xs i &&& 63).toInt - 0).toNat = 13
        · exact pG_tsi (t := 615) (j := 13) (o := 582) rfl hs hj13 rfl rfl (br_13 h hi6 hL tail)
        by_cases hj14 : ((xs i &&& 63).toInt - 0).toNat = 14
        · exact pG_tsi (t := 638) (j := 14) (o := 605) rfl hs hj14 rfl rfl (br_14 h hi6 hL tail)
        by_cases hj15 : ((xs i &&& 63).toInt - 0).toNat = 15
        · exact pG_tsi (t := 671) (j := 15) (o := 638) rfl hs hj15 rfl rfl (br_15 h hi6 hL tail)
        by_cases hj16 : ((xs i &&& 63).toInt - 0).toNat = 16
        · exact pG_tsi (t := 704) (j := 16) (o := 671) rfl hs hj16 rfl rfl (br_16 h hi6 hL tail)
        by_cases hj17 : ((xs i &&& 63).toInt - 0).toNat = 17
        · exact pG_tsi (t := 737) (j := 17) (o := 704) rfl hs hj17 rfl rfl (br_17 h hi6 hL tail)
        by_cases hj18 : ((xs i &&& 63).toInt - 0).toNat = 18
        · exact pG_tsi (t := 780) (j := 18) (o := 747) rfl hs hj18 rfl rfl (br_18 h hi6 hL tail)
        by_cases hj19 : ((xs i &&& 63).toInt - 0).toNat = 19
        · exact pG_tsi (t := 813) (j := 19) (o := 780) rfl hs hj19 rfl rfl (br_19 h hi6 hL tail)
        by_cases hj20 : ((xs i &&& 63).toInt - 0).toNat = 20
        · exact pG_tsi (t := 846) (j := 20) (o := 813) rfl hs hj20 rfl rfl (br_20 h hi6 hL tail)
        by_cases hj21 : ((xs i &&& 63).toInt - 0).toNat = 21
        · exact pG_tsi (t := 879) (j := 21) (o := 846) rfl hs hj21 rfl rfl (br_21 h hi6 hL tail)
        by_cases hj22 : ((xs i &&& 63).toInt - 0).toNat = 22
        · exact pG_tsi (t := 912) (j := 22) (o := 879) rfl hs hj22 rfl rfl (br_22 h hi6 hL tail)
        by_cases hj23 : ((xs i &&& 63).toInt - 0).toNat = 23
        · exact pG_tsi (t := 955) (j := 23) (o := 922) rfl hs hj23 rfl rfl (br_23 h hi6 hL tail)
        by_cases hj24 : ((xs i &&& 63).toInt - 0).toNat = 24
        · exact pG_tsi (t := 1008) (j := 24) (o := 975) rfl hs hj24 rfl rfl (br_24 h hi6 hL tail)
        by_cases hj25 : ((xs i &&& 63).toInt - 0).toNat = 25
        · exact pG_tsi (t := 1041) (j := 25) (o := 1008) rfl hs hj25 rfl rfl (br_25 h hi6 hL tail)
        by_cases hj26 : ((xs i &&& 63).toInt - 0).toNat = 26
        · exact pG_tsi (t := 1074) (j := 26) (o := 1041) rfl hs hj26 rfl rfl (br_26 h hi6 hL tail)
        by_cases hj27 : ((xs i &&& 63).toInt - 0).toNat = 27
        · exact pG_tsi (t := 1107) (j := 27) (o := 1074) rfl hs hj27 rfl rfl (br_27 h hi6 hL tail)
        by_cases hj28 : ((xs i &&& 63).toInt - 0).toNat = 28
        · exact pG_tsi (t := 1140) (j := 28) (o := 1107) rfl hs hj28 rfl rfl (br_28 h hi6 hL tail)
        by_cases hj29 : ((xs i &&& 63).toInt - 0).toNat = 29
        · exact pG_tsi (t := 1163) (j := 29) (o := 1130) rfl hs hj29 rfl rfl (br_29 h hi6 hL tail)
        by_cases hj30 : ((xs i &&& 63).toInt - 0).toNat = 30
        · exact pG_tsi (t := 1186) (j := 30) (o := 1153) rfl hs hj30 rfl rfl (br_30 h hi6 hL tail)
        by_cases hj31 : ((xs i &&& 63).toInt - 0).toNat = 31
        · exact pG_tsi (t := 1209) (j := 31) (o := 1176) rfl hs hj31 rfl rfl (br_31 h hi6 hL tail)
        by_cases hj32 : ((xs i &&& 63).toInt - 0).toNat = 32
        · exact pG_tsi (t := 1232) (j := 32) (o := 1199) rfl hs hj32 rfl rfl (br_32 h hi6 hL tail)
        by_cases hj33 : ((xs i &&& 63).toInt - 0).toNat = 33
        · exact pG_tsi (t := 1255) (j := 33) (o := 1222) rfl hs hj33 rfl rfl (br_33 h hi6 hL tail)
        by_cases hj34 : ((xs i &&& 63).toInt - 0).toNat = 34
        · exact pG_tsi (t := 1278) (j := 34) (o := 1245) rfl hs hj34 rfl rfl (br_34 h hi6 hL tail)
        by_cases hj35 : ((xs i &&& 63).toInt - 0).toNat = 35
        · exact pG_tsi (t := 1301) (j := 35) (o := 1268) rfl hs hj35 rfl rfl (br_35 h hi6 hL tail)
        by_cases hj36 : ((xs i &&& 63).toInt - 0).toNat = 36
        · exact pG_tsi (t := 1314) (j := 36) (o := 1281) rfl hs hj36 rfl rfl (br_36 h hi6 hL tail)
        by_cases hj37 : ((xs i &&& 63).toInt - 0).toNat = 37
        · exact pG_tsi (t := 1337) (j := 37) (o := 1304) rfl hs hj37 rfl rfl (br_37 h hi6 hL tail)
        by_cases hj38 : ((xs i &&& 63).toInt - 0).toNat = 38
        · exact pG_tsi (t := 1370) (j := 38) (o := 1337) rfl hs hj38 rfl rfl (br_38 h hi6 hL tail)
        by_cases hj39 : ((xs i &&& 63).toInt - 0).toNat = 39
        · exact pG_tsi (t := 1413) (j := 39) (o := 1380) rfl hs hj39 rfl rfl (br_39 h hi6 hL tail)
        by_cases hj40 : ((xs i &&& 63).toInt - 0).toNat = 40
        · exact pG_tsi (t := 1436) (j := 40) (o := 1403) rfl hs hj40 rfl rfl (br_40 h hi6 hL tail)
        by_cases hj41 : ((xs i &&& 63).toInt - 0).toNat = 41
        · exact pG_tsi (t := 1489) (j := 41) (o := 1456) rfl hs hj41 rfl rfl (br_41 h hi6 hL tail)
        omega
