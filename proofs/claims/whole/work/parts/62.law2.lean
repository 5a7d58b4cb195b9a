/-- every step of the law -/
def AllSt (n aX aM : Nat) (R : (Nat → Nat → Int32) → (Nat → Nat → Int64) → (Nat → Nat → Option Nat) → Prop) : Prop := St0 n aX aM R ∧ St1 n aX aM R ∧ St2 n aX aM R ∧ St3 n aX aM R ∧ St4 n aX aM R ∧ St5 n aX aM R ∧ St6 n aX aM R ∧ St7 n aX aM R ∧ St8 n aX aM R ∧ St9 n aX aM R ∧ St10 n aX aM R ∧ St11 n aX aM R ∧ St12 n aX aM R ∧ St13 n aX aM R ∧ St14 n aX aM R ∧ St15 n aX aM R ∧ St16 n aX aM R ∧ St17 n aX aM R ∧ St18 n aX aM R ∧ St19 n aX aM R ∧ St20 n aX aM R ∧ St21 n aX aM R ∧ St22 n aX aM R ∧ St23 n aX aM R ∧ St24 n aX aM R ∧ St25 n aX aM R ∧ St26 n aX aM R ∧ St27 n aX aM R ∧ St28 n aX aM R ∧ St29 n aX aM R ∧ St30 n aX aM R ∧ St31 n aX aM R ∧ St32 n aX aM R ∧ St33 n aX aM R ∧ St34 n aX aM R ∧ St35 n aX aM R ∧ St36 n aX aM R ∧ St37 n aX aM R ∧ St38 n aX aM R ∧ St39 n aX aM R ∧ St40 n aX aM R ∧ St41 n aX aM R ∧ St42 n aX aM R ∧ St43 n aX aM R ∧ St44 n aX aM R ∧ St45 n aX aM R ∧ St46 n aX aM R ∧ St47 n aX aM R
set_option maxHeartbeats 8000000 in
set_option maxRecDepth 20000 in
theorem law_sw {g : pG} {Qx : Option Value → pW → Prop} {Z : pZ} {n aX aM : Nat} {R : (Nat → Nat → Int32) → (Nat → Nat → Int64) → (Nat → Nat → Option Nat) → Prop} {rc rs z0 s0 i : Nat} {I : (Nat → Nat → Int32)} {L : (Nat → Nat → Int64)} {O : (Nat → Nat → Option Nat)} (hWT : ∀ I L O, R I L O → WT Z O) (hStr : StrOK g) (hZX : Z[aX]? = some (11, 11)) (hZM : Z[aM]? = some (12, 34)) (hbud : Z.length + 0 ≤ z0 + rc) (hbus : pSl Z + 0 ≤ s0 + rs) (S : AllSt n aX aM R) (hi : i + 6 ≤ gL g) (hgL : gL g ≤ 3072) (hnext : ∀ I L O, R I L O → Ok g (400, RL, cL_law, 4, false, rc, rs, z0, s0) Qx 1720 [(0, .ref 0), (1, .ref aX), (2, .ref aM), (3, .int (nI i))] [] (Z, I, L, O)) (hR : R I L O) {a : Int32} : Ok g (400, RL, cL_law, 4, false, rc, rs, z0, s0) Qx 33 [(0, .ref 0), (1, .ref aX), (2, .ref aM), (3, .int (nI i))] [.int a] (Z, I, L, O) := by
  have hin1 : vp_in (nI i + 1) (gL g) := by rw [show nI i + 1 = nI (i + 1) from nI_add i 1]; exact vp_in_nI (by omega) (by omega)
  have hin2 : vp_in (nI i + 2) (gL g) := by rw [show nI i + 2 = nI (i + 2) from nI_add i 2]; exact vp_in_nI (by omega) (by omega)
  have hin3 : vp_in (nI i + 3) (gL g) := by rw [show nI i + 3 = nI (i + 3) from nI_add i 3]; exact vp_in_nI (by omega) (by omega)
  have hin4 : vp_in (nI i + 4) (gL g) := by rw [show nI i + 4 = nI (i + 4) from nI_add i 4]; exact vp_in_nI (by omega) (by omega)
  have hin5 : vp_in (nI i + 5) (gL g) := by rw [show nI i + 5 = nI (i + 5) from nI_add i 5]; exact vp_in_nI (by omega) (by omega)
  obtain ⟨s0, s1, s2, s3, s4, s5, s6, s7, s8, s9, s10, s11, s12, s13, s14, s15, s16, s17, s18, s19, s20, s21, s22, s23, s24, s25, s26, s27, s28, s29, s30, s31, s32, s33, s34, s35, s36, s37, s38, s39, s40, s41, s42, s43, s44, s45, s46, s47⟩ := S
  by_cases hc0 : a = 0
  · exact ok_tabEq (t := 240) (off := 207) dL_law_33 hc0 (by decide) (by decide) (by decide) (by decide) (lcase0 hWT hStr hZX hZM hbud hbus s0 hin1 hin2 hin3 hin4 hin5 hnext hR)
  by_cases hc1 : a = 1
  · exact ok_tabEq (t := 263) (off := 230) dL_law_33 hc1 (by decide) (by decide) (by decide) (by decide) (lcase1 hWT hStr hZX hZM hbud hbus s1 hin1 hin2 hin3 hin4 hin5 hnext hR)
  by_cases hc2 : a = 2
  · exact ok_tabEq (t := 306) (off := 273) dL_law_33 hc2 (by decide) (by decide) (by decide) (by decide) (lcase2 hWT hStr hZX hZM hbud hbus s2 hin1 hin2 hin3 hin4 hin5 hnext hR)
  by_cases hc3 : a = 3
  · exact ok_tabEq (t := 349) (off := 316) dL_law_33 hc3 (by decide) (by decide) (by decide) (by decide) (lcase3 hWT hStr hZX hZM hbud hbus s3 hin1 hin2 hin3 hin4 hin5 hnext hR)
  by_cases hc4 : a = 4
  · exact ok_tabEq (t := 362) (off := 329) dL_law_33 hc4 (by decide) (by decide) (by decide) (by decide) (lcase4 hWT hStr hZX hZM hbud hbus s4 hin1 hin2 hin3 hin4 hin5 hnext hR)
  by_cases hc5 : a = 5
  · exact ok_tabEq (t := 425) (off := 392) dL_law_33 hc5 (by decide) (by decide) (by decide) (by decide) (lcase5 hWT hStr hZX hZM hbud hbus s5 hin1 hin2 hin3 hin4 hin5 hnext hR)
  by_cases hc6 : a = 6
  · exact ok_tabEq (t := 448) (off := 415) dL_law_33 hc6 (by decide) (by decide) (by decide) (by decide) (lcase6 hWT hStr hZX hZM hbud hbus s6 hin1 hin2 hin3 hin4 hin5 hnext hR)
  by_cases hc7 : a = 7
  · exact ok_tabEq (t := 461) (off := 428) dL_law_33 hc7 (by decide) (by decide) (by decide) (by decide) (lcase7 hWT hStr hZX hZM hbud hbus s7 hin1 hin2 hin3 hin4 hin5 hnext hR)
  by_cases hc8 : a = 8
  · exact ok_tabEq (t := 484) (off := 451) dL_law_33 hc8 (by decide) (by decide) (by decide) (by decide) (lcase8 hWT hStr hZX hZM hbud hbus s8 hin1 hin2 hin3 hin4 hin5 hnext hR)
  by_cases hc9 : a = 9
  · exact ok_tabEq (t := 507) (off := 474) dL_law_33 hc9 (by decide) (by decide) (by decide) (by decide) (lcase9 hWT hStr hZX hZM hbud hbus s9 hin1 hin2 hin3 hin4 hin5 hnext hR)
  by_cases hc10 : a = 10
  · exact ok_tabEq (t := 540) (off := 507) dL_law_33 hc10 (by decide) (by decide) (by decide) (by decide) (lcase10 hWT hStr hZX hZM hbud hbus s10 hin1 hin2 hin3 hin4 hin5 hnext hR)
  by_cases hc11 : a = 11
  · exact ok_tabEq (t := 573) (off := 540) dL_law_33 hc11 (by decide) (by decide) (by decide) (by decide) (lcase11 hWT hStr hZX hZM hbud hbus s11 hin1 hin2 hin3 hin4 hin5 hnext hR)
  by_cases hc12 : a = 12
  · exact ok_tabEq (t := 606) (off := 573) dL_law_33 hc12 (by decide) (by decide) (by decide) (by decide) (lcase12 hWT hStr hZX hZM hbud hbus s12 hin1 hin2 hin3 hin4 hin5 hnext hR)
  by_cases hc13 : a = 13
  · exact ok_tabEq (t := 629) (off := 596) dL_law_33 hc13 (by decide) (by decide) (by decide) (by decide) (lcase13 hWT hStr hZX hZM hbud hbus s13 hin1 hin2 hin3 hin4 hin5 hnext hR)
  by_cases hc14 : a = 14
  · exact ok_tabEq (t := 652) (off := 619) dL_law_33 hc14 (by decide) (by decide) (by decide) (by decide) (lcase14 hWT hStr hZX hZM hbud hbus s14 hin1 hin2 hin3 hin4 hin5 hnext hR)
  by_cases hc15 : a = 15
  · exact ok_tabEq (t := 685) (off := 652) dL_law_33 hc15 (by decide) (by decide) (by decide) (by decide) (lcase15 hWT hStr hZX hZM hbud hbus s15 hin1 hin2 hin3 hin4 hin5 hnext hR)
  by_cases hc16 : a = 16
  · exact ok_tabEq (t := 698) (off := 665) dL_law_33 hc16 (by decide) (by decide) (by decide) (by decide) (lcase16 hWT hStr hZX hZM hbud hbus s16 hin1 hin2 hin3 hin4 hin5 hnext hR)
  by_cases hc17 : a = 17
  · exact ok_tabEq (t := 731) (off := 698) dL_law_33 hc17 (by decide) (by decide) (by decide) (by decide) (lcase17 hWT hStr hZX hZM hbud hbus s17 hin1 hin2 hin3 hin4 hin5 hnext hR)
  by_cases hc18 : a = 18
  · exact ok_tabEq (t := 764) (off := 731) dL_law_33 hc18 (by decide) (by decide) (by decide) (by decide) (lcase18 hWT hStr hZX hZM hbud hbus s18 hin1 hin2 hin3 hin4 hin5 hnext hR)
  by_cases hc19 : a = 19
  · exact ok_tabEq (t := 797) (off := 764) dL_law_33 hc19 (by decide) (by decide) (by decide) (by decide) (lcase19 hWT hStr hZX hZM hbud hbus s19 hin1 hin2 hin3 hin4 hin5 hnext hR)
  by_cases hc20 : a = 20
  · exact ok_tabEq (t := 840) (off := 807) dL_law_33 hc20 (by decide) (by decide) (by decide) (by decide) (lcase20 hWT hStr hZX hZM hbud hbus s20 hin1 hin2 hin3 hin4 hin5 hnext hR)
  by_cases hc21 : a = 21
  · exact ok_tabEq (t := 909) (off := 876) dL_law_33 hc21 (by decide) (by decide) (by decide) (by decide) (lcase21 hWT hStr hZX hZM hbud hbus s21 hin1 hin2 hin3 hin4 hin5 hnext hR)
  by_cases hc22 : a = 22
  · exact ok_tabEq (t := 932) (off := 899) dL_law_33 hc22 (by decide) (by decide) (by decide) (by decide) (lcase22 hWT hStr hZX hZM hbud hbus s22 hin1 hin2 hin3 hin4 hin5 hnext hR)
  by_cases hc23 : a = 23
  · exact ok_tabEq (t := 965) (off := 932) dL_law_33 hc23 (by decide) (by decide) (by decide) (by decide) (lcase23 hWT hStr hZX hZM hbud hbus s23 hin1 hin2 hin3 hin4 hin5 hnext hR)
  by_cases hc24 : a = 24
  · exact ok_tabEq (t := 1008) (off := 975) dL_law_33 hc24 (by decide) (by decide) (by decide) (by decide) (lcase24 hWT hStr hZX hZM hbud hbus s24 hin1 hin2 hin3 hin4 hin5 hnext hR)
  by_cases hc25 : a = 25
  · exact ok_tabEq (t := 1041) (off := 1008) dL_law_33 hc25 (by decide) (by decide) (by decide) (by decide) (lcase25 hWT hStr hZX hZM hbud hbus s25 hin1 hin2 hin3 hin4 hin5 hnext hR)
  by_cases hc26 : a = 26
  · exact ok_tabEq (t := 1084) (off := 1051) dL_law_33 hc26 (by decide) (by decide) (by decide) (by decide) (lcase26 hWT hStr hZX hZM hbud hbus s26 hin1 hin2 hin3 hin4 hin5 hnext hR)
  by_cases hc27 : a = 27
  · exact ok_tabEq (t := 1107) (off := 1074) dL_law_33 hc27 (by decide) (by decide) (by decide) (by decide) (lcase27 hWT hStr hZX hZM hbud hbus s27 hin1 hin2 hin3 hin4 hin5 hnext hR)
  by_cases hc28 : a = 28
  · exact ok_tabEq (t := 1140) (off := 1107) dL_law_33 hc28 (by decide) (by decide) (by decide) (by decide) (lcase28 hWT hStr hZX hZM hbud hbus s28 hin1 hin2 hin3 hin4 hin5 hnext hR)
  by_cases hc29 : a = 29
  · exact ok_tabEq (t := 1163) (off := 1130) dL_law_33 hc29 (by decide) (by decide) (by decide) (by decide) (lcase29 hWT hStr hZX hZM hbud hbus s29 hin1 hin2 hin3 hin4 hin5 hnext hR)
  by_cases hc30 : a = 30
  · exact ok_tabEq (t := 1212) (off := 1179) dL_law_33 hc30 (by decide) (by decide) (by decide) (by decide) (lcase30 hWT hStr hZX hZM hbud hbus s30 hin1 hin2 hin3 hin4 hin5 hnext hR)
  by_cases hc31 : a = 31
  · exact ok_tabEq (t := 1261) (off := 1228) dL_law_33 hc31 (by decide) (by decide) (by decide) (by decide) (lcase31 hWT hStr hZX hZM hbud hbus s31 hin1 hin2 hin3 hin4 hin5 hnext hR)
  by_cases hc32 : a = 32
  · exact ok_tabEq (t := 1304) (off := 1271) dL_law_33 hc32 (by decide) (by decide) (by decide) (by decide) (lcase32 hWT hStr hZX hZM hbud hbus s32 hin1 hin2 hin3 hin4 hin5 hnext hR)
  by_cases hc33 : a = 33
  · exact ok_tabEq (t := 1337) (off := 1304) dL_law_33 hc33 (by decide) (by decide) (by decide) (by decide) (lcase33 hWT hStr hZX hZM hbud hbus s33 hin1 hin2 hin3 hin4 hin5 hnext hR)
  by_cases hc34 : a = 34
  · exact ok_tabEq (t := 1370) (off := 1337) dL_law_33 hc34 (by decide) (by decide) (by decide) (by decide) (lcase34 hWT hStr hZX hZM hbud hbus s34 hin1 hin2 hin3 hin4 hin5 hnext hR)
  by_cases hc35 : a = 35
  · exact ok_tabEq (t := 1394) (off := 1361) dL_law_33 hc35 (by decide) (by decide) (by decide) (by decide) (lcase35 hWT hStr hZX hZM hbud hbus s35 hin1 hin2 hin3 hin4 hin5 hnext hR)
  by_cases hc36 : a = 36
  · exact ok_tabEq (t := 1437) (off := 1404) dL_law_33 hc36 (by decide) (by decide) (by decide) (by decide) (lcase36 hWT hStr hZX hZM hbud hbus s36 hin1 hin2 hin3 hin4 hin5 hnext hR)
  by_cases hc37 : a = 37
  · exact ok_tabEq (t := 1517) (off := 1484) dL_law_33 hc37 (by decide) (by decide) (by decide) (by decide) (lcase37 hWT hStr hZX hZM hbud hbus s37 hin1 hin2 hin3 hin4 hin5 hnext hR)
  by_cases hc38 : a = 38
  · exact ok_tabEq (t := 1540) (off := 1507) dL_law_33 hc38 (by decide) (by decide) (by decide) (by decide) (lcase38 hWT hStr hZX hZM hbud hbus s38 hin1 hin2 hin3 hin4 hin5 hnext hR)
  by_cases hc39 : a = 39
  · exact ok_tabEq (t := 1553) (off := 1520) dL_law_33 hc39 (by decide) (by decide) (by decide) (by decide) (lcase39 hWT hStr hZX hZM hbud hbus s39 hin1 hin2 hin3 hin4 hin5 hnext hR)
  by_cases hc40 : a = 40
  · exact ok_tabEq (t := 1596) (off := 1563) dL_law_33 hc40 (by decide) (by decide) (by decide) (by decide) (lcase40 hWT hStr hZX hZM hbud hbus s40 hin1 hin2 hin3 hin4 hin5 hnext hR)
  by_cases hc41 : a = 41
  · exact ok_tabEq (t := 1609) (off := 1576) dL_law_33 hc41 (by decide) (by decide) (by decide) (by decide) (lcase41 hWT hStr hZX hZM hbud hbus s41 hin1 hin2 hin3 hin4 hin5 hnext hR)
  by_cases hc42 : a = 42
  · exact ok_tabEq (t := 1622) (off := 1589) dL_law_33 hc42 (by decide) (by decide) (by decide) (by decide) (lcase42 hWT hStr hZX hZM hbud hbus s42 hin1 hin2 hin3 hin4 hin5 hnext hR)
  by_cases hc43 : a = 43
  · exact ok_tabEq (t := 1635) (off := 1602) dL_law_33 hc43 (by decide) (by decide) (by decide) (by decide) (lcase43 hWT hStr hZX hZM hbud hbus s43 hin1 hin2 hin3 hin4 hin5 hnext hR)
  by_cases hc44 : a = 44
  · exact ok_tabEq (t := 1648) (off := 1615) dL_law_33 hc44 (by decide) (by decide) (by decide) (by decide) (lcase44 hWT hStr hZX hZM hbud hbus s44 hin1 hin2 hin3 hin4 hin5 hnext hR)
  by_cases hc45 : a = 45
  · exact ok_tabEq (t := 1671) (off := 1638) dL_law_33 hc45 (by decide) (by decide) (by decide) (by decide) (lcase45 hWT hStr hZX hZM hbud hbus s45 hin1 hin2 hin3 hin4 hin5 hnext hR)
  by_cases hc46 : a = 46
  · exact ok_tabEq (t := 1684) (off := 1651) dL_law_33 hc46 (by decide) (by decide) (by decide) (by decide) (lcase46 hWT hStr hZX hZM hbud hbus s46 hin1 hin2 hin3 hin4 hin5 hnext hR)
  by_cases hc47 : a = 47
  · exact ok_tabEq (t := 1697) (off := 1664) dL_law_33 hc47 (by decide) (by decide) (by decide) (by decide) (lcase47 hWT hStr hZX hZM hbud hbus s47 hin1 hin2 hin3 hin4 hin5 hnext hR)
  refine ok_tabOut (t := 1720) dL_law_33 (by have n0 := neI hc0 (a := 0) (by decide); have n1 := neI hc1 (a := 1) (by decide); have n2 := neI hc2 (a := 2) (by decide); have n3 := neI hc3 (a := 3) (by decide); have n4 := neI hc4 (a := 4) (by decide); have n5 := neI hc5 (a := 5) (by decide); have n6 := neI hc6 (a := 6) (by decide); have n7 := neI hc7 (a := 7) (by decide); have n8 := neI hc8 (a := 8) (by decide); have n9 := neI hc9 (a := 9) (by decide); have n10 := neI hc10 (a := 10) (by decide); have n11 := neI hc11 (a := 11) (by decide); have n12 := neI hc12 (a := 12) (by decide); have n13 := neI hc13 (a := 13) (by decide); have n14 := neI hc14 (a := 14) (by decide); have n15 := neI hc15 (a := 15) (by decide); have n16 := neI hc16 (a := 16) (by decide); have n17 := neI hc17 (a := 17) (by decide); have n18 := neI hc18 (a := 18) (by decide); have n19 := neI hc19 (a := 19) (by decide); have n20 := neI hc20 (a := 20) (by decide); have n21 := neI hc21 (a := 21) (by decide); have n22 := neI hc22 (a := 22) (by decide); have n23 := neI hc23 (a := 23) (by decide); have n24 := neI hc24 (a := 24) (by decide); have n25 := neI hc25 (a := 25) (by decide); have n26 := neI hc26 (a := 26) (by decide); have n27 := neI hc27 (a := 27) (by decide); have n28 := neI hc28 (a := 28) (by decide); have n29 := neI hc29 (a := 29) (by decide); have n30 := neI hc30 (a := 30) (by decide); have n31 := neI hc31 (a := 31) (by decide); have n32 := neI hc32 (a := 32) (by decide); have n33 := neI hc33 (a := 33) (by decide); have n34 := neI hc34 (a := 34) (by decide); have n35 := neI hc35 (a := 35) (by decide); have n36 := neI hc36 (a := 36) (by decide); have n37 := neI hc37 (a := 37) (by decide); have n38 := neI hc38 (a := 38) (by decide); have n39 := neI hc39 (a := 39) (by decide); have n40 := neI hc40 (a := 40) (by decide); have n41 := neI hc41 (a := 41) (by decide); have n42 := neI hc42 (a := 42) (by decide); have n43 := neI hc43 (a := 43) (by decide); have n44 := neI hc44 (a := 44) (by decide); have n45 := neI hc45 (a := 45) (by decide); have n46 := neI hc46 (a := 46) (by decide); have n47 := neI hc47 (a := 47) (by decide); omega) (by decide) ?_
  exact hnext _ _ _ hR
theorem law_cmp {i l : Nat} (hi : i ≤ 4000) (hl : l ≤ 3072) : (nI l - 6 < nI i) ↔ l < i + 6 := by
  rw [Int32.lt_iff_toInt_lt, show (6 : Int32) = nI 6 from rfl, pk_sub_toInt (by omega) (by omega), nI_toInt (by omega)]
  omega
set_option maxHeartbeats 4000000 in
set_option maxRecDepth 20000 in
theorem law_loop {g : pG} {Qx : Option Value → pW → Prop} {Z : pZ} {n aX aM : Nat} {R : (Nat → Nat → Int32) → (Nat → Nat → Int64) → (Nat → Nat → Option Nat) → Prop} {rc rs z0 s0 : Nat} (hWT : ∀ I L O, R I L O → WT Z O) (hStr : StrOK g) (hZX : Z[aX]? = some (11, 11)) (hZM : Z[aM]? = some (12, 34)) (hbud : Z.length + 0 ≤ z0 + rc) (hbus : pSl Z + 0 ≤ s0 + rs) (S : AllSt n aX aM R) (hgL : gL g ≤ 3072) (hQ : ∀ I L O, R I L O → Qx (some (.int 1)) (Z, I, L, O)) : ∀ (k i : Nat) (I : (Nat → Nat → Int32)) (L : (Nat → Nat → Int64)) (O : (Nat → Nat → Option Nat)), gL g + 6 ≤ i + k → i ≤ 4000 → R I L O → Ok g (400, RL, cL_law, 4, false, rc, rs, z0, s0) Qx 18 [(0, .ref 0), (1, .ref aX), (2, .ref aM), (3, .int (nI i))] [] (Z, I, L, O) := by
  intro k
  induction k with
  | zero =>
    intro i I L O hk hi hR
    refine ok_iload_n dL_law_18 3 rfl ?_
    refine ok_aload_n dL_law_19 0 rfl ?_
    refine ok_slen dL_law_20 ?_
    refine ok_bipush (v := 6) dL_law_21 (by decide) ?_
    refine ok_isub dL_law_23 ?_
    refine ok_icmp_gt (t := 1726) dL_law_24 (by decide) (fun _ => ?_) (fun hc => absurd ((law_cmp hi hgL).mpr (by omega)) hc)
    refine ok_iconst (v := 1) dL_law_1726 (by decide) ?_
    exact ok_iret dL_law_1727 (hQ I L O hR)
  | succ k ih =>
    intro i I L O hk hi hR
    refine ok_iload_n dL_law_18 3 rfl ?_
    refine ok_aload_n dL_law_19 0 rfl ?_
    refine ok_slen dL_law_20 ?_
    refine ok_bipush (v := 6) dL_law_21 (by decide) ?_
    refine ok_isub dL_law_23 ?_
    refine ok_icmp_gt (t := 1726) dL_law_24 (by decide) (fun _ => ?_) (fun hc => ?_)
    · refine ok_iconst (v := 1) dL_law_1726 (by decide) ?_
      exact ok_iret dL_law_1727 (hQ I L O hR)
    · have hl : i + 6 ≤ gL g := by
        rcases Nat.lt_or_ge (gL g) (i + 6) with q | q
        · exact absurd ((law_cmp hi hgL).mpr q) hc
        · exact q
      refine ok_aload_n dL_law_27 0 rfl ?_
      refine ok_iload_n dL_law_28 3 rfl ?_
      refine ok_sld dL_law_29 (vp_in_nI (by omega) (by omega)) ?_
      refine ok_bipush (v := 63) dL_law_30 (by decide) ?_
      refine ok_iand dL_law_32 ?_
      refine law_sw hWT hStr hZX hZM hbud hbus S hl hgL (fun I L O hR => ?_) hR
      refine ok_iinc (u := nI (i + 6)) (l' := [(3, .int (nI (i + 6))), (0, .ref 0), (1, .ref aX), (2, .ref aM)]) dL_law_1720 3 rfl (nI_add i 6) (Nat.le_of_ble_eq_true rfl) rfl ?_
      refine ok_goto (t := 18) dL_law_1723 (by decide) ?_
      refine ok_sub [1, 2, 3, 0] rfl ?_
      exact ih (i + 6) I L O (by omega) (by omega) hR
