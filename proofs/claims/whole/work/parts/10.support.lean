theorem tb1 {w : Cond} (i : Nat) (h : tables_1_1[i]? = some w) (hg : goodWord w = true) : w ∈ tb := tb_of (List.mem_append_left _ (List.mem_of_getElem? h)) hg
set_option maxRecDepth 20000 in
theorem tn1 {w : Cond} (i : Nat) (h : tables_1_1[i]? = some w) : w ∈ tables_1 := List.mem_append_left _ (List.mem_of_getElem? h)
theorem tb2 {w : Cond} (i : Nat) (h : tables_1_2[i]? = some w) (hg : goodWord w = true) : w ∈ tb := tb_of (List.mem_append_right _ (List.mem_append_left _ (List.mem_of_getElem? h))) hg
set_option maxRecDepth 20000 in
theorem tn2 {w : Cond} (i : Nat) (h : tables_1_2[i]? = some w) : w ∈ tables_1 := List.mem_append_right _ (List.mem_append_left _ (List.mem_of_getElem? h))
theorem tb3 {w : Cond} (i : Nat) (h : tables_1_3[i]? = some w) (hg : goodWord w = true) : w ∈ tb := tb_of (List.mem_append_right _ (List.mem_append_right _ (List.mem_append_left _ (List.mem_of_getElem? h)))) hg
set_option maxRecDepth 20000 in
theorem tn3 {w : Cond} (i : Nat) (h : tables_1_3[i]? = some w) : w ∈ tables_1 := List.mem_append_right _ (List.mem_append_right _ (List.mem_append_left _ (List.mem_of_getElem? h)))
theorem tb4 {w : Cond} (i : Nat) (h : tables_1_4[i]? = some w) (hg : goodWord w = true) : w ∈ tb := tb_of (List.mem_append_right _ (List.mem_append_right _ (List.mem_append_right _ (List.mem_append_left _ (List.mem_of_getElem? h))))) hg
set_option maxRecDepth 20000 in
theorem tn4 {w : Cond} (i : Nat) (h : tables_1_4[i]? = some w) : w ∈ tables_1 := List.mem_append_right _ (List.mem_append_right _ (List.mem_append_right _ (List.mem_append_left _ (List.mem_of_getElem? h))))
theorem tb5 {w : Cond} (i : Nat) (h : tables_1_5[i]? = some w) (hg : goodWord w = true) : w ∈ tb := tb_of (List.mem_append_right _ (List.mem_append_right _ (List.mem_append_right _ (List.mem_append_right _ (List.mem_append_left _ (List.mem_of_getElem? h)))))) hg
set_option maxRecDepth 20000 in
theorem tn5 {w : Cond} (i : Nat) (h : tables_1_5[i]? = some w) : w ∈ tables_1 := List.mem_append_right _ (List.mem_append_right _ (List.mem_append_right _ (List.mem_append_right _ (List.mem_append_left _ (List.mem_of_getElem? h)))))
theorem tb6 {w : Cond} (i : Nat) (h : tables_1_6[i]? = some w) (hg : goodWord w = true) : w ∈ tb := tb_of (List.mem_append_right _ (List.mem_append_right _ (List.mem_append_right _ (List.mem_append_right _ (List.mem_append_right _ (List.mem_append_left _ (List.mem_of_getElem? h))))))) hg
set_option maxRecDepth 20000 in
theorem tn6 {w : Cond} (i : Nat) (h : tables_1_6[i]? = some w) : w ∈ tables_1 := List.mem_append_right _ (List.mem_append_right _ (List.mem_append_right _ (List.mem_append_right _ (List.mem_append_right _ (List.mem_append_left _ (List.mem_of_getElem? h))))))
theorem tb7 {w : Cond} (i : Nat) (h : tables_1_7[i]? = some w) (hg : goodWord w = true) : w ∈ tb := tb_of (List.mem_append_right _ (List.mem_append_right _ (List.mem_append_right _ (List.mem_append_right _ (List.mem_append_right _ (List.mem_append_right _ (List.mem_append_left _ (List.mem_of_getElem? h)))))))) hg
set_option maxRecDepth 20000 in
theorem tn7 {w : Cond} (i : Nat) (h : tables_1_7[i]? = some w) : w ∈ tables_1 := List.mem_append_right _ (List.mem_append_right _ (List.mem_append_right _ (List.mem_append_right _ (List.mem_append_right _ (List.mem_append_right _ (List.mem_append_left _ (List.mem_of_getElem? h)))))))
theorem tb8 {w : Cond} (i : Nat) (h : tables_1_8[i]? = some w) (hg : goodWord w = true) : w ∈ tb := tb_of (List.mem_append_right _ (List.mem_append_right _ (List.mem_append_right _ (List.mem_append_right _ (List.mem_append_right _ (List.mem_append_right _ (List.mem_append_right _ (List.mem_of_getElem? h)))))))) hg
set_option maxRecDepth 20000 in
theorem tn8 {w : Cond} (i : Nat) (h : tables_1_8[i]? = some w) : w ∈ tables_1 := List.mem_append_right _ (List.mem_append_right _ (List.mem_append_right _ (List.mem_append_right _ (List.mem_append_right _ (List.mem_append_right _ (List.mem_append_right _ (List.mem_of_getElem? h)))))))
/-! shapes of the two worlds, methods, links (by program) -/
def shC : List Shp := [.inr (11, [(2, 1), (2, 31), (2, 36), (2, 38), (2, 55), (2, 56), (2, 59), (2, 62), (2, 64), (1, 0)]), .inr (6, [(2, 2), (2, 8), (0, 0), (0, 0), (0, 0), (2, 9), (2, 14), (0, 0)]), .inr (1, [(2, 3), (2, 4), (2, 5), (2, 6), (2, 7), (0, 0), (0, 0), (0, 0)]), .inl (0, 1728), .inl (0, 200), .inl (1, 60), .inl (0, 60), .inl (3, 60), .inl (0, 2), .inr (9, [(2, 10), (2, 11), (2, 12), (2, 13), (0, 0), (0, 0), (0, 0), (0, 0), (0, 0), (1, 0)]), .inl (2, 4000), .inl (0, 4001), .inl (0, 4001), .inl (1, 4001), .inr (0, [(2, 15), (2, 19), (2, 27)]), .inr (3, [(2, 16), (2, 17), (2, 18), (0, 0)]), .inl (1, 16), .inl (0, 16), .inl (0, 80), .inr (8, [(2, 20), (2, 21), (2, 22), (2, 23), (2, 24), (2, 25), (2, 26), (0, 0)]), .inl (0, 256), .inl (0, 60), .inl (0, 60), .inl (0, 60), .inl (0, 720), .inl (0, 5760), .inl (0, 480), .inr (4, [(2, 28), (2, 29), (2, 30), (0, 0), (0, 0), (0, 0), (0, 0), (0, 0)]), .inl (0, 400), .inl (0, 3200), .inl (0, 8), .inr (7, [(2, 32), (2, 33), (2, 34), (2, 35)]), .inl (0, 8), .inl (0, 8), .inl (3, 8), .inl (0, 12), .inr (2, [(2, 37), (0, 0), (0, 0), (0, 0), (0, 0)]), .inl (0, 50), .inl (39, 4), .inr (4, [(2, 40), (2, 41), (2, 42), (0, 0), (0, 0), (0, 0), (0, 0), (0, 0)]), .inl (0, 400), .inl (0, 3200), .inl (0, 8), .inr (4, [(2, 44), (2, 45), (2, 46), (0, 0), (0, 0), (0, 0), (0, 0), (0, 0)]), .inl (0, 400), .inl (0, 3200), .inl (0, 8), .inr (4, [(2, 48), (2, 49), (2, 50), (0, 0), (0, 0), (0, 0), (0, 0), (0, 0)]), .inl (0, 400), .inl (0, 3200), .inl (0, 8), .inr (4, [(2, 52), (2, 53), (2, 54), (0, 0), (0, 0), (0, 0), (0, 0), (0, 0)]), .inl (0, 400), .inl (0, 3200), .inl (0, 8), .inl (0, 400), .inr (10, [(2, 57), (2, 58), (0, 0)]), .inl (0, 400), .inl (0, 400), .inr (10, [(2, 60), (2, 61), (0, 0)]), .inl (0, 400), .inl (0, 400), .inr (5, [(2, 63), (0, 0)]), .inl (2, 4000), .inr (0, [(2, 65), (2, 69), (2, 77)]), .inr (3, [(2, 66), (2, 67), (2, 68), (0, 0)]), .inl (1, 16), .inl (0, 16), .inl (0, 80), .inr (8, [(2, 70), (2, 71), (2, 72), (2, 73), (2, 74), (2, 75), (2, 76), (0, 0)]), .inl (0, 256), .inl (0, 60), .inl (0, 60), .inl (0, 60), .inl (0, 720), .inl (0, 5760), .inl (0, 480), .inr (4, [(2, 78), (2, 79), (2, 80), (0, 0), (0, 0), (0, 0), (0, 0), (0, 0)]), .inl (0, 400), .inl (0, 3200), .inl (0, 8)]
def shM : List Shp := [.inr (12, [(2, 1), (0, 0), (0, 0), (0, 0), (2, 2), (2, 3), (2, 4), (2, 5), (0, 0), (2, 6), (2, 7), (2, 8), (2, 9), (2, 10), (2, 11), (2, 12), (2, 13), (2, 14), (0, 0), (0, 0), (0, 0), (0, 0), (0, 0), (0, 0), (1, 0), (2, 15), (0, 0), (2, 16), (0, 0), (0, 0), (0, 0), (0, 0), (1, 0), (0, 0), (0, 0), (0, 0), (0, 0), (2, 17), (2, 18), (2, 19), (2, 20), (0, 0), (2, 21), (2, 22), (2, 23), (2, 24), (2, 25), (2, 26), (0, 0), (0, 0), (0, 0), (2, 27), (2, 28), (2, 29), (0, 0), (2, 30), (2, 31), (2, 32), (2, 33), (2, 34), (0, 0), (2, 35), (2, 36), (0, 0), (2, 37), (2, 38), (0, 0), (2, 39), (0, 0), (2, 40), (2, 41), (2, 42), (2, 43), (2, 44), (2, 45), (2, 46), (2, 47), (2, 48), (2, 49), (2, 50), (2, 51), (2, 52), (2, 53)]), .inl (0, 4000), .inl (1, 16), .inl (0, 16), .inl (0, 80), .inl (3, 80), .inl (0, 256), .inl (0, 120), .inl (0, 60), .inl (0, 720), .inl (0, 4200), .inl (0, 60), .inl (0, 400), .inl (0, 2000), .inl (0, 8), .inl (0, 50), .inl (0, 4000), .inl (1, 16), .inl (0, 16), .inl (0, 80), .inl (3, 80), .inl (0, 256), .inl (0, 120), .inl (0, 60), .inl (0, 720), .inl (0, 4200), .inl (0, 60), .inl (0, 200), .inl (0, 200), .inl (0, 1211), .inl (1, 60), .inl (0, 60), .inl (0, 2), .inl (0, 12), .inl (0, 12), .inl (3, 1211), .inl (0, 60), .inl (0, 200), .inl (0, 1000), .inl (0, 8), .inl (0, 10), .inl (3, 10), .inl (0, 12), .inl (0, 200), .inl (0, 1600), .inl (0, 8000), .inl (0, 32), .inl (0, 4), .inl (0, 4), .inl (0, 800), .inl (0, 800), .inl (0, 2), .inl (0, 41), .inl (0, 41)]
abbrev st15_65 : List Nat := [15, 65]
abbrev st19_69 : List Nat := [19, 69]
abbrev st27_77 : List Nat := [27, 77]
abbrev st39_43_47_51 : List Nat := [39, 43, 47, 51]
abbrev st39_43_47_51_77 : List Nat := [39, 43, 47, 51, 77]
abbrev st56_59 : List Nat := [56, 59]
theorem sC_0 : shC[0]? = some (.inr (11, [(2, 1), (2, 31), (2, 36), (2, 38), (2, 55), (2, 56), (2, 59), (2, 62), (2, 64), (1, 0)])) := rfl
theorem sC_1 : shC[1]? = some (.inr (6, [(2, 2), (2, 8), (0, 0), (0, 0), (0, 0), (2, 9), (2, 14), (0, 0)])) := rfl
theorem sC_10 : shC[10]? = some (.inl (2, 4000)) := rfl
theorem sC_11 : shC[11]? = some (.inl (0, 4001)) := rfl
theorem sC_12 : shC[12]? = some (.inl (0, 4001)) := rfl
theorem sC_13 : shC[13]? = some (.inl (1, 4001)) := rfl
theorem sC_14 : shC[14]? = some (.inr (0, [(2, 15), (2, 19), (2, 27)])) := rfl
theorem sC_15 : shC[15]? = some (.inr (3, [(2, 16), (2, 17), (2, 18), (0, 0)])) := rfl
theorem sC_16 : shC[16]? = some (.inl (1, 16)) := rfl
theorem sC_17 : shC[17]? = some (.inl (0, 16)) := rfl
theorem sC_18 : shC[18]? = some (.inl (0, 80)) := rfl
theorem sC_19 : shC[19]? = some (.inr (8, [(2, 20), (2, 21), (2, 22), (2, 23), (2, 24), (2, 25), (2, 26), (0, 0)])) := rfl
theorem sC_2 : shC[2]? = some (.inr (1, [(2, 3), (2, 4), (2, 5), (2, 6), (2, 7), (0, 0), (0, 0), (0, 0)])) := rfl
theorem sC_20 : shC[20]? = some (.inl (0, 256)) := rfl
theorem sC_21 : shC[21]? = some (.inl (0, 60)) := rfl
theorem sC_22 : shC[22]? = some (.inl (0, 60)) := rfl
theorem sC_23 : shC[23]? = some (.inl (0, 60)) := rfl
theorem sC_24 : shC[24]? = some (.inl (0, 720)) := rfl
theorem sC_25 : shC[25]? = some (.inl (0, 5760)) := rfl
theorem sC_26 : shC[26]? = some (.inl (0, 480)) := rfl
theorem sC_27 : shC[27]? = some (.inr (4, [(2, 28), (2, 29), (2, 30), (0, 0), (0, 0), (0, 0), (0, 0), (0, 0)])) := rfl
theorem sC_28 : shC[28]? = some (.inl (0, 400)) := rfl
theorem sC_3 : shC[3]? = some (.inl (0, 1728)) := rfl
theorem sC_31 : shC[31]? = some (.inr (7, [(2, 32), (2, 33), (2, 34), (2, 35)])) := rfl
theorem sC_32 : shC[32]? = some (.inl (0, 8)) := rfl
theorem sC_33 : shC[33]? = some (.inl (0, 8)) := rfl
theorem sC_34 : shC[34]? = some (.inl (3, 8)) := rfl
theorem sC_35 : shC[35]? = some (.inl (0, 12)) := rfl
theorem sC_36 : shC[36]? = some (.inr (2, [(2, 37), (0, 0), (0, 0), (0, 0), (0, 0)])) := rfl
theorem sC_37 : shC[37]? = some (.inl (0, 50)) := rfl
theorem sC_38 : shC[38]? = some (.inl (39, 4)) := rfl
theorem sC_4 : shC[4]? = some (.inl (0, 200)) := rfl
theorem sC_5 : shC[5]? = some (.inl (1, 60)) := rfl
theorem sC_55 : shC[55]? = some (.inl (0, 400)) := rfl
theorem sC_56 : shC[56]? = some (.inr (10, [(2, 57), (2, 58), (0, 0)])) := rfl
theorem sC_57 : shC[57]? = some (.inl (0, 400)) := rfl
theorem sC_58 : shC[58]? = some (.inl (0, 400)) := rfl
theorem sC_59 : shC[59]? = some (.inr (10, [(2, 60), (2, 61), (0, 0)])) := rfl
theorem sC_6 : shC[6]? = some (.inl (0, 60)) := rfl
theorem sC_60 : shC[60]? = some (.inl (0, 400)) := rfl
theorem sC_62 : shC[62]? = some (.inr (5, [(2, 63), (0, 0)])) := rfl
theorem sC_63 : shC[63]? = some (.inl (2, 4000)) := rfl
theorem sC_64 : shC[64]? = some (.inr (0, [(2, 65), (2, 69), (2, 77)])) := rfl
theorem sC_65 : shC[65]? = some (.inr (3, [(2, 66), (2, 67), (2, 68), (0, 0)])) := rfl
theorem sC_66 : shC[66]? = some (.inl (1, 16)) := rfl
theorem sC_69 : shC[69]? = some (.inr (8, [(2, 70), (2, 71), (2, 72), (2, 73), (2, 74), (2, 75), (2, 76), (0, 0)])) := rfl
theorem sC_7 : shC[7]? = some (.inl (3, 60)) := rfl
theorem sC_71 : shC[71]? = some (.inl (0, 60)) := rfl
theorem sC_72 : shC[72]? = some (.inl (0, 60)) := rfl
theorem sC_73 : shC[73]? = some (.inl (0, 60)) := rfl
theorem sC_74 : shC[74]? = some (.inl (0, 720)) := rfl
theorem sC_75 : shC[75]? = some (.inl (0, 5760)) := rfl
theorem sC_76 : shC[76]? = some (.inl (0, 480)) := rfl
theorem sC_77 : shC[77]? = some (.inr (4, [(2, 78), (2, 79), (2, 80), (0, 0), (0, 0), (0, 0), (0, 0), (0, 0)])) := rfl
theorem sC_78 : shC[78]? = some (.inl (0, 400)) := rfl
theorem sC_79 : shC[79]? = some (.inl (0, 3200)) := rfl
theorem sC_8 : shC[8]? = some (.inl (0, 2)) := rfl
theorem sC_9 : shC[9]? = some (.inr (9, [(2, 10), (2, 11), (2, 12), (2, 13), (0, 0), (0, 0), (0, 0), (0, 0), (0, 0), (1, 0)])) := rfl
theorem sC_st15_65_0 {a : Nat} (h : a ∈ st15_65) : shC[a]? = some (.inr (3, [(2, a + 1), (2, a + 2), (2, a + 3), (0, 0)])) := by
  revert a
  decide +kernel
theorem sC_st15_65_2 {a : Nat} (h : a ∈ st15_65) : shC[a + 2]? = some (.inl (0, 16)) := by
  revert a
  decide +kernel
theorem sC_st15_65_3 {a : Nat} (h : a ∈ st15_65) : shC[a + 3]? = some (.inl (0, 80)) := by
  revert a
  decide +kernel
theorem sC_st19_69_0 {a : Nat} (h : a ∈ st19_69) : shC[a]? = some (.inr (8, [(2, a + 1), (2, a + 2), (2, a + 3), (2, a + 4), (2, a + 5), (2, a + 6), (2, a + 7), (0, 0)])) := by
  revert a
  decide +kernel
theorem sC_st19_69_1 {a : Nat} (h : a ∈ st19_69) : shC[a + 1]? = some (.inl (0, 256)) := by
  revert a
  decide +kernel
theorem sC_st27_77_0 {a : Nat} (h : a ∈ st27_77) : shC[a]? = some (.inr (4, [(2, a + 1), (2, a + 2), (2, a + 3), (0, 0), (0, 0), (0, 0), (0, 0), (0, 0)])) := by
  revert a
  decide +kernel
theorem sC_st27_77_1 {a : Nat} (h : a ∈ st27_77) : shC[a + 1]? = some (.inl (0, 400)) := by
  revert a
  decide +kernel
theorem sC_st27_77_2 {a : Nat} (h : a ∈ st27_77) : shC[a + 2]? = some (.inl (0, 3200)) := by
  revert a
  decide +kernel
theorem sC_st27_77_3 {a : Nat} (h : a ∈ st27_77) : shC[a + 3]? = some (.inl (0, 8)) := by
  revert a
  decide +kernel
theorem sC_st39_43_47_51_0 {a : Nat} (h : a ∈ st39_43_47_51) : shC[a]? = some (.inr (4, [(2, a + 1), (2, a + 2), (2, a + 3), (0, 0), (0, 0), (0, 0), (0, 0), (0, 0)])) := by
  revert a
  decide +kernel
theorem sC_st39_43_47_51_77_0 {a : Nat} (h : a ∈ st39_43_47_51_77) : shC[a]? = some (.inr (4, [(2, a + 1), (2, a + 2), (2, a + 3), (0, 0), (0, 0), (0, 0), (0, 0), (0, 0)])) := by
  revert a
  decide +kernel
theorem sC_st39_43_47_51_77_1 {a : Nat} (h : a ∈ st39_43_47_51_77) : shC[a + 1]? = some (.inl (0, 400)) := by
  revert a
  decide +kernel
theorem sC_st39_43_47_51_77_2 {a : Nat} (h : a ∈ st39_43_47_51_77) : shC[a + 2]? = some (.inl (0, 3200)) := by
  revert a
  decide +kernel
theorem sC_st39_43_47_51_77_3 {a : Nat} (h : a ∈ st39_43_47_51_77) : shC[a + 3]? = some (.inl (0, 8)) := by
  revert a
  decide +kernel
theorem sC_st56_59_0 {a : Nat} (h : a ∈ st56_59) : shC[a]? = some (.inr (10, [(2, a + 1), (2, a + 2), (0, 0)])) := by
  revert a
  decide +kernel
theorem sC_st56_59_1 {a : Nat} (h : a ∈ st56_59) : shC[a + 1]? = some (.inl (0, 400)) := by
  revert a
  decide +kernel
theorem sC_st56_59_2 {a : Nat} (h : a ∈ st56_59) : shC[a + 2]? = some (.inl (0, 400)) := by
  revert a
  decide +kernel
theorem sM_0 : shM[0]? = some (.inr (12, [(2, 1), (0, 0), (0, 0), (0, 0), (2, 2), (2, 3), (2, 4), (2, 5), (0, 0), (2, 6), (2, 7), (2, 8), (2, 9), (2, 10), (2, 11), (2, 12), (2, 13), (2, 14), (0, 0), (0, 0), (0, 0), (0, 0), (0, 0), (0, 0), (1, 0), (2, 15), (0, 0), (2, 16), (0, 0), (0, 0), (0, 0), (0, 0), (1, 0), (0, 0), (0, 0), (0, 0), (0, 0), (2, 17), (2, 18), (2, 19), (2, 20), (0, 0), (2, 21), (2, 22), (2, 23), (2, 24), (2, 25), (2, 26), (0, 0), (0, 0), (0, 0), (2, 27), (2, 28), (2, 29), (0, 0), (2, 30), (2, 31), (2, 32), (2, 33), (2, 34), (0, 0), (2, 35), (2, 36), (0, 0), (2, 37), (2, 38), (0, 0), (2, 39), (0, 0), (2, 40), (2, 41), (2, 42), (2, 43), (2, 44), (2, 45), (2, 46), (2, 47), (2, 48), (2, 49), (2, 50), (2, 51), (2, 52), (2, 53)])) := rfl
theorem sM_1 : shM[1]? = some (.inl (0, 4000)) := rfl
theorem sM_10 : shM[10]? = some (.inl (0, 4200)) := rfl
theorem sM_11 : shM[11]? = some (.inl (0, 60)) := rfl
theorem sM_12 : shM[12]? = some (.inl (0, 400)) := rfl
theorem sM_13 : shM[13]? = some (.inl (0, 2000)) := rfl
theorem sM_14 : shM[14]? = some (.inl (0, 8)) := rfl
theorem sM_15 : shM[15]? = some (.inl (0, 50)) := rfl
theorem sM_16 : shM[16]? = some (.inl (0, 4000)) := rfl
theorem sM_17 : shM[17]? = some (.inl (1, 16)) := rfl
theorem sM_18 : shM[18]? = some (.inl (0, 16)) := rfl
theorem sM_19 : shM[19]? = some (.inl (0, 80)) := rfl
theorem sM_2 : shM[2]? = some (.inl (1, 16)) := rfl
theorem sM_20 : shM[20]? = some (.inl (3, 80)) := rfl
theorem sM_21 : shM[21]? = some (.inl (0, 256)) := rfl
theorem sM_22 : shM[22]? = some (.inl (0, 120)) := rfl
theorem sM_23 : shM[23]? = some (.inl (0, 60)) := rfl
theorem sM_24 : shM[24]? = some (.inl (0, 720)) := rfl
theorem sM_25 : shM[25]? = some (.inl (0, 4200)) := rfl
theorem sM_26 : shM[26]? = some (.inl (0, 60)) := rfl
theorem sM_27 : shM[27]? = some (.inl (0, 200)) := rfl
theorem sM_28 : shM[28]? = some (.inl (0, 200)) := rfl
theorem sM_29 : shM[29]? = some (.inl (0, 1211)) := rfl
theorem sM_3 : shM[3]? = some (.inl (0, 16)) := rfl
theorem sM_30 : shM[30]? = some (.inl (1, 60)) := rfl
theorem sM_31 : shM[31]? = some (.inl (0, 60)) := rfl
theorem sM_32 : shM[32]? = some (.inl (0, 2)) := rfl
theorem sM_33 : shM[33]? = some (.inl (0, 12)) := rfl
theorem sM_34 : shM[34]? = some (.inl (0, 12)) := rfl
theorem sM_35 : shM[35]? = some (.inl (3, 1211)) := rfl
theorem sM_36 : shM[36]? = some (.inl (0, 60)) := rfl
theorem sM_37 : shM[37]? = some (.inl (0, 200)) := rfl
theorem sM_38 : shM[38]? = some (.inl (0, 1000)) := rfl
theorem sM_39 : shM[39]? = some (.inl (0, 8)) := rfl
theorem sM_4 : shM[4]? = some (.inl (0, 80)) := rfl
theorem sM_40 : shM[40]? = some (.inl (0, 10)) := rfl
theorem sM_41 : shM[41]? = some (.inl (3, 10)) := rfl
theorem sM_42 : shM[42]? = some (.inl (0, 12)) := rfl
theorem sM_43 : shM[43]? = some (.inl (0, 200)) := rfl
theorem sM_44 : shM[44]? = some (.inl (0, 1600)) := rfl
theorem sM_45 : shM[45]? = some (.inl (0, 8000)) := rfl
theorem sM_46 : shM[46]? = some (.inl (0, 32)) := rfl
theorem sM_47 : shM[47]? = some (.inl (0, 4)) := rfl
theorem sM_48 : shM[48]? = some (.inl (0, 4)) := rfl
theorem sM_49 : shM[49]? = some (.inl (0, 800)) := rfl
theorem sM_5 : shM[5]? = some (.inl (3, 80)) := rfl
theorem sM_50 : shM[50]? = some (.inl (0, 800)) := rfl
theorem sM_51 : shM[51]? = some (.inl (0, 2)) := rfl
theorem sM_52 : shM[52]? = some (.inl (0, 41)) := rfl
theorem sM_53 : shM[53]? = some (.inl (0, 41)) := rfl
theorem sM_6 : shM[6]? = some (.inl (0, 256)) := rfl
theorem sM_7 : shM[7]? = some (.inl (0, 120)) := rfl
theorem sM_8 : shM[8]? = some (.inl (0, 60)) := rfl
theorem sM_9 : shM[9]? = some (.inl (0, 720)) := rfl
theorem sub_st39_43_47_51_st39_43_47_51_77 : ∀ a, a ∈ st39_43_47_51 → a ∈ st39_43_47_51_77 := by decide +kernel
theorem cb_m100 : (Int8.ofInt (-100)).toInt32 = (-100 : Int32) := by decide +kernel
theorem cb_m10 : (Int8.ofInt (-10)).toInt32 = (-10 : Int32) := by decide +kernel
theorem cb_m2 : (Int8.ofInt (-2)).toInt32 = (-2 : Int32) := by decide +kernel
theorem cb_6 : (Int8.ofInt (6)).toInt32 = (6 : Int32) := by decide +kernel
theorem cb_7 : (Int8.ofInt (7)).toInt32 = (7 : Int32) := by decide +kernel
theorem cb_8 : (Int8.ofInt (8)).toInt32 = (8 : Int32) := by decide +kernel
theorem cb_10 : (Int8.ofInt (10)).toInt32 = (10 : Int32) := by decide +kernel
theorem cb_12 : (Int8.ofInt (12)).toInt32 = (12 : Int32) := by decide +kernel
theorem cb_16 : (Int8.ofInt (16)).toInt32 = (16 : Int32) := by decide +kernel
theorem cb_20 : (Int8.ofInt (20)).toInt32 = (20 : Int32) := by decide +kernel
theorem cb_24 : (Int8.ofInt (24)).toInt32 = (24 : Int32) := by decide +kernel
theorem cb_32 : (Int8.ofInt (32)).toInt32 = (32 : Int32) := by decide +kernel
theorem cb_33 : (Int8.ofInt (33)).toInt32 = (33 : Int32) := by decide +kernel
theorem cb_35 : (Int8.ofInt (35)).toInt32 = (35 : Int32) := by decide +kernel
theorem cb_40 : (Int8.ofInt (40)).toInt32 = (40 : Int32) := by decide +kernel
theorem cb_41 : (Int8.ofInt (41)).toInt32 = (41 : Int32) := by decide +kernel
theorem cb_43 : (Int8.ofInt (43)).toInt32 = (43 : Int32) := by decide +kernel
theorem cb_44 : (Int8.ofInt (44)).toInt32 = (44 : Int32) := by decide +kernel
theorem cb_45 : (Int8.ofInt (45)).toInt32 = (45 : Int32) := by decide +kernel
theorem cb_46 : (Int8.ofInt (46)).toInt32 = (46 : Int32) := by decide +kernel
theorem cb_48 : (Int8.ofInt (48)).toInt32 = (48 : Int32) := by decide +kernel
theorem cb_50 : (Int8.ofInt (50)).toInt32 = (50 : Int32) := by decide +kernel
theorem cb_56 : (Int8.ofInt (56)).toInt32 = (56 : Int32) := by decide +kernel
theorem cb_57 : (Int8.ofInt (57)).toInt32 = (57 : Int32) := by decide +kernel
theorem cb_58 : (Int8.ofInt (58)).toInt32 = (58 : Int32) := by decide +kernel
theorem cb_59 : (Int8.ofInt (59)).toInt32 = (59 : Int32) := by decide +kernel
theorem cb_60 : (Int8.ofInt (60)).toInt32 = (60 : Int32) := by decide +kernel
theorem cb_61 : (Int8.ofInt (61)).toInt32 = (61 : Int32) := by decide +kernel
theorem cb_62 : (Int8.ofInt (62)).toInt32 = (62 : Int32) := by decide +kernel
theorem cb_64 : (Int8.ofInt (64)).toInt32 = (64 : Int32) := by decide +kernel
theorem cb_65 : (Int8.ofInt (65)).toInt32 = (65 : Int32) := by decide +kernel
theorem cb_70 : (Int8.ofInt (70)).toInt32 = (70 : Int32) := by decide +kernel
theorem cb_80 : (Int8.ofInt (80)).toInt32 = (80 : Int32) := by decide +kernel
theorem cb_90 : (Int8.ofInt (90)).toInt32 = (90 : Int32) := by decide +kernel
theorem cb_96 : (Int8.ofInt (96)).toInt32 = (96 : Int32) := by decide +kernel
theorem cb_97 : (Int8.ofInt (97)).toInt32 = (97 : Int32) := by decide +kernel
theorem cb_120 : (Int8.ofInt (120)).toInt32 = (120 : Int32) := by decide +kernel
theorem cb_122 : (Int8.ofInt (122)).toInt32 = (122 : Int32) := by decide +kernel
theorem cb_126 : (Int8.ofInt (126)).toInt32 = (126 : Int32) := by decide +kernel
theorem ci_m8 : Int32.ofInt (-8) = (-8 : Int32) := by decide +kernel
theorem ci_m1 : Int32.ofInt (-1) = (-1 : Int32) := by decide +kernel
theorem ci_0 : Int32.ofInt (0) = (0 : Int32) := by decide +kernel
theorem ci_1 : Int32.ofInt (1) = (1 : Int32) := by decide +kernel
theorem ci_2 : Int32.ofInt (2) = (2 : Int32) := by decide +kernel
theorem ci_3 : Int32.ofInt (3) = (3 : Int32) := by decide +kernel
theorem ci_4 : Int32.ofInt (4) = (4 : Int32) := by decide +kernel
theorem ci_5 : Int32.ofInt (5) = (5 : Int32) := by decide +kernel
theorem cs_m1004 : (Int16.ofInt (-1004)).toInt32 = (-1004 : Int32) := by decide +kernel
theorem cs_m1003 : (Int16.ofInt (-1003)).toInt32 = (-1003 : Int32) := by decide +kernel
theorem cs_m1002 : (Int16.ofInt (-1002)).toInt32 = (-1002 : Int32) := by decide +kernel
theorem cs_m1001 : (Int16.ofInt (-1001)).toInt32 = (-1001 : Int32) := by decide +kernel
theorem cs_200 : (Int16.ofInt (200)).toInt32 = (200 : Int32) := by decide +kernel
theorem cs_255 : (Int16.ofInt (255)).toInt32 = (255 : Int32) := by decide +kernel
theorem cs_256 : (Int16.ofInt (256)).toInt32 = (256 : Int32) := by decide +kernel
theorem cs_400 : (Int16.ofInt (400)).toInt32 = (400 : Int32) := by decide +kernel
theorem cs_720 : (Int16.ofInt (720)).toInt32 = (720 : Int32) := by decide +kernel
theorem cs_1000 : (Int16.ofInt (1000)).toInt32 = (1000 : Int32) := by decide +kernel
theorem cs_1200 : (Int16.ofInt (1200)).toInt32 = (1200 : Int32) := by decide +kernel
theorem cs_1210 : (Int16.ofInt (1210)).toInt32 = (1210 : Int32) := by decide +kernel
theorem cs_1211 : (Int16.ofInt (1211)).toInt32 = (1211 : Int32) := by decide +kernel
theorem cs_1600 : (Int16.ofInt (1600)).toInt32 = (1600 : Int32) := by decide +kernel
theorem cs_1720 : (Int16.ofInt (1720)).toInt32 = (1720 : Int32) := by decide +kernel
theorem cs_1728 : (Int16.ofInt (1728)).toInt32 = (1728 : Int32) := by decide +kernel
theorem cs_2000 : (Int16.ofInt (2000)).toInt32 = (2000 : Int32) := by decide +kernel
theorem cs_3000 : (Int16.ofInt (3000)).toInt32 = (3000 : Int32) := by decide +kernel
theorem cs_3200 : (Int16.ofInt (3200)).toInt32 = (3200 : Int32) := by decide +kernel
theorem cs_4000 : (Int16.ofInt (4000)).toInt32 = (4000 : Int32) := by decide +kernel
theorem cs_4200 : (Int16.ofInt (4200)).toInt32 = (4200 : Int32) := by decide +kernel
theorem cs_10000 : (Int16.ofInt (10000)).toInt32 = (10000 : Int32) := by decide +kernel
set_option maxRecDepth 20000 in
theorem fl_X11_12 : Cond.fieldLink "HeadNets" 12 "HeadNets" "reader" "LHeadNets$Reader;" ∈ tb := tb2 108 rfl rfl
set_option maxRecDepth 20000 in
theorem fl_X11_19 : Cond.fieldLink "HeadNets" 19 "HeadNets" "rewriter" "LHeadNets$Rewriter;" ∈ tb := tb2 109 rfl rfl
set_option maxRecDepth 20000 in
theorem fl_X11_26 : Cond.fieldLink "HeadNets" 26 "HeadNets" "journal" "LHeadNets$Journal;" ∈ tb := tb2 110 rfl rfl
set_option maxRecDepth 20000 in
theorem fl_X11_32 : Cond.fieldLink "HeadNets" 32 "HeadNets" "shelves" "[LHeadNets$Net;" ∈ tb := tb2 111 rfl rfl
set_option maxRecDepth 20000 in
theorem fl_X11_37 : Cond.fieldLink "HeadNets" 37 "HeadNets" "roundPairs" "[I" ∈ tb := tb2 112 rfl rfl
set_option maxRecDepth 20000 in
theorem fl_X11_44 : Cond.fieldLink "HeadNets" 44 "HeadNets" "walk" "LHeadNets$Walk;" ∈ tb := tb2 113 rfl rfl
set_option maxRecDepth 20000 in
theorem fl_X11_48 : Cond.fieldLink "HeadNets" 48 "HeadNets" "otherWalk" "LHeadNets$Walk;" ∈ tb := tb2 114 rfl rfl
set_option maxRecDepth 20000 in
theorem fl_X11_54 : Cond.fieldLink "HeadNets" 54 "HeadNets" "printer" "LHeadNets$Printer;" ∈ tb := tb2 115 rfl rfl
set_option maxRecDepth 20000 in
theorem fl_X11_61 : Cond.fieldLink "HeadNets" 61 "HeadNets" "book" "LHeadNets$Book;" ∈ tb := tb2 116 rfl rfl
set_option maxRecDepth 20000 in
theorem fl_X11_65 : Cond.fieldLink "HeadNets" 65 "HeadNets" "drawn" "J" ∈ tb := tb2 117 rfl rfl
set_option maxRecDepth 20000 in
theorem fl_X11_69 : Cond.fieldLink "HeadNets" 69 "HeadNets$Reader" "tape" "LHeadNets$Tape;" ∈ tb := tb2 6 rfl rfl
set_option maxRecDepth 20000 in
theorem fl_X11_83 : Cond.fieldLink "HeadNets" 83 "HeadNets$Tape" "length" "I" ∈ tb := tb1 85 rfl rfl
set_option maxRecDepth 20000 in
theorem fl_X11_91 : Cond.fieldLink "HeadNets" 91 "HeadNets$Reader" "book" "LHeadNets$Book;" ∈ tb := tb2 8 rfl rfl
set_option maxRecDepth 20000 in
theorem fl_X11_92 : Cond.fieldLink "HeadNets" 92 "HeadNets$Book" "net" "LHeadNets$Net;" ∈ tb := tb1 230 rfl rfl
set_option maxRecDepth 20000 in
theorem fl_X11_96 : Cond.fieldLink "HeadNets" 96 "HeadNets$Net" "size" "I" ∈ tb := tb1 188 rfl rfl
set_option maxRecDepth 20000 in
theorem fl_X11_105 : Cond.fieldLink "HeadNets" 105 "HeadNets$Reader" "faultPlace" "I" ∈ tb := tb2 10 rfl rfl
set_option maxRecDepth 20000 in
theorem fl_X11_108 : Cond.fieldLink "HeadNets" 108 "HeadNets$Book" "kinds" "LHeadNets$Kinds;" ∈ tb := tb1 222 rfl rfl
set_option maxRecDepth 20000 in
theorem fl_X11_112 : Cond.fieldLink "HeadNets" 112 "HeadNets$Kinds" "size" "I" ∈ tb := tb1 132 rfl rfl
set_option maxRecDepth 20000 in
theorem fl_X11_115 : Cond.fieldLink "HeadNets" 115 "HeadNets$Book" "rules" "LHeadNets$Rules;" ∈ tb := tb1 226 rfl rfl
set_option maxRecDepth 20000 in
theorem fl_X11_119 : Cond.fieldLink "HeadNets" 119 "HeadNets$Rules" "size" "I" ∈ tb := tb1 159 rfl rfl
set_option maxRecDepth 20000 in
theorem fl_X11_122 : Cond.fieldLink "HeadNets" 122 "HeadNets$Net" "endCount" "I" ∈ tb := tb1 191 rfl rfl
set_option maxRecDepth 20000 in
theorem fl_X11_125 : Cond.fieldLink "HeadNets" 125 "HeadNets$Net" "rings" "I" ∈ tb := tb1 196 rfl rfl
set_option maxRecDepth 20000 in
theorem fl_X11_136 : Cond.fieldLink "HeadNets" 136 "HeadNets$Journal" "steps" "I" ∈ tb := tb2 55 rfl rfl
set_option maxRecDepth 20000 in
theorem fl_X11_139 : Cond.fieldLink "HeadNets" 139 "HeadNets$Journal" "mostAgents" "I" ∈ tb := tb2 57 rfl rfl
set_option maxRecDepth 20000 in
theorem fl_X11_142 : Cond.fieldLink "HeadNets" 142 "HeadNets$Journal" "rounds" "I" ∈ tb := tb2 59 rfl rfl
set_option maxRecDepth 20000 in
theorem fl_X11_145 : Cond.fieldLink "HeadNets" 145 "HeadNets$Journal" "crowded" "Z" ∈ tb := tb2 60 rfl rfl
set_option maxRecDepth 20000 in
theorem fl_X11_149 : Cond.fieldLink "HeadNets" 149 "HeadNets$Printer" "length" "I" ∈ tb := tb2 100 rfl rfl
set_option maxRecDepth 20000 in
theorem fl_X11_216 : Cond.fieldLink "HeadNets" 216 "HeadNets$Net" "kept" "Z" ∈ tb := tb1 201 rfl rfl
set_option maxRecDepth 20000 in
theorem fl_X11_227 : Cond.fieldLink "HeadNets" 227 "HeadNets$Walk" "size" "I" ∈ tb := tb2 84 rfl rfl
set_option maxRecDepth 20000 in
theorem fl_X0_12 : Cond.fieldLink "HeadNets$Book" 12 "HeadNets$Book" "kinds" "LHeadNets$Kinds;" ∈ tb := tb1 219 rfl rfl
set_option maxRecDepth 20000 in
theorem fl_X0_21 : Cond.fieldLink "HeadNets$Book" 21 "HeadNets$Book" "rules" "LHeadNets$Rules;" ∈ tb := tb1 224 rfl rfl
set_option maxRecDepth 20000 in
theorem fl_X0_28 : Cond.fieldLink "HeadNets$Book" 28 "HeadNets$Book" "net" "LHeadNets$Net;" ∈ tb := tb1 228 rfl rfl
set_option maxRecDepth 20000 in
theorem fl_X0_32 : Cond.fieldLink "HeadNets$Book" 32 "HeadNets$Kinds" "size" "I" ∈ tb := tb1 130 rfl rfl
set_option maxRecDepth 20000 in
theorem fl_X0_54 : Cond.fieldLink "HeadNets$Book" 54 "HeadNets$Net" "top" "I" ∈ tb := tb1 199 rfl rfl
set_option maxRecDepth 20000 in
theorem fl_X1_11 : Cond.fieldLink "HeadNets$Draft" 11 "HeadNets$Draft" "mates" "[I" ∈ tb := tb1 42 rfl rfl
set_option maxRecDepth 20000 in
theorem fl_X1_15 : Cond.fieldLink "HeadNets$Draft" 15 "HeadNets$Draft" "agentKinds" "[I" ∈ tb := tb1 43 rfl rfl
set_option maxRecDepth 20000 in
theorem fl_X1_18 : Cond.fieldLink "HeadNets$Draft" 18 "HeadNets$Draft" "names" "[J" ∈ tb := tb1 44 rfl rfl
set_option maxRecDepth 20000 in
theorem fl_X1_22 : Cond.fieldLink "HeadNets$Draft" 22 "HeadNets$Draft" "times" "[I" ∈ tb := tb1 45 rfl rfl
set_option maxRecDepth 20000 in
theorem fl_X1_25 : Cond.fieldLink "HeadNets$Draft" 25 "HeadNets$Draft" "walked" "[Z" ∈ tb := tb1 46 rfl rfl
set_option maxRecDepth 20000 in
theorem fl_X1_35 : Cond.fieldLink "HeadNets$Draft" 35 "HeadNets$Draft" "agentCount" "I" ∈ tb := tb1 47 rfl rfl
set_option maxRecDepth 20000 in
theorem fl_X1_39 : Cond.fieldLink "HeadNets$Draft" 39 "HeadNets$Draft" "nameCount" "I" ∈ tb := tb1 49 rfl rfl
set_option maxRecDepth 20000 in
theorem fl_X1_42 : Cond.fieldLink "HeadNets$Draft" 42 "HeadNets$Draft" "endCount" "I" ∈ tb := tb1 50 rfl rfl
set_option maxRecDepth 20000 in
theorem fl_X2_11 : Cond.fieldLink "HeadNets$Journal" 11 "HeadNets$Journal" "recent" "[I" ∈ tb := tb2 53 rfl rfl
set_option maxRecDepth 20000 in
theorem fl_X2_15 : Cond.fieldLink "HeadNets$Journal" 15 "HeadNets$Journal" "steps" "I" ∈ tb := tb2 54 rfl rfl
set_option maxRecDepth 20000 in
theorem fl_X2_19 : Cond.fieldLink "HeadNets$Journal" 19 "HeadNets$Journal" "mostAgents" "I" ∈ tb := tb2 56 rfl rfl
set_option maxRecDepth 20000 in
theorem fl_X2_22 : Cond.fieldLink "HeadNets$Journal" 22 "HeadNets$Journal" "rounds" "I" ∈ tb := tb2 58 rfl rfl
set_option maxRecDepth 20000 in
theorem fl_X3_9 : Cond.fieldLink "HeadNets$Kinds" 9 "HeadNets$Kinds" "names" "[J" ∈ tb := tb1 127 rfl rfl
set_option maxRecDepth 20000 in
theorem fl_X3_15 : Cond.fieldLink "HeadNets$Kinds" 15 "HeadNets$Kinds" "ports" "[I" ∈ tb := tb1 128 rfl rfl
set_option maxRecDepth 20000 in
theorem fl_X3_19 : Cond.fieldLink "HeadNets$Kinds" 19 "HeadNets$Kinds" "sorts" "[I" ∈ tb := tb1 129 rfl rfl
set_option maxRecDepth 20000 in
theorem fl_X3_22 : Cond.fieldLink "HeadNets$Kinds" 22 "HeadNets$Kinds" "size" "I" ∈ tb := tb1 131 rfl rfl
set_option maxRecDepth 20000 in
theorem fl_X4_9 : Cond.fieldLink "HeadNets$Net" 9 "HeadNets$Net" "kinds" "[I" ∈ tb := tb1 184 rfl rfl
set_option maxRecDepth 20000 in
theorem fl_X4_15 : Cond.fieldLink "HeadNets$Net" 15 "HeadNets$Net" "wires" "[I" ∈ tb := tb1 185 rfl rfl
set_option maxRecDepth 20000 in
theorem fl_X4_18 : Cond.fieldLink "HeadNets$Net" 18 "HeadNets$Net" "ends" "[I" ∈ tb := tb1 186 rfl rfl
set_option maxRecDepth 20000 in
theorem fl_X4_27 : Cond.fieldLink "HeadNets$Net" 27 "HeadNets$Net" "size" "I" ∈ tb := tb1 187 rfl rfl
set_option maxRecDepth 20000 in
theorem fl_X4_31 : Cond.fieldLink "HeadNets$Net" 31 "HeadNets$Net" "endCount" "I" ∈ tb := tb1 189 rfl rfl
set_option maxRecDepth 20000 in
theorem fl_X4_34 : Cond.fieldLink "HeadNets$Net" 34 "HeadNets$Net" "rings" "I" ∈ tb := tb1 193 rfl rfl
set_option maxRecDepth 20000 in
theorem fl_X4_37 : Cond.fieldLink "HeadNets$Net" 37 "HeadNets$Net" "top" "I" ∈ tb := tb1 198 rfl rfl
set_option maxRecDepth 20000 in
theorem fl_X5_9 : Cond.fieldLink "HeadNets$Printer" 9 "HeadNets$Printer" "bytes" "[B" ∈ tb := tb2 98 rfl rfl
set_option maxRecDepth 20000 in
theorem fl_X5_15 : Cond.fieldLink "HeadNets$Printer" 15 "HeadNets$Printer" "length" "I" ∈ tb := tb2 99 rfl rfl
set_option maxRecDepth 20000 in
theorem fl_X5_41 : Cond.fieldLink "HeadNets$Printer" 41 "HeadNets$Book" "net" "LHeadNets$Net;" ∈ tb := tb1 231 rfl rfl
set_option maxRecDepth 20000 in
theorem fl_X5_52 : Cond.fieldLink "HeadNets$Printer" 52 "HeadNets$Book" "kinds" "LHeadNets$Kinds;" ∈ tb := tb1 221 rfl rfl
set_option maxRecDepth 20000 in
theorem fl_X6_12 : Cond.fieldLink "HeadNets$Reader" 12 "HeadNets$Reader" "draft" "LHeadNets$Draft;" ∈ tb := tb2 0 rfl rfl
set_option maxRecDepth 20000 in
theorem fl_X6_18 : Cond.fieldLink "HeadNets$Reader" 18 "HeadNets$Reader" "sideKinds" "[I" ∈ tb := tb2 1 rfl rfl
set_option maxRecDepth 20000 in
theorem fl_X6_25 : Cond.fieldLink "HeadNets$Reader" 25 "HeadNets$Reader" "tape" "LHeadNets$Tape;" ∈ tb := tb2 5 rfl rfl
set_option maxRecDepth 20000 in
theorem fl_X6_32 : Cond.fieldLink "HeadNets$Reader" 32 "HeadNets$Reader" "book" "LHeadNets$Book;" ∈ tb := tb2 7 rfl rfl
set_option maxRecDepth 20000 in
theorem fl_X6_36 : Cond.fieldLink "HeadNets$Reader" 36 "HeadNets$Reader" "faultPlace" "I" ∈ tb := tb2 9 rfl rfl
set_option maxRecDepth 20000 in
theorem fl_X6_43 : Cond.fieldLink "HeadNets$Reader" 43 "HeadNets$Reader" "netRead" "Z" ∈ tb := tb2 3 rfl rfl
set_option maxRecDepth 20000 in
theorem fl_X6_47 : Cond.fieldLink "HeadNets$Reader" 47 "HeadNets$Reader" "fault" "I" ∈ tb := tb2 4 rfl rfl
set_option maxRecDepth 20000 in
theorem fl_X6_53 : Cond.fieldLink "HeadNets$Reader" 53 "HeadNets$Tape" "token" "I" ∈ tb := tb1 87 rfl rfl
set_option maxRecDepth 20000 in
theorem fl_X6_78 : Cond.fieldLink "HeadNets$Reader" 78 "HeadNets$Tape" "length" "I" ∈ tb := tb1 86 rfl rfl
set_option maxRecDepth 20000 in
theorem fl_X6_81 : Cond.fieldLink "HeadNets$Reader" 81 "HeadNets$Tape" "tokenName" "J" ∈ tb := tb1 91 rfl rfl
set_option maxRecDepth 20000 in
theorem fl_X6_85 : Cond.fieldLink "HeadNets$Reader" 85 "HeadNets$Tape" "tokenStart" "I" ∈ tb := tb1 89 rfl rfl
set_option maxRecDepth 20000 in
theorem fl_X6_91 : Cond.fieldLink "HeadNets$Reader" 91 "HeadNets$Book" "kinds" "LHeadNets$Kinds;" ∈ tb := tb1 223 rfl rfl
set_option maxRecDepth 20000 in
theorem fl_X6_129 : Cond.fieldLink "HeadNets$Reader" 129 "HeadNets$Book" "rules" "LHeadNets$Rules;" ∈ tb := tb1 227 rfl rfl
set_option maxRecDepth 20000 in
theorem fl_X6_137 : Cond.fieldLink "HeadNets$Reader" 137 "HeadNets$Reader" "inRule" "Z" ∈ tb := tb2 2 rfl rfl
set_option maxRecDepth 20000 in
theorem fl_X6_176 : Cond.fieldLink "HeadNets$Reader" 176 "HeadNets$Draft" "agentCount" "I" ∈ tb := tb1 48 rfl rfl
set_option maxRecDepth 20000 in
theorem fl_X6_216 : Cond.fieldLink "HeadNets$Reader" 216 "HeadNets$Draft" "endCount" "I" ∈ tb := tb1 51 rfl rfl
set_option maxRecDepth 20000 in
theorem fl_X6_274 : Cond.fieldLink "HeadNets$Reader" 274 "HeadNets$Book" "net" "LHeadNets$Net;" ∈ tb := tb1 232 rfl rfl
set_option maxRecDepth 20000 in
theorem fl_X6_283 : Cond.fieldLink "HeadNets$Reader" 283 "HeadNets$Net" "endCount" "I" ∈ tb := tb1 192 rfl rfl
set_option maxRecDepth 20000 in
theorem fl_X6_284 : Cond.fieldLink "HeadNets$Reader" 284 "HeadNets$Net" "rings" "I" ∈ tb := tb1 197 rfl rfl
set_option maxRecDepth 20000 in
theorem fl_X7_9 : Cond.fieldLink "HeadNets$Rewriter" 9 "HeadNets$Rewriter" "outerCodes" "[I" ∈ tb := tb2 34 rfl rfl
set_option maxRecDepth 20000 in
theorem fl_X7_15 : Cond.fieldLink "HeadNets$Rewriter" 15 "HeadNets$Rewriter" "outerSlots" "[I" ∈ tb := tb2 35 rfl rfl
set_option maxRecDepth 20000 in
theorem fl_X7_18 : Cond.fieldLink "HeadNets$Rewriter" 18 "HeadNets$Rewriter" "passed" "[Z" ∈ tb := tb2 36 rfl rfl
set_option maxRecDepth 20000 in
theorem fl_X7_22 : Cond.fieldLink "HeadNets$Rewriter" 22 "HeadNets$Rewriter" "numbers" "[I" ∈ tb := tb2 37 rfl rfl
set_option maxRecDepth 20000 in
theorem fl_X7_25 : Cond.fieldLink "HeadNets$Rewriter" 25 "HeadNets$Book" "rules" "LHeadNets$Rules;" ∈ tb := tb1 225 rfl rfl
set_option maxRecDepth 20000 in
theorem fl_X7_37 : Cond.fieldLink "HeadNets$Rewriter" 37 "HeadNets$Book" "net" "LHeadNets$Net;" ∈ tb := tb1 229 rfl rfl
set_option maxRecDepth 20000 in
theorem fl_X7_67 : Cond.fieldLink "HeadNets$Rewriter" 67 "HeadNets$Net" "rings" "I" ∈ tb := tb1 194 rfl rfl
set_option maxRecDepth 20000 in
theorem fl_X7_78 : Cond.fieldLink "HeadNets$Rewriter" 78 "HeadNets$Book" "kinds" "LHeadNets$Kinds;" ∈ tb := tb1 220 rfl rfl
set_option maxRecDepth 20000 in
theorem fl_X8_9 : Cond.fieldLink "HeadNets$Rules" 9 "HeadNets$Rules" "ruleOfKinds" "[I" ∈ tb := tb1 151 rfl rfl
set_option maxRecDepth 20000 in
theorem fl_X8_15 : Cond.fieldLink "HeadNets$Rules" 15 "HeadNets$Rules" "firstKinds" "[I" ∈ tb := tb1 152 rfl rfl
set_option maxRecDepth 20000 in
theorem fl_X8_18 : Cond.fieldLink "HeadNets$Rules" 18 "HeadNets$Rules" "agentCounts" "[I" ∈ tb := tb1 153 rfl rfl
set_option maxRecDepth 20000 in
theorem fl_X8_21 : Cond.fieldLink "HeadNets$Rules" 21 "HeadNets$Rules" "rings" "[I" ∈ tb := tb1 154 rfl rfl
set_option maxRecDepth 20000 in
theorem fl_X8_24 : Cond.fieldLink "HeadNets$Rules" 24 "HeadNets$Rules" "agentKinds" "[I" ∈ tb := tb1 155 rfl rfl
set_option maxRecDepth 20000 in
theorem fl_X8_27 : Cond.fieldLink "HeadNets$Rules" 27 "HeadNets$Rules" "portWires" "[I" ∈ tb := tb1 156 rfl rfl
set_option maxRecDepth 20000 in
theorem fl_X8_30 : Cond.fieldLink "HeadNets$Rules" 30 "HeadNets$Rules" "slotWires" "[I" ∈ tb := tb1 157 rfl rfl
set_option maxRecDepth 20000 in
theorem fl_X8_39 : Cond.fieldLink "HeadNets$Rules" 39 "HeadNets$Rules" "size" "I" ∈ tb := tb1 158 rfl rfl
set_option maxRecDepth 20000 in
theorem fl_X9_9 : Cond.fieldLink "HeadNets$Tape" 9 "HeadNets$Tape" "bytes" "[B" ∈ tb := tb1 78 rfl rfl
set_option maxRecDepth 20000 in
theorem fl_X9_15 : Cond.fieldLink "HeadNets$Tape" 15 "HeadNets$Tape" "tokens" "[I" ∈ tb := tb1 79 rfl rfl
set_option maxRecDepth 20000 in
theorem fl_X9_19 : Cond.fieldLink "HeadNets$Tape" 19 "HeadNets$Tape" "starts" "[I" ∈ tb := tb1 80 rfl rfl
set_option maxRecDepth 20000 in
theorem fl_X9_22 : Cond.fieldLink "HeadNets$Tape" 22 "HeadNets$Tape" "names" "[J" ∈ tb := tb1 81 rfl rfl
set_option maxRecDepth 20000 in
theorem fl_X9_26 : Cond.fieldLink "HeadNets$Tape" 26 "HeadNets$Tape" "length" "I" ∈ tb := tb1 84 rfl rfl
set_option maxRecDepth 20000 in
theorem fl_X9_34 : Cond.fieldLink "HeadNets$Tape" 34 "HeadNets$Tape" "tokenCount" "I" ∈ tb := tb1 82 rfl rfl
set_option maxRecDepth 20000 in
theorem fl_X9_51 : Cond.fieldLink "HeadNets$Tape" 51 "HeadNets$Tape" "at" "I" ∈ tb := tb1 83 rfl rfl
set_option maxRecDepth 20000 in
theorem fl_X9_80 : Cond.fieldLink "HeadNets$Tape" 80 "HeadNets$Tape" "token" "I" ∈ tb := tb1 88 rfl rfl
set_option maxRecDepth 20000 in
theorem fl_X9_83 : Cond.fieldLink "HeadNets$Tape" 83 "HeadNets$Tape" "tokenStart" "I" ∈ tb := tb1 90 rfl rfl
set_option maxRecDepth 20000 in
theorem fl_X9_86 : Cond.fieldLink "HeadNets$Tape" 86 "HeadNets$Tape" "tokenName" "J" ∈ tb := tb1 92 rfl rfl
set_option maxRecDepth 20000 in
theorem fl_X10_9 : Cond.fieldLink "HeadNets$Walk" 9 "HeadNets$Walk" "order" "[I" ∈ tb := tb2 81 rfl rfl
set_option maxRecDepth 20000 in
theorem fl_X10_15 : Cond.fieldLink "HeadNets$Walk" 15 "HeadNets$Walk" "numbers" "[I" ∈ tb := tb2 82 rfl rfl
set_option maxRecDepth 20000 in
theorem fl_X10_24 : Cond.fieldLink "HeadNets$Walk" 24 "HeadNets$Walk" "size" "I" ∈ tb := tb2 83 rfl rfl
set_option maxRecDepth 20000 in
theorem fl_X10_28 : Cond.fieldLink "HeadNets$Walk" 28 "HeadNets$Net" "endCount" "I" ∈ tb := tb1 190 rfl rfl
set_option maxRecDepth 20000 in
theorem fl_X10_67 : Cond.fieldLink "HeadNets$Walk" 67 "HeadNets$Net" "rings" "I" ∈ tb := tb1 195 rfl rfl
set_option maxRecDepth 20000 in
theorem fl_X10_91 : Cond.fieldLink "HeadNets$Walk" 91 "HeadNets$Net" "top" "I" ∈ tb := tb1 200 rfl rfl
set_option maxRecDepth 20000 in
theorem fl_X12_7 : Cond.fieldLink "HeadNetsModel" 7 "HeadNetsModel" "tape" "[I" ∈ tb := tb5 218 rfl rfl
set_option maxRecDepth 20000 in
theorem fl_X12_13 : Cond.fieldLink "HeadNetsModel" 13 "HeadNetsModel" "faultPlace" "I" ∈ tb := tb5 220 rfl rfl
set_option maxRecDepth 20000 in
theorem fl_X12_17 : Cond.fieldLink "HeadNetsModel" 17 "HeadNetsModel" "kindNames" "[J" ∈ tb := tb5 222 rfl rfl
set_option maxRecDepth 20000 in
theorem fl_X12_21 : Cond.fieldLink "HeadNetsModel" 21 "HeadNetsModel" "portMany" "[I" ∈ tb := tb5 223 rfl rfl
set_option maxRecDepth 20000 in
theorem fl_X12_24 : Cond.fieldLink "HeadNetsModel" 24 "HeadNetsModel" "sorts" "[I" ∈ tb := tb5 224 rfl rfl
set_option maxRecDepth 20000 in
theorem fl_X12_27 : Cond.fieldLink "HeadNetsModel" 27 "HeadNetsModel" "plus" "[Z" ∈ tb := tb5 225 rfl rfl
set_option maxRecDepth 20000 in
theorem fl_X12_31 : Cond.fieldLink "HeadNetsModel" 31 "HeadNetsModel" "ruleOf" "[I" ∈ tb := tb5 227 rfl rfl
set_option maxRecDepth 20000 in
theorem fl_X12_34 : Cond.fieldLink "HeadNetsModel" 34 "HeadNetsModel" "ruleSide" "[I" ∈ tb := tb5 228 rfl rfl
set_option maxRecDepth 20000 in
theorem fl_X12_37 : Cond.fieldLink "HeadNetsModel" 37 "HeadNetsModel" "ruleAgents" "[I" ∈ tb := tb5 229 rfl rfl
set_option maxRecDepth 20000 in
theorem fl_X12_40 : Cond.fieldLink "HeadNetsModel" 40 "HeadNetsModel" "ruleKinds" "[I" ∈ tb := tb5 230 rfl rfl
set_option maxRecDepth 20000 in
theorem fl_X12_43 : Cond.fieldLink "HeadNetsModel" 43 "HeadNetsModel" "ruleTo" "[I" ∈ tb := tb5 231 rfl rfl
set_option maxRecDepth 20000 in
theorem fl_X12_46 : Cond.fieldLink "HeadNetsModel" 46 "HeadNetsModel" "ruleRings" "[I" ∈ tb := tb5 232 rfl rfl
set_option maxRecDepth 20000 in
theorem fl_X12_49 : Cond.fieldLink "HeadNetsModel" 49 "HeadNetsModel" "agents" "[I" ∈ tb := tb5 233 rfl rfl
set_option maxRecDepth 20000 in
theorem fl_X12_52 : Cond.fieldLink "HeadNetsModel" 52 "HeadNetsModel" "wires" "[I" ∈ tb := tb5 234 rfl rfl
set_option maxRecDepth 20000 in
theorem fl_X12_55 : Cond.fieldLink "HeadNetsModel" 55 "HeadNetsModel" "ends" "[I" ∈ tb := tb5 235 rfl rfl
set_option maxRecDepth 20000 in
theorem fl_X12_58 : Cond.fieldLink "HeadNetsModel" 58 "HeadNetsModel" "drawn" "J" ∈ tb := tb6 2 rfl rfl
set_option maxRecDepth 20000 in
theorem fl_X12_62 : Cond.fieldLink "HeadNetsModel" 62 "HeadNetsModel" "traced" "[I" ∈ tb := tb6 3 rfl rfl
set_option maxRecDepth 20000 in
theorem fl_X12_65 : Cond.fieldLink "HeadNetsModel" 65 "HeadNetsModel" "out" "[I" ∈ tb := tb6 5 rfl rfl
set_option maxRecDepth 20000 in
theorem fl_X12_68 : Cond.fieldLink "HeadNetsModel" 68 "HeadNetsModel" "pKindNames" "[J" ∈ tb := tb6 15 rfl rfl
set_option maxRecDepth 20000 in
theorem fl_X12_71 : Cond.fieldLink "HeadNetsModel" 71 "HeadNetsModel" "pPortMany" "[I" ∈ tb := tb6 16 rfl rfl
set_option maxRecDepth 20000 in
theorem fl_X12_74 : Cond.fieldLink "HeadNetsModel" 74 "HeadNetsModel" "pSorts" "[I" ∈ tb := tb6 17 rfl rfl
set_option maxRecDepth 20000 in
theorem fl_X12_77 : Cond.fieldLink "HeadNetsModel" 77 "HeadNetsModel" "pPlus" "[Z" ∈ tb := tb6 18 rfl rfl
set_option maxRecDepth 20000 in
theorem fl_X12_80 : Cond.fieldLink "HeadNetsModel" 80 "HeadNetsModel" "pRuleOf" "[I" ∈ tb := tb6 20 rfl rfl
set_option maxRecDepth 20000 in
theorem fl_X12_83 : Cond.fieldLink "HeadNetsModel" 83 "HeadNetsModel" "pRuleSide" "[I" ∈ tb := tb6 21 rfl rfl
set_option maxRecDepth 20000 in
theorem fl_X12_86 : Cond.fieldLink "HeadNetsModel" 86 "HeadNetsModel" "pRuleAgents" "[I" ∈ tb := tb6 22 rfl rfl
set_option maxRecDepth 20000 in
theorem fl_X12_89 : Cond.fieldLink "HeadNetsModel" 89 "HeadNetsModel" "pRuleKinds" "[I" ∈ tb := tb6 23 rfl rfl
set_option maxRecDepth 20000 in
theorem fl_X12_92 : Cond.fieldLink "HeadNetsModel" 92 "HeadNetsModel" "pRuleTo" "[I" ∈ tb := tb6 24 rfl rfl
set_option maxRecDepth 20000 in
theorem fl_X12_95 : Cond.fieldLink "HeadNetsModel" 95 "HeadNetsModel" "pRuleRings" "[I" ∈ tb := tb6 25 rfl rfl
set_option maxRecDepth 20000 in
theorem fl_X12_98 : Cond.fieldLink "HeadNetsModel" 98 "HeadNetsModel" "sheetKinds" "[I" ∈ tb := tb6 29 rfl rfl
set_option maxRecDepth 20000 in
theorem fl_X12_101 : Cond.fieldLink "HeadNetsModel" 101 "HeadNetsModel" "sheetPlaces" "[I" ∈ tb := tb6 30 rfl rfl
set_option maxRecDepth 20000 in
theorem fl_X12_104 : Cond.fieldLink "HeadNetsModel" 104 "HeadNetsModel" "joined" "[I" ∈ tb := tb6 31 rfl rfl
set_option maxRecDepth 20000 in
theorem fl_X12_107 : Cond.fieldLink "HeadNetsModel" 107 "HeadNetsModel" "names" "[J" ∈ tb := tb6 33 rfl rfl
set_option maxRecDepth 20000 in
theorem fl_X12_110 : Cond.fieldLink "HeadNetsModel" 110 "HeadNetsModel" "nameCount" "[I" ∈ tb := tb6 34 rfl rfl
set_option maxRecDepth 20000 in
theorem fl_X12_113 : Cond.fieldLink "HeadNetsModel" 113 "HeadNetsModel" "sideKinds" "[I" ∈ tb := tb6 35 rfl rfl
set_option maxRecDepth 20000 in
theorem fl_X12_116 : Cond.fieldLink "HeadNetsModel" 116 "HeadNetsModel" "openAgent" "[I" ∈ tb := tb6 36 rfl rfl
set_option maxRecDepth 20000 in
theorem fl_X12_119 : Cond.fieldLink "HeadNetsModel" 119 "HeadNetsModel" "openPort" "[I" ∈ tb := tb6 37 rfl rfl
set_option maxRecDepth 20000 in
theorem fl_X12_122 : Cond.fieldLink "HeadNetsModel" 122 "HeadNetsModel" "seen" "[Z" ∈ tb := tb6 39 rfl rfl
set_option maxRecDepth 20000 in
theorem fl_X12_125 : Cond.fieldLink "HeadNetsModel" 125 "HeadNetsModel" "endOf" "[I" ∈ tb := tb6 40 rfl rfl
set_option maxRecDepth 20000 in
theorem fl_X12_128 : Cond.fieldLink "HeadNetsModel" 128 "HeadNetsModel" "pAgentKinds" "[I" ∈ tb := tb6 42 rfl rfl
set_option maxRecDepth 20000 in
theorem fl_X12_131 : Cond.fieldLink "HeadNetsModel" 131 "HeadNetsModel" "pWires" "[I" ∈ tb := tb6 43 rfl rfl
set_option maxRecDepth 20000 in
theorem fl_X12_134 : Cond.fieldLink "HeadNetsModel" 134 "HeadNetsModel" "pEndTo" "[I" ∈ tb := tb6 45 rfl rfl
set_option maxRecDepth 20000 in
theorem fl_X12_137 : Cond.fieldLink "HeadNetsModel" 137 "HeadNetsModel" "outer" "[I" ∈ tb := tb6 47 rfl rfl
set_option maxRecDepth 20000 in
theorem fl_X12_140 : Cond.fieldLink "HeadNetsModel" 140 "HeadNetsModel" "passed" "[Z" ∈ tb := tb6 48 rfl rfl
set_option maxRecDepth 20000 in
theorem fl_X12_143 : Cond.fieldLink "HeadNetsModel" 143 "HeadNetsModel" "newAgents" "[I" ∈ tb := tb6 49 rfl rfl
set_option maxRecDepth 20000 in
theorem fl_X12_146 : Cond.fieldLink "HeadNetsModel" 146 "HeadNetsModel" "round" "[I" ∈ tb := tb6 50 rfl rfl
set_option maxRecDepth 20000 in
theorem fl_X12_149 : Cond.fieldLink "HeadNetsModel" 149 "HeadNetsModel" "shelfAgents" "[I" ∈ tb := tb6 51 rfl rfl
set_option maxRecDepth 20000 in
theorem fl_X12_152 : Cond.fieldLink "HeadNetsModel" 152 "HeadNetsModel" "shelfWires" "[I" ∈ tb := tb6 52 rfl rfl
set_option maxRecDepth 20000 in
theorem fl_X12_155 : Cond.fieldLink "HeadNetsModel" 155 "HeadNetsModel" "shelfEndTo" "[I" ∈ tb := tb6 53 rfl rfl
set_option maxRecDepth 20000 in
theorem fl_X12_158 : Cond.fieldLink "HeadNetsModel" 158 "HeadNetsModel" "shelfEnds" "[I" ∈ tb := tb6 54 rfl rfl
set_option maxRecDepth 20000 in
theorem fl_X12_161 : Cond.fieldLink "HeadNetsModel" 161 "HeadNetsModel" "shelfRings" "[I" ∈ tb := tb6 55 rfl rfl
set_option maxRecDepth 20000 in
theorem fl_X12_164 : Cond.fieldLink "HeadNetsModel" 164 "HeadNetsModel" "row" "[I" ∈ tb := tb6 56 rfl rfl
set_option maxRecDepth 20000 in
theorem fl_X12_167 : Cond.fieldLink "HeadNetsModel" 167 "HeadNetsModel" "rank" "[I" ∈ tb := tb6 57 rfl rfl
set_option maxRecDepth 20000 in
theorem fl_X12_170 : Cond.fieldLink "HeadNetsModel" 170 "HeadNetsModel" "reachedMany" "[I" ∈ tb := tb6 58 rfl rfl
set_option maxRecDepth 20000 in
theorem fl_X12_173 : Cond.fieldLink "HeadNetsModel" 173 "HeadNetsModel" "treeAgent" "[I" ∈ tb := tb6 59 rfl rfl
set_option maxRecDepth 20000 in
theorem fl_X12_176 : Cond.fieldLink "HeadNetsModel" 176 "HeadNetsModel" "treePort" "[I" ∈ tb := tb6 60 rfl rfl
set_option maxRecDepth 20000 in
theorem fl_X12_182 : Cond.fieldLink "HeadNetsModel" 182 "HeadNetsModel" "endMany" "I" ∈ tb := tb5 236 rfl rfl
set_option maxRecDepth 20000 in
theorem fl_X12_185 : Cond.fieldLink "HeadNetsModel" 185 "HeadNetsModel" "rings" "I" ∈ tb := tb5 237 rfl rfl
set_option maxRecDepth 20000 in
theorem fl_X12_188 : Cond.fieldLink "HeadNetsModel" 188 "HeadNetsModel" "taped" "I" ∈ tb := tb5 219 rfl rfl
set_option maxRecDepth 20000 in
theorem fl_X12_195 : Cond.fieldLink "HeadNetsModel" 195 "HeadNetsModel" "next" "I" ∈ tb := tb6 9 rfl rfl
set_option maxRecDepth 20000 in
theorem fl_X12_202 : Cond.fieldLink "HeadNetsModel" 202 "HeadNetsModel" "tokenPlace" "I" ∈ tb := tb6 8 rfl rfl
set_option maxRecDepth 20000 in
theorem fl_X12_205 : Cond.fieldLink "HeadNetsModel" 205 "HeadNetsModel" "token" "I" ∈ tb := tb6 7 rfl rfl
set_option maxRecDepth 20000 in
theorem fl_X12_222 : Cond.fieldLink "HeadNetsModel" 222 "HeadNetsModel" "sign" "I" ∈ tb := tb6 12 rfl rfl
set_option maxRecDepth 20000 in
theorem fl_X12_225 : Cond.fieldLink "HeadNetsModel" 225 "HeadNetsModel" "word" "J" ∈ tb := tb6 10 rfl rfl
set_option maxRecDepth 20000 in
theorem fl_X12_228 : Cond.fieldLink "HeadNetsModel" 228 "HeadNetsModel" "wordSize" "I" ∈ tb := tb6 11 rfl rfl
set_option maxRecDepth 20000 in
theorem fl_X12_231 : Cond.fieldLink "HeadNetsModel" 231 "HeadNetsModel" "fault" "I" ∈ tb := tb6 13 rfl rfl
set_option maxRecDepth 20000 in
theorem fl_X12_248 : Cond.fieldLink "HeadNetsModel" 248 "HeadNetsModel" "pKinds" "I" ∈ tb := tb6 14 rfl rfl
set_option maxRecDepth 20000 in
theorem fl_X12_261 : Cond.fieldLink "HeadNetsModel" 261 "HeadNetsModel" "sheetMany" "I" ∈ tb := tb6 27 rfl rfl
set_option maxRecDepth 20000 in
theorem fl_X12_264 : Cond.fieldLink "HeadNetsModel" 264 "HeadNetsModel" "sheetMost" "I" ∈ tb := tb6 28 rfl rfl
set_option maxRecDepth 20000 in
theorem fl_X12_267 : Cond.fieldLink "HeadNetsModel" 267 "HeadNetsModel" "nameMany" "I" ∈ tb := tb6 32 rfl rfl
set_option maxRecDepth 20000 in
theorem fl_X12_274 : Cond.fieldLink "HeadNetsModel" 274 "HeadNetsModel" "vertex" "I" ∈ tb := tb6 38 rfl rfl
set_option maxRecDepth 20000 in
theorem fl_X12_296 : Cond.fieldLink "HeadNetsModel" 296 "HeadNetsModel" "pRules" "I" ∈ tb := tb6 19 rfl rfl
set_option maxRecDepth 20000 in
theorem fl_X12_320 : Cond.fieldLink "HeadNetsModel" 320 "HeadNetsModel" "hasNet" "Z" ∈ tb := tb6 26 rfl rfl
set_option maxRecDepth 20000 in
theorem fl_X12_324 : Cond.fieldLink "HeadNetsModel" 324 "HeadNetsModel" "pEnds" "I" ∈ tb := tb6 44 rfl rfl
set_option maxRecDepth 20000 in
theorem fl_X12_327 : Cond.fieldLink "HeadNetsModel" 327 "HeadNetsModel" "pAgents" "I" ∈ tb := tb6 41 rfl rfl
set_option maxRecDepth 20000 in
theorem fl_X12_330 : Cond.fieldLink "HeadNetsModel" 330 "HeadNetsModel" "pRings" "I" ∈ tb := tb6 46 rfl rfl
set_option maxRecDepth 20000 in
theorem fl_X12_354 : Cond.fieldLink "HeadNetsModel" 354 "HeadNetsModel" "kinds" "I" ∈ tb := tb5 221 rfl rfl
set_option maxRecDepth 20000 in
theorem fl_X12_357 : Cond.fieldLink "HeadNetsModel" 357 "HeadNetsModel" "rules" "I" ∈ tb := tb5 226 rfl rfl
set_option maxRecDepth 20000 in
theorem fl_X12_360 : Cond.fieldLink "HeadNetsModel" 360 "HeadNetsModel" "steps" "I" ∈ tb := tb5 238 rfl rfl
set_option maxRecDepth 20000 in
theorem fl_X12_363 : Cond.fieldLink "HeadNetsModel" 363 "HeadNetsModel" "most" "I" ∈ tb := tb5 239 rfl rfl
set_option maxRecDepth 20000 in
theorem fl_X12_366 : Cond.fieldLink "HeadNetsModel" 366 "HeadNetsModel" "rounds" "I" ∈ tb := tb6 0 rfl rfl
set_option maxRecDepth 20000 in
theorem fl_X12_369 : Cond.fieldLink "HeadNetsModel" 369 "HeadNetsModel" "traceMany" "I" ∈ tb := tb6 4 rfl rfl
set_option maxRecDepth 20000 in
theorem fl_X12_398 : Cond.fieldLink "HeadNetsModel" 398 "HeadNetsModel" "crowded" "I" ∈ tb := tb6 1 rfl rfl
set_option maxRecDepth 20000 in
theorem fl_X12_401 : Cond.fieldLink "HeadNetsModel" 401 "HeadNetsModel" "outSize" "I" ∈ tb := tb6 6 rfl rfl
set_option maxRecDepth 20000 in
theorem fl_J0_9 : Cond.fieldLink "java/lang/String" 9 "java/lang/String" "value" "[B" ∈ tb := tb8 73 rfl rfl
set_option maxRecDepth 20000 in
theorem fl_J0_15 : Cond.fieldLink "java/lang/String" 15 "java/lang/String" "coder" "B" ∈ tb := tb8 72 rfl rfl
set_option maxRecDepth 20000 in
theorem fl_J0_38 : Cond.fieldLink "java/lang/String" 38 "java/lang/String" "COMPACT_STRINGS" "Z" ∈ tb := tb2 228 rfl rfl
set_option maxRecDepth 20000 in
theorem ll_X11_266 : Cond.constantLong "HeadNets" 266 (6364136223846793005) ∈ tb := tb5 89 rfl rfl
set_option maxRecDepth 20000 in
theorem ll_X11_268 : Cond.constantLong "HeadNets" 268 (1442695040888963407) ∈ tb := tb5 90 rfl rfl
set_option maxRecDepth 20000 in
theorem ll_X6_56 : Cond.constantLong "HeadNets$Reader" 56 (1802071652) ∈ tb := tb3 68 rfl rfl
set_option maxRecDepth 20000 in
theorem ll_X6_65 : Cond.constantLong "HeadNets$Reader" 65 (1920298085) ∈ tb := tb3 121 rfl rfl
set_option maxRecDepth 20000 in
theorem ll_X6_70 : Cond.constantLong "HeadNets$Reader" 70 (7234932) ∈ tb := tb4 58 rfl rfl
set_option maxRecDepth 20000 in
theorem ll_X6_122 : Cond.constantLong "HeadNets$Reader" 122 (97) ∈ tb := tb3 107 rfl rfl
set_option maxRecDepth 20000 in
theorem ll_X6_124 : Cond.constantLong "HeadNets$Reader" 124 (25) ∈ tb := tb3 108 rfl rfl
set_option maxRecDepth 20000 in
theorem ll_X12_333 : Cond.constantLong "HeadNetsModel" 333 (1802071652) ∈ tb := tb7 28 rfl rfl
set_option maxRecDepth 20000 in
theorem ll_X12_338 : Cond.constantLong "HeadNetsModel" 338 (1920298085) ∈ tb := tb7 57 rfl rfl
set_option maxRecDepth 20000 in
theorem ll_X12_343 : Cond.constantLong "HeadNetsModel" 343 (7234932) ∈ tb := tb7 117 rfl rfl
set_option maxRecDepth 20000 in
theorem ll_X12_372 : Cond.constantLong "HeadNetsModel" 372 (399) ∈ tb := tb7 179 rfl rfl
set_option maxRecDepth 20000 in
theorem ll_X12_404 : Cond.constantLong "HeadNetsModel" 404 (6) ∈ tb := tb7 166 rfl rfl
set_option maxRecDepth 20000 in
theorem ll_X12_430 : Cond.constantLong "HeadNetsModel" 430 (6364136223846793005) ∈ tb := tb7 237 rfl rfl
set_option maxRecDepth 20000 in
theorem ll_X12_432 : Cond.constantLong "HeadNetsModel" 432 (1442695040888963407) ∈ tb := tb7 238 rfl rfl
set_option maxRecDepth 20000 in
theorem ll_X12_437 : Cond.constantLong "HeadNetsModel" 437 (3) ∈ tb := tb7 227 rfl rfl
set_option maxRecDepth 20000 in
theorem ll_X12_439 : Cond.constantLong "HeadNetsModel" 439 (3000) ∈ tb := tb7 228 rfl rfl
set_option maxRecDepth 20000 in
theorem ll_X12_472 : Cond.constantLong "HeadNetsModel" 472 (255) ∈ tb := tb8 67 rfl rfl
set_option maxRecDepth 20000 in
theorem ml_X4_40 : Cond.methodLink "HeadNets$Net" 40 arraycopyName ∈ tb := tb5 113 rfl rfl
abbrev m_X11_feed : Mt := (⟨"HeadNets", "feed", "(IIIII)I"⟩, prog_1_method_2_code, 7, some .int)
abbrev m_X11_cut : Mt := (⟨"HeadNets", "cut", "(I)I"⟩, prog_1_method_3_code, 4, some .int)
abbrev m_X11_read : Mt := (⟨"HeadNets", "read", "()I"⟩, prog_1_method_4_code, 3, some .int)
abbrev m_X11_place : Mt := (⟨"HeadNets", "place", "()I"⟩, prog_1_method_5_code, 1, some .int)
abbrev m_X11_count : Mt := (⟨"HeadNets", "count", "(I)I"⟩, prog_1_method_6_code, 2, some .int)
abbrev m_X11_kind : Mt := (⟨"HeadNets", "kind", "(II)I"⟩, prog_1_method_7_code, 3, some .int)
abbrev m_X11_rule : Mt := (⟨"HeadNets", "rule", "(II)I"⟩, prog_1_method_8_code, 4, some .int)
abbrev m_X11_agent : Mt := (⟨"HeadNets", "agent", "(I)I"⟩, prog_1_method_9_code, 2, some .int)
abbrev m_X11_wired : Mt := (⟨"HeadNets", "wired", "(II)I"⟩, prog_1_method_10_code, 3, some .int)
abbrev m_X11_end : Mt := (⟨"HeadNets", "end", "(I)I"⟩, prog_1_method_11_code, 2, some .int)
abbrev m_X11_pair : Mt := (⟨"HeadNets", "pair", "(I)I"⟩, prog_1_method_12_code, 2, some .int)
abbrev m_X11_step : Mt := (⟨"HeadNets", "step", "(I)I"⟩, prog_1_method_13_code, 2, some .int)
abbrev m_X11_run : Mt := (⟨"HeadNets", "run", "(II)I"⟩, prog_1_method_14_code, 3, some .int)
abbrev m_X11_draw : Mt := (⟨"HeadNets", "draw", "(I)I"⟩, prog_1_method_15_code, 2, some .int)
abbrev m_X11_trace : Mt := (⟨"HeadNets", "trace", "(I)I"⟩, prog_1_method_16_code, 2, some .int)
abbrev m_X11_keep : Mt := (⟨"HeadNets", "keep", "(I)I"⟩, prog_1_method_17_code, 3, some .int)
abbrev m_X11_back : Mt := (⟨"HeadNets", "back", "(I)I"⟩, prog_1_method_18_code, 3, some .int)
abbrev m_X11_like : Mt := (⟨"HeadNets", "like", "(I)I"⟩, prog_1_method_19_code, 3, some .int)
abbrev m_X11_reached : Mt := (⟨"HeadNets", "reached", "()I"⟩, prog_1_method_20_code, 1, some .int)
abbrev m_X11_print : Mt := (⟨"HeadNets", "print", "(I)I"⟩, prog_1_method_21_code, 2, some .int)
abbrev m_X11_out : Mt := (⟨"HeadNets", "out", "(I)I"⟩, prog_1_method_22_code, 2, some .int)
abbrev m_X12_feed : Mt := (⟨"HeadNetsModel", "feed", "(IIIII)I"⟩, prog_14_method_5_code, 8, some .int)
abbrev m_X12_cut : Mt := (⟨"HeadNetsModel", "cut", "(I)I"⟩, prog_14_method_6_code, 3, some .int)
abbrev m_X12_read : Mt := (⟨"HeadNetsModel", "read", "()I"⟩, prog_14_method_37_code, 2, some .int)
abbrev m_X12_place : Mt := (⟨"HeadNetsModel", "place", "()I"⟩, prog_14_method_39_code, 1, some .int)
abbrev m_X12_count : Mt := (⟨"HeadNetsModel", "count", "(I)I"⟩, prog_14_method_48_code, 2, some .int)
abbrev m_X12_kind : Mt := (⟨"HeadNetsModel", "kind", "(II)I"⟩, prog_14_method_49_code, 5, some .int)
abbrev m_X12_rule : Mt := (⟨"HeadNetsModel", "rule", "(II)I"⟩, prog_14_method_50_code, 4, some .int)
abbrev m_X12_agent : Mt := (⟨"HeadNetsModel", "agent", "(I)I"⟩, prog_14_method_51_code, 2, some .int)
abbrev m_X12_wired : Mt := (⟨"HeadNetsModel", "wired", "(II)I"⟩, prog_14_method_53_code, 3, some .int)
abbrev m_X12_end : Mt := (⟨"HeadNetsModel", "end", "(I)I"⟩, prog_14_method_54_code, 2, some .int)
abbrev m_X12_pair : Mt := (⟨"HeadNetsModel", "pair", "(I)I"⟩, prog_14_method_55_code, 4, some .int)
abbrev m_X12_step : Mt := (⟨"HeadNetsModel", "step", "(I)I"⟩, prog_14_method_62_code, 3, some .int)
abbrev m_X12_run : Mt := (⟨"HeadNetsModel", "run", "(II)I"⟩, prog_14_method_65_code, 6, some .int)
abbrev m_X12_draw : Mt := (⟨"HeadNetsModel", "draw", "(I)I"⟩, prog_14_method_66_code, 2, some .int)
abbrev m_X12_trace : Mt := (⟨"HeadNetsModel", "trace", "(I)I"⟩, prog_14_method_67_code, 2, some .int)
abbrev m_X12_keep : Mt := (⟨"HeadNetsModel", "keep", "(I)I"⟩, prog_14_method_69_code, 3, some .int)
abbrev m_X12_back : Mt := (⟨"HeadNetsModel", "back", "(I)I"⟩, prog_14_method_70_code, 3, some .int)
abbrev m_X12_like : Mt := (⟨"HeadNetsModel", "like", "(I)I"⟩, prog_14_method_78_code, 7, some .int)
abbrev m_X12_reached : Mt := (⟨"HeadNetsModel", "reached", "()I"⟩, prog_14_method_79_code, 1, some .int)
abbrev m_X12_print : Mt := (⟨"HeadNetsModel", "print", "(I)I"⟩, prog_14_method_82_code, 9, some .int)
abbrev m_X12_out : Mt := (⟨"HeadNetsModel", "out", "(I)I"⟩, prog_14_method_83_code, 2, some .int)
abbrev m_X12_in : Mt := (⟨"HeadNetsModel", "in", "(JJJ)Z"⟩, prog_14_method_3_code, 6, some .boolean)
abbrev m_X12_putName : Mt := (⟨"HeadNetsModel", "putName", "(J)V"⟩, prog_14_method_81_code, 5, none)
abbrev m_X12_put : Mt := (⟨"HeadNetsModel", "put", "(I)V"⟩, prog_14_method_80_code, 2, none)
abbrev m_X12_reach : Mt := (⟨"HeadNetsModel", "reach", "(II)V"⟩, prog_14_method_75_code, 8, none)
abbrev m_X12_endTo : Mt := (⟨"HeadNetsModel", "endTo", "(III)I"⟩, prog_14_method_73_code, 4, some .int)
abbrev m_X12_meet : Mt := (⟨"HeadNetsModel", "meet", "(II)V"⟩, prog_14_method_74_code, 3, none)
abbrev m_X12_agentOf : Mt := (⟨"HeadNetsModel", "agentOf", "(III)I"⟩, prog_14_method_71_code, 4, some .int)
abbrev m_X12_wireOf : Mt := (⟨"HeadNetsModel", "wireOf", "(III)I"⟩, prog_14_method_72_code, 4, some .int)
abbrev m_X12_isShelf : Mt := (⟨"HeadNetsModel", "isShelf", "(I)Z"⟩, prog_14_method_68_code, 1, some .boolean)
abbrev m_X12_asReached : Mt := (⟨"HeadNetsModel", "asReached", "(II)I"⟩, prog_14_method_76_code, 3, some .int)
abbrev m_X12_manyOf : Mt := (⟨"HeadNetsModel", "manyOf", "(III)I"⟩, prog_14_method_77_code, 6, some .int)
abbrev m_X12_agentMany : Mt := (⟨"HeadNetsModel", "agentMany", "()I"⟩, prog_14_method_40_code, 3, some .int)
abbrev m_X12_chosen : Mt := (⟨"HeadNetsModel", "chosen", "(I)I"⟩, prog_14_method_63_code, 3, some .int)
abbrev m_X12_facing : Mt := (⟨"HeadNetsModel", "facing", "(I)I"⟩, prog_14_method_42_code, 3, some .int)
abbrev m_X12_doStep : Mt := (⟨"HeadNetsModel", "doStep", "(II)Z"⟩, prog_14_method_59_code, 15, some .boolean)
abbrev m_X12_runRounds : Mt := (⟨"HeadNetsModel", "runRounds", "(I)I"⟩, prog_14_method_64_code, 6, some .int)
abbrev m_X12_isPair : Mt := (⟨"HeadNetsModel", "isPair", "(IZ)Z"⟩, prog_14_method_44_code, 4, some .boolean)
abbrev m_X12_ruleFor : Mt := (⟨"HeadNetsModel", "ruleFor", "(II)I"⟩, prog_14_method_43_code, 3, some .int)
abbrev m_X12_findOuter : Mt := (⟨"HeadNetsModel", "findOuter", "(II)V"⟩, prog_14_method_61_code, 7, none)
abbrev m_X12_goRound : Mt := (⟨"HeadNetsModel", "goRound", "(II)Z"⟩, prog_14_method_60_code, 6, some .boolean)
abbrev m_X12_outward : Mt := (⟨"HeadNetsModel", "outward", "(II)I"⟩, prog_14_method_58_code, 5, some .int)
abbrev m_X12_wire : Mt := (⟨"HeadNetsModel", "wire", "(II)V"⟩, prog_14_method_56_code, 3, none)
abbrev m_X12_fresh : Mt := (⟨"HeadNetsModel", "fresh", "(I)I"⟩, prog_14_method_57_code, 2, some .int)
abbrev m_X12_pairs : Mt := (⟨"HeadNetsModel", "pairs", "(Z)I"⟩, prog_14_method_45_code, 4, some .int)
abbrev m_X12_isAgent : Mt := (⟨"HeadNetsModel", "isAgent", "(I)Z"⟩, prog_14_method_41_code, 2, some .boolean)
abbrev m_X12_asTold : Mt := (⟨"HeadNetsModel", "asTold", "(I)I"⟩, prog_14_method_52_code, 1, some .int)
abbrev m_X12_circles : Mt := (⟨"HeadNetsModel", "circles", "()I"⟩, prog_14_method_47_code, 5, some .int)
abbrev m_X12_waitsFor : Mt := (⟨"HeadNetsModel", "waitsFor", "(I)I"⟩, prog_14_method_46_code, 3, some .int)
abbrev m_X12_readBook : Mt := (⟨"HeadNetsModel", "readBook", "()Z"⟩, prog_14_method_36_code, 3, some .boolean)
abbrev m_X12_takeOver : Mt := (⟨"HeadNetsModel", "takeOver", "()V"⟩, prog_14_method_38_code, 2, none)
abbrev m_X12_empty : Mt := (⟨"HeadNetsModel", "empty", "()V"⟩, prog_14_method_4_code, 2, none)
abbrev m_X12_take : Mt := (⟨"HeadNetsModel", "take", "()V"⟩, prog_14_method_11_code, 3, none)
abbrev m_X12_wrong : Mt := (⟨"HeadNetsModel", "wrong", "()Z"⟩, prog_14_method_15_code, 1, some .boolean)
abbrev m_X12_readNet : Mt := (⟨"HeadNetsModel", "readNet", "()Z"⟩, prog_14_method_35_code, 4, some .boolean)
abbrev m_X12_readRule : Mt := (⟨"HeadNetsModel", "readRule", "()Z"⟩, prog_14_method_34_code, 8, some .boolean)
abbrev m_X12_readKind : Mt := (⟨"HeadNetsModel", "readKind", "()Z"⟩, prog_14_method_18_code, 3, some .boolean)
abbrev m_X12_kindNamed : Mt := (⟨"HeadNetsModel", "kindNamed", "(J)I"⟩, prog_14_method_17_code, 5, some .int)
abbrev m_X12_readPort : Mt := (⟨"HeadNetsModel", "readPort", "()Z"⟩, prog_14_method_19_code, 3, some .boolean)
abbrev m_X12_isSign : Mt := (⟨"HeadNetsModel", "isSign", "(I)Z"⟩, prog_14_method_13_code, 2, some .boolean)
abbrev m_X12_needs : Mt := (⟨"HeadNetsModel", "needs", "(I)Z"⟩, prog_14_method_16_code, 2, some .boolean)
abbrev m_X12_fail : Mt := (⟨"HeadNetsModel", "fail", "(II)Z"⟩, prog_14_method_14_code, 3, some .boolean)
abbrev m_X12_beginSheet : Mt := (⟨"HeadNetsModel", "beginSheet", "(I)V"⟩, prog_14_method_20_code, 2, none)
abbrev m_X12_readSide : Mt := (⟨"HeadNetsModel", "readSide", "(I)Z"⟩, prog_14_method_25_code, 8, some .boolean)
abbrev m_X12_fitAll : Mt := (⟨"HeadNetsModel", "fitAll", "()Z"⟩, prog_14_method_31_code, 4, some .boolean)
abbrev m_X12_fitSides : Mt := (⟨"HeadNetsModel", "fitSides", "()Z"⟩, prog_14_method_32_code, 4, some .boolean)
abbrev m_X12_sheetRings : Mt := (⟨"HeadNetsModel", "sheetRings", "()I"⟩, prog_14_method_27_code, 5, some .int)
abbrev m_X12_follow : Mt := (⟨"HeadNetsModel", "follow", "(I)I"⟩, prog_14_method_26_code, 5, some .int)
abbrev m_X12_told : Mt := (⟨"HeadNetsModel", "told", "(I)I"⟩, prog_14_method_33_code, 1, some .int)
abbrev m_X12_readLinks : Mt := (⟨"HeadNetsModel", "readLinks", "()Z"⟩, prog_14_method_24_code, 3, some .boolean)
abbrev m_X12_readTerm : Mt := (⟨"HeadNetsModel", "readTerm", "()Z"⟩, prog_14_method_23_code, 7, some .boolean)
abbrev m_X12_join : Mt := (⟨"HeadNetsModel", "join", "(II)V"⟩, prog_14_method_21_code, 3, none)
abbrev m_X12_useName : Mt := (⟨"HeadNetsModel", "useName", "()I"⟩, prog_14_method_22_code, 3, some .int)
abbrev m_X12_fits : Mt := (⟨"HeadNetsModel", "fits", "(I)Z"⟩, prog_14_method_30_code, 3, some .boolean)
abbrev m_X12_sortOf : Mt := (⟨"HeadNetsModel", "sortOf", "(I)I"⟩, prog_14_method_28_code, 2, some .int)
abbrev m_X12_plusOf : Mt := (⟨"HeadNetsModel", "plusOf", "(I)Z"⟩, prog_14_method_29_code, 2, some .boolean)
abbrev m_X12_byteAt : Mt := (⟨"HeadNetsModel", "byteAt", "(I)I"⟩, prog_14_method_7_code, 2, some .int)
abbrev m_X12_isSmall : Mt := (⟨"HeadNetsModel", "isSmall", "(I)Z"⟩, prog_14_method_8_code, 1, some .boolean)
abbrev m_X12_takeWord : Mt := (⟨"HeadNetsModel", "takeWord", "(I)V"⟩, prog_14_method_12_code, 4, none)
abbrev m_X12_isGreat : Mt := (⟨"HeadNetsModel", "isGreat", "(I)Z"⟩, prog_14_method_9_code, 1, some .boolean)
abbrev m_X12_isFigure : Mt := (⟨"HeadNetsModel", "isFigure", "(I)Z"⟩, prog_14_method_10_code, 1, some .boolean)
abbrev m_X5_byteAt : Mt := (⟨"HeadNets$Printer", "byteAt", "(I)I"⟩, prog_7_method_2_code, 2, some .int)
abbrev m_X11_isInside : Mt := (⟨"HeadNets", "isInside", "(II)Z"⟩, prog_1_method_28_code, 2, some .boolean)
abbrev m_X4_hasEnd : Mt := (⟨"HeadNets$Net", "hasEnd", "(I)Z"⟩, prog_6_method_5_code, 2, some .boolean)
abbrev m_X11_endCode : Mt := (⟨"HeadNets", "endCode", "(I)I"⟩, prog_1_method_26_code, 1, some .int)
abbrev m_X4_wireOf : Mt := (⟨"HeadNets$Net", "wireOf", "(I)I"⟩, prog_6_method_10_code, 2, some .int)
abbrev m_X5_putTree : Mt := (⟨"HeadNets$Printer", "putTree", "(LHeadNets$Book;II)V"⟩, prog_7_method_4_code, 4, none)
abbrev m_X11_portOf : Mt := (⟨"HeadNets", "portOf", "(I)I"⟩, prog_1_method_25_code, 1, some .int)
abbrev m_X11_agentOf : Mt := (⟨"HeadNets", "agentOf", "(I)I"⟩, prog_1_method_24_code, 1, some .int)
abbrev m_X5_putAgent : Mt := (⟨"HeadNets$Printer", "putAgent", "(LHeadNets$Book;II)V"⟩, prog_7_method_5_code, 7, none)
abbrev m_X5_put : Mt := (⟨"HeadNets$Printer", "put", "(I)V"⟩, prog_7_method_3_code, 2, none)
abbrev m_X11_endOf : Mt := (⟨"HeadNets", "endOf", "(I)I"⟩, prog_1_method_27_code, 1, some .int)
abbrev m_X4_kindOf : Mt := (⟨"HeadNets$Net", "kindOf", "(I)I"⟩, prog_6_method_6_code, 2, some .int)
abbrev m_X3_nameOf : Mt := (⟨"HeadNets$Kinds", "nameOf", "(I)J"⟩, prog_5_method_8_code, 2, some .long)
abbrev m_X5_putName : Mt := (⟨"HeadNets$Printer", "putName", "(J)V"⟩, prog_7_method_6_code, 5, none)
abbrev m_X3_portsOf : Mt := (⟨"HeadNets$Kinds", "portsOf", "(I)I"⟩, prog_5_method_7_code, 2, some .int)
abbrev m_X11_portCode : Mt := (⟨"HeadNets", "portCode", "(II)I"⟩, prog_1_method_23_code, 2, some .int)
abbrev m_X3_has : Mt := (⟨"HeadNets$Kinds", "has", "(I)Z"⟩, prog_5_method_2_code, 2, some .boolean)
abbrev m_X10_reachAll : Mt := (⟨"HeadNets$Walk", "reachAll", "(LHeadNets$Net;LHeadNets$Kinds;)V"⟩, prog_12_method_2_code, 5, none)
abbrev m_J7_fill_53178 : Mt := (⟨"java/util/Arrays", "fill", "([II)V"⟩, prog_21_method_103_code, 4, none)
abbrev m_X10_reach : Mt := (⟨"HeadNets$Walk", "reach", "(I)V"⟩, prog_12_method_4_code, 3, none)
abbrev m_X10_goThrough : Mt := (⟨"HeadNets$Walk", "goThrough", "(LHeadNets$Net;LHeadNets$Kinds;I)V"⟩, prog_12_method_3_code, 6, none)
abbrev m_X11_shelfAt : Mt := (⟨"HeadNets", "shelfAt", "(I)LHeadNets$Net;"⟩, prog_1_method_29_code, 2, some (.object "HeadNets$Net"))
abbrev m_X10_isLike : Mt := (⟨"HeadNets$Walk", "isLike", "(LHeadNets$Net;LHeadNets$Walk;LHeadNets$Net;LHeadNets$Kinds;)Z"⟩, prog_12_method_5_code, 5, some .boolean)
abbrev m_X10_hasSameCounts : Mt := (⟨"HeadNets$Walk", "hasSameCounts", "(LHeadNets$Net;LHeadNets$Net;)Z"⟩, prog_12_method_6_code, 3, some .boolean)
abbrev m_X10_hasSameEnds : Mt := (⟨"HeadNets$Walk", "hasSameEnds", "(LHeadNets$Net;LHeadNets$Walk;LHeadNets$Net;)Z"⟩, prog_12_method_7_code, 5, some .boolean)
abbrev m_X10_hasSameAgents : Mt := (⟨"HeadNets$Walk", "hasSameAgents", "(LHeadNets$Net;LHeadNets$Walk;LHeadNets$Net;LHeadNets$Kinds;)Z"⟩, prog_12_method_8_code, 11, some .boolean)
abbrev m_X10_numbered : Mt := (⟨"HeadNets$Walk", "numbered", "(I)I"⟩, prog_12_method_9_code, 2, some .int)
abbrev m_X4_countOfKind : Mt := (⟨"HeadNets$Net", "countOfKind", "(I)I"⟩, prog_6_method_7_code, 4, some .int)
abbrev m_X4_copyFrom : Mt := (⟨"HeadNets$Net", "copyFrom", "(LHeadNets$Net;)V"⟩, prog_6_method_3_code, 2, none)
abbrev m_X2_recentStep : Mt := (⟨"HeadNets$Journal", "recentStep", "(I)I"⟩, prog_4_method_5_code, 2, some .int)
abbrev m_J9_min_7cf53 : Mt := (⟨"java/lang/Math", "min", "(II)I"⟩, prog_16_method_69_code, 2, some .int)
abbrev m_J9_floorMod_7cf53 : Mt := (⟨"java/lang/Math", "floorMod", "(II)I"⟩, prog_16_method_50_code, 3, some .int)
abbrev m_X11_runSingly : Mt := (⟨"HeadNets", "runSingly", "(II)I"⟩, prog_1_method_32_code, 5, some .int)
abbrev m_X11_runRounds : Mt := (⟨"HeadNets", "runRounds", "(I)I"⟩, prog_1_method_34_code, 6, some .int)
abbrev m_X0_listAlivePairs : Mt := (⟨"HeadNets$Book", "listAlivePairs", "([I)I"⟩, prog_2_method_8_code, 4, some .int)
abbrev m_X11_takeStep : Mt := (⟨"HeadNets", "takeStep", "(I)Z"⟩, prog_1_method_31_code, 7, some .boolean)
abbrev m_X0_aliveRule : Mt := (⟨"HeadNets$Book", "aliveRule", "(I)I"⟩, prog_2_method_3_code, 3, some .int)
abbrev m_X4_mateOf : Mt := (⟨"HeadNets$Net", "mateOf", "(I)I"⟩, prog_6_method_13_code, 3, some .int)
abbrev m_X8_agentsIn : Mt := (⟨"HeadNets$Rules", "agentsIn", "(I)I"⟩, prog_10_method_12_code, 2, some .int)
abbrev m_J9_max_7cf53 : Mt := (⟨"java/lang/Math", "max", "(II)I"⟩, prog_16_method_65_code, 2, some .int)
abbrev m_X2_noteStep : Mt := (⟨"HeadNets$Journal", "noteStep", "(II)V"⟩, prog_4_method_3_code, 3, none)
abbrev m_X7_rewrite : Mt := (⟨"HeadNets$Rewriter", "rewrite", "(LHeadNets$Book;III)V"⟩, prog_9_method_2_code, 8, none)
abbrev m_X2_noteAgents : Mt := (⟨"HeadNets$Journal", "noteAgents", "(I)V"⟩, prog_4_method_4_code, 2, none)
abbrev m_X8_firstKind : Mt := (⟨"HeadNets$Rules", "firstKind", "(I)I"⟩, prog_10_method_11_code, 2, some .int)
abbrev m_X7_passAll : Mt := (⟨"HeadNets$Rewriter", "passAll", "()V"⟩, prog_9_method_3_code, 2, none)
abbrev m_X7_noteOutside : Mt := (⟨"HeadNets$Rewriter", "noteOutside", "(LHeadNets$Book;III)V"⟩, prog_9_method_4_code, 9, none)
abbrev m_X4_remove : Mt := (⟨"HeadNets$Net", "remove", "(I)V"⟩, prog_6_method_9_code, 3, none)
abbrev m_X7_putAgents : Mt := (⟨"HeadNets$Rewriter", "putAgents", "(LHeadNets$Book;I)V"⟩, prog_9_method_6_code, 5, none)
abbrev m_X7_wireAgents : Mt := (⟨"HeadNets$Rewriter", "wireAgents", "(LHeadNets$Book;I)V"⟩, prog_9_method_7_code, 7, none)
abbrev m_X7_wireOuter : Mt := (⟨"HeadNets$Rewriter", "wireOuter", "(LHeadNets$Book;I)V"⟩, prog_9_method_8_code, 4, none)
abbrev m_X8_ringsIn : Mt := (⟨"HeadNets$Rules", "ringsIn", "(I)I"⟩, prog_10_method_14_code, 2, some .int)
abbrev m_X7_countRings : Mt := (⟨"HeadNets$Rewriter", "countRings", "(LHeadNets$Rules;I)I"⟩, prog_9_method_9_code, 5, some .int)
abbrev m_X7_follow : Mt := (⟨"HeadNets$Rewriter", "follow", "(LHeadNets$Rules;II)I"⟩, prog_9_method_10_code, 8, some .int)
abbrev m_X7_pass : Mt := (⟨"HeadNets$Rewriter", "pass", "(I)V"⟩, prog_9_method_11_code, 3, none)
abbrev m_X8_wireOf : Mt := (⟨"HeadNets$Rules", "wireOf", "(II)I"⟩, prog_10_method_10_code, 3, some .int)
abbrev m_X7_codeInNet : Mt := (⟨"HeadNets$Rewriter", "codeInNet", "(I)I"⟩, prog_9_method_12_code, 3, some .int)
abbrev m_X8_has : Mt := (⟨"HeadNets$Rules", "has", "(I)Z"⟩, prog_10_method_4_code, 2, some .boolean)
abbrev m_X4_join : Mt := (⟨"HeadNets$Net", "join", "(II)V"⟩, prog_6_method_12_code, 3, none)
abbrev m_X4_setWire : Mt := (⟨"HeadNets$Net", "setWire", "(II)V"⟩, prog_6_method_11_code, 3, none)
abbrev m_X8_agentKind : Mt := (⟨"HeadNets$Rules", "agentKind", "(II)I"⟩, prog_10_method_13_code, 3, some .int)
abbrev m_X4_add : Mt := (⟨"HeadNets$Net", "add", "(II)I"⟩, prog_6_method_8_code, 4, some .int)
abbrev m_X4_has : Mt := (⟨"HeadNets$Net", "has", "(I)Z"⟩, prog_6_method_4_code, 2, some .boolean)
abbrev m_X7_slotAt : Mt := (⟨"HeadNets$Rewriter", "slotAt", "(IIII)I"⟩, prog_9_method_5_code, 4, some .int)
abbrev m_X8_ruleFor : Mt := (⟨"HeadNets$Rules", "ruleFor", "(II)I"⟩, prog_10_method_5_code, 3, some .int)
abbrev m_X0_isPair : Mt := (⟨"HeadNets$Book", "isPair", "(IZ)Z"⟩, prog_2_method_4_code, 3, some .boolean)
abbrev m_X11_choosePair : Mt := (⟨"HeadNets", "choosePair", "(I)I"⟩, prog_1_method_33_code, 3, some .int)
abbrev m_X0_countPairs : Mt := (⟨"HeadNets$Book", "countPairs", "(Z)I"⟩, prog_2_method_5_code, 4, some .int)
abbrev m_X0_alivePairAt : Mt := (⟨"HeadNets$Book", "alivePairAt", "(I)I"⟩, prog_2_method_6_code, 4, some .int)
abbrev m_X0_greatestAlivePair : Mt := (⟨"HeadNets$Book", "greatestAlivePair", "()I"⟩, prog_2_method_7_code, 2, some .int)
abbrev m_X3_hasPort : Mt := (⟨"HeadNets$Kinds", "hasPort", "(II)Z"⟩, prog_5_method_9_code, 3, some .boolean)
abbrev m_X3_sortOf : Mt := (⟨"HeadNets$Kinds", "sortOf", "(II)I"⟩, prog_5_method_10_code, 4, some .int)
abbrev m_X10_countCircles : Mt := (⟨"HeadNets$Walk", "countCircles", "(LHeadNets$Net;)I"⟩, prog_12_method_10_code, 6, some .int)
abbrev m_X4_waitsFor : Mt := (⟨"HeadNets$Net", "waitsFor", "(I)I"⟩, prog_6_method_14_code, 3, some .int)
abbrev m_X6_readText : Mt := (⟨"HeadNets$Reader", "readText", "()I"⟩, prog_8_method_2_code, 2, some .int)
abbrev m_X2_clear : Mt := (⟨"HeadNets$Journal", "clear", "(I)V"⟩, prog_4_method_2_code, 2, none)
abbrev m_X11_emptyShelves : Mt := (⟨"HeadNets", "emptyShelves", "()V"⟩, prog_1_method_30_code, 3, none)
abbrev m_X0_clear : Mt := (⟨"HeadNets$Book", "clear", "()V"⟩, prog_2_method_2_code, 1, none)
abbrev m_X9_scan : Mt := (⟨"HeadNets$Tape", "scan", "()V"⟩, prog_11_method_5_code, 2, none)
abbrev m_X6_isWord : Mt := (⟨"HeadNets$Reader", "isWord", "(J)Z"⟩, prog_8_method_3_code, 3, some .boolean)
abbrev m_X6_refuseToken : Mt := (⟨"HeadNets$Reader", "refuseToken", "()V"⟩, prog_8_method_5_code, 1, none)
abbrev m_X6_readNet : Mt := (⟨"HeadNets$Reader", "readNet", "()V"⟩, prog_8_method_14_code, 1, none)
abbrev m_X6_readRule : Mt := (⟨"HeadNets$Reader", "readRule", "()V"⟩, prog_8_method_10_code, 1, none)
abbrev m_X6_readKind : Mt := (⟨"HeadNets$Reader", "readKind", "()V"⟩, prog_8_method_7_code, 1, none)
abbrev m_X9_advance : Mt := (⟨"HeadNets$Tape", "advance", "()V"⟩, prog_11_method_8_code, 2, none)
abbrev m_X3_find : Mt := (⟨"HeadNets$Kinds", "find", "(J)I"⟩, prog_5_method_4_code, 4, some .int)
abbrev m_X3_isFull : Mt := (⟨"HeadNets$Kinds", "isFull", "()Z"⟩, prog_5_method_3_code, 1, some .boolean)
abbrev m_X3_add : Mt := (⟨"HeadNets$Kinds", "add", "(J)V"⟩, prog_5_method_5_code, 3, none)
abbrev m_X6_readPorts : Mt := (⟨"HeadNets$Reader", "readPorts", "()V"⟩, prog_8_method_8_code, 2, none)
abbrev m_X6_refuse : Mt := (⟨"HeadNets$Reader", "refuse", "(I)V"⟩, prog_8_method_4_code, 2, none)
abbrev m_X6_readPort : Mt := (⟨"HeadNets$Reader", "readPort", "(I)V"⟩, prog_8_method_9_code, 4, none)
abbrev m_X6_pass : Mt := (⟨"HeadNets$Reader", "pass", "(I)V"⟩, prog_8_method_6_code, 2, none)
abbrev m_X3_addPort : Mt := (⟨"HeadNets$Kinds", "addPort", "(I)V"⟩, prog_5_method_6_code, 3, none)
abbrev m_X8_isFull : Mt := (⟨"HeadNets$Rules", "isFull", "()Z"⟩, prog_10_method_3_code, 1, some .boolean)
abbrev m_X1_clear : Mt := (⟨"HeadNets$Draft", "clear", "()V"⟩, prog_3_method_2_code, 1, none)
abbrev m_X6_readSide : Mt := (⟨"HeadNets$Reader", "readSide", "(I)V"⟩, prog_8_method_11_code, 5, none)
abbrev m_X6_endRule : Mt := (⟨"HeadNets$Reader", "endRule", "()V"⟩, prog_8_method_19_code, 3, none)
abbrev m_X6_readLinks : Mt := (⟨"HeadNets$Reader", "readLinks", "()V"⟩, prog_8_method_15_code, 4, none)
abbrev m_X6_readTerm : Mt := (⟨"HeadNets$Reader", "readTerm", "(I)I"⟩, prog_8_method_16_code, 6, some .int)
abbrev m_X1_join : Mt := (⟨"HeadNets$Draft", "join", "(II)V"⟩, prog_3_method_8_code, 3, none)
abbrev m_X1_addAgent : Mt := (⟨"HeadNets$Draft", "addAgent", "(I)I"⟩, prog_3_method_3_code, 2, some .int)
abbrev m_X6_askBracket : Mt := (⟨"HeadNets$Reader", "askBracket", "(III)V"⟩, prog_8_method_13_code, 4, none)
abbrev m_X6_readBracket : Mt := (⟨"HeadNets$Reader", "readBracket", "(II)I"⟩, prog_8_method_17_code, 5, some .int)
abbrev m_X6_readName : Mt := (⟨"HeadNets$Reader", "readName", "(I)I"⟩, prog_8_method_18_code, 3, some .int)
abbrev m_X1_nameNumber : Mt := (⟨"HeadNets$Draft", "nameNumber", "(J)I"⟩, prog_3_method_5_code, 4, some .int)
abbrev m_X1_stand : Mt := (⟨"HeadNets$Draft", "stand", "(I)I"⟩, prog_3_method_6_code, 2, some .int)
abbrev m_X1_hasNameStanding : Mt := (⟨"HeadNets$Draft", "hasNameStanding", "(II)Z"⟩, prog_3_method_7_code, 4, some .boolean)
abbrev m_X6_agentsFit : Mt := (⟨"HeadNets$Reader", "agentsFit", "()Z"⟩, prog_8_method_21_code, 4, some .boolean)
abbrev m_X6_slotsFit : Mt := (⟨"HeadNets$Reader", "slotsFit", "()Z"⟩, prog_8_method_22_code, 2, some .boolean)
abbrev m_X8_add : Mt := (⟨"HeadNets$Rules", "add", "(II)I"⟩, prog_10_method_6_code, 4, some .int)
abbrev m_X6_storeRule : Mt := (⟨"HeadNets$Reader", "storeRule", "(I)V"⟩, prog_8_method_28_code, 5, none)
abbrev m_X1_countRings : Mt := (⟨"HeadNets$Draft", "countRings", "()I"⟩, prog_3_method_14_code, 3, some .int)
abbrev m_X8_setRings : Mt := (⟨"HeadNets$Rules", "setRings", "(II)V"⟩, prog_10_method_8_code, 3, none)
abbrev m_X6_hasSlot : Mt := (⟨"HeadNets$Reader", "hasSlot", "(I)Z"⟩, prog_8_method_26_code, 2, some .boolean)
abbrev m_X1_outerPoint : Mt := (⟨"HeadNets$Draft", "outerPoint", "(I)I"⟩, prog_3_method_10_code, 1, some .int)
abbrev m_X1_farCode : Mt := (⟨"HeadNets$Draft", "farCode", "(I)I"⟩, prog_3_method_12_code, 4, some .int)
abbrev m_X8_setWire : Mt := (⟨"HeadNets$Rules", "setWire", "(III)V"⟩, prog_10_method_9_code, 4, none)
abbrev m_X1_kindOf : Mt := (⟨"HeadNets$Draft", "kindOf", "(I)I"⟩, prog_3_method_4_code, 2, some .int)
abbrev m_X8_addAgent : Mt := (⟨"HeadNets$Rules", "addAgent", "(II)V"⟩, prog_10_method_7_code, 3, none)
abbrev m_X1_isStanding : Mt := (⟨"HeadNets$Draft", "isStanding", "(I)Z"⟩, prog_3_method_11_code, 1, some .boolean)
abbrev m_X1_passName : Mt := (⟨"HeadNets$Draft", "passName", "(I)I"⟩, prog_3_method_13_code, 3, some .int)
abbrev m_X6_slotKind : Mt := (⟨"HeadNets$Reader", "slotKind", "(I)I"⟩, prog_8_method_24_code, 2, some .int)
abbrev m_X6_slotPort : Mt := (⟨"HeadNets$Reader", "slotPort", "(I)I"⟩, prog_8_method_25_code, 1, some .int)
abbrev m_X6_slotSort : Mt := (⟨"HeadNets$Reader", "slotSort", "(I)I"⟩, prog_8_method_27_code, 2, some .int)
abbrev m_X6_fits : Mt := (⟨"HeadNets$Reader", "fits", "(II)Z"⟩, prog_8_method_23_code, 3, some .boolean)
abbrev m_X6_readSideNames : Mt := (⟨"HeadNets$Reader", "readSideNames", "(I)I"⟩, prog_8_method_12_code, 4, some .int)
abbrev m_X6_endNet : Mt := (⟨"HeadNets$Reader", "endNet", "()V"⟩, prog_8_method_20_code, 1, none)
abbrev m_X1_addEnds : Mt := (⟨"HeadNets$Draft", "addEnds", "()V"⟩, prog_3_method_9_code, 2, none)
abbrev m_X6_storeNet : Mt := (⟨"HeadNets$Reader", "storeNet", "()V"⟩, prog_8_method_29_code, 5, none)
abbrev m_X9_addToken : Mt := (⟨"HeadNets$Tape", "addToken", "(IIJ)V"⟩, prog_11_method_7_code, 5, none)
abbrev m_X9_scanAt : Mt := (⟨"HeadNets$Tape", "scanAt", "(I)I"⟩, prog_11_method_6_code, 4, some .int)
abbrev m_X9_byteAt : Mt := (⟨"HeadNets$Tape", "byteAt", "(I)I"⟩, prog_11_method_4_code, 2, some .int)
abbrev m_X9_countRow : Mt := (⟨"HeadNets$Tape", "countRow", "(I)I"⟩, prog_11_method_12_code, 3, some .int)
abbrev m_J0_indexOf_0f7a4 : Mt := (⟨"java/lang/String", "indexOf", "(I)I"⟩, prog_17_method_79_code, 2, some .int)
abbrev m_X9_kindOfRow : Mt := (⟨"HeadNets$Tape", "kindOfRow", "(II)I"⟩, prog_11_method_13_code, 5, some .int)
abbrev m_X9_packName : Mt := (⟨"HeadNets$Tape", "packName", "(II)J"⟩, prog_11_method_14_code, 6, some .long)
abbrev m_X9_isBig : Mt := (⟨"HeadNets$Tape", "isBig", "(I)Z"⟩, prog_11_method_9_code, 1, some .boolean)
abbrev m_X9_isDigit : Mt := (⟨"HeadNets$Tape", "isDigit", "(I)Z"⟩, prog_11_method_10_code, 1, some .boolean)
abbrev m_J0_indexOf_7cf53 : Mt := (⟨"java/lang/String", "indexOf", "(II)I"⟩, prog_17_method_80_code, 3, some .int)
abbrev m_J0_isLatin1_aae02 : Mt := (⟨"java/lang/String", "isLatin1", "()Z"⟩, prog_17_method_154_code, 1, some .boolean)
abbrev m_J0_length_8abf5 : Mt := (⟨"java/lang/String", "length", "()I"⟩, prog_17_method_54_code, 1, some .int)
abbrev m_J1_indexOf_4cfef : Mt := (⟨"java/lang/StringLatin1", "indexOf", "([BIII)I"⟩, prog_18_method_22_code, 4, some .int)
abbrev m_J1_canEncode_9a6ad : Mt := (⟨"java/lang/StringLatin1", "canEncode", "(I)Z"⟩, prog_18_method_4_code, 1, some .boolean)
abbrev m_J1_indexOfChar_4cfef : Mt := (⟨"java/lang/StringLatin1", "indexOfChar", "([BIII)I"⟩, prog_18_method_23_code, 6, some .int)
abbrev m_J0_coder_7d493 : Mt := (⟨"java/lang/String", "coder", "()B"⟩, prog_17_method_152_code, 1, some .byte)
abbrev m_X9_isLetterOrDigit : Mt := (⟨"HeadNets$Tape", "isLetterOrDigit", "(I)Z"⟩, prog_11_method_11_code, 1, some .boolean)
abbrev m_X8_clear : Mt := (⟨"HeadNets$Rules", "clear", "()V"⟩, prog_10_method_2_code, 1, none)
abbrev m_X4_clear : Mt := (⟨"HeadNets$Net", "clear", "()V"⟩, prog_6_method_2_code, 1, none)
abbrev m_X9_hasRoom : Mt := (⟨"HeadNets$Tape", "hasRoom", "(I)Z"⟩, prog_11_method_2_code, 2, some .boolean)
abbrev m_X9_append : Mt := (⟨"HeadNets$Tape", "append", "(I)V"⟩, prog_11_method_3_code, 3, none)
set_option maxRecDepth 20000 in
theorem wi_J0_coder_7d493 : Cond.initialized m_J0_coder_7d493.1.cls ∈ tb := tb1 15 rfl rfl
set_option maxRecDepth 20000 in
theorem wc_J0_coder_7d493 : Cond.code m_J0_coder_7d493.1 m_J0_coder_7d493.2.1 m_J0_coder_7d493.2.2.1 m_J0_coder_7d493.2.2.2 ∈ tb := tb2 237 rfl rfl
theorem wn_J0_coder_7d493 : m_J0_coder_7d493.1.cls ≠ "java/lang/invoke/MethodHandle" ∧ m_J0_coder_7d493.1.cls ≠ "java/lang/invoke/VarHandle" ∧ (parseMethodDescriptor m_J0_coder_7d493.1.desc).map (fun d => d.parameters.length) = some 0 := ⟨by decide +kernel, by decide +kernel, by decide +kernel⟩
set_option maxRecDepth 20000 in
theorem wm_J0_coder_7d493 : Cond.instanceMethod m_J0_coder_7d493.1 ∈ tb := tb2 235 rfl rfl
set_option maxRecDepth 20000 in
theorem ws_J0_coder_7d493 : Cond.selects m_J0_coder_7d493.1.cls m_J0_coder_7d493.1 m_J0_coder_7d493.1 ∈ tb := tb2 236 rfl rfl
set_option maxRecDepth 20000 in
theorem wi_J0_indexOf_0f7a4 : Cond.initialized m_J0_indexOf_0f7a4.1.cls ∈ tb := tb1 15 rfl rfl
set_option maxRecDepth 20000 in
theorem wc_J0_indexOf_0f7a4 : Cond.code m_J0_indexOf_0f7a4.1 m_J0_indexOf_0f7a4.2.1 m_J0_indexOf_0f7a4.2.2.1 m_J0_indexOf_0f7a4.2.2.2 ∈ tb := tb2 219 rfl rfl
theorem wn_J0_indexOf_0f7a4 : m_J0_indexOf_0f7a4.1.cls ≠ "java/lang/invoke/MethodHandle" ∧ m_J0_indexOf_0f7a4.1.cls ≠ "java/lang/invoke/VarHandle" ∧ (parseMethodDescriptor m_J0_indexOf_0f7a4.1.desc).map (fun d => d.parameters.length) = some 1 := ⟨by decide +kernel, by decide +kernel, by decide +kernel⟩
set_option maxRecDepth 20000 in
theorem wm_J0_indexOf_0f7a4 : Cond.instanceMethod m_J0_indexOf_0f7a4.1 ∈ tb := tb2 217 rfl rfl
set_option maxRecDepth 20000 in
theorem ws_J0_indexOf_0f7a4 : Cond.selects m_J0_indexOf_0f7a4.1.cls m_J0_indexOf_0f7a4.1 m_J0_indexOf_0f7a4.1 ∈ tb := tb2 218 rfl rfl
set_option maxRecDepth 20000 in
theorem wi_J0_indexOf_7cf53 : Cond.initialized m_J0_indexOf_7cf53.1.cls ∈ tb := tb1 15 rfl rfl
set_option maxRecDepth 20000 in
theorem wc_J0_indexOf_7cf53 : Cond.code m_J0_indexOf_7cf53.1 m_J0_indexOf_7cf53.2.1 m_J0_indexOf_7cf53.2.2.1 m_J0_indexOf_7cf53.2.2.2 ∈ tb := tb2 223 rfl rfl
theorem wn_J0_indexOf_7cf53 : m_J0_indexOf_7cf53.1.cls ≠ "java/lang/invoke/MethodHandle" ∧ m_J0_indexOf_7cf53.1.cls ≠ "java/lang/invoke/VarHandle" ∧ (parseMethodDescriptor m_J0_indexOf_7cf53.1.desc).map (fun d => d.parameters.length) = some 2 := ⟨by decide +kernel, by decide +kernel, by decide +kernel⟩
set_option maxRecDepth 20000 in
theorem wm_J0_indexOf_7cf53 : Cond.instanceMethod m_J0_indexOf_7cf53.1 ∈ tb := tb2 221 rfl rfl
set_option maxRecDepth 20000 in
theorem ws_J0_indexOf_7cf53 : Cond.selects m_J0_indexOf_7cf53.1.cls m_J0_indexOf_7cf53.1 m_J0_indexOf_7cf53.1 ∈ tb := tb2 222 rfl rfl
set_option maxRecDepth 20000 in
theorem wi_J0_isLatin1_aae02 : Cond.initialized m_J0_isLatin1_aae02.1.cls ∈ tb := tb1 15 rfl rfl
set_option maxRecDepth 20000 in
theorem wc_J0_isLatin1_aae02 : Cond.code m_J0_isLatin1_aae02.1 m_J0_isLatin1_aae02.2.1 m_J0_isLatin1_aae02.2.2.1 m_J0_isLatin1_aae02.2.2.2 ∈ tb := tb2 227 rfl rfl
theorem wn_J0_isLatin1_aae02 : m_J0_isLatin1_aae02.1.cls ≠ "java/lang/invoke/MethodHandle" ∧ m_J0_isLatin1_aae02.1.cls ≠ "java/lang/invoke/VarHandle" ∧ (parseMethodDescriptor m_J0_isLatin1_aae02.1.desc).map (fun d => d.parameters.length) = some 0 := ⟨by decide +kernel, by decide +kernel, by decide +kernel⟩
set_option maxRecDepth 20000 in
theorem wm_J0_isLatin1_aae02 : Cond.instanceMethod m_J0_isLatin1_aae02.1 ∈ tb := tb2 225 rfl rfl
set_option maxRecDepth 20000 in
theorem ws_J0_isLatin1_aae02 : Cond.selects m_J0_isLatin1_aae02.1.cls m_J0_isLatin1_aae02.1 m_J0_isLatin1_aae02.1 ∈ tb := tb2 226 rfl rfl
set_option maxRecDepth 20000 in
theorem wi_J0_length_8abf5 : Cond.initialized m_J0_length_8abf5.1.cls ∈ tb := tb1 15 rfl rfl
set_option maxRecDepth 20000 in
theorem wc_J0_length_8abf5 : Cond.code m_J0_length_8abf5.1 m_J0_length_8abf5.2.1 m_J0_length_8abf5.2.2.1 m_J0_length_8abf5.2.2.2 ∈ tb := tb2 233 rfl rfl
theorem wn_J0_length_8abf5 : m_J0_length_8abf5.1.cls ≠ "java/lang/invoke/MethodHandle" ∧ m_J0_length_8abf5.1.cls ≠ "java/lang/invoke/VarHandle" ∧ (parseMethodDescriptor m_J0_length_8abf5.1.desc).map (fun d => d.parameters.length) = some 0 := ⟨by decide +kernel, by decide +kernel, by decide +kernel⟩
set_option maxRecDepth 20000 in
theorem wm_J0_length_8abf5 : Cond.instanceMethod m_J0_length_8abf5.1 ∈ tb := tb2 231 rfl rfl
set_option maxRecDepth 20000 in
theorem ws_J0_length_8abf5 : Cond.selects m_J0_length_8abf5.1.cls m_J0_length_8abf5.1 m_J0_length_8abf5.1 ∈ tb := tb2 232 rfl rfl
set_option maxRecDepth 20000 in
theorem wi_J1_canEncode_9a6ad : Cond.initialized m_J1_canEncode_9a6ad.1.cls ∈ tb := tb1 16 rfl rfl
set_option maxRecDepth 20000 in
theorem wc_J1_canEncode_9a6ad : Cond.code m_J1_canEncode_9a6ad.1 m_J1_canEncode_9a6ad.2.1 m_J1_canEncode_9a6ad.2.2.1 m_J1_canEncode_9a6ad.2.2.2 ∈ tb := tb3 3 rfl rfl
theorem wn_J1_canEncode_9a6ad : m_J1_canEncode_9a6ad.1.cls ≠ "java/lang/invoke/MethodHandle" ∧ m_J1_canEncode_9a6ad.1.cls ≠ "java/lang/invoke/VarHandle" ∧ (parseMethodDescriptor m_J1_canEncode_9a6ad.1.desc).map (fun d => d.parameters.length) = some 1 := ⟨by decide +kernel, by decide +kernel, by decide +kernel⟩
set_option maxRecDepth 20000 in
theorem wm_J1_canEncode_9a6ad : Cond.static m_J1_canEncode_9a6ad.1 ∈ tb := tb3 2 rfl rfl
set_option maxRecDepth 20000 in
theorem wi_J1_indexOfChar_4cfef : Cond.initialized m_J1_indexOfChar_4cfef.1.cls ∈ tb := tb1 16 rfl rfl
set_option maxRecDepth 20000 in
theorem wc_J1_indexOfChar_4cfef : Cond.code m_J1_indexOfChar_4cfef.1 m_J1_indexOfChar_4cfef.2.1 m_J1_indexOfChar_4cfef.2.2.1 m_J1_indexOfChar_4cfef.2.2.2 ∈ tb := tb3 12 rfl rfl
theorem wn_J1_indexOfChar_4cfef : m_J1_indexOfChar_4cfef.1.cls ≠ "java/lang/invoke/MethodHandle" ∧ m_J1_indexOfChar_4cfef.1.cls ≠ "java/lang/invoke/VarHandle" ∧ (parseMethodDescriptor m_J1_indexOfChar_4cfef.1.desc).map (fun d => d.parameters.length) = some 4 := ⟨by decide +kernel, by decide +kernel, by decide +kernel⟩
set_option maxRecDepth 20000 in
theorem wm_J1_indexOfChar_4cfef : Cond.static m_J1_indexOfChar_4cfef.1 ∈ tb := tb3 11 rfl rfl
set_option maxRecDepth 20000 in
theorem wi_J1_indexOf_4cfef : Cond.initialized m_J1_indexOf_4cfef.1.cls ∈ tb := tb1 16 rfl rfl
set_option maxRecDepth 20000 in
theorem wc_J1_indexOf_4cfef : Cond.code m_J1_indexOf_4cfef.1 m_J1_indexOf_4cfef.2.1 m_J1_indexOf_4cfef.2.2.1 m_J1_indexOf_4cfef.2.2.2 ∈ tb := tb3 0 rfl rfl
theorem wn_J1_indexOf_4cfef : m_J1_indexOf_4cfef.1.cls ≠ "java/lang/invoke/MethodHandle" ∧ m_J1_indexOf_4cfef.1.cls ≠ "java/lang/invoke/VarHandle" ∧ (parseMethodDescriptor m_J1_indexOf_4cfef.1.desc).map (fun d => d.parameters.length) = some 4 := ⟨by decide +kernel, by decide +kernel, by decide +kernel⟩
set_option maxRecDepth 20000 in
theorem wm_J1_indexOf_4cfef : Cond.static m_J1_indexOf_4cfef.1 ∈ tb := tb2 239 rfl rfl
set_option maxRecDepth 20000 in
theorem wi_J7_fill_53178 : Cond.initialized m_J7_fill_53178.1.cls ∈ tb := tb1 8 rfl rfl
set_option maxRecDepth 20000 in
theorem wc_J7_fill_53178 : Cond.code m_J7_fill_53178.1 m_J7_fill_53178.2.1 m_J7_fill_53178.2.2.1 m_J7_fill_53178.2.2.2 ∈ tb := tb1 150 rfl rfl
theorem wn_J7_fill_53178 : m_J7_fill_53178.1.cls ≠ "java/lang/invoke/MethodHandle" ∧ m_J7_fill_53178.1.cls ≠ "java/lang/invoke/VarHandle" ∧ (parseMethodDescriptor m_J7_fill_53178.1.desc).map (fun d => d.parameters.length) = some 2 := ⟨by decide +kernel, by decide +kernel, by decide +kernel⟩
set_option maxRecDepth 20000 in
theorem wm_J7_fill_53178 : Cond.static m_J7_fill_53178.1 ∈ tb := tb1 149 rfl rfl
set_option maxRecDepth 20000 in
theorem wi_J9_floorMod_7cf53 : Cond.initialized m_J9_floorMod_7cf53.1.cls ∈ tb := tb1 17 rfl rfl
set_option maxRecDepth 20000 in
theorem wc_J9_floorMod_7cf53 : Cond.code m_J9_floorMod_7cf53.1 m_J9_floorMod_7cf53.2.1 m_J9_floorMod_7cf53.2.2.1 m_J9_floorMod_7cf53.2.2.2 ∈ tb := tb4 217 rfl rfl
theorem wn_J9_floorMod_7cf53 : m_J9_floorMod_7cf53.1.cls ≠ "java/lang/invoke/MethodHandle" ∧ m_J9_floorMod_7cf53.1.cls ≠ "java/lang/invoke/VarHandle" ∧ (parseMethodDescriptor m_J9_floorMod_7cf53.1.desc).map (fun d => d.parameters.length) = some 2 := ⟨by decide +kernel, by decide +kernel, by decide +kernel⟩
set_option maxRecDepth 20000 in
theorem wm_J9_floorMod_7cf53 : Cond.static m_J9_floorMod_7cf53.1 ∈ tb := tb4 216 rfl rfl
set_option maxRecDepth 20000 in
theorem wi_J9_max_7cf53 : Cond.initialized m_J9_max_7cf53.1.cls ∈ tb := tb1 17 rfl rfl
set_option maxRecDepth 20000 in
theorem wc_J9_max_7cf53 : Cond.code m_J9_max_7cf53.1 m_J9_max_7cf53.2.1 m_J9_max_7cf53.2.2.1 m_J9_max_7cf53.2.2.2 ∈ tb := tb3 6 rfl rfl
theorem wn_J9_max_7cf53 : m_J9_max_7cf53.1.cls ≠ "java/lang/invoke/MethodHandle" ∧ m_J9_max_7cf53.1.cls ≠ "java/lang/invoke/VarHandle" ∧ (parseMethodDescriptor m_J9_max_7cf53.1.desc).map (fun d => d.parameters.length) = some 2 := ⟨by decide +kernel, by decide +kernel, by decide +kernel⟩
set_option maxRecDepth 20000 in
theorem wm_J9_max_7cf53 : Cond.static m_J9_max_7cf53.1 ∈ tb := tb3 5 rfl rfl
set_option maxRecDepth 20000 in
theorem wi_J9_min_7cf53 : Cond.initialized m_J9_min_7cf53.1.cls ∈ tb := tb1 17 rfl rfl
set_option maxRecDepth 20000 in
theorem wc_J9_min_7cf53 : Cond.code m_J9_min_7cf53.1 m_J9_min_7cf53.2.1 m_J9_min_7cf53.2.2.1 m_J9_min_7cf53.2.2.2 ∈ tb := tb3 9 rfl rfl
theorem wn_J9_min_7cf53 : m_J9_min_7cf53.1.cls ≠ "java/lang/invoke/MethodHandle" ∧ m_J9_min_7cf53.1.cls ≠ "java/lang/invoke/VarHandle" ∧ (parseMethodDescriptor m_J9_min_7cf53.1.desc).map (fun d => d.parameters.length) = some 2 := ⟨by decide +kernel, by decide +kernel, by decide +kernel⟩
set_option maxRecDepth 20000 in
theorem wm_J9_min_7cf53 : Cond.static m_J9_min_7cf53.1 ∈ tb := tb3 8 rfl rfl
set_option maxRecDepth 20000 in
theorem wi_X0_alivePairAt : Cond.initialized m_X0_alivePairAt.1.cls ∈ tb := tb1 5 rfl rfl
set_option maxRecDepth 20000 in
theorem wc_X0_alivePairAt : Cond.code m_X0_alivePairAt.1 m_X0_alivePairAt.2.1 m_X0_alivePairAt.2.2.1 m_X0_alivePairAt.2.2.2 ∈ tb := tb4 198 rfl rfl
theorem wn_X0_alivePairAt : m_X0_alivePairAt.1.cls ≠ "java/lang/invoke/MethodHandle" ∧ m_X0_alivePairAt.1.cls ≠ "java/lang/invoke/VarHandle" ∧ (parseMethodDescriptor m_X0_alivePairAt.1.desc).map (fun d => d.parameters.length) = some 1 := ⟨by decide +kernel, by decide +kernel, by decide +kernel⟩
set_option maxRecDepth 20000 in
theorem wm_X0_alivePairAt : Cond.instanceMethod m_X0_alivePairAt.1 ∈ tb := tb4 196 rfl rfl
set_option maxRecDepth 20000 in
theorem ws_X0_alivePairAt : Cond.selects m_X0_alivePairAt.1.cls m_X0_alivePairAt.1 m_X0_alivePairAt.1 ∈ tb := tb4 197 rfl rfl
set_option maxRecDepth 20000 in
theorem wi_X0_aliveRule : Cond.initialized m_X0_aliveRule.1.cls ∈ tb := tb1 5 rfl rfl
set_option maxRecDepth 20000 in
theorem wc_X0_aliveRule : Cond.code m_X0_aliveRule.1 m_X0_aliveRule.2.1 m_X0_aliveRule.2.2.1 m_X0_aliveRule.2.2.2 ∈ tb := tb4 130 rfl rfl
theorem wn_X0_aliveRule : m_X0_aliveRule.1.cls ≠ "java/lang/invoke/MethodHandle" ∧ m_X0_aliveRule.1.cls ≠ "java/lang/invoke/VarHandle" ∧ (parseMethodDescriptor m_X0_aliveRule.1.desc).map (fun d => d.parameters.length) = some 1 := ⟨by decide +kernel, by decide +kernel, by decide +kernel⟩
set_option maxRecDepth 20000 in
theorem wm_X0_aliveRule : Cond.instanceMethod m_X0_aliveRule.1 ∈ tb := tb4 128 rfl rfl
set_option maxRecDepth 20000 in
theorem ws_X0_aliveRule : Cond.selects m_X0_aliveRule.1.cls m_X0_aliveRule.1 m_X0_aliveRule.1 ∈ tb := tb4 129 rfl rfl
set_option maxRecDepth 20000 in
theorem wi_X0_clear : Cond.initialized m_X0_clear.1.cls ∈ tb := tb1 5 rfl rfl
set_option maxRecDepth 20000 in
theorem wc_X0_clear : Cond.code m_X0_clear.1 m_X0_clear.2.1 m_X0_clear.2.2.1 m_X0_clear.2.2.2 ∈ tb := tb2 166 rfl rfl
theorem wn_X0_clear : m_X0_clear.1.cls ≠ "java/lang/invoke/MethodHandle" ∧ m_X0_clear.1.cls ≠ "java/lang/invoke/VarHandle" ∧ (parseMethodDescriptor m_X0_clear.1.desc).map (fun d => d.parameters.length) = some 0 := ⟨by decide +kernel, by decide +kernel, by decide +kernel⟩
set_option maxRecDepth 20000 in
theorem wm_X0_clear : Cond.instanceMethod m_X0_clear.1 ∈ tb := tb2 164 rfl rfl
set_option maxRecDepth 20000 in
theorem ws_X0_clear : Cond.selects m_X0_clear.1.cls m_X0_clear.1 m_X0_clear.1 ∈ tb := tb2 165 rfl rfl
set_option maxRecDepth 20000 in
theorem wi_X0_countPairs : Cond.initialized m_X0_countPairs.1.cls ∈ tb := tb1 5 rfl rfl
set_option maxRecDepth 20000 in
theorem wc_X0_countPairs : Cond.code m_X0_countPairs.1 m_X0_countPairs.2.1 m_X0_countPairs.2.2.1 m_X0_countPairs.2.2.2 ∈ tb := tb4 112 rfl rfl
theorem wn_X0_countPairs : m_X0_countPairs.1.cls ≠ "java/lang/invoke/MethodHandle" ∧ m_X0_countPairs.1.cls ≠ "java/lang/invoke/VarHandle" ∧ (parseMethodDescriptor m_X0_countPairs.1.desc).map (fun d => d.parameters.length) = some 1 := ⟨by decide +kernel, by decide +kernel, by decide +kernel⟩
set_option maxRecDepth 20000 in
theorem wm_X0_countPairs : Cond.instanceMethod m_X0_countPairs.1 ∈ tb := tb4 110 rfl rfl
set_option maxRecDepth 20000 in
theorem ws_X0_countPairs : Cond.selects m_X0_countPairs.1.cls m_X0_countPairs.1 m_X0_countPairs.1 ∈ tb := tb4 111 rfl rfl
set_option maxRecDepth 20000 in
theorem wi_X0_greatestAlivePair : Cond.initialized m_X0_greatestAlivePair.1.cls ∈ tb := tb1 5 rfl rfl
set_option maxRecDepth 20000 in
theorem wc_X0_greatestAlivePair : Cond.code m_X0_greatestAlivePair.1 m_X0_greatestAlivePair.2.1 m_X0_greatestAlivePair.2.2.1 m_X0_greatestAlivePair.2.2.2 ∈ tb := tb5 88 rfl rfl
theorem wn_X0_greatestAlivePair : m_X0_greatestAlivePair.1.cls ≠ "java/lang/invoke/MethodHandle" ∧ m_X0_greatestAlivePair.1.cls ≠ "java/lang/invoke/VarHandle" ∧ (parseMethodDescriptor m_X0_greatestAlivePair.1.desc).map (fun d => d.parameters.length) = some 0 := ⟨by decide +kernel, by decide +kernel, by decide +kernel⟩
set_option maxRecDepth 20000 in
theorem wm_X0_greatestAlivePair : Cond.instanceMethod m_X0_greatestAlivePair.1 ∈ tb := tb5 86 rfl rfl
set_option maxRecDepth 20000 in
theorem ws_X0_greatestAlivePair : Cond.selects m_X0_greatestAlivePair.1.cls m_X0_greatestAlivePair.1 m_X0_greatestAlivePair.1 ∈ tb := tb5 87 rfl rfl
set_option maxRecDepth 20000 in
theorem wi_X0_isPair : Cond.initialized m_X0_isPair.1.cls ∈ tb := tb1 5 rfl rfl
set_option maxRecDepth 20000 in
theorem wc_X0_isPair : Cond.code m_X0_isPair.1 m_X0_isPair.2.1 m_X0_isPair.2.2.1 m_X0_isPair.2.2.2 ∈ tb := tb4 116 rfl rfl
theorem wn_X0_isPair : m_X0_isPair.1.cls ≠ "java/lang/invoke/MethodHandle" ∧ m_X0_isPair.1.cls ≠ "java/lang/invoke/VarHandle" ∧ (parseMethodDescriptor m_X0_isPair.1.desc).map (fun d => d.parameters.length) = some 2 := ⟨by decide +kernel, by decide +kernel, by decide +kernel⟩
set_option maxRecDepth 20000 in
theorem wm_X0_isPair : Cond.instanceMethod m_X0_isPair.1 ∈ tb := tb4 114 rfl rfl
set_option maxRecDepth 20000 in
theorem ws_X0_isPair : Cond.selects m_X0_isPair.1.cls m_X0_isPair.1 m_X0_isPair.1 ∈ tb := tb4 115 rfl rfl
set_option maxRecDepth 20000 in
theorem wi_X0_listAlivePairs : Cond.initialized m_X0_listAlivePairs.1.cls ∈ tb := tb1 5 rfl rfl
set_option maxRecDepth 20000 in
theorem wc_X0_listAlivePairs : Cond.code m_X0_listAlivePairs.1 m_X0_listAlivePairs.2.1 m_X0_listAlivePairs.2.2.1 m_X0_listAlivePairs.2.2.2 ∈ tb := tb5 76 rfl rfl
theorem wn_X0_listAlivePairs : m_X0_listAlivePairs.1.cls ≠ "java/lang/invoke/MethodHandle" ∧ m_X0_listAlivePairs.1.cls ≠ "java/lang/invoke/VarHandle" ∧ (parseMethodDescriptor m_X0_listAlivePairs.1.desc).map (fun d => d.parameters.length) = some 1 := ⟨by decide +kernel, by decide +kernel, by decide +kernel⟩
set_option maxRecDepth 20000 in
theorem wm_X0_listAlivePairs : Cond.instanceMethod m_X0_listAlivePairs.1 ∈ tb := tb5 74 rfl rfl
set_option maxRecDepth 20000 in
theorem ws_X0_listAlivePairs : Cond.selects m_X0_listAlivePairs.1.cls m_X0_listAlivePairs.1 m_X0_listAlivePairs.1 ∈ tb := tb5 75 rfl rfl
set_option maxRecDepth 20000 in
theorem wi_X10_countCircles : Cond.initialized m_X10_countCircles.1.cls ∈ tb := tb1 12 rfl rfl
set_option maxRecDepth 20000 in
theorem wc_X10_countCircles : Cond.code m_X10_countCircles.1 m_X10_countCircles.2.1 m_X10_countCircles.2.2.1 m_X10_countCircles.2.2.2 ∈ tb := tb4 139 rfl rfl
theorem wn_X10_countCircles : m_X10_countCircles.1.cls ≠ "java/lang/invoke/MethodHandle" ∧ m_X10_countCircles.1.cls ≠ "java/lang/invoke/VarHandle" ∧ (parseMethodDescriptor m_X10_countCircles.1.desc).map (fun d => d.parameters.length) = some 1 := ⟨by decide +kernel, by decide +kernel, by decide +kernel⟩
set_option maxRecDepth 20000 in
theorem wm_X10_countCircles : Cond.instanceMethod m_X10_countCircles.1 ∈ tb := tb4 137 rfl rfl
set_option maxRecDepth 20000 in
theorem ws_X10_countCircles : Cond.selects m_X10_countCircles.1.cls m_X10_countCircles.1 m_X10_countCircles.1 ∈ tb := tb4 138 rfl rfl
set_option maxRecDepth 20000 in
theorem wi_X10_goThrough : Cond.initialized m_X10_goThrough.1.cls ∈ tb := tb1 12 rfl rfl
set_option maxRecDepth 20000 in
theorem wc_X10_goThrough : Cond.code m_X10_goThrough.1 m_X10_goThrough.2.1 m_X10_goThrough.2.2.1 m_X10_goThrough.2.2.2 ∈ tb := tb5 138 rfl rfl
theorem wn_X10_goThrough : m_X10_goThrough.1.cls ≠ "java/lang/invoke/MethodHandle" ∧ m_X10_goThrough.1.cls ≠ "java/lang/invoke/VarHandle" ∧ (parseMethodDescriptor m_X10_goThrough.1.desc).map (fun d => d.parameters.length) = some 3 := ⟨by decide +kernel, by decide +kernel, by decide +kernel⟩
set_option maxRecDepth 20000 in
theorem wm_X10_goThrough : Cond.instanceMethod m_X10_goThrough.1 ∈ tb := tb5 137 rfl rfl
theorem ws_X10_goThrough : Cond.selects m_X10_goThrough.1.cls m_X10_goThrough.1 m_X10_goThrough.1 ∈ tb := tb_sel (q := (m_X10_goThrough.1, 3)) (List.mem_of_getElem? (i := 50) (by decide +kernel)) rfl
set_option maxRecDepth 20000 in
theorem wi_X10_hasSameAgents : Cond.initialized m_X10_hasSameAgents.1.cls ∈ tb := tb1 12 rfl rfl
set_option maxRecDepth 20000 in
theorem wc_X10_hasSameAgents : Cond.code m_X10_hasSameAgents.1 m_X10_hasSameAgents.2.1 m_X10_hasSameAgents.2.2.1 m_X10_hasSameAgents.2.2.2 ∈ tb := tb5 162 rfl rfl
theorem wn_X10_hasSameAgents : m_X10_hasSameAgents.1.cls ≠ "java/lang/invoke/MethodHandle" ∧ m_X10_hasSameAgents.1.cls ≠ "java/lang/invoke/VarHandle" ∧ (parseMethodDescriptor m_X10_hasSameAgents.1.desc).map (fun d => d.parameters.length) = some 4 := ⟨by decide +kernel, by decide +kernel, by decide +kernel⟩
set_option maxRecDepth 20000 in
theorem wm_X10_hasSameAgents : Cond.instanceMethod m_X10_hasSameAgents.1 ∈ tb := tb5 161 rfl rfl
theorem ws_X10_hasSameAgents : Cond.selects m_X10_hasSameAgents.1.cls m_X10_hasSameAgents.1 m_X10_hasSameAgents.1 ∈ tb := tb_sel (q := (m_X10_hasSameAgents.1, 3)) (List.mem_of_getElem? (i := 53) (by decide +kernel)) rfl
set_option maxRecDepth 20000 in
theorem wi_X10_hasSameCounts : Cond.initialized m_X10_hasSameCounts.1.cls ∈ tb := tb1 12 rfl rfl
set_option maxRecDepth 20000 in
theorem wc_X10_hasSameCounts : Cond.code m_X10_hasSameCounts.1 m_X10_hasSameCounts.2.1 m_X10_hasSameCounts.2.2.1 m_X10_hasSameCounts.2.2.2 ∈ tb := tb5 148 rfl rfl
theorem wn_X10_hasSameCounts : m_X10_hasSameCounts.1.cls ≠ "java/lang/invoke/MethodHandle" ∧ m_X10_hasSameCounts.1.cls ≠ "java/lang/invoke/VarHandle" ∧ (parseMethodDescriptor m_X10_hasSameCounts.1.desc).map (fun d => d.parameters.length) = some 2 := ⟨by decide +kernel, by decide +kernel, by decide +kernel⟩
set_option maxRecDepth 20000 in
theorem wm_X10_hasSameCounts : Cond.static m_X10_hasSameCounts.1 ∈ tb := tb5 147 rfl rfl
set_option maxRecDepth 20000 in
theorem wi_X10_hasSameEnds : Cond.initialized m_X10_hasSameEnds.1.cls ∈ tb := tb1 12 rfl rfl
set_option maxRecDepth 20000 in
theorem wc_X10_hasSameEnds : Cond.code m_X10_hasSameEnds.1 m_X10_hasSameEnds.2.1 m_X10_hasSameEnds.2.2.1 m_X10_hasSameEnds.2.2.2 ∈ tb := tb5 153 rfl rfl
theorem wn_X10_hasSameEnds : m_X10_hasSameEnds.1.cls ≠ "java/lang/invoke/MethodHandle" ∧ m_X10_hasSameEnds.1.cls ≠ "java/lang/invoke/VarHandle" ∧ (parseMethodDescriptor m_X10_hasSameEnds.1.desc).map (fun d => d.parameters.length) = some 3 := ⟨by decide +kernel, by decide +kernel, by decide +kernel⟩
set_option maxRecDepth 20000 in
theorem wm_X10_hasSameEnds : Cond.instanceMethod m_X10_hasSameEnds.1 ∈ tb := tb5 152 rfl rfl
theorem ws_X10_hasSameEnds : Cond.selects m_X10_hasSameEnds.1.cls m_X10_hasSameEnds.1 m_X10_hasSameEnds.1 ∈ tb := tb_sel (q := (m_X10_hasSameEnds.1, 3)) (List.mem_of_getElem? (i := 51) (by decide +kernel)) rfl
set_option maxRecDepth 20000 in
theorem wi_X10_isLike : Cond.initialized m_X10_isLike.1.cls ∈ tb := tb1 12 rfl rfl
set_option maxRecDepth 20000 in
theorem wc_X10_isLike : Cond.code m_X10_isLike.1 m_X10_isLike.2.1 m_X10_isLike.2.2.1 m_X10_isLike.2.2.2 ∈ tb := tb5 145 rfl rfl
theorem wn_X10_isLike : m_X10_isLike.1.cls ≠ "java/lang/invoke/MethodHandle" ∧ m_X10_isLike.1.cls ≠ "java/lang/invoke/VarHandle" ∧ (parseMethodDescriptor m_X10_isLike.1.desc).map (fun d => d.parameters.length) = some 4 := ⟨by decide +kernel, by decide +kernel, by decide +kernel⟩
set_option maxRecDepth 20000 in
theorem wm_X10_isLike : Cond.instanceMethod m_X10_isLike.1 ∈ tb := tb5 143 rfl rfl
set_option maxRecDepth 20000 in
theorem ws_X10_isLike : Cond.selects m_X10_isLike.1.cls m_X10_isLike.1 m_X10_isLike.1 ∈ tb := tb5 144 rfl rfl
set_option maxRecDepth 20000 in
theorem wi_X10_numbered : Cond.initialized m_X10_numbered.1.cls ∈ tb := tb1 12 rfl rfl
set_option maxRecDepth 20000 in
theorem wc_X10_numbered : Cond.code m_X10_numbered.1 m_X10_numbered.2.1 m_X10_numbered.2.2.1 m_X10_numbered.2.2.2 ∈ tb := tb5 157 rfl rfl
theorem wn_X10_numbered : m_X10_numbered.1.cls ≠ "java/lang/invoke/MethodHandle" ∧ m_X10_numbered.1.cls ≠ "java/lang/invoke/VarHandle" ∧ (parseMethodDescriptor m_X10_numbered.1.desc).map (fun d => d.parameters.length) = some 1 := ⟨by decide +kernel, by decide +kernel, by decide +kernel⟩
set_option maxRecDepth 20000 in
theorem wm_X10_numbered : Cond.instanceMethod m_X10_numbered.1 ∈ tb := tb5 156 rfl rfl
theorem ws_X10_numbered : Cond.selects m_X10_numbered.1.cls m_X10_numbered.1 m_X10_numbered.1 ∈ tb := tb_sel (q := (m_X10_numbered.1, 3)) (List.mem_of_getElem? (i := 52) (by decide +kernel)) rfl
set_option maxRecDepth 20000 in
theorem wi_X10_reach : Cond.initialized m_X10_reach.1.cls ∈ tb := tb1 12 rfl rfl
set_option maxRecDepth 20000 in
theorem wc_X10_reach : Cond.code m_X10_reach.1 m_X10_reach.2.1 m_X10_reach.2.2.1 m_X10_reach.2.2.2 ∈ tb := tb5 133 rfl rfl
theorem wn_X10_reach : m_X10_reach.1.cls ≠ "java/lang/invoke/MethodHandle" ∧ m_X10_reach.1.cls ≠ "java/lang/invoke/VarHandle" ∧ (parseMethodDescriptor m_X10_reach.1.desc).map (fun d => d.parameters.length) = some 1 := ⟨by decide +kernel, by decide +kernel, by decide +kernel⟩
set_option maxRecDepth 20000 in
theorem wm_X10_reach : Cond.instanceMethod m_X10_reach.1 ∈ tb := tb5 132 rfl rfl
theorem ws_X10_reach : Cond.selects m_X10_reach.1.cls m_X10_reach.1 m_X10_reach.1 ∈ tb := tb_sel (q := (m_X10_reach.1, 3)) (List.mem_of_getElem? (i := 49) (by decide +kernel)) rfl
set_option maxRecDepth 20000 in
theorem wi_X10_reachAll : Cond.initialized m_X10_reachAll.1.cls ∈ tb := tb1 12 rfl rfl
set_option maxRecDepth 20000 in
theorem wc_X10_reachAll : Cond.code m_X10_reachAll.1 m_X10_reachAll.2.1 m_X10_reachAll.2.2.1 m_X10_reachAll.2.2.2 ∈ tb := tb5 127 rfl rfl
theorem wn_X10_reachAll : m_X10_reachAll.1.cls ≠ "java/lang/invoke/MethodHandle" ∧ m_X10_reachAll.1.cls ≠ "java/lang/invoke/VarHandle" ∧ (parseMethodDescriptor m_X10_reachAll.1.desc).map (fun d => d.parameters.length) = some 2 := ⟨by decide +kernel, by decide +kernel, by decide +kernel⟩
set_option maxRecDepth 20000 in
theorem wm_X10_reachAll : Cond.instanceMethod m_X10_reachAll.1 ∈ tb := tb5 125 rfl rfl
set_option maxRecDepth 20000 in
theorem ws_X10_reachAll : Cond.selects m_X10_reachAll.1.cls m_X10_reachAll.1 m_X10_reachAll.1 ∈ tb := tb5 126 rfl rfl
set_option maxRecDepth 20000 in
theorem wi_X11_agentOf : Cond.initialized m_X11_agentOf.1.cls ∈ tb := tb1 1 rfl rfl
set_option maxRecDepth 20000 in
theorem wc_X11_agentOf : Cond.code m_X11_agentOf.1 m_X11_agentOf.2.1 m_X11_agentOf.2.2.1 m_X11_agentOf.2.2.2 ∈ tb := tb3 235 rfl rfl
theorem wn_X11_agentOf : m_X11_agentOf.1.cls ≠ "java/lang/invoke/MethodHandle" ∧ m_X11_agentOf.1.cls ≠ "java/lang/invoke/VarHandle" ∧ (parseMethodDescriptor m_X11_agentOf.1.desc).map (fun d => d.parameters.length) = some 1 := ⟨by decide +kernel, by decide +kernel, by decide +kernel⟩
set_option maxRecDepth 20000 in
theorem wm_X11_agentOf : Cond.static m_X11_agentOf.1 ∈ tb := tb3 234 rfl rfl
set_option maxRecDepth 20000 in
theorem wi_X11_choosePair : Cond.initialized m_X11_choosePair.1.cls ∈ tb := tb1 1 rfl rfl
set_option maxRecDepth 20000 in
theorem wc_X11_choosePair : Cond.code m_X11_choosePair.1 m_X11_choosePair.2.1 m_X11_choosePair.2.2.1 m_X11_choosePair.2.2.2 ∈ tb := tb5 84 rfl rfl
theorem wn_X11_choosePair : m_X11_choosePair.1.cls ≠ "java/lang/invoke/MethodHandle" ∧ m_X11_choosePair.1.cls ≠ "java/lang/invoke/VarHandle" ∧ (parseMethodDescriptor m_X11_choosePair.1.desc).map (fun d => d.parameters.length) = some 1 := ⟨by decide +kernel, by decide +kernel, by decide +kernel⟩
set_option maxRecDepth 20000 in
theorem wm_X11_choosePair : Cond.instanceMethod m_X11_choosePair.1 ∈ tb := tb5 83 rfl rfl
theorem ws_X11_choosePair : Cond.selects m_X11_choosePair.1.cls m_X11_choosePair.1 m_X11_choosePair.1 ∈ tb := tb_sel (q := (m_X11_choosePair.1, 10)) (List.mem_of_getElem? (i := 48) (by decide +kernel)) rfl
set_option maxRecDepth 20000 in
theorem wi_X11_emptyShelves : Cond.initialized m_X11_emptyShelves.1.cls ∈ tb := tb1 1 rfl rfl
set_option maxRecDepth 20000 in
theorem wc_X11_emptyShelves : Cond.code m_X11_emptyShelves.1 m_X11_emptyShelves.2.1 m_X11_emptyShelves.2.2.1 m_X11_emptyShelves.2.2.2 ∈ tb := tb4 95 rfl rfl
theorem wn_X11_emptyShelves : m_X11_emptyShelves.1.cls ≠ "java/lang/invoke/MethodHandle" ∧ m_X11_emptyShelves.1.cls ≠ "java/lang/invoke/VarHandle" ∧ (parseMethodDescriptor m_X11_emptyShelves.1.desc).map (fun d => d.parameters.length) = some 0 := ⟨by decide +kernel, by decide +kernel, by decide +kernel⟩
set_option maxRecDepth 20000 in
theorem wm_X11_emptyShelves : Cond.instanceMethod m_X11_emptyShelves.1 ∈ tb := tb4 94 rfl rfl
theorem ws_X11_emptyShelves : Cond.selects m_X11_emptyShelves.1.cls m_X11_emptyShelves.1 m_X11_emptyShelves.1 ∈ tb := tb_sel (q := (m_X11_emptyShelves.1, 10)) (List.mem_of_getElem? (i := 34) (by decide +kernel)) rfl
set_option maxRecDepth 20000 in
theorem wi_X11_endCode : Cond.initialized m_X11_endCode.1.cls ∈ tb := tb1 1 rfl rfl
set_option maxRecDepth 20000 in
theorem wc_X11_endCode : Cond.code m_X11_endCode.1 m_X11_endCode.2.1 m_X11_endCode.2.2.1 m_X11_endCode.2.2.2 ∈ tb := tb3 228 rfl rfl
theorem wn_X11_endCode : m_X11_endCode.1.cls ≠ "java/lang/invoke/MethodHandle" ∧ m_X11_endCode.1.cls ≠ "java/lang/invoke/VarHandle" ∧ (parseMethodDescriptor m_X11_endCode.1.desc).map (fun d => d.parameters.length) = some 1 := ⟨by decide +kernel, by decide +kernel, by decide +kernel⟩
set_option maxRecDepth 20000 in
theorem wm_X11_endCode : Cond.static m_X11_endCode.1 ∈ tb := tb3 227 rfl rfl
set_option maxRecDepth 20000 in
theorem wi_X11_endOf : Cond.initialized m_X11_endOf.1.cls ∈ tb := tb1 1 rfl rfl
set_option maxRecDepth 20000 in
theorem wc_X11_endOf : Cond.code m_X11_endOf.1 m_X11_endOf.2.1 m_X11_endOf.2.2.1 m_X11_endOf.2.2.2 ∈ tb := tb4 1 rfl rfl
theorem wn_X11_endOf : m_X11_endOf.1.cls ≠ "java/lang/invoke/MethodHandle" ∧ m_X11_endOf.1.cls ≠ "java/lang/invoke/VarHandle" ∧ (parseMethodDescriptor m_X11_endOf.1.desc).map (fun d => d.parameters.length) = some 1 := ⟨by decide +kernel, by decide +kernel, by decide +kernel⟩
set_option maxRecDepth 20000 in
theorem wm_X11_endOf : Cond.static m_X11_endOf.1 ∈ tb := tb4 0 rfl rfl
set_option maxRecDepth 20000 in
theorem wi_X11_isInside : Cond.initialized m_X11_isInside.1.cls ∈ tb := tb1 1 rfl rfl
set_option maxRecDepth 20000 in
theorem wc_X11_isInside : Cond.code m_X11_isInside.1 m_X11_isInside.2.1 m_X11_isInside.2.2.1 m_X11_isInside.2.2.2 ∈ tb := tb2 189 rfl rfl
theorem wn_X11_isInside : m_X11_isInside.1.cls ≠ "java/lang/invoke/MethodHandle" ∧ m_X11_isInside.1.cls ≠ "java/lang/invoke/VarHandle" ∧ (parseMethodDescriptor m_X11_isInside.1.desc).map (fun d => d.parameters.length) = some 2 := ⟨by decide +kernel, by decide +kernel, by decide +kernel⟩
set_option maxRecDepth 20000 in
theorem wm_X11_isInside : Cond.static m_X11_isInside.1 ∈ tb := tb2 188 rfl rfl
set_option maxRecDepth 20000 in
theorem wi_X11_portCode : Cond.initialized m_X11_portCode.1.cls ∈ tb := tb1 1 rfl rfl
set_option maxRecDepth 20000 in
theorem wc_X11_portCode : Cond.code m_X11_portCode.1 m_X11_portCode.2.1 m_X11_portCode.2.2.1 m_X11_portCode.2.2.2 ∈ tb := tb3 189 rfl rfl
theorem wn_X11_portCode : m_X11_portCode.1.cls ≠ "java/lang/invoke/MethodHandle" ∧ m_X11_portCode.1.cls ≠ "java/lang/invoke/VarHandle" ∧ (parseMethodDescriptor m_X11_portCode.1.desc).map (fun d => d.parameters.length) = some 2 := ⟨by decide +kernel, by decide +kernel, by decide +kernel⟩
set_option maxRecDepth 20000 in
theorem wm_X11_portCode : Cond.static m_X11_portCode.1 ∈ tb := tb3 188 rfl rfl
set_option maxRecDepth 20000 in
theorem wi_X11_portOf : Cond.initialized m_X11_portOf.1.cls ∈ tb := tb1 1 rfl rfl
set_option maxRecDepth 20000 in
theorem wc_X11_portOf : Cond.code m_X11_portOf.1 m_X11_portOf.2.1 m_X11_portOf.2.2.1 m_X11_portOf.2.2.2 ∈ tb := tb3 238 rfl rfl
theorem wn_X11_portOf : m_X11_portOf.1.cls ≠ "java/lang/invoke/MethodHandle" ∧ m_X11_portOf.1.cls ≠ "java/lang/invoke/VarHandle" ∧ (parseMethodDescriptor m_X11_portOf.1.desc).map (fun d => d.parameters.length) = some 1 := ⟨by decide +kernel, by decide +kernel, by decide +kernel⟩
set_option maxRecDepth 20000 in
theorem wm_X11_portOf : Cond.static m_X11_portOf.1 ∈ tb := tb3 237 rfl rfl
set_option maxRecDepth 20000 in
theorem wi_X11_runRounds : Cond.initialized m_X11_runRounds.1.cls ∈ tb := tb1 1 rfl rfl
set_option maxRecDepth 20000 in
theorem wc_X11_runRounds : Cond.code m_X11_runRounds.1 m_X11_runRounds.2.1 m_X11_runRounds.2.2.1 m_X11_runRounds.2.2.2 ∈ tb := tb5 72 rfl rfl
theorem wn_X11_runRounds : m_X11_runRounds.1.cls ≠ "java/lang/invoke/MethodHandle" ∧ m_X11_runRounds.1.cls ≠ "java/lang/invoke/VarHandle" ∧ (parseMethodDescriptor m_X11_runRounds.1.desc).map (fun d => d.parameters.length) = some 1 := ⟨by decide +kernel, by decide +kernel, by decide +kernel⟩
set_option maxRecDepth 20000 in
theorem wm_X11_runRounds : Cond.instanceMethod m_X11_runRounds.1 ∈ tb := tb5 71 rfl rfl
theorem ws_X11_runRounds : Cond.selects m_X11_runRounds.1.cls m_X11_runRounds.1 m_X11_runRounds.1 ∈ tb := tb_sel (q := (m_X11_runRounds.1, 10)) (List.mem_of_getElem? (i := 46) (by decide +kernel)) rfl
set_option maxRecDepth 20000 in
theorem wi_X11_runSingly : Cond.initialized m_X11_runSingly.1.cls ∈ tb := tb1 1 rfl rfl
set_option maxRecDepth 20000 in
theorem wc_X11_runSingly : Cond.code m_X11_runSingly.1 m_X11_runSingly.2.1 m_X11_runSingly.2.2.1 m_X11_runSingly.2.2.2 ∈ tb := tb5 80 rfl rfl
theorem wn_X11_runSingly : m_X11_runSingly.1.cls ≠ "java/lang/invoke/MethodHandle" ∧ m_X11_runSingly.1.cls ≠ "java/lang/invoke/VarHandle" ∧ (parseMethodDescriptor m_X11_runSingly.1.desc).map (fun d => d.parameters.length) = some 2 := ⟨by decide +kernel, by decide +kernel, by decide +kernel⟩
set_option maxRecDepth 20000 in
theorem wm_X11_runSingly : Cond.instanceMethod m_X11_runSingly.1 ∈ tb := tb5 79 rfl rfl
theorem ws_X11_runSingly : Cond.selects m_X11_runSingly.1.cls m_X11_runSingly.1 m_X11_runSingly.1 ∈ tb := tb_sel (q := (m_X11_runSingly.1, 10)) (List.mem_of_getElem? (i := 47) (by decide +kernel)) rfl
set_option maxRecDepth 20000 in
theorem wi_X11_shelfAt : Cond.initialized m_X11_shelfAt.1.cls ∈ tb := tb1 1 rfl rfl
set_option maxRecDepth 20000 in
theorem wc_X11_shelfAt : Cond.code m_X11_shelfAt.1 m_X11_shelfAt.2.1 m_X11_shelfAt.2.2.1 m_X11_shelfAt.2.2.2 ∈ tb := tb4 99 rfl rfl
theorem wn_X11_shelfAt : m_X11_shelfAt.1.cls ≠ "java/lang/invoke/MethodHandle" ∧ m_X11_shelfAt.1.cls ≠ "java/lang/invoke/VarHandle" ∧ (parseMethodDescriptor m_X11_shelfAt.1.desc).map (fun d => d.parameters.length) = some 1 := ⟨by decide +kernel, by decide +kernel, by decide +kernel⟩
set_option maxRecDepth 20000 in
theorem wm_X11_shelfAt : Cond.instanceMethod m_X11_shelfAt.1 ∈ tb := tb4 98 rfl rfl
theorem ws_X11_shelfAt : Cond.selects m_X11_shelfAt.1.cls m_X11_shelfAt.1 m_X11_shelfAt.1 ∈ tb := tb_sel (q := (m_X11_shelfAt.1, 10)) (List.mem_of_getElem? (i := 35) (by decide +kernel)) rfl
set_option maxRecDepth 20000 in
theorem wi_X11_takeStep : Cond.initialized m_X11_takeStep.1.cls ∈ tb := tb1 1 rfl rfl
set_option maxRecDepth 20000 in
theorem wc_X11_takeStep : Cond.code m_X11_takeStep.1 m_X11_takeStep.2.1 m_X11_takeStep.2.2.1 m_X11_takeStep.2.2.2 ∈ tb := tb4 207 rfl rfl
theorem wn_X11_takeStep : m_X11_takeStep.1.cls ≠ "java/lang/invoke/MethodHandle" ∧ m_X11_takeStep.1.cls ≠ "java/lang/invoke/VarHandle" ∧ (parseMethodDescriptor m_X11_takeStep.1.desc).map (fun d => d.parameters.length) = some 1 := ⟨by decide +kernel, by decide +kernel, by decide +kernel⟩
set_option maxRecDepth 20000 in
theorem wm_X11_takeStep : Cond.instanceMethod m_X11_takeStep.1 ∈ tb := tb4 206 rfl rfl
theorem ws_X11_takeStep : Cond.selects m_X11_takeStep.1.cls m_X11_takeStep.1 m_X11_takeStep.1 ∈ tb := tb_sel (q := (m_X11_takeStep.1, 10)) (List.mem_of_getElem? (i := 36) (by decide +kernel)) rfl
set_option maxRecDepth 20000 in
theorem wi_X12_agentMany : Cond.initialized m_X12_agentMany.1.cls ∈ tb := tb1 14 rfl rfl
set_option maxRecDepth 20000 in
theorem wc_X12_agentMany : Cond.code m_X12_agentMany.1 m_X12_agentMany.2.1 m_X12_agentMany.2.2.1 m_X12_agentMany.2.2.2 ∈ tb := tb7 137 rfl rfl
theorem wn_X12_agentMany : m_X12_agentMany.1.cls ≠ "java/lang/invoke/MethodHandle" ∧ m_X12_agentMany.1.cls ≠ "java/lang/invoke/VarHandle" ∧ (parseMethodDescriptor m_X12_agentMany.1.desc).map (fun d => d.parameters.length) = some 0 := ⟨by decide +kernel, by decide +kernel, by decide +kernel⟩
set_option maxRecDepth 20000 in
theorem wm_X12_agentMany : Cond.instanceMethod m_X12_agentMany.1 ∈ tb := tb7 136 rfl rfl
theorem ws_X12_agentMany : Cond.selects m_X12_agentMany.1.cls m_X12_agentMany.1 m_X12_agentMany.1 ∈ tb := tb_sel (q := (m_X12_agentMany.1, 83)) (List.mem_of_getElem? (i := 86) (by decide +kernel)) rfl
set_option maxRecDepth 20000 in
theorem wi_X12_agentOf : Cond.initialized m_X12_agentOf.1.cls ∈ tb := tb1 14 rfl rfl
set_option maxRecDepth 20000 in
theorem wc_X12_agentOf : Cond.code m_X12_agentOf.1 m_X12_agentOf.2.1 m_X12_agentOf.2.2.1 m_X12_agentOf.2.2.2 ∈ tb := tb8 38 rfl rfl
theorem wn_X12_agentOf : m_X12_agentOf.1.cls ≠ "java/lang/invoke/MethodHandle" ∧ m_X12_agentOf.1.cls ≠ "java/lang/invoke/VarHandle" ∧ (parseMethodDescriptor m_X12_agentOf.1.desc).map (fun d => d.parameters.length) = some 3 := ⟨by decide +kernel, by decide +kernel, by decide +kernel⟩
set_option maxRecDepth 20000 in
theorem wm_X12_agentOf : Cond.instanceMethod m_X12_agentOf.1 ∈ tb := tb8 37 rfl rfl
theorem ws_X12_agentOf : Cond.selects m_X12_agentOf.1.cls m_X12_agentOf.1 m_X12_agentOf.1 ∈ tb := tb_sel (q := (m_X12_agentOf.1, 83)) (List.mem_of_getElem? (i := 105) (by decide +kernel)) rfl
set_option maxRecDepth 20000 in
theorem wi_X12_asReached : Cond.initialized m_X12_asReached.1.cls ∈ tb := tb1 14 rfl rfl
set_option maxRecDepth 20000 in
theorem wc_X12_asReached : Cond.code m_X12_asReached.1 m_X12_asReached.2.1 m_X12_asReached.2.2.1 m_X12_asReached.2.2.2 ∈ tb := tb8 50 rfl rfl
theorem wn_X12_asReached : m_X12_asReached.1.cls ≠ "java/lang/invoke/MethodHandle" ∧ m_X12_asReached.1.cls ≠ "java/lang/invoke/VarHandle" ∧ (parseMethodDescriptor m_X12_asReached.1.desc).map (fun d => d.parameters.length) = some 2 := ⟨by decide +kernel, by decide +kernel, by decide +kernel⟩
set_option maxRecDepth 20000 in
theorem wm_X12_asReached : Cond.instanceMethod m_X12_asReached.1 ∈ tb := tb8 49 rfl rfl
theorem ws_X12_asReached : Cond.selects m_X12_asReached.1.cls m_X12_asReached.1 m_X12_asReached.1 ∈ tb := tb_sel (q := (m_X12_asReached.1, 83)) (List.mem_of_getElem? (i := 108) (by decide +kernel)) rfl
set_option maxRecDepth 20000 in
theorem wi_X12_asTold : Cond.initialized m_X12_asTold.1.cls ∈ tb := tb1 14 rfl rfl
set_option maxRecDepth 20000 in
theorem wc_X12_asTold : Cond.code m_X12_asTold.1 m_X12_asTold.2.1 m_X12_asTold.2.2.1 m_X12_asTold.2.2.2 ∈ tb := tb7 186 rfl rfl
theorem wn_X12_asTold : m_X12_asTold.1.cls ≠ "java/lang/invoke/MethodHandle" ∧ m_X12_asTold.1.cls ≠ "java/lang/invoke/VarHandle" ∧ (parseMethodDescriptor m_X12_asTold.1.desc).map (fun d => d.parameters.length) = some 1 := ⟨by decide +kernel, by decide +kernel, by decide +kernel⟩
set_option maxRecDepth 20000 in
theorem wm_X12_asTold : Cond.static m_X12_asTold.1 ∈ tb := tb7 185 rfl rfl
set_option maxRecDepth 20000 in
theorem wi_X12_beginSheet : Cond.initialized m_X12_beginSheet.1.cls ∈ tb := tb1 14 rfl rfl
set_option maxRecDepth 20000 in
theorem wc_X12_beginSheet : Cond.code m_X12_beginSheet.1 m_X12_beginSheet.2.1 m_X12_beginSheet.2.2.1 m_X12_beginSheet.2.2.2 ∈ tb := tb7 65 rfl rfl
theorem wn_X12_beginSheet : m_X12_beginSheet.1.cls ≠ "java/lang/invoke/MethodHandle" ∧ m_X12_beginSheet.1.cls ≠ "java/lang/invoke/VarHandle" ∧ (parseMethodDescriptor m_X12_beginSheet.1.desc).map (fun d => d.parameters.length) = some 1 := ⟨by decide +kernel, by decide +kernel, by decide +kernel⟩
set_option maxRecDepth 20000 in
theorem wm_X12_beginSheet : Cond.instanceMethod m_X12_beginSheet.1 ∈ tb := tb7 64 rfl rfl
theorem ws_X12_beginSheet : Cond.selects m_X12_beginSheet.1.cls m_X12_beginSheet.1 m_X12_beginSheet.1 ∈ tb := tb_sel (q := (m_X12_beginSheet.1, 83)) (List.mem_of_getElem? (i := 71) (by decide +kernel)) rfl
set_option maxRecDepth 20000 in
theorem wi_X12_byteAt : Cond.initialized m_X12_byteAt.1.cls ∈ tb := tb1 14 rfl rfl
set_option maxRecDepth 20000 in
theorem wc_X12_byteAt : Cond.code m_X12_byteAt.1 m_X12_byteAt.2.1 m_X12_byteAt.2.2.1 m_X12_byteAt.2.2.2 ∈ tb := tb7 14 rfl rfl
theorem wn_X12_byteAt : m_X12_byteAt.1.cls ≠ "java/lang/invoke/MethodHandle" ∧ m_X12_byteAt.1.cls ≠ "java/lang/invoke/VarHandle" ∧ (parseMethodDescriptor m_X12_byteAt.1.desc).map (fun d => d.parameters.length) = some 1 := ⟨by decide +kernel, by decide +kernel, by decide +kernel⟩
set_option maxRecDepth 20000 in
theorem wm_X12_byteAt : Cond.instanceMethod m_X12_byteAt.1 ∈ tb := tb7 13 rfl rfl
theorem ws_X12_byteAt : Cond.selects m_X12_byteAt.1.cls m_X12_byteAt.1 m_X12_byteAt.1 ∈ tb := tb_sel (q := (m_X12_byteAt.1, 83)) (List.mem_of_getElem? (i := 61) (by decide +kernel)) rfl
set_option maxRecDepth 20000 in
theorem wi_X12_chosen : Cond.initialized m_X12_chosen.1.cls ∈ tb := tb1 14 rfl rfl
set_option maxRecDepth 20000 in
theorem wc_X12_chosen : Cond.code m_X12_chosen.1 m_X12_chosen.2.1 m_X12_chosen.2.2.1 m_X12_chosen.2.2.2 ∈ tb := tb7 236 rfl rfl
theorem wn_X12_chosen : m_X12_chosen.1.cls ≠ "java/lang/invoke/MethodHandle" ∧ m_X12_chosen.1.cls ≠ "java/lang/invoke/VarHandle" ∧ (parseMethodDescriptor m_X12_chosen.1.desc).map (fun d => d.parameters.length) = some 1 := ⟨by decide +kernel, by decide +kernel, by decide +kernel⟩
set_option maxRecDepth 20000 in
theorem wm_X12_chosen : Cond.instanceMethod m_X12_chosen.1 ∈ tb := tb7 235 rfl rfl
theorem ws_X12_chosen : Cond.selects m_X12_chosen.1.cls m_X12_chosen.1 m_X12_chosen.1 ∈ tb := tb_sel (q := (m_X12_chosen.1, 83)) (List.mem_of_getElem? (i := 101) (by decide +kernel)) rfl
set_option maxRecDepth 20000 in
theorem wi_X12_circles : Cond.initialized m_X12_circles.1.cls ∈ tb := tb1 14 rfl rfl
set_option maxRecDepth 20000 in
theorem wc_X12_circles : Cond.code m_X12_circles.1 m_X12_circles.2.1 m_X12_circles.2.2.1 m_X12_circles.2.2.2 ∈ tb := tb7 157 rfl rfl
theorem wn_X12_circles : m_X12_circles.1.cls ≠ "java/lang/invoke/MethodHandle" ∧ m_X12_circles.1.cls ≠ "java/lang/invoke/VarHandle" ∧ (parseMethodDescriptor m_X12_circles.1.desc).map (fun d => d.parameters.length) = some 0 := ⟨by decide +kernel, by decide +kernel, by decide +kernel⟩
set_option maxRecDepth 20000 in
theorem wm_X12_circles : Cond.instanceMethod m_X12_circles.1 ∈ tb := tb7 156 rfl rfl
theorem ws_X12_circles : Cond.selects m_X12_circles.1.cls m_X12_circles.1 m_X12_circles.1 ∈ tb := tb_sel (q := (m_X12_circles.1, 83)) (List.mem_of_getElem? (i := 91) (by decide +kernel)) rfl
set_option maxRecDepth 20000 in
theorem wi_X12_doStep : Cond.initialized m_X12_doStep.1.cls ∈ tb := tb1 14 rfl rfl
set_option maxRecDepth 20000 in
theorem wc_X12_doStep : Cond.code m_X12_doStep.1 m_X12_doStep.2.1 m_X12_doStep.2.2.1 m_X12_doStep.2.2.2 ∈ tb := tb7 202 rfl rfl
theorem wn_X12_doStep : m_X12_doStep.1.cls ≠ "java/lang/invoke/MethodHandle" ∧ m_X12_doStep.1.cls ≠ "java/lang/invoke/VarHandle" ∧ (parseMethodDescriptor m_X12_doStep.1.desc).map (fun d => d.parameters.length) = some 2 := ⟨by decide +kernel, by decide +kernel, by decide +kernel⟩
set_option maxRecDepth 20000 in
theorem wm_X12_doStep : Cond.instanceMethod m_X12_doStep.1 ∈ tb := tb7 201 rfl rfl
theorem ws_X12_doStep : Cond.selects m_X12_doStep.1.cls m_X12_doStep.1 m_X12_doStep.1 ∈ tb := tb_sel (q := (m_X12_doStep.1, 83)) (List.mem_of_getElem? (i := 94) (by decide +kernel)) rfl
set_option maxRecDepth 20000 in
theorem wi_X12_empty : Cond.initialized m_X12_empty.1.cls ∈ tb := tb1 14 rfl rfl
set_option maxRecDepth 20000 in
theorem wc_X12_empty : Cond.code m_X12_empty.1 m_X12_empty.2.1 m_X12_empty.2.2.1 m_X12_empty.2.2.2 ∈ tb := tb5 217 rfl rfl
theorem wn_X12_empty : m_X12_empty.1.cls ≠ "java/lang/invoke/MethodHandle" ∧ m_X12_empty.1.cls ≠ "java/lang/invoke/VarHandle" ∧ (parseMethodDescriptor m_X12_empty.1.desc).map (fun d => d.parameters.length) = some 0 := ⟨by decide +kernel, by decide +kernel, by decide +kernel⟩
set_option maxRecDepth 20000 in
theorem wm_X12_empty : Cond.instanceMethod m_X12_empty.1 ∈ tb := tb5 216 rfl rfl
theorem ws_X12_empty : Cond.selects m_X12_empty.1.cls m_X12_empty.1 m_X12_empty.1 ∈ tb := tb_sel (q := (m_X12_empty.1, 83)) (List.mem_of_getElem? (i := 58) (by decide +kernel)) rfl
set_option maxRecDepth 20000 in
theorem wi_X12_endTo : Cond.initialized m_X12_endTo.1.cls ∈ tb := tb1 14 rfl rfl
set_option maxRecDepth 20000 in
theorem wc_X12_endTo : Cond.code m_X12_endTo.1 m_X12_endTo.2.1 m_X12_endTo.2.2.1 m_X12_endTo.2.2.2 ∈ tb := tb8 30 rfl rfl
theorem wn_X12_endTo : m_X12_endTo.1.cls ≠ "java/lang/invoke/MethodHandle" ∧ m_X12_endTo.1.cls ≠ "java/lang/invoke/VarHandle" ∧ (parseMethodDescriptor m_X12_endTo.1.desc).map (fun d => d.parameters.length) = some 3 := ⟨by decide +kernel, by decide +kernel, by decide +kernel⟩
set_option maxRecDepth 20000 in
theorem wm_X12_endTo : Cond.instanceMethod m_X12_endTo.1 ∈ tb := tb8 29 rfl rfl
theorem ws_X12_endTo : Cond.selects m_X12_endTo.1.cls m_X12_endTo.1 m_X12_endTo.1 ∈ tb := tb_sel (q := (m_X12_endTo.1, 83)) (List.mem_of_getElem? (i := 103) (by decide +kernel)) rfl
set_option maxRecDepth 20000 in
theorem wi_X12_facing : Cond.initialized m_X12_facing.1.cls ∈ tb := tb1 14 rfl rfl
set_option maxRecDepth 20000 in
theorem wc_X12_facing : Cond.code m_X12_facing.1 m_X12_facing.2.1 m_X12_facing.2.2.1 m_X12_facing.2.2.2 ∈ tb := tb7 149 rfl rfl
theorem wn_X12_facing : m_X12_facing.1.cls ≠ "java/lang/invoke/MethodHandle" ∧ m_X12_facing.1.cls ≠ "java/lang/invoke/VarHandle" ∧ (parseMethodDescriptor m_X12_facing.1.desc).map (fun d => d.parameters.length) = some 1 := ⟨by decide +kernel, by decide +kernel, by decide +kernel⟩
set_option maxRecDepth 20000 in
theorem wm_X12_facing : Cond.instanceMethod m_X12_facing.1 ∈ tb := tb7 148 rfl rfl
theorem ws_X12_facing : Cond.selects m_X12_facing.1.cls m_X12_facing.1 m_X12_facing.1 ∈ tb := tb_sel (q := (m_X12_facing.1, 83)) (List.mem_of_getElem? (i := 89) (by decide +kernel)) rfl
set_option maxRecDepth 20000 in
theorem wi_X12_fail : Cond.initialized m_X12_fail.1.cls ∈ tb := tb1 14 rfl rfl
set_option maxRecDepth 20000 in
theorem wc_X12_fail : Cond.code m_X12_fail.1 m_X12_fail.2.1 m_X12_fail.2.2.1 m_X12_fail.2.2.2 ∈ tb := tb7 40 rfl rfl
theorem wn_X12_fail : m_X12_fail.1.cls ≠ "java/lang/invoke/MethodHandle" ∧ m_X12_fail.1.cls ≠ "java/lang/invoke/VarHandle" ∧ (parseMethodDescriptor m_X12_fail.1.desc).map (fun d => d.parameters.length) = some 2 := ⟨by decide +kernel, by decide +kernel, by decide +kernel⟩
set_option maxRecDepth 20000 in
theorem wm_X12_fail : Cond.instanceMethod m_X12_fail.1 ∈ tb := tb7 39 rfl rfl
theorem ws_X12_fail : Cond.selects m_X12_fail.1.cls m_X12_fail.1 m_X12_fail.1 ∈ tb := tb_sel (q := (m_X12_fail.1, 83)) (List.mem_of_getElem? (i := 65) (by decide +kernel)) rfl
set_option maxRecDepth 20000 in
theorem wi_X12_findOuter : Cond.initialized m_X12_findOuter.1.cls ∈ tb := tb1 14 rfl rfl
set_option maxRecDepth 20000 in
theorem wc_X12_findOuter : Cond.code m_X12_findOuter.1 m_X12_findOuter.2.1 m_X12_findOuter.2.2.1 m_X12_findOuter.2.2.2 ∈ tb := tb7 206 rfl rfl
theorem wn_X12_findOuter : m_X12_findOuter.1.cls ≠ "java/lang/invoke/MethodHandle" ∧ m_X12_findOuter.1.cls ≠ "java/lang/invoke/VarHandle" ∧ (parseMethodDescriptor m_X12_findOuter.1.desc).map (fun d => d.parameters.length) = some 2 := ⟨by decide +kernel, by decide +kernel, by decide +kernel⟩
set_option maxRecDepth 20000 in
theorem wm_X12_findOuter : Cond.instanceMethod m_X12_findOuter.1 ∈ tb := tb7 205 rfl rfl
theorem ws_X12_findOuter : Cond.selects m_X12_findOuter.1.cls m_X12_findOuter.1 m_X12_findOuter.1 ∈ tb := tb_sel (q := (m_X12_findOuter.1, 83)) (List.mem_of_getElem? (i := 95) (by decide +kernel)) rfl
set_option maxRecDepth 20000 in
theorem wi_X12_fitAll : Cond.initialized m_X12_fitAll.1.cls ∈ tb := tb1 14 rfl rfl
set_option maxRecDepth 20000 in
theorem wc_X12_fitAll : Cond.code m_X12_fitAll.1 m_X12_fitAll.2.1 m_X12_fitAll.2.2.1 m_X12_fitAll.2.2.2 ∈ tb := tb7 89 rfl rfl
theorem wn_X12_fitAll : m_X12_fitAll.1.cls ≠ "java/lang/invoke/MethodHandle" ∧ m_X12_fitAll.1.cls ≠ "java/lang/invoke/VarHandle" ∧ (parseMethodDescriptor m_X12_fitAll.1.desc).map (fun d => d.parameters.length) = some 0 := ⟨by decide +kernel, by decide +kernel, by decide +kernel⟩
set_option maxRecDepth 20000 in
theorem wm_X12_fitAll : Cond.instanceMethod m_X12_fitAll.1 ∈ tb := tb7 88 rfl rfl
theorem ws_X12_fitAll : Cond.selects m_X12_fitAll.1.cls m_X12_fitAll.1 m_X12_fitAll.1 ∈ tb := tb_sel (q := (m_X12_fitAll.1, 83)) (List.mem_of_getElem? (i := 77) (by decide +kernel)) rfl
set_option maxRecDepth 20000 in
theorem wi_X12_fitSides : Cond.initialized m_X12_fitSides.1.cls ∈ tb := tb1 14 rfl rfl
set_option maxRecDepth 20000 in
theorem wc_X12_fitSides : Cond.code m_X12_fitSides.1 m_X12_fitSides.2.1 m_X12_fitSides.2.2.1 m_X12_fitSides.2.2.2 ∈ tb := tb7 109 rfl rfl
theorem wn_X12_fitSides : m_X12_fitSides.1.cls ≠ "java/lang/invoke/MethodHandle" ∧ m_X12_fitSides.1.cls ≠ "java/lang/invoke/VarHandle" ∧ (parseMethodDescriptor m_X12_fitSides.1.desc).map (fun d => d.parameters.length) = some 0 := ⟨by decide +kernel, by decide +kernel, by decide +kernel⟩
set_option maxRecDepth 20000 in
theorem wm_X12_fitSides : Cond.instanceMethod m_X12_fitSides.1 ∈ tb := tb7 108 rfl rfl
theorem ws_X12_fitSides : Cond.selects m_X12_fitSides.1.cls m_X12_fitSides.1 m_X12_fitSides.1 ∈ tb := tb_sel (q := (m_X12_fitSides.1, 83)) (List.mem_of_getElem? (i := 82) (by decide +kernel)) rfl
set_option maxRecDepth 20000 in
theorem wi_X12_fits : Cond.initialized m_X12_fits.1.cls ∈ tb := tb1 14 rfl rfl
set_option maxRecDepth 20000 in
theorem wc_X12_fits : Cond.code m_X12_fits.1 m_X12_fits.2.1 m_X12_fits.2.2.1 m_X12_fits.2.2.2 ∈ tb := tb7 93 rfl rfl
theorem wn_X12_fits : m_X12_fits.1.cls ≠ "java/lang/invoke/MethodHandle" ∧ m_X12_fits.1.cls ≠ "java/lang/invoke/VarHandle" ∧ (parseMethodDescriptor m_X12_fits.1.desc).map (fun d => d.parameters.length) = some 1 := ⟨by decide +kernel, by decide +kernel, by decide +kernel⟩
set_option maxRecDepth 20000 in
theorem wm_X12_fits : Cond.instanceMethod m_X12_fits.1 ∈ tb := tb7 92 rfl rfl
theorem ws_X12_fits : Cond.selects m_X12_fits.1.cls m_X12_fits.1 m_X12_fits.1 ∈ tb := tb_sel (q := (m_X12_fits.1, 83)) (List.mem_of_getElem? (i := 78) (by decide +kernel)) rfl
set_option maxRecDepth 20000 in
theorem wi_X12_follow : Cond.initialized m_X12_follow.1.cls ∈ tb := tb1 14 rfl rfl
set_option maxRecDepth 20000 in
theorem wc_X12_follow : Cond.code m_X12_follow.1 m_X12_follow.2.1 m_X12_follow.2.2.1 m_X12_follow.2.2.2 ∈ tb := tb7 97 rfl rfl
theorem wn_X12_follow : m_X12_follow.1.cls ≠ "java/lang/invoke/MethodHandle" ∧ m_X12_follow.1.cls ≠ "java/lang/invoke/VarHandle" ∧ (parseMethodDescriptor m_X12_follow.1.desc).map (fun d => d.parameters.length) = some 1 := ⟨by decide +kernel, by decide +kernel, by decide +kernel⟩
set_option maxRecDepth 20000 in
theorem wm_X12_follow : Cond.instanceMethod m_X12_follow.1 ∈ tb := tb7 96 rfl rfl
theorem ws_X12_follow : Cond.selects m_X12_follow.1.cls m_X12_follow.1 m_X12_follow.1 ∈ tb := tb_sel (q := (m_X12_follow.1, 83)) (List.mem_of_getElem? (i := 79) (by decide +kernel)) rfl
set_option maxRecDepth 20000 in
theorem wi_X12_fresh : Cond.initialized m_X12_fresh.1.cls ∈ tb := tb1 14 rfl rfl
set_option maxRecDepth 20000 in
theorem wc_X12_fresh : Cond.code m_X12_fresh.1 m_X12_fresh.2.1 m_X12_fresh.2.2.1 m_X12_fresh.2.2.2 ∈ tb := tb7 210 rfl rfl
theorem wn_X12_fresh : m_X12_fresh.1.cls ≠ "java/lang/invoke/MethodHandle" ∧ m_X12_fresh.1.cls ≠ "java/lang/invoke/VarHandle" ∧ (parseMethodDescriptor m_X12_fresh.1.desc).map (fun d => d.parameters.length) = some 1 := ⟨by decide +kernel, by decide +kernel, by decide +kernel⟩
set_option maxRecDepth 20000 in
theorem wm_X12_fresh : Cond.instanceMethod m_X12_fresh.1 ∈ tb := tb7 209 rfl rfl
theorem ws_X12_fresh : Cond.selects m_X12_fresh.1.cls m_X12_fresh.1 m_X12_fresh.1 ∈ tb := tb_sel (q := (m_X12_fresh.1, 83)) (List.mem_of_getElem? (i := 96) (by decide +kernel)) rfl
set_option maxRecDepth 20000 in
theorem wi_X12_goRound : Cond.initialized m_X12_goRound.1.cls ∈ tb := tb1 14 rfl rfl
set_option maxRecDepth 20000 in
theorem wc_X12_goRound : Cond.code m_X12_goRound.1 m_X12_goRound.2.1 m_X12_goRound.2.2.1 m_X12_goRound.2.2.2 ∈ tb := tb7 222 rfl rfl
theorem wn_X12_goRound : m_X12_goRound.1.cls ≠ "java/lang/invoke/MethodHandle" ∧ m_X12_goRound.1.cls ≠ "java/lang/invoke/VarHandle" ∧ (parseMethodDescriptor m_X12_goRound.1.desc).map (fun d => d.parameters.length) = some 2 := ⟨by decide +kernel, by decide +kernel, by decide +kernel⟩
set_option maxRecDepth 20000 in
theorem wm_X12_goRound : Cond.instanceMethod m_X12_goRound.1 ∈ tb := tb7 221 rfl rfl
theorem ws_X12_goRound : Cond.selects m_X12_goRound.1.cls m_X12_goRound.1 m_X12_goRound.1 ∈ tb := tb_sel (q := (m_X12_goRound.1, 83)) (List.mem_of_getElem? (i := 99) (by decide +kernel)) rfl
set_option maxRecDepth 20000 in
theorem wi_X12_in : Cond.initialized m_X12_in.1.cls ∈ tb := tb1 14 rfl rfl
set_option maxRecDepth 20000 in
theorem wc_X12_in : Cond.code m_X12_in.1 m_X12_in.2.1 m_X12_in.2.2.1 m_X12_in.2.2.2 ∈ tb := tb6 238 rfl rfl
theorem wn_X12_in : m_X12_in.1.cls ≠ "java/lang/invoke/MethodHandle" ∧ m_X12_in.1.cls ≠ "java/lang/invoke/VarHandle" ∧ (parseMethodDescriptor m_X12_in.1.desc).map (fun d => d.parameters.length) = some 3 := ⟨by decide +kernel, by decide +kernel, by decide +kernel⟩
set_option maxRecDepth 20000 in
theorem wm_X12_in : Cond.static m_X12_in.1 ∈ tb := tb6 237 rfl rfl
set_option maxRecDepth 20000 in
theorem wi_X12_isAgent : Cond.initialized m_X12_isAgent.1.cls ∈ tb := tb1 14 rfl rfl
set_option maxRecDepth 20000 in
theorem wc_X12_isAgent : Cond.code m_X12_isAgent.1 m_X12_isAgent.2.1 m_X12_isAgent.2.2.1 m_X12_isAgent.2.2.2 ∈ tb := tb7 178 rfl rfl
theorem wn_X12_isAgent : m_X12_isAgent.1.cls ≠ "java/lang/invoke/MethodHandle" ∧ m_X12_isAgent.1.cls ≠ "java/lang/invoke/VarHandle" ∧ (parseMethodDescriptor m_X12_isAgent.1.desc).map (fun d => d.parameters.length) = some 1 := ⟨by decide +kernel, by decide +kernel, by decide +kernel⟩
set_option maxRecDepth 20000 in
theorem wm_X12_isAgent : Cond.instanceMethod m_X12_isAgent.1 ∈ tb := tb7 177 rfl rfl
theorem ws_X12_isAgent : Cond.selects m_X12_isAgent.1.cls m_X12_isAgent.1 m_X12_isAgent.1 ∈ tb := tb_sel (q := (m_X12_isAgent.1, 83)) (List.mem_of_getElem? (i := 93) (by decide +kernel)) rfl
set_option maxRecDepth 20000 in
theorem wi_X12_isFigure : Cond.initialized m_X12_isFigure.1.cls ∈ tb := tb1 14 rfl rfl
set_option maxRecDepth 20000 in
theorem wc_X12_isFigure : Cond.code m_X12_isFigure.1 m_X12_isFigure.2.1 m_X12_isFigure.2.2.1 m_X12_isFigure.2.2.2 ∈ tb := tb7 23 rfl rfl
theorem wn_X12_isFigure : m_X12_isFigure.1.cls ≠ "java/lang/invoke/MethodHandle" ∧ m_X12_isFigure.1.cls ≠ "java/lang/invoke/VarHandle" ∧ (parseMethodDescriptor m_X12_isFigure.1.desc).map (fun d => d.parameters.length) = some 1 := ⟨by decide +kernel, by decide +kernel, by decide +kernel⟩
set_option maxRecDepth 20000 in
theorem wm_X12_isFigure : Cond.static m_X12_isFigure.1 ∈ tb := tb7 22 rfl rfl
set_option maxRecDepth 20000 in
theorem wi_X12_isGreat : Cond.initialized m_X12_isGreat.1.cls ∈ tb := tb1 14 rfl rfl
set_option maxRecDepth 20000 in
theorem wc_X12_isGreat : Cond.code m_X12_isGreat.1 m_X12_isGreat.2.1 m_X12_isGreat.2.2.1 m_X12_isGreat.2.2.2 ∈ tb := tb7 20 rfl rfl
theorem wn_X12_isGreat : m_X12_isGreat.1.cls ≠ "java/lang/invoke/MethodHandle" ∧ m_X12_isGreat.1.cls ≠ "java/lang/invoke/VarHandle" ∧ (parseMethodDescriptor m_X12_isGreat.1.desc).map (fun d => d.parameters.length) = some 1 := ⟨by decide +kernel, by decide +kernel, by decide +kernel⟩
set_option maxRecDepth 20000 in
theorem wm_X12_isGreat : Cond.static m_X12_isGreat.1 ∈ tb := tb7 19 rfl rfl
set_option maxRecDepth 20000 in
theorem wi_X12_isPair : Cond.initialized m_X12_isPair.1.cls ∈ tb := tb1 14 rfl rfl
set_option maxRecDepth 20000 in
theorem wc_X12_isPair : Cond.code m_X12_isPair.1 m_X12_isPair.2.1 m_X12_isPair.2.2.1 m_X12_isPair.2.2.2 ∈ tb := tb7 145 rfl rfl
theorem wn_X12_isPair : m_X12_isPair.1.cls ≠ "java/lang/invoke/MethodHandle" ∧ m_X12_isPair.1.cls ≠ "java/lang/invoke/VarHandle" ∧ (parseMethodDescriptor m_X12_isPair.1.desc).map (fun d => d.parameters.length) = some 2 := ⟨by decide +kernel, by decide +kernel, by decide +kernel⟩
set_option maxRecDepth 20000 in
theorem wm_X12_isPair : Cond.instanceMethod m_X12_isPair.1 ∈ tb := tb7 144 rfl rfl
theorem ws_X12_isPair : Cond.selects m_X12_isPair.1.cls m_X12_isPair.1 m_X12_isPair.1 ∈ tb := tb_sel (q := (m_X12_isPair.1, 83)) (List.mem_of_getElem? (i := 88) (by decide +kernel)) rfl
set_option maxRecDepth 20000 in
theorem wi_X12_isShelf : Cond.initialized m_X12_isShelf.1.cls ∈ tb := tb1 14 rfl rfl
set_option maxRecDepth 20000 in
theorem wc_X12_isShelf : Cond.code m_X12_isShelf.1 m_X12_isShelf.2.1 m_X12_isShelf.2.2.1 m_X12_isShelf.2.2.2 ∈ tb := tb8 14 rfl rfl
theorem wn_X12_isShelf : m_X12_isShelf.1.cls ≠ "java/lang/invoke/MethodHandle" ∧ m_X12_isShelf.1.cls ≠ "java/lang/invoke/VarHandle" ∧ (parseMethodDescriptor m_X12_isShelf.1.desc).map (fun d => d.parameters.length) = some 1 := ⟨by decide +kernel, by decide +kernel, by decide +kernel⟩
set_option maxRecDepth 20000 in
theorem wm_X12_isShelf : Cond.static m_X12_isShelf.1 ∈ tb := tb8 13 rfl rfl
set_option maxRecDepth 20000 in
theorem wi_X12_isSign : Cond.initialized m_X12_isSign.1.cls ∈ tb := tb1 14 rfl rfl
set_option maxRecDepth 20000 in
theorem wc_X12_isSign : Cond.code m_X12_isSign.1 m_X12_isSign.2.1 m_X12_isSign.2.2.1 m_X12_isSign.2.2.2 ∈ tb := tb7 52 rfl rfl
theorem wn_X12_isSign : m_X12_isSign.1.cls ≠ "java/lang/invoke/MethodHandle" ∧ m_X12_isSign.1.cls ≠ "java/lang/invoke/VarHandle" ∧ (parseMethodDescriptor m_X12_isSign.1.desc).map (fun d => d.parameters.length) = some 1 := ⟨by decide +kernel, by decide +kernel, by decide +kernel⟩
set_option maxRecDepth 20000 in
theorem wm_X12_isSign : Cond.instanceMethod m_X12_isSign.1 ∈ tb := tb7 51 rfl rfl
theorem ws_X12_isSign : Cond.selects m_X12_isSign.1.cls m_X12_isSign.1 m_X12_isSign.1 ∈ tb := tb_sel (q := (m_X12_isSign.1, 83)) (List.mem_of_getElem? (i := 68) (by decide +kernel)) rfl
set_option maxRecDepth 20000 in
theorem wi_X12_isSmall : Cond.initialized m_X12_isSmall.1.cls ∈ tb := tb1 14 rfl rfl
set_option maxRecDepth 20000 in
theorem wc_X12_isSmall : Cond.code m_X12_isSmall.1 m_X12_isSmall.2.1 m_X12_isSmall.2.2.1 m_X12_isSmall.2.2.2 ∈ tb := tb7 17 rfl rfl
theorem wn_X12_isSmall : m_X12_isSmall.1.cls ≠ "java/lang/invoke/MethodHandle" ∧ m_X12_isSmall.1.cls ≠ "java/lang/invoke/VarHandle" ∧ (parseMethodDescriptor m_X12_isSmall.1.desc).map (fun d => d.parameters.length) = some 1 := ⟨by decide +kernel, by decide +kernel, by decide +kernel⟩
set_option maxRecDepth 20000 in
theorem wm_X12_isSmall : Cond.static m_X12_isSmall.1 ∈ tb := tb7 16 rfl rfl
set_option maxRecDepth 20000 in
theorem wi_X12_join : Cond.initialized m_X12_join.1.cls ∈ tb := tb1 14 rfl rfl
set_option maxRecDepth 20000 in
theorem wc_X12_join : Cond.code m_X12_join.1 m_X12_join.2.1 m_X12_join.2.2.1 m_X12_join.2.2.2 ∈ tb := tb7 77 rfl rfl
theorem wn_X12_join : m_X12_join.1.cls ≠ "java/lang/invoke/MethodHandle" ∧ m_X12_join.1.cls ≠ "java/lang/invoke/VarHandle" ∧ (parseMethodDescriptor m_X12_join.1.desc).map (fun d => d.parameters.length) = some 2 := ⟨by decide +kernel, by decide +kernel, by decide +kernel⟩
set_option maxRecDepth 20000 in
theorem wm_X12_join : Cond.instanceMethod m_X12_join.1 ∈ tb := tb7 76 rfl rfl
theorem ws_X12_join : Cond.selects m_X12_join.1.cls m_X12_join.1 m_X12_join.1 ∈ tb := tb_sel (q := (m_X12_join.1, 83)) (List.mem_of_getElem? (i := 74) (by decide +kernel)) rfl
set_option maxRecDepth 20000 in
theorem wi_X12_kindNamed : Cond.initialized m_X12_kindNamed.1.cls ∈ tb := tb1 14 rfl rfl
set_option maxRecDepth 20000 in
theorem wc_X12_kindNamed : Cond.code m_X12_kindNamed.1 m_X12_kindNamed.2.1 m_X12_kindNamed.2.2.1 m_X12_kindNamed.2.2.2 ∈ tb := tb7 44 rfl rfl
theorem wn_X12_kindNamed : m_X12_kindNamed.1.cls ≠ "java/lang/invoke/MethodHandle" ∧ m_X12_kindNamed.1.cls ≠ "java/lang/invoke/VarHandle" ∧ (parseMethodDescriptor m_X12_kindNamed.1.desc).map (fun d => d.parameters.length) = some 1 := ⟨by decide +kernel, by decide +kernel, by decide +kernel⟩
set_option maxRecDepth 20000 in
theorem wm_X12_kindNamed : Cond.instanceMethod m_X12_kindNamed.1 ∈ tb := tb7 43 rfl rfl
theorem ws_X12_kindNamed : Cond.selects m_X12_kindNamed.1.cls m_X12_kindNamed.1 m_X12_kindNamed.1 ∈ tb := tb_sel (q := (m_X12_kindNamed.1, 83)) (List.mem_of_getElem? (i := 66) (by decide +kernel)) rfl
set_option maxRecDepth 20000 in
theorem wi_X12_manyOf : Cond.initialized m_X12_manyOf.1.cls ∈ tb := tb1 14 rfl rfl
set_option maxRecDepth 20000 in
theorem wc_X12_manyOf : Cond.code m_X12_manyOf.1 m_X12_manyOf.2.1 m_X12_manyOf.2.2.1 m_X12_manyOf.2.2.2 ∈ tb := tb8 46 rfl rfl
theorem wn_X12_manyOf : m_X12_manyOf.1.cls ≠ "java/lang/invoke/MethodHandle" ∧ m_X12_manyOf.1.cls ≠ "java/lang/invoke/VarHandle" ∧ (parseMethodDescriptor m_X12_manyOf.1.desc).map (fun d => d.parameters.length) = some 3 := ⟨by decide +kernel, by decide +kernel, by decide +kernel⟩
set_option maxRecDepth 20000 in
theorem wm_X12_manyOf : Cond.instanceMethod m_X12_manyOf.1 ∈ tb := tb8 45 rfl rfl
theorem ws_X12_manyOf : Cond.selects m_X12_manyOf.1.cls m_X12_manyOf.1 m_X12_manyOf.1 ∈ tb := tb_sel (q := (m_X12_manyOf.1, 83)) (List.mem_of_getElem? (i := 107) (by decide +kernel)) rfl
set_option maxRecDepth 20000 in
theorem wi_X12_meet : Cond.initialized m_X12_meet.1.cls ∈ tb := tb1 14 rfl rfl
set_option maxRecDepth 20000 in
theorem wc_X12_meet : Cond.code m_X12_meet.1 m_X12_meet.2.1 m_X12_meet.2.2.1 m_X12_meet.2.2.2 ∈ tb := tb8 34 rfl rfl
theorem wn_X12_meet : m_X12_meet.1.cls ≠ "java/lang/invoke/MethodHandle" ∧ m_X12_meet.1.cls ≠ "java/lang/invoke/VarHandle" ∧ (parseMethodDescriptor m_X12_meet.1.desc).map (fun d => d.parameters.length) = some 2 := ⟨by decide +kernel, by decide +kernel, by decide +kernel⟩
set_option maxRecDepth 20000 in
theorem wm_X12_meet : Cond.instanceMethod m_X12_meet.1 ∈ tb := tb8 33 rfl rfl
theorem ws_X12_meet : Cond.selects m_X12_meet.1.cls m_X12_meet.1 m_X12_meet.1 ∈ tb := tb_sel (q := (m_X12_meet.1, 83)) (List.mem_of_getElem? (i := 104) (by decide +kernel)) rfl
set_option maxRecDepth 20000 in
theorem wi_X12_needs : Cond.initialized m_X12_needs.1.cls ∈ tb := tb1 14 rfl rfl
set_option maxRecDepth 20000 in
theorem wc_X12_needs : Cond.code m_X12_needs.1 m_X12_needs.2.1 m_X12_needs.2.2.1 m_X12_needs.2.2.2 ∈ tb := tb7 56 rfl rfl
theorem wn_X12_needs : m_X12_needs.1.cls ≠ "java/lang/invoke/MethodHandle" ∧ m_X12_needs.1.cls ≠ "java/lang/invoke/VarHandle" ∧ (parseMethodDescriptor m_X12_needs.1.desc).map (fun d => d.parameters.length) = some 1 := ⟨by decide +kernel, by decide +kernel, by decide +kernel⟩
set_option maxRecDepth 20000 in
theorem wm_X12_needs : Cond.instanceMethod m_X12_needs.1 ∈ tb := tb7 55 rfl rfl
theorem ws_X12_needs : Cond.selects m_X12_needs.1.cls m_X12_needs.1 m_X12_needs.1 ∈ tb := tb_sel (q := (m_X12_needs.1, 83)) (List.mem_of_getElem? (i := 69) (by decide +kernel)) rfl
set_option maxRecDepth 20000 in
theorem wi_X12_outward : Cond.initialized m_X12_outward.1.cls ∈ tb := tb1 14 rfl rfl
set_option maxRecDepth 20000 in
theorem wc_X12_outward : Cond.code m_X12_outward.1 m_X12_outward.2.1 m_X12_outward.2.2.1 m_X12_outward.2.2.2 ∈ tb := tb7 214 rfl rfl
theorem wn_X12_outward : m_X12_outward.1.cls ≠ "java/lang/invoke/MethodHandle" ∧ m_X12_outward.1.cls ≠ "java/lang/invoke/VarHandle" ∧ (parseMethodDescriptor m_X12_outward.1.desc).map (fun d => d.parameters.length) = some 2 := ⟨by decide +kernel, by decide +kernel, by decide +kernel⟩
set_option maxRecDepth 20000 in
theorem wm_X12_outward : Cond.instanceMethod m_X12_outward.1 ∈ tb := tb7 213 rfl rfl
theorem ws_X12_outward : Cond.selects m_X12_outward.1.cls m_X12_outward.1 m_X12_outward.1 ∈ tb := tb_sel (q := (m_X12_outward.1, 83)) (List.mem_of_getElem? (i := 97) (by decide +kernel)) rfl
set_option maxRecDepth 20000 in
theorem wi_X12_pair : Cond.initialized m_X12_pair.1.cls ∈ tb := tb1 14 rfl rfl
set_option maxRecDepth 20000 in
theorem wc_X12_pair : Cond.code m_X12_pair.1 m_X12_pair.2.1 m_X12_pair.2.2.1 m_X12_pair.2.2.2 ∈ tb := tb7 194 rfl rfl
theorem wn_X12_pair : m_X12_pair.1.cls ≠ "java/lang/invoke/MethodHandle" ∧ m_X12_pair.1.cls ≠ "java/lang/invoke/VarHandle" ∧ (parseMethodDescriptor m_X12_pair.1.desc).map (fun d => d.parameters.length) = some 1 := ⟨by decide +kernel, by decide +kernel, by decide +kernel⟩
set_option maxRecDepth 20000 in
theorem wm_X12_pair : Cond.instanceMethod m_X12_pair.1 ∈ tb := tb7 192 rfl rfl
set_option maxRecDepth 20000 in
theorem ws_X12_pair : Cond.selects m_X12_pair.1.cls m_X12_pair.1 m_X12_pair.1 ∈ tb := tb7 193 rfl rfl
set_option maxRecDepth 20000 in
theorem wi_X12_pairs : Cond.initialized m_X12_pairs.1.cls ∈ tb := tb1 14 rfl rfl
set_option maxRecDepth 20000 in
theorem wc_X12_pairs : Cond.code m_X12_pairs.1 m_X12_pairs.2.1 m_X12_pairs.2.2.1 m_X12_pairs.2.2.2 ∈ tb := tb7 141 rfl rfl
theorem wn_X12_pairs : m_X12_pairs.1.cls ≠ "java/lang/invoke/MethodHandle" ∧ m_X12_pairs.1.cls ≠ "java/lang/invoke/VarHandle" ∧ (parseMethodDescriptor m_X12_pairs.1.desc).map (fun d => d.parameters.length) = some 1 := ⟨by decide +kernel, by decide +kernel, by decide +kernel⟩
set_option maxRecDepth 20000 in
theorem wm_X12_pairs : Cond.instanceMethod m_X12_pairs.1 ∈ tb := tb7 140 rfl rfl
theorem ws_X12_pairs : Cond.selects m_X12_pairs.1.cls m_X12_pairs.1 m_X12_pairs.1 ∈ tb := tb_sel (q := (m_X12_pairs.1, 83)) (List.mem_of_getElem? (i := 87) (by decide +kernel)) rfl
set_option maxRecDepth 20000 in
theorem wi_X12_plusOf : Cond.initialized m_X12_plusOf.1.cls ∈ tb := tb1 14 rfl rfl
set_option maxRecDepth 20000 in
theorem wc_X12_plusOf : Cond.code m_X12_plusOf.1 m_X12_plusOf.2.1 m_X12_plusOf.2.2.1 m_X12_plusOf.2.2.2 ∈ tb := tb7 105 rfl rfl
theorem wn_X12_plusOf : m_X12_plusOf.1.cls ≠ "java/lang/invoke/MethodHandle" ∧ m_X12_plusOf.1.cls ≠ "java/lang/invoke/VarHandle" ∧ (parseMethodDescriptor m_X12_plusOf.1.desc).map (fun d => d.parameters.length) = some 1 := ⟨by decide +kernel, by decide +kernel, by decide +kernel⟩
set_option maxRecDepth 20000 in
theorem wm_X12_plusOf : Cond.instanceMethod m_X12_plusOf.1 ∈ tb := tb7 104 rfl rfl
theorem ws_X12_plusOf : Cond.selects m_X12_plusOf.1.cls m_X12_plusOf.1 m_X12_plusOf.1 ∈ tb := tb_sel (q := (m_X12_plusOf.1, 83)) (List.mem_of_getElem? (i := 81) (by decide +kernel)) rfl
set_option maxRecDepth 20000 in
theorem wi_X12_put : Cond.initialized m_X12_put.1.cls ∈ tb := tb1 14 rfl rfl
set_option maxRecDepth 20000 in
theorem wc_X12_put : Cond.code m_X12_put.1 m_X12_put.2.1 m_X12_put.2.2.1 m_X12_put.2.2.2 ∈ tb := tb8 62 rfl rfl
theorem wn_X12_put : m_X12_put.1.cls ≠ "java/lang/invoke/MethodHandle" ∧ m_X12_put.1.cls ≠ "java/lang/invoke/VarHandle" ∧ (parseMethodDescriptor m_X12_put.1.desc).map (fun d => d.parameters.length) = some 1 := ⟨by decide +kernel, by decide +kernel, by decide +kernel⟩
set_option maxRecDepth 20000 in
theorem wm_X12_put : Cond.instanceMethod m_X12_put.1 ∈ tb := tb8 61 rfl rfl
theorem ws_X12_put : Cond.selects m_X12_put.1.cls m_X12_put.1 m_X12_put.1 ∈ tb := tb_sel (q := (m_X12_put.1, 83)) (List.mem_of_getElem? (i := 109) (by decide +kernel)) rfl
set_option maxRecDepth 20000 in
theorem wi_X12_putName : Cond.initialized m_X12_putName.1.cls ∈ tb := tb1 14 rfl rfl
set_option maxRecDepth 20000 in
theorem wc_X12_putName : Cond.code m_X12_putName.1 m_X12_putName.2.1 m_X12_putName.2.2.1 m_X12_putName.2.2.2 ∈ tb := tb8 66 rfl rfl
theorem wn_X12_putName : m_X12_putName.1.cls ≠ "java/lang/invoke/MethodHandle" ∧ m_X12_putName.1.cls ≠ "java/lang/invoke/VarHandle" ∧ (parseMethodDescriptor m_X12_putName.1.desc).map (fun d => d.parameters.length) = some 1 := ⟨by decide +kernel, by decide +kernel, by decide +kernel⟩
set_option maxRecDepth 20000 in
theorem wm_X12_putName : Cond.instanceMethod m_X12_putName.1 ∈ tb := tb8 65 rfl rfl
theorem ws_X12_putName : Cond.selects m_X12_putName.1.cls m_X12_putName.1 m_X12_putName.1 ∈ tb := tb_sel (q := (m_X12_putName.1, 83)) (List.mem_of_getElem? (i := 110) (by decide +kernel)) rfl
set_option maxRecDepth 20000 in
theorem wi_X12_reach : Cond.initialized m_X12_reach.1.cls ∈ tb := tb1 14 rfl rfl
set_option maxRecDepth 20000 in
theorem wc_X12_reach : Cond.code m_X12_reach.1 m_X12_reach.2.1 m_X12_reach.2.2.1 m_X12_reach.2.2.2 ∈ tb := tb8 26 rfl rfl
theorem wn_X12_reach : m_X12_reach.1.cls ≠ "java/lang/invoke/MethodHandle" ∧ m_X12_reach.1.cls ≠ "java/lang/invoke/VarHandle" ∧ (parseMethodDescriptor m_X12_reach.1.desc).map (fun d => d.parameters.length) = some 2 := ⟨by decide +kernel, by decide +kernel, by decide +kernel⟩
set_option maxRecDepth 20000 in
theorem wm_X12_reach : Cond.instanceMethod m_X12_reach.1 ∈ tb := tb8 25 rfl rfl
theorem ws_X12_reach : Cond.selects m_X12_reach.1.cls m_X12_reach.1 m_X12_reach.1 ∈ tb := tb_sel (q := (m_X12_reach.1, 83)) (List.mem_of_getElem? (i := 102) (by decide +kernel)) rfl
set_option maxRecDepth 20000 in
theorem wi_X12_readBook : Cond.initialized m_X12_readBook.1.cls ∈ tb := tb1 14 rfl rfl
set_option maxRecDepth 20000 in
theorem wc_X12_readBook : Cond.code m_X12_readBook.1 m_X12_readBook.2.1 m_X12_readBook.2.2.1 m_X12_readBook.2.2.2 ∈ tb := tb7 6 rfl rfl
theorem wn_X12_readBook : m_X12_readBook.1.cls ≠ "java/lang/invoke/MethodHandle" ∧ m_X12_readBook.1.cls ≠ "java/lang/invoke/VarHandle" ∧ (parseMethodDescriptor m_X12_readBook.1.desc).map (fun d => d.parameters.length) = some 0 := ⟨by decide +kernel, by decide +kernel, by decide +kernel⟩
set_option maxRecDepth 20000 in
theorem wm_X12_readBook : Cond.instanceMethod m_X12_readBook.1 ∈ tb := tb7 5 rfl rfl
theorem ws_X12_readBook : Cond.selects m_X12_readBook.1.cls m_X12_readBook.1 m_X12_readBook.1 ∈ tb := tb_sel (q := (m_X12_readBook.1, 83)) (List.mem_of_getElem? (i := 59) (by decide +kernel)) rfl
set_option maxRecDepth 20000 in
theorem wi_X12_readKind : Cond.initialized m_X12_readKind.1.cls ∈ tb := tb1 14 rfl rfl
set_option maxRecDepth 20000 in
theorem wc_X12_readKind : Cond.code m_X12_readKind.1 m_X12_readKind.2.1 m_X12_readKind.2.2.1 m_X12_readKind.2.2.2 ∈ tb := tb7 32 rfl rfl
theorem wn_X12_readKind : m_X12_readKind.1.cls ≠ "java/lang/invoke/MethodHandle" ∧ m_X12_readKind.1.cls ≠ "java/lang/invoke/VarHandle" ∧ (parseMethodDescriptor m_X12_readKind.1.desc).map (fun d => d.parameters.length) = some 0 := ⟨by decide +kernel, by decide +kernel, by decide +kernel⟩
set_option maxRecDepth 20000 in
theorem wm_X12_readKind : Cond.instanceMethod m_X12_readKind.1 ∈ tb := tb7 31 rfl rfl
theorem ws_X12_readKind : Cond.selects m_X12_readKind.1.cls m_X12_readKind.1 m_X12_readKind.1 ∈ tb := tb_sel (q := (m_X12_readKind.1, 83)) (List.mem_of_getElem? (i := 63) (by decide +kernel)) rfl
set_option maxRecDepth 20000 in
theorem wi_X12_readLinks : Cond.initialized m_X12_readLinks.1.cls ∈ tb := tb1 14 rfl rfl
set_option maxRecDepth 20000 in
theorem wc_X12_readLinks : Cond.code m_X12_readLinks.1 m_X12_readLinks.2.1 m_X12_readLinks.2.2.1 m_X12_readLinks.2.2.2 ∈ tb := tb7 81 rfl rfl
theorem wn_X12_readLinks : m_X12_readLinks.1.cls ≠ "java/lang/invoke/MethodHandle" ∧ m_X12_readLinks.1.cls ≠ "java/lang/invoke/VarHandle" ∧ (parseMethodDescriptor m_X12_readLinks.1.desc).map (fun d => d.parameters.length) = some 0 := ⟨by decide +kernel, by decide +kernel, by decide +kernel⟩
set_option maxRecDepth 20000 in
theorem wm_X12_readLinks : Cond.instanceMethod m_X12_readLinks.1 ∈ tb := tb7 80 rfl rfl
theorem ws_X12_readLinks : Cond.selects m_X12_readLinks.1.cls m_X12_readLinks.1 m_X12_readLinks.1 ∈ tb := tb_sel (q := (m_X12_readLinks.1, 83)) (List.mem_of_getElem? (i := 75) (by decide +kernel)) rfl
set_option maxRecDepth 20000 in
theorem wi_X12_readNet : Cond.initialized m_X12_readNet.1.cls ∈ tb := tb1 14 rfl rfl
set_option maxRecDepth 20000 in
theorem wc_X12_readNet : Cond.code m_X12_readNet.1 m_X12_readNet.2.1 m_X12_readNet.2.2.1 m_X12_readNet.2.2.2 ∈ tb := tb7 121 rfl rfl
theorem wn_X12_readNet : m_X12_readNet.1.cls ≠ "java/lang/invoke/MethodHandle" ∧ m_X12_readNet.1.cls ≠ "java/lang/invoke/VarHandle" ∧ (parseMethodDescriptor m_X12_readNet.1.desc).map (fun d => d.parameters.length) = some 0 := ⟨by decide +kernel, by decide +kernel, by decide +kernel⟩
set_option maxRecDepth 20000 in
theorem wm_X12_readNet : Cond.instanceMethod m_X12_readNet.1 ∈ tb := tb7 120 rfl rfl
theorem ws_X12_readNet : Cond.selects m_X12_readNet.1.cls m_X12_readNet.1 m_X12_readNet.1 ∈ tb := tb_sel (q := (m_X12_readNet.1, 83)) (List.mem_of_getElem? (i := 84) (by decide +kernel)) rfl
set_option maxRecDepth 20000 in
theorem wi_X12_readPort : Cond.initialized m_X12_readPort.1.cls ∈ tb := tb1 14 rfl rfl
set_option maxRecDepth 20000 in
theorem wc_X12_readPort : Cond.code m_X12_readPort.1 m_X12_readPort.2.1 m_X12_readPort.2.2.1 m_X12_readPort.2.2.2 ∈ tb := tb7 48 rfl rfl
theorem wn_X12_readPort : m_X12_readPort.1.cls ≠ "java/lang/invoke/MethodHandle" ∧ m_X12_readPort.1.cls ≠ "java/lang/invoke/VarHandle" ∧ (parseMethodDescriptor m_X12_readPort.1.desc).map (fun d => d.parameters.length) = some 0 := ⟨by decide +kernel, by decide +kernel, by decide +kernel⟩
set_option maxRecDepth 20000 in
theorem wm_X12_readPort : Cond.instanceMethod m_X12_readPort.1 ∈ tb := tb7 47 rfl rfl
theorem ws_X12_readPort : Cond.selects m_X12_readPort.1.cls m_X12_readPort.1 m_X12_readPort.1 ∈ tb := tb_sel (q := (m_X12_readPort.1, 83)) (List.mem_of_getElem? (i := 67) (by decide +kernel)) rfl
set_option maxRecDepth 20000 in
theorem wi_X12_readRule : Cond.initialized m_X12_readRule.1.cls ∈ tb := tb1 14 rfl rfl
set_option maxRecDepth 20000 in
theorem wc_X12_readRule : Cond.code m_X12_readRule.1 m_X12_readRule.2.1 m_X12_readRule.2.2.1 m_X12_readRule.2.2.2 ∈ tb := tb7 61 rfl rfl
theorem wn_X12_readRule : m_X12_readRule.1.cls ≠ "java/lang/invoke/MethodHandle" ∧ m_X12_readRule.1.cls ≠ "java/lang/invoke/VarHandle" ∧ (parseMethodDescriptor m_X12_readRule.1.desc).map (fun d => d.parameters.length) = some 0 := ⟨by decide +kernel, by decide +kernel, by decide +kernel⟩
set_option maxRecDepth 20000 in
theorem wm_X12_readRule : Cond.instanceMethod m_X12_readRule.1 ∈ tb := tb7 60 rfl rfl
theorem ws_X12_readRule : Cond.selects m_X12_readRule.1.cls m_X12_readRule.1 m_X12_readRule.1 ∈ tb := tb_sel (q := (m_X12_readRule.1, 83)) (List.mem_of_getElem? (i := 70) (by decide +kernel)) rfl
set_option maxRecDepth 20000 in
theorem wi_X12_readSide : Cond.initialized m_X12_readSide.1.cls ∈ tb := tb1 14 rfl rfl
set_option maxRecDepth 20000 in
theorem wc_X12_readSide : Cond.code m_X12_readSide.1 m_X12_readSide.2.1 m_X12_readSide.2.2.1 m_X12_readSide.2.2.2 ∈ tb := tb7 69 rfl rfl
theorem wn_X12_readSide : m_X12_readSide.1.cls ≠ "java/lang/invoke/MethodHandle" ∧ m_X12_readSide.1.cls ≠ "java/lang/invoke/VarHandle" ∧ (parseMethodDescriptor m_X12_readSide.1.desc).map (fun d => d.parameters.length) = some 1 := ⟨by decide +kernel, by decide +kernel, by decide +kernel⟩
set_option maxRecDepth 20000 in
theorem wm_X12_readSide : Cond.instanceMethod m_X12_readSide.1 ∈ tb := tb7 68 rfl rfl
theorem ws_X12_readSide : Cond.selects m_X12_readSide.1.cls m_X12_readSide.1 m_X12_readSide.1 ∈ tb := tb_sel (q := (m_X12_readSide.1, 83)) (List.mem_of_getElem? (i := 72) (by decide +kernel)) rfl
set_option maxRecDepth 20000 in
theorem wi_X12_readTerm : Cond.initialized m_X12_readTerm.1.cls ∈ tb := tb1 14 rfl rfl
set_option maxRecDepth 20000 in
theorem wc_X12_readTerm : Cond.code m_X12_readTerm.1 m_X12_readTerm.2.1 m_X12_readTerm.2.2.1 m_X12_readTerm.2.2.2 ∈ tb := tb7 85 rfl rfl
theorem wn_X12_readTerm : m_X12_readTerm.1.cls ≠ "java/lang/invoke/MethodHandle" ∧ m_X12_readTerm.1.cls ≠ "java/lang/invoke/VarHandle" ∧ (parseMethodDescriptor m_X12_readTerm.1.desc).map (fun d => d.parameters.length) = some 0 := ⟨by decide +kernel, by decide +kernel, by decide +kernel⟩
set_option maxRecDepth 20000 in
theorem wm_X12_readTerm : Cond.instanceMethod m_X12_readTerm.1 ∈ tb := tb7 84 rfl rfl
theorem ws_X12_readTerm : Cond.selects m_X12_readTerm.1.cls m_X12_readTerm.1 m_X12_readTerm.1 ∈ tb := tb_sel (q := (m_X12_readTerm.1, 83)) (List.mem_of_getElem? (i := 76) (by decide +kernel)) rfl
set_option maxRecDepth 20000 in
theorem wi_X12_ruleFor : Cond.initialized m_X12_ruleFor.1.cls ∈ tb := tb1 14 rfl rfl
set_option maxRecDepth 20000 in
theorem wc_X12_ruleFor : Cond.code m_X12_ruleFor.1 m_X12_ruleFor.2.1 m_X12_ruleFor.2.2.1 m_X12_ruleFor.2.2.2 ∈ tb := tb7 153 rfl rfl
theorem wn_X12_ruleFor : m_X12_ruleFor.1.cls ≠ "java/lang/invoke/MethodHandle" ∧ m_X12_ruleFor.1.cls ≠ "java/lang/invoke/VarHandle" ∧ (parseMethodDescriptor m_X12_ruleFor.1.desc).map (fun d => d.parameters.length) = some 2 := ⟨by decide +kernel, by decide +kernel, by decide +kernel⟩
set_option maxRecDepth 20000 in
theorem wm_X12_ruleFor : Cond.instanceMethod m_X12_ruleFor.1 ∈ tb := tb7 152 rfl rfl
theorem ws_X12_ruleFor : Cond.selects m_X12_ruleFor.1.cls m_X12_ruleFor.1 m_X12_ruleFor.1 ∈ tb := tb_sel (q := (m_X12_ruleFor.1, 83)) (List.mem_of_getElem? (i := 90) (by decide +kernel)) rfl
set_option maxRecDepth 20000 in
theorem wi_X12_runRounds : Cond.initialized m_X12_runRounds.1.cls ∈ tb := tb1 14 rfl rfl
set_option maxRecDepth 20000 in
theorem wc_X12_runRounds : Cond.code m_X12_runRounds.1 m_X12_runRounds.2.1 m_X12_runRounds.2.2.1 m_X12_runRounds.2.2.2 ∈ tb := tb7 232 rfl rfl
theorem wn_X12_runRounds : m_X12_runRounds.1.cls ≠ "java/lang/invoke/MethodHandle" ∧ m_X12_runRounds.1.cls ≠ "java/lang/invoke/VarHandle" ∧ (parseMethodDescriptor m_X12_runRounds.1.desc).map (fun d => d.parameters.length) = some 1 := ⟨by decide +kernel, by decide +kernel, by decide +kernel⟩
set_option maxRecDepth 20000 in
theorem wm_X12_runRounds : Cond.instanceMethod m_X12_runRounds.1 ∈ tb := tb7 231 rfl rfl
theorem ws_X12_runRounds : Cond.selects m_X12_runRounds.1.cls m_X12_runRounds.1 m_X12_runRounds.1 ∈ tb := tb_sel (q := (m_X12_runRounds.1, 83)) (List.mem_of_getElem? (i := 100) (by decide +kernel)) rfl
set_option maxRecDepth 20000 in
theorem wi_X12_sheetRings : Cond.initialized m_X12_sheetRings.1.cls ∈ tb := tb1 14 rfl rfl
set_option maxRecDepth 20000 in
theorem wc_X12_sheetRings : Cond.code m_X12_sheetRings.1 m_X12_sheetRings.2.1 m_X12_sheetRings.2.2.1 m_X12_sheetRings.2.2.2 ∈ tb := tb7 113 rfl rfl
theorem wn_X12_sheetRings : m_X12_sheetRings.1.cls ≠ "java/lang/invoke/MethodHandle" ∧ m_X12_sheetRings.1.cls ≠ "java/lang/invoke/VarHandle" ∧ (parseMethodDescriptor m_X12_sheetRings.1.desc).map (fun d => d.parameters.length) = some 0 := ⟨by decide +kernel, by decide +kernel, by decide +kernel⟩
set_option maxRecDepth 20000 in
theorem wm_X12_sheetRings : Cond.instanceMethod m_X12_sheetRings.1 ∈ tb := tb7 112 rfl rfl
theorem ws_X12_sheetRings : Cond.selects m_X12_sheetRings.1.cls m_X12_sheetRings.1 m_X12_sheetRings.1 ∈ tb := tb_sel (q := (m_X12_sheetRings.1, 83)) (List.mem_of_getElem? (i := 83) (by decide +kernel)) rfl
set_option maxRecDepth 20000 in
theorem wi_X12_sortOf : Cond.initialized m_X12_sortOf.1.cls ∈ tb := tb1 14 rfl rfl
set_option maxRecDepth 20000 in
theorem wc_X12_sortOf : Cond.code m_X12_sortOf.1 m_X12_sortOf.2.1 m_X12_sortOf.2.2.1 m_X12_sortOf.2.2.2 ∈ tb := tb7 101 rfl rfl
theorem wn_X12_sortOf : m_X12_sortOf.1.cls ≠ "java/lang/invoke/MethodHandle" ∧ m_X12_sortOf.1.cls ≠ "java/lang/invoke/VarHandle" ∧ (parseMethodDescriptor m_X12_sortOf.1.desc).map (fun d => d.parameters.length) = some 1 := ⟨by decide +kernel, by decide +kernel, by decide +kernel⟩
set_option maxRecDepth 20000 in
theorem wm_X12_sortOf : Cond.instanceMethod m_X12_sortOf.1 ∈ tb := tb7 100 rfl rfl
theorem ws_X12_sortOf : Cond.selects m_X12_sortOf.1.cls m_X12_sortOf.1 m_X12_sortOf.1 ∈ tb := tb_sel (q := (m_X12_sortOf.1, 83)) (List.mem_of_getElem? (i := 80) (by decide +kernel)) rfl
set_option maxRecDepth 20000 in
theorem wi_X12_take : Cond.initialized m_X12_take.1.cls ∈ tb := tb1 14 rfl rfl
set_option maxRecDepth 20000 in
theorem wc_X12_take : Cond.code m_X12_take.1 m_X12_take.2.1 m_X12_take.2.2.1 m_X12_take.2.2.2 ∈ tb := tb7 10 rfl rfl
theorem wn_X12_take : m_X12_take.1.cls ≠ "java/lang/invoke/MethodHandle" ∧ m_X12_take.1.cls ≠ "java/lang/invoke/VarHandle" ∧ (parseMethodDescriptor m_X12_take.1.desc).map (fun d => d.parameters.length) = some 0 := ⟨by decide +kernel, by decide +kernel, by decide +kernel⟩
set_option maxRecDepth 20000 in
theorem wm_X12_take : Cond.instanceMethod m_X12_take.1 ∈ tb := tb7 9 rfl rfl
theorem ws_X12_take : Cond.selects m_X12_take.1.cls m_X12_take.1 m_X12_take.1 ∈ tb := tb_sel (q := (m_X12_take.1, 83)) (List.mem_of_getElem? (i := 60) (by decide +kernel)) rfl
set_option maxRecDepth 20000 in
theorem wi_X12_takeOver : Cond.initialized m_X12_takeOver.1.cls ∈ tb := tb1 14 rfl rfl
set_option maxRecDepth 20000 in
theorem wc_X12_takeOver : Cond.code m_X12_takeOver.1 m_X12_takeOver.2.1 m_X12_takeOver.2.2.1 m_X12_takeOver.2.2.2 ∈ tb := tb7 125 rfl rfl
theorem wn_X12_takeOver : m_X12_takeOver.1.cls ≠ "java/lang/invoke/MethodHandle" ∧ m_X12_takeOver.1.cls ≠ "java/lang/invoke/VarHandle" ∧ (parseMethodDescriptor m_X12_takeOver.1.desc).map (fun d => d.parameters.length) = some 0 := ⟨by decide +kernel, by decide +kernel, by decide +kernel⟩
set_option maxRecDepth 20000 in
theorem wm_X12_takeOver : Cond.instanceMethod m_X12_takeOver.1 ∈ tb := tb7 124 rfl rfl
theorem ws_X12_takeOver : Cond.selects m_X12_takeOver.1.cls m_X12_takeOver.1 m_X12_takeOver.1 ∈ tb := tb_sel (q := (m_X12_takeOver.1, 83)) (List.mem_of_getElem? (i := 85) (by decide +kernel)) rfl
set_option maxRecDepth 20000 in
theorem wi_X12_takeWord : Cond.initialized m_X12_takeWord.1.cls ∈ tb := tb1 14 rfl rfl
set_option maxRecDepth 20000 in
theorem wc_X12_takeWord : Cond.code m_X12_takeWord.1 m_X12_takeWord.2.1 m_X12_takeWord.2.2.1 m_X12_takeWord.2.2.2 ∈ tb := tb7 27 rfl rfl
theorem wn_X12_takeWord : m_X12_takeWord.1.cls ≠ "java/lang/invoke/MethodHandle" ∧ m_X12_takeWord.1.cls ≠ "java/lang/invoke/VarHandle" ∧ (parseMethodDescriptor m_X12_takeWord.1.desc).map (fun d => d.parameters.length) = some 1 := ⟨by decide +kernel, by decide +kernel, by decide +kernel⟩
set_option maxRecDepth 20000 in
theorem wm_X12_takeWord : Cond.instanceMethod m_X12_takeWord.1 ∈ tb := tb7 26 rfl rfl
theorem ws_X12_takeWord : Cond.selects m_X12_takeWord.1.cls m_X12_takeWord.1 m_X12_takeWord.1 ∈ tb := tb_sel (q := (m_X12_takeWord.1, 83)) (List.mem_of_getElem? (i := 62) (by decide +kernel)) rfl
set_option maxRecDepth 20000 in
theorem wi_X12_told : Cond.initialized m_X12_told.1.cls ∈ tb := tb1 14 rfl rfl
set_option maxRecDepth 20000 in
theorem wc_X12_told : Cond.code m_X12_told.1 m_X12_told.2.1 m_X12_told.2.2.1 m_X12_told.2.2.2 ∈ tb := tb7 116 rfl rfl
theorem wn_X12_told : m_X12_told.1.cls ≠ "java/lang/invoke/MethodHandle" ∧ m_X12_told.1.cls ≠ "java/lang/invoke/VarHandle" ∧ (parseMethodDescriptor m_X12_told.1.desc).map (fun d => d.parameters.length) = some 1 := ⟨by decide +kernel, by decide +kernel, by decide +kernel⟩
set_option maxRecDepth 20000 in
theorem wm_X12_told : Cond.static m_X12_told.1 ∈ tb := tb7 115 rfl rfl
set_option maxRecDepth 20000 in
theorem wi_X12_useName : Cond.initialized m_X12_useName.1.cls ∈ tb := tb1 14 rfl rfl
set_option maxRecDepth 20000 in
theorem wc_X12_useName : Cond.code m_X12_useName.1 m_X12_useName.2.1 m_X12_useName.2.2.1 m_X12_useName.2.2.2 ∈ tb := tb7 73 rfl rfl
theorem wn_X12_useName : m_X12_useName.1.cls ≠ "java/lang/invoke/MethodHandle" ∧ m_X12_useName.1.cls ≠ "java/lang/invoke/VarHandle" ∧ (parseMethodDescriptor m_X12_useName.1.desc).map (fun d => d.parameters.length) = some 0 := ⟨by decide +kernel, by decide +kernel, by decide +kernel⟩
set_option maxRecDepth 20000 in
theorem wm_X12_useName : Cond.instanceMethod m_X12_useName.1 ∈ tb := tb7 72 rfl rfl
theorem ws_X12_useName : Cond.selects m_X12_useName.1.cls m_X12_useName.1 m_X12_useName.1 ∈ tb := tb_sel (q := (m_X12_useName.1, 83)) (List.mem_of_getElem? (i := 73) (by decide +kernel)) rfl
set_option maxRecDepth 20000 in
theorem wi_X12_waitsFor : Cond.initialized m_X12_waitsFor.1.cls ∈ tb := tb1 14 rfl rfl
set_option maxRecDepth 20000 in
theorem wc_X12_waitsFor : Cond.code m_X12_waitsFor.1 m_X12_waitsFor.2.1 m_X12_waitsFor.2.2.1 m_X12_waitsFor.2.2.2 ∈ tb := tb7 161 rfl rfl
theorem wn_X12_waitsFor : m_X12_waitsFor.1.cls ≠ "java/lang/invoke/MethodHandle" ∧ m_X12_waitsFor.1.cls ≠ "java/lang/invoke/VarHandle" ∧ (parseMethodDescriptor m_X12_waitsFor.1.desc).map (fun d => d.parameters.length) = some 1 := ⟨by decide +kernel, by decide +kernel, by decide +kernel⟩
set_option maxRecDepth 20000 in
theorem wm_X12_waitsFor : Cond.instanceMethod m_X12_waitsFor.1 ∈ tb := tb7 160 rfl rfl
theorem ws_X12_waitsFor : Cond.selects m_X12_waitsFor.1.cls m_X12_waitsFor.1 m_X12_waitsFor.1 ∈ tb := tb_sel (q := (m_X12_waitsFor.1, 83)) (List.mem_of_getElem? (i := 92) (by decide +kernel)) rfl
set_option maxRecDepth 20000 in
theorem wi_X12_wire : Cond.initialized m_X12_wire.1.cls ∈ tb := tb1 14 rfl rfl
set_option maxRecDepth 20000 in
theorem wc_X12_wire : Cond.code m_X12_wire.1 m_X12_wire.2.1 m_X12_wire.2.2.1 m_X12_wire.2.2.2 ∈ tb := tb7 218 rfl rfl
theorem wn_X12_wire : m_X12_wire.1.cls ≠ "java/lang/invoke/MethodHandle" ∧ m_X12_wire.1.cls ≠ "java/lang/invoke/VarHandle" ∧ (parseMethodDescriptor m_X12_wire.1.desc).map (fun d => d.parameters.length) = some 2 := ⟨by decide +kernel, by decide +kernel, by decide +kernel⟩
set_option maxRecDepth 20000 in
theorem wm_X12_wire : Cond.instanceMethod m_X12_wire.1 ∈ tb := tb7 217 rfl rfl
theorem ws_X12_wire : Cond.selects m_X12_wire.1.cls m_X12_wire.1 m_X12_wire.1 ∈ tb := tb_sel (q := (m_X12_wire.1, 83)) (List.mem_of_getElem? (i := 98) (by decide +kernel)) rfl
set_option maxRecDepth 20000 in
theorem wi_X12_wireOf : Cond.initialized m_X12_wireOf.1.cls ∈ tb := tb1 14 rfl rfl
set_option maxRecDepth 20000 in
theorem wc_X12_wireOf : Cond.code m_X12_wireOf.1 m_X12_wireOf.2.1 m_X12_wireOf.2.2.1 m_X12_wireOf.2.2.2 ∈ tb := tb8 42 rfl rfl
theorem wn_X12_wireOf : m_X12_wireOf.1.cls ≠ "java/lang/invoke/MethodHandle" ∧ m_X12_wireOf.1.cls ≠ "java/lang/invoke/VarHandle" ∧ (parseMethodDescriptor m_X12_wireOf.1.desc).map (fun d => d.parameters.length) = some 3 := ⟨by decide +kernel, by decide +kernel, by decide +kernel⟩
set_option maxRecDepth 20000 in
theorem wm_X12_wireOf : Cond.instanceMethod m_X12_wireOf.1 ∈ tb := tb8 41 rfl rfl
theorem ws_X12_wireOf : Cond.selects m_X12_wireOf.1.cls m_X12_wireOf.1 m_X12_wireOf.1 ∈ tb := tb_sel (q := (m_X12_wireOf.1, 83)) (List.mem_of_getElem? (i := 106) (by decide +kernel)) rfl
set_option maxRecDepth 20000 in
theorem wi_X12_wrong : Cond.initialized m_X12_wrong.1.cls ∈ tb := tb1 14 rfl rfl
set_option maxRecDepth 20000 in
theorem wc_X12_wrong : Cond.code m_X12_wrong.1 m_X12_wrong.2.1 m_X12_wrong.2.2.1 m_X12_wrong.2.2.2 ∈ tb := tb7 36 rfl rfl
theorem wn_X12_wrong : m_X12_wrong.1.cls ≠ "java/lang/invoke/MethodHandle" ∧ m_X12_wrong.1.cls ≠ "java/lang/invoke/VarHandle" ∧ (parseMethodDescriptor m_X12_wrong.1.desc).map (fun d => d.parameters.length) = some 0 := ⟨by decide +kernel, by decide +kernel, by decide +kernel⟩
set_option maxRecDepth 20000 in
theorem wm_X12_wrong : Cond.instanceMethod m_X12_wrong.1 ∈ tb := tb7 35 rfl rfl
theorem ws_X12_wrong : Cond.selects m_X12_wrong.1.cls m_X12_wrong.1 m_X12_wrong.1 ∈ tb := tb_sel (q := (m_X12_wrong.1, 83)) (List.mem_of_getElem? (i := 64) (by decide +kernel)) rfl
set_option maxRecDepth 20000 in
theorem wi_X1_addAgent : Cond.initialized m_X1_addAgent.1.cls ∈ tb := tb1 3 rfl rfl
set_option maxRecDepth 20000 in
theorem wc_X1_addAgent : Cond.code m_X1_addAgent.1 m_X1_addAgent.2.1 m_X1_addAgent.2.2.1 m_X1_addAgent.2.2.2 ∈ tb := tb3 182 rfl rfl
theorem wn_X1_addAgent : m_X1_addAgent.1.cls ≠ "java/lang/invoke/MethodHandle" ∧ m_X1_addAgent.1.cls ≠ "java/lang/invoke/VarHandle" ∧ (parseMethodDescriptor m_X1_addAgent.1.desc).map (fun d => d.parameters.length) = some 1 := ⟨by decide +kernel, by decide +kernel, by decide +kernel⟩
set_option maxRecDepth 20000 in
theorem wm_X1_addAgent : Cond.instanceMethod m_X1_addAgent.1 ∈ tb := tb3 180 rfl rfl
set_option maxRecDepth 20000 in
theorem ws_X1_addAgent : Cond.selects m_X1_addAgent.1.cls m_X1_addAgent.1 m_X1_addAgent.1 ∈ tb := tb3 181 rfl rfl
set_option maxRecDepth 20000 in
theorem wi_X1_addEnds : Cond.initialized m_X1_addEnds.1.cls ∈ tb := tb1 3 rfl rfl
set_option maxRecDepth 20000 in
theorem wc_X1_addEnds : Cond.code m_X1_addEnds.1 m_X1_addEnds.2.1 m_X1_addEnds.2.2.1 m_X1_addEnds.2.2.2 ∈ tb := tb4 70 rfl rfl
theorem wn_X1_addEnds : m_X1_addEnds.1.cls ≠ "java/lang/invoke/MethodHandle" ∧ m_X1_addEnds.1.cls ≠ "java/lang/invoke/VarHandle" ∧ (parseMethodDescriptor m_X1_addEnds.1.desc).map (fun d => d.parameters.length) = some 0 := ⟨by decide +kernel, by decide +kernel, by decide +kernel⟩
set_option maxRecDepth 20000 in
theorem wm_X1_addEnds : Cond.instanceMethod m_X1_addEnds.1 ∈ tb := tb4 68 rfl rfl
set_option maxRecDepth 20000 in
theorem ws_X1_addEnds : Cond.selects m_X1_addEnds.1.cls m_X1_addEnds.1 m_X1_addEnds.1 ∈ tb := tb4 69 rfl rfl
set_option maxRecDepth 20000 in
theorem wi_X1_clear : Cond.initialized m_X1_clear.1.cls ∈ tb := tb1 3 rfl rfl
set_option maxRecDepth 20000 in
theorem wc_X1_clear : Cond.code m_X1_clear.1 m_X1_clear.2.1 m_X1_clear.2.2.1 m_X1_clear.2.2.2 ∈ tb := tb3 133 rfl rfl
theorem wn_X1_clear : m_X1_clear.1.cls ≠ "java/lang/invoke/MethodHandle" ∧ m_X1_clear.1.cls ≠ "java/lang/invoke/VarHandle" ∧ (parseMethodDescriptor m_X1_clear.1.desc).map (fun d => d.parameters.length) = some 0 := ⟨by decide +kernel, by decide +kernel, by decide +kernel⟩
set_option maxRecDepth 20000 in
theorem wm_X1_clear : Cond.instanceMethod m_X1_clear.1 ∈ tb := tb3 131 rfl rfl
set_option maxRecDepth 20000 in
theorem ws_X1_clear : Cond.selects m_X1_clear.1.cls m_X1_clear.1 m_X1_clear.1 ∈ tb := tb3 132 rfl rfl
set_option maxRecDepth 20000 in
theorem wi_X1_countRings : Cond.initialized m_X1_countRings.1.cls ∈ tb := tb1 3 rfl rfl
set_option maxRecDepth 20000 in
theorem wc_X1_countRings : Cond.code m_X1_countRings.1 m_X1_countRings.2.1 m_X1_countRings.2.2.1 m_X1_countRings.2.2.2 ∈ tb := tb4 52 rfl rfl
theorem wn_X1_countRings : m_X1_countRings.1.cls ≠ "java/lang/invoke/MethodHandle" ∧ m_X1_countRings.1.cls ≠ "java/lang/invoke/VarHandle" ∧ (parseMethodDescriptor m_X1_countRings.1.desc).map (fun d => d.parameters.length) = some 0 := ⟨by decide +kernel, by decide +kernel, by decide +kernel⟩
set_option maxRecDepth 20000 in
theorem wm_X1_countRings : Cond.instanceMethod m_X1_countRings.1 ∈ tb := tb4 50 rfl rfl
set_option maxRecDepth 20000 in
theorem ws_X1_countRings : Cond.selects m_X1_countRings.1.cls m_X1_countRings.1 m_X1_countRings.1 ∈ tb := tb4 51 rfl rfl
set_option maxRecDepth 20000 in
theorem wi_X1_farCode : Cond.initialized m_X1_farCode.1.cls ∈ tb := tb1 3 rfl rfl
set_option maxRecDepth 20000 in
theorem wc_X1_farCode : Cond.code m_X1_farCode.1 m_X1_farCode.2.1 m_X1_farCode.2.2.1 m_X1_farCode.2.2.2 ∈ tb := tb3 218 rfl rfl
theorem wn_X1_farCode : m_X1_farCode.1.cls ≠ "java/lang/invoke/MethodHandle" ∧ m_X1_farCode.1.cls ≠ "java/lang/invoke/VarHandle" ∧ (parseMethodDescriptor m_X1_farCode.1.desc).map (fun d => d.parameters.length) = some 1 := ⟨by decide +kernel, by decide +kernel, by decide +kernel⟩
set_option maxRecDepth 20000 in
theorem wm_X1_farCode : Cond.instanceMethod m_X1_farCode.1 ∈ tb := tb3 216 rfl rfl
set_option maxRecDepth 20000 in
theorem ws_X1_farCode : Cond.selects m_X1_farCode.1.cls m_X1_farCode.1 m_X1_farCode.1 ∈ tb := tb3 217 rfl rfl
set_option maxRecDepth 20000 in
theorem wi_X1_hasNameStanding : Cond.initialized m_X1_hasNameStanding.1.cls ∈ tb := tb1 3 rfl rfl
set_option maxRecDepth 20000 in
theorem wc_X1_hasNameStanding : Cond.code m_X1_hasNameStanding.1 m_X1_hasNameStanding.2.1 m_X1_hasNameStanding.2.2.1 m_X1_hasNameStanding.2.2.2 ∈ tb := tb3 202 rfl rfl
theorem wn_X1_hasNameStanding : m_X1_hasNameStanding.1.cls ≠ "java/lang/invoke/MethodHandle" ∧ m_X1_hasNameStanding.1.cls ≠ "java/lang/invoke/VarHandle" ∧ (parseMethodDescriptor m_X1_hasNameStanding.1.desc).map (fun d => d.parameters.length) = some 2 := ⟨by decide +kernel, by decide +kernel, by decide +kernel⟩
set_option maxRecDepth 20000 in
theorem wm_X1_hasNameStanding : Cond.instanceMethod m_X1_hasNameStanding.1 ∈ tb := tb3 200 rfl rfl
set_option maxRecDepth 20000 in
theorem ws_X1_hasNameStanding : Cond.selects m_X1_hasNameStanding.1.cls m_X1_hasNameStanding.1 m_X1_hasNameStanding.1 ∈ tb := tb3 201 rfl rfl
set_option maxRecDepth 20000 in
theorem wi_X1_isStanding : Cond.initialized m_X1_isStanding.1.cls ∈ tb := tb1 3 rfl rfl
set_option maxRecDepth 20000 in
theorem wc_X1_isStanding : Cond.code m_X1_isStanding.1 m_X1_isStanding.2.1 m_X1_isStanding.2.2.1 m_X1_isStanding.2.2.2 ∈ tb := tb3 221 rfl rfl
theorem wn_X1_isStanding : m_X1_isStanding.1.cls ≠ "java/lang/invoke/MethodHandle" ∧ m_X1_isStanding.1.cls ≠ "java/lang/invoke/VarHandle" ∧ (parseMethodDescriptor m_X1_isStanding.1.desc).map (fun d => d.parameters.length) = some 1 := ⟨by decide +kernel, by decide +kernel, by decide +kernel⟩
set_option maxRecDepth 20000 in
theorem wm_X1_isStanding : Cond.static m_X1_isStanding.1 ∈ tb := tb3 220 rfl rfl
set_option maxRecDepth 20000 in
theorem wi_X1_join : Cond.initialized m_X1_join.1.cls ∈ tb := tb1 3 rfl rfl
set_option maxRecDepth 20000 in
theorem wc_X1_join : Cond.code m_X1_join.1 m_X1_join.2.1 m_X1_join.2.2.1 m_X1_join.2.2.2 ∈ tb := tb3 162 rfl rfl
theorem wn_X1_join : m_X1_join.1.cls ≠ "java/lang/invoke/MethodHandle" ∧ m_X1_join.1.cls ≠ "java/lang/invoke/VarHandle" ∧ (parseMethodDescriptor m_X1_join.1.desc).map (fun d => d.parameters.length) = some 2 := ⟨by decide +kernel, by decide +kernel, by decide +kernel⟩
set_option maxRecDepth 20000 in
theorem wm_X1_join : Cond.instanceMethod m_X1_join.1 ∈ tb := tb3 160 rfl rfl
set_option maxRecDepth 20000 in
theorem ws_X1_join : Cond.selects m_X1_join.1.cls m_X1_join.1 m_X1_join.1 ∈ tb := tb3 161 rfl rfl
set_option maxRecDepth 20000 in
theorem wi_X1_kindOf : Cond.initialized m_X1_kindOf.1.cls ∈ tb := tb1 3 rfl rfl
set_option maxRecDepth 20000 in
theorem wc_X1_kindOf : Cond.code m_X1_kindOf.1 m_X1_kindOf.2.1 m_X1_kindOf.2.2.1 m_X1_kindOf.2.2.2 ∈ tb := tb3 210 rfl rfl
theorem wn_X1_kindOf : m_X1_kindOf.1.cls ≠ "java/lang/invoke/MethodHandle" ∧ m_X1_kindOf.1.cls ≠ "java/lang/invoke/VarHandle" ∧ (parseMethodDescriptor m_X1_kindOf.1.desc).map (fun d => d.parameters.length) = some 1 := ⟨by decide +kernel, by decide +kernel, by decide +kernel⟩
set_option maxRecDepth 20000 in
theorem wm_X1_kindOf : Cond.instanceMethod m_X1_kindOf.1 ∈ tb := tb3 208 rfl rfl
set_option maxRecDepth 20000 in
theorem ws_X1_kindOf : Cond.selects m_X1_kindOf.1.cls m_X1_kindOf.1 m_X1_kindOf.1 ∈ tb := tb3 209 rfl rfl
set_option maxRecDepth 20000 in
theorem wi_X1_nameNumber : Cond.initialized m_X1_nameNumber.1.cls ∈ tb := tb1 3 rfl rfl
set_option maxRecDepth 20000 in
theorem wc_X1_nameNumber : Cond.code m_X1_nameNumber.1 m_X1_nameNumber.2.1 m_X1_nameNumber.2.2.1 m_X1_nameNumber.2.2.2 ∈ tb := tb3 150 rfl rfl
theorem wn_X1_nameNumber : m_X1_nameNumber.1.cls ≠ "java/lang/invoke/MethodHandle" ∧ m_X1_nameNumber.1.cls ≠ "java/lang/invoke/VarHandle" ∧ (parseMethodDescriptor m_X1_nameNumber.1.desc).map (fun d => d.parameters.length) = some 1 := ⟨by decide +kernel, by decide +kernel, by decide +kernel⟩
set_option maxRecDepth 20000 in
theorem wm_X1_nameNumber : Cond.instanceMethod m_X1_nameNumber.1 ∈ tb := tb3 148 rfl rfl
set_option maxRecDepth 20000 in
theorem ws_X1_nameNumber : Cond.selects m_X1_nameNumber.1.cls m_X1_nameNumber.1 m_X1_nameNumber.1 ∈ tb := tb3 149 rfl rfl
set_option maxRecDepth 20000 in
theorem wi_X1_outerPoint : Cond.initialized m_X1_outerPoint.1.cls ∈ tb := tb1 3 rfl rfl
set_option maxRecDepth 20000 in
theorem wc_X1_outerPoint : Cond.code m_X1_outerPoint.1 m_X1_outerPoint.2.1 m_X1_outerPoint.2.2.1 m_X1_outerPoint.2.2.2 ∈ tb := tb3 157 rfl rfl
theorem wn_X1_outerPoint : m_X1_outerPoint.1.cls ≠ "java/lang/invoke/MethodHandle" ∧ m_X1_outerPoint.1.cls ≠ "java/lang/invoke/VarHandle" ∧ (parseMethodDescriptor m_X1_outerPoint.1.desc).map (fun d => d.parameters.length) = some 1 := ⟨by decide +kernel, by decide +kernel, by decide +kernel⟩
set_option maxRecDepth 20000 in
theorem wm_X1_outerPoint : Cond.static m_X1_outerPoint.1 ∈ tb := tb3 156 rfl rfl
set_option maxRecDepth 20000 in
theorem wi_X1_passName : Cond.initialized m_X1_passName.1.cls ∈ tb := tb1 3 rfl rfl
set_option maxRecDepth 20000 in
theorem wc_X1_passName : Cond.code m_X1_passName.1 m_X1_passName.2.1 m_X1_passName.2.2.1 m_X1_passName.2.2.2 ∈ tb := tb3 225 rfl rfl
theorem wn_X1_passName : m_X1_passName.1.cls ≠ "java/lang/invoke/MethodHandle" ∧ m_X1_passName.1.cls ≠ "java/lang/invoke/VarHandle" ∧ (parseMethodDescriptor m_X1_passName.1.desc).map (fun d => d.parameters.length) = some 1 := ⟨by decide +kernel, by decide +kernel, by decide +kernel⟩
set_option maxRecDepth 20000 in
theorem wm_X1_passName : Cond.instanceMethod m_X1_passName.1 ∈ tb := tb3 224 rfl rfl
theorem ws_X1_passName : Cond.selects m_X1_passName.1.cls m_X1_passName.1 m_X1_passName.1 ∈ tb := tb_sel (q := (m_X1_passName.1, 8)) (List.mem_of_getElem? (i := 23) (by decide +kernel)) rfl
set_option maxRecDepth 20000 in
theorem wi_X1_stand : Cond.initialized m_X1_stand.1.cls ∈ tb := tb1 3 rfl rfl
set_option maxRecDepth 20000 in
theorem wc_X1_stand : Cond.code m_X1_stand.1 m_X1_stand.2.1 m_X1_stand.2.2.1 m_X1_stand.2.2.2 ∈ tb := tb3 154 rfl rfl
theorem wn_X1_stand : m_X1_stand.1.cls ≠ "java/lang/invoke/MethodHandle" ∧ m_X1_stand.1.cls ≠ "java/lang/invoke/VarHandle" ∧ (parseMethodDescriptor m_X1_stand.1.desc).map (fun d => d.parameters.length) = some 1 := ⟨by decide +kernel, by decide +kernel, by decide +kernel⟩
set_option maxRecDepth 20000 in
theorem wm_X1_stand : Cond.instanceMethod m_X1_stand.1 ∈ tb := tb3 152 rfl rfl
set_option maxRecDepth 20000 in
theorem ws_X1_stand : Cond.selects m_X1_stand.1.cls m_X1_stand.1 m_X1_stand.1 ∈ tb := tb3 153 rfl rfl
set_option maxRecDepth 20000 in
theorem wi_X2_clear : Cond.initialized m_X2_clear.1.cls ∈ tb := tb1 11 rfl rfl
set_option maxRecDepth 20000 in
theorem wc_X2_clear : Cond.code m_X2_clear.1 m_X2_clear.2.1 m_X2_clear.2.2.1 m_X2_clear.2.2.2 ∈ tb := tb4 91 rfl rfl
theorem wn_X2_clear : m_X2_clear.1.cls ≠ "java/lang/invoke/MethodHandle" ∧ m_X2_clear.1.cls ≠ "java/lang/invoke/VarHandle" ∧ (parseMethodDescriptor m_X2_clear.1.desc).map (fun d => d.parameters.length) = some 1 := ⟨by decide +kernel, by decide +kernel, by decide +kernel⟩
set_option maxRecDepth 20000 in
theorem wm_X2_clear : Cond.instanceMethod m_X2_clear.1 ∈ tb := tb4 89 rfl rfl
set_option maxRecDepth 20000 in
theorem ws_X2_clear : Cond.selects m_X2_clear.1.cls m_X2_clear.1 m_X2_clear.1 ∈ tb := tb4 90 rfl rfl
set_option maxRecDepth 20000 in
theorem wi_X2_noteAgents : Cond.initialized m_X2_noteAgents.1.cls ∈ tb := tb1 11 rfl rfl
set_option maxRecDepth 20000 in
theorem wc_X2_noteAgents : Cond.code m_X2_noteAgents.1 m_X2_noteAgents.2.1 m_X2_noteAgents.2.2.1 m_X2_noteAgents.2.2.2 ∈ tb := tb5 63 rfl rfl
theorem wn_X2_noteAgents : m_X2_noteAgents.1.cls ≠ "java/lang/invoke/MethodHandle" ∧ m_X2_noteAgents.1.cls ≠ "java/lang/invoke/VarHandle" ∧ (parseMethodDescriptor m_X2_noteAgents.1.desc).map (fun d => d.parameters.length) = some 1 := ⟨by decide +kernel, by decide +kernel, by decide +kernel⟩
set_option maxRecDepth 20000 in
theorem wm_X2_noteAgents : Cond.instanceMethod m_X2_noteAgents.1 ∈ tb := tb5 61 rfl rfl
set_option maxRecDepth 20000 in
theorem ws_X2_noteAgents : Cond.selects m_X2_noteAgents.1.cls m_X2_noteAgents.1 m_X2_noteAgents.1 ∈ tb := tb5 62 rfl rfl
set_option maxRecDepth 20000 in
theorem wi_X2_noteStep : Cond.initialized m_X2_noteStep.1.cls ∈ tb := tb1 11 rfl rfl
set_option maxRecDepth 20000 in
theorem wc_X2_noteStep : Cond.code m_X2_noteStep.1 m_X2_noteStep.2.1 m_X2_noteStep.2.2.1 m_X2_noteStep.2.2.2 ∈ tb := tb4 214 rfl rfl
theorem wn_X2_noteStep : m_X2_noteStep.1.cls ≠ "java/lang/invoke/MethodHandle" ∧ m_X2_noteStep.1.cls ≠ "java/lang/invoke/VarHandle" ∧ (parseMethodDescriptor m_X2_noteStep.1.desc).map (fun d => d.parameters.length) = some 2 := ⟨by decide +kernel, by decide +kernel, by decide +kernel⟩
set_option maxRecDepth 20000 in
theorem wm_X2_noteStep : Cond.instanceMethod m_X2_noteStep.1 ∈ tb := tb4 212 rfl rfl
set_option maxRecDepth 20000 in
theorem ws_X2_noteStep : Cond.selects m_X2_noteStep.1.cls m_X2_noteStep.1 m_X2_noteStep.1 ∈ tb := tb4 213 rfl rfl
set_option maxRecDepth 20000 in
theorem wi_X2_recentStep : Cond.initialized m_X2_recentStep.1.cls ∈ tb := tb1 11 rfl rfl
set_option maxRecDepth 20000 in
theorem wc_X2_recentStep : Cond.code m_X2_recentStep.1 m_X2_recentStep.2.1 m_X2_recentStep.2.2.1 m_X2_recentStep.2.2.2 ∈ tb := tb5 102 rfl rfl
theorem wn_X2_recentStep : m_X2_recentStep.1.cls ≠ "java/lang/invoke/MethodHandle" ∧ m_X2_recentStep.1.cls ≠ "java/lang/invoke/VarHandle" ∧ (parseMethodDescriptor m_X2_recentStep.1.desc).map (fun d => d.parameters.length) = some 1 := ⟨by decide +kernel, by decide +kernel, by decide +kernel⟩
set_option maxRecDepth 20000 in
theorem wm_X2_recentStep : Cond.instanceMethod m_X2_recentStep.1 ∈ tb := tb5 100 rfl rfl
set_option maxRecDepth 20000 in
theorem ws_X2_recentStep : Cond.selects m_X2_recentStep.1.cls m_X2_recentStep.1 m_X2_recentStep.1 ∈ tb := tb5 101 rfl rfl
set_option maxRecDepth 20000 in
theorem wi_X3_add : Cond.initialized m_X3_add.1.cls ∈ tb := tb1 6 rfl rfl
set_option maxRecDepth 20000 in
theorem wc_X3_add : Cond.code m_X3_add.1 m_X3_add.2.1 m_X3_add.2.2.1 m_X3_add.2.2.2 ∈ tb := tb3 97 rfl rfl
theorem wn_X3_add : m_X3_add.1.cls ≠ "java/lang/invoke/MethodHandle" ∧ m_X3_add.1.cls ≠ "java/lang/invoke/VarHandle" ∧ (parseMethodDescriptor m_X3_add.1.desc).map (fun d => d.parameters.length) = some 1 := ⟨by decide +kernel, by decide +kernel, by decide +kernel⟩
set_option maxRecDepth 20000 in
theorem wm_X3_add : Cond.instanceMethod m_X3_add.1 ∈ tb := tb3 95 rfl rfl
set_option maxRecDepth 20000 in
theorem ws_X3_add : Cond.selects m_X3_add.1.cls m_X3_add.1 m_X3_add.1 ∈ tb := tb3 96 rfl rfl
set_option maxRecDepth 20000 in
theorem wi_X3_addPort : Cond.initialized m_X3_addPort.1.cls ∈ tb := tb1 6 rfl rfl
set_option maxRecDepth 20000 in
theorem wc_X3_addPort : Cond.code m_X3_addPort.1 m_X3_addPort.2.1 m_X3_addPort.2.2.1 m_X3_addPort.2.2.2 ∈ tb := tb3 112 rfl rfl
theorem wn_X3_addPort : m_X3_addPort.1.cls ≠ "java/lang/invoke/MethodHandle" ∧ m_X3_addPort.1.cls ≠ "java/lang/invoke/VarHandle" ∧ (parseMethodDescriptor m_X3_addPort.1.desc).map (fun d => d.parameters.length) = some 1 := ⟨by decide +kernel, by decide +kernel, by decide +kernel⟩
set_option maxRecDepth 20000 in
theorem wm_X3_addPort : Cond.instanceMethod m_X3_addPort.1 ∈ tb := tb3 110 rfl rfl
set_option maxRecDepth 20000 in
theorem ws_X3_addPort : Cond.selects m_X3_addPort.1.cls m_X3_addPort.1 m_X3_addPort.1 ∈ tb := tb3 111 rfl rfl
set_option maxRecDepth 20000 in
theorem wi_X3_find : Cond.initialized m_X3_find.1.cls ∈ tb := tb1 6 rfl rfl
set_option maxRecDepth 20000 in
theorem wc_X3_find : Cond.code m_X3_find.1 m_X3_find.2.1 m_X3_find.2.2.1 m_X3_find.2.2.2 ∈ tb := tb3 85 rfl rfl
theorem wn_X3_find : m_X3_find.1.cls ≠ "java/lang/invoke/MethodHandle" ∧ m_X3_find.1.cls ≠ "java/lang/invoke/VarHandle" ∧ (parseMethodDescriptor m_X3_find.1.desc).map (fun d => d.parameters.length) = some 1 := ⟨by decide +kernel, by decide +kernel, by decide +kernel⟩
set_option maxRecDepth 20000 in
theorem wm_X3_find : Cond.instanceMethod m_X3_find.1 ∈ tb := tb3 83 rfl rfl
set_option maxRecDepth 20000 in
theorem ws_X3_find : Cond.selects m_X3_find.1.cls m_X3_find.1 m_X3_find.1 ∈ tb := tb3 84 rfl rfl
set_option maxRecDepth 20000 in
theorem wi_X3_has : Cond.initialized m_X3_has.1.cls ∈ tb := tb1 6 rfl rfl
set_option maxRecDepth 20000 in
theorem wc_X3_has : Cond.code m_X3_has.1 m_X3_has.2.1 m_X3_has.2.2.1 m_X3_has.2.2.2 ∈ tb := tb3 116 rfl rfl
theorem wn_X3_has : m_X3_has.1.cls ≠ "java/lang/invoke/MethodHandle" ∧ m_X3_has.1.cls ≠ "java/lang/invoke/VarHandle" ∧ (parseMethodDescriptor m_X3_has.1.desc).map (fun d => d.parameters.length) = some 1 := ⟨by decide +kernel, by decide +kernel, by decide +kernel⟩
set_option maxRecDepth 20000 in
theorem wm_X3_has : Cond.instanceMethod m_X3_has.1 ∈ tb := tb3 114 rfl rfl
set_option maxRecDepth 20000 in
theorem ws_X3_has : Cond.selects m_X3_has.1.cls m_X3_has.1 m_X3_has.1 ∈ tb := tb3 115 rfl rfl
set_option maxRecDepth 20000 in
theorem wi_X3_hasPort : Cond.initialized m_X3_hasPort.1.cls ∈ tb := tb1 6 rfl rfl
set_option maxRecDepth 20000 in
theorem wc_X3_hasPort : Cond.code m_X3_hasPort.1 m_X3_hasPort.2.1 m_X3_hasPort.2.2.1 m_X3_hasPort.2.2.2 ∈ tb := tb4 24 rfl rfl
theorem wn_X3_hasPort : m_X3_hasPort.1.cls ≠ "java/lang/invoke/MethodHandle" ∧ m_X3_hasPort.1.cls ≠ "java/lang/invoke/VarHandle" ∧ (parseMethodDescriptor m_X3_hasPort.1.desc).map (fun d => d.parameters.length) = some 2 := ⟨by decide +kernel, by decide +kernel, by decide +kernel⟩
set_option maxRecDepth 20000 in
theorem wm_X3_hasPort : Cond.instanceMethod m_X3_hasPort.1 ∈ tb := tb4 22 rfl rfl
set_option maxRecDepth 20000 in
theorem ws_X3_hasPort : Cond.selects m_X3_hasPort.1.cls m_X3_hasPort.1 m_X3_hasPort.1 ∈ tb := tb4 23 rfl rfl
set_option maxRecDepth 20000 in
theorem wi_X3_isFull : Cond.initialized m_X3_isFull.1.cls ∈ tb := tb1 6 rfl rfl
set_option maxRecDepth 20000 in
theorem wc_X3_isFull : Cond.code m_X3_isFull.1 m_X3_isFull.2.1 m_X3_isFull.2.2.1 m_X3_isFull.2.2.2 ∈ tb := tb3 93 rfl rfl
theorem wn_X3_isFull : m_X3_isFull.1.cls ≠ "java/lang/invoke/MethodHandle" ∧ m_X3_isFull.1.cls ≠ "java/lang/invoke/VarHandle" ∧ (parseMethodDescriptor m_X3_isFull.1.desc).map (fun d => d.parameters.length) = some 0 := ⟨by decide +kernel, by decide +kernel, by decide +kernel⟩
set_option maxRecDepth 20000 in
theorem wm_X3_isFull : Cond.instanceMethod m_X3_isFull.1 ∈ tb := tb3 91 rfl rfl
set_option maxRecDepth 20000 in
theorem ws_X3_isFull : Cond.selects m_X3_isFull.1.cls m_X3_isFull.1 m_X3_isFull.1 ∈ tb := tb3 92 rfl rfl
set_option maxRecDepth 20000 in
theorem wi_X3_nameOf : Cond.initialized m_X3_nameOf.1.cls ∈ tb := tb1 6 rfl rfl
set_option maxRecDepth 20000 in
theorem wc_X3_nameOf : Cond.code m_X3_nameOf.1 m_X3_nameOf.2.1 m_X3_nameOf.2.2.1 m_X3_nameOf.2.2.2 ∈ tb := tb5 190 rfl rfl
theorem wn_X3_nameOf : m_X3_nameOf.1.cls ≠ "java/lang/invoke/MethodHandle" ∧ m_X3_nameOf.1.cls ≠ "java/lang/invoke/VarHandle" ∧ (parseMethodDescriptor m_X3_nameOf.1.desc).map (fun d => d.parameters.length) = some 1 := ⟨by decide +kernel, by decide +kernel, by decide +kernel⟩
set_option maxRecDepth 20000 in
theorem wm_X3_nameOf : Cond.instanceMethod m_X3_nameOf.1 ∈ tb := tb5 188 rfl rfl
set_option maxRecDepth 20000 in
theorem ws_X3_nameOf : Cond.selects m_X3_nameOf.1.cls m_X3_nameOf.1 m_X3_nameOf.1 ∈ tb := tb5 189 rfl rfl
set_option maxRecDepth 20000 in
theorem wi_X3_portsOf : Cond.initialized m_X3_portsOf.1.cls ∈ tb := tb1 6 rfl rfl
set_option maxRecDepth 20000 in
theorem wc_X3_portsOf : Cond.code m_X3_portsOf.1 m_X3_portsOf.2.1 m_X3_portsOf.2.2.1 m_X3_portsOf.2.2.2 ∈ tb := tb3 170 rfl rfl
theorem wn_X3_portsOf : m_X3_portsOf.1.cls ≠ "java/lang/invoke/MethodHandle" ∧ m_X3_portsOf.1.cls ≠ "java/lang/invoke/VarHandle" ∧ (parseMethodDescriptor m_X3_portsOf.1.desc).map (fun d => d.parameters.length) = some 1 := ⟨by decide +kernel, by decide +kernel, by decide +kernel⟩
set_option maxRecDepth 20000 in
theorem wm_X3_portsOf : Cond.instanceMethod m_X3_portsOf.1 ∈ tb := tb3 168 rfl rfl
set_option maxRecDepth 20000 in
theorem ws_X3_portsOf : Cond.selects m_X3_portsOf.1.cls m_X3_portsOf.1 m_X3_portsOf.1 ∈ tb := tb3 169 rfl rfl
set_option maxRecDepth 20000 in
theorem wi_X3_sortOf : Cond.initialized m_X3_sortOf.1.cls ∈ tb := tb1 6 rfl rfl
set_option maxRecDepth 20000 in
theorem wc_X3_sortOf : Cond.code m_X3_sortOf.1 m_X3_sortOf.2.1 m_X3_sortOf.2.2.1 m_X3_sortOf.2.2.2 ∈ tb := tb3 214 rfl rfl
theorem wn_X3_sortOf : m_X3_sortOf.1.cls ≠ "java/lang/invoke/MethodHandle" ∧ m_X3_sortOf.1.cls ≠ "java/lang/invoke/VarHandle" ∧ (parseMethodDescriptor m_X3_sortOf.1.desc).map (fun d => d.parameters.length) = some 2 := ⟨by decide +kernel, by decide +kernel, by decide +kernel⟩
set_option maxRecDepth 20000 in
theorem wm_X3_sortOf : Cond.instanceMethod m_X3_sortOf.1 ∈ tb := tb3 212 rfl rfl
set_option maxRecDepth 20000 in
theorem ws_X3_sortOf : Cond.selects m_X3_sortOf.1.cls m_X3_sortOf.1 m_X3_sortOf.1 ∈ tb := tb3 213 rfl rfl
set_option maxRecDepth 20000 in
theorem wi_X4_add : Cond.initialized m_X4_add.1.cls ∈ tb := tb1 9 rfl rfl
set_option maxRecDepth 20000 in
theorem wc_X4_add : Cond.code m_X4_add.1 m_X4_add.2.1 m_X4_add.2.2.1 m_X4_add.2.2.2 ∈ tb := tb4 80 rfl rfl
theorem wn_X4_add : m_X4_add.1.cls ≠ "java/lang/invoke/MethodHandle" ∧ m_X4_add.1.cls ≠ "java/lang/invoke/VarHandle" ∧ (parseMethodDescriptor m_X4_add.1.desc).map (fun d => d.parameters.length) = some 2 := ⟨by decide +kernel, by decide +kernel, by decide +kernel⟩
set_option maxRecDepth 20000 in
theorem wm_X4_add : Cond.instanceMethod m_X4_add.1 ∈ tb := tb4 78 rfl rfl
set_option maxRecDepth 20000 in
theorem ws_X4_add : Cond.selects m_X4_add.1.cls m_X4_add.1 m_X4_add.1 ∈ tb := tb4 79 rfl rfl
set_option maxRecDepth 20000 in
theorem wi_X4_clear : Cond.initialized m_X4_clear.1.cls ∈ tb := tb1 9 rfl rfl
set_option maxRecDepth 20000 in
theorem wc_X4_clear : Cond.code m_X4_clear.1 m_X4_clear.2.1 m_X4_clear.2.2.1 m_X4_clear.2.2.2 ∈ tb := tb2 174 rfl rfl
theorem wn_X4_clear : m_X4_clear.1.cls ≠ "java/lang/invoke/MethodHandle" ∧ m_X4_clear.1.cls ≠ "java/lang/invoke/VarHandle" ∧ (parseMethodDescriptor m_X4_clear.1.desc).map (fun d => d.parameters.length) = some 0 := ⟨by decide +kernel, by decide +kernel, by decide +kernel⟩
set_option maxRecDepth 20000 in
theorem wm_X4_clear : Cond.instanceMethod m_X4_clear.1 ∈ tb := tb2 172 rfl rfl
set_option maxRecDepth 20000 in
theorem ws_X4_clear : Cond.selects m_X4_clear.1.cls m_X4_clear.1 m_X4_clear.1 ∈ tb := tb2 173 rfl rfl
set_option maxRecDepth 20000 in
theorem wi_X4_copyFrom : Cond.initialized m_X4_copyFrom.1.cls ∈ tb := tb1 9 rfl rfl
set_option maxRecDepth 20000 in
theorem wc_X4_copyFrom : Cond.code m_X4_copyFrom.1 m_X4_copyFrom.2.1 m_X4_copyFrom.2.2.1 m_X4_copyFrom.2.2.2 ∈ tb := tb5 112 rfl rfl
theorem wn_X4_copyFrom : m_X4_copyFrom.1.cls ≠ "java/lang/invoke/MethodHandle" ∧ m_X4_copyFrom.1.cls ≠ "java/lang/invoke/VarHandle" ∧ (parseMethodDescriptor m_X4_copyFrom.1.desc).map (fun d => d.parameters.length) = some 1 := ⟨by decide +kernel, by decide +kernel, by decide +kernel⟩
set_option maxRecDepth 20000 in
theorem wm_X4_copyFrom : Cond.instanceMethod m_X4_copyFrom.1 ∈ tb := tb5 110 rfl rfl
set_option maxRecDepth 20000 in
theorem ws_X4_copyFrom : Cond.selects m_X4_copyFrom.1.cls m_X4_copyFrom.1 m_X4_copyFrom.1 ∈ tb := tb5 111 rfl rfl
set_option maxRecDepth 20000 in
theorem wi_X4_countOfKind : Cond.initialized m_X4_countOfKind.1.cls ∈ tb := tb1 9 rfl rfl
set_option maxRecDepth 20000 in
theorem wc_X4_countOfKind : Cond.code m_X4_countOfKind.1 m_X4_countOfKind.2.1 m_X4_countOfKind.2.2.1 m_X4_countOfKind.2.2.2 ∈ tb := tb4 155 rfl rfl
theorem wn_X4_countOfKind : m_X4_countOfKind.1.cls ≠ "java/lang/invoke/MethodHandle" ∧ m_X4_countOfKind.1.cls ≠ "java/lang/invoke/VarHandle" ∧ (parseMethodDescriptor m_X4_countOfKind.1.desc).map (fun d => d.parameters.length) = some 1 := ⟨by decide +kernel, by decide +kernel, by decide +kernel⟩
set_option maxRecDepth 20000 in
theorem wm_X4_countOfKind : Cond.instanceMethod m_X4_countOfKind.1 ∈ tb := tb4 153 rfl rfl
set_option maxRecDepth 20000 in
theorem ws_X4_countOfKind : Cond.selects m_X4_countOfKind.1.cls m_X4_countOfKind.1 m_X4_countOfKind.1 ∈ tb := tb4 154 rfl rfl
set_option maxRecDepth 20000 in
theorem wi_X4_has : Cond.initialized m_X4_has.1.cls ∈ tb := tb1 9 rfl rfl
set_option maxRecDepth 20000 in
theorem wc_X4_has : Cond.code m_X4_has.1 m_X4_has.2.1 m_X4_has.2.2.1 m_X4_has.2.2.2 ∈ tb := tb4 124 rfl rfl
theorem wn_X4_has : m_X4_has.1.cls ≠ "java/lang/invoke/MethodHandle" ∧ m_X4_has.1.cls ≠ "java/lang/invoke/VarHandle" ∧ (parseMethodDescriptor m_X4_has.1.desc).map (fun d => d.parameters.length) = some 1 := ⟨by decide +kernel, by decide +kernel, by decide +kernel⟩
set_option maxRecDepth 20000 in
theorem wm_X4_has : Cond.instanceMethod m_X4_has.1 ∈ tb := tb4 122 rfl rfl
set_option maxRecDepth 20000 in
theorem ws_X4_has : Cond.selects m_X4_has.1.cls m_X4_has.1 m_X4_has.1 ∈ tb := tb4 123 rfl rfl
set_option maxRecDepth 20000 in
theorem wi_X4_hasEnd : Cond.initialized m_X4_hasEnd.1.cls ∈ tb := tb1 9 rfl rfl
set_option maxRecDepth 20000 in
theorem wc_X4_hasEnd : Cond.code m_X4_hasEnd.1 m_X4_hasEnd.2.1 m_X4_hasEnd.2.2.1 m_X4_hasEnd.2.2.2 ∈ tb := tb4 189 rfl rfl
theorem wn_X4_hasEnd : m_X4_hasEnd.1.cls ≠ "java/lang/invoke/MethodHandle" ∧ m_X4_hasEnd.1.cls ≠ "java/lang/invoke/VarHandle" ∧ (parseMethodDescriptor m_X4_hasEnd.1.desc).map (fun d => d.parameters.length) = some 1 := ⟨by decide +kernel, by decide +kernel, by decide +kernel⟩
set_option maxRecDepth 20000 in
theorem wm_X4_hasEnd : Cond.instanceMethod m_X4_hasEnd.1 ∈ tb := tb4 187 rfl rfl
set_option maxRecDepth 20000 in
theorem ws_X4_hasEnd : Cond.selects m_X4_hasEnd.1.cls m_X4_hasEnd.1 m_X4_hasEnd.1 ∈ tb := tb4 188 rfl rfl
set_option maxRecDepth 20000 in
theorem wi_X4_join : Cond.initialized m_X4_join.1.cls ∈ tb := tb1 9 rfl rfl
set_option maxRecDepth 20000 in
theorem wc_X4_join : Cond.code m_X4_join.1 m_X4_join.2.1 m_X4_join.2.2.1 m_X4_join.2.2.2 ∈ tb := tb5 46 rfl rfl
theorem wn_X4_join : m_X4_join.1.cls ≠ "java/lang/invoke/MethodHandle" ∧ m_X4_join.1.cls ≠ "java/lang/invoke/VarHandle" ∧ (parseMethodDescriptor m_X4_join.1.desc).map (fun d => d.parameters.length) = some 2 := ⟨by decide +kernel, by decide +kernel, by decide +kernel⟩
set_option maxRecDepth 20000 in
theorem wm_X4_join : Cond.instanceMethod m_X4_join.1 ∈ tb := tb5 44 rfl rfl
set_option maxRecDepth 20000 in
theorem ws_X4_join : Cond.selects m_X4_join.1.cls m_X4_join.1 m_X4_join.1 ∈ tb := tb5 45 rfl rfl
set_option maxRecDepth 20000 in
theorem wi_X4_kindOf : Cond.initialized m_X4_kindOf.1.cls ∈ tb := tb1 9 rfl rfl
set_option maxRecDepth 20000 in
theorem wc_X4_kindOf : Cond.code m_X4_kindOf.1 m_X4_kindOf.2.1 m_X4_kindOf.2.2.1 m_X4_kindOf.2.2.2 ∈ tb := tb4 134 rfl rfl
theorem wn_X4_kindOf : m_X4_kindOf.1.cls ≠ "java/lang/invoke/MethodHandle" ∧ m_X4_kindOf.1.cls ≠ "java/lang/invoke/VarHandle" ∧ (parseMethodDescriptor m_X4_kindOf.1.desc).map (fun d => d.parameters.length) = some 1 := ⟨by decide +kernel, by decide +kernel, by decide +kernel⟩
set_option maxRecDepth 20000 in
theorem wm_X4_kindOf : Cond.instanceMethod m_X4_kindOf.1 ∈ tb := tb4 132 rfl rfl
set_option maxRecDepth 20000 in
theorem ws_X4_kindOf : Cond.selects m_X4_kindOf.1.cls m_X4_kindOf.1 m_X4_kindOf.1 ∈ tb := tb4 133 rfl rfl
set_option maxRecDepth 20000 in
theorem wi_X4_mateOf : Cond.initialized m_X4_mateOf.1.cls ∈ tb := tb1 9 rfl rfl
set_option maxRecDepth 20000 in
theorem wc_X4_mateOf : Cond.code m_X4_mateOf.1 m_X4_mateOf.2.1 m_X4_mateOf.2.2.1 m_X4_mateOf.2.2.2 ∈ tb := tb4 120 rfl rfl
theorem wn_X4_mateOf : m_X4_mateOf.1.cls ≠ "java/lang/invoke/MethodHandle" ∧ m_X4_mateOf.1.cls ≠ "java/lang/invoke/VarHandle" ∧ (parseMethodDescriptor m_X4_mateOf.1.desc).map (fun d => d.parameters.length) = some 1 := ⟨by decide +kernel, by decide +kernel, by decide +kernel⟩
set_option maxRecDepth 20000 in
theorem wm_X4_mateOf : Cond.instanceMethod m_X4_mateOf.1 ∈ tb := tb4 118 rfl rfl
set_option maxRecDepth 20000 in
theorem ws_X4_mateOf : Cond.selects m_X4_mateOf.1.cls m_X4_mateOf.1 m_X4_mateOf.1 ∈ tb := tb4 119 rfl rfl
set_option maxRecDepth 20000 in
theorem wi_X4_remove : Cond.initialized m_X4_remove.1.cls ∈ tb := tb1 9 rfl rfl
set_option maxRecDepth 20000 in
theorem wc_X4_remove : Cond.code m_X4_remove.1 m_X4_remove.2.1 m_X4_remove.2.2.1 m_X4_remove.2.2.2 ∈ tb := tb5 8 rfl rfl
theorem wn_X4_remove : m_X4_remove.1.cls ≠ "java/lang/invoke/MethodHandle" ∧ m_X4_remove.1.cls ≠ "java/lang/invoke/VarHandle" ∧ (parseMethodDescriptor m_X4_remove.1.desc).map (fun d => d.parameters.length) = some 1 := ⟨by decide +kernel, by decide +kernel, by decide +kernel⟩
set_option maxRecDepth 20000 in
theorem wm_X4_remove : Cond.instanceMethod m_X4_remove.1 ∈ tb := tb5 6 rfl rfl
set_option maxRecDepth 20000 in
theorem ws_X4_remove : Cond.selects m_X4_remove.1.cls m_X4_remove.1 m_X4_remove.1 ∈ tb := tb5 7 rfl rfl
set_option maxRecDepth 20000 in
theorem wi_X4_setWire : Cond.initialized m_X4_setWire.1.cls ∈ tb := tb1 9 rfl rfl
set_option maxRecDepth 20000 in
theorem wc_X4_setWire : Cond.code m_X4_setWire.1 m_X4_setWire.2.1 m_X4_setWire.2.2.1 m_X4_setWire.2.2.2 ∈ tb := tb4 85 rfl rfl
theorem wn_X4_setWire : m_X4_setWire.1.cls ≠ "java/lang/invoke/MethodHandle" ∧ m_X4_setWire.1.cls ≠ "java/lang/invoke/VarHandle" ∧ (parseMethodDescriptor m_X4_setWire.1.desc).map (fun d => d.parameters.length) = some 2 := ⟨by decide +kernel, by decide +kernel, by decide +kernel⟩
set_option maxRecDepth 20000 in
theorem wm_X4_setWire : Cond.instanceMethod m_X4_setWire.1 ∈ tb := tb4 83 rfl rfl
set_option maxRecDepth 20000 in
theorem ws_X4_setWire : Cond.selects m_X4_setWire.1.cls m_X4_setWire.1 m_X4_setWire.1 ∈ tb := tb4 84 rfl rfl
set_option maxRecDepth 20000 in
theorem wi_X4_waitsFor : Cond.initialized m_X4_waitsFor.1.cls ∈ tb := tb1 9 rfl rfl
set_option maxRecDepth 20000 in
theorem wc_X4_waitsFor : Cond.code m_X4_waitsFor.1 m_X4_waitsFor.2.1 m_X4_waitsFor.2.2.1 m_X4_waitsFor.2.2.2 ∈ tb := tb4 145 rfl rfl
theorem wn_X4_waitsFor : m_X4_waitsFor.1.cls ≠ "java/lang/invoke/MethodHandle" ∧ m_X4_waitsFor.1.cls ≠ "java/lang/invoke/VarHandle" ∧ (parseMethodDescriptor m_X4_waitsFor.1.desc).map (fun d => d.parameters.length) = some 1 := ⟨by decide +kernel, by decide +kernel, by decide +kernel⟩
set_option maxRecDepth 20000 in
theorem wm_X4_waitsFor : Cond.instanceMethod m_X4_waitsFor.1 ∈ tb := tb4 143 rfl rfl
set_option maxRecDepth 20000 in
theorem ws_X4_waitsFor : Cond.selects m_X4_waitsFor.1.cls m_X4_waitsFor.1 m_X4_waitsFor.1 ∈ tb := tb4 144 rfl rfl
set_option maxRecDepth 20000 in
theorem wi_X4_wireOf : Cond.initialized m_X4_wireOf.1.cls ∈ tb := tb1 9 rfl rfl
set_option maxRecDepth 20000 in
theorem wc_X4_wireOf : Cond.code m_X4_wireOf.1 m_X4_wireOf.2.1 m_X4_wireOf.2.2.1 m_X4_wireOf.2.2.2 ∈ tb := tb4 181 rfl rfl
theorem wn_X4_wireOf : m_X4_wireOf.1.cls ≠ "java/lang/invoke/MethodHandle" ∧ m_X4_wireOf.1.cls ≠ "java/lang/invoke/VarHandle" ∧ (parseMethodDescriptor m_X4_wireOf.1.desc).map (fun d => d.parameters.length) = some 1 := ⟨by decide +kernel, by decide +kernel, by decide +kernel⟩
set_option maxRecDepth 20000 in
theorem wm_X4_wireOf : Cond.instanceMethod m_X4_wireOf.1 ∈ tb := tb4 179 rfl rfl
set_option maxRecDepth 20000 in
theorem ws_X4_wireOf : Cond.selects m_X4_wireOf.1.cls m_X4_wireOf.1 m_X4_wireOf.1 ∈ tb := tb4 180 rfl rfl
set_option maxRecDepth 20000 in
theorem wi_X5_byteAt : Cond.initialized m_X5_byteAt.1.cls ∈ tb := tb1 13 rfl rfl
set_option maxRecDepth 20000 in
theorem wc_X5_byteAt : Cond.code m_X5_byteAt.1 m_X5_byteAt.2.1 m_X5_byteAt.2.2.1 m_X5_byteAt.2.2.2 ∈ tb := tb5 206 rfl rfl
theorem wn_X5_byteAt : m_X5_byteAt.1.cls ≠ "java/lang/invoke/MethodHandle" ∧ m_X5_byteAt.1.cls ≠ "java/lang/invoke/VarHandle" ∧ (parseMethodDescriptor m_X5_byteAt.1.desc).map (fun d => d.parameters.length) = some 1 := ⟨by decide +kernel, by decide +kernel, by decide +kernel⟩
set_option maxRecDepth 20000 in
theorem wm_X5_byteAt : Cond.instanceMethod m_X5_byteAt.1 ∈ tb := tb5 204 rfl rfl
set_option maxRecDepth 20000 in
theorem ws_X5_byteAt : Cond.selects m_X5_byteAt.1.cls m_X5_byteAt.1 m_X5_byteAt.1 ∈ tb := tb5 205 rfl rfl
set_option maxRecDepth 20000 in
theorem wi_X5_put : Cond.initialized m_X5_put.1.cls ∈ tb := tb1 13 rfl rfl
set_option maxRecDepth 20000 in
theorem wc_X5_put : Cond.code m_X5_put.1 m_X5_put.2.1 m_X5_put.2.2.1 m_X5_put.2.2.2 ∈ tb := tb5 178 rfl rfl
theorem wn_X5_put : m_X5_put.1.cls ≠ "java/lang/invoke/MethodHandle" ∧ m_X5_put.1.cls ≠ "java/lang/invoke/VarHandle" ∧ (parseMethodDescriptor m_X5_put.1.desc).map (fun d => d.parameters.length) = some 1 := ⟨by decide +kernel, by decide +kernel, by decide +kernel⟩
set_option maxRecDepth 20000 in
theorem wm_X5_put : Cond.instanceMethod m_X5_put.1 ∈ tb := tb5 177 rfl rfl
theorem ws_X5_put : Cond.selects m_X5_put.1.cls m_X5_put.1 m_X5_put.1 ∈ tb := tb_sel (q := (m_X5_put.1, 2)) (List.mem_of_getElem? (i := 55) (by decide +kernel)) rfl
set_option maxRecDepth 20000 in
theorem wi_X5_putAgent : Cond.initialized m_X5_putAgent.1.cls ∈ tb := tb1 13 rfl rfl
set_option maxRecDepth 20000 in
theorem wc_X5_putAgent : Cond.code m_X5_putAgent.1 m_X5_putAgent.2.1 m_X5_putAgent.2.2.1 m_X5_putAgent.2.2.2 ∈ tb := tb5 185 rfl rfl
theorem wn_X5_putAgent : m_X5_putAgent.1.cls ≠ "java/lang/invoke/MethodHandle" ∧ m_X5_putAgent.1.cls ≠ "java/lang/invoke/VarHandle" ∧ (parseMethodDescriptor m_X5_putAgent.1.desc).map (fun d => d.parameters.length) = some 3 := ⟨by decide +kernel, by decide +kernel, by decide +kernel⟩
set_option maxRecDepth 20000 in
theorem wm_X5_putAgent : Cond.instanceMethod m_X5_putAgent.1 ∈ tb := tb5 184 rfl rfl
theorem ws_X5_putAgent : Cond.selects m_X5_putAgent.1.cls m_X5_putAgent.1 m_X5_putAgent.1 ∈ tb := tb_sel (q := (m_X5_putAgent.1, 2)) (List.mem_of_getElem? (i := 56) (by decide +kernel)) rfl
set_option maxRecDepth 20000 in
theorem wi_X5_putName : Cond.initialized m_X5_putName.1.cls ∈ tb := tb1 13 rfl rfl
set_option maxRecDepth 20000 in
theorem wc_X5_putName : Cond.code m_X5_putName.1 m_X5_putName.2.1 m_X5_putName.2.2.1 m_X5_putName.2.2.2 ∈ tb := tb5 194 rfl rfl
theorem wn_X5_putName : m_X5_putName.1.cls ≠ "java/lang/invoke/MethodHandle" ∧ m_X5_putName.1.cls ≠ "java/lang/invoke/VarHandle" ∧ (parseMethodDescriptor m_X5_putName.1.desc).map (fun d => d.parameters.length) = some 1 := ⟨by decide +kernel, by decide +kernel, by decide +kernel⟩
set_option maxRecDepth 20000 in
theorem wm_X5_putName : Cond.instanceMethod m_X5_putName.1 ∈ tb := tb5 193 rfl rfl
theorem ws_X5_putName : Cond.selects m_X5_putName.1.cls m_X5_putName.1 m_X5_putName.1 ∈ tb := tb_sel (q := (m_X5_putName.1, 2)) (List.mem_of_getElem? (i := 57) (by decide +kernel)) rfl
set_option maxRecDepth 20000 in
theorem wi_X5_putTree : Cond.initialized m_X5_putTree.1.cls ∈ tb := tb1 13 rfl rfl
set_option maxRecDepth 20000 in
theorem wc_X5_putTree : Cond.code m_X5_putTree.1 m_X5_putTree.2.1 m_X5_putTree.2.2.1 m_X5_putTree.2.2.2 ∈ tb := tb5 174 rfl rfl
theorem wn_X5_putTree : m_X5_putTree.1.cls ≠ "java/lang/invoke/MethodHandle" ∧ m_X5_putTree.1.cls ≠ "java/lang/invoke/VarHandle" ∧ (parseMethodDescriptor m_X5_putTree.1.desc).map (fun d => d.parameters.length) = some 3 := ⟨by decide +kernel, by decide +kernel, by decide +kernel⟩
set_option maxRecDepth 20000 in
theorem wm_X5_putTree : Cond.instanceMethod m_X5_putTree.1 ∈ tb := tb5 173 rfl rfl
theorem ws_X5_putTree : Cond.selects m_X5_putTree.1.cls m_X5_putTree.1 m_X5_putTree.1 ∈ tb := tb_sel (q := (m_X5_putTree.1, 2)) (List.mem_of_getElem? (i := 54) (by decide +kernel)) rfl
set_option maxRecDepth 20000 in
theorem wi_X6_agentsFit : Cond.initialized m_X6_agentsFit.1.cls ∈ tb := tb1 2 rfl rfl
set_option maxRecDepth 20000 in
theorem wc_X6_agentsFit : Cond.code m_X6_agentsFit.1 m_X6_agentsFit.2.1 m_X6_agentsFit.2.2.1 m_X6_agentsFit.2.2.2 ∈ tb := tb3 206 rfl rfl
theorem wn_X6_agentsFit : m_X6_agentsFit.1.cls ≠ "java/lang/invoke/MethodHandle" ∧ m_X6_agentsFit.1.cls ≠ "java/lang/invoke/VarHandle" ∧ (parseMethodDescriptor m_X6_agentsFit.1.desc).map (fun d => d.parameters.length) = some 0 := ⟨by decide +kernel, by decide +kernel, by decide +kernel⟩
set_option maxRecDepth 20000 in
theorem wm_X6_agentsFit : Cond.instanceMethod m_X6_agentsFit.1 ∈ tb := tb3 205 rfl rfl
theorem ws_X6_agentsFit : Cond.selects m_X6_agentsFit.1.cls m_X6_agentsFit.1 m_X6_agentsFit.1 ∈ tb := tb_sel (q := (m_X6_agentsFit.1, 8)) (List.mem_of_getElem? (i := 22) (by decide +kernel)) rfl
set_option maxRecDepth 20000 in
theorem wi_X6_askBracket : Cond.initialized m_X6_askBracket.1.cls ∈ tb := tb1 2 rfl rfl
set_option maxRecDepth 20000 in
theorem wc_X6_askBracket : Cond.code m_X6_askBracket.1 m_X6_askBracket.2.1 m_X6_askBracket.2.2.1 m_X6_askBracket.2.2.2 ∈ tb := tb3 166 rfl rfl
theorem wn_X6_askBracket : m_X6_askBracket.1.cls ≠ "java/lang/invoke/MethodHandle" ∧ m_X6_askBracket.1.cls ≠ "java/lang/invoke/VarHandle" ∧ (parseMethodDescriptor m_X6_askBracket.1.desc).map (fun d => d.parameters.length) = some 3 := ⟨by decide +kernel, by decide +kernel, by decide +kernel⟩
set_option maxRecDepth 20000 in
theorem wm_X6_askBracket : Cond.instanceMethod m_X6_askBracket.1 ∈ tb := tb3 165 rfl rfl
theorem ws_X6_askBracket : Cond.selects m_X6_askBracket.1.cls m_X6_askBracket.1 m_X6_askBracket.1 ∈ tb := tb_sel (q := (m_X6_askBracket.1, 8)) (List.mem_of_getElem? (i := 17) (by decide +kernel)) rfl
set_option maxRecDepth 20000 in
theorem wi_X6_endNet : Cond.initialized m_X6_endNet.1.cls ∈ tb := tb1 2 rfl rfl
set_option maxRecDepth 20000 in
theorem wc_X6_endNet : Cond.code m_X6_endNet.1 m_X6_endNet.2.1 m_X6_endNet.2.2.1 m_X6_endNet.2.2.2 ∈ tb := tb4 66 rfl rfl
theorem wn_X6_endNet : m_X6_endNet.1.cls ≠ "java/lang/invoke/MethodHandle" ∧ m_X6_endNet.1.cls ≠ "java/lang/invoke/VarHandle" ∧ (parseMethodDescriptor m_X6_endNet.1.desc).map (fun d => d.parameters.length) = some 0 := ⟨by decide +kernel, by decide +kernel, by decide +kernel⟩
set_option maxRecDepth 20000 in
theorem wm_X6_endNet : Cond.instanceMethod m_X6_endNet.1 ∈ tb := tb4 65 rfl rfl
theorem ws_X6_endNet : Cond.selects m_X6_endNet.1.cls m_X6_endNet.1 m_X6_endNet.1 ∈ tb := tb_sel (q := (m_X6_endNet.1, 8)) (List.mem_of_getElem? (i := 32) (by decide +kernel)) rfl
set_option maxRecDepth 20000 in
theorem wi_X6_endRule : Cond.initialized m_X6_endRule.1.cls ∈ tb := tb1 2 rfl rfl
set_option maxRecDepth 20000 in
theorem wc_X6_endRule : Cond.code m_X6_endRule.1 m_X6_endRule.2.1 m_X6_endRule.2.2.1 m_X6_endRule.2.2.2 ∈ tb := tb3 193 rfl rfl
theorem wn_X6_endRule : m_X6_endRule.1.cls ≠ "java/lang/invoke/MethodHandle" ∧ m_X6_endRule.1.cls ≠ "java/lang/invoke/VarHandle" ∧ (parseMethodDescriptor m_X6_endRule.1.desc).map (fun d => d.parameters.length) = some 0 := ⟨by decide +kernel, by decide +kernel, by decide +kernel⟩
set_option maxRecDepth 20000 in
theorem wm_X6_endRule : Cond.instanceMethod m_X6_endRule.1 ∈ tb := tb3 192 rfl rfl
theorem ws_X6_endRule : Cond.selects m_X6_endRule.1.cls m_X6_endRule.1 m_X6_endRule.1 ∈ tb := tb_sel (q := (m_X6_endRule.1, 8)) (List.mem_of_getElem? (i := 21) (by decide +kernel)) rfl
set_option maxRecDepth 20000 in
theorem wi_X6_fits : Cond.initialized m_X6_fits.1.cls ∈ tb := tb1 2 rfl rfl
set_option maxRecDepth 20000 in
theorem wc_X6_fits : Cond.code m_X6_fits.1 m_X6_fits.2.1 m_X6_fits.2.2.1 m_X6_fits.2.2.2 ∈ tb := tb3 232 rfl rfl
theorem wn_X6_fits : m_X6_fits.1.cls ≠ "java/lang/invoke/MethodHandle" ∧ m_X6_fits.1.cls ≠ "java/lang/invoke/VarHandle" ∧ (parseMethodDescriptor m_X6_fits.1.desc).map (fun d => d.parameters.length) = some 2 := ⟨by decide +kernel, by decide +kernel, by decide +kernel⟩
set_option maxRecDepth 20000 in
theorem wm_X6_fits : Cond.instanceMethod m_X6_fits.1 ∈ tb := tb3 231 rfl rfl
theorem ws_X6_fits : Cond.selects m_X6_fits.1.cls m_X6_fits.1 m_X6_fits.1 ∈ tb := tb_sel (q := (m_X6_fits.1, 8)) (List.mem_of_getElem? (i := 24) (by decide +kernel)) rfl
set_option maxRecDepth 20000 in
theorem wi_X6_hasSlot : Cond.initialized m_X6_hasSlot.1.cls ∈ tb := tb1 2 rfl rfl
set_option maxRecDepth 20000 in
theorem wc_X6_hasSlot : Cond.code m_X6_hasSlot.1 m_X6_hasSlot.2.1 m_X6_hasSlot.2.2.1 m_X6_hasSlot.2.2.2 ∈ tb := tb4 20 rfl rfl
theorem wn_X6_hasSlot : m_X6_hasSlot.1.cls ≠ "java/lang/invoke/MethodHandle" ∧ m_X6_hasSlot.1.cls ≠ "java/lang/invoke/VarHandle" ∧ (parseMethodDescriptor m_X6_hasSlot.1.desc).map (fun d => d.parameters.length) = some 1 := ⟨by decide +kernel, by decide +kernel, by decide +kernel⟩
set_option maxRecDepth 20000 in
theorem wm_X6_hasSlot : Cond.instanceMethod m_X6_hasSlot.1 ∈ tb := tb4 19 rfl rfl
theorem ws_X6_hasSlot : Cond.selects m_X6_hasSlot.1.cls m_X6_hasSlot.1 m_X6_hasSlot.1 ∈ tb := tb_sel (q := (m_X6_hasSlot.1, 8)) (List.mem_of_getElem? (i := 28) (by decide +kernel)) rfl
set_option maxRecDepth 20000 in
theorem wi_X6_isWord : Cond.initialized m_X6_isWord.1.cls ∈ tb := tb1 2 rfl rfl
set_option maxRecDepth 20000 in
theorem wc_X6_isWord : Cond.code m_X6_isWord.1 m_X6_isWord.2.1 m_X6_isWord.2.2.1 m_X6_isWord.2.2.2 ∈ tb := tb3 72 rfl rfl
theorem wn_X6_isWord : m_X6_isWord.1.cls ≠ "java/lang/invoke/MethodHandle" ∧ m_X6_isWord.1.cls ≠ "java/lang/invoke/VarHandle" ∧ (parseMethodDescriptor m_X6_isWord.1.desc).map (fun d => d.parameters.length) = some 1 := ⟨by decide +kernel, by decide +kernel, by decide +kernel⟩
set_option maxRecDepth 20000 in
theorem wm_X6_isWord : Cond.instanceMethod m_X6_isWord.1 ∈ tb := tb3 71 rfl rfl
theorem ws_X6_isWord : Cond.selects m_X6_isWord.1.cls m_X6_isWord.1 m_X6_isWord.1 ∈ tb := tb_sel (q := (m_X6_isWord.1, 8)) (List.mem_of_getElem? (i := 6) (by decide +kernel)) rfl
set_option maxRecDepth 20000 in
theorem wi_X6_pass : Cond.initialized m_X6_pass.1.cls ∈ tb := tb1 2 rfl rfl
set_option maxRecDepth 20000 in
theorem wc_X6_pass : Cond.code m_X6_pass.1 m_X6_pass.2.1 m_X6_pass.2.2.1 m_X6_pass.2.2.2 ∈ tb := tb3 120 rfl rfl
theorem wn_X6_pass : m_X6_pass.1.cls ≠ "java/lang/invoke/MethodHandle" ∧ m_X6_pass.1.cls ≠ "java/lang/invoke/VarHandle" ∧ (parseMethodDescriptor m_X6_pass.1.desc).map (fun d => d.parameters.length) = some 1 := ⟨by decide +kernel, by decide +kernel, by decide +kernel⟩
set_option maxRecDepth 20000 in
theorem wm_X6_pass : Cond.instanceMethod m_X6_pass.1 ∈ tb := tb3 119 rfl rfl
theorem ws_X6_pass : Cond.selects m_X6_pass.1.cls m_X6_pass.1 m_X6_pass.1 ∈ tb := tb_sel (q := (m_X6_pass.1, 8)) (List.mem_of_getElem? (i := 12) (by decide +kernel)) rfl
set_option maxRecDepth 20000 in
theorem wi_X6_readBracket : Cond.initialized m_X6_readBracket.1.cls ∈ tb := tb1 2 rfl rfl
set_option maxRecDepth 20000 in
theorem wc_X6_readBracket : Cond.code m_X6_readBracket.1 m_X6_readBracket.2.1 m_X6_readBracket.2.2.1 m_X6_readBracket.2.2.2 ∈ tb := tb3 186 rfl rfl
theorem wn_X6_readBracket : m_X6_readBracket.1.cls ≠ "java/lang/invoke/MethodHandle" ∧ m_X6_readBracket.1.cls ≠ "java/lang/invoke/VarHandle" ∧ (parseMethodDescriptor m_X6_readBracket.1.desc).map (fun d => d.parameters.length) = some 2 := ⟨by decide +kernel, by decide +kernel, by decide +kernel⟩
set_option maxRecDepth 20000 in
theorem wm_X6_readBracket : Cond.instanceMethod m_X6_readBracket.1 ∈ tb := tb3 185 rfl rfl
theorem ws_X6_readBracket : Cond.selects m_X6_readBracket.1.cls m_X6_readBracket.1 m_X6_readBracket.1 ∈ tb := tb_sel (q := (m_X6_readBracket.1, 8)) (List.mem_of_getElem? (i := 20) (by decide +kernel)) rfl
set_option maxRecDepth 20000 in
theorem wi_X6_readKind : Cond.initialized m_X6_readKind.1.cls ∈ tb := tb1 2 rfl rfl
set_option maxRecDepth 20000 in
theorem wc_X6_readKind : Cond.code m_X6_readKind.1 m_X6_readKind.2.1 m_X6_readKind.2.2.1 m_X6_readKind.2.2.2 ∈ tb := tb3 76 rfl rfl
theorem wn_X6_readKind : m_X6_readKind.1.cls ≠ "java/lang/invoke/MethodHandle" ∧ m_X6_readKind.1.cls ≠ "java/lang/invoke/VarHandle" ∧ (parseMethodDescriptor m_X6_readKind.1.desc).map (fun d => d.parameters.length) = some 0 := ⟨by decide +kernel, by decide +kernel, by decide +kernel⟩
set_option maxRecDepth 20000 in
theorem wm_X6_readKind : Cond.instanceMethod m_X6_readKind.1 ∈ tb := tb3 75 rfl rfl
theorem ws_X6_readKind : Cond.selects m_X6_readKind.1.cls m_X6_readKind.1 m_X6_readKind.1 ∈ tb := tb_sel (q := (m_X6_readKind.1, 8)) (List.mem_of_getElem? (i := 7) (by decide +kernel)) rfl
set_option maxRecDepth 20000 in
theorem wi_X6_readLinks : Cond.initialized m_X6_readLinks.1.cls ∈ tb := tb1 2 rfl rfl
set_option maxRecDepth 20000 in
theorem wc_X6_readLinks : Cond.code m_X6_readLinks.1 m_X6_readLinks.2.1 m_X6_readLinks.2.2.1 m_X6_readLinks.2.2.2 ∈ tb := tb3 174 rfl rfl
theorem wn_X6_readLinks : m_X6_readLinks.1.cls ≠ "java/lang/invoke/MethodHandle" ∧ m_X6_readLinks.1.cls ≠ "java/lang/invoke/VarHandle" ∧ (parseMethodDescriptor m_X6_readLinks.1.desc).map (fun d => d.parameters.length) = some 0 := ⟨by decide +kernel, by decide +kernel, by decide +kernel⟩
set_option maxRecDepth 20000 in
theorem wm_X6_readLinks : Cond.instanceMethod m_X6_readLinks.1 ∈ tb := tb3 173 rfl rfl
theorem ws_X6_readLinks : Cond.selects m_X6_readLinks.1.cls m_X6_readLinks.1 m_X6_readLinks.1 ∈ tb := tb_sel (q := (m_X6_readLinks.1, 8)) (List.mem_of_getElem? (i := 18) (by decide +kernel)) rfl
set_option maxRecDepth 20000 in
theorem wi_X6_readName : Cond.initialized m_X6_readName.1.cls ∈ tb := tb1 2 rfl rfl
set_option maxRecDepth 20000 in
theorem wc_X6_readName : Cond.code m_X6_readName.1 m_X6_readName.2.1 m_X6_readName.2.2.1 m_X6_readName.2.2.2 ∈ tb := tb3 146 rfl rfl
theorem wn_X6_readName : m_X6_readName.1.cls ≠ "java/lang/invoke/MethodHandle" ∧ m_X6_readName.1.cls ≠ "java/lang/invoke/VarHandle" ∧ (parseMethodDescriptor m_X6_readName.1.desc).map (fun d => d.parameters.length) = some 1 := ⟨by decide +kernel, by decide +kernel, by decide +kernel⟩
set_option maxRecDepth 20000 in
theorem wm_X6_readName : Cond.instanceMethod m_X6_readName.1 ∈ tb := tb3 145 rfl rfl
theorem ws_X6_readName : Cond.selects m_X6_readName.1.cls m_X6_readName.1 m_X6_readName.1 ∈ tb := tb_sel (q := (m_X6_readName.1, 8)) (List.mem_of_getElem? (i := 16) (by decide +kernel)) rfl
set_option maxRecDepth 20000 in
theorem wi_X6_readNet : Cond.initialized m_X6_readNet.1.cls ∈ tb := tb1 2 rfl rfl
set_option maxRecDepth 20000 in
theorem wc_X6_readNet : Cond.code m_X6_readNet.1 m_X6_readNet.2.1 m_X6_readNet.2.2.1 m_X6_readNet.2.2.2 ∈ tb := tb4 62 rfl rfl
theorem wn_X6_readNet : m_X6_readNet.1.cls ≠ "java/lang/invoke/MethodHandle" ∧ m_X6_readNet.1.cls ≠ "java/lang/invoke/VarHandle" ∧ (parseMethodDescriptor m_X6_readNet.1.desc).map (fun d => d.parameters.length) = some 0 := ⟨by decide +kernel, by decide +kernel, by decide +kernel⟩
set_option maxRecDepth 20000 in
theorem wm_X6_readNet : Cond.instanceMethod m_X6_readNet.1 ∈ tb := tb4 61 rfl rfl
theorem ws_X6_readNet : Cond.selects m_X6_readNet.1.cls m_X6_readNet.1 m_X6_readNet.1 ∈ tb := tb_sel (q := (m_X6_readNet.1, 8)) (List.mem_of_getElem? (i := 31) (by decide +kernel)) rfl
set_option maxRecDepth 20000 in
theorem wi_X6_readPort : Cond.initialized m_X6_readPort.1.cls ∈ tb := tb1 2 rfl rfl
set_option maxRecDepth 20000 in
theorem wc_X6_readPort : Cond.code m_X6_readPort.1 m_X6_readPort.2.1 m_X6_readPort.2.2.1 m_X6_readPort.2.2.2 ∈ tb := tb3 106 rfl rfl
theorem wn_X6_readPort : m_X6_readPort.1.cls ≠ "java/lang/invoke/MethodHandle" ∧ m_X6_readPort.1.cls ≠ "java/lang/invoke/VarHandle" ∧ (parseMethodDescriptor m_X6_readPort.1.desc).map (fun d => d.parameters.length) = some 1 := ⟨by decide +kernel, by decide +kernel, by decide +kernel⟩
set_option maxRecDepth 20000 in
theorem wm_X6_readPort : Cond.instanceMethod m_X6_readPort.1 ∈ tb := tb3 105 rfl rfl
theorem ws_X6_readPort : Cond.selects m_X6_readPort.1.cls m_X6_readPort.1 m_X6_readPort.1 ∈ tb := tb_sel (q := (m_X6_readPort.1, 8)) (List.mem_of_getElem? (i := 11) (by decide +kernel)) rfl
set_option maxRecDepth 20000 in
theorem wi_X6_readPorts : Cond.initialized m_X6_readPorts.1.cls ∈ tb := tb1 2 rfl rfl
set_option maxRecDepth 20000 in
theorem wc_X6_readPorts : Cond.code m_X6_readPorts.1 m_X6_readPorts.2.1 m_X6_readPorts.2.2.1 m_X6_readPorts.2.2.2 ∈ tb := tb3 102 rfl rfl
theorem wn_X6_readPorts : m_X6_readPorts.1.cls ≠ "java/lang/invoke/MethodHandle" ∧ m_X6_readPorts.1.cls ≠ "java/lang/invoke/VarHandle" ∧ (parseMethodDescriptor m_X6_readPorts.1.desc).map (fun d => d.parameters.length) = some 0 := ⟨by decide +kernel, by decide +kernel, by decide +kernel⟩
set_option maxRecDepth 20000 in
theorem wm_X6_readPorts : Cond.instanceMethod m_X6_readPorts.1 ∈ tb := tb3 101 rfl rfl
theorem ws_X6_readPorts : Cond.selects m_X6_readPorts.1.cls m_X6_readPorts.1 m_X6_readPorts.1 ∈ tb := tb_sel (q := (m_X6_readPorts.1, 8)) (List.mem_of_getElem? (i := 10) (by decide +kernel)) rfl
set_option maxRecDepth 20000 in
theorem wi_X6_readRule : Cond.initialized m_X6_readRule.1.cls ∈ tb := tb1 2 rfl rfl
set_option maxRecDepth 20000 in
theorem wc_X6_readRule : Cond.code m_X6_readRule.1 m_X6_readRule.2.1 m_X6_readRule.2.2.1 m_X6_readRule.2.2.2 ∈ tb := tb3 125 rfl rfl
theorem wn_X6_readRule : m_X6_readRule.1.cls ≠ "java/lang/invoke/MethodHandle" ∧ m_X6_readRule.1.cls ≠ "java/lang/invoke/VarHandle" ∧ (parseMethodDescriptor m_X6_readRule.1.desc).map (fun d => d.parameters.length) = some 0 := ⟨by decide +kernel, by decide +kernel, by decide +kernel⟩
set_option maxRecDepth 20000 in
theorem wm_X6_readRule : Cond.instanceMethod m_X6_readRule.1 ∈ tb := tb3 124 rfl rfl
theorem ws_X6_readRule : Cond.selects m_X6_readRule.1.cls m_X6_readRule.1 m_X6_readRule.1 ∈ tb := tb_sel (q := (m_X6_readRule.1, 8)) (List.mem_of_getElem? (i := 13) (by decide +kernel)) rfl
set_option maxRecDepth 20000 in
theorem wi_X6_readSide : Cond.initialized m_X6_readSide.1.cls ∈ tb := tb1 2 rfl rfl
set_option maxRecDepth 20000 in
theorem wc_X6_readSide : Cond.code m_X6_readSide.1 m_X6_readSide.2.1 m_X6_readSide.2.2.1 m_X6_readSide.2.2.2 ∈ tb := tb3 138 rfl rfl
theorem wn_X6_readSide : m_X6_readSide.1.cls ≠ "java/lang/invoke/MethodHandle" ∧ m_X6_readSide.1.cls ≠ "java/lang/invoke/VarHandle" ∧ (parseMethodDescriptor m_X6_readSide.1.desc).map (fun d => d.parameters.length) = some 1 := ⟨by decide +kernel, by decide +kernel, by decide +kernel⟩
set_option maxRecDepth 20000 in
theorem wm_X6_readSide : Cond.instanceMethod m_X6_readSide.1 ∈ tb := tb3 137 rfl rfl
theorem ws_X6_readSide : Cond.selects m_X6_readSide.1.cls m_X6_readSide.1 m_X6_readSide.1 ∈ tb := tb_sel (q := (m_X6_readSide.1, 8)) (List.mem_of_getElem? (i := 14) (by decide +kernel)) rfl
set_option maxRecDepth 20000 in
theorem wi_X6_readSideNames : Cond.initialized m_X6_readSideNames.1.cls ∈ tb := tb1 2 rfl rfl
set_option maxRecDepth 20000 in
theorem wc_X6_readSideNames : Cond.code m_X6_readSideNames.1 m_X6_readSideNames.2.1 m_X6_readSideNames.2.2.1 m_X6_readSideNames.2.2.2 ∈ tb := tb3 142 rfl rfl
theorem wn_X6_readSideNames : m_X6_readSideNames.1.cls ≠ "java/lang/invoke/MethodHandle" ∧ m_X6_readSideNames.1.cls ≠ "java/lang/invoke/VarHandle" ∧ (parseMethodDescriptor m_X6_readSideNames.1.desc).map (fun d => d.parameters.length) = some 1 := ⟨by decide +kernel, by decide +kernel, by decide +kernel⟩
set_option maxRecDepth 20000 in
theorem wm_X6_readSideNames : Cond.instanceMethod m_X6_readSideNames.1 ∈ tb := tb3 141 rfl rfl
theorem ws_X6_readSideNames : Cond.selects m_X6_readSideNames.1.cls m_X6_readSideNames.1 m_X6_readSideNames.1 ∈ tb := tb_sel (q := (m_X6_readSideNames.1, 8)) (List.mem_of_getElem? (i := 15) (by decide +kernel)) rfl
set_option maxRecDepth 20000 in
theorem wi_X6_readTerm : Cond.initialized m_X6_readTerm.1.cls ∈ tb := tb1 2 rfl rfl
set_option maxRecDepth 20000 in
theorem wc_X6_readTerm : Cond.code m_X6_readTerm.1 m_X6_readTerm.2.1 m_X6_readTerm.2.2.1 m_X6_readTerm.2.2.2 ∈ tb := tb3 178 rfl rfl
theorem wn_X6_readTerm : m_X6_readTerm.1.cls ≠ "java/lang/invoke/MethodHandle" ∧ m_X6_readTerm.1.cls ≠ "java/lang/invoke/VarHandle" ∧ (parseMethodDescriptor m_X6_readTerm.1.desc).map (fun d => d.parameters.length) = some 1 := ⟨by decide +kernel, by decide +kernel, by decide +kernel⟩
set_option maxRecDepth 20000 in
theorem wm_X6_readTerm : Cond.instanceMethod m_X6_readTerm.1 ∈ tb := tb3 177 rfl rfl
theorem ws_X6_readTerm : Cond.selects m_X6_readTerm.1.cls m_X6_readTerm.1 m_X6_readTerm.1 ∈ tb := tb_sel (q := (m_X6_readTerm.1, 8)) (List.mem_of_getElem? (i := 19) (by decide +kernel)) rfl
set_option maxRecDepth 20000 in
theorem wi_X6_readText : Cond.initialized m_X6_readText.1.cls ∈ tb := tb1 2 rfl rfl
set_option maxRecDepth 20000 in
theorem wc_X6_readText : Cond.code m_X6_readText.1 m_X6_readText.2.1 m_X6_readText.2.2.1 m_X6_readText.2.2.2 ∈ tb := tb2 162 rfl rfl
theorem wn_X6_readText : m_X6_readText.1.cls ≠ "java/lang/invoke/MethodHandle" ∧ m_X6_readText.1.cls ≠ "java/lang/invoke/VarHandle" ∧ (parseMethodDescriptor m_X6_readText.1.desc).map (fun d => d.parameters.length) = some 0 := ⟨by decide +kernel, by decide +kernel, by decide +kernel⟩
set_option maxRecDepth 20000 in
theorem wm_X6_readText : Cond.instanceMethod m_X6_readText.1 ∈ tb := tb2 160 rfl rfl
set_option maxRecDepth 20000 in
theorem ws_X6_readText : Cond.selects m_X6_readText.1.cls m_X6_readText.1 m_X6_readText.1 ∈ tb := tb2 161 rfl rfl
set_option maxRecDepth 20000 in
theorem wi_X6_refuse : Cond.initialized m_X6_refuse.1.cls ∈ tb := tb1 2 rfl rfl
set_option maxRecDepth 20000 in
theorem wc_X6_refuse : Cond.code m_X6_refuse.1 m_X6_refuse.2.1 m_X6_refuse.2.2.1 m_X6_refuse.2.2.2 ∈ tb := tb3 89 rfl rfl
theorem wn_X6_refuse : m_X6_refuse.1.cls ≠ "java/lang/invoke/MethodHandle" ∧ m_X6_refuse.1.cls ≠ "java/lang/invoke/VarHandle" ∧ (parseMethodDescriptor m_X6_refuse.1.desc).map (fun d => d.parameters.length) = some 1 := ⟨by decide +kernel, by decide +kernel, by decide +kernel⟩
set_option maxRecDepth 20000 in
theorem wm_X6_refuse : Cond.instanceMethod m_X6_refuse.1 ∈ tb := tb3 88 rfl rfl
theorem ws_X6_refuse : Cond.selects m_X6_refuse.1.cls m_X6_refuse.1 m_X6_refuse.1 ∈ tb := tb_sel (q := (m_X6_refuse.1, 8)) (List.mem_of_getElem? (i := 9) (by decide +kernel)) rfl
set_option maxRecDepth 20000 in
theorem wi_X6_refuseToken : Cond.initialized m_X6_refuseToken.1.cls ∈ tb := tb1 2 rfl rfl
set_option maxRecDepth 20000 in
theorem wc_X6_refuseToken : Cond.code m_X6_refuseToken.1 m_X6_refuseToken.2.1 m_X6_refuseToken.2.2.1 m_X6_refuseToken.2.2.2 ∈ tb := tb3 81 rfl rfl
theorem wn_X6_refuseToken : m_X6_refuseToken.1.cls ≠ "java/lang/invoke/MethodHandle" ∧ m_X6_refuseToken.1.cls ≠ "java/lang/invoke/VarHandle" ∧ (parseMethodDescriptor m_X6_refuseToken.1.desc).map (fun d => d.parameters.length) = some 0 := ⟨by decide +kernel, by decide +kernel, by decide +kernel⟩
set_option maxRecDepth 20000 in
theorem wm_X6_refuseToken : Cond.instanceMethod m_X6_refuseToken.1 ∈ tb := tb3 80 rfl rfl
theorem ws_X6_refuseToken : Cond.selects m_X6_refuseToken.1.cls m_X6_refuseToken.1 m_X6_refuseToken.1 ∈ tb := tb_sel (q := (m_X6_refuseToken.1, 8)) (List.mem_of_getElem? (i := 8) (by decide +kernel)) rfl
set_option maxRecDepth 20000 in
theorem wi_X6_slotKind : Cond.initialized m_X6_slotKind.1.cls ∈ tb := tb1 2 rfl rfl
set_option maxRecDepth 20000 in
theorem wc_X6_slotKind : Cond.code m_X6_slotKind.1 m_X6_slotKind.2.1 m_X6_slotKind.2.2.1 m_X6_slotKind.2.2.2 ∈ tb := tb4 9 rfl rfl
theorem wn_X6_slotKind : m_X6_slotKind.1.cls ≠ "java/lang/invoke/MethodHandle" ∧ m_X6_slotKind.1.cls ≠ "java/lang/invoke/VarHandle" ∧ (parseMethodDescriptor m_X6_slotKind.1.desc).map (fun d => d.parameters.length) = some 1 := ⟨by decide +kernel, by decide +kernel, by decide +kernel⟩
set_option maxRecDepth 20000 in
theorem wm_X6_slotKind : Cond.instanceMethod m_X6_slotKind.1 ∈ tb := tb4 8 rfl rfl
theorem ws_X6_slotKind : Cond.selects m_X6_slotKind.1.cls m_X6_slotKind.1 m_X6_slotKind.1 ∈ tb := tb_sel (q := (m_X6_slotKind.1, 8)) (List.mem_of_getElem? (i := 26) (by decide +kernel)) rfl
set_option maxRecDepth 20000 in
theorem wi_X6_slotPort : Cond.initialized m_X6_slotPort.1.cls ∈ tb := tb1 2 rfl rfl
set_option maxRecDepth 20000 in
theorem wc_X6_slotPort : Cond.code m_X6_slotPort.1 m_X6_slotPort.2.1 m_X6_slotPort.2.2.1 m_X6_slotPort.2.2.2 ∈ tb := tb4 12 rfl rfl
theorem wn_X6_slotPort : m_X6_slotPort.1.cls ≠ "java/lang/invoke/MethodHandle" ∧ m_X6_slotPort.1.cls ≠ "java/lang/invoke/VarHandle" ∧ (parseMethodDescriptor m_X6_slotPort.1.desc).map (fun d => d.parameters.length) = some 1 := ⟨by decide +kernel, by decide +kernel, by decide +kernel⟩
set_option maxRecDepth 20000 in
theorem wm_X6_slotPort : Cond.static m_X6_slotPort.1 ∈ tb := tb4 11 rfl rfl
set_option maxRecDepth 20000 in
theorem wi_X6_slotSort : Cond.initialized m_X6_slotSort.1.cls ∈ tb := tb1 2 rfl rfl
set_option maxRecDepth 20000 in
theorem wc_X6_slotSort : Cond.code m_X6_slotSort.1 m_X6_slotSort.2.1 m_X6_slotSort.2.2.1 m_X6_slotSort.2.2.2 ∈ tb := tb4 5 rfl rfl
theorem wn_X6_slotSort : m_X6_slotSort.1.cls ≠ "java/lang/invoke/MethodHandle" ∧ m_X6_slotSort.1.cls ≠ "java/lang/invoke/VarHandle" ∧ (parseMethodDescriptor m_X6_slotSort.1.desc).map (fun d => d.parameters.length) = some 1 := ⟨by decide +kernel, by decide +kernel, by decide +kernel⟩
set_option maxRecDepth 20000 in
theorem wm_X6_slotSort : Cond.instanceMethod m_X6_slotSort.1 ∈ tb := tb4 4 rfl rfl
theorem ws_X6_slotSort : Cond.selects m_X6_slotSort.1.cls m_X6_slotSort.1 m_X6_slotSort.1 ∈ tb := tb_sel (q := (m_X6_slotSort.1, 8)) (List.mem_of_getElem? (i := 25) (by decide +kernel)) rfl
set_option maxRecDepth 20000 in
theorem wi_X6_slotsFit : Cond.initialized m_X6_slotsFit.1.cls ∈ tb := tb1 2 rfl rfl
set_option maxRecDepth 20000 in
theorem wc_X6_slotsFit : Cond.code m_X6_slotsFit.1 m_X6_slotsFit.2.1 m_X6_slotsFit.2.2.1 m_X6_slotsFit.2.2.2 ∈ tb := tb4 16 rfl rfl
theorem wn_X6_slotsFit : m_X6_slotsFit.1.cls ≠ "java/lang/invoke/MethodHandle" ∧ m_X6_slotsFit.1.cls ≠ "java/lang/invoke/VarHandle" ∧ (parseMethodDescriptor m_X6_slotsFit.1.desc).map (fun d => d.parameters.length) = some 0 := ⟨by decide +kernel, by decide +kernel, by decide +kernel⟩
set_option maxRecDepth 20000 in
theorem wm_X6_slotsFit : Cond.instanceMethod m_X6_slotsFit.1 ∈ tb := tb4 15 rfl rfl
theorem ws_X6_slotsFit : Cond.selects m_X6_slotsFit.1.cls m_X6_slotsFit.1 m_X6_slotsFit.1 ∈ tb := tb_sel (q := (m_X6_slotsFit.1, 8)) (List.mem_of_getElem? (i := 27) (by decide +kernel)) rfl
set_option maxRecDepth 20000 in
theorem wi_X6_storeNet : Cond.initialized m_X6_storeNet.1.cls ∈ tb := tb1 2 rfl rfl
set_option maxRecDepth 20000 in
theorem wc_X6_storeNet : Cond.code m_X6_storeNet.1 m_X6_storeNet.2.1 m_X6_storeNet.2.2.1 m_X6_storeNet.2.2.2 ∈ tb := tb4 76 rfl rfl
theorem wn_X6_storeNet : m_X6_storeNet.1.cls ≠ "java/lang/invoke/MethodHandle" ∧ m_X6_storeNet.1.cls ≠ "java/lang/invoke/VarHandle" ∧ (parseMethodDescriptor m_X6_storeNet.1.desc).map (fun d => d.parameters.length) = some 0 := ⟨by decide +kernel, by decide +kernel, by decide +kernel⟩
set_option maxRecDepth 20000 in
theorem wm_X6_storeNet : Cond.instanceMethod m_X6_storeNet.1 ∈ tb := tb4 75 rfl rfl
theorem ws_X6_storeNet : Cond.selects m_X6_storeNet.1.cls m_X6_storeNet.1 m_X6_storeNet.1 ∈ tb := tb_sel (q := (m_X6_storeNet.1, 8)) (List.mem_of_getElem? (i := 33) (by decide +kernel)) rfl
set_option maxRecDepth 20000 in
theorem wi_X6_storeRule : Cond.initialized m_X6_storeRule.1.cls ∈ tb := tb1 2 rfl rfl
set_option maxRecDepth 20000 in
theorem wc_X6_storeRule : Cond.code m_X6_storeRule.1 m_X6_storeRule.2.1 m_X6_storeRule.2.2.1 m_X6_storeRule.2.2.2 ∈ tb := tb4 34 rfl rfl
theorem wn_X6_storeRule : m_X6_storeRule.1.cls ≠ "java/lang/invoke/MethodHandle" ∧ m_X6_storeRule.1.cls ≠ "java/lang/invoke/VarHandle" ∧ (parseMethodDescriptor m_X6_storeRule.1.desc).map (fun d => d.parameters.length) = some 1 := ⟨by decide +kernel, by decide +kernel, by decide +kernel⟩
set_option maxRecDepth 20000 in
theorem wm_X6_storeRule : Cond.instanceMethod m_X6_storeRule.1 ∈ tb := tb4 33 rfl rfl
theorem ws_X6_storeRule : Cond.selects m_X6_storeRule.1.cls m_X6_storeRule.1 m_X6_storeRule.1 ∈ tb := tb_sel (q := (m_X6_storeRule.1, 8)) (List.mem_of_getElem? (i := 29) (by decide +kernel)) rfl
set_option maxRecDepth 20000 in
theorem wi_X7_codeInNet : Cond.initialized m_X7_codeInNet.1.cls ∈ tb := tb1 10 rfl rfl
set_option maxRecDepth 20000 in
theorem wc_X7_codeInNet : Cond.code m_X7_codeInNet.1 m_X7_codeInNet.2.1 m_X7_codeInNet.2.2.1 m_X7_codeInNet.2.2.2 ∈ tb := tb5 41 rfl rfl
theorem wn_X7_codeInNet : m_X7_codeInNet.1.cls ≠ "java/lang/invoke/MethodHandle" ∧ m_X7_codeInNet.1.cls ≠ "java/lang/invoke/VarHandle" ∧ (parseMethodDescriptor m_X7_codeInNet.1.desc).map (fun d => d.parameters.length) = some 1 := ⟨by decide +kernel, by decide +kernel, by decide +kernel⟩
set_option maxRecDepth 20000 in
theorem wm_X7_codeInNet : Cond.instanceMethod m_X7_codeInNet.1 ∈ tb := tb5 40 rfl rfl
theorem ws_X7_codeInNet : Cond.selects m_X7_codeInNet.1.cls m_X7_codeInNet.1 m_X7_codeInNet.1 ∈ tb := tb_sel (q := (m_X7_codeInNet.1, 4)) (List.mem_of_getElem? (i := 43) (by decide +kernel)) rfl
set_option maxRecDepth 20000 in
theorem wi_X7_countRings : Cond.initialized m_X7_countRings.1.cls ∈ tb := tb1 10 rfl rfl
set_option maxRecDepth 20000 in
theorem wc_X7_countRings : Cond.code m_X7_countRings.1 m_X7_countRings.2.1 m_X7_countRings.2.2.1 m_X7_countRings.2.2.2 ∈ tb := tb5 59 rfl rfl
theorem wn_X7_countRings : m_X7_countRings.1.cls ≠ "java/lang/invoke/MethodHandle" ∧ m_X7_countRings.1.cls ≠ "java/lang/invoke/VarHandle" ∧ (parseMethodDescriptor m_X7_countRings.1.desc).map (fun d => d.parameters.length) = some 2 := ⟨by decide +kernel, by decide +kernel, by decide +kernel⟩
set_option maxRecDepth 20000 in
theorem wm_X7_countRings : Cond.instanceMethod m_X7_countRings.1 ∈ tb := tb5 58 rfl rfl
theorem ws_X7_countRings : Cond.selects m_X7_countRings.1.cls m_X7_countRings.1 m_X7_countRings.1 ∈ tb := tb_sel (q := (m_X7_countRings.1, 4)) (List.mem_of_getElem? (i := 45) (by decide +kernel)) rfl
set_option maxRecDepth 20000 in
theorem wi_X7_follow : Cond.initialized m_X7_follow.1.cls ∈ tb := tb1 10 rfl rfl
set_option maxRecDepth 20000 in
theorem wc_X7_follow : Cond.code m_X7_follow.1 m_X7_follow.2.1 m_X7_follow.2.2.1 m_X7_follow.2.2.2 ∈ tb := tb5 28 rfl rfl
theorem wn_X7_follow : m_X7_follow.1.cls ≠ "java/lang/invoke/MethodHandle" ∧ m_X7_follow.1.cls ≠ "java/lang/invoke/VarHandle" ∧ (parseMethodDescriptor m_X7_follow.1.desc).map (fun d => d.parameters.length) = some 3 := ⟨by decide +kernel, by decide +kernel, by decide +kernel⟩
set_option maxRecDepth 20000 in
theorem wm_X7_follow : Cond.instanceMethod m_X7_follow.1 ∈ tb := tb5 27 rfl rfl
theorem ws_X7_follow : Cond.selects m_X7_follow.1.cls m_X7_follow.1 m_X7_follow.1 ∈ tb := tb_sel (q := (m_X7_follow.1, 4)) (List.mem_of_getElem? (i := 41) (by decide +kernel)) rfl
set_option maxRecDepth 20000 in
theorem wi_X7_noteOutside : Cond.initialized m_X7_noteOutside.1.cls ∈ tb := tb1 10 rfl rfl
set_option maxRecDepth 20000 in
theorem wc_X7_noteOutside : Cond.code m_X7_noteOutside.1 m_X7_noteOutside.2.1 m_X7_noteOutside.2.2.1 m_X7_noteOutside.2.2.2 ∈ tb := tb4 234 rfl rfl
theorem wn_X7_noteOutside : m_X7_noteOutside.1.cls ≠ "java/lang/invoke/MethodHandle" ∧ m_X7_noteOutside.1.cls ≠ "java/lang/invoke/VarHandle" ∧ (parseMethodDescriptor m_X7_noteOutside.1.desc).map (fun d => d.parameters.length) = some 4 := ⟨by decide +kernel, by decide +kernel, by decide +kernel⟩
set_option maxRecDepth 20000 in
theorem wm_X7_noteOutside : Cond.instanceMethod m_X7_noteOutside.1 ∈ tb := tb4 233 rfl rfl
theorem ws_X7_noteOutside : Cond.selects m_X7_noteOutside.1.cls m_X7_noteOutside.1 m_X7_noteOutside.1 ∈ tb := tb_sel (q := (m_X7_noteOutside.1, 4)) (List.mem_of_getElem? (i := 38) (by decide +kernel)) rfl
set_option maxRecDepth 20000 in
theorem wi_X7_pass : Cond.initialized m_X7_pass.1.cls ∈ tb := tb1 10 rfl rfl
set_option maxRecDepth 20000 in
theorem wc_X7_pass : Cond.code m_X7_pass.1 m_X7_pass.2.1 m_X7_pass.2.2.1 m_X7_pass.2.2.2 ∈ tb := tb5 32 rfl rfl
theorem wn_X7_pass : m_X7_pass.1.cls ≠ "java/lang/invoke/MethodHandle" ∧ m_X7_pass.1.cls ≠ "java/lang/invoke/VarHandle" ∧ (parseMethodDescriptor m_X7_pass.1.desc).map (fun d => d.parameters.length) = some 1 := ⟨by decide +kernel, by decide +kernel, by decide +kernel⟩
set_option maxRecDepth 20000 in
theorem wm_X7_pass : Cond.instanceMethod m_X7_pass.1 ∈ tb := tb5 31 rfl rfl
theorem ws_X7_pass : Cond.selects m_X7_pass.1.cls m_X7_pass.1 m_X7_pass.1 ∈ tb := tb_sel (q := (m_X7_pass.1, 4)) (List.mem_of_getElem? (i := 42) (by decide +kernel)) rfl
set_option maxRecDepth 20000 in
theorem wi_X7_passAll : Cond.initialized m_X7_passAll.1.cls ∈ tb := tb1 10 rfl rfl
set_option maxRecDepth 20000 in
theorem wc_X7_passAll : Cond.code m_X7_passAll.1 m_X7_passAll.2.1 m_X7_passAll.2.2.1 m_X7_passAll.2.2.2 ∈ tb := tb4 230 rfl rfl
theorem wn_X7_passAll : m_X7_passAll.1.cls ≠ "java/lang/invoke/MethodHandle" ∧ m_X7_passAll.1.cls ≠ "java/lang/invoke/VarHandle" ∧ (parseMethodDescriptor m_X7_passAll.1.desc).map (fun d => d.parameters.length) = some 0 := ⟨by decide +kernel, by decide +kernel, by decide +kernel⟩
set_option maxRecDepth 20000 in
theorem wm_X7_passAll : Cond.instanceMethod m_X7_passAll.1 ∈ tb := tb4 229 rfl rfl
theorem ws_X7_passAll : Cond.selects m_X7_passAll.1.cls m_X7_passAll.1 m_X7_passAll.1 ∈ tb := tb_sel (q := (m_X7_passAll.1, 4)) (List.mem_of_getElem? (i := 37) (by decide +kernel)) rfl
set_option maxRecDepth 20000 in
theorem wi_X7_putAgents : Cond.initialized m_X7_putAgents.1.cls ∈ tb := tb1 10 rfl rfl
set_option maxRecDepth 20000 in
theorem wc_X7_putAgents : Cond.code m_X7_putAgents.1 m_X7_putAgents.2.1 m_X7_putAgents.2.2.1 m_X7_putAgents.2.2.2 ∈ tb := tb5 13 rfl rfl
theorem wn_X7_putAgents : m_X7_putAgents.1.cls ≠ "java/lang/invoke/MethodHandle" ∧ m_X7_putAgents.1.cls ≠ "java/lang/invoke/VarHandle" ∧ (parseMethodDescriptor m_X7_putAgents.1.desc).map (fun d => d.parameters.length) = some 2 := ⟨by decide +kernel, by decide +kernel, by decide +kernel⟩
set_option maxRecDepth 20000 in
theorem wm_X7_putAgents : Cond.instanceMethod m_X7_putAgents.1 ∈ tb := tb5 12 rfl rfl
theorem ws_X7_putAgents : Cond.selects m_X7_putAgents.1.cls m_X7_putAgents.1 m_X7_putAgents.1 ∈ tb := tb_sel (q := (m_X7_putAgents.1, 4)) (List.mem_of_getElem? (i := 39) (by decide +kernel)) rfl
set_option maxRecDepth 20000 in
theorem wi_X7_rewrite : Cond.initialized m_X7_rewrite.1.cls ∈ tb := tb1 10 rfl rfl
set_option maxRecDepth 20000 in
theorem wc_X7_rewrite : Cond.code m_X7_rewrite.1 m_X7_rewrite.2.1 m_X7_rewrite.2.2.1 m_X7_rewrite.2.2.2 ∈ tb := tb4 221 rfl rfl
theorem wn_X7_rewrite : m_X7_rewrite.1.cls ≠ "java/lang/invoke/MethodHandle" ∧ m_X7_rewrite.1.cls ≠ "java/lang/invoke/VarHandle" ∧ (parseMethodDescriptor m_X7_rewrite.1.desc).map (fun d => d.parameters.length) = some 4 := ⟨by decide +kernel, by decide +kernel, by decide +kernel⟩
set_option maxRecDepth 20000 in
theorem wm_X7_rewrite : Cond.instanceMethod m_X7_rewrite.1 ∈ tb := tb4 219 rfl rfl
set_option maxRecDepth 20000 in
theorem ws_X7_rewrite : Cond.selects m_X7_rewrite.1.cls m_X7_rewrite.1 m_X7_rewrite.1 ∈ tb := tb4 220 rfl rfl
set_option maxRecDepth 20000 in
theorem wi_X7_slotAt : Cond.initialized m_X7_slotAt.1.cls ∈ tb := tb1 10 rfl rfl
set_option maxRecDepth 20000 in
theorem wc_X7_slotAt : Cond.code m_X7_slotAt.1 m_X7_slotAt.2.1 m_X7_slotAt.2.2.1 m_X7_slotAt.2.2.2 ∈ tb := tb5 2 rfl rfl
theorem wn_X7_slotAt : m_X7_slotAt.1.cls ≠ "java/lang/invoke/MethodHandle" ∧ m_X7_slotAt.1.cls ≠ "java/lang/invoke/VarHandle" ∧ (parseMethodDescriptor m_X7_slotAt.1.desc).map (fun d => d.parameters.length) = some 4 := ⟨by decide +kernel, by decide +kernel, by decide +kernel⟩
set_option maxRecDepth 20000 in
theorem wm_X7_slotAt : Cond.static m_X7_slotAt.1 ∈ tb := tb5 1 rfl rfl
set_option maxRecDepth 20000 in
theorem wi_X7_wireAgents : Cond.initialized m_X7_wireAgents.1.cls ∈ tb := tb1 10 rfl rfl
set_option maxRecDepth 20000 in
theorem wc_X7_wireAgents : Cond.code m_X7_wireAgents.1 m_X7_wireAgents.2.1 m_X7_wireAgents.2.2.1 m_X7_wireAgents.2.2.2 ∈ tb := tb5 24 rfl rfl
theorem wn_X7_wireAgents : m_X7_wireAgents.1.cls ≠ "java/lang/invoke/MethodHandle" ∧ m_X7_wireAgents.1.cls ≠ "java/lang/invoke/VarHandle" ∧ (parseMethodDescriptor m_X7_wireAgents.1.desc).map (fun d => d.parameters.length) = some 2 := ⟨by decide +kernel, by decide +kernel, by decide +kernel⟩
set_option maxRecDepth 20000 in
theorem wm_X7_wireAgents : Cond.instanceMethod m_X7_wireAgents.1 ∈ tb := tb5 23 rfl rfl
theorem ws_X7_wireAgents : Cond.selects m_X7_wireAgents.1.cls m_X7_wireAgents.1 m_X7_wireAgents.1 ∈ tb := tb_sel (q := (m_X7_wireAgents.1, 4)) (List.mem_of_getElem? (i := 40) (by decide +kernel)) rfl
set_option maxRecDepth 20000 in
theorem wi_X7_wireOuter : Cond.initialized m_X7_wireOuter.1.cls ∈ tb := tb1 10 rfl rfl
set_option maxRecDepth 20000 in
theorem wc_X7_wireOuter : Cond.code m_X7_wireOuter.1 m_X7_wireOuter.2.1 m_X7_wireOuter.2.2.1 m_X7_wireOuter.2.2.2 ∈ tb := tb5 51 rfl rfl
theorem wn_X7_wireOuter : m_X7_wireOuter.1.cls ≠ "java/lang/invoke/MethodHandle" ∧ m_X7_wireOuter.1.cls ≠ "java/lang/invoke/VarHandle" ∧ (parseMethodDescriptor m_X7_wireOuter.1.desc).map (fun d => d.parameters.length) = some 2 := ⟨by decide +kernel, by decide +kernel, by decide +kernel⟩
set_option maxRecDepth 20000 in
theorem wm_X7_wireOuter : Cond.instanceMethod m_X7_wireOuter.1 ∈ tb := tb5 50 rfl rfl
theorem ws_X7_wireOuter : Cond.selects m_X7_wireOuter.1.cls m_X7_wireOuter.1 m_X7_wireOuter.1 ∈ tb := tb_sel (q := (m_X7_wireOuter.1, 4)) (List.mem_of_getElem? (i := 44) (by decide +kernel)) rfl
set_option maxRecDepth 20000 in
theorem wi_X8_add : Cond.initialized m_X8_add.1.cls ∈ tb := tb1 7 rfl rfl
set_option maxRecDepth 20000 in
theorem wc_X8_add : Cond.code m_X8_add.1 m_X8_add.2.1 m_X8_add.2.2.1 m_X8_add.2.2.2 ∈ tb := tb4 29 rfl rfl
theorem wn_X8_add : m_X8_add.1.cls ≠ "java/lang/invoke/MethodHandle" ∧ m_X8_add.1.cls ≠ "java/lang/invoke/VarHandle" ∧ (parseMethodDescriptor m_X8_add.1.desc).map (fun d => d.parameters.length) = some 2 := ⟨by decide +kernel, by decide +kernel, by decide +kernel⟩
set_option maxRecDepth 20000 in
theorem wm_X8_add : Cond.instanceMethod m_X8_add.1 ∈ tb := tb4 27 rfl rfl
set_option maxRecDepth 20000 in
theorem ws_X8_add : Cond.selects m_X8_add.1.cls m_X8_add.1 m_X8_add.1 ∈ tb := tb4 28 rfl rfl
set_option maxRecDepth 20000 in
theorem wi_X8_addAgent : Cond.initialized m_X8_addAgent.1.cls ∈ tb := tb1 7 rfl rfl
set_option maxRecDepth 20000 in
theorem wc_X8_addAgent : Cond.code m_X8_addAgent.1 m_X8_addAgent.2.1 m_X8_addAgent.2.2.1 m_X8_addAgent.2.2.2 ∈ tb := tb4 38 rfl rfl
theorem wn_X8_addAgent : m_X8_addAgent.1.cls ≠ "java/lang/invoke/MethodHandle" ∧ m_X8_addAgent.1.cls ≠ "java/lang/invoke/VarHandle" ∧ (parseMethodDescriptor m_X8_addAgent.1.desc).map (fun d => d.parameters.length) = some 2 := ⟨by decide +kernel, by decide +kernel, by decide +kernel⟩
set_option maxRecDepth 20000 in
theorem wm_X8_addAgent : Cond.instanceMethod m_X8_addAgent.1 ∈ tb := tb4 36 rfl rfl
set_option maxRecDepth 20000 in
theorem ws_X8_addAgent : Cond.selects m_X8_addAgent.1.cls m_X8_addAgent.1 m_X8_addAgent.1 ∈ tb := tb4 37 rfl rfl
set_option maxRecDepth 20000 in
theorem wi_X8_agentKind : Cond.initialized m_X8_agentKind.1.cls ∈ tb := tb1 7 rfl rfl
set_option maxRecDepth 20000 in
theorem wc_X8_agentKind : Cond.code m_X8_agentKind.1 m_X8_agentKind.2.1 m_X8_agentKind.2.2.1 m_X8_agentKind.2.2.2 ∈ tb := tb5 18 rfl rfl
theorem wn_X8_agentKind : m_X8_agentKind.1.cls ≠ "java/lang/invoke/MethodHandle" ∧ m_X8_agentKind.1.cls ≠ "java/lang/invoke/VarHandle" ∧ (parseMethodDescriptor m_X8_agentKind.1.desc).map (fun d => d.parameters.length) = some 2 := ⟨by decide +kernel, by decide +kernel, by decide +kernel⟩
set_option maxRecDepth 20000 in
theorem wm_X8_agentKind : Cond.instanceMethod m_X8_agentKind.1 ∈ tb := tb5 16 rfl rfl
set_option maxRecDepth 20000 in
theorem ws_X8_agentKind : Cond.selects m_X8_agentKind.1.cls m_X8_agentKind.1 m_X8_agentKind.1 ∈ tb := tb5 17 rfl rfl
set_option maxRecDepth 20000 in
theorem wi_X8_agentsIn : Cond.initialized m_X8_agentsIn.1.cls ∈ tb := tb1 7 rfl rfl
set_option maxRecDepth 20000 in
theorem wc_X8_agentsIn : Cond.code m_X8_agentsIn.1 m_X8_agentsIn.2.1 m_X8_agentsIn.2.2.1 m_X8_agentsIn.2.2.2 ∈ tb := tb4 166 rfl rfl
theorem wn_X8_agentsIn : m_X8_agentsIn.1.cls ≠ "java/lang/invoke/MethodHandle" ∧ m_X8_agentsIn.1.cls ≠ "java/lang/invoke/VarHandle" ∧ (parseMethodDescriptor m_X8_agentsIn.1.desc).map (fun d => d.parameters.length) = some 1 := ⟨by decide +kernel, by decide +kernel, by decide +kernel⟩
set_option maxRecDepth 20000 in
theorem wm_X8_agentsIn : Cond.instanceMethod m_X8_agentsIn.1 ∈ tb := tb4 164 rfl rfl
set_option maxRecDepth 20000 in
theorem ws_X8_agentsIn : Cond.selects m_X8_agentsIn.1.cls m_X8_agentsIn.1 m_X8_agentsIn.1 ∈ tb := tb4 165 rfl rfl
set_option maxRecDepth 20000 in
theorem wi_X8_clear : Cond.initialized m_X8_clear.1.cls ∈ tb := tb1 7 rfl rfl
set_option maxRecDepth 20000 in
theorem wc_X8_clear : Cond.code m_X8_clear.1 m_X8_clear.2.1 m_X8_clear.2.2.1 m_X8_clear.2.2.2 ∈ tb := tb2 170 rfl rfl
theorem wn_X8_clear : m_X8_clear.1.cls ≠ "java/lang/invoke/MethodHandle" ∧ m_X8_clear.1.cls ≠ "java/lang/invoke/VarHandle" ∧ (parseMethodDescriptor m_X8_clear.1.desc).map (fun d => d.parameters.length) = some 0 := ⟨by decide +kernel, by decide +kernel, by decide +kernel⟩
set_option maxRecDepth 20000 in
theorem wm_X8_clear : Cond.instanceMethod m_X8_clear.1 ∈ tb := tb2 168 rfl rfl
set_option maxRecDepth 20000 in
theorem ws_X8_clear : Cond.selects m_X8_clear.1.cls m_X8_clear.1 m_X8_clear.1 ∈ tb := tb2 169 rfl rfl
set_option maxRecDepth 20000 in
theorem wi_X8_firstKind : Cond.initialized m_X8_firstKind.1.cls ∈ tb := tb1 7 rfl rfl
set_option maxRecDepth 20000 in
theorem wc_X8_firstKind : Cond.code m_X8_firstKind.1 m_X8_firstKind.2.1 m_X8_firstKind.2.2.1 m_X8_firstKind.2.2.2 ∈ tb := tb4 225 rfl rfl
theorem wn_X8_firstKind : m_X8_firstKind.1.cls ≠ "java/lang/invoke/MethodHandle" ∧ m_X8_firstKind.1.cls ≠ "java/lang/invoke/VarHandle" ∧ (parseMethodDescriptor m_X8_firstKind.1.desc).map (fun d => d.parameters.length) = some 1 := ⟨by decide +kernel, by decide +kernel, by decide +kernel⟩
set_option maxRecDepth 20000 in
theorem wm_X8_firstKind : Cond.instanceMethod m_X8_firstKind.1 ∈ tb := tb4 223 rfl rfl
set_option maxRecDepth 20000 in
theorem ws_X8_firstKind : Cond.selects m_X8_firstKind.1.cls m_X8_firstKind.1 m_X8_firstKind.1 ∈ tb := tb4 224 rfl rfl
set_option maxRecDepth 20000 in
theorem wi_X8_has : Cond.initialized m_X8_has.1.cls ∈ tb := tb1 7 rfl rfl
set_option maxRecDepth 20000 in
theorem wc_X8_has : Cond.code m_X8_has.1 m_X8_has.2.1 m_X8_has.2.2.1 m_X8_has.2.2.2 ∈ tb := tb4 42 rfl rfl
theorem wn_X8_has : m_X8_has.1.cls ≠ "java/lang/invoke/MethodHandle" ∧ m_X8_has.1.cls ≠ "java/lang/invoke/VarHandle" ∧ (parseMethodDescriptor m_X8_has.1.desc).map (fun d => d.parameters.length) = some 1 := ⟨by decide +kernel, by decide +kernel, by decide +kernel⟩
set_option maxRecDepth 20000 in
theorem wm_X8_has : Cond.instanceMethod m_X8_has.1 ∈ tb := tb4 41 rfl rfl
theorem ws_X8_has : Cond.selects m_X8_has.1.cls m_X8_has.1 m_X8_has.1 ∈ tb := tb_sel (q := (m_X8_has.1, 8)) (List.mem_of_getElem? (i := 30) (by decide +kernel)) rfl
set_option maxRecDepth 20000 in
theorem wi_X8_isFull : Cond.initialized m_X8_isFull.1.cls ∈ tb := tb1 7 rfl rfl
set_option maxRecDepth 20000 in
theorem wc_X8_isFull : Cond.code m_X8_isFull.1 m_X8_isFull.2.1 m_X8_isFull.2.2.1 m_X8_isFull.2.2.2 ∈ tb := tb3 129 rfl rfl
theorem wn_X8_isFull : m_X8_isFull.1.cls ≠ "java/lang/invoke/MethodHandle" ∧ m_X8_isFull.1.cls ≠ "java/lang/invoke/VarHandle" ∧ (parseMethodDescriptor m_X8_isFull.1.desc).map (fun d => d.parameters.length) = some 0 := ⟨by decide +kernel, by decide +kernel, by decide +kernel⟩
set_option maxRecDepth 20000 in
theorem wm_X8_isFull : Cond.instanceMethod m_X8_isFull.1 ∈ tb := tb3 127 rfl rfl
set_option maxRecDepth 20000 in
theorem ws_X8_isFull : Cond.selects m_X8_isFull.1.cls m_X8_isFull.1 m_X8_isFull.1 ∈ tb := tb3 128 rfl rfl
set_option maxRecDepth 20000 in
theorem wi_X8_ringsIn : Cond.initialized m_X8_ringsIn.1.cls ∈ tb := tb1 7 rfl rfl
set_option maxRecDepth 20000 in
theorem wc_X8_ringsIn : Cond.code m_X8_ringsIn.1 m_X8_ringsIn.2.1 m_X8_ringsIn.2.2.1 m_X8_ringsIn.2.2.2 ∈ tb := tb5 55 rfl rfl
theorem wn_X8_ringsIn : m_X8_ringsIn.1.cls ≠ "java/lang/invoke/MethodHandle" ∧ m_X8_ringsIn.1.cls ≠ "java/lang/invoke/VarHandle" ∧ (parseMethodDescriptor m_X8_ringsIn.1.desc).map (fun d => d.parameters.length) = some 1 := ⟨by decide +kernel, by decide +kernel, by decide +kernel⟩
set_option maxRecDepth 20000 in
theorem wm_X8_ringsIn : Cond.instanceMethod m_X8_ringsIn.1 ∈ tb := tb5 53 rfl rfl
set_option maxRecDepth 20000 in
theorem ws_X8_ringsIn : Cond.selects m_X8_ringsIn.1.cls m_X8_ringsIn.1 m_X8_ringsIn.1 ∈ tb := tb5 54 rfl rfl
set_option maxRecDepth 20000 in
theorem wi_X8_ruleFor : Cond.initialized m_X8_ruleFor.1.cls ∈ tb := tb1 7 rfl rfl
set_option maxRecDepth 20000 in
theorem wc_X8_ruleFor : Cond.code m_X8_ruleFor.1 m_X8_ruleFor.2.1 m_X8_ruleFor.2.2.1 m_X8_ruleFor.2.2.2 ∈ tb := tb3 197 rfl rfl
theorem wn_X8_ruleFor : m_X8_ruleFor.1.cls ≠ "java/lang/invoke/MethodHandle" ∧ m_X8_ruleFor.1.cls ≠ "java/lang/invoke/VarHandle" ∧ (parseMethodDescriptor m_X8_ruleFor.1.desc).map (fun d => d.parameters.length) = some 2 := ⟨by decide +kernel, by decide +kernel, by decide +kernel⟩
set_option maxRecDepth 20000 in
theorem wm_X8_ruleFor : Cond.instanceMethod m_X8_ruleFor.1 ∈ tb := tb3 195 rfl rfl
set_option maxRecDepth 20000 in
theorem ws_X8_ruleFor : Cond.selects m_X8_ruleFor.1.cls m_X8_ruleFor.1 m_X8_ruleFor.1 ∈ tb := tb3 196 rfl rfl
set_option maxRecDepth 20000 in
theorem wi_X8_setRings : Cond.initialized m_X8_setRings.1.cls ∈ tb := tb1 7 rfl rfl
set_option maxRecDepth 20000 in
theorem wc_X8_setRings : Cond.code m_X8_setRings.1 m_X8_setRings.2.1 m_X8_setRings.2.2.1 m_X8_setRings.2.2.2 ∈ tb := tb4 57 rfl rfl
theorem wn_X8_setRings : m_X8_setRings.1.cls ≠ "java/lang/invoke/MethodHandle" ∧ m_X8_setRings.1.cls ≠ "java/lang/invoke/VarHandle" ∧ (parseMethodDescriptor m_X8_setRings.1.desc).map (fun d => d.parameters.length) = some 2 := ⟨by decide +kernel, by decide +kernel, by decide +kernel⟩
set_option maxRecDepth 20000 in
theorem wm_X8_setRings : Cond.instanceMethod m_X8_setRings.1 ∈ tb := tb4 55 rfl rfl
set_option maxRecDepth 20000 in
theorem ws_X8_setRings : Cond.selects m_X8_setRings.1.cls m_X8_setRings.1 m_X8_setRings.1 ∈ tb := tb4 56 rfl rfl
set_option maxRecDepth 20000 in
theorem wi_X8_setWire : Cond.initialized m_X8_setWire.1.cls ∈ tb := tb1 7 rfl rfl
set_option maxRecDepth 20000 in
theorem wc_X8_setWire : Cond.code m_X8_setWire.1 m_X8_setWire.2.1 m_X8_setWire.2.2.1 m_X8_setWire.2.2.2 ∈ tb := tb4 46 rfl rfl
theorem wn_X8_setWire : m_X8_setWire.1.cls ≠ "java/lang/invoke/MethodHandle" ∧ m_X8_setWire.1.cls ≠ "java/lang/invoke/VarHandle" ∧ (parseMethodDescriptor m_X8_setWire.1.desc).map (fun d => d.parameters.length) = some 3 := ⟨by decide +kernel, by decide +kernel, by decide +kernel⟩
set_option maxRecDepth 20000 in
theorem wm_X8_setWire : Cond.instanceMethod m_X8_setWire.1 ∈ tb := tb4 44 rfl rfl
set_option maxRecDepth 20000 in
theorem ws_X8_setWire : Cond.selects m_X8_setWire.1.cls m_X8_setWire.1 m_X8_setWire.1 ∈ tb := tb4 45 rfl rfl
set_option maxRecDepth 20000 in
theorem wi_X8_wireOf : Cond.initialized m_X8_wireOf.1.cls ∈ tb := tb1 7 rfl rfl
set_option maxRecDepth 20000 in
theorem wc_X8_wireOf : Cond.code m_X8_wireOf.1 m_X8_wireOf.2.1 m_X8_wireOf.2.2.1 m_X8_wireOf.2.2.2 ∈ tb := tb5 37 rfl rfl
theorem wn_X8_wireOf : m_X8_wireOf.1.cls ≠ "java/lang/invoke/MethodHandle" ∧ m_X8_wireOf.1.cls ≠ "java/lang/invoke/VarHandle" ∧ (parseMethodDescriptor m_X8_wireOf.1.desc).map (fun d => d.parameters.length) = some 2 := ⟨by decide +kernel, by decide +kernel, by decide +kernel⟩
set_option maxRecDepth 20000 in
theorem wm_X8_wireOf : Cond.instanceMethod m_X8_wireOf.1 ∈ tb := tb5 35 rfl rfl
set_option maxRecDepth 20000 in
theorem ws_X8_wireOf : Cond.selects m_X8_wireOf.1.cls m_X8_wireOf.1 m_X8_wireOf.1 ∈ tb := tb5 36 rfl rfl
set_option maxRecDepth 20000 in
theorem wi_X9_addToken : Cond.initialized m_X9_addToken.1.cls ∈ tb := tb1 4 rfl rfl
set_option maxRecDepth 20000 in
theorem wc_X9_addToken : Cond.code m_X9_addToken.1 m_X9_addToken.2.1 m_X9_addToken.2.2.1 m_X9_addToken.2.2.2 ∈ tb := tb2 214 rfl rfl
theorem wn_X9_addToken : m_X9_addToken.1.cls ≠ "java/lang/invoke/MethodHandle" ∧ m_X9_addToken.1.cls ≠ "java/lang/invoke/VarHandle" ∧ (parseMethodDescriptor m_X9_addToken.1.desc).map (fun d => d.parameters.length) = some 3 := ⟨by decide +kernel, by decide +kernel, by decide +kernel⟩
set_option maxRecDepth 20000 in
theorem wm_X9_addToken : Cond.instanceMethod m_X9_addToken.1 ∈ tb := tb2 213 rfl rfl
theorem ws_X9_addToken : Cond.selects m_X9_addToken.1.cls m_X9_addToken.1 m_X9_addToken.1 ∈ tb := tb_sel (q := (m_X9_addToken.1, 10)) (List.mem_of_getElem? (i := 5) (by decide +kernel)) rfl
set_option maxRecDepth 20000 in
theorem wi_X9_advance : Cond.initialized m_X9_advance.1.cls ∈ tb := tb1 4 rfl rfl
set_option maxRecDepth 20000 in
theorem wc_X9_advance : Cond.code m_X9_advance.1 m_X9_advance.2.1 m_X9_advance.2.2.1 m_X9_advance.2.2.2 ∈ tb := tb3 66 rfl rfl
theorem wn_X9_advance : m_X9_advance.1.cls ≠ "java/lang/invoke/MethodHandle" ∧ m_X9_advance.1.cls ≠ "java/lang/invoke/VarHandle" ∧ (parseMethodDescriptor m_X9_advance.1.desc).map (fun d => d.parameters.length) = some 0 := ⟨by decide +kernel, by decide +kernel, by decide +kernel⟩
set_option maxRecDepth 20000 in
theorem wm_X9_advance : Cond.instanceMethod m_X9_advance.1 ∈ tb := tb3 64 rfl rfl
set_option maxRecDepth 20000 in
theorem ws_X9_advance : Cond.selects m_X9_advance.1.cls m_X9_advance.1 m_X9_advance.1 ∈ tb := tb3 65 rfl rfl
set_option maxRecDepth 20000 in
theorem wi_X9_append : Cond.initialized m_X9_append.1.cls ∈ tb := tb1 4 rfl rfl
set_option maxRecDepth 20000 in
theorem wc_X9_append : Cond.code m_X9_append.1 m_X9_append.2.1 m_X9_append.2.2.1 m_X9_append.2.2.2 ∈ tb := tb2 150 rfl rfl
theorem wn_X9_append : m_X9_append.1.cls ≠ "java/lang/invoke/MethodHandle" ∧ m_X9_append.1.cls ≠ "java/lang/invoke/VarHandle" ∧ (parseMethodDescriptor m_X9_append.1.desc).map (fun d => d.parameters.length) = some 1 := ⟨by decide +kernel, by decide +kernel, by decide +kernel⟩
set_option maxRecDepth 20000 in
theorem wm_X9_append : Cond.instanceMethod m_X9_append.1 ∈ tb := tb2 148 rfl rfl
set_option maxRecDepth 20000 in
theorem ws_X9_append : Cond.selects m_X9_append.1.cls m_X9_append.1 m_X9_append.1 ∈ tb := tb2 149 rfl rfl
set_option maxRecDepth 20000 in
theorem wi_X9_byteAt : Cond.initialized m_X9_byteAt.1.cls ∈ tb := tb1 4 rfl rfl
set_option maxRecDepth 20000 in
theorem wc_X9_byteAt : Cond.code m_X9_byteAt.1 m_X9_byteAt.2.1 m_X9_byteAt.2.2.1 m_X9_byteAt.2.2.2 ∈ tb := tb2 186 rfl rfl
theorem wn_X9_byteAt : m_X9_byteAt.1.cls ≠ "java/lang/invoke/MethodHandle" ∧ m_X9_byteAt.1.cls ≠ "java/lang/invoke/VarHandle" ∧ (parseMethodDescriptor m_X9_byteAt.1.desc).map (fun d => d.parameters.length) = some 1 := ⟨by decide +kernel, by decide +kernel, by decide +kernel⟩
set_option maxRecDepth 20000 in
theorem wm_X9_byteAt : Cond.instanceMethod m_X9_byteAt.1 ∈ tb := tb2 185 rfl rfl
theorem ws_X9_byteAt : Cond.selects m_X9_byteAt.1.cls m_X9_byteAt.1 m_X9_byteAt.1 ∈ tb := tb_sel (q := (m_X9_byteAt.1, 10)) (List.mem_of_getElem? (i := 1) (by decide +kernel)) rfl
set_option maxRecDepth 20000 in
theorem wi_X9_countRow : Cond.initialized m_X9_countRow.1.cls ∈ tb := tb1 4 rfl rfl
set_option maxRecDepth 20000 in
theorem wc_X9_countRow : Cond.code m_X9_countRow.1 m_X9_countRow.2.1 m_X9_countRow.2.2.1 m_X9_countRow.2.2.2 ∈ tb := tb2 193 rfl rfl
theorem wn_X9_countRow : m_X9_countRow.1.cls ≠ "java/lang/invoke/MethodHandle" ∧ m_X9_countRow.1.cls ≠ "java/lang/invoke/VarHandle" ∧ (parseMethodDescriptor m_X9_countRow.1.desc).map (fun d => d.parameters.length) = some 1 := ⟨by decide +kernel, by decide +kernel, by decide +kernel⟩
set_option maxRecDepth 20000 in
theorem wm_X9_countRow : Cond.instanceMethod m_X9_countRow.1 ∈ tb := tb2 192 rfl rfl
theorem ws_X9_countRow : Cond.selects m_X9_countRow.1.cls m_X9_countRow.1 m_X9_countRow.1 ∈ tb := tb_sel (q := (m_X9_countRow.1, 10)) (List.mem_of_getElem? (i := 2) (by decide +kernel)) rfl
set_option maxRecDepth 20000 in
theorem wi_X9_hasRoom : Cond.initialized m_X9_hasRoom.1.cls ∈ tb := tb1 4 rfl rfl
set_option maxRecDepth 20000 in
theorem wc_X9_hasRoom : Cond.code m_X9_hasRoom.1 m_X9_hasRoom.2.1 m_X9_hasRoom.2.2.1 m_X9_hasRoom.2.2.2 ∈ tb := tb2 146 rfl rfl
theorem wn_X9_hasRoom : m_X9_hasRoom.1.cls ≠ "java/lang/invoke/MethodHandle" ∧ m_X9_hasRoom.1.cls ≠ "java/lang/invoke/VarHandle" ∧ (parseMethodDescriptor m_X9_hasRoom.1.desc).map (fun d => d.parameters.length) = some 1 := ⟨by decide +kernel, by decide +kernel, by decide +kernel⟩
set_option maxRecDepth 20000 in
theorem wm_X9_hasRoom : Cond.instanceMethod m_X9_hasRoom.1 ∈ tb := tb2 144 rfl rfl
set_option maxRecDepth 20000 in
theorem ws_X9_hasRoom : Cond.selects m_X9_hasRoom.1.cls m_X9_hasRoom.1 m_X9_hasRoom.1 ∈ tb := tb2 145 rfl rfl
set_option maxRecDepth 20000 in
theorem wi_X9_isBig : Cond.initialized m_X9_isBig.1.cls ∈ tb := tb1 4 rfl rfl
set_option maxRecDepth 20000 in
theorem wc_X9_isBig : Cond.code m_X9_isBig.1 m_X9_isBig.2.1 m_X9_isBig.2.2.1 m_X9_isBig.2.2.2 ∈ tb := tb2 199 rfl rfl
theorem wn_X9_isBig : m_X9_isBig.1.cls ≠ "java/lang/invoke/MethodHandle" ∧ m_X9_isBig.1.cls ≠ "java/lang/invoke/VarHandle" ∧ (parseMethodDescriptor m_X9_isBig.1.desc).map (fun d => d.parameters.length) = some 1 := ⟨by decide +kernel, by decide +kernel, by decide +kernel⟩
set_option maxRecDepth 20000 in
theorem wm_X9_isBig : Cond.static m_X9_isBig.1 ∈ tb := tb2 198 rfl rfl
set_option maxRecDepth 20000 in
theorem wi_X9_isDigit : Cond.initialized m_X9_isDigit.1.cls ∈ tb := tb1 4 rfl rfl
set_option maxRecDepth 20000 in
theorem wc_X9_isDigit : Cond.code m_X9_isDigit.1 m_X9_isDigit.2.1 m_X9_isDigit.2.2.1 m_X9_isDigit.2.2.2 ∈ tb := tb2 202 rfl rfl
theorem wn_X9_isDigit : m_X9_isDigit.1.cls ≠ "java/lang/invoke/MethodHandle" ∧ m_X9_isDigit.1.cls ≠ "java/lang/invoke/VarHandle" ∧ (parseMethodDescriptor m_X9_isDigit.1.desc).map (fun d => d.parameters.length) = some 1 := ⟨by decide +kernel, by decide +kernel, by decide +kernel⟩
set_option maxRecDepth 20000 in
theorem wm_X9_isDigit : Cond.static m_X9_isDigit.1 ∈ tb := tb2 201 rfl rfl
set_option maxRecDepth 20000 in
theorem wi_X9_isLetterOrDigit : Cond.initialized m_X9_isLetterOrDigit.1.cls ∈ tb := tb1 4 rfl rfl
set_option maxRecDepth 20000 in
theorem wc_X9_isLetterOrDigit : Cond.code m_X9_isLetterOrDigit.1 m_X9_isLetterOrDigit.2.1 m_X9_isLetterOrDigit.2.2.1 m_X9_isLetterOrDigit.2.2.2 ∈ tb := tb2 196 rfl rfl
theorem wn_X9_isLetterOrDigit : m_X9_isLetterOrDigit.1.cls ≠ "java/lang/invoke/MethodHandle" ∧ m_X9_isLetterOrDigit.1.cls ≠ "java/lang/invoke/VarHandle" ∧ (parseMethodDescriptor m_X9_isLetterOrDigit.1.desc).map (fun d => d.parameters.length) = some 1 := ⟨by decide +kernel, by decide +kernel, by decide +kernel⟩
set_option maxRecDepth 20000 in
theorem wm_X9_isLetterOrDigit : Cond.static m_X9_isLetterOrDigit.1 ∈ tb := tb2 195 rfl rfl
set_option maxRecDepth 20000 in
theorem wi_X9_kindOfRow : Cond.initialized m_X9_kindOfRow.1.cls ∈ tb := tb1 4 rfl rfl
set_option maxRecDepth 20000 in
theorem wc_X9_kindOfRow : Cond.code m_X9_kindOfRow.1 m_X9_kindOfRow.2.1 m_X9_kindOfRow.2.2.1 m_X9_kindOfRow.2.2.2 ∈ tb := tb2 206 rfl rfl
theorem wn_X9_kindOfRow : m_X9_kindOfRow.1.cls ≠ "java/lang/invoke/MethodHandle" ∧ m_X9_kindOfRow.1.cls ≠ "java/lang/invoke/VarHandle" ∧ (parseMethodDescriptor m_X9_kindOfRow.1.desc).map (fun d => d.parameters.length) = some 2 := ⟨by decide +kernel, by decide +kernel, by decide +kernel⟩
set_option maxRecDepth 20000 in
theorem wm_X9_kindOfRow : Cond.instanceMethod m_X9_kindOfRow.1 ∈ tb := tb2 205 rfl rfl
theorem ws_X9_kindOfRow : Cond.selects m_X9_kindOfRow.1.cls m_X9_kindOfRow.1 m_X9_kindOfRow.1 ∈ tb := tb_sel (q := (m_X9_kindOfRow.1, 10)) (List.mem_of_getElem? (i := 3) (by decide +kernel)) rfl
set_option maxRecDepth 20000 in
theorem wi_X9_packName : Cond.initialized m_X9_packName.1.cls ∈ tb := tb1 4 rfl rfl
set_option maxRecDepth 20000 in
theorem wc_X9_packName : Cond.code m_X9_packName.1 m_X9_packName.2.1 m_X9_packName.2.2.1 m_X9_packName.2.2.2 ∈ tb := tb2 210 rfl rfl
theorem wn_X9_packName : m_X9_packName.1.cls ≠ "java/lang/invoke/MethodHandle" ∧ m_X9_packName.1.cls ≠ "java/lang/invoke/VarHandle" ∧ (parseMethodDescriptor m_X9_packName.1.desc).map (fun d => d.parameters.length) = some 2 := ⟨by decide +kernel, by decide +kernel, by decide +kernel⟩
set_option maxRecDepth 20000 in
theorem wm_X9_packName : Cond.instanceMethod m_X9_packName.1 ∈ tb := tb2 209 rfl rfl
theorem ws_X9_packName : Cond.selects m_X9_packName.1.cls m_X9_packName.1 m_X9_packName.1 ∈ tb := tb_sel (q := (m_X9_packName.1, 10)) (List.mem_of_getElem? (i := 4) (by decide +kernel)) rfl
set_option maxRecDepth 20000 in
theorem wi_X9_scan : Cond.initialized m_X9_scan.1.cls ∈ tb := tb1 4 rfl rfl
set_option maxRecDepth 20000 in
theorem wc_X9_scan : Cond.code m_X9_scan.1 m_X9_scan.2.1 m_X9_scan.2.2.1 m_X9_scan.2.2.2 ∈ tb := tb2 178 rfl rfl
theorem wn_X9_scan : m_X9_scan.1.cls ≠ "java/lang/invoke/MethodHandle" ∧ m_X9_scan.1.cls ≠ "java/lang/invoke/VarHandle" ∧ (parseMethodDescriptor m_X9_scan.1.desc).map (fun d => d.parameters.length) = some 0 := ⟨by decide +kernel, by decide +kernel, by decide +kernel⟩
set_option maxRecDepth 20000 in
theorem wm_X9_scan : Cond.instanceMethod m_X9_scan.1 ∈ tb := tb2 176 rfl rfl
set_option maxRecDepth 20000 in
theorem ws_X9_scan : Cond.selects m_X9_scan.1.cls m_X9_scan.1 m_X9_scan.1 ∈ tb := tb2 177 rfl rfl
set_option maxRecDepth 20000 in
theorem wi_X9_scanAt : Cond.initialized m_X9_scanAt.1.cls ∈ tb := tb1 4 rfl rfl
set_option maxRecDepth 20000 in
theorem wc_X9_scanAt : Cond.code m_X9_scanAt.1 m_X9_scanAt.2.1 m_X9_scanAt.2.2.1 m_X9_scanAt.2.2.2 ∈ tb := tb2 182 rfl rfl
theorem wn_X9_scanAt : m_X9_scanAt.1.cls ≠ "java/lang/invoke/MethodHandle" ∧ m_X9_scanAt.1.cls ≠ "java/lang/invoke/VarHandle" ∧ (parseMethodDescriptor m_X9_scanAt.1.desc).map (fun d => d.parameters.length) = some 1 := ⟨by decide +kernel, by decide +kernel, by decide +kernel⟩
set_option maxRecDepth 20000 in
theorem wm_X9_scanAt : Cond.instanceMethod m_X9_scanAt.1 ∈ tb := tb2 181 rfl rfl
theorem ws_X9_scanAt : Cond.selects m_X9_scanAt.1.cls m_X9_scanAt.1 m_X9_scanAt.1 ∈ tb := tb_sel (q := (m_X9_scanAt.1, 10)) (List.mem_of_getElem? (i := 0) (by decide +kernel)) rfl
set_option maxRecDepth 20000 in
theorem cv_X11_73 : CV "HeadNets" 73 m_X9_hasRoom 1 9 := ⟨⟨Or.inl (tb2 143 rfl rfl), wi_X9_hasRoom, wc_X9_hasRoom, wn_X9_hasRoom⟩, wm_X9_hasRoom, ws_X9_hasRoom, ⟨_, _, _, _, cf9, rfl⟩, by decide⟩
set_option maxRecDepth 20000 in
theorem cv_X11_79 : CV "HeadNets" 79 m_X9_append 1 9 := ⟨⟨Or.inl (tb2 147 rfl rfl), wi_X9_append, wc_X9_append, wn_X9_append⟩, wm_X9_append, ws_X9_append, ⟨_, _, _, _, cf9, rfl⟩, by decide⟩
set_option maxRecDepth 20000 in
theorem cv_X11_87 : CV "HeadNets" 87 m_X6_readText 0 6 := ⟨⟨Or.inl (tb2 159 rfl rfl), wi_X6_readText, wc_X6_readText, wn_X6_readText⟩, wm_X6_readText, ws_X6_readText, ⟨_, _, _, _, cf6, rfl⟩, by decide⟩
set_option maxRecDepth 20000 in
theorem cv_X11_99 : CV "HeadNets" 99 m_X2_clear 1 2 := ⟨⟨Or.inl (tb4 88 rfl rfl), wi_X2_clear, wc_X2_clear, wn_X2_clear⟩, wm_X2_clear, ws_X2_clear, ⟨_, _, _, _, cf2, rfl⟩, by decide⟩
set_option maxRecDepth 20000 in
theorem cv_X11_102 : CV "HeadNets" 102 m_X11_emptyShelves 0 11 := ⟨⟨Or.inl (tb4 92 rfl rfl), wi_X11_emptyShelves, wc_X11_emptyShelves, wn_X11_emptyShelves⟩, wm_X11_emptyShelves, ws_X11_emptyShelves, ⟨_, _, _, _, cf11, rfl⟩, by decide⟩
set_option maxRecDepth 20000 in
theorem cv_X11_128 : CV "HeadNets" 128 m_X0_countPairs 1 0 := ⟨⟨Or.inl (tb4 109 rfl rfl), wi_X0_countPairs, wc_X0_countPairs, wn_X0_countPairs⟩, wm_X0_countPairs, ws_X0_countPairs, ⟨_, _, _, _, cf0, rfl⟩, by decide⟩
set_option maxRecDepth 20000 in
theorem cv_X11_132 : CV "HeadNets" 132 m_X10_countCircles 1 10 := ⟨⟨Or.inl (tb4 136 rfl rfl), wi_X10_countCircles, wc_X10_countCircles, wn_X10_countCircles⟩, wm_X10_countCircles, ws_X10_countCircles, ⟨_, _, _, _, cf10, rfl⟩, by decide⟩
set_option maxRecDepth 20000 in
theorem cv_X11_150 : CV "HeadNets" 150 m_X3_has 1 3 := ⟨⟨Or.inl (tb4 150 rfl rfl), wi_X3_has, wc_X3_has, wn_X3_has⟩, wm_X3_has, ws_X3_has, ⟨_, _, _, _, cf3, rfl⟩, by decide⟩
set_option maxRecDepth 20000 in
theorem cv_X11_153 : CV "HeadNets" 153 m_X3_portsOf 1 3 := ⟨⟨Or.inl (tb4 151 rfl rfl), wi_X3_portsOf, wc_X3_portsOf, wn_X3_portsOf⟩, wm_X3_portsOf, ws_X3_portsOf, ⟨_, _, _, _, cf3, rfl⟩, by decide⟩
set_option maxRecDepth 20000 in
theorem cv_X11_157 : CV "HeadNets" 157 m_X4_countOfKind 1 4 := ⟨⟨Or.inl (tb4 152 rfl rfl), wi_X4_countOfKind, wc_X4_countOfKind, wn_X4_countOfKind⟩, wm_X4_countOfKind, ws_X4_countOfKind, ⟨_, _, _, _, cf4, rfl⟩, by decide⟩
set_option maxRecDepth 20000 in
theorem cv_X11_160 : CV "HeadNets" 160 m_X3_hasPort 2 3 := ⟨⟨Or.inl (tb4 156 rfl rfl), wi_X3_hasPort, wc_X3_hasPort, wn_X3_hasPort⟩, wm_X3_hasPort, ws_X3_hasPort, ⟨_, _, _, _, cf3, rfl⟩, by decide⟩
set_option maxRecDepth 20000 in
theorem cv_X11_164 : CV "HeadNets" 164 m_X3_sortOf 2 3 := ⟨⟨Or.inl (tb4 157 rfl rfl), wi_X3_sortOf, wc_X3_sortOf, wn_X3_sortOf⟩, wm_X3_sortOf, ws_X3_sortOf, ⟨_, _, _, _, cf3, rfl⟩, by decide⟩
set_option maxRecDepth 20000 in
theorem cv_X11_168 : CV "HeadNets" 168 m_X8_ruleFor 2 8 := ⟨⟨Or.inl (tb4 162 rfl rfl), wi_X8_ruleFor, wc_X8_ruleFor, wn_X8_ruleFor⟩, wm_X8_ruleFor, ws_X8_ruleFor, ⟨_, _, _, _, cf8, rfl⟩, by decide⟩
set_option maxRecDepth 20000 in
theorem cv_X11_171 : CV "HeadNets" 171 m_X8_agentsIn 1 8 := ⟨⟨Or.inl (tb4 163 rfl rfl), wi_X8_agentsIn, wc_X8_agentsIn, wn_X8_agentsIn⟩, wm_X8_agentsIn, ws_X8_agentsIn, ⟨_, _, _, _, cf8, rfl⟩, by decide⟩
set_option maxRecDepth 20000 in
theorem cv_X11_174 : CV "HeadNets" 174 m_X4_has 1 4 := ⟨⟨Or.inl (tb4 171 rfl rfl), wi_X4_has, wc_X4_has, wn_X4_has⟩, wm_X4_has, ws_X4_has, ⟨_, _, _, _, cf4, rfl⟩, by decide⟩
set_option maxRecDepth 20000 in
theorem cv_X11_175 : CV "HeadNets" 175 m_X4_kindOf 1 4 := ⟨⟨Or.inl (tb4 172 rfl rfl), wi_X4_kindOf, wc_X4_kindOf, wn_X4_kindOf⟩, wm_X4_kindOf, ws_X4_kindOf, ⟨_, _, _, _, cf4, rfl⟩, by decide⟩
set_option maxRecDepth 20000 in
theorem cv_X11_181 : CV "HeadNets" 181 m_X4_wireOf 1 4 := ⟨⟨Or.inl (tb4 178 rfl rfl), wi_X4_wireOf, wc_X4_wireOf, wn_X4_wireOf⟩, wm_X4_wireOf, ws_X4_wireOf, ⟨_, _, _, _, cf4, rfl⟩, by decide⟩
set_option maxRecDepth 20000 in
theorem cv_X11_184 : CV "HeadNets" 184 m_X4_hasEnd 1 4 := ⟨⟨Or.inl (tb4 186 rfl rfl), wi_X4_hasEnd, wc_X4_hasEnd, wn_X4_hasEnd⟩, wm_X4_hasEnd, ws_X4_hasEnd, ⟨_, _, _, _, cf4, rfl⟩, by decide⟩
set_option maxRecDepth 20000 in
theorem cv_X11_190 : CV "HeadNets" 190 m_X0_alivePairAt 1 0 := ⟨⟨Or.inl (tb4 195 rfl rfl), wi_X0_alivePairAt, wc_X0_alivePairAt, wn_X0_alivePairAt⟩, wm_X0_alivePairAt, ws_X0_alivePairAt, ⟨_, _, _, _, cf0, rfl⟩, by decide⟩
set_option maxRecDepth 20000 in
theorem cv_X11_193 : CV "HeadNets" 193 m_X0_aliveRule 1 0 := ⟨⟨Or.inl (tb4 203 rfl rfl), wi_X0_aliveRule, wc_X0_aliveRule, wn_X0_aliveRule⟩, wm_X0_aliveRule, ws_X0_aliveRule, ⟨_, _, _, _, cf0, rfl⟩, by decide⟩
set_option maxRecDepth 20000 in
theorem cv_X11_196 : CV "HeadNets" 196 m_X11_takeStep 1 11 := ⟨⟨Or.inl (tb4 204 rfl rfl), wi_X11_takeStep, wc_X11_takeStep, wn_X11_takeStep⟩, wm_X11_takeStep, ws_X11_takeStep, ⟨_, _, _, _, cf11, rfl⟩, by decide⟩
set_option maxRecDepth 20000 in
theorem cv_X11_199 : CV "HeadNets" 199 m_X11_runRounds 1 11 := ⟨⟨Or.inl (tb5 69 rfl rfl), wi_X11_runRounds, wc_X11_runRounds, wn_X11_runRounds⟩, wm_X11_runRounds, ws_X11_runRounds, ⟨_, _, _, _, cf11, rfl⟩, by decide⟩
set_option maxRecDepth 20000 in
theorem cv_X11_202 : CV "HeadNets" 202 m_X11_runSingly 2 11 := ⟨⟨Or.inl (tb5 77 rfl rfl), wi_X11_runSingly, wc_X11_runSingly, wn_X11_runSingly⟩, wm_X11_runSingly, ws_X11_runSingly, ⟨_, _, _, _, cf11, rfl⟩, by decide⟩
set_option maxRecDepth 20000 in
theorem cv_X11_205 : CV "HeadNets" 205 m_X2_recentStep 1 2 := ⟨⟨Or.inl (tb5 99 rfl rfl), wi_X2_recentStep, wc_X2_recentStep, wn_X2_recentStep⟩, wm_X2_recentStep, ws_X2_recentStep, ⟨_, _, _, _, cf2, rfl⟩, by decide⟩
set_option maxRecDepth 20000 in
theorem cv_X11_208 : CV "HeadNets" 208 m_X11_shelfAt 1 11 := ⟨⟨Or.inl (tb4 96 rfl rfl), wi_X11_shelfAt, wc_X11_shelfAt, wn_X11_shelfAt⟩, wm_X11_shelfAt, ws_X11_shelfAt, ⟨_, _, _, _, cf11, rfl⟩, by decide⟩
set_option maxRecDepth 20000 in
theorem cv_X11_212 : CV "HeadNets" 212 m_X4_copyFrom 1 4 := ⟨⟨Or.inl (tb5 109 rfl rfl), wi_X4_copyFrom, wc_X4_copyFrom, wn_X4_copyFrom⟩, wm_X4_copyFrom, ws_X4_copyFrom, ⟨_, _, _, _, cf4, rfl⟩, by decide⟩
set_option maxRecDepth 20000 in
theorem cv_X11_219 : CV "HeadNets" 219 m_X10_reachAll 2 10 := ⟨⟨Or.inl (tb5 124 rfl rfl), wi_X10_reachAll, wc_X10_reachAll, wn_X10_reachAll⟩, wm_X10_reachAll, ws_X10_reachAll, ⟨_, _, _, _, cf10, rfl⟩, by decide⟩
set_option maxRecDepth 20000 in
theorem cv_X11_223 : CV "HeadNets" 223 m_X10_isLike 4 10 := ⟨⟨Or.inl (tb5 142 rfl rfl), wi_X10_isLike, wc_X10_isLike, wn_X10_isLike⟩, wm_X10_isLike, ws_X10_isLike, ⟨_, _, _, _, cf10, rfl⟩, by decide⟩
set_option maxRecDepth 20000 in
theorem cv_X11_228 : CV "HeadNets" 228 m_X5_putTree 3 5 := ⟨⟨Or.inr ⟨"HeadNets", tn5 171 rfl⟩, wi_X5_putTree, wc_X5_putTree, wn_X5_putTree⟩, wm_X5_putTree, ws_X5_putTree, ⟨_, _, _, _, cf5, rfl⟩, by decide⟩
set_option maxRecDepth 20000 in
theorem cv_X11_232 : CV "HeadNets" 232 m_X5_byteAt 1 5 := ⟨⟨Or.inl (tb5 203 rfl rfl), wi_X5_byteAt, wc_X5_byteAt, wn_X5_byteAt⟩, wm_X5_byteAt, ws_X5_byteAt, ⟨_, _, _, _, cf5, rfl⟩, by decide⟩
set_option maxRecDepth 20000 in
theorem cv_X11_238 : CV "HeadNets" 238 m_X4_mateOf 1 4 := ⟨⟨Or.inl (tb4 208 rfl rfl), wi_X4_mateOf, wc_X4_mateOf, wn_X4_mateOf⟩, wm_X4_mateOf, ws_X4_mateOf, ⟨_, _, _, _, cf4, rfl⟩, by decide⟩
set_option maxRecDepth 20000 in
theorem cv_X11_249 : CV "HeadNets" 249 m_X2_noteStep 2 2 := ⟨⟨Or.inl (tb4 211 rfl rfl), wi_X2_noteStep, wc_X2_noteStep, wn_X2_noteStep⟩, wm_X2_noteStep, ws_X2_noteStep, ⟨_, _, _, _, cf2, rfl⟩, by decide⟩
set_option maxRecDepth 20000 in
theorem cv_X11_253 : CV "HeadNets" 253 m_X7_rewrite 4 7 := ⟨⟨Or.inl (tb4 218 rfl rfl), wi_X7_rewrite, wc_X7_rewrite, wn_X7_rewrite⟩, wm_X7_rewrite, ws_X7_rewrite, ⟨_, _, _, _, cf7, rfl⟩, by decide⟩
set_option maxRecDepth 20000 in
theorem cv_X11_257 : CV "HeadNets" 257 m_X2_noteAgents 1 2 := ⟨⟨Or.inl (tb5 60 rfl rfl), wi_X2_noteAgents, wc_X2_noteAgents, wn_X2_noteAgents⟩, wm_X2_noteAgents, ws_X2_noteAgents, ⟨_, _, _, _, cf2, rfl⟩, by decide⟩
set_option maxRecDepth 20000 in
theorem cv_X11_260 : CV "HeadNets" 260 m_X11_choosePair 1 11 := ⟨⟨Or.inl (tb5 81 rfl rfl), wi_X11_choosePair, wc_X11_choosePair, wn_X11_choosePair⟩, wm_X11_choosePair, ws_X11_choosePair, ⟨_, _, _, _, cf11, rfl⟩, by decide⟩
set_option maxRecDepth 20000 in
theorem cv_X11_263 : CV "HeadNets" 263 m_X0_greatestAlivePair 0 0 := ⟨⟨Or.inl (tb5 85 rfl rfl), wi_X0_greatestAlivePair, wc_X0_greatestAlivePair, wn_X0_greatestAlivePair⟩, wm_X0_greatestAlivePair, ws_X0_greatestAlivePair, ⟨_, _, _, _, cf0, rfl⟩, by decide⟩
set_option maxRecDepth 20000 in
theorem cv_X11_270 : CV "HeadNets" 270 m_X0_listAlivePairs 1 0 := ⟨⟨Or.inl (tb5 73 rfl rfl), wi_X0_listAlivePairs, wc_X0_listAlivePairs, wn_X0_listAlivePairs⟩, wm_X0_listAlivePairs, ws_X0_listAlivePairs, ⟨_, _, _, _, cf0, rfl⟩, by decide⟩
set_option maxRecDepth 20000 in
theorem cv_X0_36 : CV "HeadNets$Book" 36 m_X8_clear 0 8 := ⟨⟨Or.inl (tb2 167 rfl rfl), wi_X8_clear, wc_X8_clear, wn_X8_clear⟩, wm_X8_clear, ws_X8_clear, ⟨_, _, _, _, cf8, rfl⟩, by decide⟩
set_option maxRecDepth 20000 in
theorem cv_X0_39 : CV "HeadNets$Book" 39 m_X4_clear 0 4 := ⟨⟨Or.inl (tb2 171 rfl rfl), wi_X4_clear, wc_X4_clear, wn_X4_clear⟩, wm_X4_clear, ws_X4_clear, ⟨_, _, _, _, cf4, rfl⟩, by decide⟩
set_option maxRecDepth 20000 in
theorem cv_X0_40 : CV "HeadNets$Book" 40 m_X4_mateOf 1 4 := ⟨⟨Or.inl (tb4 117 rfl rfl), wi_X4_mateOf, wc_X4_mateOf, wn_X4_mateOf⟩, wm_X4_mateOf, ws_X4_mateOf, ⟨_, _, _, _, cf4, rfl⟩, by decide⟩
set_option maxRecDepth 20000 in
theorem cv_X0_44 : CV "HeadNets$Book" 44 m_X4_kindOf 1 4 := ⟨⟨Or.inl (tb4 131 rfl rfl), wi_X4_kindOf, wc_X4_kindOf, wn_X4_kindOf⟩, wm_X4_kindOf, ws_X4_kindOf, ⟨_, _, _, _, cf4, rfl⟩, by decide⟩
set_option maxRecDepth 20000 in
theorem cv_X0_47 : CV "HeadNets$Book" 47 m_X8_ruleFor 2 8 := ⟨⟨Or.inl (tb4 135 rfl rfl), wi_X8_ruleFor, wc_X8_ruleFor, wn_X8_ruleFor⟩, wm_X8_ruleFor, ws_X8_ruleFor, ⟨_, _, _, _, cf8, rfl⟩, by decide⟩
set_option maxRecDepth 20000 in
theorem cv_X0_51 : CV "HeadNets$Book" 51 m_X0_aliveRule 1 0 := ⟨⟨Or.inl (tb4 127 rfl rfl), wi_X0_aliveRule, wc_X0_aliveRule, wn_X0_aliveRule⟩, wm_X0_aliveRule, ws_X0_aliveRule, ⟨_, _, _, _, cf0, rfl⟩, by decide⟩
set_option maxRecDepth 20000 in
theorem cv_X0_57 : CV "HeadNets$Book" 57 m_X0_isPair 2 0 := ⟨⟨Or.inl (tb4 113 rfl rfl), wi_X0_isPair, wc_X0_isPair, wn_X0_isPair⟩, wm_X0_isPair, ws_X0_isPair, ⟨_, _, _, _, cf0, rfl⟩, by decide⟩
set_option maxRecDepth 20000 in
theorem cv_X1_49 : CV "HeadNets$Draft" 49 m_X1_stand 1 1 := ⟨⟨Or.inl (tb4 71 rfl rfl), wi_X1_stand, wc_X1_stand, wn_X1_stand⟩, wm_X1_stand, ws_X1_stand, ⟨_, _, _, _, cf1, rfl⟩, by decide⟩
set_option maxRecDepth 20000 in
theorem cv_X1_53 : CV "HeadNets$Draft" 53 m_X1_join 2 1 := ⟨⟨Or.inl (tb4 72 rfl rfl), wi_X1_join, wc_X1_join, wn_X1_join⟩, wm_X1_join, ws_X1_join, ⟨_, _, _, _, cf1, rfl⟩, by decide⟩
set_option maxRecDepth 20000 in
theorem cv_X1_61 : CV "HeadNets$Draft" 61 m_X1_passName 1 1 := ⟨⟨Or.inl (tb3 222 rfl rfl), wi_X1_passName, wc_X1_passName, wn_X1_passName⟩, wm_X1_passName, ws_X1_passName, ⟨_, _, _, _, cf1, rfl⟩, by decide⟩
set_option maxRecDepth 20000 in
theorem cv_X1_67 : CV "HeadNets$Draft" 67 m_X1_farCode 1 1 := ⟨⟨Or.inl (tb4 53 rfl rfl), wi_X1_farCode, wc_X1_farCode, wn_X1_farCode⟩, wm_X1_farCode, ws_X1_farCode, ⟨_, _, _, _, cf1, rfl⟩, by decide⟩
set_option maxRecDepth 20000 in
theorem cv_X3_26 : CV "HeadNets$Kinds" 26 m_X3_isFull 0 3 := ⟨⟨Or.inl (tb3 98 rfl rfl), wi_X3_isFull, wc_X3_isFull, wn_X3_isFull⟩, wm_X3_isFull, ws_X3_isFull, ⟨_, _, _, _, cf3, rfl⟩, by decide⟩
set_option maxRecDepth 20000 in
theorem cv_X3_30 : CV "HeadNets$Kinds" 30 m_X3_has 1 3 := ⟨⟨Or.inl (tb3 113 rfl rfl), wi_X3_has, wc_X3_has, wn_X3_has⟩, wm_X3_has, ws_X3_has, ⟨_, _, _, _, cf3, rfl⟩, by decide⟩
set_option maxRecDepth 20000 in
theorem cv_X3_34 : CV "HeadNets$Kinds" 34 m_X3_portsOf 1 3 := ⟨⟨Or.inl (tb4 25 rfl rfl), wi_X3_portsOf, wc_X3_portsOf, wn_X3_portsOf⟩, wm_X3_portsOf, ws_X3_portsOf, ⟨_, _, _, _, cf3, rfl⟩, by decide⟩
set_option maxRecDepth 20000 in
theorem cv_X4_56 : CV "HeadNets$Net" 56 m_X4_has 1 4 := ⟨⟨Or.inl (tb4 121 rfl rfl), wi_X4_has, wc_X4_has, wn_X4_has⟩, wm_X4_has, ws_X4_has, ⟨_, _, _, _, cf4, rfl⟩, by decide⟩
set_option maxRecDepth 20000 in
theorem cv_X4_67 : CV "HeadNets$Net" 67 m_X4_setWire 2 4 := ⟨⟨Or.inl (tb5 47 rfl rfl), wi_X4_setWire, wc_X4_setWire, wn_X4_setWire⟩, wm_X4_setWire, ws_X4_setWire, ⟨_, _, _, _, cf4, rfl⟩, by decide⟩
set_option maxRecDepth 20000 in
theorem cv_X5_23 : CV "HeadNets$Printer" 23 m_X5_put 1 5 := ⟨⟨Or.inl (tb5 175 rfl rfl), wi_X5_put, wc_X5_put, wn_X5_put⟩, wm_X5_put, ws_X5_put, ⟨_, _, _, _, cf5, rfl⟩, by decide⟩
set_option maxRecDepth 20000 in
theorem cv_X5_37 : CV "HeadNets$Printer" 37 m_X5_putAgent 3 5 := ⟨⟨Or.inl (tb5 182 rfl rfl), wi_X5_putAgent, wc_X5_putAgent, wn_X5_putAgent⟩, wm_X5_putAgent, ws_X5_putAgent, ⟨_, _, _, _, cf5, rfl⟩, by decide⟩
set_option maxRecDepth 20000 in
theorem cv_X5_47 : CV "HeadNets$Printer" 47 m_X4_kindOf 1 4 := ⟨⟨Or.inl (tb5 186 rfl rfl), wi_X4_kindOf, wc_X4_kindOf, wn_X4_kindOf⟩, wm_X4_kindOf, ws_X4_kindOf, ⟨_, _, _, _, cf4, rfl⟩, by decide⟩
set_option maxRecDepth 20000 in
theorem cv_X5_56 : CV "HeadNets$Printer" 56 m_X3_nameOf 1 3 := ⟨⟨Or.inl (tb5 187 rfl rfl), wi_X3_nameOf, wc_X3_nameOf, wn_X3_nameOf⟩, wm_X3_nameOf, ws_X3_nameOf, ⟨_, _, _, _, cf3, rfl⟩, by decide⟩
set_option maxRecDepth 20000 in
theorem cv_X5_62 : CV "HeadNets$Printer" 62 m_X5_putName 1 5 := ⟨⟨Or.inl (tb5 191 rfl rfl), wi_X5_putName, wc_X5_putName, wn_X5_putName⟩, wm_X5_putName, ws_X5_putName, ⟨_, _, _, _, cf5, rfl⟩, by decide⟩
set_option maxRecDepth 20000 in
theorem cv_X5_66 : CV "HeadNets$Printer" 66 m_X3_portsOf 1 3 := ⟨⟨Or.inl (tb5 195 rfl rfl), wi_X3_portsOf, wc_X3_portsOf, wn_X3_portsOf⟩, wm_X3_portsOf, ws_X3_portsOf, ⟨_, _, _, _, cf3, rfl⟩, by decide⟩
set_option maxRecDepth 20000 in
theorem cv_X5_73 : CV "HeadNets$Printer" 73 m_X4_wireOf 1 4 := ⟨⟨Or.inl (tb5 197 rfl rfl), wi_X4_wireOf, wc_X4_wireOf, wn_X4_wireOf⟩, wm_X4_wireOf, ws_X4_wireOf, ⟨_, _, _, _, cf4, rfl⟩, by decide⟩
set_option maxRecDepth 20000 in
theorem cv_X5_76 : CV "HeadNets$Printer" 76 m_X5_putTree 3 5 := ⟨⟨Or.inl (tb5 198 rfl rfl), wi_X5_putTree, wc_X5_putTree, wn_X5_putTree⟩, wm_X5_putTree, ws_X5_putTree, ⟨_, _, _, _, cf5, rfl⟩, by decide⟩
set_option maxRecDepth 20000 in
theorem cv_X6_40 : CV "HeadNets$Reader" 40 m_X0_clear 0 0 := ⟨⟨Or.inl (tb2 163 rfl rfl), wi_X0_clear, wc_X0_clear, wn_X0_clear⟩, wm_X0_clear, ws_X0_clear, ⟨_, _, _, _, cf0, rfl⟩, by decide⟩
set_option maxRecDepth 20000 in
theorem cv_X6_50 : CV "HeadNets$Reader" 50 m_X9_scan 0 9 := ⟨⟨Or.inl (tb2 175 rfl rfl), wi_X9_scan, wc_X9_scan, wn_X9_scan⟩, wm_X9_scan, ws_X9_scan, ⟨_, _, _, _, cf9, rfl⟩, by decide⟩
set_option maxRecDepth 20000 in
theorem cv_X6_58 : CV "HeadNets$Reader" 58 m_X6_isWord 1 6 := ⟨⟨Or.inl (tb3 69 rfl rfl), wi_X6_isWord, wc_X6_isWord, wn_X6_isWord⟩, wm_X6_isWord, ws_X6_isWord, ⟨_, _, _, _, cf6, rfl⟩, by decide⟩
set_option maxRecDepth 20000 in
theorem cv_X6_62 : CV "HeadNets$Reader" 62 m_X6_readKind 0 6 := ⟨⟨Or.inl (tb3 73 rfl rfl), wi_X6_readKind, wc_X6_readKind, wn_X6_readKind⟩, wm_X6_readKind, ws_X6_readKind, ⟨_, _, _, _, cf6, rfl⟩, by decide⟩
set_option maxRecDepth 20000 in
theorem cv_X6_67 : CV "HeadNets$Reader" 67 m_X6_readRule 0 6 := ⟨⟨Or.inl (tb3 122 rfl rfl), wi_X6_readRule, wc_X6_readRule, wn_X6_readRule⟩, wm_X6_readRule, ws_X6_readRule, ⟨_, _, _, _, cf6, rfl⟩, by decide⟩
set_option maxRecDepth 20000 in
theorem cv_X6_72 : CV "HeadNets$Reader" 72 m_X6_readNet 0 6 := ⟨⟨Or.inl (tb4 59 rfl rfl), wi_X6_readNet, wc_X6_readNet, wn_X6_readNet⟩, wm_X6_readNet, ws_X6_readNet, ⟨_, _, _, _, cf6, rfl⟩, by decide⟩
set_option maxRecDepth 20000 in
theorem cv_X6_75 : CV "HeadNets$Reader" 75 m_X6_refuseToken 0 6 := ⟨⟨Or.inl (tb3 78 rfl rfl), wi_X6_refuseToken, wc_X6_refuseToken, wn_X6_refuseToken⟩, wm_X6_refuseToken, ws_X6_refuseToken, ⟨_, _, _, _, cf6, rfl⟩, by decide⟩
set_option maxRecDepth 20000 in
theorem cv_X6_88 : CV "HeadNets$Reader" 88 m_X9_advance 0 9 := ⟨⟨Or.inl (tb3 77 rfl rfl), wi_X9_advance, wc_X9_advance, wn_X9_advance⟩, wm_X9_advance, ws_X9_advance, ⟨_, _, _, _, cf9, rfl⟩, by decide⟩
set_option maxRecDepth 20000 in
theorem cv_X6_95 : CV "HeadNets$Reader" 95 m_X3_find 1 3 := ⟨⟨Or.inl (tb3 82 rfl rfl), wi_X3_find, wc_X3_find, wn_X3_find⟩, wm_X3_find, ws_X3_find, ⟨_, _, _, _, cf3, rfl⟩, by decide⟩
set_option maxRecDepth 20000 in
theorem cv_X6_101 : CV "HeadNets$Reader" 101 m_X6_refuse 1 6 := ⟨⟨Or.inl (tb3 86 rfl rfl), wi_X6_refuse, wc_X6_refuse, wn_X6_refuse⟩, wm_X6_refuse, ws_X6_refuse, ⟨_, _, _, _, cf6, rfl⟩, by decide⟩
set_option maxRecDepth 20000 in
theorem cv_X6_105 : CV "HeadNets$Reader" 105 m_X3_isFull 0 3 := ⟨⟨Or.inl (tb3 90 rfl rfl), wi_X3_isFull, wc_X3_isFull, wn_X3_isFull⟩, wm_X3_isFull, ws_X3_isFull, ⟨_, _, _, _, cf3, rfl⟩, by decide⟩
set_option maxRecDepth 20000 in
theorem cv_X6_109 : CV "HeadNets$Reader" 109 m_X3_add 1 3 := ⟨⟨Or.inl (tb3 94 rfl rfl), wi_X3_add, wc_X3_add, wn_X3_add⟩, wm_X3_add, ws_X3_add, ⟨_, _, _, _, cf3, rfl⟩, by decide⟩
set_option maxRecDepth 20000 in
theorem cv_X6_113 : CV "HeadNets$Reader" 113 m_X6_readPorts 0 6 := ⟨⟨Or.inl (tb3 99 rfl rfl), wi_X6_readPorts, wc_X6_readPorts, wn_X6_readPorts⟩, wm_X6_readPorts, ws_X6_readPorts, ⟨_, _, _, _, cf6, rfl⟩, by decide⟩
set_option maxRecDepth 20000 in
theorem cv_X6_116 : CV "HeadNets$Reader" 116 m_X6_readPort 1 6 := ⟨⟨Or.inl (tb3 103 rfl rfl), wi_X6_readPort, wc_X6_readPort, wn_X6_readPort⟩, wm_X6_readPort, ws_X6_readPort, ⟨_, _, _, _, cf6, rfl⟩, by decide⟩
set_option maxRecDepth 20000 in
theorem cv_X6_119 : CV "HeadNets$Reader" 119 m_X6_pass 1 6 := ⟨⟨Or.inl (tb3 117 rfl rfl), wi_X6_pass, wc_X6_pass, wn_X6_pass⟩, wm_X6_pass, ws_X6_pass, ⟨_, _, _, _, cf6, rfl⟩, by decide⟩
set_option maxRecDepth 20000 in
theorem cv_X6_126 : CV "HeadNets$Reader" 126 m_X3_addPort 1 3 := ⟨⟨Or.inl (tb3 109 rfl rfl), wi_X3_addPort, wc_X3_addPort, wn_X3_addPort⟩, wm_X3_addPort, ws_X3_addPort, ⟨_, _, _, _, cf3, rfl⟩, by decide⟩
set_option maxRecDepth 20000 in
theorem cv_X6_133 : CV "HeadNets$Reader" 133 m_X8_isFull 0 8 := ⟨⟨Or.inl (tb3 126 rfl rfl), wi_X8_isFull, wc_X8_isFull, wn_X8_isFull⟩, wm_X8_isFull, ws_X8_isFull, ⟨_, _, _, _, cf8, rfl⟩, by decide⟩
set_option maxRecDepth 20000 in
theorem cv_X6_136 : CV "HeadNets$Reader" 136 m_X1_clear 0 1 := ⟨⟨Or.inl (tb3 130 rfl rfl), wi_X1_clear, wc_X1_clear, wn_X1_clear⟩, wm_X1_clear, ws_X1_clear, ⟨_, _, _, _, cf1, rfl⟩, by decide⟩
set_option maxRecDepth 20000 in
theorem cv_X6_140 : CV "HeadNets$Reader" 140 m_X6_readSide 1 6 := ⟨⟨Or.inl (tb3 135 rfl rfl), wi_X6_readSide, wc_X6_readSide, wn_X6_readSide⟩, wm_X6_readSide, ws_X6_readSide, ⟨_, _, _, _, cf6, rfl⟩, by decide⟩
set_option maxRecDepth 20000 in
theorem cv_X6_143 : CV "HeadNets$Reader" 143 m_X6_readLinks 0 6 := ⟨⟨Or.inl (tb3 171 rfl rfl), wi_X6_readLinks, wc_X6_readLinks, wn_X6_readLinks⟩, wm_X6_readLinks, ws_X6_readLinks, ⟨_, _, _, _, cf6, rfl⟩, by decide⟩
set_option maxRecDepth 20000 in
theorem cv_X6_146 : CV "HeadNets$Reader" 146 m_X6_endRule 0 6 := ⟨⟨Or.inl (tb3 190 rfl rfl), wi_X6_endRule, wc_X6_endRule, wn_X6_endRule⟩, wm_X6_endRule, ws_X6_endRule, ⟨_, _, _, _, cf6, rfl⟩, by decide⟩
set_option maxRecDepth 20000 in
theorem cv_X6_149 : CV "HeadNets$Reader" 149 m_X6_readSideNames 1 6 := ⟨⟨Or.inl (tb3 139 rfl rfl), wi_X6_readSideNames, wc_X6_readSideNames, wn_X6_readSideNames⟩, wm_X6_readSideNames, ws_X6_readSideNames, ⟨_, _, _, _, cf6, rfl⟩, by decide⟩
set_option maxRecDepth 20000 in
theorem cv_X6_153 : CV "HeadNets$Reader" 153 m_X6_askBracket 3 6 := ⟨⟨Or.inl (tb3 163 rfl rfl), wi_X6_askBracket, wc_X6_askBracket, wn_X6_askBracket⟩, wm_X6_askBracket, ws_X6_askBracket, ⟨_, _, _, _, cf6, rfl⟩, by decide⟩
set_option maxRecDepth 20000 in
theorem cv_X6_157 : CV "HeadNets$Reader" 157 m_X6_readName 1 6 := ⟨⟨Or.inl (tb3 143 rfl rfl), wi_X6_readName, wc_X6_readName, wn_X6_readName⟩, wm_X6_readName, ws_X6_readName, ⟨_, _, _, _, cf6, rfl⟩, by decide⟩
set_option maxRecDepth 20000 in
theorem cv_X6_163 : CV "HeadNets$Reader" 163 m_X1_join 2 1 := ⟨⟨Or.inl (tb3 159 rfl rfl), wi_X1_join, wc_X1_join, wn_X1_join⟩, wm_X1_join, ws_X1_join, ⟨_, _, _, _, cf1, rfl⟩, by decide⟩
set_option maxRecDepth 20000 in
theorem cv_X6_167 : CV "HeadNets$Reader" 167 m_X3_portsOf 1 3 := ⟨⟨Or.inl (tb3 167 rfl rfl), wi_X3_portsOf, wc_X3_portsOf, wn_X3_portsOf⟩, wm_X3_portsOf, ws_X3_portsOf, ⟨_, _, _, _, cf3, rfl⟩, by decide⟩
set_option maxRecDepth 20000 in
theorem cv_X6_170 : CV "HeadNets$Reader" 170 m_X6_endNet 0 6 := ⟨⟨Or.inl (tb4 63 rfl rfl), wi_X6_endNet, wc_X6_endNet, wn_X6_endNet⟩, wm_X6_endNet, ws_X6_endNet, ⟨_, _, _, _, cf6, rfl⟩, by decide⟩
set_option maxRecDepth 20000 in
theorem cv_X6_173 : CV "HeadNets$Reader" 173 m_X6_readTerm 1 6 := ⟨⟨Or.inl (tb3 175 rfl rfl), wi_X6_readTerm, wc_X6_readTerm, wn_X6_readTerm⟩, wm_X6_readTerm, ws_X6_readTerm, ⟨_, _, _, _, cf6, rfl⟩, by decide⟩
set_option maxRecDepth 20000 in
theorem cv_X6_179 : CV "HeadNets$Reader" 179 m_X1_addAgent 1 1 := ⟨⟨Or.inl (tb3 179 rfl rfl), wi_X1_addAgent, wc_X1_addAgent, wn_X1_addAgent⟩, wm_X1_addAgent, ws_X1_addAgent, ⟨_, _, _, _, cf1, rfl⟩, by decide⟩
set_option maxRecDepth 20000 in
theorem cv_X6_182 : CV "HeadNets$Reader" 182 m_X6_readBracket 2 6 := ⟨⟨Or.inl (tb3 183 rfl rfl), wi_X6_readBracket, wc_X6_readBracket, wn_X6_readBracket⟩, wm_X6_readBracket, ws_X6_readBracket, ⟨_, _, _, _, cf6, rfl⟩, by decide⟩
set_option maxRecDepth 20000 in
theorem cv_X6_189 : CV "HeadNets$Reader" 189 m_X1_nameNumber 1 1 := ⟨⟨Or.inl (tb3 147 rfl rfl), wi_X1_nameNumber, wc_X1_nameNumber, wn_X1_nameNumber⟩, wm_X1_nameNumber, ws_X1_nameNumber, ⟨_, _, _, _, cf1, rfl⟩, by decide⟩
set_option maxRecDepth 20000 in
theorem cv_X6_192 : CV "HeadNets$Reader" 192 m_X1_stand 1 1 := ⟨⟨Or.inl (tb3 151 rfl rfl), wi_X1_stand, wc_X1_stand, wn_X1_stand⟩, wm_X1_stand, ws_X1_stand, ⟨_, _, _, _, cf1, rfl⟩, by decide⟩
set_option maxRecDepth 20000 in
theorem cv_X6_195 : CV "HeadNets$Reader" 195 m_X8_ruleFor 2 8 := ⟨⟨Or.inl (tb3 194 rfl rfl), wi_X8_ruleFor, wc_X8_ruleFor, wn_X8_ruleFor⟩, wm_X8_ruleFor, ws_X8_ruleFor, ⟨_, _, _, _, cf8, rfl⟩, by decide⟩
set_option maxRecDepth 20000 in
theorem cv_X6_198 : CV "HeadNets$Reader" 198 m_X1_hasNameStanding 2 1 := ⟨⟨Or.inl (tb3 199 rfl rfl), wi_X1_hasNameStanding, wc_X1_hasNameStanding, wn_X1_hasNameStanding⟩, wm_X1_hasNameStanding, ws_X1_hasNameStanding, ⟨_, _, _, _, cf1, rfl⟩, by decide⟩
set_option maxRecDepth 20000 in
theorem cv_X6_202 : CV "HeadNets$Reader" 202 m_X6_agentsFit 0 6 := ⟨⟨Or.inl (tb3 203 rfl rfl), wi_X6_agentsFit, wc_X6_agentsFit, wn_X6_agentsFit⟩, wm_X6_agentsFit, ws_X6_agentsFit, ⟨_, _, _, _, cf6, rfl⟩, by decide⟩
set_option maxRecDepth 20000 in
theorem cv_X6_205 : CV "HeadNets$Reader" 205 m_X6_slotsFit 0 6 := ⟨⟨Or.inl (tb4 13 rfl rfl), wi_X6_slotsFit, wc_X6_slotsFit, wn_X6_slotsFit⟩, wm_X6_slotsFit, ws_X6_slotsFit, ⟨_, _, _, _, cf6, rfl⟩, by decide⟩
set_option maxRecDepth 20000 in
theorem cv_X6_208 : CV "HeadNets$Reader" 208 m_X8_add 2 8 := ⟨⟨Or.inl (tb4 26 rfl rfl), wi_X8_add, wc_X8_add, wn_X8_add⟩, wm_X8_add, ws_X8_add, ⟨_, _, _, _, cf8, rfl⟩, by decide⟩
set_option maxRecDepth 20000 in
theorem cv_X6_210 : CV "HeadNets$Reader" 210 m_X6_storeRule 1 6 := ⟨⟨Or.inl (tb4 31 rfl rfl), wi_X6_storeRule, wc_X6_storeRule, wn_X6_storeRule⟩, wm_X6_storeRule, ws_X6_storeRule, ⟨_, _, _, _, cf6, rfl⟩, by decide⟩
set_option maxRecDepth 20000 in
theorem cv_X6_213 : CV "HeadNets$Reader" 213 m_X1_addEnds 0 1 := ⟨⟨Or.inl (tb4 67 rfl rfl), wi_X1_addEnds, wc_X1_addEnds, wn_X1_addEnds⟩, wm_X1_addEnds, ws_X1_addEnds, ⟨_, _, _, _, cf1, rfl⟩, by decide⟩
set_option maxRecDepth 20000 in
theorem cv_X6_219 : CV "HeadNets$Reader" 219 m_X6_storeNet 0 6 := ⟨⟨Or.inl (tb4 73 rfl rfl), wi_X6_storeNet, wc_X6_storeNet, wn_X6_storeNet⟩, wm_X6_storeNet, ws_X6_storeNet, ⟨_, _, _, _, cf6, rfl⟩, by decide⟩
set_option maxRecDepth 20000 in
theorem cv_X6_222 : CV "HeadNets$Reader" 222 m_X1_kindOf 1 1 := ⟨⟨Or.inl (tb3 207 rfl rfl), wi_X1_kindOf, wc_X1_kindOf, wn_X1_kindOf⟩, wm_X1_kindOf, ws_X1_kindOf, ⟨_, _, _, _, cf1, rfl⟩, by decide⟩
set_option maxRecDepth 20000 in
theorem cv_X6_225 : CV "HeadNets$Reader" 225 m_X3_sortOf 2 3 := ⟨⟨Or.inl (tb3 211 rfl rfl), wi_X3_sortOf, wc_X3_sortOf, wn_X3_sortOf⟩, wm_X3_sortOf, ws_X3_sortOf, ⟨_, _, _, _, cf3, rfl⟩, by decide⟩
set_option maxRecDepth 20000 in
theorem cv_X6_228 : CV "HeadNets$Reader" 228 m_X1_farCode 1 1 := ⟨⟨Or.inl (tb3 215 rfl rfl), wi_X1_farCode, wc_X1_farCode, wn_X1_farCode⟩, wm_X1_farCode, ws_X1_farCode, ⟨_, _, _, _, cf1, rfl⟩, by decide⟩
set_option maxRecDepth 20000 in
theorem cv_X6_231 : CV "HeadNets$Reader" 231 m_X6_fits 2 6 := ⟨⟨Or.inl (tb3 229 rfl rfl), wi_X6_fits, wc_X6_fits, wn_X6_fits⟩, wm_X6_fits, ws_X6_fits, ⟨_, _, _, _, cf6, rfl⟩, by decide⟩
set_option maxRecDepth 20000 in
theorem cv_X6_234 : CV "HeadNets$Reader" 234 m_X6_hasSlot 1 6 := ⟨⟨Or.inl (tb4 17 rfl rfl), wi_X6_hasSlot, wc_X6_hasSlot, wn_X6_hasSlot⟩, wm_X6_hasSlot, ws_X6_hasSlot, ⟨_, _, _, _, cf6, rfl⟩, by decide⟩
set_option maxRecDepth 20000 in
theorem cv_X6_238 : CV "HeadNets$Reader" 238 m_X6_slotSort 1 6 := ⟨⟨Or.inl (tb4 2 rfl rfl), wi_X6_slotSort, wc_X6_slotSort, wn_X6_slotSort⟩, wm_X6_slotSort, ws_X6_slotSort, ⟨_, _, _, _, cf6, rfl⟩, by decide⟩
set_option maxRecDepth 20000 in
theorem cv_X6_250 : CV "HeadNets$Reader" 250 m_X6_slotKind 1 6 := ⟨⟨Or.inl (tb4 6 rfl rfl), wi_X6_slotKind, wc_X6_slotKind, wn_X6_slotKind⟩, wm_X6_slotKind, ws_X6_slotKind, ⟨_, _, _, _, cf6, rfl⟩, by decide⟩
set_option maxRecDepth 20000 in
theorem cv_X6_256 : CV "HeadNets$Reader" 256 m_X3_hasPort 2 3 := ⟨⟨Or.inl (tb4 21 rfl rfl), wi_X3_hasPort, wc_X3_hasPort, wn_X3_hasPort⟩, wm_X3_hasPort, ws_X3_hasPort, ⟨_, _, _, _, cf3, rfl⟩, by decide⟩
set_option maxRecDepth 20000 in
theorem cv_X6_259 : CV "HeadNets$Reader" 259 m_X8_addAgent 2 8 := ⟨⟨Or.inl (tb4 35 rfl rfl), wi_X8_addAgent, wc_X8_addAgent, wn_X8_addAgent⟩, wm_X8_addAgent, ws_X8_addAgent, ⟨_, _, _, _, cf8, rfl⟩, by decide⟩
set_option maxRecDepth 20000 in
theorem cv_X6_261 : CV "HeadNets$Reader" 261 m_X8_setWire 3 8 := ⟨⟨Or.inl (tb4 43 rfl rfl), wi_X8_setWire, wc_X8_setWire, wn_X8_setWire⟩, wm_X8_setWire, ws_X8_setWire, ⟨_, _, _, _, cf8, rfl⟩, by decide⟩
set_option maxRecDepth 20000 in
theorem cv_X6_267 : CV "HeadNets$Reader" 267 m_X1_countRings 0 1 := ⟨⟨Or.inl (tb4 49 rfl rfl), wi_X1_countRings, wc_X1_countRings, wn_X1_countRings⟩, wm_X1_countRings, ws_X1_countRings, ⟨_, _, _, _, cf1, rfl⟩, by decide⟩
set_option maxRecDepth 20000 in
theorem cv_X6_271 : CV "HeadNets$Reader" 271 m_X8_setRings 2 8 := ⟨⟨Or.inl (tb4 54 rfl rfl), wi_X8_setRings, wc_X8_setRings, wn_X8_setRings⟩, wm_X8_setRings, ws_X8_setRings, ⟨_, _, _, _, cf8, rfl⟩, by decide⟩
set_option maxRecDepth 20000 in
theorem cv_X6_278 : CV "HeadNets$Reader" 278 m_X4_add 2 4 := ⟨⟨Or.inl (tb4 77 rfl rfl), wi_X4_add, wc_X4_add, wn_X4_add⟩, wm_X4_add, ws_X4_add, ⟨_, _, _, _, cf4, rfl⟩, by decide⟩
set_option maxRecDepth 20000 in
theorem cv_X6_281 : CV "HeadNets$Reader" 281 m_X4_setWire 2 4 := ⟨⟨Or.inl (tb4 82 rfl rfl), wi_X4_setWire, wc_X4_setWire, wn_X4_setWire⟩, wm_X4_setWire, ws_X4_setWire, ⟨_, _, _, _, cf4, rfl⟩, by decide⟩
set_option maxRecDepth 20000 in
theorem cv_X7_31 : CV "HeadNets$Rewriter" 31 m_X8_firstKind 1 8 := ⟨⟨Or.inl (tb4 222 rfl rfl), wi_X8_firstKind, wc_X8_firstKind, wn_X8_firstKind⟩, wm_X8_firstKind, ws_X8_firstKind, ⟨_, _, _, _, cf8, rfl⟩, by decide⟩
set_option maxRecDepth 20000 in
theorem cv_X7_41 : CV "HeadNets$Rewriter" 41 m_X4_kindOf 1 4 := ⟨⟨Or.inl (tb4 226 rfl rfl), wi_X4_kindOf, wc_X4_kindOf, wn_X4_kindOf⟩, wm_X4_kindOf, ws_X4_kindOf, ⟨_, _, _, _, cf4, rfl⟩, by decide⟩
set_option maxRecDepth 20000 in
theorem cv_X7_46 : CV "HeadNets$Rewriter" 46 m_X7_passAll 0 7 := ⟨⟨Or.inl (tb4 227 rfl rfl), wi_X7_passAll, wc_X7_passAll, wn_X7_passAll⟩, wm_X7_passAll, ws_X7_passAll, ⟨_, _, _, _, cf7, rfl⟩, by decide⟩
set_option maxRecDepth 20000 in
theorem cv_X7_49 : CV "HeadNets$Rewriter" 49 m_X7_noteOutside 4 7 := ⟨⟨Or.inl (tb4 231 rfl rfl), wi_X7_noteOutside, wc_X7_noteOutside, wn_X7_noteOutside⟩, wm_X7_noteOutside, ws_X7_noteOutside, ⟨_, _, _, _, cf7, rfl⟩, by decide⟩
set_option maxRecDepth 20000 in
theorem cv_X7_53 : CV "HeadNets$Rewriter" 53 m_X4_remove 1 4 := ⟨⟨Or.inl (tb5 5 rfl rfl), wi_X4_remove, wc_X4_remove, wn_X4_remove⟩, wm_X4_remove, ws_X4_remove, ⟨_, _, _, _, cf4, rfl⟩, by decide⟩
set_option maxRecDepth 20000 in
theorem cv_X7_57 : CV "HeadNets$Rewriter" 57 m_X7_putAgents 2 7 := ⟨⟨Or.inl (tb5 10 rfl rfl), wi_X7_putAgents, wc_X7_putAgents, wn_X7_putAgents⟩, wm_X7_putAgents, ws_X7_putAgents, ⟨_, _, _, _, cf7, rfl⟩, by decide⟩
set_option maxRecDepth 20000 in
theorem cv_X7_61 : CV "HeadNets$Rewriter" 61 m_X7_wireAgents 2 7 := ⟨⟨Or.inl (tb5 21 rfl rfl), wi_X7_wireAgents, wc_X7_wireAgents, wn_X7_wireAgents⟩, wm_X7_wireAgents, ws_X7_wireAgents, ⟨_, _, _, _, cf7, rfl⟩, by decide⟩
set_option maxRecDepth 20000 in
theorem cv_X7_64 : CV "HeadNets$Rewriter" 64 m_X7_wireOuter 2 7 := ⟨⟨Or.inl (tb5 48 rfl rfl), wi_X7_wireOuter, wc_X7_wireOuter, wn_X7_wireOuter⟩, wm_X7_wireOuter, ws_X7_wireOuter, ⟨_, _, _, _, cf7, rfl⟩, by decide⟩
set_option maxRecDepth 20000 in
theorem cv_X7_71 : CV "HeadNets$Rewriter" 71 m_X8_ringsIn 1 8 := ⟨⟨Or.inl (tb5 52 rfl rfl), wi_X8_ringsIn, wc_X8_ringsIn, wn_X8_ringsIn⟩, wm_X8_ringsIn, ws_X8_ringsIn, ⟨_, _, _, _, cf8, rfl⟩, by decide⟩
set_option maxRecDepth 20000 in
theorem cv_X7_74 : CV "HeadNets$Rewriter" 74 m_X7_countRings 2 7 := ⟨⟨Or.inl (tb5 56 rfl rfl), wi_X7_countRings, wc_X7_countRings, wn_X7_countRings⟩, wm_X7_countRings, ws_X7_countRings, ⟨_, _, _, _, cf7, rfl⟩, by decide⟩
set_option maxRecDepth 20000 in
theorem cv_X7_82 : CV "HeadNets$Rewriter" 82 m_X3_portsOf 1 3 := ⟨⟨Or.inl (tb4 235 rfl rfl), wi_X3_portsOf, wc_X3_portsOf, wn_X3_portsOf⟩, wm_X3_portsOf, ws_X3_portsOf, ⟨_, _, _, _, cf3, rfl⟩, by decide⟩
set_option maxRecDepth 20000 in
theorem cv_X7_96 : CV "HeadNets$Rewriter" 96 m_X4_wireOf 1 4 := ⟨⟨Or.inl (tb4 238 rfl rfl), wi_X4_wireOf, wc_X4_wireOf, wn_X4_wireOf⟩, wm_X4_wireOf, ws_X4_wireOf, ⟨_, _, _, _, cf4, rfl⟩, by decide⟩
set_option maxRecDepth 20000 in
theorem cv_X7_113 : CV "HeadNets$Rewriter" 113 m_X8_agentsIn 1 8 := ⟨⟨Or.inl (tb5 14 rfl rfl), wi_X8_agentsIn, wc_X8_agentsIn, wn_X8_agentsIn⟩, wm_X8_agentsIn, ws_X8_agentsIn, ⟨_, _, _, _, cf8, rfl⟩, by decide⟩
set_option maxRecDepth 20000 in
theorem cv_X7_116 : CV "HeadNets$Rewriter" 116 m_X8_agentKind 2 8 := ⟨⟨Or.inl (tb5 15 rfl rfl), wi_X8_agentKind, wc_X8_agentKind, wn_X8_agentKind⟩, wm_X8_agentKind, ws_X8_agentKind, ⟨_, _, _, _, cf8, rfl⟩, by decide⟩
set_option maxRecDepth 20000 in
theorem cv_X7_119 : CV "HeadNets$Rewriter" 119 m_X4_add 2 4 := ⟨⟨Or.inl (tb5 20 rfl rfl), wi_X4_add, wc_X4_add, wn_X4_add⟩, wm_X4_add, ws_X4_add, ⟨_, _, _, _, cf4, rfl⟩, by decide⟩
set_option maxRecDepth 20000 in
theorem cv_X7_122 : CV "HeadNets$Rewriter" 122 m_X7_follow 3 7 := ⟨⟨Or.inl (tb5 25 rfl rfl), wi_X7_follow, wc_X7_follow, wn_X7_follow⟩, wm_X7_follow, ws_X7_follow, ⟨_, _, _, _, cf7, rfl⟩, by decide⟩
set_option maxRecDepth 20000 in
theorem cv_X7_126 : CV "HeadNets$Rewriter" 126 m_X4_join 2 4 := ⟨⟨Or.inl (tb5 43 rfl rfl), wi_X4_join, wc_X4_join, wn_X4_join⟩, wm_X4_join, ws_X4_join, ⟨_, _, _, _, cf4, rfl⟩, by decide⟩
set_option maxRecDepth 20000 in
theorem cv_X7_133 : CV "HeadNets$Rewriter" 133 m_X7_pass 1 7 := ⟨⟨Or.inl (tb5 29 rfl rfl), wi_X7_pass, wc_X7_pass, wn_X7_pass⟩, wm_X7_pass, ws_X7_pass, ⟨_, _, _, _, cf7, rfl⟩, by decide⟩
set_option maxRecDepth 20000 in
theorem cv_X7_136 : CV "HeadNets$Rewriter" 136 m_X8_wireOf 2 8 := ⟨⟨Or.inl (tb5 34 rfl rfl), wi_X8_wireOf, wc_X8_wireOf, wn_X8_wireOf⟩, wm_X8_wireOf, ws_X8_wireOf, ⟨_, _, _, _, cf8, rfl⟩, by decide⟩
set_option maxRecDepth 20000 in
theorem cv_X7_138 : CV "HeadNets$Rewriter" 138 m_X7_codeInNet 1 7 := ⟨⟨Or.inl (tb5 38 rfl rfl), wi_X7_codeInNet, wc_X7_codeInNet, wn_X7_codeInNet⟩, wm_X7_codeInNet, ws_X7_codeInNet, ⟨_, _, _, _, cf7, rfl⟩, by decide⟩
set_option maxRecDepth 20000 in
theorem cv_X8_47 : CV "HeadNets$Rules" 47 m_X8_isFull 0 8 := ⟨⟨Or.inl (tb4 30 rfl rfl), wi_X8_isFull, wc_X8_isFull, wn_X8_isFull⟩, wm_X8_isFull, ws_X8_isFull, ⟨_, _, _, _, cf8, rfl⟩, by decide⟩
set_option maxRecDepth 20000 in
theorem cv_X8_51 : CV "HeadNets$Rules" 51 m_X8_has 1 8 := ⟨⟨Or.inl (tb4 39 rfl rfl), wi_X8_has, wc_X8_has, wn_X8_has⟩, wm_X8_has, ws_X8_has, ⟨_, _, _, _, cf8, rfl⟩, by decide⟩
set_option maxRecDepth 20000 in
theorem cv_X8_59 : CV "HeadNets$Rules" 59 m_X8_agentsIn 1 8 := ⟨⟨Or.inl (tb5 19 rfl rfl), wi_X8_agentsIn, wc_X8_agentsIn, wn_X8_agentsIn⟩, wm_X8_agentsIn, ws_X8_agentsIn, ⟨_, _, _, _, cf8, rfl⟩, by decide⟩
set_option maxRecDepth 20000 in
theorem cv_X9_37 : CV "HeadNets$Tape" 37 m_X9_scanAt 1 9 := ⟨⟨Or.inl (tb2 179 rfl rfl), wi_X9_scanAt, wc_X9_scanAt, wn_X9_scanAt⟩, wm_X9_scanAt, ws_X9_scanAt, ⟨_, _, _, _, cf9, rfl⟩, by decide⟩
set_option maxRecDepth 20000 in
theorem cv_X9_47 : CV "HeadNets$Tape" 47 m_X9_addToken 3 9 := ⟨⟨Or.inl (tb2 211 rfl rfl), wi_X9_addToken, wc_X9_addToken, wn_X9_addToken⟩, wm_X9_addToken, ws_X9_addToken, ⟨_, _, _, _, cf9, rfl⟩, by decide⟩
set_option maxRecDepth 20000 in
theorem cv_X9_54 : CV "HeadNets$Tape" 54 m_X9_advance 0 9 := ⟨⟨Or.inl (tb3 63 rfl rfl), wi_X9_advance, wc_X9_advance, wn_X9_advance⟩, wm_X9_advance, ws_X9_advance, ⟨_, _, _, _, cf9, rfl⟩, by decide⟩
set_option maxRecDepth 20000 in
theorem cv_X9_57 : CV "HeadNets$Tape" 57 m_X9_byteAt 1 9 := ⟨⟨Or.inl (tb2 183 rfl rfl), wi_X9_byteAt, wc_X9_byteAt, wn_X9_byteAt⟩, wm_X9_byteAt, ws_X9_byteAt, ⟨_, _, _, _, cf9, rfl⟩, by decide⟩
set_option maxRecDepth 20000 in
theorem cv_X9_60 : CV "HeadNets$Tape" 60 m_X9_countRow 1 9 := ⟨⟨Or.inl (tb2 190 rfl rfl), wi_X9_countRow, wc_X9_countRow, wn_X9_countRow⟩, wm_X9_countRow, ws_X9_countRow, ⟨_, _, _, _, cf9, rfl⟩, by decide⟩
set_option maxRecDepth 20000 in
theorem cv_X9_63 : CV "HeadNets$Tape" 63 m_X9_kindOfRow 2 9 := ⟨⟨Or.inl (tb2 203 rfl rfl), wi_X9_kindOfRow, wc_X9_kindOfRow, wn_X9_kindOfRow⟩, wm_X9_kindOfRow, ws_X9_kindOfRow, ⟨_, _, _, _, cf9, rfl⟩, by decide⟩
set_option maxRecDepth 20000 in
theorem cv_X9_66 : CV "HeadNets$Tape" 66 m_X9_packName 2 9 := ⟨⟨Or.inl (tb2 207 rfl rfl), wi_X9_packName, wc_X9_packName, wn_X9_packName⟩, wm_X9_packName, ws_X9_packName, ⟨_, _, _, _, cf9, rfl⟩, by decide⟩
set_option maxRecDepth 20000 in
theorem cv_X10_37 : CV "HeadNets$Walk" 37 m_X4_wireOf 1 4 := ⟨⟨Or.inl (tb5 129 rfl rfl), wi_X4_wireOf, wc_X4_wireOf, wn_X4_wireOf⟩, wm_X4_wireOf, ws_X4_wireOf, ⟨_, _, _, _, cf4, rfl⟩, by decide⟩
set_option maxRecDepth 20000 in
theorem cv_X10_40 : CV "HeadNets$Walk" 40 m_X10_reach 1 10 := ⟨⟨Or.inl (tb5 130 rfl rfl), wi_X10_reach, wc_X10_reach, wn_X10_reach⟩, wm_X10_reach, ws_X10_reach, ⟨_, _, _, _, cf10, rfl⟩, by decide⟩
set_option maxRecDepth 20000 in
theorem cv_X10_44 : CV "HeadNets$Walk" 44 m_X10_goThrough 3 10 := ⟨⟨Or.inl (tb5 135 rfl rfl), wi_X10_goThrough, wc_X10_goThrough, wn_X10_goThrough⟩, wm_X10_goThrough, ws_X10_goThrough, ⟨_, _, _, _, cf10, rfl⟩, by decide⟩
set_option maxRecDepth 20000 in
theorem cv_X10_48 : CV "HeadNets$Walk" 48 m_X4_kindOf 1 4 := ⟨⟨Or.inl (tb5 139 rfl rfl), wi_X4_kindOf, wc_X4_kindOf, wn_X4_kindOf⟩, wm_X4_kindOf, ws_X4_kindOf, ⟨_, _, _, _, cf4, rfl⟩, by decide⟩
set_option maxRecDepth 20000 in
theorem cv_X10_51 : CV "HeadNets$Walk" 51 m_X3_portsOf 1 3 := ⟨⟨Or.inl (tb5 140 rfl rfl), wi_X3_portsOf, wc_X3_portsOf, wn_X3_portsOf⟩, wm_X3_portsOf, ws_X3_portsOf, ⟨_, _, _, _, cf3, rfl⟩, by decide⟩
set_option maxRecDepth 20000 in
theorem cv_X10_74 : CV "HeadNets$Walk" 74 m_X10_hasSameEnds 3 10 := ⟨⟨Or.inl (tb5 150 rfl rfl), wi_X10_hasSameEnds, wc_X10_hasSameEnds, wn_X10_hasSameEnds⟩, wm_X10_hasSameEnds, ws_X10_hasSameEnds, ⟨_, _, _, _, cf10, rfl⟩, by decide⟩
set_option maxRecDepth 20000 in
theorem cv_X10_78 : CV "HeadNets$Walk" 78 m_X10_hasSameAgents 4 10 := ⟨⟨Or.inl (tb5 159 rfl rfl), wi_X10_hasSameAgents, wc_X10_hasSameAgents, wn_X10_hasSameAgents⟩, wm_X10_hasSameAgents, ws_X10_hasSameAgents, ⟨_, _, _, _, cf10, rfl⟩, by decide⟩
set_option maxRecDepth 20000 in
theorem cv_X10_82 : CV "HeadNets$Walk" 82 m_X4_countOfKind 1 4 := ⟨⟨Or.inl (tb5 149 rfl rfl), wi_X4_countOfKind, wc_X4_countOfKind, wn_X4_countOfKind⟩, wm_X4_countOfKind, ws_X4_countOfKind, ⟨_, _, _, _, cf4, rfl⟩, by decide⟩
set_option maxRecDepth 20000 in
theorem cv_X10_85 : CV "HeadNets$Walk" 85 m_X10_numbered 1 10 := ⟨⟨Or.inl (tb5 154 rfl rfl), wi_X10_numbered, wc_X10_numbered, wn_X10_numbered⟩, wm_X10_numbered, ws_X10_numbered, ⟨_, _, _, _, cf10, rfl⟩, by decide⟩
set_option maxRecDepth 20000 in
theorem cv_X10_94 : CV "HeadNets$Walk" 94 m_X4_waitsFor 1 4 := ⟨⟨Or.inl (tb4 142 rfl rfl), wi_X4_waitsFor, wc_X4_waitsFor, wn_X4_waitsFor⟩, wm_X4_waitsFor, ws_X4_waitsFor, ⟨_, _, _, _, cf4, rfl⟩, by decide⟩
set_option maxRecDepth 20000 in
theorem cv_X12_179 : CV "HeadNetsModel" 179 m_X12_empty 0 12 := ⟨⟨Or.inl (tb5 214 rfl rfl), wi_X12_empty, wc_X12_empty, wn_X12_empty⟩, wm_X12_empty, ws_X12_empty, ⟨_, _, _, _, cf12, rfl⟩, by decide⟩
set_option maxRecDepth 20000 in
theorem cv_X12_198 : CV "HeadNetsModel" 198 m_X12_byteAt 1 12 := ⟨⟨Or.inl (tb7 11 rfl rfl), wi_X12_byteAt, wc_X12_byteAt, wn_X12_byteAt⟩, wm_X12_byteAt, ws_X12_byteAt, ⟨_, _, _, _, cf12, rfl⟩, by decide⟩
set_option maxRecDepth 20000 in
theorem cv_X12_218 : CV "HeadNetsModel" 218 m_X12_takeWord 1 12 := ⟨⟨Or.inl (tb7 24 rfl rfl), wi_X12_takeWord, wc_X12_takeWord, wn_X12_takeWord⟩, wm_X12_takeWord, ws_X12_takeWord, ⟨_, _, _, _, cf12, rfl⟩, by decide⟩
set_option maxRecDepth 20000 in
theorem cv_X12_234 : CV "HeadNetsModel" 234 m_X12_fail 2 12 := ⟨⟨Or.inl (tb7 37 rfl rfl), wi_X12_fail, wc_X12_fail, wn_X12_fail⟩, wm_X12_fail, ws_X12_fail, ⟨_, _, _, _, cf12, rfl⟩, by decide⟩
set_option maxRecDepth 20000 in
theorem cv_X12_238 : CV "HeadNetsModel" 238 m_X12_isSign 1 12 := ⟨⟨Or.inl (tb7 49 rfl rfl), wi_X12_isSign, wc_X12_isSign, wn_X12_isSign⟩, wm_X12_isSign, ws_X12_isSign, ⟨_, _, _, _, cf12, rfl⟩, by decide⟩
set_option maxRecDepth 20000 in
theorem cv_X12_241 : CV "HeadNetsModel" 241 m_X12_wrong 0 12 := ⟨⟨Or.inl (tb7 33 rfl rfl), wi_X12_wrong, wc_X12_wrong, wn_X12_wrong⟩, wm_X12_wrong, ws_X12_wrong, ⟨_, _, _, _, cf12, rfl⟩, by decide⟩
set_option maxRecDepth 20000 in
theorem cv_X12_245 : CV "HeadNetsModel" 245 m_X12_take 0 12 := ⟨⟨Or.inl (tb7 7 rfl rfl), wi_X12_take, wc_X12_take, wn_X12_take⟩, wm_X12_take, ws_X12_take, ⟨_, _, _, _, cf12, rfl⟩, by decide⟩
set_option maxRecDepth 20000 in
theorem cv_X12_251 : CV "HeadNetsModel" 251 m_X12_kindNamed 1 12 := ⟨⟨Or.inl (tb7 41 rfl rfl), wi_X12_kindNamed, wc_X12_kindNamed, wn_X12_kindNamed⟩, wm_X12_kindNamed, ws_X12_kindNamed, ⟨_, _, _, _, cf12, rfl⟩, by decide⟩
set_option maxRecDepth 20000 in
theorem cv_X12_255 : CV "HeadNetsModel" 255 m_X12_readPort 0 12 := ⟨⟨Or.inl (tb7 45 rfl rfl), wi_X12_readPort, wc_X12_readPort, wn_X12_readPort⟩, wm_X12_readPort, ws_X12_readPort, ⟨_, _, _, _, cf12, rfl⟩, by decide⟩
set_option maxRecDepth 20000 in
theorem cv_X12_258 : CV "HeadNetsModel" 258 m_X12_needs 1 12 := ⟨⟨Or.inl (tb7 53 rfl rfl), wi_X12_needs, wc_X12_needs, wn_X12_needs⟩, wm_X12_needs, ws_X12_needs, ⟨_, _, _, _, cf12, rfl⟩, by decide⟩
set_option maxRecDepth 20000 in
theorem cv_X12_270 : CV "HeadNetsModel" 270 m_X12_useName 0 12 := ⟨⟨Or.inl (tb7 70 rfl rfl), wi_X12_useName, wc_X12_useName, wn_X12_useName⟩, wm_X12_useName, ws_X12_useName, ⟨_, _, _, _, cf12, rfl⟩, by decide⟩
set_option maxRecDepth 20000 in
theorem cv_X12_277 : CV "HeadNetsModel" 277 m_X12_join 2 12 := ⟨⟨Or.inl (tb7 74 rfl rfl), wi_X12_join, wc_X12_join, wn_X12_join⟩, wm_X12_join, ws_X12_join, ⟨_, _, _, _, cf12, rfl⟩, by decide⟩
set_option maxRecDepth 20000 in
theorem cv_X12_281 : CV "HeadNetsModel" 281 m_X12_readTerm 0 12 := ⟨⟨Or.inl (tb7 82 rfl rfl), wi_X12_readTerm, wc_X12_readTerm, wn_X12_readTerm⟩, wm_X12_readTerm, ws_X12_readTerm, ⟨_, _, _, _, cf12, rfl⟩, by decide⟩
set_option maxRecDepth 20000 in
theorem cv_X12_284 : CV "HeadNetsModel" 284 m_X12_follow 1 12 := ⟨⟨Or.inl (tb7 94 rfl rfl), wi_X12_follow, wc_X12_follow, wn_X12_follow⟩, wm_X12_follow, ws_X12_follow, ⟨_, _, _, _, cf12, rfl⟩, by decide⟩
set_option maxRecDepth 20000 in
theorem cv_X12_287 : CV "HeadNetsModel" 287 m_X12_sortOf 1 12 := ⟨⟨Or.inl (tb7 98 rfl rfl), wi_X12_sortOf, wc_X12_sortOf, wn_X12_sortOf⟩, wm_X12_sortOf, ws_X12_sortOf, ⟨_, _, _, _, cf12, rfl⟩, by decide⟩
set_option maxRecDepth 20000 in
theorem cv_X12_290 : CV "HeadNetsModel" 290 m_X12_plusOf 1 12 := ⟨⟨Or.inl (tb7 102 rfl rfl), wi_X12_plusOf, wc_X12_plusOf, wn_X12_plusOf⟩, wm_X12_plusOf, ws_X12_plusOf, ⟨_, _, _, _, cf12, rfl⟩, by decide⟩
set_option maxRecDepth 20000 in
theorem cv_X12_293 : CV "HeadNetsModel" 293 m_X12_fits 1 12 := ⟨⟨Or.inl (tb7 90 rfl rfl), wi_X12_fits, wc_X12_fits, wn_X12_fits⟩, wm_X12_fits, ws_X12_fits, ⟨_, _, _, _, cf12, rfl⟩, by decide⟩
set_option maxRecDepth 20000 in
theorem cv_X12_299 : CV "HeadNetsModel" 299 m_X12_beginSheet 1 12 := ⟨⟨Or.inl (tb7 62 rfl rfl), wi_X12_beginSheet, wc_X12_beginSheet, wn_X12_beginSheet⟩, wm_X12_beginSheet, ws_X12_beginSheet, ⟨_, _, _, _, cf12, rfl⟩, by decide⟩
set_option maxRecDepth 20000 in
theorem cv_X12_302 : CV "HeadNetsModel" 302 m_X12_readSide 1 12 := ⟨⟨Or.inl (tb7 66 rfl rfl), wi_X12_readSide, wc_X12_readSide, wn_X12_readSide⟩, wm_X12_readSide, ws_X12_readSide, ⟨_, _, _, _, cf12, rfl⟩, by decide⟩
set_option maxRecDepth 20000 in
theorem cv_X12_305 : CV "HeadNetsModel" 305 m_X12_readLinks 0 12 := ⟨⟨Or.inl (tb7 78 rfl rfl), wi_X12_readLinks, wc_X12_readLinks, wn_X12_readLinks⟩, wm_X12_readLinks, ws_X12_readLinks, ⟨_, _, _, _, cf12, rfl⟩, by decide⟩
set_option maxRecDepth 20000 in
theorem cv_X12_308 : CV "HeadNetsModel" 308 m_X12_fitAll 0 12 := ⟨⟨Or.inl (tb7 86 rfl rfl), wi_X12_fitAll, wc_X12_fitAll, wn_X12_fitAll⟩, wm_X12_fitAll, ws_X12_fitAll, ⟨_, _, _, _, cf12, rfl⟩, by decide⟩
set_option maxRecDepth 20000 in
theorem cv_X12_311 : CV "HeadNetsModel" 311 m_X12_fitSides 0 12 := ⟨⟨Or.inl (tb7 106 rfl rfl), wi_X12_fitSides, wc_X12_fitSides, wn_X12_fitSides⟩, wm_X12_fitSides, ws_X12_fitSides, ⟨_, _, _, _, cf12, rfl⟩, by decide⟩
set_option maxRecDepth 20000 in
theorem cv_X12_314 : CV "HeadNetsModel" 314 m_X12_sheetRings 0 12 := ⟨⟨Or.inl (tb7 110 rfl rfl), wi_X12_sheetRings, wc_X12_sheetRings, wn_X12_sheetRings⟩, wm_X12_sheetRings, ws_X12_sheetRings, ⟨_, _, _, _, cf12, rfl⟩, by decide⟩
set_option maxRecDepth 20000 in
theorem cv_X12_335 : CV "HeadNetsModel" 335 m_X12_readKind 0 12 := ⟨⟨Or.inl (tb7 29 rfl rfl), wi_X12_readKind, wc_X12_readKind, wn_X12_readKind⟩, wm_X12_readKind, ws_X12_readKind, ⟨_, _, _, _, cf12, rfl⟩, by decide⟩
set_option maxRecDepth 20000 in
theorem cv_X12_340 : CV "HeadNetsModel" 340 m_X12_readRule 0 12 := ⟨⟨Or.inl (tb7 58 rfl rfl), wi_X12_readRule, wc_X12_readRule, wn_X12_readRule⟩, wm_X12_readRule, ws_X12_readRule, ⟨_, _, _, _, cf12, rfl⟩, by decide⟩
set_option maxRecDepth 20000 in
theorem cv_X12_345 : CV "HeadNetsModel" 345 m_X12_readNet 0 12 := ⟨⟨Or.inl (tb7 118 rfl rfl), wi_X12_readNet, wc_X12_readNet, wn_X12_readNet⟩, wm_X12_readNet, ws_X12_readNet, ⟨_, _, _, _, cf12, rfl⟩, by decide⟩
set_option maxRecDepth 20000 in
theorem cv_X12_348 : CV "HeadNetsModel" 348 m_X12_readBook 0 12 := ⟨⟨Or.inl (tb7 3 rfl rfl), wi_X12_readBook, wc_X12_readBook, wn_X12_readBook⟩, wm_X12_readBook, ws_X12_readBook, ⟨_, _, _, _, cf12, rfl⟩, by decide⟩
set_option maxRecDepth 20000 in
theorem cv_X12_351 : CV "HeadNetsModel" 351 m_X12_takeOver 0 12 := ⟨⟨Or.inl (tb7 122 rfl rfl), wi_X12_takeOver, wc_X12_takeOver, wn_X12_takeOver⟩, wm_X12_takeOver, ws_X12_takeOver, ⟨_, _, _, _, cf12, rfl⟩, by decide⟩
set_option maxRecDepth 20000 in
theorem cv_X12_374 : CV "HeadNetsModel" 374 m_X12_facing 1 12 := ⟨⟨Or.inl (tb7 146 rfl rfl), wi_X12_facing, wc_X12_facing, wn_X12_facing⟩, wm_X12_facing, ws_X12_facing, ⟨_, _, _, _, cf12, rfl⟩, by decide⟩
set_option maxRecDepth 20000 in
theorem cv_X12_377 : CV "HeadNetsModel" 377 m_X12_ruleFor 2 12 := ⟨⟨Or.inl (tb7 150 rfl rfl), wi_X12_ruleFor, wc_X12_ruleFor, wn_X12_ruleFor⟩, wm_X12_ruleFor, ws_X12_ruleFor, ⟨_, _, _, _, cf12, rfl⟩, by decide⟩
set_option maxRecDepth 20000 in
theorem cv_X12_381 : CV "HeadNetsModel" 381 m_X12_isPair 2 12 := ⟨⟨Or.inl (tb7 142 rfl rfl), wi_X12_isPair, wc_X12_isPair, wn_X12_isPair⟩, wm_X12_isPair, ws_X12_isPair, ⟨_, _, _, _, cf12, rfl⟩, by decide⟩
set_option maxRecDepth 20000 in
theorem cv_X12_385 : CV "HeadNetsModel" 385 m_X12_waitsFor 1 12 := ⟨⟨Or.inl (tb7 158 rfl rfl), wi_X12_waitsFor, wc_X12_waitsFor, wn_X12_waitsFor⟩, wm_X12_waitsFor, ws_X12_waitsFor, ⟨_, _, _, _, cf12, rfl⟩, by decide⟩
set_option maxRecDepth 20000 in
theorem cv_X12_388 : CV "HeadNetsModel" 388 m_X12_agentMany 0 12 := ⟨⟨Or.inl (tb7 134 rfl rfl), wi_X12_agentMany, wc_X12_agentMany, wn_X12_agentMany⟩, wm_X12_agentMany, ws_X12_agentMany, ⟨_, _, _, _, cf12, rfl⟩, by decide⟩
set_option maxRecDepth 20000 in
theorem cv_X12_391 : CV "HeadNetsModel" 391 m_X12_pairs 1 12 := ⟨⟨Or.inl (tb7 138 rfl rfl), wi_X12_pairs, wc_X12_pairs, wn_X12_pairs⟩, wm_X12_pairs, ws_X12_pairs, ⟨_, _, _, _, cf12, rfl⟩, by decide⟩
set_option maxRecDepth 20000 in
theorem cv_X12_395 : CV "HeadNetsModel" 395 m_X12_circles 0 12 := ⟨⟨Or.inl (tb7 154 rfl rfl), wi_X12_circles, wc_X12_circles, wn_X12_circles⟩, wm_X12_circles, ws_X12_circles, ⟨_, _, _, _, cf12, rfl⟩, by decide⟩
set_option maxRecDepth 20000 in
theorem cv_X12_406 : CV "HeadNetsModel" 406 m_X12_isAgent 1 12 := ⟨⟨Or.inl (tb7 175 rfl rfl), wi_X12_isAgent, wc_X12_isAgent, wn_X12_isAgent⟩, wm_X12_isAgent, ws_X12_isAgent, ⟨_, _, _, _, cf12, rfl⟩, by decide⟩
set_option maxRecDepth 20000 in
theorem cv_X12_412 : CV "HeadNetsModel" 412 m_X12_fresh 1 12 := ⟨⟨Or.inl (tb7 207 rfl rfl), wi_X12_fresh, wc_X12_fresh, wn_X12_fresh⟩, wm_X12_fresh, ws_X12_fresh, ⟨_, _, _, _, cf12, rfl⟩, by decide⟩
set_option maxRecDepth 20000 in
theorem cv_X12_415 : CV "HeadNetsModel" 415 m_X12_findOuter 2 12 := ⟨⟨Or.inl (tb7 203 rfl rfl), wi_X12_findOuter, wc_X12_findOuter, wn_X12_findOuter⟩, wm_X12_findOuter, ws_X12_findOuter, ⟨_, _, _, _, cf12, rfl⟩, by decide⟩
set_option maxRecDepth 20000 in
theorem cv_X12_418 : CV "HeadNetsModel" 418 m_X12_outward 2 12 := ⟨⟨Or.inl (tb7 211 rfl rfl), wi_X12_outward, wc_X12_outward, wn_X12_outward⟩, wm_X12_outward, ws_X12_outward, ⟨_, _, _, _, cf12, rfl⟩, by decide⟩
set_option maxRecDepth 20000 in
theorem cv_X12_421 : CV "HeadNetsModel" 421 m_X12_wire 2 12 := ⟨⟨Or.inl (tb7 215 rfl rfl), wi_X12_wire, wc_X12_wire, wn_X12_wire⟩, wm_X12_wire, ws_X12_wire, ⟨_, _, _, _, cf12, rfl⟩, by decide⟩
set_option maxRecDepth 20000 in
theorem cv_X12_424 : CV "HeadNetsModel" 424 m_X12_goRound 2 12 := ⟨⟨Or.inl (tb7 219 rfl rfl), wi_X12_goRound, wc_X12_goRound, wn_X12_goRound⟩, wm_X12_goRound, ws_X12_goRound, ⟨_, _, _, _, cf12, rfl⟩, by decide⟩
set_option maxRecDepth 20000 in
theorem cv_X12_427 : CV "HeadNetsModel" 427 m_X12_doStep 2 12 := ⟨⟨Or.inl (tb7 199 rfl rfl), wi_X12_doStep, wc_X12_doStep, wn_X12_doStep⟩, wm_X12_doStep, ws_X12_doStep, ⟨_, _, _, _, cf12, rfl⟩, by decide⟩
set_option maxRecDepth 20000 in
theorem cv_X12_434 : CV "HeadNetsModel" 434 m_X12_pair 1 12 := ⟨⟨Or.inl (tb7 239 rfl rfl), wi_X12_pair, wc_X12_pair, wn_X12_pair⟩, wm_X12_pair, ws_X12_pair, ⟨_, _, _, _, cf12, rfl⟩, by decide⟩
set_option maxRecDepth 20000 in
theorem cv_X12_441 : CV "HeadNetsModel" 441 m_X12_runRounds 1 12 := ⟨⟨Or.inl (tb7 229 rfl rfl), wi_X12_runRounds, wc_X12_runRounds, wn_X12_runRounds⟩, wm_X12_runRounds, ws_X12_runRounds, ⟨_, _, _, _, cf12, rfl⟩, by decide⟩
set_option maxRecDepth 20000 in
theorem cv_X12_444 : CV "HeadNetsModel" 444 m_X12_chosen 1 12 := ⟨⟨Or.inl (tb7 233 rfl rfl), wi_X12_chosen, wc_X12_chosen, wn_X12_chosen⟩, wm_X12_chosen, ws_X12_chosen, ⟨_, _, _, _, cf12, rfl⟩, by decide⟩
set_option maxRecDepth 20000 in
theorem cv_X12_450 : CV "HeadNetsModel" 450 m_X12_endTo 3 12 := ⟨⟨Or.inl (tb8 27 rfl rfl), wi_X12_endTo, wc_X12_endTo, wn_X12_endTo⟩, wm_X12_endTo, ws_X12_endTo, ⟨_, _, _, _, cf12, rfl⟩, by decide⟩
set_option maxRecDepth 20000 in
theorem cv_X12_454 : CV "HeadNetsModel" 454 m_X12_meet 2 12 := ⟨⟨Or.inl (tb8 31 rfl rfl), wi_X12_meet, wc_X12_meet, wn_X12_meet⟩, wm_X12_meet, ws_X12_meet, ⟨_, _, _, _, cf12, rfl⟩, by decide⟩
set_option maxRecDepth 20000 in
theorem cv_X12_457 : CV "HeadNetsModel" 457 m_X12_agentOf 3 12 := ⟨⟨Or.inl (tb8 35 rfl rfl), wi_X12_agentOf, wc_X12_agentOf, wn_X12_agentOf⟩, wm_X12_agentOf, ws_X12_agentOf, ⟨_, _, _, _, cf12, rfl⟩, by decide⟩
set_option maxRecDepth 20000 in
theorem cv_X12_460 : CV "HeadNetsModel" 460 m_X12_wireOf 3 12 := ⟨⟨Or.inl (tb8 39 rfl rfl), wi_X12_wireOf, wc_X12_wireOf, wn_X12_wireOf⟩, wm_X12_wireOf, ws_X12_wireOf, ⟨_, _, _, _, cf12, rfl⟩, by decide⟩
set_option maxRecDepth 20000 in
theorem cv_X12_463 : CV "HeadNetsModel" 463 m_X12_reach 2 12 := ⟨⟨Or.inl (tb8 23 rfl rfl), wi_X12_reach, wc_X12_reach, wn_X12_reach⟩, wm_X12_reach, ws_X12_reach, ⟨_, _, _, _, cf12, rfl⟩, by decide⟩
set_option maxRecDepth 20000 in
theorem cv_X12_466 : CV "HeadNetsModel" 466 m_X12_manyOf 3 12 := ⟨⟨Or.inl (tb8 43 rfl rfl), wi_X12_manyOf, wc_X12_manyOf, wn_X12_manyOf⟩, wm_X12_manyOf, ws_X12_manyOf, ⟨_, _, _, _, cf12, rfl⟩, by decide⟩
set_option maxRecDepth 20000 in
theorem cv_X12_469 : CV "HeadNetsModel" 469 m_X12_asReached 2 12 := ⟨⟨Or.inl (tb8 47 rfl rfl), wi_X12_asReached, wc_X12_asReached, wn_X12_asReached⟩, wm_X12_asReached, ws_X12_asReached, ⟨_, _, _, _, cf12, rfl⟩, by decide⟩
set_option maxRecDepth 20000 in
theorem cv_X12_474 : CV "HeadNetsModel" 474 m_X12_put 1 12 := ⟨⟨Or.inl (tb8 59 rfl rfl), wi_X12_put, wc_X12_put, wn_X12_put⟩, wm_X12_put, ws_X12_put, ⟨_, _, _, _, cf12, rfl⟩, by decide⟩
set_option maxRecDepth 20000 in
theorem cv_X12_477 : CV "HeadNetsModel" 477 m_X12_putName 1 12 := ⟨⟨Or.inl (tb8 63 rfl rfl), wi_X12_putName, wc_X12_putName, wn_X12_putName⟩, wm_X12_putName, ws_X12_putName, ⟨_, _, _, _, cf12, rfl⟩, by decide⟩
set_option maxRecDepth 20000 in
theorem ct_X9_72 : CTx "HeadNets$Tape" 72 m_J0_indexOf_0f7a4 1 := ⟨⟨Or.inl (tb2 216 rfl rfl), wi_J0_indexOf_0f7a4, wc_J0_indexOf_0f7a4, wn_J0_indexOf_0f7a4⟩, wm_J0_indexOf_0f7a4, ws_J0_indexOf_0f7a4, rfl, by decide⟩
set_option maxRecDepth 20000 in
theorem ct_J0_335 : CTx "java/lang/String" 335 m_J0_coder_7d493 0 := ⟨⟨Or.inl (tb2 234 rfl rfl), wi_J0_coder_7d493, wc_J0_coder_7d493, wn_J0_coder_7d493⟩, wm_J0_coder_7d493, ws_J0_coder_7d493, rfl, by decide⟩
set_option maxRecDepth 20000 in
theorem ct_J0_492 : CTx "java/lang/String" 492 m_J0_isLatin1_aae02 0 := ⟨⟨Or.inl (tb2 224 rfl rfl), wi_J0_isLatin1_aae02, wc_J0_isLatin1_aae02, wn_J0_isLatin1_aae02⟩, wm_J0_isLatin1_aae02, ws_J0_isLatin1_aae02, rfl, by decide⟩
set_option maxRecDepth 20000 in
theorem ct_J0_505 : CTx "java/lang/String" 505 m_J0_length_8abf5 0 := ⟨⟨Or.inl (tb2 230 rfl rfl), wi_J0_length_8abf5, wc_J0_length_8abf5, wn_J0_length_8abf5⟩, wm_J0_length_8abf5, ws_J0_length_8abf5, rfl, by decide⟩
set_option maxRecDepth 20000 in
theorem ct_J0_633 : CTx "java/lang/String" 633 m_J0_indexOf_7cf53 2 := ⟨⟨Or.inl (tb2 220 rfl rfl), wi_J0_indexOf_7cf53, wc_J0_indexOf_7cf53, wn_J0_indexOf_7cf53⟩, wm_J0_indexOf_7cf53, ws_J0_indexOf_7cf53, rfl, by decide⟩
set_option maxRecDepth 20000 in
theorem cs_X11_178 : CS "HeadNets" 178 m_X11_portCode 2 := ⟨⟨Or.inl (tb4 177 rfl rfl), wi_X11_portCode, wc_X11_portCode, wn_X11_portCode⟩, wm_X11_portCode, by decide⟩
set_option maxRecDepth 20000 in
theorem cs_X11_187 : CS "HeadNets" 187 m_X11_endCode 1 := ⟨⟨Or.inl (tb4 190 rfl rfl), wi_X11_endCode, wc_X11_endCode, wn_X11_endCode⟩, wm_X11_endCode, by decide⟩
set_option maxRecDepth 20000 in
theorem cs_X11_235 : CS "HeadNets" 235 m_X11_isInside 2 := ⟨⟨Or.inl (tb4 100 rfl rfl), wi_X11_isInside, wc_X11_isInside, wn_X11_isInside⟩, wm_X11_isInside, by decide⟩
set_option maxRecDepth 20000 in
theorem cs_X11_241 : CS "HeadNets" 241 m_J9_min_7cf53 2 := ⟨⟨Or.inl (tb4 209 rfl rfl), wi_J9_min_7cf53, wc_J9_min_7cf53, wn_J9_min_7cf53⟩, wm_J9_min_7cf53, by decide⟩
set_option maxRecDepth 20000 in
theorem cs_X11_246 : CS "HeadNets" 246 m_J9_max_7cf53 2 := ⟨⟨Or.inl (tb4 210 rfl rfl), wi_J9_max_7cf53, wc_J9_max_7cf53, wn_J9_max_7cf53⟩, wm_J9_max_7cf53, by decide⟩
set_option maxRecDepth 20000 in
theorem cs_X1_29 : CS "HeadNets$Draft" 29 m_J7_fill_53178 2 := ⟨⟨Or.inl (tb3 134 rfl rfl), wi_J7_fill_53178, wc_J7_fill_53178, wn_J7_fill_53178⟩, wm_J7_fill_53178, by decide⟩
set_option maxRecDepth 20000 in
theorem cs_X1_45 : CS "HeadNets$Draft" 45 m_X11_isInside 2 := ⟨⟨Or.inr ⟨"HeadNets", tn3 158 rfl⟩, wi_X11_isInside, wc_X11_isInside, wn_X11_isInside⟩, wm_X11_isInside, by decide⟩
set_option maxRecDepth 20000 in
theorem cs_X1_57 : CS "HeadNets$Draft" 57 m_X1_isStanding 1 := ⟨⟨Or.inl (tb3 219 rfl rfl), wi_X1_isStanding, wc_X1_isStanding, wn_X1_isStanding⟩, wm_X1_isStanding, by decide⟩
set_option maxRecDepth 20000 in
theorem cs_X1_64 : CS "HeadNets$Draft" 64 m_X11_endCode 1 := ⟨⟨Or.inr ⟨"HeadNets", tn3 226 rfl⟩, wi_X11_endCode, wc_X11_endCode, wn_X11_endCode⟩, wm_X11_endCode, by decide⟩
set_option maxRecDepth 20000 in
theorem cs_X2_25 : CS "HeadNets$Journal" 25 m_J9_floorMod_7cf53 2 := ⟨⟨Or.inl (tb4 215 rfl rfl), wi_J9_floorMod_7cf53, wc_J9_floorMod_7cf53, wn_J9_floorMod_7cf53⟩, wm_J9_floorMod_7cf53, by decide⟩
set_option maxRecDepth 20000 in
theorem cs_X2_31 : CS "HeadNets$Journal" 31 m_J9_max_7cf53 2 := ⟨⟨Or.inl (tb5 64 rfl rfl), wi_J9_max_7cf53, wc_J9_max_7cf53, wn_J9_max_7cf53⟩, wm_J9_max_7cf53, by decide⟩
set_option maxRecDepth 20000 in
theorem cs_X2_34 : CS "HeadNets$Journal" 34 m_J9_min_7cf53 2 := ⟨⟨Or.inl (tb5 103 rfl rfl), wi_J9_min_7cf53, wc_J9_min_7cf53, wn_J9_min_7cf53⟩, wm_J9_min_7cf53, by decide⟩
set_option maxRecDepth 20000 in
theorem cs_X2_37 : CS "HeadNets$Journal" 37 m_X11_isInside 2 := ⟨⟨Or.inr ⟨"HeadNets", tn5 104 rfl⟩, wi_X11_isInside, wc_X11_isInside, wn_X11_isInside⟩, wm_X11_isInside, by decide⟩
set_option maxRecDepth 20000 in
theorem cs_X4_21 : CS "HeadNets$Net" 21 m_J7_fill_53178 2 := ⟨⟨Or.inl (tb1 183 rfl rfl), wi_J7_fill_53178, wc_J7_fill_53178, wn_J7_fill_53178⟩, wm_J7_fill_53178, by decide⟩
set_option maxRecDepth 20000 in
theorem cs_X4_46 : CS "HeadNets$Net" 46 m_X11_isInside 2 := ⟨⟨Or.inr ⟨"HeadNets", tn4 86 rfl⟩, wi_X11_isInside, wc_X11_isInside, wn_X11_isInside⟩, wm_X11_isInside, by decide⟩
set_option maxRecDepth 20000 in
theorem cs_X4_50 : CS "HeadNets$Net" 50 m_J9_max_7cf53 2 := ⟨⟨Or.inl (tb4 81 rfl rfl), wi_J9_max_7cf53, wc_J9_max_7cf53, wn_J9_max_7cf53⟩, wm_J9_max_7cf53, by decide⟩
set_option maxRecDepth 20000 in
theorem cs_X4_60 : CS "HeadNets$Net" 60 m_J9_min_7cf53 2 := ⟨⟨Or.inl (tb5 9 rfl rfl), wi_J9_min_7cf53, wc_J9_min_7cf53, wn_J9_min_7cf53⟩, wm_J9_min_7cf53, by decide⟩
set_option maxRecDepth 20000 in
theorem cs_X4_63 : CS "HeadNets$Net" 63 m_X11_endOf 1 := ⟨⟨Or.inr ⟨"HeadNets", tn4 87 rfl⟩, wi_X11_endOf, wc_X11_endOf, wn_X11_endOf⟩, wm_X11_endOf, by decide⟩
set_option maxRecDepth 20000 in
theorem cs_X4_71 : CS "HeadNets$Net" 71 m_X11_portOf 1 := ⟨⟨Or.inr ⟨"HeadNets", tn4 125 rfl⟩, wi_X11_portOf, wc_X11_portOf, wn_X11_portOf⟩, wm_X11_portOf, by decide⟩
set_option maxRecDepth 20000 in
theorem cs_X4_74 : CS "HeadNets$Net" 74 m_X11_agentOf 1 := ⟨⟨Or.inr ⟨"HeadNets", tn4 126 rfl⟩, wi_X11_agentOf, wc_X11_agentOf, wn_X11_agentOf⟩, wm_X11_agentOf, by decide⟩
set_option maxRecDepth 20000 in
theorem cs_X5_19 : CS "HeadNets$Printer" 19 m_X11_isInside 2 := ⟨⟨Or.inr ⟨"HeadNets", tn5 207 rfl⟩, wi_X11_isInside, wc_X11_isInside, wn_X11_isInside⟩, wm_X11_isInside, by decide⟩
set_option maxRecDepth 20000 in
theorem cs_X5_27 : CS "HeadNets$Printer" 27 m_X11_endOf 1 := ⟨⟨Or.inr ⟨"HeadNets", tn5 179 rfl⟩, wi_X11_endOf, wc_X11_endOf, wn_X11_endOf⟩, wm_X11_endOf, by decide⟩
set_option maxRecDepth 20000 in
theorem cs_X5_31 : CS "HeadNets$Printer" 31 m_X11_portOf 1 := ⟨⟨Or.inr ⟨"HeadNets", tn5 180 rfl⟩, wi_X11_portOf, wc_X11_portOf, wn_X11_portOf⟩, wm_X11_portOf, by decide⟩
set_option maxRecDepth 20000 in
theorem cs_X5_34 : CS "HeadNets$Printer" 34 m_X11_agentOf 1 := ⟨⟨Or.inr ⟨"HeadNets", tn5 181 rfl⟩, wi_X11_agentOf, wc_X11_agentOf, wn_X11_agentOf⟩, wm_X11_agentOf, by decide⟩
set_option maxRecDepth 20000 in
theorem cs_X5_69 : CS "HeadNets$Printer" 69 m_X11_portCode 2 := ⟨⟨Or.inr ⟨"HeadNets", tn5 196 rfl⟩, wi_X11_portCode, wc_X11_portCode, wn_X11_portCode⟩, wm_X11_portCode, by decide⟩
set_option maxRecDepth 20000 in
theorem cs_X6_160 : CS "HeadNets$Reader" 160 m_X1_outerPoint 1 := ⟨⟨Or.inl (tb3 155 rfl rfl), wi_X1_outerPoint, wc_X1_outerPoint, wn_X1_outerPoint⟩, wm_X1_outerPoint, by decide⟩
set_option maxRecDepth 20000 in
theorem cs_X6_186 : CS "HeadNets$Reader" 186 m_X11_portCode 2 := ⟨⟨Or.inr ⟨"HeadNets", tn3 187 rfl⟩, wi_X11_portCode, wc_X11_portCode, wn_X11_portCode⟩, wm_X11_portCode, by decide⟩
set_option maxRecDepth 20000 in
theorem cs_X6_241 : CS "HeadNets$Reader" 241 m_X11_agentOf 1 := ⟨⟨Or.inr ⟨"HeadNets", tn3 233 rfl⟩, wi_X11_agentOf, wc_X11_agentOf, wn_X11_agentOf⟩, wm_X11_agentOf, by decide⟩
set_option maxRecDepth 20000 in
theorem cs_X6_244 : CS "HeadNets$Reader" 244 m_X11_portOf 1 := ⟨⟨Or.inr ⟨"HeadNets", tn3 236 rfl⟩, wi_X11_portOf, wc_X11_portOf, wn_X11_portOf⟩, wm_X11_portOf, by decide⟩
set_option maxRecDepth 20000 in
theorem cs_X6_247 : CS "HeadNets$Reader" 247 m_X11_endOf 1 := ⟨⟨Or.inr ⟨"HeadNets", tn3 239 rfl⟩, wi_X11_endOf, wc_X11_endOf, wn_X11_endOf⟩, wm_X11_endOf, by decide⟩
set_option maxRecDepth 20000 in
theorem cs_X6_253 : CS "HeadNets$Reader" 253 m_X6_slotPort 1 := ⟨⟨Or.inl (tb4 10 rfl rfl), wi_X6_slotPort, wc_X6_slotPort, wn_X6_slotPort⟩, wm_X6_slotPort, by decide⟩
set_option maxRecDepth 20000 in
theorem cs_X6_264 : CS "HeadNets$Reader" 264 m_X11_endCode 1 := ⟨⟨Or.inr ⟨"HeadNets", tn4 48 rfl⟩, wi_X11_endCode, wc_X11_endCode, wn_X11_endCode⟩, wm_X11_endCode, by decide⟩
set_option maxRecDepth 20000 in
theorem cs_X7_87 : CS "HeadNets$Rewriter" 87 m_J9_min_7cf53 2 := ⟨⟨Or.inl (tb4 236 rfl rfl), wi_J9_min_7cf53, wc_J9_min_7cf53, wn_J9_min_7cf53⟩, wm_J9_min_7cf53, by decide⟩
set_option maxRecDepth 20000 in
theorem cs_X7_93 : CS "HeadNets$Rewriter" 93 m_X11_portCode 2 := ⟨⟨Or.inr ⟨"HeadNets", tn4 237 rfl⟩, wi_X11_portCode, wc_X11_portCode, wn_X11_portCode⟩, wm_X11_portCode, by decide⟩
set_option maxRecDepth 20000 in
theorem cs_X7_99 : CS "HeadNets$Rewriter" 99 m_X11_isInside 2 := ⟨⟨Or.inr ⟨"HeadNets", tn4 239 rfl⟩, wi_X11_isInside, wc_X11_isInside, wn_X11_isInside⟩, wm_X11_isInside, by decide⟩
set_option maxRecDepth 20000 in
theorem cs_X7_103 : CS "HeadNets$Rewriter" 103 m_X7_slotAt 4 := ⟨⟨Or.inl (tb5 0 rfl rfl), wi_X7_slotAt, wc_X7_slotAt, wn_X7_slotAt⟩, wm_X7_slotAt, by decide⟩
set_option maxRecDepth 20000 in
theorem cs_X7_107 : CS "HeadNets$Rewriter" 107 m_X11_portOf 1 := ⟨⟨Or.inr ⟨"HeadNets", tn5 3 rfl⟩, wi_X11_portOf, wc_X11_portOf, wn_X11_portOf⟩, wm_X11_portOf, by decide⟩
set_option maxRecDepth 20000 in
theorem cs_X7_110 : CS "HeadNets$Rewriter" 110 m_X11_agentOf 1 := ⟨⟨Or.inr ⟨"HeadNets", tn5 4 rfl⟩, wi_X11_agentOf, wc_X11_agentOf, wn_X11_agentOf⟩, wm_X11_agentOf, by decide⟩
set_option maxRecDepth 20000 in
theorem cs_X7_130 : CS "HeadNets$Rewriter" 130 m_X11_endCode 1 := ⟨⟨Or.inr ⟨"HeadNets", tn5 42 rfl⟩, wi_X11_endCode, wc_X11_endCode, wn_X11_endCode⟩, wm_X11_endCode, by decide⟩
set_option maxRecDepth 20000 in
theorem cs_X7_141 : CS "HeadNets$Rewriter" 141 m_X11_endOf 1 := ⟨⟨Or.inr ⟨"HeadNets", tn5 33 rfl⟩, wi_X11_endOf, wc_X11_endOf, wn_X11_endOf⟩, wm_X11_endOf, by decide⟩
set_option maxRecDepth 20000 in
theorem cs_X8_33 : CS "HeadNets$Rules" 33 m_J7_fill_53178 2 := ⟨⟨Or.inl (tb1 148 rfl rfl), wi_J7_fill_53178, wc_J7_fill_53178, wn_J7_fill_53178⟩, wm_J7_fill_53178, by decide⟩
set_option maxRecDepth 20000 in
theorem cs_X8_43 : CS "HeadNets$Rules" 43 m_X11_isInside 2 := ⟨⟨Or.inr ⟨"HeadNets", tn3 198 rfl⟩, wi_X11_isInside, wc_X11_isInside, wn_X11_isInside⟩, wm_X11_isInside, by decide⟩
set_option maxRecDepth 20000 in
theorem cs_X8_55 : CS "HeadNets$Rules" 55 m_X11_endOf 1 := ⟨⟨Or.inr ⟨"HeadNets", tn4 47 rfl⟩, wi_X11_endOf, wc_X11_endOf, wn_X11_endOf⟩, wm_X11_endOf, by decide⟩
set_option maxRecDepth 20000 in
theorem cs_X9_30 : CS "HeadNets$Tape" 30 m_X11_isInside 2 := ⟨⟨Or.inr ⟨"HeadNets", tn2 187 rfl⟩, wi_X11_isInside, wc_X11_isInside, wn_X11_isInside⟩, wm_X11_isInside, by decide⟩
set_option maxRecDepth 20000 in
theorem cs_X9_41 : CS "HeadNets$Tape" 41 m_J9_max_7cf53 2 := ⟨⟨Or.inl (tb3 62 rfl rfl), wi_J9_max_7cf53, wc_J9_max_7cf53, wn_J9_max_7cf53⟩, wm_J9_max_7cf53, by decide⟩
set_option maxRecDepth 20000 in
theorem cs_X9_77 : CS "HeadNets$Tape" 77 m_J9_min_7cf53 2 := ⟨⟨Or.inl (tb3 67 rfl rfl), wi_J9_min_7cf53, wc_J9_min_7cf53, wn_J9_min_7cf53⟩, wm_J9_min_7cf53, by decide⟩
set_option maxRecDepth 20000 in
theorem cs_X9_90 : CS "HeadNets$Tape" 90 m_X9_isBig 1 := ⟨⟨Or.inl (tb2 197 rfl rfl), wi_X9_isBig, wc_X9_isBig, wn_X9_isBig⟩, wm_X9_isBig, by decide⟩
set_option maxRecDepth 20000 in
theorem cs_X9_94 : CS "HeadNets$Tape" 94 m_X9_isDigit 1 := ⟨⟨Or.inl (tb2 200 rfl rfl), wi_X9_isDigit, wc_X9_isDigit, wn_X9_isDigit⟩, wm_X9_isDigit, by decide⟩
set_option maxRecDepth 20000 in
theorem cs_X9_97 : CS "HeadNets$Tape" 97 m_X9_isLetterOrDigit 1 := ⟨⟨Or.inl (tb2 194 rfl rfl), wi_X9_isLetterOrDigit, wc_X9_isLetterOrDigit, wn_X9_isLetterOrDigit⟩, wm_X9_isLetterOrDigit, by decide⟩
set_option maxRecDepth 20000 in
theorem cs_X10_18 : CS "HeadNets$Walk" 18 m_J7_fill_53178 2 := ⟨⟨Or.inl (tb4 140 rfl rfl), wi_J7_fill_53178, wc_J7_fill_53178, wn_J7_fill_53178⟩, wm_J7_fill_53178, by decide⟩
set_option maxRecDepth 20000 in
theorem cs_X10_33 : CS "HeadNets$Walk" 33 m_X11_endCode 1 := ⟨⟨Or.inr ⟨"HeadNets", tn5 128 rfl⟩, wi_X11_endCode, wc_X11_endCode, wn_X11_endCode⟩, wm_X11_endCode, by decide⟩
set_option maxRecDepth 20000 in
theorem cs_X10_56 : CS "HeadNets$Walk" 56 m_X11_portCode 2 := ⟨⟨Or.inr ⟨"HeadNets", tn5 141 rfl⟩, wi_X11_portCode, wc_X11_portCode, wn_X11_portCode⟩, wm_X11_portCode, by decide⟩
set_option maxRecDepth 20000 in
theorem cs_X10_60 : CS "HeadNets$Walk" 60 m_X11_agentOf 1 := ⟨⟨Or.inr ⟨"HeadNets", tn5 134 rfl⟩, wi_X11_agentOf, wc_X11_agentOf, wn_X11_agentOf⟩, wm_X11_agentOf, by decide⟩
set_option maxRecDepth 20000 in
theorem cs_X10_63 : CS "HeadNets$Walk" 63 m_X11_isInside 2 := ⟨⟨Or.inr ⟨"HeadNets", tn4 141 rfl⟩, wi_X11_isInside, wc_X11_isInside, wn_X11_isInside⟩, wm_X11_isInside, by decide⟩
set_option maxRecDepth 20000 in
theorem cs_X10_70 : CS "HeadNets$Walk" 70 m_X10_hasSameCounts 2 := ⟨⟨Or.inl (tb5 146 rfl rfl), wi_X10_hasSameCounts, wc_X10_hasSameCounts, wn_X10_hasSameCounts⟩, wm_X10_hasSameCounts, by decide⟩
set_option maxRecDepth 20000 in
theorem cs_X10_88 : CS "HeadNets$Walk" 88 m_X11_portOf 1 := ⟨⟨Or.inr ⟨"HeadNets", tn5 158 rfl⟩, wi_X11_portOf, wc_X11_portOf, wn_X11_portOf⟩, wm_X11_portOf, by decide⟩
set_option maxRecDepth 20000 in
theorem cs_X12_191 : CS "HeadNetsModel" 191 m_X12_in 3 := ⟨⟨Or.inl (tb6 236 rfl rfl), wi_X12_in, wc_X12_in, wn_X12_in⟩, wm_X12_in, by decide⟩
set_option maxRecDepth 20000 in
theorem cs_X12_208 : CS "HeadNetsModel" 208 m_X12_isSmall 1 := ⟨⟨Or.inl (tb7 15 rfl rfl), wi_X12_isSmall, wc_X12_isSmall, wn_X12_isSmall⟩, wm_X12_isSmall, by decide⟩
set_option maxRecDepth 20000 in
theorem cs_X12_212 : CS "HeadNetsModel" 212 m_X12_isGreat 1 := ⟨⟨Or.inl (tb7 18 rfl rfl), wi_X12_isGreat, wc_X12_isGreat, wn_X12_isGreat⟩, wm_X12_isGreat, by decide⟩
set_option maxRecDepth 20000 in
theorem cs_X12_215 : CS "HeadNetsModel" 215 m_X12_isFigure 1 := ⟨⟨Or.inl (tb7 21 rfl rfl), wi_X12_isFigure, wc_X12_isFigure, wn_X12_isFigure⟩, wm_X12_isFigure, by decide⟩
set_option maxRecDepth 20000 in
theorem cs_X12_317 : CS "HeadNetsModel" 317 m_X12_told 1 := ⟨⟨Or.inl (tb7 114 rfl rfl), wi_X12_told, wc_X12_told, wn_X12_told⟩, wm_X12_told, by decide⟩
set_option maxRecDepth 20000 in
theorem cs_X12_409 : CS "HeadNetsModel" 409 m_X12_asTold 1 := ⟨⟨Or.inl (tb7 184 rfl rfl), wi_X12_asTold, wc_X12_asTold, wn_X12_asTold⟩, wm_X12_asTold, by decide⟩
set_option maxRecDepth 20000 in
theorem cs_X12_447 : CS "HeadNetsModel" 447 m_X12_isShelf 1 := ⟨⟨Or.inl (tb8 12 rfl rfl), wi_X12_isShelf, wc_X12_isShelf, wn_X12_isShelf⟩, wm_X12_isShelf, by decide⟩
set_option maxRecDepth 20000 in
theorem cs_J0_637 : CS "java/lang/String" 637 m_J1_indexOf_4cfef 4 := ⟨⟨Or.inl (tb2 238 rfl rfl), wi_J1_indexOf_4cfef, wc_J1_indexOf_4cfef, wn_J1_indexOf_4cfef⟩, wm_J1_indexOf_4cfef, by decide⟩
set_option maxRecDepth 20000 in
theorem cs_J1_38 : CS "java/lang/StringLatin1" 38 m_J9_min_7cf53 2 := ⟨⟨Or.inl (tb3 7 rfl rfl), wi_J9_min_7cf53, wc_J9_min_7cf53, wn_J9_min_7cf53⟩, wm_J9_min_7cf53, by decide⟩
set_option maxRecDepth 20000 in
theorem cs_J1_88 : CS "java/lang/StringLatin1" 88 m_J1_canEncode_9a6ad 1 := ⟨⟨Or.inl (tb3 1 rfl rfl), wi_J1_canEncode_9a6ad, wc_J1_canEncode_9a6ad, wn_J1_canEncode_9a6ad⟩, wm_J1_canEncode_9a6ad, by decide⟩
set_option maxRecDepth 20000 in
theorem cs_J1_92 : CS "java/lang/StringLatin1" 92 m_J9_max_7cf53 2 := ⟨⟨Or.inl (tb3 4 rfl rfl), wi_J9_max_7cf53, wc_J9_max_7cf53, wn_J9_max_7cf53⟩, wm_J9_max_7cf53, by decide⟩
set_option maxRecDepth 20000 in
theorem cs_J1_95 : CS "java/lang/StringLatin1" 95 m_J1_indexOfChar_4cfef 4 := ⟨⟨Or.inl (tb3 10 rfl rfl), wi_J1_indexOfChar_4cfef, wc_J1_indexOfChar_4cfef, wn_J1_indexOfChar_4cfef⟩, wm_J1_indexOfChar_4cfef, by decide⟩
theorem sw_out13 {x : Int32} (h0 : ¬ x = 0) (h1 : ¬ x = 1) (h2 : ¬ x = 2) (h3 : ¬ x = 3) (h4 : ¬ x = 4) (h5 : ¬ x = 5) (h6 : ¬ x = 6) (h7 : ¬ x = 7) (h8 : ¬ x = 8) (h9 : ¬ x = 9) (h10 : ¬ x = 10) (h11 : ¬ x = 11) (h12 : ¬ x = 12) : x.toInt < 0 ∨ 12 < x.toInt := by
  have e0 : x.toInt ≠ 0 := fun z => h0 (Int32.toInt_inj.mp (z.trans (by decide)))
  have e1 : x.toInt ≠ 1 := fun z => h1 (Int32.toInt_inj.mp (z.trans (by decide)))
  have e2 : x.toInt ≠ 2 := fun z => h2 (Int32.toInt_inj.mp (z.trans (by decide)))
  have e3 : x.toInt ≠ 3 := fun z => h3 (Int32.toInt_inj.mp (z.trans (by decide)))
  have e4 : x.toInt ≠ 4 := fun z => h4 (Int32.toInt_inj.mp (z.trans (by decide)))
  have e5 : x.toInt ≠ 5 := fun z => h5 (Int32.toInt_inj.mp (z.trans (by decide)))
  have e6 : x.toInt ≠ 6 := fun z => h6 (Int32.toInt_inj.mp (z.trans (by decide)))
  have e7 : x.toInt ≠ 7 := fun z => h7 (Int32.toInt_inj.mp (z.trans (by decide)))
  have e8 : x.toInt ≠ 8 := fun z => h8 (Int32.toInt_inj.mp (z.trans (by decide)))
  have e9 : x.toInt ≠ 9 := fun z => h9 (Int32.toInt_inj.mp (z.trans (by decide)))
  have e10 : x.toInt ≠ 10 := fun z => h10 (Int32.toInt_inj.mp (z.trans (by decide)))
  have e11 : x.toInt ≠ 11 := fun z => h11 (Int32.toInt_inj.mp (z.trans (by decide)))
  have e12 : x.toInt ≠ 12 := fun z => h12 (Int32.toInt_inj.mp (z.trans (by decide)))
  omega
