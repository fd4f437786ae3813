/-! ===== the shapes: the class, the reference ===== -/
def shC : List kd := [.inr (10, [some 1, some 3, some 9, some 10, some 15, some 16, some 19, some 134, some 143, some 159, none]),
  .inr (8, [some 2, none, none, none]),
  .inl (.int, 400),
  .inr (5, [none, none, none, none, none, some 4, some 5, some 6, some 7, some 8]),
  .inl (.int, 6),
  .inl (.int, 6),
  .inl (.int, 12),
  .inl (.int, 6),
  .inl (.int, 6),
  .inr (1, [some 1, some 3]),
  .inr (7, [some 1, some 11, some 12, some 13, some 14, none, none, none]),
  .inl (.int, 400),
  .inl (.int, 400),
  .inl (.int, 12),
  .inl (.int, 12),
  .inl (.object RX7, 6),
  .inr (0, [some 15, some 17, some 18]),
  .inl (.long, 12),
  .inl (.long, 64),
  .inr (9, [some 20, some 26, some 31, none, none, some 32, some 33, none, none, none]),
  .inr (5, [none, none, none, none, none, some 21, some 22, some 23, some 24, some 25]),
  .inl (.int, 6),
  .inl (.int, 6),
  .inl (.int, 12),
  .inl (.int, 6),
  .inl (.int, 6),
  .inr (3, [none, none, none, none, some 27, some 28, some 29, some 30]),
  .inl (.int, 6),
  .inl (.int, 6),
  .inl (.int, 6),
  .inl (.int, 6),
  .inl (.object RX4, 20),
  .inl (.int, 10),
  .inl (.int, 10),
  .inr (3, [none, none, none, none, some 35, some 36, some 37, some 38]),
  .inl (.int, 6),
  .inl (.int, 6),
  .inl (.int, 6),
  .inl (.int, 6),
  .inr (3, [none, none, none, none, some 40, some 41, some 42, some 43]),
  .inl (.int, 6),
  .inl (.int, 6),
  .inl (.int, 6),
  .inl (.int, 6),
  .inr (3, [none, none, none, none, some 45, some 46, some 47, some 48]),
  .inl (.int, 6),
  .inl (.int, 6),
  .inl (.int, 6),
  .inl (.int, 6),
  .inr (3, [none, none, none, none, some 50, some 51, some 52, some 53]),
  .inl (.int, 6),
  .inl (.int, 6),
  .inl (.int, 6),
  .inl (.int, 6),
  .inr (3, [none, none, none, none, some 55, some 56, some 57, some 58]),
  .inl (.int, 6),
  .inl (.int, 6),
  .inl (.int, 6),
  .inl (.int, 6),
  .inr (3, [none, none, none, none, some 60, some 61, some 62, some 63]),
  .inl (.int, 6),
  .inl (.int, 6),
  .inl (.int, 6),
  .inl (.int, 6),
  .inr (3, [none, none, none, none, some 65, some 66, some 67, some 68]),
  .inl (.int, 6),
  .inl (.int, 6),
  .inl (.int, 6),
  .inl (.int, 6),
  .inr (3, [none, none, none, none, some 70, some 71, some 72, some 73]),
  .inl (.int, 6),
  .inl (.int, 6),
  .inl (.int, 6),
  .inl (.int, 6),
  .inr (3, [none, none, none, none, some 75, some 76, some 77, some 78]),
  .inl (.int, 6),
  .inl (.int, 6),
  .inl (.int, 6),
  .inl (.int, 6),
  .inr (3, [none, none, none, none, some 80, some 81, some 82, some 83]),
  .inl (.int, 6),
  .inl (.int, 6),
  .inl (.int, 6),
  .inl (.int, 6),
  .inr (3, [none, none, none, none, some 85, some 86, some 87, some 88]),
  .inl (.int, 6),
  .inl (.int, 6),
  .inl (.int, 6),
  .inl (.int, 6),
  .inr (3, [none, none, none, none, some 90, some 91, some 92, some 93]),
  .inl (.int, 6),
  .inl (.int, 6),
  .inl (.int, 6),
  .inl (.int, 6),
  .inr (3, [none, none, none, none, some 95, some 96, some 97, some 98]),
  .inl (.int, 6),
  .inl (.int, 6),
  .inl (.int, 6),
  .inl (.int, 6),
  .inr (3, [none, none, none, none, some 100, some 101, some 102, some 103]),
  .inl (.int, 6),
  .inl (.int, 6),
  .inl (.int, 6),
  .inl (.int, 6),
  .inr (3, [none, none, none, none, some 105, some 106, some 107, some 108]),
  .inl (.int, 6),
  .inl (.int, 6),
  .inl (.int, 6),
  .inl (.int, 6),
  .inr (3, [none, none, none, none, some 110, some 111, some 112, some 113]),
  .inl (.int, 6),
  .inl (.int, 6),
  .inl (.int, 6),
  .inl (.int, 6),
  .inr (3, [none, none, none, none, some 115, some 116, some 117, some 118]),
  .inl (.int, 6),
  .inl (.int, 6),
  .inl (.int, 6),
  .inl (.int, 6),
  .inr (3, [none, none, none, none, some 120, some 121, some 122, some 123]),
  .inl (.int, 6),
  .inl (.int, 6),
  .inl (.int, 6),
  .inl (.int, 6),
  .inr (3, [none, none, none, none, some 125, some 126, some 127, some 128]),
  .inl (.int, 6),
  .inl (.int, 6),
  .inl (.int, 6),
  .inl (.int, 6),
  .inr (3, [none, none, none, none, some 130, some 131, some 132, some 133]),
  .inl (.int, 6),
  .inl (.int, 6),
  .inl (.int, 6),
  .inl (.int, 6),
  .inr (4, [some 19, some 16, some 135, some 140, some 141, some 142]),
  .inr (3, [none, none, none, none, some 136, some 137, some 138, some 139]),
  .inl (.int, 6),
  .inl (.int, 6),
  .inl (.int, 6),
  .inl (.int, 6),
  .inl (.int, 66),
  .inl (.int, 25),
  .inl (.int, 25),
  .inr (2, [some 19, some 16, some 144, some 149, some 157, some 158, none]),
  .inr (3, [none, none, none, none, some 145, some 146, some 147, some 148]),
  .inl (.int, 6),
  .inl (.int, 6),
  .inl (.int, 6),
  .inl (.int, 6),
  .inl (.array .int, 7),
  .inl (.int, 61),
  .inl (.int, 61),
  .inl (.int, 61),
  .inl (.int, 61),
  .inl (.int, 61),
  .inl (.int, 61),
  .inl (.int, 61),
  .inl (.boolean, 7),
  .inl (.int, 7),
  .inl (.object RX10, 4)]
def shR : List kd := [.inr (11, [none, some 1, some 2, some 3, some 4, some 5, some 6, some 7, some 8, some 9, some 10, some 11, some 12, some 13, some 14, some 15, some 16, some 17, some 18, none, none, none, none, none, none, none, none, none, none, some 19, some 20, some 21, some 22, some 23, some 24, some 25, some 26, some 27, some 28, some 29, some 30, none, none, none, some 31, some 32, some 33, some 34, some 35, some 36, some 37, none, none]),
  .inl (.int, 11),
  .inl (.int, 6),
  .inl (.int, 6),
  .inl (.int, 6),
  .inl (.int, 12),
  .inl (.int, 6),
  .inl (.int, 6),
  .inl (.int, 6),
  .inl (.int, 6),
  .inl (.int, 10),
  .inl (.int, 10),
  .inl (.int, 6),
  .inl (.int, 4),
  .inl (.int, 6),
  .inl (.int, 6),
  .inl (.int, 12),
  .inl (.int, 6),
  .inl (.int, 6),
  .inl (.byte, 400),
  .inl (.int, 1800),
  .inl (.int, 1800),
  .inl (.int, 6),
  .inl (.int, 72),
  .inl (.int, 72),
  .inl (.int, 72),
  .inl (.int, 402),
  .inl (.long, 12),
  .inl (.long, 300),
  .inl (.int, 560),
  .inl (.int, 1),
  .inl (.int, 6),
  .inl (.int, 25),
  .inl (.int, 25),
  .inl (.int, 66),
  .inl (.int, 427),
  .inl (.int, 3500),
  .inl (.boolean, 4)]
def cSh (sh : List kd) : Prop := ∀ i, i < 160 → sh[i]? = shC[i]?
def rmSh (sh : List kd) : Prop := ∀ i, i < 38 → sh[i]? = shR[i]?
theorem sC_0 {sh : List kd} (h : cSh sh) : sh[0]? = some (.inr (10, [some 1, some 3, some 9, some 10, some 15, some 16, some 19, some 134, some 143, some 159, none])) := (h 0 (by decide)).trans (by decide +kernel)
theorem sC_1 {sh : List kd} (h : cSh sh) : sh[1]? = some (.inr (8, [some 2, none, none, none])) := (h 1 (by decide)).trans (by decide +kernel)
theorem sC_2 {sh : List kd} (h : cSh sh) : sh[2]? = some (.inl (.int, 400)) := (h 2 (by decide)).trans (by decide +kernel)
theorem sC_3 {sh : List kd} (h : cSh sh) : sh[3]? = some (.inr (5, [none, none, none, none, none, some 4, some 5, some 6, some 7, some 8])) := (h 3 (by decide)).trans (by decide +kernel)
theorem sC_4 {sh : List kd} (h : cSh sh) : sh[4]? = some (.inl (.int, 6)) := (h 4 (by decide)).trans (by decide +kernel)
theorem sC_5 {sh : List kd} (h : cSh sh) : sh[5]? = some (.inl (.int, 6)) := (h 5 (by decide)).trans (by decide +kernel)
theorem sC_6 {sh : List kd} (h : cSh sh) : sh[6]? = some (.inl (.int, 12)) := (h 6 (by decide)).trans (by decide +kernel)
theorem sC_7 {sh : List kd} (h : cSh sh) : sh[7]? = some (.inl (.int, 6)) := (h 7 (by decide)).trans (by decide +kernel)
theorem sC_8 {sh : List kd} (h : cSh sh) : sh[8]? = some (.inl (.int, 6)) := (h 8 (by decide)).trans (by decide +kernel)
theorem sC_9 {sh : List kd} (h : cSh sh) : sh[9]? = some (.inr (1, [some 1, some 3])) := (h 9 (by decide)).trans (by decide +kernel)
theorem sC_10 {sh : List kd} (h : cSh sh) : sh[10]? = some (.inr (7, [some 1, some 11, some 12, some 13, some 14, none, none, none])) := (h 10 (by decide)).trans (by decide +kernel)
theorem sC_11 {sh : List kd} (h : cSh sh) : sh[11]? = some (.inl (.int, 400)) := (h 11 (by decide)).trans (by decide +kernel)
theorem sC_12 {sh : List kd} (h : cSh sh) : sh[12]? = some (.inl (.int, 400)) := (h 12 (by decide)).trans (by decide +kernel)
theorem sC_13 {sh : List kd} (h : cSh sh) : sh[13]? = some (.inl (.int, 12)) := (h 13 (by decide)).trans (by decide +kernel)
theorem sC_14 {sh : List kd} (h : cSh sh) : sh[14]? = some (.inl (.int, 12)) := (h 14 (by decide)).trans (by decide +kernel)
theorem sC_15 {sh : List kd} (h : cSh sh) : sh[15]? = some (.inl (.object RX7, 6)) := (h 15 (by decide)).trans (by decide +kernel)
theorem sC_16 {sh : List kd} (h : cSh sh) : sh[16]? = some (.inr (0, [some 15, some 17, some 18])) := (h 16 (by decide)).trans (by decide +kernel)
theorem sC_17 {sh : List kd} (h : cSh sh) : sh[17]? = some (.inl (.long, 12)) := (h 17 (by decide)).trans (by decide +kernel)
theorem sC_18 {sh : List kd} (h : cSh sh) : sh[18]? = some (.inl (.long, 64)) := (h 18 (by decide)).trans (by decide +kernel)
theorem sC_19 {sh : List kd} (h : cSh sh) : sh[19]? = some (.inr (9, [some 20, some 26, some 31, none, none, some 32, some 33, none, none, none])) := (h 19 (by decide)).trans (by decide +kernel)
theorem sC_20 {sh : List kd} (h : cSh sh) : sh[20]? = some (.inr (5, [none, none, none, none, none, some 21, some 22, some 23, some 24, some 25])) := (h 20 (by decide)).trans (by decide +kernel)
theorem sC_21 {sh : List kd} (h : cSh sh) : sh[21]? = some (.inl (.int, 6)) := (h 21 (by decide)).trans (by decide +kernel)
theorem sC_22 {sh : List kd} (h : cSh sh) : sh[22]? = some (.inl (.int, 6)) := (h 22 (by decide)).trans (by decide +kernel)
theorem sC_23 {sh : List kd} (h : cSh sh) : sh[23]? = some (.inl (.int, 12)) := (h 23 (by decide)).trans (by decide +kernel)
theorem sC_24 {sh : List kd} (h : cSh sh) : sh[24]? = some (.inl (.int, 6)) := (h 24 (by decide)).trans (by decide +kernel)
theorem sC_25 {sh : List kd} (h : cSh sh) : sh[25]? = some (.inl (.int, 6)) := (h 25 (by decide)).trans (by decide +kernel)
theorem sC_26 {sh : List kd} (h : cSh sh) : sh[26]? = some (.inr (3, [none, none, none, none, some 27, some 28, some 29, some 30])) := (h 26 (by decide)).trans (by decide +kernel)
theorem sC_27 {sh : List kd} (h : cSh sh) : sh[27]? = some (.inl (.int, 6)) := (h 27 (by decide)).trans (by decide +kernel)
theorem sC_28 {sh : List kd} (h : cSh sh) : sh[28]? = some (.inl (.int, 6)) := (h 28 (by decide)).trans (by decide +kernel)
theorem sC_29 {sh : List kd} (h : cSh sh) : sh[29]? = some (.inl (.int, 6)) := (h 29 (by decide)).trans (by decide +kernel)
theorem sC_30 {sh : List kd} (h : cSh sh) : sh[30]? = some (.inl (.int, 6)) := (h 30 (by decide)).trans (by decide +kernel)
theorem sC_31 {sh : List kd} (h : cSh sh) : sh[31]? = some (.inl (.object RX4, 20)) := (h 31 (by decide)).trans (by decide +kernel)
theorem sC_32 {sh : List kd} (h : cSh sh) : sh[32]? = some (.inl (.int, 10)) := (h 32 (by decide)).trans (by decide +kernel)
theorem sC_33 {sh : List kd} (h : cSh sh) : sh[33]? = some (.inl (.int, 10)) := (h 33 (by decide)).trans (by decide +kernel)
theorem sC_34 {sh : List kd} (h : cSh sh) : sh[34]? = some (.inr (3, [none, none, none, none, some 35, some 36, some 37, some 38])) := (h 34 (by decide)).trans (by decide +kernel)
theorem sC_35 {sh : List kd} (h : cSh sh) : sh[35]? = some (.inl (.int, 6)) := (h 35 (by decide)).trans (by decide +kernel)
theorem sC_36 {sh : List kd} (h : cSh sh) : sh[36]? = some (.inl (.int, 6)) := (h 36 (by decide)).trans (by decide +kernel)
theorem sC_37 {sh : List kd} (h : cSh sh) : sh[37]? = some (.inl (.int, 6)) := (h 37 (by decide)).trans (by decide +kernel)
theorem sC_38 {sh : List kd} (h : cSh sh) : sh[38]? = some (.inl (.int, 6)) := (h 38 (by decide)).trans (by decide +kernel)
theorem sC_39 {sh : List kd} (h : cSh sh) : sh[39]? = some (.inr (3, [none, none, none, none, some 40, some 41, some 42, some 43])) := (h 39 (by decide)).trans (by decide +kernel)
theorem sC_40 {sh : List kd} (h : cSh sh) : sh[40]? = some (.inl (.int, 6)) := (h 40 (by decide)).trans (by decide +kernel)
theorem sC_41 {sh : List kd} (h : cSh sh) : sh[41]? = some (.inl (.int, 6)) := (h 41 (by decide)).trans (by decide +kernel)
theorem sC_42 {sh : List kd} (h : cSh sh) : sh[42]? = some (.inl (.int, 6)) := (h 42 (by decide)).trans (by decide +kernel)
theorem sC_43 {sh : List kd} (h : cSh sh) : sh[43]? = some (.inl (.int, 6)) := (h 43 (by decide)).trans (by decide +kernel)
theorem sC_44 {sh : List kd} (h : cSh sh) : sh[44]? = some (.inr (3, [none, none, none, none, some 45, some 46, some 47, some 48])) := (h 44 (by decide)).trans (by decide +kernel)
theorem sC_45 {sh : List kd} (h : cSh sh) : sh[45]? = some (.inl (.int, 6)) := (h 45 (by decide)).trans (by decide +kernel)
theorem sC_46 {sh : List kd} (h : cSh sh) : sh[46]? = some (.inl (.int, 6)) := (h 46 (by decide)).trans (by decide +kernel)
theorem sC_47 {sh : List kd} (h : cSh sh) : sh[47]? = some (.inl (.int, 6)) := (h 47 (by decide)).trans (by decide +kernel)
theorem sC_48 {sh : List kd} (h : cSh sh) : sh[48]? = some (.inl (.int, 6)) := (h 48 (by decide)).trans (by decide +kernel)
theorem sC_49 {sh : List kd} (h : cSh sh) : sh[49]? = some (.inr (3, [none, none, none, none, some 50, some 51, some 52, some 53])) := (h 49 (by decide)).trans (by decide +kernel)
theorem sC_50 {sh : List kd} (h : cSh sh) : sh[50]? = some (.inl (.int, 6)) := (h 50 (by decide)).trans (by decide +kernel)
theorem sC_51 {sh : List kd} (h : cSh sh) : sh[51]? = some (.inl (.int, 6)) := (h 51 (by decide)).trans (by decide +kernel)
theorem sC_52 {sh : List kd} (h : cSh sh) : sh[52]? = some (.inl (.int, 6)) := (h 52 (by decide)).trans (by decide +kernel)
theorem sC_53 {sh : List kd} (h : cSh sh) : sh[53]? = some (.inl (.int, 6)) := (h 53 (by decide)).trans (by decide +kernel)
theorem sC_54 {sh : List kd} (h : cSh sh) : sh[54]? = some (.inr (3, [none, none, none, none, some 55, some 56, some 57, some 58])) := (h 54 (by decide)).trans (by decide +kernel)
theorem sC_55 {sh : List kd} (h : cSh sh) : sh[55]? = some (.inl (.int, 6)) := (h 55 (by decide)).trans (by decide +kernel)
theorem sC_56 {sh : List kd} (h : cSh sh) : sh[56]? = some (.inl (.int, 6)) := (h 56 (by decide)).trans (by decide +kernel)
theorem sC_57 {sh : List kd} (h : cSh sh) : sh[57]? = some (.inl (.int, 6)) := (h 57 (by decide)).trans (by decide +kernel)
theorem sC_58 {sh : List kd} (h : cSh sh) : sh[58]? = some (.inl (.int, 6)) := (h 58 (by decide)).trans (by decide +kernel)
theorem sC_59 {sh : List kd} (h : cSh sh) : sh[59]? = some (.inr (3, [none, none, none, none, some 60, some 61, some 62, some 63])) := (h 59 (by decide)).trans (by decide +kernel)
theorem sC_60 {sh : List kd} (h : cSh sh) : sh[60]? = some (.inl (.int, 6)) := (h 60 (by decide)).trans (by decide +kernel)
theorem sC_61 {sh : List kd} (h : cSh sh) : sh[61]? = some (.inl (.int, 6)) := (h 61 (by decide)).trans (by decide +kernel)
theorem sC_62 {sh : List kd} (h : cSh sh) : sh[62]? = some (.inl (.int, 6)) := (h 62 (by decide)).trans (by decide +kernel)
theorem sC_63 {sh : List kd} (h : cSh sh) : sh[63]? = some (.inl (.int, 6)) := (h 63 (by decide)).trans (by decide +kernel)
theorem sC_64 {sh : List kd} (h : cSh sh) : sh[64]? = some (.inr (3, [none, none, none, none, some 65, some 66, some 67, some 68])) := (h 64 (by decide)).trans (by decide +kernel)
theorem sC_65 {sh : List kd} (h : cSh sh) : sh[65]? = some (.inl (.int, 6)) := (h 65 (by decide)).trans (by decide +kernel)
theorem sC_66 {sh : List kd} (h : cSh sh) : sh[66]? = some (.inl (.int, 6)) := (h 66 (by decide)).trans (by decide +kernel)
theorem sC_67 {sh : List kd} (h : cSh sh) : sh[67]? = some (.inl (.int, 6)) := (h 67 (by decide)).trans (by decide +kernel)
theorem sC_68 {sh : List kd} (h : cSh sh) : sh[68]? = some (.inl (.int, 6)) := (h 68 (by decide)).trans (by decide +kernel)
theorem sC_69 {sh : List kd} (h : cSh sh) : sh[69]? = some (.inr (3, [none, none, none, none, some 70, some 71, some 72, some 73])) := (h 69 (by decide)).trans (by decide +kernel)
theorem sC_70 {sh : List kd} (h : cSh sh) : sh[70]? = some (.inl (.int, 6)) := (h 70 (by decide)).trans (by decide +kernel)
theorem sC_71 {sh : List kd} (h : cSh sh) : sh[71]? = some (.inl (.int, 6)) := (h 71 (by decide)).trans (by decide +kernel)
theorem sC_72 {sh : List kd} (h : cSh sh) : sh[72]? = some (.inl (.int, 6)) := (h 72 (by decide)).trans (by decide +kernel)
theorem sC_73 {sh : List kd} (h : cSh sh) : sh[73]? = some (.inl (.int, 6)) := (h 73 (by decide)).trans (by decide +kernel)
theorem sC_74 {sh : List kd} (h : cSh sh) : sh[74]? = some (.inr (3, [none, none, none, none, some 75, some 76, some 77, some 78])) := (h 74 (by decide)).trans (by decide +kernel)
theorem sC_75 {sh : List kd} (h : cSh sh) : sh[75]? = some (.inl (.int, 6)) := (h 75 (by decide)).trans (by decide +kernel)
theorem sC_76 {sh : List kd} (h : cSh sh) : sh[76]? = some (.inl (.int, 6)) := (h 76 (by decide)).trans (by decide +kernel)
theorem sC_77 {sh : List kd} (h : cSh sh) : sh[77]? = some (.inl (.int, 6)) := (h 77 (by decide)).trans (by decide +kernel)
theorem sC_78 {sh : List kd} (h : cSh sh) : sh[78]? = some (.inl (.int, 6)) := (h 78 (by decide)).trans (by decide +kernel)
theorem sC_79 {sh : List kd} (h : cSh sh) : sh[79]? = some (.inr (3, [none, none, none, none, some 80, some 81, some 82, some 83])) := (h 79 (by decide)).trans (by decide +kernel)
theorem sC_80 {sh : List kd} (h : cSh sh) : sh[80]? = some (.inl (.int, 6)) := (h 80 (by decide)).trans (by decide +kernel)
theorem sC_81 {sh : List kd} (h : cSh sh) : sh[81]? = some (.inl (.int, 6)) := (h 81 (by decide)).trans (by decide +kernel)
theorem sC_82 {sh : List kd} (h : cSh sh) : sh[82]? = some (.inl (.int, 6)) := (h 82 (by decide)).trans (by decide +kernel)
theorem sC_83 {sh : List kd} (h : cSh sh) : sh[83]? = some (.inl (.int, 6)) := (h 83 (by decide)).trans (by decide +kernel)
theorem sC_84 {sh : List kd} (h : cSh sh) : sh[84]? = some (.inr (3, [none, none, none, none, some 85, some 86, some 87, some 88])) := (h 84 (by decide)).trans (by decide +kernel)
theorem sC_85 {sh : List kd} (h : cSh sh) : sh[85]? = some (.inl (.int, 6)) := (h 85 (by decide)).trans (by decide +kernel)
theorem sC_86 {sh : List kd} (h : cSh sh) : sh[86]? = some (.inl (.int, 6)) := (h 86 (by decide)).trans (by decide +kernel)
theorem sC_87 {sh : List kd} (h : cSh sh) : sh[87]? = some (.inl (.int, 6)) := (h 87 (by decide)).trans (by decide +kernel)
theorem sC_88 {sh : List kd} (h : cSh sh) : sh[88]? = some (.inl (.int, 6)) := (h 88 (by decide)).trans (by decide +kernel)
theorem sC_89 {sh : List kd} (h : cSh sh) : sh[89]? = some (.inr (3, [none, none, none, none, some 90, some 91, some 92, some 93])) := (h 89 (by decide)).trans (by decide +kernel)
theorem sC_90 {sh : List kd} (h : cSh sh) : sh[90]? = some (.inl (.int, 6)) := (h 90 (by decide)).trans (by decide +kernel)
theorem sC_91 {sh : List kd} (h : cSh sh) : sh[91]? = some (.inl (.int, 6)) := (h 91 (by decide)).trans (by decide +kernel)
theorem sC_92 {sh : List kd} (h : cSh sh) : sh[92]? = some (.inl (.int, 6)) := (h 92 (by decide)).trans (by decide +kernel)
theorem sC_93 {sh : List kd} (h : cSh sh) : sh[93]? = some (.inl (.int, 6)) := (h 93 (by decide)).trans (by decide +kernel)
theorem sC_94 {sh : List kd} (h : cSh sh) : sh[94]? = some (.inr (3, [none, none, none, none, some 95, some 96, some 97, some 98])) := (h 94 (by decide)).trans (by decide +kernel)
theorem sC_95 {sh : List kd} (h : cSh sh) : sh[95]? = some (.inl (.int, 6)) := (h 95 (by decide)).trans (by decide +kernel)
theorem sC_96 {sh : List kd} (h : cSh sh) : sh[96]? = some (.inl (.int, 6)) := (h 96 (by decide)).trans (by decide +kernel)
theorem sC_97 {sh : List kd} (h : cSh sh) : sh[97]? = some (.inl (.int, 6)) := (h 97 (by decide)).trans (by decide +kernel)
theorem sC_98 {sh : List kd} (h : cSh sh) : sh[98]? = some (.inl (.int, 6)) := (h 98 (by decide)).trans (by decide +kernel)
theorem sC_99 {sh : List kd} (h : cSh sh) : sh[99]? = some (.inr (3, [none, none, none, none, some 100, some 101, some 102, some 103])) := (h 99 (by decide)).trans (by decide +kernel)
theorem sC_100 {sh : List kd} (h : cSh sh) : sh[100]? = some (.inl (.int, 6)) := (h 100 (by decide)).trans (by decide +kernel)
theorem sC_101 {sh : List kd} (h : cSh sh) : sh[101]? = some (.inl (.int, 6)) := (h 101 (by decide)).trans (by decide +kernel)
theorem sC_102 {sh : List kd} (h : cSh sh) : sh[102]? = some (.inl (.int, 6)) := (h 102 (by decide)).trans (by decide +kernel)
theorem sC_103 {sh : List kd} (h : cSh sh) : sh[103]? = some (.inl (.int, 6)) := (h 103 (by decide)).trans (by decide +kernel)
theorem sC_104 {sh : List kd} (h : cSh sh) : sh[104]? = some (.inr (3, [none, none, none, none, some 105, some 106, some 107, some 108])) := (h 104 (by decide)).trans (by decide +kernel)
theorem sC_105 {sh : List kd} (h : cSh sh) : sh[105]? = some (.inl (.int, 6)) := (h 105 (by decide)).trans (by decide +kernel)
theorem sC_106 {sh : List kd} (h : cSh sh) : sh[106]? = some (.inl (.int, 6)) := (h 106 (by decide)).trans (by decide +kernel)
theorem sC_107 {sh : List kd} (h : cSh sh) : sh[107]? = some (.inl (.int, 6)) := (h 107 (by decide)).trans (by decide +kernel)
theorem sC_108 {sh : List kd} (h : cSh sh) : sh[108]? = some (.inl (.int, 6)) := (h 108 (by decide)).trans (by decide +kernel)
theorem sC_109 {sh : List kd} (h : cSh sh) : sh[109]? = some (.inr (3, [none, none, none, none, some 110, some 111, some 112, some 113])) := (h 109 (by decide)).trans (by decide +kernel)
theorem sC_110 {sh : List kd} (h : cSh sh) : sh[110]? = some (.inl (.int, 6)) := (h 110 (by decide)).trans (by decide +kernel)
theorem sC_111 {sh : List kd} (h : cSh sh) : sh[111]? = some (.inl (.int, 6)) := (h 111 (by decide)).trans (by decide +kernel)
theorem sC_112 {sh : List kd} (h : cSh sh) : sh[112]? = some (.inl (.int, 6)) := (h 112 (by decide)).trans (by decide +kernel)
theorem sC_113 {sh : List kd} (h : cSh sh) : sh[113]? = some (.inl (.int, 6)) := (h 113 (by decide)).trans (by decide +kernel)
theorem sC_114 {sh : List kd} (h : cSh sh) : sh[114]? = some (.inr (3, [none, none, none, none, some 115, some 116, some 117, some 118])) := (h 114 (by decide)).trans (by decide +kernel)
theorem sC_115 {sh : List kd} (h : cSh sh) : sh[115]? = some (.inl (.int, 6)) := (h 115 (by decide)).trans (by decide +kernel)
theorem sC_116 {sh : List kd} (h : cSh sh) : sh[116]? = some (.inl (.int, 6)) := (h 116 (by decide)).trans (by decide +kernel)
theorem sC_117 {sh : List kd} (h : cSh sh) : sh[117]? = some (.inl (.int, 6)) := (h 117 (by decide)).trans (by decide +kernel)
theorem sC_118 {sh : List kd} (h : cSh sh) : sh[118]? = some (.inl (.int, 6)) := (h 118 (by decide)).trans (by decide +kernel)
theorem sC_119 {sh : List kd} (h : cSh sh) : sh[119]? = some (.inr (3, [none, none, none, none, some 120, some 121, some 122, some 123])) := (h 119 (by decide)).trans (by decide +kernel)
theorem sC_120 {sh : List kd} (h : cSh sh) : sh[120]? = some (.inl (.int, 6)) := (h 120 (by decide)).trans (by decide +kernel)
theorem sC_121 {sh : List kd} (h : cSh sh) : sh[121]? = some (.inl (.int, 6)) := (h 121 (by decide)).trans (by decide +kernel)
theorem sC_122 {sh : List kd} (h : cSh sh) : sh[122]? = some (.inl (.int, 6)) := (h 122 (by decide)).trans (by decide +kernel)
theorem sC_123 {sh : List kd} (h : cSh sh) : sh[123]? = some (.inl (.int, 6)) := (h 123 (by decide)).trans (by decide +kernel)
theorem sC_124 {sh : List kd} (h : cSh sh) : sh[124]? = some (.inr (3, [none, none, none, none, some 125, some 126, some 127, some 128])) := (h 124 (by decide)).trans (by decide +kernel)
theorem sC_125 {sh : List kd} (h : cSh sh) : sh[125]? = some (.inl (.int, 6)) := (h 125 (by decide)).trans (by decide +kernel)
theorem sC_126 {sh : List kd} (h : cSh sh) : sh[126]? = some (.inl (.int, 6)) := (h 126 (by decide)).trans (by decide +kernel)
theorem sC_127 {sh : List kd} (h : cSh sh) : sh[127]? = some (.inl (.int, 6)) := (h 127 (by decide)).trans (by decide +kernel)
theorem sC_128 {sh : List kd} (h : cSh sh) : sh[128]? = some (.inl (.int, 6)) := (h 128 (by decide)).trans (by decide +kernel)
theorem sC_129 {sh : List kd} (h : cSh sh) : sh[129]? = some (.inr (3, [none, none, none, none, some 130, some 131, some 132, some 133])) := (h 129 (by decide)).trans (by decide +kernel)
theorem sC_130 {sh : List kd} (h : cSh sh) : sh[130]? = some (.inl (.int, 6)) := (h 130 (by decide)).trans (by decide +kernel)
theorem sC_131 {sh : List kd} (h : cSh sh) : sh[131]? = some (.inl (.int, 6)) := (h 131 (by decide)).trans (by decide +kernel)
theorem sC_132 {sh : List kd} (h : cSh sh) : sh[132]? = some (.inl (.int, 6)) := (h 132 (by decide)).trans (by decide +kernel)
theorem sC_133 {sh : List kd} (h : cSh sh) : sh[133]? = some (.inl (.int, 6)) := (h 133 (by decide)).trans (by decide +kernel)
theorem sC_134 {sh : List kd} (h : cSh sh) : sh[134]? = some (.inr (4, [some 19, some 16, some 135, some 140, some 141, some 142])) := (h 134 (by decide)).trans (by decide +kernel)
theorem sC_135 {sh : List kd} (h : cSh sh) : sh[135]? = some (.inr (3, [none, none, none, none, some 136, some 137, some 138, some 139])) := (h 135 (by decide)).trans (by decide +kernel)
theorem sC_136 {sh : List kd} (h : cSh sh) : sh[136]? = some (.inl (.int, 6)) := (h 136 (by decide)).trans (by decide +kernel)
theorem sC_137 {sh : List kd} (h : cSh sh) : sh[137]? = some (.inl (.int, 6)) := (h 137 (by decide)).trans (by decide +kernel)
theorem sC_138 {sh : List kd} (h : cSh sh) : sh[138]? = some (.inl (.int, 6)) := (h 138 (by decide)).trans (by decide +kernel)
theorem sC_139 {sh : List kd} (h : cSh sh) : sh[139]? = some (.inl (.int, 6)) := (h 139 (by decide)).trans (by decide +kernel)
theorem sC_140 {sh : List kd} (h : cSh sh) : sh[140]? = some (.inl (.int, 66)) := (h 140 (by decide)).trans (by decide +kernel)
theorem sC_141 {sh : List kd} (h : cSh sh) : sh[141]? = some (.inl (.int, 25)) := (h 141 (by decide)).trans (by decide +kernel)
theorem sC_142 {sh : List kd} (h : cSh sh) : sh[142]? = some (.inl (.int, 25)) := (h 142 (by decide)).trans (by decide +kernel)
theorem sC_143 {sh : List kd} (h : cSh sh) : sh[143]? = some (.inr (2, [some 19, some 16, some 144, some 149, some 157, some 158, none])) := (h 143 (by decide)).trans (by decide +kernel)
theorem sC_144 {sh : List kd} (h : cSh sh) : sh[144]? = some (.inr (3, [none, none, none, none, some 145, some 146, some 147, some 148])) := (h 144 (by decide)).trans (by decide +kernel)
theorem sC_145 {sh : List kd} (h : cSh sh) : sh[145]? = some (.inl (.int, 6)) := (h 145 (by decide)).trans (by decide +kernel)
theorem sC_146 {sh : List kd} (h : cSh sh) : sh[146]? = some (.inl (.int, 6)) := (h 146 (by decide)).trans (by decide +kernel)
theorem sC_147 {sh : List kd} (h : cSh sh) : sh[147]? = some (.inl (.int, 6)) := (h 147 (by decide)).trans (by decide +kernel)
theorem sC_148 {sh : List kd} (h : cSh sh) : sh[148]? = some (.inl (.int, 6)) := (h 148 (by decide)).trans (by decide +kernel)
theorem sC_149 {sh : List kd} (h : cSh sh) : sh[149]? = some (.inl (.array .int, 7)) := (h 149 (by decide)).trans (by decide +kernel)
theorem sC_150 {sh : List kd} (h : cSh sh) : sh[150]? = some (.inl (.int, 61)) := (h 150 (by decide)).trans (by decide +kernel)
theorem sC_151 {sh : List kd} (h : cSh sh) : sh[151]? = some (.inl (.int, 61)) := (h 151 (by decide)).trans (by decide +kernel)
theorem sC_152 {sh : List kd} (h : cSh sh) : sh[152]? = some (.inl (.int, 61)) := (h 152 (by decide)).trans (by decide +kernel)
theorem sC_153 {sh : List kd} (h : cSh sh) : sh[153]? = some (.inl (.int, 61)) := (h 153 (by decide)).trans (by decide +kernel)
theorem sC_154 {sh : List kd} (h : cSh sh) : sh[154]? = some (.inl (.int, 61)) := (h 154 (by decide)).trans (by decide +kernel)
theorem sC_155 {sh : List kd} (h : cSh sh) : sh[155]? = some (.inl (.int, 61)) := (h 155 (by decide)).trans (by decide +kernel)
theorem sC_156 {sh : List kd} (h : cSh sh) : sh[156]? = some (.inl (.int, 61)) := (h 156 (by decide)).trans (by decide +kernel)
theorem sC_157 {sh : List kd} (h : cSh sh) : sh[157]? = some (.inl (.boolean, 7)) := (h 157 (by decide)).trans (by decide +kernel)
theorem sC_158 {sh : List kd} (h : cSh sh) : sh[158]? = some (.inl (.int, 7)) := (h 158 (by decide)).trans (by decide +kernel)
theorem sC_159 {sh : List kd} (h : cSh sh) : sh[159]? = some (.inl (.object RX10, 4)) := (h 159 (by decide)).trans (by decide +kernel)
theorem sR_0 {sh : List kd} (h : rmSh sh) : sh[0]? = some (.inr (11, [none, some 1, some 2, some 3, some 4, some 5, some 6, some 7, some 8, some 9, some 10, some 11, some 12, some 13, some 14, some 15, some 16, some 17, some 18, none, none, none, none, none, none, none, none, none, none, some 19, some 20, some 21, some 22, some 23, some 24, some 25, some 26, some 27, some 28, some 29, some 30, none, none, none, some 31, some 32, some 33, some 34, some 35, some 36, some 37, none, none])) := (h 0 (by decide)).trans (by decide +kernel)
theorem sR_1 {sh : List kd} (h : rmSh sh) : sh[1]? = some (.inl (.int, 11)) := (h 1 (by decide)).trans (by decide +kernel)
theorem sR_2 {sh : List kd} (h : rmSh sh) : sh[2]? = some (.inl (.int, 6)) := (h 2 (by decide)).trans (by decide +kernel)
theorem sR_3 {sh : List kd} (h : rmSh sh) : sh[3]? = some (.inl (.int, 6)) := (h 3 (by decide)).trans (by decide +kernel)
theorem sR_4 {sh : List kd} (h : rmSh sh) : sh[4]? = some (.inl (.int, 6)) := (h 4 (by decide)).trans (by decide +kernel)
theorem sR_5 {sh : List kd} (h : rmSh sh) : sh[5]? = some (.inl (.int, 12)) := (h 5 (by decide)).trans (by decide +kernel)
theorem sR_6 {sh : List kd} (h : rmSh sh) : sh[6]? = some (.inl (.int, 6)) := (h 6 (by decide)).trans (by decide +kernel)
theorem sR_7 {sh : List kd} (h : rmSh sh) : sh[7]? = some (.inl (.int, 6)) := (h 7 (by decide)).trans (by decide +kernel)
theorem sR_8 {sh : List kd} (h : rmSh sh) : sh[8]? = some (.inl (.int, 6)) := (h 8 (by decide)).trans (by decide +kernel)
theorem sR_9 {sh : List kd} (h : rmSh sh) : sh[9]? = some (.inl (.int, 6)) := (h 9 (by decide)).trans (by decide +kernel)
theorem sR_10 {sh : List kd} (h : rmSh sh) : sh[10]? = some (.inl (.int, 10)) := (h 10 (by decide)).trans (by decide +kernel)
theorem sR_11 {sh : List kd} (h : rmSh sh) : sh[11]? = some (.inl (.int, 10)) := (h 11 (by decide)).trans (by decide +kernel)
theorem sR_12 {sh : List kd} (h : rmSh sh) : sh[12]? = some (.inl (.int, 6)) := (h 12 (by decide)).trans (by decide +kernel)
theorem sR_13 {sh : List kd} (h : rmSh sh) : sh[13]? = some (.inl (.int, 4)) := (h 13 (by decide)).trans (by decide +kernel)
theorem sR_14 {sh : List kd} (h : rmSh sh) : sh[14]? = some (.inl (.int, 6)) := (h 14 (by decide)).trans (by decide +kernel)
theorem sR_15 {sh : List kd} (h : rmSh sh) : sh[15]? = some (.inl (.int, 6)) := (h 15 (by decide)).trans (by decide +kernel)
theorem sR_16 {sh : List kd} (h : rmSh sh) : sh[16]? = some (.inl (.int, 12)) := (h 16 (by decide)).trans (by decide +kernel)
theorem sR_17 {sh : List kd} (h : rmSh sh) : sh[17]? = some (.inl (.int, 6)) := (h 17 (by decide)).trans (by decide +kernel)
theorem sR_18 {sh : List kd} (h : rmSh sh) : sh[18]? = some (.inl (.int, 6)) := (h 18 (by decide)).trans (by decide +kernel)
theorem sR_19 {sh : List kd} (h : rmSh sh) : sh[19]? = some (.inl (.byte, 400)) := (h 19 (by decide)).trans (by decide +kernel)
theorem sR_20 {sh : List kd} (h : rmSh sh) : sh[20]? = some (.inl (.int, 1800)) := (h 20 (by decide)).trans (by decide +kernel)
theorem sR_21 {sh : List kd} (h : rmSh sh) : sh[21]? = some (.inl (.int, 1800)) := (h 21 (by decide)).trans (by decide +kernel)
theorem sR_22 {sh : List kd} (h : rmSh sh) : sh[22]? = some (.inl (.int, 6)) := (h 22 (by decide)).trans (by decide +kernel)
theorem sR_23 {sh : List kd} (h : rmSh sh) : sh[23]? = some (.inl (.int, 72)) := (h 23 (by decide)).trans (by decide +kernel)
theorem sR_24 {sh : List kd} (h : rmSh sh) : sh[24]? = some (.inl (.int, 72)) := (h 24 (by decide)).trans (by decide +kernel)
theorem sR_25 {sh : List kd} (h : rmSh sh) : sh[25]? = some (.inl (.int, 72)) := (h 25 (by decide)).trans (by decide +kernel)
theorem sR_26 {sh : List kd} (h : rmSh sh) : sh[26]? = some (.inl (.int, 402)) := (h 26 (by decide)).trans (by decide +kernel)
theorem sR_27 {sh : List kd} (h : rmSh sh) : sh[27]? = some (.inl (.long, 12)) := (h 27 (by decide)).trans (by decide +kernel)
theorem sR_28 {sh : List kd} (h : rmSh sh) : sh[28]? = some (.inl (.long, 300)) := (h 28 (by decide)).trans (by decide +kernel)
theorem sR_29 {sh : List kd} (h : rmSh sh) : sh[29]? = some (.inl (.int, 560)) := (h 29 (by decide)).trans (by decide +kernel)
theorem sR_30 {sh : List kd} (h : rmSh sh) : sh[30]? = some (.inl (.int, 1)) := (h 30 (by decide)).trans (by decide +kernel)
theorem sR_31 {sh : List kd} (h : rmSh sh) : sh[31]? = some (.inl (.int, 6)) := (h 31 (by decide)).trans (by decide +kernel)
theorem sR_32 {sh : List kd} (h : rmSh sh) : sh[32]? = some (.inl (.int, 25)) := (h 32 (by decide)).trans (by decide +kernel)
theorem sR_33 {sh : List kd} (h : rmSh sh) : sh[33]? = some (.inl (.int, 25)) := (h 33 (by decide)).trans (by decide +kernel)
theorem sR_34 {sh : List kd} (h : rmSh sh) : sh[34]? = some (.inl (.int, 66)) := (h 34 (by decide)).trans (by decide +kernel)
theorem sR_35 {sh : List kd} (h : rmSh sh) : sh[35]? = some (.inl (.int, 427)) := (h 35 (by decide)).trans (by decide +kernel)
theorem sR_36 {sh : List kd} (h : rmSh sh) : sh[36]? = some (.inl (.int, 3500)) := (h 36 (by decide)).trans (by decide +kernel)
theorem sR_37 {sh : List kd} (h : rmSh sh) : sh[37]? = some (.inl (.boolean, 4)) := (h 37 (by decide)).trans (by decide +kernel)
abbrev lSh (sh : List kd) (a : Nat) : Prop := sh[a]? = some (.inr (3, [none, none, none, none, some (a + 1), some (a + 2), some (a + 3), some (a + 4)])) ∧ sh[a + 1]? = some (.inl (.int, 6)) ∧ sh[a + 2]? = some (.inl (.int, 6)) ∧ sh[a + 3]? = some (.inl (.int, 6)) ∧ sh[a + 4]? = some (.inl (.int, 6))
abbrev rSh (sh : List kd) (a : Nat) : Prop := sh[a]? = some (.inr (5, [none, none, none, none, none, some (a + 1), some (a + 2), some (a + 3), some (a + 4), some (a + 5)])) ∧ sh[a + 1]? = some (.inl (.int, 6)) ∧ sh[a + 2]? = some (.inl (.int, 6)) ∧ sh[a + 3]? = some (.inl (.int, 12)) ∧ sh[a + 4]? = some (.inl (.int, 6)) ∧ sh[a + 5]? = some (.inl (.int, 6))
abbrev wSh (sh : List kd) (a : Nat) : Prop := sh[a]? = some (.inr (9, [some (a + 1), some (a + 7), some (a + 12), none, none, some (a + 13), some (a + 14), none, none, none])) ∧ rSh sh (a + 1) ∧ lSh sh (a + 7) ∧ sh[a + 12]? = some (.inl (.object RX4, 20)) ∧ sh[a + 13]? = some (.inl (.int, 10)) ∧ sh[a + 14]? = some (.inl (.int, 10))
abbrev uSh (sh : List kd) (a : Nat) : Prop := sh[a]? = some (.inr (6, [some (a + 1), some (a + 2), some (a + 3), some (a + 4)]))
theorem rShB_3 {sh : List kd} (h : cSh sh) : rSh sh 3 := ⟨sC_3 h, sC_4 h, sC_5 h, sC_6 h, sC_7 h, sC_8 h⟩
theorem rShB_20 {sh : List kd} (h : cSh sh) : rSh sh 20 := ⟨sC_20 h, sC_21 h, sC_22 h, sC_23 h, sC_24 h, sC_25 h⟩
theorem lShB_26 {sh : List kd} (h : cSh sh) : lSh sh 26 := ⟨sC_26 h, sC_27 h, sC_28 h, sC_29 h, sC_30 h⟩
theorem lShB_34 {sh : List kd} (h : cSh sh) : lSh sh 34 := ⟨sC_34 h, sC_35 h, sC_36 h, sC_37 h, sC_38 h⟩
theorem lShB_39 {sh : List kd} (h : cSh sh) : lSh sh 39 := ⟨sC_39 h, sC_40 h, sC_41 h, sC_42 h, sC_43 h⟩
theorem lShB_44 {sh : List kd} (h : cSh sh) : lSh sh 44 := ⟨sC_44 h, sC_45 h, sC_46 h, sC_47 h, sC_48 h⟩
theorem lShB_49 {sh : List kd} (h : cSh sh) : lSh sh 49 := ⟨sC_49 h, sC_50 h, sC_51 h, sC_52 h, sC_53 h⟩
theorem lShB_54 {sh : List kd} (h : cSh sh) : lSh sh 54 := ⟨sC_54 h, sC_55 h, sC_56 h, sC_57 h, sC_58 h⟩
theorem lShB_59 {sh : List kd} (h : cSh sh) : lSh sh 59 := ⟨sC_59 h, sC_60 h, sC_61 h, sC_62 h, sC_63 h⟩
theorem lShB_64 {sh : List kd} (h : cSh sh) : lSh sh 64 := ⟨sC_64 h, sC_65 h, sC_66 h, sC_67 h, sC_68 h⟩
theorem lShB_69 {sh : List kd} (h : cSh sh) : lSh sh 69 := ⟨sC_69 h, sC_70 h, sC_71 h, sC_72 h, sC_73 h⟩
theorem lShB_74 {sh : List kd} (h : cSh sh) : lSh sh 74 := ⟨sC_74 h, sC_75 h, sC_76 h, sC_77 h, sC_78 h⟩
theorem lShB_79 {sh : List kd} (h : cSh sh) : lSh sh 79 := ⟨sC_79 h, sC_80 h, sC_81 h, sC_82 h, sC_83 h⟩
theorem lShB_84 {sh : List kd} (h : cSh sh) : lSh sh 84 := ⟨sC_84 h, sC_85 h, sC_86 h, sC_87 h, sC_88 h⟩
theorem lShB_89 {sh : List kd} (h : cSh sh) : lSh sh 89 := ⟨sC_89 h, sC_90 h, sC_91 h, sC_92 h, sC_93 h⟩
theorem lShB_94 {sh : List kd} (h : cSh sh) : lSh sh 94 := ⟨sC_94 h, sC_95 h, sC_96 h, sC_97 h, sC_98 h⟩
theorem lShB_99 {sh : List kd} (h : cSh sh) : lSh sh 99 := ⟨sC_99 h, sC_100 h, sC_101 h, sC_102 h, sC_103 h⟩
theorem lShB_104 {sh : List kd} (h : cSh sh) : lSh sh 104 := ⟨sC_104 h, sC_105 h, sC_106 h, sC_107 h, sC_108 h⟩
theorem lShB_109 {sh : List kd} (h : cSh sh) : lSh sh 109 := ⟨sC_109 h, sC_110 h, sC_111 h, sC_112 h, sC_113 h⟩
theorem lShB_114 {sh : List kd} (h : cSh sh) : lSh sh 114 := ⟨sC_114 h, sC_115 h, sC_116 h, sC_117 h, sC_118 h⟩
theorem lShB_119 {sh : List kd} (h : cSh sh) : lSh sh 119 := ⟨sC_119 h, sC_120 h, sC_121 h, sC_122 h, sC_123 h⟩
theorem lShB_124 {sh : List kd} (h : cSh sh) : lSh sh 124 := ⟨sC_124 h, sC_125 h, sC_126 h, sC_127 h, sC_128 h⟩
theorem lShB_129 {sh : List kd} (h : cSh sh) : lSh sh 129 := ⟨sC_129 h, sC_130 h, sC_131 h, sC_132 h, sC_133 h⟩
theorem lShB_135 {sh : List kd} (h : cSh sh) : lSh sh 135 := ⟨sC_135 h, sC_136 h, sC_137 h, sC_138 h, sC_139 h⟩
theorem lShB_144 {sh : List kd} (h : cSh sh) : lSh sh 144 := ⟨sC_144 h, sC_145 h, sC_146 h, sC_147 h, sC_148 h⟩
theorem wShB_19 {sh : List kd} (h : cSh sh) : wSh sh 19 := ⟨sC_19 h, rShB_20 h, lShB_26 h, sC_31 h, sC_32 h, sC_33 h⟩
theorem i_some_inj {α β : Type} {a c : α} {b d : β} (h : some (a, b) = some (c, d)) : a = c ∧ b = d := Prod.mk.inj (Option.some.inj h)
theorem i_lko {x : Int32} {o1 o2 d : Int} (h1 : ¬ x = 1) (h3 : ¬ x = 3) : Op.lookupswitch.offset [((1 : Int), o1), (3, o2)] d x.toInt = d := by
  rw [Op.lookupswitch.offset_cons, if_neg (fun h => h1 (Int32.toInt_inj.mp h.symm)), Op.lookupswitch.offset_cons, if_neg (fun h => h3 (Int32.toInt_inj.mp h.symm)), Op.lookupswitch.offset_nil]
theorem i_tabo {x : Int32} (lo hi : Nat) (hh : hi < 2 ^ 31) (h : ∀ k : Nat, lo ≤ k → k ≤ hi → x ≠ Int32.ofNat k) : x.toInt < (lo : Int) ∨ (hi : Int) < x.toInt := by
  by_cases h1 : x.toInt < (lo : Int)
  · exact Or.inl h1
  · by_cases h2 : (hi : Int) < x.toInt
    · exact Or.inr h2
    · exfalso
      refine h x.toInt.toNat (by omega) (by omega) ?_
      apply Int32.toInt_inj.mp
      rw [show Int32.ofNat x.toInt.toNat = nI x.toInt.toNat from rfl, nI_toInt (by omega)]
      omega
