/-! all cells of the system once both are made -/
def SH : pm_S := [.inr (8, [some (.ref 1), some (.ref 13), some (.ref 25), some (.ref 37), some (.ref 42), some (.ref 44), some (.ref 45), some (.ref 48)]), .inr (7, [some (.ref 2), some (.ref 7), some (.ref 10), none]), .inr (1, [some (.ref 3), some (.ref 4), some (.ref 5), some (.ref 6), none]), .inl (0, 49), .inl (0, 49), .inl (0, 7), .inl (0, 7), .inr (0, [some (.ref 8), some (.ref 9)]), .inl (0, 8), .inl (0, 32), .inr (5, [some (.ref 11), some (.ref 12), none, none]), .inl (0, 410), .inl (0, 101), .inr (7, [some (.ref 14), some (.ref 19), some (.ref 22), none]), .inr (1, [some (.ref 15), some (.ref 16), some (.ref 17), some (.ref 18), none]), .inl (0, 49), .inl (0, 49), .inl (0, 7), .inl (0, 7), .inr (0, [some (.ref 20), some (.ref 21)]), .inl (0, 8), .inl (0, 32), .inr (5, [some (.ref 23), some (.ref 24), none, none]), .inl (0, 410), .inl (0, 101), .inr (7, [some (.ref 26), some (.ref 31), some (.ref 34), none]), .inr (1, [some (.ref 27), some (.ref 28), some (.ref 29), some (.ref 30), none]), .inl (0, 49), .inl (0, 49), .inl (0, 7), .inl (0, 7), .inr (0, [some (.ref 32), some (.ref 33)]), .inl (0, 8), .inl (0, 32), .inr (5, [some (.ref 35), some (.ref 36), none, none]), .inl (0, 410), .inl (0, 101), .inr (1, [some (.ref 38), some (.ref 39), some (.ref 40), some (.ref 41), none]), .inl (0, 49), .inl (0, 49), .inl (0, 7), .inl (0, 7), .inr (2, [some (.ref 43), none]), .inl (0, 60), .inr (6, [none, none, none, none, none, none]), .inr (4, [some (.ref 46), some (.ref 47)]), .inl (0, 49), .inl (0, 896), .inr (3, [some (.ref 49)]), .inl (0, 61), .inr (9, [some (.ref 51), some (.ref 52), some (.ref 53), some (.ref 54), none, some (.ref 55), none, some (.ref 56), none, none, none, some (.ref 57), none, none, some (.ref 58), some (.ref 59), some (.ref 60), some (.ref 61), some (.ref 62), some (.ref 63), some (.ref 64), some (.ref 65), some (.ref 66), some (.ref 67)]), .inl (0, 64), .inl (0, 64), .inl (0, 49), .inl (0, 32), .inl (0, 24), .inl (0, 60), .inl (0, 49), .inl (0, 49), .inl (0, 896), .inl (0, 4), .inl (0, 4), .inl (0, 4), .inl (0, 410), .inl (0, 61), .inl (1, 64), .inl (0, 360), .inl (1, 2)]
theorem sh_0 : SH[0]? = some (.inr (8, [some (.ref 1), some (.ref 13), some (.ref 25), some (.ref 37), some (.ref 42), some (.ref 44), some (.ref 45), some (.ref 48)])) := rfl
theorem sh_1 : SH[1]? = some (.inr (7, [some (.ref 2), some (.ref 7), some (.ref 10), none])) := rfl
theorem sh_2 : SH[2]? = some (.inr (1, [some (.ref 3), some (.ref 4), some (.ref 5), some (.ref 6), none])) := rfl
theorem sh_3 : SH[3]? = some (.inl (0, 49)) := rfl
theorem sh_4 : SH[4]? = some (.inl (0, 49)) := rfl
theorem sh_5 : SH[5]? = some (.inl (0, 7)) := rfl
theorem sh_6 : SH[6]? = some (.inl (0, 7)) := rfl
theorem sh_7 : SH[7]? = some (.inr (0, [some (.ref 8), some (.ref 9)])) := rfl
theorem sh_8 : SH[8]? = some (.inl (0, 8)) := rfl
theorem sh_9 : SH[9]? = some (.inl (0, 32)) := rfl
theorem sh_10 : SH[10]? = some (.inr (5, [some (.ref 11), some (.ref 12), none, none])) := rfl
theorem sh_11 : SH[11]? = some (.inl (0, 410)) := rfl
theorem sh_12 : SH[12]? = some (.inl (0, 101)) := rfl
theorem sh_13 : SH[13]? = some (.inr (7, [some (.ref 14), some (.ref 19), some (.ref 22), none])) := rfl
theorem sh_14 : SH[14]? = some (.inr (1, [some (.ref 15), some (.ref 16), some (.ref 17), some (.ref 18), none])) := rfl
theorem sh_15 : SH[15]? = some (.inl (0, 49)) := rfl
theorem sh_16 : SH[16]? = some (.inl (0, 49)) := rfl
theorem sh_17 : SH[17]? = some (.inl (0, 7)) := rfl
theorem sh_18 : SH[18]? = some (.inl (0, 7)) := rfl
theorem sh_19 : SH[19]? = some (.inr (0, [some (.ref 20), some (.ref 21)])) := rfl
theorem sh_20 : SH[20]? = some (.inl (0, 8)) := rfl
theorem sh_21 : SH[21]? = some (.inl (0, 32)) := rfl
theorem sh_22 : SH[22]? = some (.inr (5, [some (.ref 23), some (.ref 24), none, none])) := rfl
theorem sh_23 : SH[23]? = some (.inl (0, 410)) := rfl
theorem sh_24 : SH[24]? = some (.inl (0, 101)) := rfl
theorem sh_25 : SH[25]? = some (.inr (7, [some (.ref 26), some (.ref 31), some (.ref 34), none])) := rfl
theorem sh_26 : SH[26]? = some (.inr (1, [some (.ref 27), some (.ref 28), some (.ref 29), some (.ref 30), none])) := rfl
theorem sh_27 : SH[27]? = some (.inl (0, 49)) := rfl
theorem sh_28 : SH[28]? = some (.inl (0, 49)) := rfl
theorem sh_29 : SH[29]? = some (.inl (0, 7)) := rfl
theorem sh_30 : SH[30]? = some (.inl (0, 7)) := rfl
theorem sh_31 : SH[31]? = some (.inr (0, [some (.ref 32), some (.ref 33)])) := rfl
theorem sh_32 : SH[32]? = some (.inl (0, 8)) := rfl
theorem sh_33 : SH[33]? = some (.inl (0, 32)) := rfl
theorem sh_34 : SH[34]? = some (.inr (5, [some (.ref 35), some (.ref 36), none, none])) := rfl
theorem sh_35 : SH[35]? = some (.inl (0, 410)) := rfl
theorem sh_36 : SH[36]? = some (.inl (0, 101)) := rfl
theorem sh_37 : SH[37]? = some (.inr (1, [some (.ref 38), some (.ref 39), some (.ref 40), some (.ref 41), none])) := rfl
theorem sh_38 : SH[38]? = some (.inl (0, 49)) := rfl
theorem sh_39 : SH[39]? = some (.inl (0, 49)) := rfl
theorem sh_40 : SH[40]? = some (.inl (0, 7)) := rfl
theorem sh_41 : SH[41]? = some (.inl (0, 7)) := rfl
theorem sh_42 : SH[42]? = some (.inr (2, [some (.ref 43), none])) := rfl
theorem sh_43 : SH[43]? = some (.inl (0, 60)) := rfl
theorem sh_44 : SH[44]? = some (.inr (6, [none, none, none, none, none, none])) := rfl
theorem sh_45 : SH[45]? = some (.inr (4, [some (.ref 46), some (.ref 47)])) := rfl
theorem sh_46 : SH[46]? = some (.inl (0, 49)) := rfl
theorem sh_47 : SH[47]? = some (.inl (0, 896)) := rfl
theorem sh_48 : SH[48]? = some (.inr (3, [some (.ref 49)])) := rfl
theorem sh_49 : SH[49]? = some (.inl (0, 61)) := rfl
theorem sh_50 : SH[50]? = some (.inr (9, [some (.ref 51), some (.ref 52), some (.ref 53), some (.ref 54), none, some (.ref 55), none, some (.ref 56), none, none, none, some (.ref 57), none, none, some (.ref 58), some (.ref 59), some (.ref 60), some (.ref 61), some (.ref 62), some (.ref 63), some (.ref 64), some (.ref 65), some (.ref 66), some (.ref 67)])) := rfl
theorem sh_51 : SH[51]? = some (.inl (0, 64)) := rfl
theorem sh_52 : SH[52]? = some (.inl (0, 64)) := rfl
theorem sh_53 : SH[53]? = some (.inl (0, 49)) := rfl
theorem sh_54 : SH[54]? = some (.inl (0, 32)) := rfl
theorem sh_55 : SH[55]? = some (.inl (0, 24)) := rfl
theorem sh_56 : SH[56]? = some (.inl (0, 60)) := rfl
theorem sh_57 : SH[57]? = some (.inl (0, 49)) := rfl
theorem sh_58 : SH[58]? = some (.inl (0, 49)) := rfl
theorem sh_59 : SH[59]? = some (.inl (0, 896)) := rfl
theorem sh_60 : SH[60]? = some (.inl (0, 4)) := rfl
theorem sh_61 : SH[61]? = some (.inl (0, 4)) := rfl
theorem sh_62 : SH[62]? = some (.inl (0, 4)) := rfl
theorem sh_63 : SH[63]? = some (.inl (0, 410)) := rfl
theorem sh_64 : SH[64]? = some (.inl (0, 61)) := rfl
theorem sh_65 : SH[65]? = some (.inl (1, 64)) := rfl
theorem sh_66 : SH[66]? = some (.inl (0, 360)) := rfl
theorem sh_67 : SH[67]? = some (.inl (1, 2)) := rfl
def is_X1 (sh : pm_S) (b : Nat) : Prop := sh[b]? = some (.inr (0, [some (.ref (b + 1)), some (.ref (b + 2))])) ∧ sh[b + 1]? = some (.inl (0, 8)) ∧ sh[b + 2]? = some (.inl (0, 32))
def is_X2 (sh : pm_S) (b : Nat) : Prop := sh[b]? = some (.inr (1, [some (.ref (b + 1)), some (.ref (b + 2)), some (.ref (b + 3)), some (.ref (b + 4)), none])) ∧ sh[b + 1]? = some (.inl (0, 49)) ∧ sh[b + 2]? = some (.inl (0, 49)) ∧ sh[b + 3]? = some (.inl (0, 7)) ∧ sh[b + 4]? = some (.inl (0, 7))
def is_X6 (sh : pm_S) (b : Nat) : Prop := sh[b]? = some (.inr (5, [some (.ref (b + 1)), some (.ref (b + 2)), none, none])) ∧ sh[b + 1]? = some (.inl (0, 410)) ∧ sh[b + 2]? = some (.inl (0, 101))
def is_X8 (sh : pm_S) (b : Nat) : Prop := sh[b]? = some (.inr (7, [some (.ref (b + 1)), some (.ref (b + 6)), some (.ref (b + 9)), none])) ∧ is_X2 sh (b + 1) ∧ is_X1 sh (b + 6) ∧ is_X6 sh (b + 9)
theorem is_X2_2 : is_X2 SH 2 := ⟨rfl, rfl, rfl, rfl, rfl⟩
theorem is_X1_7 : is_X1 SH 7 := ⟨rfl, rfl, rfl⟩
theorem is_X6_10 : is_X6 SH 10 := ⟨rfl, rfl, rfl⟩
theorem is_X2_14 : is_X2 SH 14 := ⟨rfl, rfl, rfl, rfl, rfl⟩
theorem is_X1_19 : is_X1 SH 19 := ⟨rfl, rfl, rfl⟩
theorem is_X6_22 : is_X6 SH 22 := ⟨rfl, rfl, rfl⟩
theorem is_X2_26 : is_X2 SH 26 := ⟨rfl, rfl, rfl, rfl, rfl⟩
theorem is_X1_31 : is_X1 SH 31 := ⟨rfl, rfl, rfl⟩
theorem is_X6_34 : is_X6 SH 34 := ⟨rfl, rfl, rfl⟩
theorem is_X2_37 : is_X2 SH 37 := ⟨rfl, rfl, rfl, rfl, rfl⟩
theorem is_X8_1 : is_X8 SH 1 := ⟨rfl, is_X2_2, is_X1_7, is_X6_10⟩
theorem is_X8_13 : is_X8 SH 13 := ⟨rfl, is_X2_14, is_X1_19, is_X6_22⟩
theorem is_X8_25 : is_X8 SH 25 := ⟨rfl, is_X2_26, is_X1_31, is_X6_34⟩
