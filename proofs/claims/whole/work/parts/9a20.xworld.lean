/-! THE CLASS'S WORLD (written by wip/whole/gen/xside.py) -/
def xK_X : List Nat := [2, 2, 2, 2, 2, 2, 2, 2, 2, 2, 0]
theorem x_kX_0 : xK_X[0]? = some 2 := rfl
theorem x_kX_1 : xK_X[1]? = some 2 := rfl
theorem x_kX_2 : xK_X[2]? = some 2 := rfl
theorem x_kX_3 : xK_X[3]? = some 2 := rfl
theorem x_kX_4 : xK_X[4]? = some 2 := rfl
theorem x_kX_5 : xK_X[5]? = some 2 := rfl
theorem x_kX_6 : xK_X[6]? = some 2 := rfl
theorem x_kX_7 : xK_X[7]? = some 2 := rfl
theorem x_kX_8 : xK_X[8]? = some 2 := rfl
theorem x_kX_9 : xK_X[9]? = some 2 := rfl
theorem x_kX_10 : xK_X[10]? = some 0 := rfl
theorem x_lays11 : ∀ w ∈ u_ws RX11 TX11 11, w ∈ gws := gws_ps [548, 550, 552, 554, 556, 558, 560, 562, 564, 566, 568] (by decide +kernel) (by decide +kernel)
theorem x_ft11 : FT vwCl 10 := ⟨RX11, TX11, 11, tyX11, rfl, tyX11_ok, nmX11⟩
theorem x_w11_10 : FW vwCl 10 10 .int := ⟨RX11, TX11, 11, rfl, by decide +kernel, by decide +kernel⟩
def xK_Tape : List Nat := [2, 0]
theorem x_kTape_0 : xK_Tape[0]? = some 2 := rfl
theorem x_kTape_1 : xK_Tape[1]? = some 0 := rfl
theorem x_lays7 : ∀ w ∈ u_ws RX7 TX7 2, w ∈ gws := gws_ps [167, 169] (by decide +kernel) (by decide +kernel)
theorem x_ft7 : FT vwCl 7 := ⟨RX7, TX7, 2, tyX7, rfl, tyX7_ok, nmX7⟩
theorem x_w7_1 : FW vwCl 7 1 .int := ⟨RX7, TX7, 2, rfl, by decide +kernel, by decide +kernel⟩
def xK_Reader : List Nat := [2, 0, 0, 2, 0, 0, 0]
theorem x_kReader_0 : xK_Reader[0]? = some 2 := rfl
theorem x_kReader_1 : xK_Reader[1]? = some 0 := rfl
theorem x_kReader_2 : xK_Reader[2]? = some 0 := rfl
theorem x_kReader_3 : xK_Reader[3]? = some 2 := rfl
theorem x_kReader_4 : xK_Reader[4]? = some 0 := rfl
theorem x_kReader_5 : xK_Reader[5]? = some 0 := rfl
theorem x_kReader_6 : xK_Reader[6]? = some 0 := rfl
theorem x_lays4 : ∀ w ∈ u_ws RX4 TX4 7, w ∈ gws := gws_ps [332, 334, 336, 338, 340, 342, 344] (by decide +kernel) (by decide +kernel)
theorem x_ft4 : FT vwCl 4 := ⟨RX4, TX4, 7, tyX4, rfl, tyX4_ok, nmX4⟩
theorem x_w4_1 : FW vwCl 4 1 .int := ⟨RX4, TX4, 7, rfl, by decide +kernel, by decide +kernel⟩
theorem x_w4_2 : FW vwCl 4 2 .int := ⟨RX4, TX4, 7, rfl, by decide +kernel, by decide +kernel⟩
theorem x_w4_4 : FW vwCl 4 4 .int := ⟨RX4, TX4, 7, rfl, by decide +kernel, by decide +kernel⟩
theorem x_w4_5 : FW vwCl 4 5 .int := ⟨RX4, TX4, 7, rfl, by decide +kernel, by decide +kernel⟩
theorem x_w4_6 : FW vwCl 4 6 .int := ⟨RX4, TX4, 7, rfl, by decide +kernel, by decide +kernel⟩
def xK_Town : List Nat := [0, 0, 0, 0, 2, 2, 2, 2, 2, 2, 2, 2, 2]
theorem x_kTown_0 : xK_Town[0]? = some 0 := rfl
theorem x_kTown_1 : xK_Town[1]? = some 0 := rfl
theorem x_kTown_2 : xK_Town[2]? = some 0 := rfl
theorem x_kTown_3 : xK_Town[3]? = some 0 := rfl
theorem x_kTown_4 : xK_Town[4]? = some 2 := rfl
theorem x_kTown_5 : xK_Town[5]? = some 2 := rfl
theorem x_kTown_6 : xK_Town[6]? = some 2 := rfl
theorem x_kTown_7 : xK_Town[7]? = some 2 := rfl
theorem x_kTown_8 : xK_Town[8]? = some 2 := rfl
theorem x_kTown_9 : xK_Town[9]? = some 2 := rfl
theorem x_kTown_10 : xK_Town[10]? = some 2 := rfl
theorem x_kTown_11 : xK_Town[11]? = some 2 := rfl
theorem x_kTown_12 : xK_Town[12]? = some 2 := rfl
theorem x_lays9 : ∀ w ∈ u_ws RX9 TX9 13, w ∈ gws := gws_ps [260, 262, 264, 266, 268, 270, 272, 274, 276, 278, 280, 282, 284] (by decide +kernel) (by decide +kernel)
theorem x_ft9 : FT vwCl 9 := ⟨RX9, TX9, 13, tyX9, rfl, tyX9_ok, nmX9⟩
theorem x_w9_0 : FW vwCl 9 0 .int := ⟨RX9, TX9, 13, rfl, by decide +kernel, by decide +kernel⟩
theorem x_w9_1 : FW vwCl 9 1 .int := ⟨RX9, TX9, 13, rfl, by decide +kernel, by decide +kernel⟩
theorem x_w9_2 : FW vwCl 9 2 .int := ⟨RX9, TX9, 13, rfl, by decide +kernel, by decide +kernel⟩
theorem x_w9_3 : FW vwCl 9 3 .int := ⟨RX9, TX9, 13, rfl, by decide +kernel, by decide +kernel⟩
def xK_Rules : List Nat := [2, 2, 2, 2, 2, 0]
theorem x_kRules_0 : xK_Rules[0]? = some 2 := rfl
theorem x_kRules_1 : xK_Rules[1]? = some 2 := rfl
theorem x_kRules_2 : xK_Rules[2]? = some 2 := rfl
theorem x_kRules_3 : xK_Rules[3]? = some 2 := rfl
theorem x_kRules_4 : xK_Rules[4]? = some 2 := rfl
theorem x_kRules_5 : xK_Rules[5]? = some 0 := rfl
theorem x_lays5 : ∀ w ∈ u_ws RX5 TX5 6, w ∈ gws := gws_ps [198, 200, 202, 204, 206, 208] (by decide +kernel) (by decide +kernel)
theorem x_ft5 : FT vwCl 5 := ⟨RX5, TX5, 6, tyX5, rfl, tyX5_ok, nmX5⟩
theorem x_w5_5 : FW vwCl 5 5 .int := ⟨RX5, TX5, 6, rfl, by decide +kernel, by decide +kernel⟩
def xK_Tokens : List Nat := [2, 2, 2, 0, 3, 0, 0, 0]
theorem x_kTokens_0 : xK_Tokens[0]? = some 2 := rfl
theorem x_kTokens_1 : xK_Tokens[1]? = some 2 := rfl
theorem x_kTokens_2 : xK_Tokens[2]? = some 2 := rfl
theorem x_kTokens_3 : xK_Tokens[3]? = some 0 := rfl
theorem x_kTokens_4 : xK_Tokens[4]? = some 3 := rfl
theorem x_kTokens_5 : xK_Tokens[5]? = some 0 := rfl
theorem x_kTokens_6 : xK_Tokens[6]? = some 0 := rfl
theorem x_kTokens_7 : xK_Tokens[7]? = some 0 := rfl
theorem x_lays8 : ∀ w ∈ u_ws RX8 TX8 8, w ∈ gws := gws_ps [305, 307, 309, 311, 313, 315, 317, 319] (by decide +kernel) (by decide +kernel)
theorem x_ft8 : FT vwCl 8 := ⟨RX8, TX8, 8, tyX8, rfl, tyX8_ok, nmX8⟩
theorem x_w8_3 : FW vwCl 8 3 .int := ⟨RX8, TX8, 8, rfl, by decide +kernel, by decide +kernel⟩
theorem x_w8_4 : FW vwCl 8 4 .boolean := ⟨RX8, TX8, 8, rfl, by decide +kernel, by decide +kernel⟩
theorem x_w8_5 : FW vwCl 8 5 .int := ⟨RX8, TX8, 8, rfl, by decide +kernel, by decide +kernel⟩
theorem x_w8_6 : FW vwCl 8 6 .int := ⟨RX8, TX8, 8, rfl, by decide +kernel, by decide +kernel⟩
theorem x_w8_7 : FW vwCl 8 7 .int := ⟨RX8, TX8, 8, rfl, by decide +kernel, by decide +kernel⟩
def xK_State : List Nat := [2, 2, 2, 2, 2, 2, 2, 2, 2, 2, 2, 2, 0, 0, 2]
theorem x_kState_0 : xK_State[0]? = some 2 := rfl
theorem x_kState_1 : xK_State[1]? = some 2 := rfl
theorem x_kState_2 : xK_State[2]? = some 2 := rfl
theorem x_kState_3 : xK_State[3]? = some 2 := rfl
theorem x_kState_4 : xK_State[4]? = some 2 := rfl
theorem x_kState_5 : xK_State[5]? = some 2 := rfl
theorem x_kState_6 : xK_State[6]? = some 2 := rfl
theorem x_kState_7 : xK_State[7]? = some 2 := rfl
theorem x_kState_8 : xK_State[8]? = some 2 := rfl
theorem x_kState_9 : xK_State[9]? = some 2 := rfl
theorem x_kState_10 : xK_State[10]? = some 2 := rfl
theorem x_kState_11 : xK_State[11]? = some 2 := rfl
theorem x_kState_12 : xK_State[12]? = some 0 := rfl
theorem x_kState_13 : xK_State[13]? = some 0 := rfl
theorem x_kState_14 : xK_State[14]? = some 2 := rfl
theorem x_lays6 : ∀ w ∈ u_ws RX6 TX6 15, w ∈ gws := gws_ps [399, 401, 403, 405, 407, 409, 411, 413, 415, 417, 419, 421, 423, 425, 427] (by decide +kernel) (by decide +kernel)
theorem x_ft6 : FT vwCl 6 := ⟨RX6, TX6, 15, tyX6, rfl, tyX6_ok, nmX6⟩
theorem x_w6_12 : FW vwCl 6 12 .int := ⟨RX6, TX6, 15, rfl, by decide +kernel, by decide +kernel⟩
theorem x_w6_13 : FW vwCl 6 13 .int := ⟨RX6, TX6, 15, rfl, by decide +kernel, by decide +kernel⟩
def xK_Past : List Nat := [0, 2, 0]
theorem x_kPast_0 : xK_Past[0]? = some 0 := rfl
theorem x_kPast_1 : xK_Past[1]? = some 2 := rfl
theorem x_kPast_2 : xK_Past[2]? = some 0 := rfl
theorem x_lays2 : ∀ w ∈ u_ws RX2 TX2 3, w ∈ gws := gws_ps [443, 445, 447] (by decide +kernel) (by decide +kernel)
theorem x_ft2 : FT vwCl 2 := ⟨RX2, TX2, 3, tyX2, rfl, tyX2_ok, nmX2⟩
theorem x_w2_0 : FW vwCl 2 0 .int := ⟨RX2, TX2, 3, rfl, by decide +kernel, by decide +kernel⟩
theorem x_w2_2 : FW vwCl 2 2 .int := ⟨RX2, TX2, 3, rfl, by decide +kernel, by decide +kernel⟩
def xK_Matching : List Nat := [2, 2, 2, 2]
theorem x_kMatching_0 : xK_Matching[0]? = some 2 := rfl
theorem x_kMatching_1 : xK_Matching[1]? = some 2 := rfl
theorem x_kMatching_2 : xK_Matching[2]? = some 2 := rfl
theorem x_kMatching_3 : xK_Matching[3]? = some 2 := rfl
theorem x_lays1 : ∀ w ∈ u_ws RX1 TX1 4, w ∈ gws := gws_ps [462, 464, 466, 468] (by decide +kernel) (by decide +kernel)
theorem x_ft1 : FT vwCl 1 := ⟨RX1, TX1, 4, tyX1, rfl, tyX1_ok, nmX1⟩
def xK_Heard : List Nat := [0, 2, 2, 2, 2, 2, 2, 2, 2]
theorem x_kHeard_0 : xK_Heard[0]? = some 0 := rfl
theorem x_kHeard_1 : xK_Heard[1]? = some 2 := rfl
theorem x_kHeard_2 : xK_Heard[2]? = some 2 := rfl
theorem x_kHeard_3 : xK_Heard[3]? = some 2 := rfl
theorem x_kHeard_4 : xK_Heard[4]? = some 2 := rfl
theorem x_kHeard_5 : xK_Heard[5]? = some 2 := rfl
theorem x_kHeard_6 : xK_Heard[6]? = some 2 := rfl
theorem x_kHeard_7 : xK_Heard[7]? = some 2 := rfl
theorem x_kHeard_8 : xK_Heard[8]? = some 2 := rfl
theorem x_lays0 : ∀ w ∈ u_ws RX0 TX0 9, w ∈ gws := gws_ps [488, 490, 492, 494, 496, 498, 500, 502, 504] (by decide +kernel) (by decide +kernel)
theorem x_ft0 : FT vwCl 0 := ⟨RX0, TX0, 9, tyX0, rfl, tyX0_ok, nmX0⟩
theorem x_w0_0 : FW vwCl 0 0 .int := ⟨RX0, TX0, 9, rfl, by decide +kernel, by decide +kernel⟩
def xK_Picture : List Nat := [2, 0, 2, 2, 2, 4, 0]
theorem x_kPicture_0 : xK_Picture[0]? = some 2 := rfl
theorem x_kPicture_1 : xK_Picture[1]? = some 0 := rfl
theorem x_kPicture_2 : xK_Picture[2]? = some 2 := rfl
theorem x_kPicture_3 : xK_Picture[3]? = some 2 := rfl
theorem x_kPicture_4 : xK_Picture[4]? = some 2 := rfl
theorem x_kPicture_5 : xK_Picture[5]? = some 4 := rfl
theorem x_kPicture_6 : xK_Picture[6]? = some 0 := rfl
theorem x_lays3 : ∀ w ∈ u_ws RX3 TX3 7, w ∈ gws := gws_ps [522, 524, 526, 528, 530, 532, 534] (by decide +kernel) (by decide +kernel)
theorem x_ft3 : FT vwCl 3 := ⟨RX3, TX3, 7, tyX3, rfl, tyX3_ok, nmX3⟩
theorem x_w3_1 : FW vwCl 3 1 .int := ⟨RX3, TX3, 7, rfl, by decide +kernel, by decide +kernel⟩
theorem x_w3_5 : FW vwCl 3 5 (.object "ThrownVoices$Tape") := ⟨RX3, TX3, 7, rfl, by decide +kernel, by decide +kernel⟩
theorem x_w3_6 : FW vwCl 3 6 .int := ⟨RX3, TX3, 7, rfl, by decide +kernel, by decide +kernel⟩
def xShL : List (Nat × List Nat) := [(10 + 4, xK_X), (7 + 4, xK_Tape), (0, [1600]), (4 + 4, xK_Reader), (9 + 4, xK_Town), (0, [7]), (0, [7]), (0, [8]), (0, [8]), (0, [8]), (0, [12]), (0, [12]), (0, [12]), (5 + 4, xK_Rules), (0, [23]), (0, [1600]), (0, [3]), (0, [3]), (0, [64]), (8 + 4, xK_Tokens), (0, [1601]), (0, [1601]), (0, [1601]), (9 + 4, xK_Town), (0, [7]), (0, [7]), (0, [8]), (0, [8]), (0, [8]), (0, [12]), (0, [12]), (0, [12]), (5 + 4, xK_Rules), (0, [23]), (0, [1600]), (0, [3]), (0, [3]), (0, [64]), (6 + 4, xK_State), (0, [7]), (0, [7]), (0, [7]), (0, [12]), (0, [12]), (0, [12]), (0, [12]), (0, [12]), (0, [12]), (0, [12]), (0, [12]), (0, [12]), (6 + 4, xK_State), (0, [7]), (0, [7]), (0, [7]), (0, [12]), (0, [12]), (0, [12]), (0, [12]), (0, [12]), (0, [12]), (0, [12]), (0, [12]), (0, [12]), (2 + 4, xK_Past), (3, [20, 4]), (6 + 4, xK_State), (0, [7]), (0, [7]), (0, [7]), (0, [12]), (0, [12]), (0, [12]), (0, [12]), (0, [12]), (0, [12]), (0, [12]), (0, [12]), (0, [12]), (6 + 4, xK_State), (0, [7]), (0, [7]), (0, [7]), (0, [12]), (0, [12]), (0, [12]), (0, [12]), (0, [12]), (0, [12]), (0, [12]), (0, [12]), (0, [12]), (6 + 4, xK_State), (0, [7]), (0, [7]), (0, [7]), (0, [12]), (0, [12]), (0, [12]), (0, [12]), (0, [12]), (0, [12]), (0, [12]), (0, [12]), (0, [12]), (6 + 4, xK_State), (0, [7]), (0, [7]), (0, [7]), (0, [12]), (0, [12]), (0, [12]), (0, [12]), (0, [12]), (0, [12]), (0, [12]), (0, [12]), (0, [12]), (6 + 4, xK_State), (0, [7]), (0, [7]), (0, [7]), (0, [12]), (0, [12]), (0, [12]), (0, [12]), (0, [12]), (0, [12]), (0, [12]), (0, [12]), (0, [12]), (6 + 4, xK_State), (0, [7]), (0, [7]), (0, [7]), (0, [12]), (0, [12]), (0, [12]), (0, [12]), (0, [12]), (0, [12]), (0, [12]), (0, [12]), (0, [12]), (6 + 4, xK_State), (0, [7]), (0, [7]), (0, [7]), (0, [12]), (0, [12]), (0, [12]), (0, [12]), (0, [12]), (0, [12]), (0, [12]), (0, [12]), (0, [12]), (6 + 4, xK_State), (0, [7]), (0, [7]), (0, [7]), (0, [12]), (0, [12]), (0, [12]), (0, [12]), (0, [12]), (0, [12]), (0, [12]), (0, [12]), (0, [12]), (6 + 4, xK_State), (0, [7]), (0, [7]), (0, [7]), (0, [12]), (0, [12]), (0, [12]), (0, [12]), (0, [12]), (0, [12]), (0, [12]), (0, [12]), (0, [12]), (6 + 4, xK_State), (0, [7]), (0, [7]), (0, [7]), (0, [12]), (0, [12]), (0, [12]), (0, [12]), (0, [12]), (0, [12]), (0, [12]), (0, [12]), (0, [12]), (6 + 4, xK_State), (0, [7]), (0, [7]), (0, [7]), (0, [12]), (0, [12]), (0, [12]), (0, [12]), (0, [12]), (0, [12]), (0, [12]), (0, [12]), (0, [12]), (6 + 4, xK_State), (0, [7]), (0, [7]), (0, [7]), (0, [12]), (0, [12]), (0, [12]), (0, [12]), (0, [12]), (0, [12]), (0, [12]), (0, [12]), (0, [12]), (6 + 4, xK_State), (0, [7]), (0, [7]), (0, [7]), (0, [12]), (0, [12]), (0, [12]), (0, [12]), (0, [12]), (0, [12]), (0, [12]), (0, [12]), (0, [12]), (6 + 4, xK_State), (0, [7]), (0, [7]), (0, [7]), (0, [12]), (0, [12]), (0, [12]), (0, [12]), (0, [12]), (0, [12]), (0, [12]), (0, [12]), (0, [12]), (6 + 4, xK_State), (0, [7]), (0, [7]), (0, [7]), (0, [12]), (0, [12]), (0, [12]), (0, [12]), (0, [12]), (0, [12]), (0, [12]), (0, [12]), (0, [12]), (6 + 4, xK_State), (0, [7]), (0, [7]), (0, [7]), (0, [12]), (0, [12]), (0, [12]), (0, [12]), (0, [12]), (0, [12]), (0, [12]), (0, [12]), (0, [12]), (6 + 4, xK_State), (0, [7]), (0, [7]), (0, [7]), (0, [12]), (0, [12]), (0, [12]), (0, [12]), (0, [12]), (0, [12]), (0, [12]), (0, [12]), (0, [12]), (6 + 4, xK_State), (0, [7]), (0, [7]), (0, [7]), (0, [12]), (0, [12]), (0, [12]), (0, [12]), (0, [12]), (0, [12]), (0, [12]), (0, [12]), (0, [12]), (6 + 4, xK_State), (0, [7]), (0, [7]), (0, [7]), (0, [12]), (0, [12]), (0, [12]), (0, [12]), (0, [12]), (0, [12]), (0, [12]), (0, [12]), (0, [12]), (6 + 4, xK_State), (0, [7]), (0, [7]), (0, [7]), (0, [12]), (0, [12]), (0, [12]), (0, [12]), (0, [12]), (0, [12]), (0, [12]), (0, [12]), (0, [12]), (1 + 4, xK_Matching), (3, [13, 3]), (0, [128]), (0, [128]), (0, [128]), (0, [128]), (0, [128]), (0, [128]), (0, [128]), (0, [128]), (0, [128]), (0, [128]), (0, [128]), (0, [128]), (0, [128]), (3, [12, 3]), (0, [7]), (0, [7]), (0, [7]), (0, [7]), (0, [7]), (0, [7]), (0, [7]), (0, [7]), (0, [7]), (0, [7]), (0, [7]), (0, [7]), (0 + 4, xK_Heard), (0, [16]), (0, [16]), (0, [16]), (3, [10, 3]), (0, [372]), (0, [372]), (0, [372]), (0, [372]), (0, [372]), (0, [372]), (0, [372]), (0, [372]), (0, [372]), (0, [372]), (0, [8]), (3 + 4, xK_Picture), (0, [108]), (0, [6])]
def xSh : Shp := fun k => xShL.getD k (0, [0])
abbrev xN : Nat := 373
def xRfL : List (List Nat) := [[2, 4, 24, 39, 52, 65, 327, 355, 371, 373, 0], [3, 0], [], [5, 0, 0, 20, 0, 0, 0], [0, 0, 0, 0, 6, 7, 8, 9, 10, 11, 12, 13, 14], [], [], [], [], [], [], [], [], [15, 16, 17, 18, 19, 0], [], [], [], [], [], [21, 22, 23, 0, 0, 0, 0, 0], [], [], [], [0, 0, 0, 0, 25, 26, 27, 28, 29, 30, 31, 32, 33], [], [], [], [], [], [], [], [], [34, 35, 36, 37, 38, 0], [], [], [], [], [], [40, 41, 42, 43, 44, 45, 46, 47, 48, 49, 50, 51, 0, 0, 24], [], [], [], [], [], [], [], [], [], [], [], [], [53, 54, 55, 56, 57, 58, 59, 60, 61, 62, 63, 64, 0, 0, 24], [], [], [], [], [], [], [], [], [], [], [], [], [0, 66, 0], [67, 80, 93, 106, 119, 132, 145, 158, 171, 184, 197, 210, 223, 236, 249, 262, 275, 288, 301, 314], [68, 69, 70, 71, 72, 73, 74, 75, 76, 77, 78, 79, 0, 0, 24], [], [], [], [], [], [], [], [], [], [], [], [], [81, 82, 83, 84, 85, 86, 87, 88, 89, 90, 91, 92, 0, 0, 24], [], [], [], [], [], [], [], [], [], [], [], [], [94, 95, 96, 97, 98, 99, 100, 101, 102, 103, 104, 105, 0, 0, 24], [], [], [], [], [], [], [], [], [], [], [], [], [107, 108, 109, 110, 111, 112, 113, 114, 115, 116, 117, 118, 0, 0, 24], [], [], [], [], [], [], [], [], [], [], [], [], [120, 121, 122, 123, 124, 125, 126, 127, 128, 129, 130, 131, 0, 0, 24], [], [], [], [], [], [], [], [], [], [], [], [], [133, 134, 135, 136, 137, 138, 139, 140, 141, 142, 143, 144, 0, 0, 24], [], [], [], [], [], [], [], [], [], [], [], [], [146, 147, 148, 149, 150, 151, 152, 153, 154, 155, 156, 157, 0, 0, 24], [], [], [], [], [], [], [], [], [], [], [], [], [159, 160, 161, 162, 163, 164, 165, 166, 167, 168, 169, 170, 0, 0, 24], [], [], [], [], [], [], [], [], [], [], [], [], [172, 173, 174, 175, 176, 177, 178, 179, 180, 181, 182, 183, 0, 0, 24], [], [], [], [], [], [], [], [], [], [], [], [], [185, 186, 187, 188, 189, 190, 191, 192, 193, 194, 195, 196, 0, 0, 24], [], [], [], [], [], [], [], [], [], [], [], [], [198, 199, 200, 201, 202, 203, 204, 205, 206, 207, 208, 209, 0, 0, 24], [], [], [], [], [], [], [], [], [], [], [], [], [211, 212, 213, 214, 215, 216, 217, 218, 219, 220, 221, 222, 0, 0, 24], [], [], [], [], [], [], [], [], [], [], [], [], [224, 225, 226, 227, 228, 229, 230, 231, 232, 233, 234, 235, 0, 0, 24], [], [], [], [], [], [], [], [], [], [], [], [], [237, 238, 239, 240, 241, 242, 243, 244, 245, 246, 247, 248, 0, 0, 24], [], [], [], [], [], [], [], [], [], [], [], [], [250, 251, 252, 253, 254, 255, 256, 257, 258, 259, 260, 261, 0, 0, 24], [], [], [], [], [], [], [], [], [], [], [], [], [263, 264, 265, 266, 267, 268, 269, 270, 271, 272, 273, 274, 0, 0, 24], [], [], [], [], [], [], [], [], [], [], [], [], [276, 277, 278, 279, 280, 281, 282, 283, 284, 285, 286, 287, 0, 0, 24], [], [], [], [], [], [], [], [], [], [], [], [], [289, 290, 291, 292, 293, 294, 295, 296, 297, 298, 299, 300, 0, 0, 24], [], [], [], [], [], [], [], [], [], [], [], [], [302, 303, 304, 305, 306, 307, 308, 309, 310, 311, 312, 313, 0, 0, 24], [], [], [], [], [], [], [], [], [], [], [], [], [315, 316, 317, 318, 319, 320, 321, 322, 323, 324, 325, 326, 0, 0, 24], [], [], [], [], [], [], [], [], [], [], [], [], [24, 39, 328, 342], [329, 330, 331, 332, 333, 334, 335, 336, 337, 338, 339, 340, 341], [], [], [], [], [], [], [], [], [], [], [], [], [], [343, 344, 345, 346, 347, 348, 349, 350, 351, 352, 353, 354], [], [], [], [], [], [], [], [], [], [], [], [], [0, 24, 39, 52, 356, 357, 358, 359, 370], [], [], [], [360, 361, 362, 363, 364, 365, 366, 367, 368, 369], [], [], [], [], [], [], [], [], [], [], [], [372, 0, 24, 39, 52, 0, 0], [], []]
def xRf : Nat → Nat → Nat := fun k j => (xRfL.getD k []).getD j 0
theorem x_s0 : xSh 0 = (10 + 4, xK_X) := by decide +kernel
theorem x_r0_0 : xRf 0 0 = 1 + 1 := by decide +kernel
theorem x_r0_1 : xRf 0 1 = 3 + 1 := by decide +kernel
theorem x_r0_2 : xRf 0 2 = 23 + 1 := by decide +kernel
theorem x_r0_3 : xRf 0 3 = 38 + 1 := by decide +kernel
theorem x_r0_4 : xRf 0 4 = 51 + 1 := by decide +kernel
theorem x_r0_5 : xRf 0 5 = 64 + 1 := by decide +kernel
theorem x_r0_6 : xRf 0 6 = 326 + 1 := by decide +kernel
theorem x_r0_7 : xRf 0 7 = 354 + 1 := by decide +kernel
theorem x_r0_8 : xRf 0 8 = 370 + 1 := by decide +kernel
theorem x_r0_9 : xRf 0 9 = 372 + 1 := by decide +kernel
theorem x_s1 : xSh 1 = (7 + 4, xK_Tape) := by decide +kernel
theorem x_r1_0 : xRf 1 0 = 2 + 1 := by decide +kernel
theorem x_s2 : xSh 2 = (0, [1600]) := by decide +kernel
theorem x_s3 : xSh 3 = (4 + 4, xK_Reader) := by decide +kernel
theorem x_r3_0 : xRf 3 0 = 4 + 1 := by decide +kernel
theorem x_r3_3 : xRf 3 3 = 19 + 1 := by decide +kernel
theorem x_s4 : xSh 4 = (9 + 4, xK_Town) := by decide +kernel
theorem x_r4_4 : xRf 4 4 = 5 + 1 := by decide +kernel
theorem x_r4_5 : xRf 4 5 = 6 + 1 := by decide +kernel
theorem x_r4_6 : xRf 4 6 = 7 + 1 := by decide +kernel
theorem x_r4_7 : xRf 4 7 = 8 + 1 := by decide +kernel
theorem x_r4_8 : xRf 4 8 = 9 + 1 := by decide +kernel
theorem x_r4_9 : xRf 4 9 = 10 + 1 := by decide +kernel
theorem x_r4_10 : xRf 4 10 = 11 + 1 := by decide +kernel
theorem x_r4_11 : xRf 4 11 = 12 + 1 := by decide +kernel
theorem x_r4_12 : xRf 4 12 = 13 + 1 := by decide +kernel
theorem x_s5 : xSh 5 = (0, [7]) := by decide +kernel
theorem x_s6 : xSh 6 = (0, [7]) := by decide +kernel
theorem x_s7 : xSh 7 = (0, [8]) := by decide +kernel
theorem x_s8 : xSh 8 = (0, [8]) := by decide +kernel
theorem x_s9 : xSh 9 = (0, [8]) := by decide +kernel
theorem x_s10 : xSh 10 = (0, [12]) := by decide +kernel
theorem x_s11 : xSh 11 = (0, [12]) := by decide +kernel
theorem x_s12 : xSh 12 = (0, [12]) := by decide +kernel
theorem x_s13 : xSh 13 = (5 + 4, xK_Rules) := by decide +kernel
theorem x_r13_0 : xRf 13 0 = 14 + 1 := by decide +kernel
theorem x_r13_1 : xRf 13 1 = 15 + 1 := by decide +kernel
theorem x_r13_2 : xRf 13 2 = 16 + 1 := by decide +kernel
theorem x_r13_3 : xRf 13 3 = 17 + 1 := by decide +kernel
theorem x_r13_4 : xRf 13 4 = 18 + 1 := by decide +kernel
theorem x_s14 : xSh 14 = (0, [23]) := by decide +kernel
theorem x_s15 : xSh 15 = (0, [1600]) := by decide +kernel
theorem x_s16 : xSh 16 = (0, [3]) := by decide +kernel
theorem x_s17 : xSh 17 = (0, [3]) := by decide +kernel
theorem x_s18 : xSh 18 = (0, [64]) := by decide +kernel
theorem x_s19 : xSh 19 = (8 + 4, xK_Tokens) := by decide +kernel
theorem x_r19_0 : xRf 19 0 = 20 + 1 := by decide +kernel
theorem x_r19_1 : xRf 19 1 = 21 + 1 := by decide +kernel
theorem x_r19_2 : xRf 19 2 = 22 + 1 := by decide +kernel
theorem x_s20 : xSh 20 = (0, [1601]) := by decide +kernel
theorem x_s21 : xSh 21 = (0, [1601]) := by decide +kernel
theorem x_s22 : xSh 22 = (0, [1601]) := by decide +kernel
theorem x_s23 : xSh 23 = (9 + 4, xK_Town) := by decide +kernel
theorem x_r23_4 : xRf 23 4 = 24 + 1 := by decide +kernel
theorem x_r23_5 : xRf 23 5 = 25 + 1 := by decide +kernel
theorem x_r23_6 : xRf 23 6 = 26 + 1 := by decide +kernel
theorem x_r23_7 : xRf 23 7 = 27 + 1 := by decide +kernel
theorem x_r23_8 : xRf 23 8 = 28 + 1 := by decide +kernel
theorem x_r23_9 : xRf 23 9 = 29 + 1 := by decide +kernel
theorem x_r23_10 : xRf 23 10 = 30 + 1 := by decide +kernel
theorem x_r23_11 : xRf 23 11 = 31 + 1 := by decide +kernel
theorem x_r23_12 : xRf 23 12 = 32 + 1 := by decide +kernel
theorem x_s24 : xSh 24 = (0, [7]) := by decide +kernel
theorem x_s25 : xSh 25 = (0, [7]) := by decide +kernel
theorem x_s26 : xSh 26 = (0, [8]) := by decide +kernel
theorem x_s27 : xSh 27 = (0, [8]) := by decide +kernel
theorem x_s28 : xSh 28 = (0, [8]) := by decide +kernel
theorem x_s29 : xSh 29 = (0, [12]) := by decide +kernel
theorem x_s30 : xSh 30 = (0, [12]) := by decide +kernel
theorem x_s31 : xSh 31 = (0, [12]) := by decide +kernel
theorem x_s32 : xSh 32 = (5 + 4, xK_Rules) := by decide +kernel
theorem x_r32_0 : xRf 32 0 = 33 + 1 := by decide +kernel
theorem x_r32_1 : xRf 32 1 = 34 + 1 := by decide +kernel
theorem x_r32_2 : xRf 32 2 = 35 + 1 := by decide +kernel
theorem x_r32_3 : xRf 32 3 = 36 + 1 := by decide +kernel
theorem x_r32_4 : xRf 32 4 = 37 + 1 := by decide +kernel
theorem x_s33 : xSh 33 = (0, [23]) := by decide +kernel
theorem x_s34 : xSh 34 = (0, [1600]) := by decide +kernel
theorem x_s35 : xSh 35 = (0, [3]) := by decide +kernel
theorem x_s36 : xSh 36 = (0, [3]) := by decide +kernel
theorem x_s37 : xSh 37 = (0, [64]) := by decide +kernel
theorem x_s38 : xSh 38 = (6 + 4, xK_State) := by decide +kernel
theorem x_r38_0 : xRf 38 0 = 39 + 1 := by decide +kernel
theorem x_r38_1 : xRf 38 1 = 40 + 1 := by decide +kernel
theorem x_r38_2 : xRf 38 2 = 41 + 1 := by decide +kernel
theorem x_r38_3 : xRf 38 3 = 42 + 1 := by decide +kernel
theorem x_r38_4 : xRf 38 4 = 43 + 1 := by decide +kernel
theorem x_r38_5 : xRf 38 5 = 44 + 1 := by decide +kernel
theorem x_r38_6 : xRf 38 6 = 45 + 1 := by decide +kernel
theorem x_r38_7 : xRf 38 7 = 46 + 1 := by decide +kernel
theorem x_r38_8 : xRf 38 8 = 47 + 1 := by decide +kernel
theorem x_r38_9 : xRf 38 9 = 48 + 1 := by decide +kernel
theorem x_r38_10 : xRf 38 10 = 49 + 1 := by decide +kernel
theorem x_r38_11 : xRf 38 11 = 50 + 1 := by decide +kernel
theorem x_r38_14 : xRf 38 14 = 23 + 1 := by decide +kernel
theorem x_s39 : xSh 39 = (0, [7]) := by decide +kernel
theorem x_s40 : xSh 40 = (0, [7]) := by decide +kernel
theorem x_s41 : xSh 41 = (0, [7]) := by decide +kernel
theorem x_s42 : xSh 42 = (0, [12]) := by decide +kernel
theorem x_s43 : xSh 43 = (0, [12]) := by decide +kernel
theorem x_s44 : xSh 44 = (0, [12]) := by decide +kernel
theorem x_s45 : xSh 45 = (0, [12]) := by decide +kernel
theorem x_s46 : xSh 46 = (0, [12]) := by decide +kernel
theorem x_s47 : xSh 47 = (0, [12]) := by decide +kernel
theorem x_s48 : xSh 48 = (0, [12]) := by decide +kernel
theorem x_s49 : xSh 49 = (0, [12]) := by decide +kernel
theorem x_s50 : xSh 50 = (0, [12]) := by decide +kernel
theorem x_s51 : xSh 51 = (6 + 4, xK_State) := by decide +kernel
theorem x_r51_0 : xRf 51 0 = 52 + 1 := by decide +kernel
theorem x_r51_1 : xRf 51 1 = 53 + 1 := by decide +kernel
theorem x_r51_2 : xRf 51 2 = 54 + 1 := by decide +kernel
theorem x_r51_3 : xRf 51 3 = 55 + 1 := by decide +kernel
theorem x_r51_4 : xRf 51 4 = 56 + 1 := by decide +kernel
theorem x_r51_5 : xRf 51 5 = 57 + 1 := by decide +kernel
theorem x_r51_6 : xRf 51 6 = 58 + 1 := by decide +kernel
theorem x_r51_7 : xRf 51 7 = 59 + 1 := by decide +kernel
theorem x_r51_8 : xRf 51 8 = 60 + 1 := by decide +kernel
theorem x_r51_9 : xRf 51 9 = 61 + 1 := by decide +kernel
theorem x_r51_10 : xRf 51 10 = 62 + 1 := by decide +kernel
theorem x_r51_11 : xRf 51 11 = 63 + 1 := by decide +kernel
theorem x_r51_14 : xRf 51 14 = 23 + 1 := by decide +kernel
theorem x_s52 : xSh 52 = (0, [7]) := by decide +kernel
theorem x_s53 : xSh 53 = (0, [7]) := by decide +kernel
theorem x_s54 : xSh 54 = (0, [7]) := by decide +kernel
theorem x_s55 : xSh 55 = (0, [12]) := by decide +kernel
theorem x_s56 : xSh 56 = (0, [12]) := by decide +kernel
theorem x_s57 : xSh 57 = (0, [12]) := by decide +kernel
theorem x_s58 : xSh 58 = (0, [12]) := by decide +kernel
theorem x_s59 : xSh 59 = (0, [12]) := by decide +kernel
theorem x_s60 : xSh 60 = (0, [12]) := by decide +kernel
theorem x_s61 : xSh 61 = (0, [12]) := by decide +kernel
theorem x_s62 : xSh 62 = (0, [12]) := by decide +kernel
theorem x_s63 : xSh 63 = (0, [12]) := by decide +kernel
theorem x_s64 : xSh 64 = (2 + 4, xK_Past) := by decide +kernel
theorem x_r64_1 : xRf 64 1 = 65 + 1 := by decide +kernel
theorem x_s65 : xSh 65 = (3, [20, 4]) := by decide +kernel
theorem x_s66 : xSh 66 = (6 + 4, xK_State) := by decide +kernel
theorem x_r66_0 : xRf 66 0 = 67 + 1 := by decide +kernel
theorem x_r66_1 : xRf 66 1 = 68 + 1 := by decide +kernel
theorem x_r66_2 : xRf 66 2 = 69 + 1 := by decide +kernel
theorem x_r66_3 : xRf 66 3 = 70 + 1 := by decide +kernel
theorem x_r66_4 : xRf 66 4 = 71 + 1 := by decide +kernel
theorem x_r66_5 : xRf 66 5 = 72 + 1 := by decide +kernel
theorem x_r66_6 : xRf 66 6 = 73 + 1 := by decide +kernel
theorem x_r66_7 : xRf 66 7 = 74 + 1 := by decide +kernel
theorem x_r66_8 : xRf 66 8 = 75 + 1 := by decide +kernel
theorem x_r66_9 : xRf 66 9 = 76 + 1 := by decide +kernel
theorem x_r66_10 : xRf 66 10 = 77 + 1 := by decide +kernel
theorem x_r66_11 : xRf 66 11 = 78 + 1 := by decide +kernel
theorem x_r66_14 : xRf 66 14 = 23 + 1 := by decide +kernel
theorem x_s67 : xSh 67 = (0, [7]) := by decide +kernel
theorem x_s68 : xSh 68 = (0, [7]) := by decide +kernel
theorem x_s69 : xSh 69 = (0, [7]) := by decide +kernel
theorem x_s70 : xSh 70 = (0, [12]) := by decide +kernel
theorem x_s71 : xSh 71 = (0, [12]) := by decide +kernel
theorem x_s72 : xSh 72 = (0, [12]) := by decide +kernel
theorem x_s73 : xSh 73 = (0, [12]) := by decide +kernel
theorem x_s74 : xSh 74 = (0, [12]) := by decide +kernel
theorem x_s75 : xSh 75 = (0, [12]) := by decide +kernel
theorem x_s76 : xSh 76 = (0, [12]) := by decide +kernel
theorem x_s77 : xSh 77 = (0, [12]) := by decide +kernel
theorem x_s78 : xSh 78 = (0, [12]) := by decide +kernel
theorem x_s79 : xSh 79 = (6 + 4, xK_State) := by decide +kernel
theorem x_r79_0 : xRf 79 0 = 80 + 1 := by decide +kernel
theorem x_r79_1 : xRf 79 1 = 81 + 1 := by decide +kernel
theorem x_r79_2 : xRf 79 2 = 82 + 1 := by decide +kernel
theorem x_r79_3 : xRf 79 3 = 83 + 1 := by decide +kernel
theorem x_r79_4 : xRf 79 4 = 84 + 1 := by decide +kernel
theorem x_r79_5 : xRf 79 5 = 85 + 1 := by decide +kernel
theorem x_r79_6 : xRf 79 6 = 86 + 1 := by decide +kernel
theorem x_r79_7 : xRf 79 7 = 87 + 1 := by decide +kernel
theorem x_r79_8 : xRf 79 8 = 88 + 1 := by decide +kernel
theorem x_r79_9 : xRf 79 9 = 89 + 1 := by decide +kernel
theorem x_r79_10 : xRf 79 10 = 90 + 1 := by decide +kernel
theorem x_r79_11 : xRf 79 11 = 91 + 1 := by decide +kernel
theorem x_r79_14 : xRf 79 14 = 23 + 1 := by decide +kernel
theorem x_s80 : xSh 80 = (0, [7]) := by decide +kernel
theorem x_s81 : xSh 81 = (0, [7]) := by decide +kernel
theorem x_s82 : xSh 82 = (0, [7]) := by decide +kernel
theorem x_s83 : xSh 83 = (0, [12]) := by decide +kernel
theorem x_s84 : xSh 84 = (0, [12]) := by decide +kernel
theorem x_s85 : xSh 85 = (0, [12]) := by decide +kernel
theorem x_s86 : xSh 86 = (0, [12]) := by decide +kernel
theorem x_s87 : xSh 87 = (0, [12]) := by decide +kernel
theorem x_s88 : xSh 88 = (0, [12]) := by decide +kernel
theorem x_s89 : xSh 89 = (0, [12]) := by decide +kernel
theorem x_s90 : xSh 90 = (0, [12]) := by decide +kernel
theorem x_s91 : xSh 91 = (0, [12]) := by decide +kernel
theorem x_s92 : xSh 92 = (6 + 4, xK_State) := by decide +kernel
theorem x_r92_0 : xRf 92 0 = 93 + 1 := by decide +kernel
theorem x_r92_1 : xRf 92 1 = 94 + 1 := by decide +kernel
theorem x_r92_2 : xRf 92 2 = 95 + 1 := by decide +kernel
theorem x_r92_3 : xRf 92 3 = 96 + 1 := by decide +kernel
theorem x_r92_4 : xRf 92 4 = 97 + 1 := by decide +kernel
theorem x_r92_5 : xRf 92 5 = 98 + 1 := by decide +kernel
theorem x_r92_6 : xRf 92 6 = 99 + 1 := by decide +kernel
theorem x_r92_7 : xRf 92 7 = 100 + 1 := by decide +kernel
theorem x_r92_8 : xRf 92 8 = 101 + 1 := by decide +kernel
theorem x_r92_9 : xRf 92 9 = 102 + 1 := by decide +kernel
theorem x_r92_10 : xRf 92 10 = 103 + 1 := by decide +kernel
theorem x_r92_11 : xRf 92 11 = 104 + 1 := by decide +kernel
theorem x_r92_14 : xRf 92 14 = 23 + 1 := by decide +kernel
theorem x_s93 : xSh 93 = (0, [7]) := by decide +kernel
theorem x_s94 : xSh 94 = (0, [7]) := by decide +kernel
theorem x_s95 : xSh 95 = (0, [7]) := by decide +kernel
theorem x_s96 : xSh 96 = (0, [12]) := by decide +kernel
theorem x_s97 : xSh 97 = (0, [12]) := by decide +kernel
theorem x_s98 : xSh 98 = (0, [12]) := by decide +kernel
theorem x_s99 : xSh 99 = (0, [12]) := by decide +kernel
theorem x_s100 : xSh 100 = (0, [12]) := by decide +kernel
theorem x_s101 : xSh 101 = (0, [12]) := by decide +kernel
theorem x_s102 : xSh 102 = (0, [12]) := by decide +kernel
theorem x_s103 : xSh 103 = (0, [12]) := by decide +kernel
theorem x_s104 : xSh 104 = (0, [12]) := by decide +kernel
theorem x_s105 : xSh 105 = (6 + 4, xK_State) := by decide +kernel
theorem x_r105_0 : xRf 105 0 = 106 + 1 := by decide +kernel
theorem x_r105_1 : xRf 105 1 = 107 + 1 := by decide +kernel
theorem x_r105_2 : xRf 105 2 = 108 + 1 := by decide +kernel
theorem x_r105_3 : xRf 105 3 = 109 + 1 := by decide +kernel
theorem x_r105_4 : xRf 105 4 = 110 + 1 := by decide +kernel
theorem x_r105_5 : xRf 105 5 = 111 + 1 := by decide +kernel
theorem x_r105_6 : xRf 105 6 = 112 + 1 := by decide +kernel
theorem x_r105_7 : xRf 105 7 = 113 + 1 := by decide +kernel
theorem x_r105_8 : xRf 105 8 = 114 + 1 := by decide +kernel
theorem x_r105_9 : xRf 105 9 = 115 + 1 := by decide +kernel
theorem x_r105_10 : xRf 105 10 = 116 + 1 := by decide +kernel
theorem x_r105_11 : xRf 105 11 = 117 + 1 := by decide +kernel
theorem x_r105_14 : xRf 105 14 = 23 + 1 := by decide +kernel
theorem x_s106 : xSh 106 = (0, [7]) := by decide +kernel
theorem x_s107 : xSh 107 = (0, [7]) := by decide +kernel
theorem x_s108 : xSh 108 = (0, [7]) := by decide +kernel
theorem x_s109 : xSh 109 = (0, [12]) := by decide +kernel
theorem x_s110 : xSh 110 = (0, [12]) := by decide +kernel
theorem x_s111 : xSh 111 = (0, [12]) := by decide +kernel
theorem x_s112 : xSh 112 = (0, [12]) := by decide +kernel
theorem x_s113 : xSh 113 = (0, [12]) := by decide +kernel
theorem x_s114 : xSh 114 = (0, [12]) := by decide +kernel
theorem x_s115 : xSh 115 = (0, [12]) := by decide +kernel
theorem x_s116 : xSh 116 = (0, [12]) := by decide +kernel
theorem x_s117 : xSh 117 = (0, [12]) := by decide +kernel
theorem x_s118 : xSh 118 = (6 + 4, xK_State) := by decide +kernel
theorem x_r118_0 : xRf 118 0 = 119 + 1 := by decide +kernel
theorem x_r118_1 : xRf 118 1 = 120 + 1 := by decide +kernel
theorem x_r118_2 : xRf 118 2 = 121 + 1 := by decide +kernel
theorem x_r118_3 : xRf 118 3 = 122 + 1 := by decide +kernel
theorem x_r118_4 : xRf 118 4 = 123 + 1 := by decide +kernel
theorem x_r118_5 : xRf 118 5 = 124 + 1 := by decide +kernel
theorem x_r118_6 : xRf 118 6 = 125 + 1 := by decide +kernel
theorem x_r118_7 : xRf 118 7 = 126 + 1 := by decide +kernel
theorem x_r118_8 : xRf 118 8 = 127 + 1 := by decide +kernel
theorem x_r118_9 : xRf 118 9 = 128 + 1 := by decide +kernel
theorem x_r118_10 : xRf 118 10 = 129 + 1 := by decide +kernel
theorem x_r118_11 : xRf 118 11 = 130 + 1 := by decide +kernel
theorem x_r118_14 : xRf 118 14 = 23 + 1 := by decide +kernel
theorem x_s119 : xSh 119 = (0, [7]) := by decide +kernel
theorem x_s120 : xSh 120 = (0, [7]) := by decide +kernel
theorem x_s121 : xSh 121 = (0, [7]) := by decide +kernel
theorem x_s122 : xSh 122 = (0, [12]) := by decide +kernel
theorem x_s123 : xSh 123 = (0, [12]) := by decide +kernel
theorem x_s124 : xSh 124 = (0, [12]) := by decide +kernel
theorem x_s125 : xSh 125 = (0, [12]) := by decide +kernel
theorem x_s126 : xSh 126 = (0, [12]) := by decide +kernel
theorem x_s127 : xSh 127 = (0, [12]) := by decide +kernel
theorem x_s128 : xSh 128 = (0, [12]) := by decide +kernel
theorem x_s129 : xSh 129 = (0, [12]) := by decide +kernel
theorem x_s130 : xSh 130 = (0, [12]) := by decide +kernel
theorem x_s131 : xSh 131 = (6 + 4, xK_State) := by decide +kernel
theorem x_r131_0 : xRf 131 0 = 132 + 1 := by decide +kernel
theorem x_r131_1 : xRf 131 1 = 133 + 1 := by decide +kernel
theorem x_r131_2 : xRf 131 2 = 134 + 1 := by decide +kernel
theorem x_r131_3 : xRf 131 3 = 135 + 1 := by decide +kernel
theorem x_r131_4 : xRf 131 4 = 136 + 1 := by decide +kernel
theorem x_r131_5 : xRf 131 5 = 137 + 1 := by decide +kernel
theorem x_r131_6 : xRf 131 6 = 138 + 1 := by decide +kernel
theorem x_r131_7 : xRf 131 7 = 139 + 1 := by decide +kernel
theorem x_r131_8 : xRf 131 8 = 140 + 1 := by decide +kernel
theorem x_r131_9 : xRf 131 9 = 141 + 1 := by decide +kernel
theorem x_r131_10 : xRf 131 10 = 142 + 1 := by decide +kernel
theorem x_r131_11 : xRf 131 11 = 143 + 1 := by decide +kernel
theorem x_r131_14 : xRf 131 14 = 23 + 1 := by decide +kernel
theorem x_s132 : xSh 132 = (0, [7]) := by decide +kernel
theorem x_s133 : xSh 133 = (0, [7]) := by decide +kernel
theorem x_s134 : xSh 134 = (0, [7]) := by decide +kernel
theorem x_s135 : xSh 135 = (0, [12]) := by decide +kernel
theorem x_s136 : xSh 136 = (0, [12]) := by decide +kernel
theorem x_s137 : xSh 137 = (0, [12]) := by decide +kernel
theorem x_s138 : xSh 138 = (0, [12]) := by decide +kernel
theorem x_s139 : xSh 139 = (0, [12]) := by decide +kernel
theorem x_s140 : xSh 140 = (0, [12]) := by decide +kernel
theorem x_s141 : xSh 141 = (0, [12]) := by decide +kernel
theorem x_s142 : xSh 142 = (0, [12]) := by decide +kernel
theorem x_s143 : xSh 143 = (0, [12]) := by decide +kernel
theorem x_s144 : xSh 144 = (6 + 4, xK_State) := by decide +kernel
theorem x_r144_0 : xRf 144 0 = 145 + 1 := by decide +kernel
theorem x_r144_1 : xRf 144 1 = 146 + 1 := by decide +kernel
theorem x_r144_2 : xRf 144 2 = 147 + 1 := by decide +kernel
theorem x_r144_3 : xRf 144 3 = 148 + 1 := by decide +kernel
theorem x_r144_4 : xRf 144 4 = 149 + 1 := by decide +kernel
theorem x_r144_5 : xRf 144 5 = 150 + 1 := by decide +kernel
theorem x_r144_6 : xRf 144 6 = 151 + 1 := by decide +kernel
theorem x_r144_7 : xRf 144 7 = 152 + 1 := by decide +kernel
theorem x_r144_8 : xRf 144 8 = 153 + 1 := by decide +kernel
theorem x_r144_9 : xRf 144 9 = 154 + 1 := by decide +kernel
theorem x_r144_10 : xRf 144 10 = 155 + 1 := by decide +kernel
theorem x_r144_11 : xRf 144 11 = 156 + 1 := by decide +kernel
theorem x_r144_14 : xRf 144 14 = 23 + 1 := by decide +kernel
theorem x_s145 : xSh 145 = (0, [7]) := by decide +kernel
theorem x_s146 : xSh 146 = (0, [7]) := by decide +kernel
theorem x_s147 : xSh 147 = (0, [7]) := by decide +kernel
theorem x_s148 : xSh 148 = (0, [12]) := by decide +kernel
theorem x_s149 : xSh 149 = (0, [12]) := by decide +kernel
theorem x_s150 : xSh 150 = (0, [12]) := by decide +kernel
theorem x_s151 : xSh 151 = (0, [12]) := by decide +kernel
theorem x_s152 : xSh 152 = (0, [12]) := by decide +kernel
theorem x_s153 : xSh 153 = (0, [12]) := by decide +kernel
theorem x_s154 : xSh 154 = (0, [12]) := by decide +kernel
theorem x_s155 : xSh 155 = (0, [12]) := by decide +kernel
theorem x_s156 : xSh 156 = (0, [12]) := by decide +kernel
theorem x_s157 : xSh 157 = (6 + 4, xK_State) := by decide +kernel
theorem x_r157_0 : xRf 157 0 = 158 + 1 := by decide +kernel
theorem x_r157_1 : xRf 157 1 = 159 + 1 := by decide +kernel
theorem x_r157_2 : xRf 157 2 = 160 + 1 := by decide +kernel
theorem x_r157_3 : xRf 157 3 = 161 + 1 := by decide +kernel
theorem x_r157_4 : xRf 157 4 = 162 + 1 := by decide +kernel
theorem x_r157_5 : xRf 157 5 = 163 + 1 := by decide +kernel
theorem x_r157_6 : xRf 157 6 = 164 + 1 := by decide +kernel
theorem x_r157_7 : xRf 157 7 = 165 + 1 := by decide +kernel
theorem x_r157_8 : xRf 157 8 = 166 + 1 := by decide +kernel
theorem x_r157_9 : xRf 157 9 = 167 + 1 := by decide +kernel
theorem x_r157_10 : xRf 157 10 = 168 + 1 := by decide +kernel
theorem x_r157_11 : xRf 157 11 = 169 + 1 := by decide +kernel
theorem x_r157_14 : xRf 157 14 = 23 + 1 := by decide +kernel
theorem x_s158 : xSh 158 = (0, [7]) := by decide +kernel
theorem x_s159 : xSh 159 = (0, [7]) := by decide +kernel
theorem x_s160 : xSh 160 = (0, [7]) := by decide +kernel
theorem x_s161 : xSh 161 = (0, [12]) := by decide +kernel
theorem x_s162 : xSh 162 = (0, [12]) := by decide +kernel
theorem x_s163 : xSh 163 = (0, [12]) := by decide +kernel
theorem x_s164 : xSh 164 = (0, [12]) := by decide +kernel
theorem x_s165 : xSh 165 = (0, [12]) := by decide +kernel
theorem x_s166 : xSh 166 = (0, [12]) := by decide +kernel
theorem x_s167 : xSh 167 = (0, [12]) := by decide +kernel
theorem x_s168 : xSh 168 = (0, [12]) := by decide +kernel
theorem x_s169 : xSh 169 = (0, [12]) := by decide +kernel
theorem x_s170 : xSh 170 = (6 + 4, xK_State) := by decide +kernel
theorem x_r170_0 : xRf 170 0 = 171 + 1 := by decide +kernel
theorem x_r170_1 : xRf 170 1 = 172 + 1 := by decide +kernel
theorem x_r170_2 : xRf 170 2 = 173 + 1 := by decide +kernel
theorem x_r170_3 : xRf 170 3 = 174 + 1 := by decide +kernel
theorem x_r170_4 : xRf 170 4 = 175 + 1 := by decide +kernel
theorem x_r170_5 : xRf 170 5 = 176 + 1 := by decide +kernel
theorem x_r170_6 : xRf 170 6 = 177 + 1 := by decide +kernel
theorem x_r170_7 : xRf 170 7 = 178 + 1 := by decide +kernel
theorem x_r170_8 : xRf 170 8 = 179 + 1 := by decide +kernel
theorem x_r170_9 : xRf 170 9 = 180 + 1 := by decide +kernel
theorem x_r170_10 : xRf 170 10 = 181 + 1 := by decide +kernel
theorem x_r170_11 : xRf 170 11 = 182 + 1 := by decide +kernel
theorem x_r170_14 : xRf 170 14 = 23 + 1 := by decide +kernel
theorem x_s171 : xSh 171 = (0, [7]) := by decide +kernel
theorem x_s172 : xSh 172 = (0, [7]) := by decide +kernel
theorem x_s173 : xSh 173 = (0, [7]) := by decide +kernel
theorem x_s174 : xSh 174 = (0, [12]) := by decide +kernel
theorem x_s175 : xSh 175 = (0, [12]) := by decide +kernel
theorem x_s176 : xSh 176 = (0, [12]) := by decide +kernel
theorem x_s177 : xSh 177 = (0, [12]) := by decide +kernel
theorem x_s178 : xSh 178 = (0, [12]) := by decide +kernel
theorem x_s179 : xSh 179 = (0, [12]) := by decide +kernel
theorem x_s180 : xSh 180 = (0, [12]) := by decide +kernel
theorem x_s181 : xSh 181 = (0, [12]) := by decide +kernel
theorem x_s182 : xSh 182 = (0, [12]) := by decide +kernel
theorem x_s183 : xSh 183 = (6 + 4, xK_State) := by decide +kernel
theorem x_r183_0 : xRf 183 0 = 184 + 1 := by decide +kernel
theorem x_r183_1 : xRf 183 1 = 185 + 1 := by decide +kernel
theorem x_r183_2 : xRf 183 2 = 186 + 1 := by decide +kernel
theorem x_r183_3 : xRf 183 3 = 187 + 1 := by decide +kernel
theorem x_r183_4 : xRf 183 4 = 188 + 1 := by decide +kernel
theorem x_r183_5 : xRf 183 5 = 189 + 1 := by decide +kernel
theorem x_r183_6 : xRf 183 6 = 190 + 1 := by decide +kernel
theorem x_r183_7 : xRf 183 7 = 191 + 1 := by decide +kernel
theorem x_r183_8 : xRf 183 8 = 192 + 1 := by decide +kernel
theorem x_r183_9 : xRf 183 9 = 193 + 1 := by decide +kernel
theorem x_r183_10 : xRf 183 10 = 194 + 1 := by decide +kernel
theorem x_r183_11 : xRf 183 11 = 195 + 1 := by decide +kernel
theorem x_r183_14 : xRf 183 14 = 23 + 1 := by decide +kernel
theorem x_s184 : xSh 184 = (0, [7]) := by decide +kernel
theorem x_s185 : xSh 185 = (0, [7]) := by decide +kernel
theorem x_s186 : xSh 186 = (0, [7]) := by decide +kernel
theorem x_s187 : xSh 187 = (0, [12]) := by decide +kernel
theorem x_s188 : xSh 188 = (0, [12]) := by decide +kernel
theorem x_s189 : xSh 189 = (0, [12]) := by decide +kernel
theorem x_s190 : xSh 190 = (0, [12]) := by decide +kernel
theorem x_s191 : xSh 191 = (0, [12]) := by decide +kernel
theorem x_s192 : xSh 192 = (0, [12]) := by decide +kernel
theorem x_s193 : xSh 193 = (0, [12]) := by decide +kernel
theorem x_s194 : xSh 194 = (0, [12]) := by decide +kernel
theorem x_s195 : xSh 195 = (0, [12]) := by decide +kernel
theorem x_s196 : xSh 196 = (6 + 4, xK_State) := by decide +kernel
theorem x_r196_0 : xRf 196 0 = 197 + 1 := by decide +kernel
theorem x_r196_1 : xRf 196 1 = 198 + 1 := by decide +kernel
theorem x_r196_2 : xRf 196 2 = 199 + 1 := by decide +kernel
theorem x_r196_3 : xRf 196 3 = 200 + 1 := by decide +kernel
theorem x_r196_4 : xRf 196 4 = 201 + 1 := by decide +kernel
theorem x_r196_5 : xRf 196 5 = 202 + 1 := by decide +kernel
theorem x_r196_6 : xRf 196 6 = 203 + 1 := by decide +kernel
theorem x_r196_7 : xRf 196 7 = 204 + 1 := by decide +kernel
theorem x_r196_8 : xRf 196 8 = 205 + 1 := by decide +kernel
theorem x_r196_9 : xRf 196 9 = 206 + 1 := by decide +kernel
theorem x_r196_10 : xRf 196 10 = 207 + 1 := by decide +kernel
theorem x_r196_11 : xRf 196 11 = 208 + 1 := by decide +kernel
theorem x_r196_14 : xRf 196 14 = 23 + 1 := by decide +kernel
theorem x_s197 : xSh 197 = (0, [7]) := by decide +kernel
theorem x_s198 : xSh 198 = (0, [7]) := by decide +kernel
theorem x_s199 : xSh 199 = (0, [7]) := by decide +kernel
theorem x_s200 : xSh 200 = (0, [12]) := by decide +kernel
theorem x_s201 : xSh 201 = (0, [12]) := by decide +kernel
theorem x_s202 : xSh 202 = (0, [12]) := by decide +kernel
theorem x_s203 : xSh 203 = (0, [12]) := by decide +kernel
theorem x_s204 : xSh 204 = (0, [12]) := by decide +kernel
theorem x_s205 : xSh 205 = (0, [12]) := by decide +kernel
theorem x_s206 : xSh 206 = (0, [12]) := by decide +kernel
theorem x_s207 : xSh 207 = (0, [12]) := by decide +kernel
theorem x_s208 : xSh 208 = (0, [12]) := by decide +kernel
theorem x_s209 : xSh 209 = (6 + 4, xK_State) := by decide +kernel
theorem x_r209_0 : xRf 209 0 = 210 + 1 := by decide +kernel
theorem x_r209_1 : xRf 209 1 = 211 + 1 := by decide +kernel
theorem x_r209_2 : xRf 209 2 = 212 + 1 := by decide +kernel
theorem x_r209_3 : xRf 209 3 = 213 + 1 := by decide +kernel
theorem x_r209_4 : xRf 209 4 = 214 + 1 := by decide +kernel
theorem x_r209_5 : xRf 209 5 = 215 + 1 := by decide +kernel
theorem x_r209_6 : xRf 209 6 = 216 + 1 := by decide +kernel
theorem x_r209_7 : xRf 209 7 = 217 + 1 := by decide +kernel
theorem x_r209_8 : xRf 209 8 = 218 + 1 := by decide +kernel
theorem x_r209_9 : xRf 209 9 = 219 + 1 := by decide +kernel
theorem x_r209_10 : xRf 209 10 = 220 + 1 := by decide +kernel
theorem x_r209_11 : xRf 209 11 = 221 + 1 := by decide +kernel
theorem x_r209_14 : xRf 209 14 = 23 + 1 := by decide +kernel
theorem x_s210 : xSh 210 = (0, [7]) := by decide +kernel
theorem x_s211 : xSh 211 = (0, [7]) := by decide +kernel
theorem x_s212 : xSh 212 = (0, [7]) := by decide +kernel
theorem x_s213 : xSh 213 = (0, [12]) := by decide +kernel
theorem x_s214 : xSh 214 = (0, [12]) := by decide +kernel
theorem x_s215 : xSh 215 = (0, [12]) := by decide +kernel
theorem x_s216 : xSh 216 = (0, [12]) := by decide +kernel
theorem x_s217 : xSh 217 = (0, [12]) := by decide +kernel
theorem x_s218 : xSh 218 = (0, [12]) := by decide +kernel
theorem x_s219 : xSh 219 = (0, [12]) := by decide +kernel
theorem x_s220 : xSh 220 = (0, [12]) := by decide +kernel
theorem x_s221 : xSh 221 = (0, [12]) := by decide +kernel
theorem x_s222 : xSh 222 = (6 + 4, xK_State) := by decide +kernel
theorem x_r222_0 : xRf 222 0 = 223 + 1 := by decide +kernel
theorem x_r222_1 : xRf 222 1 = 224 + 1 := by decide +kernel
theorem x_r222_2 : xRf 222 2 = 225 + 1 := by decide +kernel
theorem x_r222_3 : xRf 222 3 = 226 + 1 := by decide +kernel
theorem x_r222_4 : xRf 222 4 = 227 + 1 := by decide +kernel
theorem x_r222_5 : xRf 222 5 = 228 + 1 := by decide +kernel
theorem x_r222_6 : xRf 222 6 = 229 + 1 := by decide +kernel
theorem x_r222_7 : xRf 222 7 = 230 + 1 := by decide +kernel
theorem x_r222_8 : xRf 222 8 = 231 + 1 := by decide +kernel
theorem x_r222_9 : xRf 222 9 = 232 + 1 := by decide +kernel
theorem x_r222_10 : xRf 222 10 = 233 + 1 := by decide +kernel
theorem x_r222_11 : xRf 222 11 = 234 + 1 := by decide +kernel
theorem x_r222_14 : xRf 222 14 = 23 + 1 := by decide +kernel
theorem x_s223 : xSh 223 = (0, [7]) := by decide +kernel
theorem x_s224 : xSh 224 = (0, [7]) := by decide +kernel
theorem x_s225 : xSh 225 = (0, [7]) := by decide +kernel
theorem x_s226 : xSh 226 = (0, [12]) := by decide +kernel
theorem x_s227 : xSh 227 = (0, [12]) := by decide +kernel
theorem x_s228 : xSh 228 = (0, [12]) := by decide +kernel
theorem x_s229 : xSh 229 = (0, [12]) := by decide +kernel
theorem x_s230 : xSh 230 = (0, [12]) := by decide +kernel
theorem x_s231 : xSh 231 = (0, [12]) := by decide +kernel
theorem x_s232 : xSh 232 = (0, [12]) := by decide +kernel
theorem x_s233 : xSh 233 = (0, [12]) := by decide +kernel
theorem x_s234 : xSh 234 = (0, [12]) := by decide +kernel
theorem x_s235 : xSh 235 = (6 + 4, xK_State) := by decide +kernel
theorem x_r235_0 : xRf 235 0 = 236 + 1 := by decide +kernel
theorem x_r235_1 : xRf 235 1 = 237 + 1 := by decide +kernel
theorem x_r235_2 : xRf 235 2 = 238 + 1 := by decide +kernel
theorem x_r235_3 : xRf 235 3 = 239 + 1 := by decide +kernel
theorem x_r235_4 : xRf 235 4 = 240 + 1 := by decide +kernel
theorem x_r235_5 : xRf 235 5 = 241 + 1 := by decide +kernel
theorem x_r235_6 : xRf 235 6 = 242 + 1 := by decide +kernel
theorem x_r235_7 : xRf 235 7 = 243 + 1 := by decide +kernel
theorem x_r235_8 : xRf 235 8 = 244 + 1 := by decide +kernel
theorem x_r235_9 : xRf 235 9 = 245 + 1 := by decide +kernel
theorem x_r235_10 : xRf 235 10 = 246 + 1 := by decide +kernel
theorem x_r235_11 : xRf 235 11 = 247 + 1 := by decide +kernel
theorem x_r235_14 : xRf 235 14 = 23 + 1 := by decide +kernel
theorem x_s236 : xSh 236 = (0, [7]) := by decide +kernel
theorem x_s237 : xSh 237 = (0, [7]) := by decide +kernel
theorem x_s238 : xSh 238 = (0, [7]) := by decide +kernel
theorem x_s239 : xSh 239 = (0, [12]) := by decide +kernel
theorem x_s240 : xSh 240 = (0, [12]) := by decide +kernel
theorem x_s241 : xSh 241 = (0, [12]) := by decide +kernel
theorem x_s242 : xSh 242 = (0, [12]) := by decide +kernel
theorem x_s243 : xSh 243 = (0, [12]) := by decide +kernel
theorem x_s244 : xSh 244 = (0, [12]) := by decide +kernel
theorem x_s245 : xSh 245 = (0, [12]) := by decide +kernel
theorem x_s246 : xSh 246 = (0, [12]) := by decide +kernel
theorem x_s247 : xSh 247 = (0, [12]) := by decide +kernel
theorem x_s248 : xSh 248 = (6 + 4, xK_State) := by decide +kernel
theorem x_r248_0 : xRf 248 0 = 249 + 1 := by decide +kernel
theorem x_r248_1 : xRf 248 1 = 250 + 1 := by decide +kernel
theorem x_r248_2 : xRf 248 2 = 251 + 1 := by decide +kernel
theorem x_r248_3 : xRf 248 3 = 252 + 1 := by decide +kernel
theorem x_r248_4 : xRf 248 4 = 253 + 1 := by decide +kernel
theorem x_r248_5 : xRf 248 5 = 254 + 1 := by decide +kernel
theorem x_r248_6 : xRf 248 6 = 255 + 1 := by decide +kernel
theorem x_r248_7 : xRf 248 7 = 256 + 1 := by decide +kernel
theorem x_r248_8 : xRf 248 8 = 257 + 1 := by decide +kernel
theorem x_r248_9 : xRf 248 9 = 258 + 1 := by decide +kernel
theorem x_r248_10 : xRf 248 10 = 259 + 1 := by decide +kernel
theorem x_r248_11 : xRf 248 11 = 260 + 1 := by decide +kernel
theorem x_r248_14 : xRf 248 14 = 23 + 1 := by decide +kernel
theorem x_s249 : xSh 249 = (0, [7]) := by decide +kernel
theorem x_s250 : xSh 250 = (0, [7]) := by decide +kernel
theorem x_s251 : xSh 251 = (0, [7]) := by decide +kernel
theorem x_s252 : xSh 252 = (0, [12]) := by decide +kernel
theorem x_s253 : xSh 253 = (0, [12]) := by decide +kernel
theorem x_s254 : xSh 254 = (0, [12]) := by decide +kernel
theorem x_s255 : xSh 255 = (0, [12]) := by decide +kernel
theorem x_s256 : xSh 256 = (0, [12]) := by decide +kernel
theorem x_s257 : xSh 257 = (0, [12]) := by decide +kernel
theorem x_s258 : xSh 258 = (0, [12]) := by decide +kernel
theorem x_s259 : xSh 259 = (0, [12]) := by decide +kernel
theorem x_s260 : xSh 260 = (0, [12]) := by decide +kernel
theorem x_s261 : xSh 261 = (6 + 4, xK_State) := by decide +kernel
theorem x_r261_0 : xRf 261 0 = 262 + 1 := by decide +kernel
theorem x_r261_1 : xRf 261 1 = 263 + 1 := by decide +kernel
theorem x_r261_2 : xRf 261 2 = 264 + 1 := by decide +kernel
theorem x_r261_3 : xRf 261 3 = 265 + 1 := by decide +kernel
theorem x_r261_4 : xRf 261 4 = 266 + 1 := by decide +kernel
theorem x_r261_5 : xRf 261 5 = 267 + 1 := by decide +kernel
theorem x_r261_6 : xRf 261 6 = 268 + 1 := by decide +kernel
theorem x_r261_7 : xRf 261 7 = 269 + 1 := by decide +kernel
theorem x_r261_8 : xRf 261 8 = 270 + 1 := by decide +kernel
theorem x_r261_9 : xRf 261 9 = 271 + 1 := by decide +kernel
theorem x_r261_10 : xRf 261 10 = 272 + 1 := by decide +kernel
theorem x_r261_11 : xRf 261 11 = 273 + 1 := by decide +kernel
theorem x_r261_14 : xRf 261 14 = 23 + 1 := by decide +kernel
theorem x_s262 : xSh 262 = (0, [7]) := by decide +kernel
theorem x_s263 : xSh 263 = (0, [7]) := by decide +kernel
theorem x_s264 : xSh 264 = (0, [7]) := by decide +kernel
theorem x_s265 : xSh 265 = (0, [12]) := by decide +kernel
theorem x_s266 : xSh 266 = (0, [12]) := by decide +kernel
theorem x_s267 : xSh 267 = (0, [12]) := by decide +kernel
theorem x_s268 : xSh 268 = (0, [12]) := by decide +kernel
theorem x_s269 : xSh 269 = (0, [12]) := by decide +kernel
theorem x_s270 : xSh 270 = (0, [12]) := by decide +kernel
theorem x_s271 : xSh 271 = (0, [12]) := by decide +kernel
theorem x_s272 : xSh 272 = (0, [12]) := by decide +kernel
theorem x_s273 : xSh 273 = (0, [12]) := by decide +kernel
theorem x_s274 : xSh 274 = (6 + 4, xK_State) := by decide +kernel
theorem x_r274_0 : xRf 274 0 = 275 + 1 := by decide +kernel
theorem x_r274_1 : xRf 274 1 = 276 + 1 := by decide +kernel
theorem x_r274_2 : xRf 274 2 = 277 + 1 := by decide +kernel
theorem x_r274_3 : xRf 274 3 = 278 + 1 := by decide +kernel
theorem x_r274_4 : xRf 274 4 = 279 + 1 := by decide +kernel
theorem x_r274_5 : xRf 274 5 = 280 + 1 := by decide +kernel
theorem x_r274_6 : xRf 274 6 = 281 + 1 := by decide +kernel
theorem x_r274_7 : xRf 274 7 = 282 + 1 := by decide +kernel
theorem x_r274_8 : xRf 274 8 = 283 + 1 := by decide +kernel
theorem x_r274_9 : xRf 274 9 = 284 + 1 := by decide +kernel
theorem x_r274_10 : xRf 274 10 = 285 + 1 := by decide +kernel
theorem x_r274_11 : xRf 274 11 = 286 + 1 := by decide +kernel
theorem x_r274_14 : xRf 274 14 = 23 + 1 := by decide +kernel
theorem x_s275 : xSh 275 = (0, [7]) := by decide +kernel
theorem x_s276 : xSh 276 = (0, [7]) := by decide +kernel
theorem x_s277 : xSh 277 = (0, [7]) := by decide +kernel
theorem x_s278 : xSh 278 = (0, [12]) := by decide +kernel
theorem x_s279 : xSh 279 = (0, [12]) := by decide +kernel
theorem x_s280 : xSh 280 = (0, [12]) := by decide +kernel
theorem x_s281 : xSh 281 = (0, [12]) := by decide +kernel
theorem x_s282 : xSh 282 = (0, [12]) := by decide +kernel
theorem x_s283 : xSh 283 = (0, [12]) := by decide +kernel
theorem x_s284 : xSh 284 = (0, [12]) := by decide +kernel
theorem x_s285 : xSh 285 = (0, [12]) := by decide +kernel
theorem x_s286 : xSh 286 = (0, [12]) := by decide +kernel
theorem x_s287 : xSh 287 = (6 + 4, xK_State) := by decide +kernel
theorem x_r287_0 : xRf 287 0 = 288 + 1 := by decide +kernel
theorem x_r287_1 : xRf 287 1 = 289 + 1 := by decide +kernel
theorem x_r287_2 : xRf 287 2 = 290 + 1 := by decide +kernel
theorem x_r287_3 : xRf 287 3 = 291 + 1 := by decide +kernel
theorem x_r287_4 : xRf 287 4 = 292 + 1 := by decide +kernel
theorem x_r287_5 : xRf 287 5 = 293 + 1 := by decide +kernel
theorem x_r287_6 : xRf 287 6 = 294 + 1 := by decide +kernel
theorem x_r287_7 : xRf 287 7 = 295 + 1 := by decide +kernel
theorem x_r287_8 : xRf 287 8 = 296 + 1 := by decide +kernel
theorem x_r287_9 : xRf 287 9 = 297 + 1 := by decide +kernel
theorem x_r287_10 : xRf 287 10 = 298 + 1 := by decide +kernel
theorem x_r287_11 : xRf 287 11 = 299 + 1 := by decide +kernel
theorem x_r287_14 : xRf 287 14 = 23 + 1 := by decide +kernel
theorem x_s288 : xSh 288 = (0, [7]) := by decide +kernel
theorem x_s289 : xSh 289 = (0, [7]) := by decide +kernel
theorem x_s290 : xSh 290 = (0, [7]) := by decide +kernel
theorem x_s291 : xSh 291 = (0, [12]) := by decide +kernel
theorem x_s292 : xSh 292 = (0, [12]) := by decide +kernel
theorem x_s293 : xSh 293 = (0, [12]) := by decide +kernel
theorem x_s294 : xSh 294 = (0, [12]) := by decide +kernel
theorem x_s295 : xSh 295 = (0, [12]) := by decide +kernel
theorem x_s296 : xSh 296 = (0, [12]) := by decide +kernel
theorem x_s297 : xSh 297 = (0, [12]) := by decide +kernel
theorem x_s298 : xSh 298 = (0, [12]) := by decide +kernel
theorem x_s299 : xSh 299 = (0, [12]) := by decide +kernel
theorem x_s300 : xSh 300 = (6 + 4, xK_State) := by decide +kernel
theorem x_r300_0 : xRf 300 0 = 301 + 1 := by decide +kernel
theorem x_r300_1 : xRf 300 1 = 302 + 1 := by decide +kernel
theorem x_r300_2 : xRf 300 2 = 303 + 1 := by decide +kernel
theorem x_r300_3 : xRf 300 3 = 304 + 1 := by decide +kernel
theorem x_r300_4 : xRf 300 4 = 305 + 1 := by decide +kernel
theorem x_r300_5 : xRf 300 5 = 306 + 1 := by decide +kernel
theorem x_r300_6 : xRf 300 6 = 307 + 1 := by decide +kernel
theorem x_r300_7 : xRf 300 7 = 308 + 1 := by decide +kernel
theorem x_r300_8 : xRf 300 8 = 309 + 1 := by decide +kernel
theorem x_r300_9 : xRf 300 9 = 310 + 1 := by decide +kernel
theorem x_r300_10 : xRf 300 10 = 311 + 1 := by decide +kernel
theorem x_r300_11 : xRf 300 11 = 312 + 1 := by decide +kernel
theorem x_r300_14 : xRf 300 14 = 23 + 1 := by decide +kernel
theorem x_s301 : xSh 301 = (0, [7]) := by decide +kernel
theorem x_s302 : xSh 302 = (0, [7]) := by decide +kernel
theorem x_s303 : xSh 303 = (0, [7]) := by decide +kernel
theorem x_s304 : xSh 304 = (0, [12]) := by decide +kernel
theorem x_s305 : xSh 305 = (0, [12]) := by decide +kernel
theorem x_s306 : xSh 306 = (0, [12]) := by decide +kernel
theorem x_s307 : xSh 307 = (0, [12]) := by decide +kernel
theorem x_s308 : xSh 308 = (0, [12]) := by decide +kernel
theorem x_s309 : xSh 309 = (0, [12]) := by decide +kernel
theorem x_s310 : xSh 310 = (0, [12]) := by decide +kernel
theorem x_s311 : xSh 311 = (0, [12]) := by decide +kernel
theorem x_s312 : xSh 312 = (0, [12]) := by decide +kernel
theorem x_s313 : xSh 313 = (6 + 4, xK_State) := by decide +kernel
theorem x_r313_0 : xRf 313 0 = 314 + 1 := by decide +kernel
theorem x_r313_1 : xRf 313 1 = 315 + 1 := by decide +kernel
theorem x_r313_2 : xRf 313 2 = 316 + 1 := by decide +kernel
theorem x_r313_3 : xRf 313 3 = 317 + 1 := by decide +kernel
theorem x_r313_4 : xRf 313 4 = 318 + 1 := by decide +kernel
theorem x_r313_5 : xRf 313 5 = 319 + 1 := by decide +kernel
theorem x_r313_6 : xRf 313 6 = 320 + 1 := by decide +kernel
theorem x_r313_7 : xRf 313 7 = 321 + 1 := by decide +kernel
theorem x_r313_8 : xRf 313 8 = 322 + 1 := by decide +kernel
theorem x_r313_9 : xRf 313 9 = 323 + 1 := by decide +kernel
theorem x_r313_10 : xRf 313 10 = 324 + 1 := by decide +kernel
theorem x_r313_11 : xRf 313 11 = 325 + 1 := by decide +kernel
theorem x_r313_14 : xRf 313 14 = 23 + 1 := by decide +kernel
theorem x_s314 : xSh 314 = (0, [7]) := by decide +kernel
theorem x_s315 : xSh 315 = (0, [7]) := by decide +kernel
theorem x_s316 : xSh 316 = (0, [7]) := by decide +kernel
theorem x_s317 : xSh 317 = (0, [12]) := by decide +kernel
theorem x_s318 : xSh 318 = (0, [12]) := by decide +kernel
theorem x_s319 : xSh 319 = (0, [12]) := by decide +kernel
theorem x_s320 : xSh 320 = (0, [12]) := by decide +kernel
theorem x_s321 : xSh 321 = (0, [12]) := by decide +kernel
theorem x_s322 : xSh 322 = (0, [12]) := by decide +kernel
theorem x_s323 : xSh 323 = (0, [12]) := by decide +kernel
theorem x_s324 : xSh 324 = (0, [12]) := by decide +kernel
theorem x_s325 : xSh 325 = (0, [12]) := by decide +kernel
theorem x_s326 : xSh 326 = (1 + 4, xK_Matching) := by decide +kernel
theorem x_r326_0 : xRf 326 0 = 23 + 1 := by decide +kernel
theorem x_r326_1 : xRf 326 1 = 38 + 1 := by decide +kernel
theorem x_r326_2 : xRf 326 2 = 327 + 1 := by decide +kernel
theorem x_r326_3 : xRf 326 3 = 341 + 1 := by decide +kernel
theorem x_s327 : xSh 327 = (3, [13, 3]) := by decide +kernel
theorem x_s328 : xSh 328 = (0, [128]) := by decide +kernel
theorem x_s329 : xSh 329 = (0, [128]) := by decide +kernel
theorem x_s330 : xSh 330 = (0, [128]) := by decide +kernel
theorem x_s331 : xSh 331 = (0, [128]) := by decide +kernel
theorem x_s332 : xSh 332 = (0, [128]) := by decide +kernel
theorem x_s333 : xSh 333 = (0, [128]) := by decide +kernel
theorem x_s334 : xSh 334 = (0, [128]) := by decide +kernel
theorem x_s335 : xSh 335 = (0, [128]) := by decide +kernel
theorem x_s336 : xSh 336 = (0, [128]) := by decide +kernel
theorem x_s337 : xSh 337 = (0, [128]) := by decide +kernel
theorem x_s338 : xSh 338 = (0, [128]) := by decide +kernel
theorem x_s339 : xSh 339 = (0, [128]) := by decide +kernel
theorem x_s340 : xSh 340 = (0, [128]) := by decide +kernel
theorem x_s341 : xSh 341 = (3, [12, 3]) := by decide +kernel
theorem x_s342 : xSh 342 = (0, [7]) := by decide +kernel
theorem x_s343 : xSh 343 = (0, [7]) := by decide +kernel
theorem x_s344 : xSh 344 = (0, [7]) := by decide +kernel
theorem x_s345 : xSh 345 = (0, [7]) := by decide +kernel
theorem x_s346 : xSh 346 = (0, [7]) := by decide +kernel
theorem x_s347 : xSh 347 = (0, [7]) := by decide +kernel
theorem x_s348 : xSh 348 = (0, [7]) := by decide +kernel
theorem x_s349 : xSh 349 = (0, [7]) := by decide +kernel
theorem x_s350 : xSh 350 = (0, [7]) := by decide +kernel
theorem x_s351 : xSh 351 = (0, [7]) := by decide +kernel
theorem x_s352 : xSh 352 = (0, [7]) := by decide +kernel
theorem x_s353 : xSh 353 = (0, [7]) := by decide +kernel
theorem x_s354 : xSh 354 = (0 + 4, xK_Heard) := by decide +kernel
theorem x_r354_1 : xRf 354 1 = 23 + 1 := by decide +kernel
theorem x_r354_2 : xRf 354 2 = 38 + 1 := by decide +kernel
theorem x_r354_3 : xRf 354 3 = 51 + 1 := by decide +kernel
theorem x_r354_4 : xRf 354 4 = 355 + 1 := by decide +kernel
theorem x_r354_5 : xRf 354 5 = 356 + 1 := by decide +kernel
theorem x_r354_6 : xRf 354 6 = 357 + 1 := by decide +kernel
theorem x_r354_7 : xRf 354 7 = 358 + 1 := by decide +kernel
theorem x_r354_8 : xRf 354 8 = 369 + 1 := by decide +kernel
theorem x_s355 : xSh 355 = (0, [16]) := by decide +kernel
theorem x_s356 : xSh 356 = (0, [16]) := by decide +kernel
theorem x_s357 : xSh 357 = (0, [16]) := by decide +kernel
theorem x_s358 : xSh 358 = (3, [10, 3]) := by decide +kernel
theorem x_s359 : xSh 359 = (0, [372]) := by decide +kernel
theorem x_s360 : xSh 360 = (0, [372]) := by decide +kernel
theorem x_s361 : xSh 361 = (0, [372]) := by decide +kernel
theorem x_s362 : xSh 362 = (0, [372]) := by decide +kernel
theorem x_s363 : xSh 363 = (0, [372]) := by decide +kernel
theorem x_s364 : xSh 364 = (0, [372]) := by decide +kernel
theorem x_s365 : xSh 365 = (0, [372]) := by decide +kernel
theorem x_s366 : xSh 366 = (0, [372]) := by decide +kernel
theorem x_s367 : xSh 367 = (0, [372]) := by decide +kernel
theorem x_s368 : xSh 368 = (0, [372]) := by decide +kernel
theorem x_s369 : xSh 369 = (0, [8]) := by decide +kernel
theorem x_s370 : xSh 370 = (3 + 4, xK_Picture) := by decide +kernel
theorem x_r370_0 : xRf 370 0 = 371 + 1 := by decide +kernel
theorem x_r370_2 : xRf 370 2 = 23 + 1 := by decide +kernel
theorem x_r370_3 : xRf 370 3 = 38 + 1 := by decide +kernel
theorem x_r370_4 : xRf 370 4 = 51 + 1 := by decide +kernel
theorem x_s371 : xSh 371 = (0, [108]) := by decide +kernel
theorem x_s372 : xSh 372 = (0, [6]) := by decide +kernel
def xI_Town : List Nat := [4, 23]
def xI_Rules : List Nat := [13, 32]
def xI_State : List Nat := [38, 51, 66, 79, 92, 105, 118, 131, 144, 157, 170, 183, 196, 209, 222, 235, 248, 261, 274, 287, 300, 313]
theorem x_m4 : 4 ∈ xI_Town := by decide +kernel
theorem x_m23 : 23 ∈ xI_Town := by decide +kernel
theorem x_sI_Town_all : ∀ th, th ∈ xI_Town → xSh th = (9 + 4, xK_Town) := by decide +kernel
theorem x_sI_Town {th : Nat} (h : th ∈ xI_Town) : xSh th = (9 + 4, xK_Town) := x_sI_Town_all th h
theorem x_nI_Town_all : ∀ th, th ∈ xI_Town → th < xN := by decide +kernel
theorem x_nI_Town {th : Nat} (h : th ∈ xI_Town) : th < xN := x_nI_Town_all th h
theorem x_rI_Town_4_all : ∀ th, th ∈ xI_Town → xRf th 4 = (th + 1) + 1 := by decide +kernel
theorem x_rI_Town_4 {th : Nat} (h : th ∈ xI_Town) : xRf th 4 = (th + 1) + 1 := x_rI_Town_4_all th h
theorem x_aI_Town_4_all : ∀ th, th ∈ xI_Town → xSh (th + 1) = (0, [7]) := by decide +kernel
theorem x_aI_Town_4 {th : Nat} (h : th ∈ xI_Town) : xSh (th + 1) = (0, [7]) := x_aI_Town_4_all th h
theorem x_bI_Town_4_all : ∀ th, th ∈ xI_Town → th + 1 < xN := by decide +kernel
theorem x_bI_Town_4 {th : Nat} (h : th ∈ xI_Town) : th + 1 < xN := x_bI_Town_4_all th h
theorem x_rI_Town_5_all : ∀ th, th ∈ xI_Town → xRf th 5 = (th + 2) + 1 := by decide +kernel
theorem x_rI_Town_5 {th : Nat} (h : th ∈ xI_Town) : xRf th 5 = (th + 2) + 1 := x_rI_Town_5_all th h
theorem x_aI_Town_5_all : ∀ th, th ∈ xI_Town → xSh (th + 2) = (0, [7]) := by decide +kernel
theorem x_aI_Town_5 {th : Nat} (h : th ∈ xI_Town) : xSh (th + 2) = (0, [7]) := x_aI_Town_5_all th h
theorem x_bI_Town_5_all : ∀ th, th ∈ xI_Town → th + 2 < xN := by decide +kernel
theorem x_bI_Town_5 {th : Nat} (h : th ∈ xI_Town) : th + 2 < xN := x_bI_Town_5_all th h
theorem x_rI_Town_6_all : ∀ th, th ∈ xI_Town → xRf th 6 = (th + 3) + 1 := by decide +kernel
theorem x_rI_Town_6 {th : Nat} (h : th ∈ xI_Town) : xRf th 6 = (th + 3) + 1 := x_rI_Town_6_all th h
theorem x_aI_Town_6_all : ∀ th, th ∈ xI_Town → xSh (th + 3) = (0, [8]) := by decide +kernel
theorem x_aI_Town_6 {th : Nat} (h : th ∈ xI_Town) : xSh (th + 3) = (0, [8]) := x_aI_Town_6_all th h
theorem x_bI_Town_6_all : ∀ th, th ∈ xI_Town → th + 3 < xN := by decide +kernel
theorem x_bI_Town_6 {th : Nat} (h : th ∈ xI_Town) : th + 3 < xN := x_bI_Town_6_all th h
theorem x_rI_Town_7_all : ∀ th, th ∈ xI_Town → xRf th 7 = (th + 4) + 1 := by decide +kernel
theorem x_rI_Town_7 {th : Nat} (h : th ∈ xI_Town) : xRf th 7 = (th + 4) + 1 := x_rI_Town_7_all th h
theorem x_aI_Town_7_all : ∀ th, th ∈ xI_Town → xSh (th + 4) = (0, [8]) := by decide +kernel
theorem x_aI_Town_7 {th : Nat} (h : th ∈ xI_Town) : xSh (th + 4) = (0, [8]) := x_aI_Town_7_all th h
theorem x_bI_Town_7_all : ∀ th, th ∈ xI_Town → th + 4 < xN := by decide +kernel
theorem x_bI_Town_7 {th : Nat} (h : th ∈ xI_Town) : th + 4 < xN := x_bI_Town_7_all th h
theorem x_rI_Town_8_all : ∀ th, th ∈ xI_Town → xRf th 8 = (th + 5) + 1 := by decide +kernel
theorem x_rI_Town_8 {th : Nat} (h : th ∈ xI_Town) : xRf th 8 = (th + 5) + 1 := x_rI_Town_8_all th h
theorem x_aI_Town_8_all : ∀ th, th ∈ xI_Town → xSh (th + 5) = (0, [8]) := by decide +kernel
theorem x_aI_Town_8 {th : Nat} (h : th ∈ xI_Town) : xSh (th + 5) = (0, [8]) := x_aI_Town_8_all th h
theorem x_bI_Town_8_all : ∀ th, th ∈ xI_Town → th + 5 < xN := by decide +kernel
theorem x_bI_Town_8 {th : Nat} (h : th ∈ xI_Town) : th + 5 < xN := x_bI_Town_8_all th h
theorem x_rI_Town_9_all : ∀ th, th ∈ xI_Town → xRf th 9 = (th + 6) + 1 := by decide +kernel
theorem x_rI_Town_9 {th : Nat} (h : th ∈ xI_Town) : xRf th 9 = (th + 6) + 1 := x_rI_Town_9_all th h
theorem x_aI_Town_9_all : ∀ th, th ∈ xI_Town → xSh (th + 6) = (0, [12]) := by decide +kernel
theorem x_aI_Town_9 {th : Nat} (h : th ∈ xI_Town) : xSh (th + 6) = (0, [12]) := x_aI_Town_9_all th h
theorem x_bI_Town_9_all : ∀ th, th ∈ xI_Town → th + 6 < xN := by decide +kernel
theorem x_bI_Town_9 {th : Nat} (h : th ∈ xI_Town) : th + 6 < xN := x_bI_Town_9_all th h
theorem x_rI_Town_10_all : ∀ th, th ∈ xI_Town → xRf th 10 = (th + 7) + 1 := by decide +kernel
theorem x_rI_Town_10 {th : Nat} (h : th ∈ xI_Town) : xRf th 10 = (th + 7) + 1 := x_rI_Town_10_all th h
theorem x_aI_Town_10_all : ∀ th, th ∈ xI_Town → xSh (th + 7) = (0, [12]) := by decide +kernel
theorem x_aI_Town_10 {th : Nat} (h : th ∈ xI_Town) : xSh (th + 7) = (0, [12]) := x_aI_Town_10_all th h
theorem x_bI_Town_10_all : ∀ th, th ∈ xI_Town → th + 7 < xN := by decide +kernel
theorem x_bI_Town_10 {th : Nat} (h : th ∈ xI_Town) : th + 7 < xN := x_bI_Town_10_all th h
theorem x_rI_Town_11_all : ∀ th, th ∈ xI_Town → xRf th 11 = (th + 8) + 1 := by decide +kernel
theorem x_rI_Town_11 {th : Nat} (h : th ∈ xI_Town) : xRf th 11 = (th + 8) + 1 := x_rI_Town_11_all th h
theorem x_aI_Town_11_all : ∀ th, th ∈ xI_Town → xSh (th + 8) = (0, [12]) := by decide +kernel
theorem x_aI_Town_11 {th : Nat} (h : th ∈ xI_Town) : xSh (th + 8) = (0, [12]) := x_aI_Town_11_all th h
theorem x_bI_Town_11_all : ∀ th, th ∈ xI_Town → th + 8 < xN := by decide +kernel
theorem x_bI_Town_11 {th : Nat} (h : th ∈ xI_Town) : th + 8 < xN := x_bI_Town_11_all th h
theorem x_rI_Town_12_all : ∀ th, th ∈ xI_Town → xRf th 12 = (th + 9) + 1 := by decide +kernel
theorem x_rI_Town_12 {th : Nat} (h : th ∈ xI_Town) : xRf th 12 = (th + 9) + 1 := x_rI_Town_12_all th h
theorem x_oI_Town_12_all : ∀ th, th ∈ xI_Town → th + 9 ∈ xI_Rules := by decide +kernel
theorem x_oI_Town_12 {th : Nat} (h : th ∈ xI_Town) : th + 9 ∈ xI_Rules := x_oI_Town_12_all th h
theorem x_m13 : 13 ∈ xI_Rules := by decide +kernel
theorem x_m32 : 32 ∈ xI_Rules := by decide +kernel
theorem x_sI_Rules_all : ∀ th, th ∈ xI_Rules → xSh th = (5 + 4, xK_Rules) := by decide +kernel
theorem x_sI_Rules {th : Nat} (h : th ∈ xI_Rules) : xSh th = (5 + 4, xK_Rules) := x_sI_Rules_all th h
theorem x_nI_Rules_all : ∀ th, th ∈ xI_Rules → th < xN := by decide +kernel
theorem x_nI_Rules {th : Nat} (h : th ∈ xI_Rules) : th < xN := x_nI_Rules_all th h
theorem x_rI_Rules_0_all : ∀ th, th ∈ xI_Rules → xRf th 0 = (th + 1) + 1 := by decide +kernel
theorem x_rI_Rules_0 {th : Nat} (h : th ∈ xI_Rules) : xRf th 0 = (th + 1) + 1 := x_rI_Rules_0_all th h
theorem x_aI_Rules_0_all : ∀ th, th ∈ xI_Rules → xSh (th + 1) = (0, [23]) := by decide +kernel
theorem x_aI_Rules_0 {th : Nat} (h : th ∈ xI_Rules) : xSh (th + 1) = (0, [23]) := x_aI_Rules_0_all th h
theorem x_bI_Rules_0_all : ∀ th, th ∈ xI_Rules → th + 1 < xN := by decide +kernel
theorem x_bI_Rules_0 {th : Nat} (h : th ∈ xI_Rules) : th + 1 < xN := x_bI_Rules_0_all th h
theorem x_rI_Rules_1_all : ∀ th, th ∈ xI_Rules → xRf th 1 = (th + 2) + 1 := by decide +kernel
theorem x_rI_Rules_1 {th : Nat} (h : th ∈ xI_Rules) : xRf th 1 = (th + 2) + 1 := x_rI_Rules_1_all th h
theorem x_aI_Rules_1_all : ∀ th, th ∈ xI_Rules → xSh (th + 2) = (0, [1600]) := by decide +kernel
theorem x_aI_Rules_1 {th : Nat} (h : th ∈ xI_Rules) : xSh (th + 2) = (0, [1600]) := x_aI_Rules_1_all th h
theorem x_bI_Rules_1_all : ∀ th, th ∈ xI_Rules → th + 2 < xN := by decide +kernel
theorem x_bI_Rules_1 {th : Nat} (h : th ∈ xI_Rules) : th + 2 < xN := x_bI_Rules_1_all th h
theorem x_rI_Rules_2_all : ∀ th, th ∈ xI_Rules → xRf th 2 = (th + 3) + 1 := by decide +kernel
theorem x_rI_Rules_2 {th : Nat} (h : th ∈ xI_Rules) : xRf th 2 = (th + 3) + 1 := x_rI_Rules_2_all th h
theorem x_aI_Rules_2_all : ∀ th, th ∈ xI_Rules → xSh (th + 3) = (0, [3]) := by decide +kernel
theorem x_aI_Rules_2 {th : Nat} (h : th ∈ xI_Rules) : xSh (th + 3) = (0, [3]) := x_aI_Rules_2_all th h
theorem x_bI_Rules_2_all : ∀ th, th ∈ xI_Rules → th + 3 < xN := by decide +kernel
theorem x_bI_Rules_2 {th : Nat} (h : th ∈ xI_Rules) : th + 3 < xN := x_bI_Rules_2_all th h
theorem x_rI_Rules_3_all : ∀ th, th ∈ xI_Rules → xRf th 3 = (th + 4) + 1 := by decide +kernel
theorem x_rI_Rules_3 {th : Nat} (h : th ∈ xI_Rules) : xRf th 3 = (th + 4) + 1 := x_rI_Rules_3_all th h
theorem x_aI_Rules_3_all : ∀ th, th ∈ xI_Rules → xSh (th + 4) = (0, [3]) := by decide +kernel
theorem x_aI_Rules_3 {th : Nat} (h : th ∈ xI_Rules) : xSh (th + 4) = (0, [3]) := x_aI_Rules_3_all th h
theorem x_bI_Rules_3_all : ∀ th, th ∈ xI_Rules → th + 4 < xN := by decide +kernel
theorem x_bI_Rules_3 {th : Nat} (h : th ∈ xI_Rules) : th + 4 < xN := x_bI_Rules_3_all th h
theorem x_rI_Rules_4_all : ∀ th, th ∈ xI_Rules → xRf th 4 = (th + 5) + 1 := by decide +kernel
theorem x_rI_Rules_4 {th : Nat} (h : th ∈ xI_Rules) : xRf th 4 = (th + 5) + 1 := x_rI_Rules_4_all th h
theorem x_aI_Rules_4_all : ∀ th, th ∈ xI_Rules → xSh (th + 5) = (0, [64]) := by decide +kernel
theorem x_aI_Rules_4 {th : Nat} (h : th ∈ xI_Rules) : xSh (th + 5) = (0, [64]) := x_aI_Rules_4_all th h
theorem x_bI_Rules_4_all : ∀ th, th ∈ xI_Rules → th + 5 < xN := by decide +kernel
theorem x_bI_Rules_4 {th : Nat} (h : th ∈ xI_Rules) : th + 5 < xN := x_bI_Rules_4_all th h
theorem x_m38 : 38 ∈ xI_State := by decide +kernel
theorem x_m51 : 51 ∈ xI_State := by decide +kernel
theorem x_m66 : 66 ∈ xI_State := by decide +kernel
theorem x_m79 : 79 ∈ xI_State := by decide +kernel
theorem x_m92 : 92 ∈ xI_State := by decide +kernel
theorem x_m105 : 105 ∈ xI_State := by decide +kernel
theorem x_m118 : 118 ∈ xI_State := by decide +kernel
theorem x_m131 : 131 ∈ xI_State := by decide +kernel
theorem x_m144 : 144 ∈ xI_State := by decide +kernel
theorem x_m157 : 157 ∈ xI_State := by decide +kernel
theorem x_m170 : 170 ∈ xI_State := by decide +kernel
theorem x_m183 : 183 ∈ xI_State := by decide +kernel
theorem x_m196 : 196 ∈ xI_State := by decide +kernel
theorem x_m209 : 209 ∈ xI_State := by decide +kernel
theorem x_m222 : 222 ∈ xI_State := by decide +kernel
theorem x_m235 : 235 ∈ xI_State := by decide +kernel
theorem x_m248 : 248 ∈ xI_State := by decide +kernel
theorem x_m261 : 261 ∈ xI_State := by decide +kernel
theorem x_m274 : 274 ∈ xI_State := by decide +kernel
theorem x_m287 : 287 ∈ xI_State := by decide +kernel
theorem x_m300 : 300 ∈ xI_State := by decide +kernel
theorem x_m313 : 313 ∈ xI_State := by decide +kernel
theorem x_sI_State_all : ∀ th, th ∈ xI_State → xSh th = (6 + 4, xK_State) := by decide +kernel
theorem x_sI_State {th : Nat} (h : th ∈ xI_State) : xSh th = (6 + 4, xK_State) := x_sI_State_all th h
theorem x_nI_State_all : ∀ th, th ∈ xI_State → th < xN := by decide +kernel
theorem x_nI_State {th : Nat} (h : th ∈ xI_State) : th < xN := x_nI_State_all th h
theorem x_rI_State_0_all : ∀ th, th ∈ xI_State → xRf th 0 = (th + 1) + 1 := by decide +kernel
theorem x_rI_State_0 {th : Nat} (h : th ∈ xI_State) : xRf th 0 = (th + 1) + 1 := x_rI_State_0_all th h
theorem x_aI_State_0_all : ∀ th, th ∈ xI_State → xSh (th + 1) = (0, [7]) := by decide +kernel
theorem x_aI_State_0 {th : Nat} (h : th ∈ xI_State) : xSh (th + 1) = (0, [7]) := x_aI_State_0_all th h
theorem x_bI_State_0_all : ∀ th, th ∈ xI_State → th + 1 < xN := by decide +kernel
theorem x_bI_State_0 {th : Nat} (h : th ∈ xI_State) : th + 1 < xN := x_bI_State_0_all th h
theorem x_rI_State_1_all : ∀ th, th ∈ xI_State → xRf th 1 = (th + 2) + 1 := by decide +kernel
theorem x_rI_State_1 {th : Nat} (h : th ∈ xI_State) : xRf th 1 = (th + 2) + 1 := x_rI_State_1_all th h
theorem x_aI_State_1_all : ∀ th, th ∈ xI_State → xSh (th + 2) = (0, [7]) := by decide +kernel
theorem x_aI_State_1 {th : Nat} (h : th ∈ xI_State) : xSh (th + 2) = (0, [7]) := x_aI_State_1_all th h
theorem x_bI_State_1_all : ∀ th, th ∈ xI_State → th + 2 < xN := by decide +kernel
theorem x_bI_State_1 {th : Nat} (h : th ∈ xI_State) : th + 2 < xN := x_bI_State_1_all th h
theorem x_rI_State_2_all : ∀ th, th ∈ xI_State → xRf th 2 = (th + 3) + 1 := by decide +kernel
theorem x_rI_State_2 {th : Nat} (h : th ∈ xI_State) : xRf th 2 = (th + 3) + 1 := x_rI_State_2_all th h
theorem x_aI_State_2_all : ∀ th, th ∈ xI_State → xSh (th + 3) = (0, [7]) := by decide +kernel
theorem x_aI_State_2 {th : Nat} (h : th ∈ xI_State) : xSh (th + 3) = (0, [7]) := x_aI_State_2_all th h
theorem x_bI_State_2_all : ∀ th, th ∈ xI_State → th + 3 < xN := by decide +kernel
theorem x_bI_State_2 {th : Nat} (h : th ∈ xI_State) : th + 3 < xN := x_bI_State_2_all th h
theorem x_rI_State_3_all : ∀ th, th ∈ xI_State → xRf th 3 = (th + 4) + 1 := by decide +kernel
theorem x_rI_State_3 {th : Nat} (h : th ∈ xI_State) : xRf th 3 = (th + 4) + 1 := x_rI_State_3_all th h
theorem x_aI_State_3_all : ∀ th, th ∈ xI_State → xSh (th + 4) = (0, [12]) := by decide +kernel
theorem x_aI_State_3 {th : Nat} (h : th ∈ xI_State) : xSh (th + 4) = (0, [12]) := x_aI_State_3_all th h
theorem x_bI_State_3_all : ∀ th, th ∈ xI_State → th + 4 < xN := by decide +kernel
theorem x_bI_State_3 {th : Nat} (h : th ∈ xI_State) : th + 4 < xN := x_bI_State_3_all th h
theorem x_rI_State_4_all : ∀ th, th ∈ xI_State → xRf th 4 = (th + 5) + 1 := by decide +kernel
theorem x_rI_State_4 {th : Nat} (h : th ∈ xI_State) : xRf th 4 = (th + 5) + 1 := x_rI_State_4_all th h
theorem x_aI_State_4_all : ∀ th, th ∈ xI_State → xSh (th + 5) = (0, [12]) := by decide +kernel
theorem x_aI_State_4 {th : Nat} (h : th ∈ xI_State) : xSh (th + 5) = (0, [12]) := x_aI_State_4_all th h
theorem x_bI_State_4_all : ∀ th, th ∈ xI_State → th + 5 < xN := by decide +kernel
theorem x_bI_State_4 {th : Nat} (h : th ∈ xI_State) : th + 5 < xN := x_bI_State_4_all th h
theorem x_rI_State_5_all : ∀ th, th ∈ xI_State → xRf th 5 = (th + 6) + 1 := by decide +kernel
theorem x_rI_State_5 {th : Nat} (h : th ∈ xI_State) : xRf th 5 = (th + 6) + 1 := x_rI_State_5_all th h
theorem x_aI_State_5_all : ∀ th, th ∈ xI_State → xSh (th + 6) = (0, [12]) := by decide +kernel
theorem x_aI_State_5 {th : Nat} (h : th ∈ xI_State) : xSh (th + 6) = (0, [12]) := x_aI_State_5_all th h
theorem x_bI_State_5_all : ∀ th, th ∈ xI_State → th + 6 < xN := by decide +kernel
theorem x_bI_State_5 {th : Nat} (h : th ∈ xI_State) : th + 6 < xN := x_bI_State_5_all th h
theorem x_rI_State_6_all : ∀ th, th ∈ xI_State → xRf th 6 = (th + 7) + 1 := by decide +kernel
theorem x_rI_State_6 {th : Nat} (h : th ∈ xI_State) : xRf th 6 = (th + 7) + 1 := x_rI_State_6_all th h
theorem x_aI_State_6_all : ∀ th, th ∈ xI_State → xSh (th + 7) = (0, [12]) := by decide +kernel
theorem x_aI_State_6 {th : Nat} (h : th ∈ xI_State) : xSh (th + 7) = (0, [12]) := x_aI_State_6_all th h
theorem x_bI_State_6_all : ∀ th, th ∈ xI_State → th + 7 < xN := by decide +kernel
theorem x_bI_State_6 {th : Nat} (h : th ∈ xI_State) : th + 7 < xN := x_bI_State_6_all th h
theorem x_rI_State_7_all : ∀ th, th ∈ xI_State → xRf th 7 = (th + 8) + 1 := by decide +kernel
theorem x_rI_State_7 {th : Nat} (h : th ∈ xI_State) : xRf th 7 = (th + 8) + 1 := x_rI_State_7_all th h
theorem x_aI_State_7_all : ∀ th, th ∈ xI_State → xSh (th + 8) = (0, [12]) := by decide +kernel
theorem x_aI_State_7 {th : Nat} (h : th ∈ xI_State) : xSh (th + 8) = (0, [12]) := x_aI_State_7_all th h
theorem x_bI_State_7_all : ∀ th, th ∈ xI_State → th + 8 < xN := by decide +kernel
theorem x_bI_State_7 {th : Nat} (h : th ∈ xI_State) : th + 8 < xN := x_bI_State_7_all th h
theorem x_rI_State_8_all : ∀ th, th ∈ xI_State → xRf th 8 = (th + 9) + 1 := by decide +kernel
theorem x_rI_State_8 {th : Nat} (h : th ∈ xI_State) : xRf th 8 = (th + 9) + 1 := x_rI_State_8_all th h
theorem x_aI_State_8_all : ∀ th, th ∈ xI_State → xSh (th + 9) = (0, [12]) := by decide +kernel
theorem x_aI_State_8 {th : Nat} (h : th ∈ xI_State) : xSh (th + 9) = (0, [12]) := x_aI_State_8_all th h
theorem x_bI_State_8_all : ∀ th, th ∈ xI_State → th + 9 < xN := by decide +kernel
theorem x_bI_State_8 {th : Nat} (h : th ∈ xI_State) : th + 9 < xN := x_bI_State_8_all th h
theorem x_rI_State_9_all : ∀ th, th ∈ xI_State → xRf th 9 = (th + 10) + 1 := by decide +kernel
theorem x_rI_State_9 {th : Nat} (h : th ∈ xI_State) : xRf th 9 = (th + 10) + 1 := x_rI_State_9_all th h
theorem x_aI_State_9_all : ∀ th, th ∈ xI_State → xSh (th + 10) = (0, [12]) := by decide +kernel
theorem x_aI_State_9 {th : Nat} (h : th ∈ xI_State) : xSh (th + 10) = (0, [12]) := x_aI_State_9_all th h
theorem x_bI_State_9_all : ∀ th, th ∈ xI_State → th + 10 < xN := by decide +kernel
theorem x_bI_State_9 {th : Nat} (h : th ∈ xI_State) : th + 10 < xN := x_bI_State_9_all th h
theorem x_rI_State_10_all : ∀ th, th ∈ xI_State → xRf th 10 = (th + 11) + 1 := by decide +kernel
theorem x_rI_State_10 {th : Nat} (h : th ∈ xI_State) : xRf th 10 = (th + 11) + 1 := x_rI_State_10_all th h
theorem x_aI_State_10_all : ∀ th, th ∈ xI_State → xSh (th + 11) = (0, [12]) := by decide +kernel
theorem x_aI_State_10 {th : Nat} (h : th ∈ xI_State) : xSh (th + 11) = (0, [12]) := x_aI_State_10_all th h
theorem x_bI_State_10_all : ∀ th, th ∈ xI_State → th + 11 < xN := by decide +kernel
theorem x_bI_State_10 {th : Nat} (h : th ∈ xI_State) : th + 11 < xN := x_bI_State_10_all th h
theorem x_rI_State_11_all : ∀ th, th ∈ xI_State → xRf th 11 = (th + 12) + 1 := by decide +kernel
theorem x_rI_State_11 {th : Nat} (h : th ∈ xI_State) : xRf th 11 = (th + 12) + 1 := x_rI_State_11_all th h
theorem x_aI_State_11_all : ∀ th, th ∈ xI_State → xSh (th + 12) = (0, [12]) := by decide +kernel
theorem x_aI_State_11 {th : Nat} (h : th ∈ xI_State) : xSh (th + 12) = (0, [12]) := x_aI_State_11_all th h
theorem x_bI_State_11_all : ∀ th, th ∈ xI_State → th + 12 < xN := by decide +kernel
theorem x_bI_State_11 {th : Nat} (h : th ∈ xI_State) : th + 12 < xN := x_bI_State_11_all th h
theorem x_rI_State_14_all : ∀ th, th ∈ xI_State → xRf th 14 = 23 + 1 := by decide +kernel
theorem x_rI_State_14 {th : Nat} (h : th ∈ xI_State) : xRf th 14 = 23 + 1 := x_rI_State_14_all th h
theorem x_lt {i : Int} {L iN : Nat} (h : 0 ≤ i ∧ i < (L : Int)) (e : i.toNat = iN) : iN < L := by omega
theorem x_qr65_all : ∀ i, i < 20 → xRf 65 i = (66 + 13 * i) + 1 := by decide +kernel
theorem x_qr65 {i : Nat} (h : i < 20) : xRf 65 i = (66 + 13 * i) + 1 := x_qr65_all i h
theorem x_qm65_all : ∀ i, i < 20 → 66 + 13 * i ∈ xI_State := by decide +kernel
theorem x_qm65 {i : Nat} (h : i < 20) : 66 + 13 * i ∈ xI_State := x_qm65_all i h
theorem x_qr327_all : ∀ i, i < 13 → xRf 327 i = (328 + i) + 1 := by decide +kernel
theorem x_qr327 {i : Nat} (h : i < 13) : xRf 327 i = (328 + i) + 1 := x_qr327_all i h
theorem x_qs327_all : ∀ i, i < 13 → xSh (328 + i) = (0, [128]) := by decide +kernel
theorem x_qs327 {i : Nat} (h : i < 13) : xSh (328 + i) = (0, [128]) := x_qs327_all i h
theorem x_qn327_all : ∀ i, i < 13 → 328 + i < xN := by decide +kernel
theorem x_qn327 {i : Nat} (h : i < 13) : 328 + i < xN := x_qn327_all i h
theorem x_qr341_all : ∀ i, i < 12 → xRf 341 i = (342 + i) + 1 := by decide +kernel
theorem x_qr341 {i : Nat} (h : i < 12) : xRf 341 i = (342 + i) + 1 := x_qr341_all i h
theorem x_qs341_all : ∀ i, i < 12 → xSh (342 + i) = (0, [7]) := by decide +kernel
theorem x_qs341 {i : Nat} (h : i < 12) : xSh (342 + i) = (0, [7]) := x_qs341_all i h
theorem x_qn341_all : ∀ i, i < 12 → 342 + i < xN := by decide +kernel
theorem x_qn341 {i : Nat} (h : i < 12) : 342 + i < xN := x_qn341_all i h
theorem x_qr358_all : ∀ i, i < 10 → xRf 358 i = (359 + i) + 1 := by decide +kernel
theorem x_qr358 {i : Nat} (h : i < 10) : xRf 358 i = (359 + i) + 1 := x_qr358_all i h
theorem x_qs358_all : ∀ i, i < 10 → xSh (359 + i) = (0, [372]) := by decide +kernel
theorem x_qs358 {i : Nat} (h : i < 10) : xSh (359 + i) = (0, [372]) := x_qs358_all i h
theorem x_qn358_all : ∀ i, i < 10 → 359 + i < xN := by decide +kernel
theorem x_qn358 {i : Nat} (h : i < 10) : 359 + i < xN := x_qn358_all i h
abbrev xWX (p : Program) (l : Launch) (e : Env) (rf rl : Nat) (s : State) (m : MethodId) (args : Array Value) (below : List Frame) (meth : Method) (c : Code) (nL : Nat) (D : va_G) (E : Nat → ClassId) (b : Nat) (rv : Option Value) (M0 M : Mem) (pc : Nat) (lv : List (Nat × Value)) (st : List Value) : Prop := WX p l e (mkR rf rl) s m args below meth c nL D E vwCl xSh b xN xRf (MQ below (QQ D vwCl E xSh b xN xRf rv M0) args s 0 0 (AW b xN)) M pc lv st
