/-! THE REFERENCE'S WORLD (written by wip/whole/gen/model.py) -/
def mKds : List Nat := [2, 0, 0, 0, 0, 0, 0, 1, 0, 0, 0, 0, 0, 0, 2, 2, 2, 2, 2, 2, 2, 2, 2, 2, 2, 2, 2, 2, 2, 2, 0, 0, 0, 2, 2, 2, 2, 2, 0, 0, 2, 0, 3, 2, 2, 2, 2, 2, 2, 2, 2, 2, 2, 2, 2, 2, 0, 0, 1, 2, 2, 2, 2, 0, 2, 2, 2, 2, 2, 0]
def mSh : Shp := fun k => match k with
  | 0 => (11 + 4, mKds)
  | 1 => (0, [1800])
  | 2 => (0, [2])
  | 3 => (0, [14])
  | 4 => (0, [2])
  | 5 => (0, [16])
  | 6 => (0, [16])
  | 7 => (0, [2])
  | 8 => (0, [24])
  | 9 => (0, [24])
  | 10 => (0, [24])
  | 11 => (0, [2])
  | 12 => (0, [6])
  | 13 => (0, [6])
  | 14 => (0, [3200])
  | 15 => (0, [3200])
  | 16 => (1, [14])
  | 17 => (1, [16])
  | 18 => (0, [20])
  | 19 => (0, [20])
  | 20 => (2, [20])
  | 21 => (0, [20])
  | 22 => (0, [20])
  | 23 => (0, [500])
  | 24 => (0, [6])
  | 25 => (0, [22])
  | 26 => (0, [154])
  | 27 => (0, [154])
  | 28 => (0, [22])
  | 29 => (0, [264])
  | 30 => (0, [264])
  | 31 => (0, [264])
  | 32 => (0, [264])
  | 33 => (0, [264])
  | 34 => (0, [22])
  | 35 => (0, [22])
  | 36 => (0, [2640])
  | 37 => (1, [500])
  | 38 => (0, [12])
  | 39 => (0, [12])
  | 40 => (0, [1664])
  | 41 => (0, [16])
  | 42 => (0, [16])
  | 43 => (0, [16])
  | 44 => (0, [3720])
  | 45 => (0, [120])
  | _ => (0, [0])
abbrev mN : Nat := 46
def mRfL : List Nat := [2, 0, 0, 0, 0, 0, 0, 0, 0, 0, 0, 0, 0, 0, 3, 4, 5, 6, 7, 8, 9, 10, 11, 12, 13, 14, 15, 16, 17, 18, 0, 0, 0, 19, 20, 21, 22, 23, 0, 0, 24, 0, 0, 25, 26, 27, 28, 29, 30, 31, 32, 33, 34, 35, 36, 37, 0, 0, 0, 38, 39, 40, 41, 0, 42, 43, 44, 45, 46, 0]
def mRf : Nat → Nat → Nat := fun k j => match k with
  | 0 => mRfL.getD j 0
  | _ => 0
theorem m_s0 : mSh 0 = (11 + 4, mKds) := rfl
theorem m_s1 : mSh 1 = (0, [1800]) := rfl
theorem m_s2 : mSh 2 = (0, [2]) := rfl
theorem m_s3 : mSh 3 = (0, [14]) := rfl
theorem m_s4 : mSh 4 = (0, [2]) := rfl
theorem m_s5 : mSh 5 = (0, [16]) := rfl
theorem m_s6 : mSh 6 = (0, [16]) := rfl
theorem m_s7 : mSh 7 = (0, [2]) := rfl
theorem m_s8 : mSh 8 = (0, [24]) := rfl
theorem m_s9 : mSh 9 = (0, [24]) := rfl
theorem m_s10 : mSh 10 = (0, [24]) := rfl
theorem m_s11 : mSh 11 = (0, [2]) := rfl
theorem m_s12 : mSh 12 = (0, [6]) := rfl
theorem m_s13 : mSh 13 = (0, [6]) := rfl
theorem m_s14 : mSh 14 = (0, [3200]) := rfl
theorem m_s15 : mSh 15 = (0, [3200]) := rfl
theorem m_s16 : mSh 16 = (1, [14]) := rfl
theorem m_s17 : mSh 17 = (1, [16]) := rfl
theorem m_s18 : mSh 18 = (0, [20]) := rfl
theorem m_s19 : mSh 19 = (0, [20]) := rfl
theorem m_s20 : mSh 20 = (2, [20]) := rfl
theorem m_s21 : mSh 21 = (0, [20]) := rfl
theorem m_s22 : mSh 22 = (0, [20]) := rfl
theorem m_s23 : mSh 23 = (0, [500]) := rfl
theorem m_s24 : mSh 24 = (0, [6]) := rfl
theorem m_s25 : mSh 25 = (0, [22]) := rfl
theorem m_s26 : mSh 26 = (0, [154]) := rfl
theorem m_s27 : mSh 27 = (0, [154]) := rfl
theorem m_s28 : mSh 28 = (0, [22]) := rfl
theorem m_s29 : mSh 29 = (0, [264]) := rfl
theorem m_s30 : mSh 30 = (0, [264]) := rfl
theorem m_s31 : mSh 31 = (0, [264]) := rfl
theorem m_s32 : mSh 32 = (0, [264]) := rfl
theorem m_s33 : mSh 33 = (0, [264]) := rfl
theorem m_s34 : mSh 34 = (0, [22]) := rfl
theorem m_s35 : mSh 35 = (0, [22]) := rfl
theorem m_s36 : mSh 36 = (0, [2640]) := rfl
theorem m_s37 : mSh 37 = (1, [500]) := rfl
theorem m_s38 : mSh 38 = (0, [12]) := rfl
theorem m_s39 : mSh 39 = (0, [12]) := rfl
theorem m_s40 : mSh 40 = (0, [1664]) := rfl
theorem m_s41 : mSh 41 = (0, [16]) := rfl
theorem m_s42 : mSh 42 = (0, [16]) := rfl
theorem m_s43 : mSh 43 = (0, [16]) := rfl
theorem m_s44 : mSh 44 = (0, [3720]) := rfl
theorem m_s45 : mSh 45 = (0, [120]) := rfl
theorem m_k0 : mKds[0]? = some 2 := rfl
theorem m_r0 : mRf 0 0 = 1 + 1 := rfl
theorem m_k1 : mKds[1]? = some 0 := rfl
theorem m_k2 : mKds[2]? = some 0 := rfl
theorem m_k3 : mKds[3]? = some 0 := rfl
theorem m_k4 : mKds[4]? = some 0 := rfl
theorem m_k5 : mKds[5]? = some 0 := rfl
theorem m_k6 : mKds[6]? = some 0 := rfl
theorem m_k7 : mKds[7]? = some 1 := rfl
theorem m_k8 : mKds[8]? = some 0 := rfl
theorem m_k9 : mKds[9]? = some 0 := rfl
theorem m_k10 : mKds[10]? = some 0 := rfl
theorem m_k11 : mKds[11]? = some 0 := rfl
theorem m_k12 : mKds[12]? = some 0 := rfl
theorem m_k13 : mKds[13]? = some 0 := rfl
theorem m_k14 : mKds[14]? = some 2 := rfl
theorem m_r14 : mRf 0 14 = 2 + 1 := rfl
theorem m_k15 : mKds[15]? = some 2 := rfl
theorem m_r15 : mRf 0 15 = 3 + 1 := rfl
theorem m_k16 : mKds[16]? = some 2 := rfl
theorem m_r16 : mRf 0 16 = 4 + 1 := rfl
theorem m_k17 : mKds[17]? = some 2 := rfl
theorem m_r17 : mRf 0 17 = 5 + 1 := rfl
theorem m_k18 : mKds[18]? = some 2 := rfl
theorem m_r18 : mRf 0 18 = 6 + 1 := rfl
theorem m_k19 : mKds[19]? = some 2 := rfl
theorem m_r19 : mRf 0 19 = 7 + 1 := rfl
theorem m_k20 : mKds[20]? = some 2 := rfl
theorem m_r20 : mRf 0 20 = 8 + 1 := rfl
theorem m_k21 : mKds[21]? = some 2 := rfl
theorem m_r21 : mRf 0 21 = 9 + 1 := rfl
theorem m_k22 : mKds[22]? = some 2 := rfl
theorem m_r22 : mRf 0 22 = 10 + 1 := rfl
theorem m_k23 : mKds[23]? = some 2 := rfl
theorem m_r23 : mRf 0 23 = 11 + 1 := rfl
theorem m_k24 : mKds[24]? = some 2 := rfl
theorem m_r24 : mRf 0 24 = 12 + 1 := rfl
theorem m_k25 : mKds[25]? = some 2 := rfl
theorem m_r25 : mRf 0 25 = 13 + 1 := rfl
theorem m_k26 : mKds[26]? = some 2 := rfl
theorem m_r26 : mRf 0 26 = 14 + 1 := rfl
theorem m_k27 : mKds[27]? = some 2 := rfl
theorem m_r27 : mRf 0 27 = 15 + 1 := rfl
theorem m_k28 : mKds[28]? = some 2 := rfl
theorem m_r28 : mRf 0 28 = 16 + 1 := rfl
theorem m_k29 : mKds[29]? = some 2 := rfl
theorem m_r29 : mRf 0 29 = 17 + 1 := rfl
theorem m_k30 : mKds[30]? = some 0 := rfl
theorem m_k31 : mKds[31]? = some 0 := rfl
theorem m_k32 : mKds[32]? = some 0 := rfl
theorem m_k33 : mKds[33]? = some 2 := rfl
theorem m_r33 : mRf 0 33 = 18 + 1 := rfl
theorem m_k34 : mKds[34]? = some 2 := rfl
theorem m_r34 : mRf 0 34 = 19 + 1 := rfl
theorem m_k35 : mKds[35]? = some 2 := rfl
theorem m_r35 : mRf 0 35 = 20 + 1 := rfl
theorem m_k36 : mKds[36]? = some 2 := rfl
theorem m_r36 : mRf 0 36 = 21 + 1 := rfl
theorem m_k37 : mKds[37]? = some 2 := rfl
theorem m_r37 : mRf 0 37 = 22 + 1 := rfl
theorem m_k38 : mKds[38]? = some 0 := rfl
theorem m_k39 : mKds[39]? = some 0 := rfl
theorem m_k40 : mKds[40]? = some 2 := rfl
theorem m_r40 : mRf 0 40 = 23 + 1 := rfl
theorem m_k41 : mKds[41]? = some 0 := rfl
theorem m_k42 : mKds[42]? = some 3 := rfl
theorem m_k43 : mKds[43]? = some 2 := rfl
theorem m_r43 : mRf 0 43 = 24 + 1 := rfl
theorem m_k44 : mKds[44]? = some 2 := rfl
theorem m_r44 : mRf 0 44 = 25 + 1 := rfl
theorem m_k45 : mKds[45]? = some 2 := rfl
theorem m_r45 : mRf 0 45 = 26 + 1 := rfl
theorem m_k46 : mKds[46]? = some 2 := rfl
theorem m_r46 : mRf 0 46 = 27 + 1 := rfl
theorem m_k47 : mKds[47]? = some 2 := rfl
theorem m_r47 : mRf 0 47 = 28 + 1 := rfl
theorem m_k48 : mKds[48]? = some 2 := rfl
theorem m_r48 : mRf 0 48 = 29 + 1 := rfl
theorem m_k49 : mKds[49]? = some 2 := rfl
theorem m_r49 : mRf 0 49 = 30 + 1 := rfl
theorem m_k50 : mKds[50]? = some 2 := rfl
theorem m_r50 : mRf 0 50 = 31 + 1 := rfl
theorem m_k51 : mKds[51]? = some 2 := rfl
theorem m_r51 : mRf 0 51 = 32 + 1 := rfl
theorem m_k52 : mKds[52]? = some 2 := rfl
theorem m_r52 : mRf 0 52 = 33 + 1 := rfl
theorem m_k53 : mKds[53]? = some 2 := rfl
theorem m_r53 : mRf 0 53 = 34 + 1 := rfl
theorem m_k54 : mKds[54]? = some 2 := rfl
theorem m_r54 : mRf 0 54 = 35 + 1 := rfl
theorem m_k55 : mKds[55]? = some 2 := rfl
theorem m_r55 : mRf 0 55 = 36 + 1 := rfl
theorem m_k56 : mKds[56]? = some 0 := rfl
theorem m_k57 : mKds[57]? = some 0 := rfl
theorem m_k58 : mKds[58]? = some 1 := rfl
theorem m_k59 : mKds[59]? = some 2 := rfl
theorem m_r59 : mRf 0 59 = 37 + 1 := rfl
theorem m_k60 : mKds[60]? = some 2 := rfl
theorem m_r60 : mRf 0 60 = 38 + 1 := rfl
theorem m_k61 : mKds[61]? = some 2 := rfl
theorem m_r61 : mRf 0 61 = 39 + 1 := rfl
theorem m_k62 : mKds[62]? = some 2 := rfl
theorem m_r62 : mRf 0 62 = 40 + 1 := rfl
theorem m_k63 : mKds[63]? = some 0 := rfl
theorem m_k64 : mKds[64]? = some 2 := rfl
theorem m_r64 : mRf 0 64 = 41 + 1 := rfl
theorem m_k65 : mKds[65]? = some 2 := rfl
theorem m_r65 : mRf 0 65 = 42 + 1 := rfl
theorem m_k66 : mKds[66]? = some 2 := rfl
theorem m_r66 : mRf 0 66 = 43 + 1 := rfl
theorem m_k67 : mKds[67]? = some 2 := rfl
theorem m_r67 : mRf 0 67 = 44 + 1 := rfl
theorem m_k68 : mKds[68]? = some 2 := rfl
theorem m_r68 : mRf 0 68 = 45 + 1 := rfl
theorem m_k69 : mKds[69]? = some 0 := rfl
theorem mw_lays : ∀ w ∈ u_ws RX12 TX12 70, w ∈ gws := gws_ps [1314, 1316, 1318, 1320, 1322, 1324, 1326, 1328, 1330, 1332, 1334, 1336, 1338, 1340, 1342, 1344, 1346, 1348, 1350, 1352, 1354, 1356, 1358, 1360, 1362, 1364, 1366, 1368, 1370, 1372, 1374, 1376, 1378, 1380, 1382, 1384, 1386, 1388, 1390, 1392, 1394, 1396, 1398, 1400, 1402, 1404, 1406, 1408, 1410, 1412, 1414, 1416, 1418, 1420, 1422, 1424, 1426, 1428, 1430, 1432, 1434, 1436, 1438, 1440, 1442, 1444, 1446, 1448, 1450, 1452] (by decide +kernel) (by decide +kernel)
theorem mw_ft : FT vwCl 11 := ⟨RX12, TX12, 70, tyX12, rfl, tyX12_ok, nmX12⟩
theorem m_w1 : FW vwCl 11 1 .int := ⟨RX12, TX12, 70, rfl, by decide +kernel, by decide +kernel⟩
theorem m_w2 : FW vwCl 11 2 .int := ⟨RX12, TX12, 70, rfl, by decide +kernel, by decide +kernel⟩
theorem m_w3 : FW vwCl 11 3 .int := ⟨RX12, TX12, 70, rfl, by decide +kernel, by decide +kernel⟩
theorem m_w4 : FW vwCl 11 4 .int := ⟨RX12, TX12, 70, rfl, by decide +kernel, by decide +kernel⟩
theorem m_w5 : FW vwCl 11 5 .int := ⟨RX12, TX12, 70, rfl, by decide +kernel, by decide +kernel⟩
theorem m_w6 : FW vwCl 11 6 .int := ⟨RX12, TX12, 70, rfl, by decide +kernel, by decide +kernel⟩
theorem m_w7 : FW vwCl 11 7 .long := ⟨RX12, TX12, 70, rfl, by decide +kernel, by decide +kernel⟩
theorem m_w8 : FW vwCl 11 8 .int := ⟨RX12, TX12, 70, rfl, by decide +kernel, by decide +kernel⟩
theorem m_w9 : FW vwCl 11 9 .int := ⟨RX12, TX12, 70, rfl, by decide +kernel, by decide +kernel⟩
theorem m_w10 : FW vwCl 11 10 .int := ⟨RX12, TX12, 70, rfl, by decide +kernel, by decide +kernel⟩
theorem m_w11 : FW vwCl 11 11 .int := ⟨RX12, TX12, 70, rfl, by decide +kernel, by decide +kernel⟩
theorem m_w12 : FW vwCl 11 12 .int := ⟨RX12, TX12, 70, rfl, by decide +kernel, by decide +kernel⟩
theorem m_w13 : FW vwCl 11 13 .int := ⟨RX12, TX12, 70, rfl, by decide +kernel, by decide +kernel⟩
theorem m_w30 : FW vwCl 11 30 .int := ⟨RX12, TX12, 70, rfl, by decide +kernel, by decide +kernel⟩
theorem m_w31 : FW vwCl 11 31 .int := ⟨RX12, TX12, 70, rfl, by decide +kernel, by decide +kernel⟩
theorem m_w32 : FW vwCl 11 32 .int := ⟨RX12, TX12, 70, rfl, by decide +kernel, by decide +kernel⟩
theorem m_w38 : FW vwCl 11 38 .int := ⟨RX12, TX12, 70, rfl, by decide +kernel, by decide +kernel⟩
theorem m_w39 : FW vwCl 11 39 .int := ⟨RX12, TX12, 70, rfl, by decide +kernel, by decide +kernel⟩
theorem m_w41 : FW vwCl 11 41 .int := ⟨RX12, TX12, 70, rfl, by decide +kernel, by decide +kernel⟩
theorem m_w42 : FW vwCl 11 42 .boolean := ⟨RX12, TX12, 70, rfl, by decide +kernel, by decide +kernel⟩
theorem m_w56 : FW vwCl 11 56 .int := ⟨RX12, TX12, 70, rfl, by decide +kernel, by decide +kernel⟩
theorem m_w57 : FW vwCl 11 57 .int := ⟨RX12, TX12, 70, rfl, by decide +kernel, by decide +kernel⟩
theorem m_w58 : FW vwCl 11 58 .long := ⟨RX12, TX12, 70, rfl, by decide +kernel, by decide +kernel⟩
theorem m_w63 : FW vwCl 11 63 .int := ⟨RX12, TX12, 70, rfl, by decide +kernel, by decide +kernel⟩
theorem m_w69 : FW vwCl 11 69 .int := ⟨RX12, TX12, 70, rfl, by decide +kernel, by decide +kernel⟩
def mExt : Nat → State → Prop := fun _ _ => True
theorem mExtOK (b : Nat) : ExtOK (mExt b) (AW b mN) := fun _ _ _ _ _ _ => trivial
abbrev mCX (p : Program) (s : State) (m : MethodId) (args : Array Value) (meth : Method) (c : Code) (cc : ByteArray) (nL : Nat) (own : String) (D : va_G) (E : Nat → ClassId) (b : Nat) : Prop := CX p s m args meth c cc nL own D E vwCl (mExt b) (AW b mN)
abbrev mWX (p : Program) (l : Launch) (e : Env) (rf rl : Nat) (s : State) (m : MethodId) (args : Array Value) (below : List Frame) (meth : Method) (c : Code) (nL : Nat) (D : va_G) (E : Nat → ClassId) (b : Nat) (rv : Option Value) (M0 M : Mem) (pc : Nat) (lv : List (Nat × Value)) (st : List Value) : Prop := WX p l e (mkR rf rl) s m args below meth c nL D E vwCl mSh b mN mRf (MQ below (QQ D vwCl E mSh b mN mRf rv M0) args s 0 0 (AW b mN)) M pc lv st
