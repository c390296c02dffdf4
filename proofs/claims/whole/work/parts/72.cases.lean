/-! the law's 41 calls: both answer alike, and both go on alike -/
abbrev YW (W : va_G × (ClassId × ClassId × ClassId) × (Nat → Nat) × (Nat → Nat)) (n : Nat) : YT := (W.1, W.2.1, W.2.2.1, W.2.2.2, n)
abbrev WT : Type := va_G × (ClassId × ClassId × ClassId) × (Nat → Nat) × (Nat → Nat)
abbrev YC (V : LV) (W : WT) : YT := YW W (sL V).heap.size
abbrev YM (V : LV) (W : WT) : YT := YW W ((sL V).heap.size + 112)
def EA (V : LV) (W : WT) : Prop := Ex FC (YC V W) (sL V) ∧ Ex FM (YM V W) (sL V)
def PL2 (V : LV) (W : WT) (σ τ : St) : Heap → Prop := fun H => RepS FC (YC V W) σ H ∧ RepS FM (YM V W) τ H
def lvL (V : LV) (W : WT) (i : Nat) : List (Nat × Value) := [(3, .int (nI i)), (2, Rf (YM V W) 0), (1, Rf (YC V W) 0), (0, .ref (bL V))]
abbrev zL : Nat × Nat := (600000, 7302250)
theorem RepS.keep {F : FT} {Y : YT} {σ : St} {H H1 : Heap} (h : RepS F Y σ H) (A : Nat → Prop) (hA : ∀ q, bY Y ≤ q → q < bY Y + F.2 → ¬ A q) (o : ∀ q, q < H.size → ¬ A q → H1[q]? = H[q]?) : RepS F Y σ H1 := fun k hk => (h k hk).kept (o _ (va_at.lt (h k hk)) (hA _ (Nat.le_add_right _ _) (Nat.add_lt_add_left hk _)))
section LCASES
variable {V : LV} {W : WT} {pc : Nat} {rest st : List Value} {i : Nat} {σ τ σ' τ' : St} {r : Int32}
theorem ps_C (H H1 : Heap) (h : PL2 V W σ τ H) (h1 : RepS FC (YC V W) σ' H1) (o : ∀ q, q < H.size → ¬ AF FC (YC V W) q → H1[q]? = H[q]?) : PL2 V W σ' τ H1 := ⟨h1, h.2.keep (AF FC (YC V W)) (fun q a _ b => by have := b.2; show False; change (sL V).heap.size + 112 ≤ q at a; change q < (sL V).heap.size + 112 at this; omega) o⟩
theorem ps_M (H H1 : Heap) (h : PL2 V W σ τ H) (h1 : RepS FM (YM V W) τ' H1) (o : ∀ q, q < H.size → ¬ AF FM (YM V W) q → H1[q]? = H[q]?) : PL2 V W σ τ' H1 := ⟨h.1.keep (AF FM (YM V W)) (fun q _ a b => by have := b.1; show False; change q < (sL V).heap.size + 112 at a; change (sL V).heap.size + 112 ≤ q at this; omega) o, h1⟩
theorem l_arg (C : LAt V) (n : Nat) {iv : Int} (hn : Int32.ofInt iv = nI n) (hi : i + n < LL V) (hL : LL V ≤ 3072) (d1 : decode code pc = .ok (.aload_n 0, 1)) (d2 : decode code (pc + 1) = .ok (.iload_n 3, 1)) (d3 : decode code (pc + 1 + 1) = .ok (.iconst iv, 1)) (d4 : decode code (pc + 1 + 1 + 1) = .ok (.iadd, 1)) (d5 : decode code (pc + 1 + 1 + 1 + 1) = .ok (.iaload, 1)) {hp : Heap → Prop}
    (k : LJ V zL (pc + 1 + 1 + 1 + 1 + 1) (lvL V W i) (.int (xL V (i + n)) :: rest) hp) : LJ V zL pc (lvL V W i) rest hp := by
  refine l_aload_n C 3 d1 rfl ?_
  refine l_iload_n C 0 d2 rfl ?_
  refine l_iconst C d3 hn ?_
  refine l_iadd C d4 ?_
  rw [nI_add]
  exact l_at C hi (Nat.lt_of_le_of_lt hL (by decide)) d5 k
theorem l_cC (C : LAt V) (E : EA V W) {idx d n maxL : Nat} {y : MethodName} {bytes : ByteArray} {As : List Value} {o : Option (Int32 × St)} (lk : LkV R_law idx y bytes maxL (some .int) n) (hct : CtE (emI FC (YC V W)) FC (YC V W) y bytes maxL (some .int) d (Rf (YC V W) 0 :: As) σ o) (ho : o = some (r, σ')) (hd : Nat.ble d 200 = true) (hm : Nat.ble maxL 45 = true) (hc : recvOK 10 y.cls = true) (hn : As.length = n) (hst : st = As.reverse ++ Rf (YC V W) 0 :: rest) (hW : (rest.map fun v => v.category).sum ≤ 8) (dd : decode code pc = .ok (.invokevirtual idx, 3)) (k : LJ V zL (pc + 3) (lvL V W i) (.int r :: rest) (PL2 V W σ' τ)) : LJ V zL pc (lvL V W i) st (PL2 V W σ τ) :=
  l_callV C E.1 (Nat.le_refl _) lk hct ho hd hm skC_0 (by decide) hc hn hst hW dd ⟨Nat.le_refl _, Nat.le_refl _⟩ (fun H h => h.1) ps_C k
theorem l_cM (C : LAt V) (E : EA V W) {idx d n maxL : Nat} {y : MethodName} {bytes : ByteArray} {As : List Value} {o : Option (Int32 × St)} (lk : LkV R_law idx y bytes maxL (some .int) n) (hct : CtE (emI FM (YM V W)) FM (YM V W) y bytes maxL (some .int) d (Rf (YM V W) 0 :: As) τ o) (ho : o = some (r, τ')) (hd : Nat.ble d 200 = true) (hm : Nat.ble maxL 45 = true) (hc : recvOK 11 y.cls = true) (hn : As.length = n) (hst : st = As.reverse ++ Rf (YM V W) 0 :: rest) (hW : (rest.map fun v => v.category).sum ≤ 8) (dd : decode code pc = .ok (.invokevirtual idx, 3)) (k : LJ V zL (pc + 3) (lvL V W i) (.int r :: rest) (PL2 V W σ τ')) : LJ V zL pc (lvL V W i) st (PL2 V W σ τ) :=
  l_callV C E.2 (Nat.le_add_right _ _) lk hct ho hd hm skM_0 (by decide) hc hn hst hW dd ⟨Nat.le_refl _, Nat.le_refl _⟩ (fun H h => h.2) ps_M k
theorem lk_L_13 : LkV R_law 13 yX10_wells cX10_wells 3 (some .int) 1 := ⟨TB_p [421, 422, 423, 69, 424] (by decide +kernel) (by decide +kernel), by decide +kernel, by decide +kernel, by decide +kernel⟩
theorem lk_L_17 : LkV R_law 17 yX11_wells cX11_wells 2 (some .int) 1 := ⟨TB_p [1216, 1217, 1218, 81, 1219] (by decide +kernel) (by decide +kernel), by decide +kernel, by decide +kernel, by decide +kernel⟩
theorem lk_L_18 : LkV R_law 18 yX10_way cX10_way 4 (some .int) 3 := ⟨TB_p [459, 460, 461, 69, 462] (by decide +kernel) (by decide +kernel), by decide +kernel, by decide +kernel, by decide +kernel⟩
theorem lk_L_22 : LkV R_law 22 yX11_way cX11_way 4 (some .int) 3 := ⟨TB_p [1225, 1226, 1227, 81, 1228] (by decide +kernel) (by decide +kernel), by decide +kernel, by decide +kernel, by decide +kernel⟩
theorem lk_L_23 : LkV R_law 23 yX10_ofWay cX10_ofWay 3 (some .int) 2 := ⟨TB_p [473, 474, 475, 69, 476] (by decide +kernel) (by decide +kernel), by decide +kernel, by decide +kernel, by decide +kernel⟩
theorem lk_L_27 : LkV R_law 27 yX11_ofWay cX11_ofWay 3 (some .int) 2 := ⟨TB_p [1240, 1241, 1242, 81, 1243] (by decide +kernel) (by decide +kernel), by decide +kernel, by decide +kernel, by decide +kernel⟩
theorem lk_L_28 : LkV R_law 28 yX10_stop cX10_stop 4 (some .int) 2 := ⟨TB_p [488, 489, 490, 69, 491] (by decide +kernel) (by decide +kernel), by decide +kernel, by decide +kernel, by decide +kernel⟩
theorem lk_L_31 : LkV R_law 31 yX11_stop cX11_stop 3 (some .int) 2 := ⟨TB_p [1252, 1253, 1254, 81, 1255] (by decide +kernel) (by decide +kernel), by decide +kernel, by decide +kernel, by decide +kernel⟩
theorem lk_L_32 : LkV R_law 32 yX10_rain cX10_rain 3 (some .int) 1 := ⟨TB_p [495, 496, 497, 69, 498] (by decide +kernel) (by decide +kernel), by decide +kernel, by decide +kernel, by decide +kernel⟩
theorem lk_L_35 : LkV R_law 35 yX11_rain cX11_rain 2 (some .int) 1 := ⟨TB_p [1256, 1257, 1258, 81, 1259] (by decide +kernel) (by decide +kernel), by decide +kernel, by decide +kernel, by decide +kernel⟩
theorem lk_L_36 : LkV R_law 36 yX10_call cX10_call 4 (some .int) 3 := ⟨TB_p [499, 500, 501, 69, 502] (by decide +kernel) (by decide +kernel), by decide +kernel, by decide +kernel, by decide +kernel⟩
theorem lk_L_39 : LkV R_law 39 yX11_call cX11_call 4 (some .int) 3 := ⟨TB_p [1260, 1261, 1262, 81, 1263] (by decide +kernel) (by decide +kernel), by decide +kernel, by decide +kernel, by decide +kernel⟩
theorem lk_L_40 : LkV R_law 40 yX10_ofSaying cX10_ofSaying 4 (some .int) 2 := ⟨TB_p [511, 512, 513, 69, 514] (by decide +kernel) (by decide +kernel), by decide +kernel, by decide +kernel, by decide +kernel⟩
theorem lk_L_43 : LkV R_law 43 yX11_ofSaying cX11_ofSaying 3 (some .int) 2 := ⟨TB_p [1277, 1278, 1279, 81, 1280] (by decide +kernel) (by decide +kernel), by decide +kernel, by decide +kernel, by decide +kernel⟩
theorem lk_L_44 : LkV R_law 44 yX10_change cX10_change 6 (some .int) 3 := ⟨TB_p [573, 574, 575, 69, 576] (by decide +kernel) (by decide +kernel), by decide +kernel, by decide +kernel, by decide +kernel⟩
theorem lk_L_47 : LkV R_law 47 yX11_change cX11_change 5 (some .int) 3 := ⟨TB_p [1325, 1326, 1327, 81, 1328] (by decide +kernel) (by decide +kernel), by decide +kernel, by decide +kernel, by decide +kernel⟩
theorem lk_L_48 : LkV R_law 48 yX10_become cX10_become 4 (some .int) 2 := ⟨TB_p [577, 578, 579, 69, 580] (by decide +kernel) (by decide +kernel), by decide +kernel, by decide +kernel, by decide +kernel⟩
theorem lk_L_51 : LkV R_law 51 yX11_become cX11_become 3 (some .int) 2 := ⟨TB_p [1329, 1330, 1331, 81, 1332] (by decide +kernel) (by decide +kernel), by decide +kernel, by decide +kernel, by decide +kernel⟩
theorem lk_L_52 : LkV R_law 52 yX10_as cX10_as 3 (some .int) 2 := ⟨TB_p [581, 582, 583, 69, 584] (by decide +kernel) (by decide +kernel), by decide +kernel, by decide +kernel, by decide +kernel⟩
theorem lk_L_55 : LkV R_law 55 yX11_as cX11_as 3 (some .int) 2 := ⟨TB_p [1333, 1334, 1335, 81, 1336] (by decide +kernel) (by decide +kernel), by decide +kernel, by decide +kernel, by decide +kernel⟩
theorem lk_L_56 : LkV R_law 56 yX10_folk cX10_folk 3 (some .int) 2 := ⟨TB_p [593, 594, 595, 69, 596] (by decide +kernel) (by decide +kernel), by decide +kernel, by decide +kernel, by decide +kernel⟩
theorem lk_L_59 : LkV R_law 59 yX11_folk cX11_folk 3 (some .int) 2 := ⟨TB_p [1338, 1339, 1340, 81, 1341] (by decide +kernel) (by decide +kernel), by decide +kernel, by decide +kernel, by decide +kernel⟩
theorem lk_L_60 : LkV R_law 60 yX10_ofFolk cX10_ofFolk 3 (some .int) 2 := ⟨TB_p [602, 603, 604, 69, 605] (by decide +kernel) (by decide +kernel), by decide +kernel, by decide +kernel, by decide +kernel⟩
theorem lk_L_63 : LkV R_law 63 yX11_ofFolk cX11_ofFolk 3 (some .int) 2 := ⟨TB_p [1346, 1347, 1348, 81, 1349] (by decide +kernel) (by decide +kernel), by decide +kernel, by decide +kernel, by decide +kernel⟩
theorem lk_L_64 : LkV R_law 64 yX10_drink cX10_drink 5 (some .int) 3 := ⟨TB_p [623, 624, 625, 69, 626] (by decide +kernel) (by decide +kernel), by decide +kernel, by decide +kernel, by decide +kernel⟩
theorem lk_L_67 : LkV R_law 67 yX11_drink cX11_drink 5 (some .int) 3 := ⟨TB_p [1354, 1355, 1356, 81, 1357] (by decide +kernel) (by decide +kernel), by decide +kernel, by decide +kernel, by decide +kernel⟩
theorem lk_L_70 : LkV R_law 70 yX10_feed cX10_feed 5 (some .int) 2 := ⟨TB_p [639, 640, 641, 69, 642] (by decide +kernel) (by decide +kernel), by decide +kernel, by decide +kernel, by decide +kernel⟩
theorem lk_L_74 : LkV R_law 74 yX11_feed cX11_feed 5 (some .int) 2 := ⟨TB_p [1112, 1113, 1114, 81, 1115] (by decide +kernel) (by decide +kernel), by decide +kernel, by decide +kernel, by decide +kernel⟩
theorem lk_L_75 : LkV R_law 75 yX10_text cX10_text 3 (some .int) 1 := ⟨TB_p [645, 646, 647, 69, 648] (by decide +kernel) (by decide +kernel), by decide +kernel, by decide +kernel, by decide +kernel⟩
theorem lk_L_78 : LkV R_law 78 yX11_text cX11_text 3 (some .int) 1 := ⟨TB_p [1127, 1128, 1129, 81, 1130] (by decide +kernel) (by decide +kernel), by decide +kernel, by decide +kernel, by decide +kernel⟩
theorem lk_L_79 : LkV R_law 79 yX10_law cX10_law 5 (some .int) 4 := ⟨TB_p [795, 796, 797, 69, 798] (by decide +kernel) (by decide +kernel), by decide +kernel, by decide +kernel, by decide +kernel⟩
theorem lk_L_83 : LkV R_law 83 yX11_law cX11_law 5 (some .int) 4 := ⟨TB_p [1192, 1193, 1194, 81, 1195] (by decide +kernel) (by decide +kernel), by decide +kernel, by decide +kernel, by decide +kernel⟩
theorem lk_L_84 : LkV R_law 84 yX10_hours cX10_hours 3 (some .int) 1 := ⟨TB_p [800, 801, 802, 69, 803] (by decide +kernel) (by decide +kernel), by decide +kernel, by decide +kernel, by decide +kernel⟩
theorem lk_L_87 : LkV R_law 87 yX11_hours cX11_hours 2 (some .int) 1 := ⟨TB_p [1358, 1359, 1360, 81, 1361] (by decide +kernel) (by decide +kernel), by decide +kernel, by decide +kernel, by decide +kernel⟩
theorem lk_L_88 : LkV R_law 88 yX10_loose cX10_loose 3 (some .int) 1 := ⟨TB_p [837, 838, 839, 69, 840] (by decide +kernel) (by decide +kernel), by decide +kernel, by decide +kernel, by decide +kernel⟩
theorem lk_L_91 : LkV R_law 91 yX11_loose cX11_loose 3 (some .int) 1 := ⟨TB_p [1382, 1383, 1384, 81, 1385] (by decide +kernel) (by decide +kernel), by decide +kernel, by decide +kernel, by decide +kernel⟩
theorem lk_L_92 : LkV R_law 92 yX10_then cX10_then 3 (some .int) 2 := ⟨TB_p [846, 847, 848, 69, 849] (by decide +kernel) (by decide +kernel), by decide +kernel, by decide +kernel, by decide +kernel⟩
theorem lk_L_95 : LkV R_law 95 yX11_then cX11_then 3 (some .int) 2 := ⟨TB_p [1391, 1392, 1393, 81, 1394] (by decide +kernel) (by decide +kernel), by decide +kernel, by decide +kernel, by decide +kernel⟩
theorem lk_L_96 : LkV R_law 96 yX10_learns cX10_learns 5 (some .int) 2 := ⟨TB_p [861, 862, 863, 69, 864] (by decide +kernel) (by decide +kernel), by decide +kernel, by decide +kernel, by decide +kernel⟩
theorem lk_L_99 : LkV R_law 99 yX11_learns cX11_learns 5 (some .int) 2 := ⟨TB_p [1405, 1406, 1407, 81, 1408] (by decide +kernel) (by decide +kernel), by decide +kernel, by decide +kernel, by decide +kernel⟩
theorem lk_L_100 : LkV R_law 100 yX10_calls cX10_calls 8 (some .int) 4 := ⟨TB_p [866, 867, 868, 69, 869] (by decide +kernel) (by decide +kernel), by decide +kernel, by decide +kernel, by decide +kernel⟩
theorem lk_L_103 : LkV R_law 103 yX11_calls cX11_calls 8 (some .int) 4 := ⟨TB_p [1414, 1415, 1416, 81, 1417] (by decide +kernel) (by decide +kernel), by decide +kernel, by decide +kernel, by decide +kernel⟩
theorem lk_L_104 : LkV R_law 104 yX10_stops cX10_stops 7 (some .int) 3 := ⟨TB_p [871, 872, 873, 69, 874] (by decide +kernel) (by decide +kernel), by decide +kernel, by decide +kernel, by decide +kernel⟩
theorem lk_L_107 : LkV R_law 107 yX11_stops cX11_stops 7 (some .int) 3 := ⟨TB_p [1426, 1427, 1428, 81, 1429] (by decide +kernel) (by decide +kernel), by decide +kernel, by decide +kernel, by decide +kernel⟩
theorem lk_L_108 : LkV R_law 108 yX10_who cX10_who 6 (some .int) 2 := ⟨TB_p [879, 880, 881, 69, 882] (by decide +kernel) (by decide +kernel), by decide +kernel, by decide +kernel, by decide +kernel⟩
theorem lk_L_111 : LkV R_law 111 yX11_who cX11_who 5 (some .int) 2 := ⟨TB_p [1441, 1442, 1443, 81, 1444] (by decide +kernel) (by decide +kernel), by decide +kernel, by decide +kernel, by decide +kernel⟩
theorem lk_L_112 : LkV R_law 112 yX10_loud cX10_loud 10 (some .int) 4 := ⟨TB_p [902, 903, 904, 69, 905] (by decide +kernel) (by decide +kernel), by decide +kernel, by decide +kernel, by decide +kernel⟩
theorem lk_L_115 : LkV R_law 115 yX11_loud cX11_loud 9 (some .int) 4 := ⟨TB_p [1456, 1457, 1458, 81, 1459] (by decide +kernel) (by decide +kernel), by decide +kernel, by decide +kernel, by decide +kernel⟩
theorem lk_L_116 : LkV R_law 116 yX10_alike cX10_alike 5 (some .int) 1 := ⟨TB_p [906, 907, 908, 69, 909] (by decide +kernel) (by decide +kernel), by decide +kernel, by decide +kernel, by decide +kernel⟩
theorem lk_L_119 : LkV R_law 119 yX11_alike cX11_alike 2 (some .int) 1 := ⟨TB_p [1460, 1461, 1462, 81, 1463] (by decide +kernel) (by decide +kernel), by decide +kernel, by decide +kernel, by decide +kernel⟩
theorem lk_L_120 : LkV R_law 120 yX10_furthest cX10_furthest 7 (some .int) 2 := ⟨TB_p [910, 911, 912, 69, 913] (by decide +kernel) (by decide +kernel), by decide +kernel, by decide +kernel, by decide +kernel⟩
theorem lk_L_123 : LkV R_law 123 yX11_furthest cX11_furthest 5 (some .int) 2 := ⟨TB_p [1468, 1469, 1470, 81, 1471] (by decide +kernel) (by decide +kernel), by decide +kernel, by decide +kernel, by decide +kernel⟩
theorem lk_L_124 : LkV R_law 124 yX10_odds cX10_odds 8 (some .int) 4 := ⟨TB_p [914, 915, 916, 69, 917] (by decide +kernel) (by decide +kernel), by decide +kernel, by decide +kernel, by decide +kernel⟩
theorem lk_L_127 : LkV R_law 127 yX11_odds cX11_odds 9 (some .int) 4 := ⟨TB_p [1472, 1473, 1474, 81, 1475] (by decide +kernel) (by decide +kernel), by decide +kernel, by decide +kernel, by decide +kernel⟩
theorem lk_L_128 : LkV R_law 128 yX10_seed cX10_seed 3 (some .int) 1 := ⟨TB_p [922, 923, 924, 69, 925] (by decide +kernel) (by decide +kernel), by decide +kernel, by decide +kernel, by decide +kernel⟩
theorem lk_L_131 : LkV R_law 131 yX11_seed cX11_seed 2 (some .int) 1 := ⟨TB_p [1476, 1477, 1478, 81, 1479] (by decide +kernel) (by decide +kernel), by decide +kernel, by decide +kernel, by decide +kernel⟩
theorem lk_L_132 : LkV R_law 132 yX10_voice cX10_voice 4 (some .int) 3 := ⟨TB_p [926, 927, 928, 69, 929] (by decide +kernel) (by decide +kernel), by decide +kernel, by decide +kernel, by decide +kernel⟩
theorem lk_L_135 : LkV R_law 135 yX11_voice cX11_voice 4 (some .int) 3 := ⟨TB_p [1480, 1481, 1482, 81, 1483] (by decide +kernel) (by decide +kernel), by decide +kernel, by decide +kernel, by decide +kernel⟩
theorem lk_L_136 : LkV R_law 136 yX10_trace cX10_trace 2 (some .int) 1 := ⟨TB_p [949, 950, 951, 69, 952] (by decide +kernel) (by decide +kernel), by decide +kernel, by decide +kernel, by decide +kernel⟩
theorem lk_L_139 : LkV R_law 139 yX11_trace cX11_trace 2 (some .int) 1 := ⟨TB_p [1508, 1509, 1510, 81, 1511] (by decide +kernel) (by decide +kernel), by decide +kernel, by decide +kernel, by decide +kernel⟩
theorem lk_L_140 : LkV R_law 140 yX10_sheet cX10_sheet 5 (some .int) 3 := ⟨TB_p [954, 955, 956, 69, 957] (by decide +kernel) (by decide +kernel), by decide +kernel, by decide +kernel, by decide +kernel⟩
theorem lk_L_143 : LkV R_law 143 yX11_sheet cX11_sheet 5 (some .int) 3 := ⟨TB_p [1512, 1513, 1514, 81, 1515] (by decide +kernel) (by decide +kernel), by decide +kernel, by decide +kernel, by decide +kernel⟩
theorem lk_L_144 : LkV R_law 144 yX10_put cX10_put 5 (some .int) 3 := ⟨TB_p [958, 959, 960, 69, 961] (by decide +kernel) (by decide +kernel), by decide +kernel, by decide +kernel, by decide +kernel⟩
theorem lk_L_147 : LkV R_law 147 yX11_put cX11_put 4 (some .int) 3 := ⟨TB_p [1516, 1517, 1518, 81, 1519] (by decide +kernel) (by decide +kernel), by decide +kernel, by decide +kernel, by decide +kernel⟩
theorem lk_L_148 : LkV R_law 148 yX10_move cX10_move 9 (some .int) 5 := ⟨TB_p [967, 968, 969, 69, 970] (by decide +kernel) (by decide +kernel), by decide +kernel, by decide +kernel, by decide +kernel⟩
theorem lk_L_152 : LkV R_law 152 yX11_move cX11_move 7 (some .int) 5 := ⟨TB_p [1520, 1521, 1522, 81, 1523] (by decide +kernel) (by decide +kernel), by decide +kernel, by decide +kernel, by decide +kernel⟩
theorem lk_L_153 : LkV R_law 153 yX10_palates cX10_palates 6 (some .int) 1 := ⟨TB_p [975, 976, 977, 69, 978] (by decide +kernel) (by decide +kernel), by decide +kernel, by decide +kernel, by decide +kernel⟩
theorem lk_L_156 : LkV R_law 156 yX11_palates cX11_palates 3 (some .int) 1 := ⟨TB_p [1524, 1525, 1526, 81, 1527] (by decide +kernel) (by decide +kernel), by decide +kernel, by decide +kernel, by decide +kernel⟩
theorem lk_L_157 : LkV R_law 157 yX10_judge cX10_judge 5 (some .int) 1 := ⟨TB_p [980, 981, 982, 69, 983] (by decide +kernel) (by decide +kernel), by decide +kernel, by decide +kernel, by decide +kernel⟩
theorem lk_L_160 : LkV R_law 160 yX11_judge cX11_judge 3 (some .int) 1 := ⟨TB_p [1528, 1529, 1530, 81, 1531] (by decide +kernel) (by decide +kernel), by decide +kernel, by decide +kernel, by decide +kernel⟩
theorem lk_L_161 : LkV R_law 161 yX10_image cX10_image 1 (some .int) 0 := ⟨TB_p [984, 985, 986, 69, 987] (by decide +kernel) (by decide +kernel), by decide +kernel, by decide +kernel, by decide +kernel⟩
theorem lk_L_165 : LkV R_law 165 yX11_image cX11_image 1 (some .int) 0 := ⟨TB_p [1532, 1533, 1534, 81, 1535] (by decide +kernel) (by decide +kernel), by decide +kernel, by decide +kernel, by decide +kernel⟩
theorem lk_L_166 : LkV R_law 166 yX10_restore cX10_restore 1 (some .int) 0 := ⟨TB_p [1008, 1009, 1010, 69, 1011] (by decide +kernel) (by decide +kernel), by decide +kernel, by decide +kernel, by decide +kernel⟩
theorem lk_L_169 : LkV R_law 169 yX11_restore cX11_restore 1 (some .int) 0 := ⟨TB_p [1536, 1537, 1538, 81, 1539] (by decide +kernel) (by decide +kernel), by decide +kernel, by decide +kernel, by decide +kernel⟩
theorem lk_L_170 : LkV R_law 170 yX10_tell cX10_tell 2 (some .int) 1 := ⟨TB_p [1012, 1013, 1014, 69, 1015] (by decide +kernel) (by decide +kernel), by decide +kernel, by decide +kernel, by decide +kernel⟩
theorem lk_L_173 : LkV R_law 173 yX11_tell cX11_tell 2 (some .int) 1 := ⟨TB_p [1540, 1541, 1542, 81, 1543] (by decide +kernel) (by decide +kernel), by decide +kernel, by decide +kernel, by decide +kernel⟩
theorem lk_L_174 : LkV R_law 174 yX10_check cX10_check 3 (some .int) 0 := ⟨TB_p [1016, 1017, 1018, 69, 1019] (by decide +kernel) (by decide +kernel), by decide +kernel, by decide +kernel, by decide +kernel⟩
theorem lk_L_177 : LkV R_law 177 yX11_check cX11_check 4 (some .int) 0 := ⟨TB_p [1544, 1545, 1546, 81, 1547] (by decide +kernel) (by decide +kernel), by decide +kernel, by decide +kernel, by decide +kernel⟩
theorem lk_L_178 : LkV R_law 178 yX10_count cX10_count 2 (some .int) 1 := ⟨TB_p [1020, 1021, 1022, 69, 1023] (by decide +kernel) (by decide +kernel), by decide +kernel, by decide +kernel, by decide +kernel⟩
theorem lk_L_181 : LkV R_law 181 yX11_count cX11_count 2 (some .int) 1 := ⟨TB_p [1552, 1553, 1554, 81, 1555] (by decide +kernel) (by decide +kernel), by decide +kernel, by decide +kernel, by decide +kernel⟩
theorem lk_L_182 : LkV R_law 182 yX10_told cX10_told 2 (some .int) 1 := ⟨TB_p [1028, 1029, 1030, 69, 1031] (by decide +kernel) (by decide +kernel), by decide +kernel, by decide +kernel, by decide +kernel⟩
theorem lk_L_185 : LkV R_law 185 yX11_told cX11_told 2 (some .int) 1 := ⟨TB_p [1560, 1561, 1562, 81, 1563] (by decide +kernel) (by decide +kernel), by decide +kernel, by decide +kernel, by decide +kernel⟩
set_option maxHeartbeats 1000000 in
theorem case_wells (C : LAt V) (E : EA V W) (hL : LL V ≤ 3072) (hi : i + 6 ≤ LL V) (h : RR σ τ) (ih : ∀ σ' τ' : St, RR σ' τ' → LJ V zL 1595 (lvL V W i) [] (PL2 V W σ' τ')) : LJ V zL 212 (lvL V W i) [] (PL2 V W σ τ) := by
  obtain ⟨r, σ1, τ1, e1, e2, hR⟩ := k_wells h (xL V (i + 1))
  refine l_aload_n C 2 dL_law_212 rfl ?_
  refine l_arg C 1 (by decide) (by omega) hL dL_law_213 dL_law_214 dL_law_215 dL_law_216 dL_law_217 ?_
  refine l_cC C E lk_L_13 (w_X10_wells (xL V (i + 1)) σ) e1 rfl rfl recv_10 rfl rfl (Nat.le_of_ble_eq_true rfl) dL_law_218 ?_
  refine l_aload_n C 1 dL_law_221 rfl ?_
  refine l_arg C 1 (by decide) (by omega) hL dL_law_222 dL_law_223 dL_law_224 dL_law_225 dL_law_226 ?_
  refine l_cM C E lk_L_17 (w_X11_wells (xL V (i + 1)) τ) e2 rfl rfl recv_11 rfl rfl (Nat.le_of_ble_eq_true rfl) dL_law_227 ?_
  refine l_eq C 1595 dL_law_230 (by decide) ?_
  exact ih _ _ hR
set_option maxHeartbeats 1000000 in
theorem case_way (C : LAt V) (E : EA V W) (hL : LL V ≤ 3072) (hi : i + 6 ≤ LL V) (h : RR σ τ) (ih : ∀ σ' τ' : St, RR σ' τ' → LJ V zL 1595 (lvL V W i) [] (PL2 V W σ' τ')) : LJ V zL 235 (lvL V W i) [] (PL2 V W σ τ) := by
  obtain ⟨r, σ1, τ1, e1, e2, hR⟩ := k_way h (xL V (i + 1)) (xL V (i + 2)) (xL V (i + 3))
  refine l_aload_n C 2 dL_law_235 rfl ?_
  refine l_arg C 1 (by decide) (by omega) hL dL_law_236 dL_law_237 dL_law_238 dL_law_239 dL_law_240 ?_
  refine l_arg C 2 (by decide) (by omega) hL dL_law_241 dL_law_242 dL_law_243 dL_law_244 dL_law_245 ?_
  refine l_arg C 3 (by decide) (by omega) hL dL_law_246 dL_law_247 dL_law_248 dL_law_249 dL_law_250 ?_
  refine l_cC C E lk_L_18 (w_X10_way (xL V (i + 1)) (xL V (i + 2)) (xL V (i + 3)) σ) e1 rfl rfl recv_10 rfl rfl (Nat.le_of_ble_eq_true rfl) dL_law_251 ?_
  refine l_aload_n C 1 dL_law_254 rfl ?_
  refine l_arg C 1 (by decide) (by omega) hL dL_law_255 dL_law_256 dL_law_257 dL_law_258 dL_law_259 ?_
  refine l_arg C 2 (by decide) (by omega) hL dL_law_260 dL_law_261 dL_law_262 dL_law_263 dL_law_264 ?_
  refine l_arg C 3 (by decide) (by omega) hL dL_law_265 dL_law_266 dL_law_267 dL_law_268 dL_law_269 ?_
  refine l_cM C E lk_L_22 (w_X11_way (xL V (i + 1)) (xL V (i + 2)) (xL V (i + 3)) τ) e2 rfl rfl recv_11 rfl rfl (Nat.le_of_ble_eq_true rfl) dL_law_270 ?_
  refine l_eq C 1595 dL_law_273 (by decide) ?_
  exact ih _ _ hR
set_option maxHeartbeats 1000000 in
theorem case_ofWay (C : LAt V) (E : EA V W) (hL : LL V ≤ 3072) (hi : i + 6 ≤ LL V) (h : RR σ τ) (ih : ∀ σ' τ' : St, RR σ' τ' → LJ V zL 1595 (lvL V W i) [] (PL2 V W σ' τ')) : LJ V zL 278 (lvL V W i) [] (PL2 V W σ τ) := by
  obtain ⟨r, σ1, τ1, e1, e2, hR⟩ := k_ofWay h (xL V (i + 1)) (xL V (i + 2))
  refine l_aload_n C 2 dL_law_278 rfl ?_
  refine l_arg C 1 (by decide) (by omega) hL dL_law_279 dL_law_280 dL_law_281 dL_law_282 dL_law_283 ?_
  refine l_arg C 2 (by decide) (by omega) hL dL_law_284 dL_law_285 dL_law_286 dL_law_287 dL_law_288 ?_
  refine l_cC C E lk_L_23 (w_X10_ofWay (xL V (i + 1)) (xL V (i + 2)) σ) e1 rfl rfl recv_10 rfl rfl (Nat.le_of_ble_eq_true rfl) dL_law_289 ?_
  refine l_aload_n C 1 dL_law_292 rfl ?_
  refine l_arg C 1 (by decide) (by omega) hL dL_law_293 dL_law_294 dL_law_295 dL_law_296 dL_law_297 ?_
  refine l_arg C 2 (by decide) (by omega) hL dL_law_298 dL_law_299 dL_law_300 dL_law_301 dL_law_302 ?_
  refine l_cM C E lk_L_27 (w_X11_ofWay (xL V (i + 1)) (xL V (i + 2)) τ) e2 rfl rfl recv_11 rfl rfl (Nat.le_of_ble_eq_true rfl) dL_law_303 ?_
  refine l_eq C 1595 dL_law_306 (by decide) ?_
  exact ih _ _ hR
set_option maxHeartbeats 1000000 in
theorem case_stop (C : LAt V) (E : EA V W) (hL : LL V ≤ 3072) (hi : i + 6 ≤ LL V) (h : RR σ τ) (ih : ∀ σ' τ' : St, RR σ' τ' → LJ V zL 1595 (lvL V W i) [] (PL2 V W σ' τ')) : LJ V zL 311 (lvL V W i) [] (PL2 V W σ τ) := by
  obtain ⟨r, σ1, τ1, e1, e2, hR⟩ := k_stop h (xL V (i + 1)) (xL V (i + 2))
  refine l_aload_n C 2 dL_law_311 rfl ?_
  refine l_arg C 1 (by decide) (by omega) hL dL_law_312 dL_law_313 dL_law_314 dL_law_315 dL_law_316 ?_
  refine l_arg C 2 (by decide) (by omega) hL dL_law_317 dL_law_318 dL_law_319 dL_law_320 dL_law_321 ?_
  refine l_cC C E lk_L_28 (w_X10_stop (xL V (i + 1)) (xL V (i + 2)) σ) e1 rfl rfl recv_10 rfl rfl (Nat.le_of_ble_eq_true rfl) dL_law_322 ?_
  refine l_aload_n C 1 dL_law_325 rfl ?_
  refine l_arg C 1 (by decide) (by omega) hL dL_law_326 dL_law_327 dL_law_328 dL_law_329 dL_law_330 ?_
  refine l_arg C 2 (by decide) (by omega) hL dL_law_331 dL_law_332 dL_law_333 dL_law_334 dL_law_335 ?_
  refine l_cM C E lk_L_31 (w_X11_stop (xL V (i + 1)) (xL V (i + 2)) τ) e2 rfl rfl recv_11 rfl rfl (Nat.le_of_ble_eq_true rfl) dL_law_336 ?_
  refine l_eq C 1595 dL_law_339 (by decide) ?_
  exact ih _ _ hR
set_option maxHeartbeats 1000000 in
theorem case_rain (C : LAt V) (E : EA V W) (hL : LL V ≤ 3072) (hi : i + 6 ≤ LL V) (h : RR σ τ) (ih : ∀ σ' τ' : St, RR σ' τ' → LJ V zL 1595 (lvL V W i) [] (PL2 V W σ' τ')) : LJ V zL 344 (lvL V W i) [] (PL2 V W σ τ) := by
  obtain ⟨r, σ1, τ1, e1, e2, hR⟩ := k_rain h (xL V (i + 1))
  refine l_aload_n C 2 dL_law_344 rfl ?_
  refine l_arg C 1 (by decide) (by omega) hL dL_law_345 dL_law_346 dL_law_347 dL_law_348 dL_law_349 ?_
  refine l_cC C E lk_L_32 (w_X10_rain (xL V (i + 1)) σ) e1 rfl rfl recv_10 rfl rfl (Nat.le_of_ble_eq_true rfl) dL_law_350 ?_
  refine l_aload_n C 1 dL_law_353 rfl ?_
  refine l_arg C 1 (by decide) (by omega) hL dL_law_354 dL_law_355 dL_law_356 dL_law_357 dL_law_358 ?_
  refine l_cM C E lk_L_35 (w_X11_rain (xL V (i + 1)) τ) e2 rfl rfl recv_11 rfl rfl (Nat.le_of_ble_eq_true rfl) dL_law_359 ?_
  refine l_eq C 1595 dL_law_362 (by decide) ?_
  exact ih _ _ hR
set_option maxHeartbeats 1000000 in
theorem case_call (C : LAt V) (E : EA V W) (hL : LL V ≤ 3072) (hi : i + 6 ≤ LL V) (h : RR σ τ) (ih : ∀ σ' τ' : St, RR σ' τ' → LJ V zL 1595 (lvL V W i) [] (PL2 V W σ' τ')) : LJ V zL 367 (lvL V W i) [] (PL2 V W σ τ) := by
  obtain ⟨r, σ1, τ1, e1, e2, hR⟩ := k_call h (xL V (i + 1)) (xL V (i + 2)) (xL V (i + 3))
  refine l_aload_n C 2 dL_law_367 rfl ?_
  refine l_arg C 1 (by decide) (by omega) hL dL_law_368 dL_law_369 dL_law_370 dL_law_371 dL_law_372 ?_
  refine l_arg C 2 (by decide) (by omega) hL dL_law_373 dL_law_374 dL_law_375 dL_law_376 dL_law_377 ?_
  refine l_arg C 3 (by decide) (by omega) hL dL_law_378 dL_law_379 dL_law_380 dL_law_381 dL_law_382 ?_
  refine l_cC C E lk_L_36 (w_X10_call (xL V (i + 1)) (xL V (i + 2)) (xL V (i + 3)) σ) e1 rfl rfl recv_10 rfl rfl (Nat.le_of_ble_eq_true rfl) dL_law_383 ?_
  refine l_aload_n C 1 dL_law_386 rfl ?_
  refine l_arg C 1 (by decide) (by omega) hL dL_law_387 dL_law_388 dL_law_389 dL_law_390 dL_law_391 ?_
  refine l_arg C 2 (by decide) (by omega) hL dL_law_392 dL_law_393 dL_law_394 dL_law_395 dL_law_396 ?_
  refine l_arg C 3 (by decide) (by omega) hL dL_law_397 dL_law_398 dL_law_399 dL_law_400 dL_law_401 ?_
  refine l_cM C E lk_L_39 (w_X11_call (xL V (i + 1)) (xL V (i + 2)) (xL V (i + 3)) τ) e2 rfl rfl recv_11 rfl rfl (Nat.le_of_ble_eq_true rfl) dL_law_402 ?_
  refine l_eq C 1595 dL_law_405 (by decide) ?_
  exact ih _ _ hR
set_option maxHeartbeats 1000000 in
theorem case_ofSaying (C : LAt V) (E : EA V W) (hL : LL V ≤ 3072) (hi : i + 6 ≤ LL V) (h : RR σ τ) (ih : ∀ σ' τ' : St, RR σ' τ' → LJ V zL 1595 (lvL V W i) [] (PL2 V W σ' τ')) : LJ V zL 410 (lvL V W i) [] (PL2 V W σ τ) := by
  obtain ⟨r, σ1, τ1, e1, e2, hR⟩ := k_ofSaying h (xL V (i + 1)) (xL V (i + 2))
  refine l_aload_n C 2 dL_law_410 rfl ?_
  refine l_arg C 1 (by decide) (by omega) hL dL_law_411 dL_law_412 dL_law_413 dL_law_414 dL_law_415 ?_
  refine l_arg C 2 (by decide) (by omega) hL dL_law_416 dL_law_417 dL_law_418 dL_law_419 dL_law_420 ?_
  refine l_cC C E lk_L_40 (w_X10_ofSaying (xL V (i + 1)) (xL V (i + 2)) σ) e1 rfl rfl recv_10 rfl rfl (Nat.le_of_ble_eq_true rfl) dL_law_421 ?_
  refine l_aload_n C 1 dL_law_424 rfl ?_
  refine l_arg C 1 (by decide) (by omega) hL dL_law_425 dL_law_426 dL_law_427 dL_law_428 dL_law_429 ?_
  refine l_arg C 2 (by decide) (by omega) hL dL_law_430 dL_law_431 dL_law_432 dL_law_433 dL_law_434 ?_
  refine l_cM C E lk_L_43 (w_X11_ofSaying (xL V (i + 1)) (xL V (i + 2)) τ) e2 rfl rfl recv_11 rfl rfl (Nat.le_of_ble_eq_true rfl) dL_law_435 ?_
  refine l_eq C 1595 dL_law_438 (by decide) ?_
  exact ih _ _ hR
set_option maxHeartbeats 1000000 in
theorem case_change (C : LAt V) (E : EA V W) (hL : LL V ≤ 3072) (hi : i + 6 ≤ LL V) (h : RR σ τ) (ih : ∀ σ' τ' : St, RR σ' τ' → LJ V zL 1595 (lvL V W i) [] (PL2 V W σ' τ')) : LJ V zL 443 (lvL V W i) [] (PL2 V W σ τ) := by
  obtain ⟨r, σ1, τ1, e1, e2, hR⟩ := k_change h (xL V (i + 1)) (xL V (i + 2)) (xL V (i + 3))
  refine l_aload_n C 2 dL_law_443 rfl ?_
  refine l_arg C 1 (by decide) (by omega) hL dL_law_444 dL_law_445 dL_law_446 dL_law_447 dL_law_448 ?_
  refine l_arg C 2 (by decide) (by omega) hL dL_law_449 dL_law_450 dL_law_451 dL_law_452 dL_law_453 ?_
  refine l_arg C 3 (by decide) (by omega) hL dL_law_454 dL_law_455 dL_law_456 dL_law_457 dL_law_458 ?_
  refine l_cC C E lk_L_44 (w_X10_change (xL V (i + 1)) (xL V (i + 2)) (xL V (i + 3)) σ) e1 rfl rfl recv_10 rfl rfl (Nat.le_of_ble_eq_true rfl) dL_law_459 ?_
  refine l_aload_n C 1 dL_law_462 rfl ?_
  refine l_arg C 1 (by decide) (by omega) hL dL_law_463 dL_law_464 dL_law_465 dL_law_466 dL_law_467 ?_
  refine l_arg C 2 (by decide) (by omega) hL dL_law_468 dL_law_469 dL_law_470 dL_law_471 dL_law_472 ?_
  refine l_arg C 3 (by decide) (by omega) hL dL_law_473 dL_law_474 dL_law_475 dL_law_476 dL_law_477 ?_
  refine l_cM C E lk_L_47 (w_X11_change (xL V (i + 1)) (xL V (i + 2)) (xL V (i + 3)) τ) e2 rfl rfl recv_11 rfl rfl (Nat.le_of_ble_eq_true rfl) dL_law_478 ?_
  refine l_eq C 1595 dL_law_481 (by decide) ?_
  exact ih _ _ hR
set_option maxHeartbeats 1000000 in
theorem case_become (C : LAt V) (E : EA V W) (hL : LL V ≤ 3072) (hi : i + 6 ≤ LL V) (h : RR σ τ) (ih : ∀ σ' τ' : St, RR σ' τ' → LJ V zL 1595 (lvL V W i) [] (PL2 V W σ' τ')) : LJ V zL 486 (lvL V W i) [] (PL2 V W σ τ) := by
  obtain ⟨r, σ1, τ1, e1, e2, hR⟩ := k_become h (xL V (i + 1)) (xL V (i + 2))
  refine l_aload_n C 2 dL_law_486 rfl ?_
  refine l_arg C 1 (by decide) (by omega) hL dL_law_487 dL_law_488 dL_law_489 dL_law_490 dL_law_491 ?_
  refine l_arg C 2 (by decide) (by omega) hL dL_law_492 dL_law_493 dL_law_494 dL_law_495 dL_law_496 ?_
  refine l_cC C E lk_L_48 (w_X10_become (xL V (i + 1)) (xL V (i + 2)) σ) e1 rfl rfl recv_10 rfl rfl (Nat.le_of_ble_eq_true rfl) dL_law_497 ?_
  refine l_aload_n C 1 dL_law_500 rfl ?_
  refine l_arg C 1 (by decide) (by omega) hL dL_law_501 dL_law_502 dL_law_503 dL_law_504 dL_law_505 ?_
  refine l_arg C 2 (by decide) (by omega) hL dL_law_506 dL_law_507 dL_law_508 dL_law_509 dL_law_510 ?_
  refine l_cM C E lk_L_51 (w_X11_become (xL V (i + 1)) (xL V (i + 2)) τ) e2 rfl rfl recv_11 rfl rfl (Nat.le_of_ble_eq_true rfl) dL_law_511 ?_
  refine l_eq C 1595 dL_law_514 (by decide) ?_
  exact ih _ _ hR
set_option maxHeartbeats 1000000 in
theorem case_as (C : LAt V) (E : EA V W) (hL : LL V ≤ 3072) (hi : i + 6 ≤ LL V) (h : RR σ τ) (ih : ∀ σ' τ' : St, RR σ' τ' → LJ V zL 1595 (lvL V W i) [] (PL2 V W σ' τ')) : LJ V zL 519 (lvL V W i) [] (PL2 V W σ τ) := by
  obtain ⟨r, σ1, τ1, e1, e2, hR⟩ := k_as h (xL V (i + 1)) (xL V (i + 2))
  refine l_aload_n C 2 dL_law_519 rfl ?_
  refine l_arg C 1 (by decide) (by omega) hL dL_law_520 dL_law_521 dL_law_522 dL_law_523 dL_law_524 ?_
  refine l_arg C 2 (by decide) (by omega) hL dL_law_525 dL_law_526 dL_law_527 dL_law_528 dL_law_529 ?_
  refine l_cC C E lk_L_52 (w_X10_as (xL V (i + 1)) (xL V (i + 2)) σ) e1 rfl rfl recv_10 rfl rfl (Nat.le_of_ble_eq_true rfl) dL_law_530 ?_
  refine l_aload_n C 1 dL_law_533 rfl ?_
  refine l_arg C 1 (by decide) (by omega) hL dL_law_534 dL_law_535 dL_law_536 dL_law_537 dL_law_538 ?_
  refine l_arg C 2 (by decide) (by omega) hL dL_law_539 dL_law_540 dL_law_541 dL_law_542 dL_law_543 ?_
  refine l_cM C E lk_L_55 (w_X11_as (xL V (i + 1)) (xL V (i + 2)) τ) e2 rfl rfl recv_11 rfl rfl (Nat.le_of_ble_eq_true rfl) dL_law_544 ?_
  refine l_eq C 1595 dL_law_547 (by decide) ?_
  exact ih _ _ hR
set_option maxHeartbeats 1000000 in
theorem case_folk (C : LAt V) (E : EA V W) (hL : LL V ≤ 3072) (hi : i + 6 ≤ LL V) (h : RR σ τ) (ih : ∀ σ' τ' : St, RR σ' τ' → LJ V zL 1595 (lvL V W i) [] (PL2 V W σ' τ')) : LJ V zL 552 (lvL V W i) [] (PL2 V W σ τ) := by
  obtain ⟨r, σ1, τ1, e1, e2, hR⟩ := k_folk h (xL V (i + 1)) (xL V (i + 2))
  refine l_aload_n C 2 dL_law_552 rfl ?_
  refine l_arg C 1 (by decide) (by omega) hL dL_law_553 dL_law_554 dL_law_555 dL_law_556 dL_law_557 ?_
  refine l_arg C 2 (by decide) (by omega) hL dL_law_558 dL_law_559 dL_law_560 dL_law_561 dL_law_562 ?_
  refine l_cC C E lk_L_56 (w_X10_folk (xL V (i + 1)) (xL V (i + 2)) σ) e1 rfl rfl recv_10 rfl rfl (Nat.le_of_ble_eq_true rfl) dL_law_563 ?_
  refine l_aload_n C 1 dL_law_566 rfl ?_
  refine l_arg C 1 (by decide) (by omega) hL dL_law_567 dL_law_568 dL_law_569 dL_law_570 dL_law_571 ?_
  refine l_arg C 2 (by decide) (by omega) hL dL_law_572 dL_law_573 dL_law_574 dL_law_575 dL_law_576 ?_
  refine l_cM C E lk_L_59 (w_X11_folk (xL V (i + 1)) (xL V (i + 2)) τ) e2 rfl rfl recv_11 rfl rfl (Nat.le_of_ble_eq_true rfl) dL_law_577 ?_
  refine l_eq C 1595 dL_law_580 (by decide) ?_
  exact ih _ _ hR
set_option maxHeartbeats 1000000 in
theorem case_ofFolk (C : LAt V) (E : EA V W) (hL : LL V ≤ 3072) (hi : i + 6 ≤ LL V) (h : RR σ τ) (ih : ∀ σ' τ' : St, RR σ' τ' → LJ V zL 1595 (lvL V W i) [] (PL2 V W σ' τ')) : LJ V zL 585 (lvL V W i) [] (PL2 V W σ τ) := by
  obtain ⟨r, σ1, τ1, e1, e2, hR⟩ := k_ofFolk h (xL V (i + 1)) (xL V (i + 2))
  refine l_aload_n C 2 dL_law_585 rfl ?_
  refine l_arg C 1 (by decide) (by omega) hL dL_law_586 dL_law_587 dL_law_588 dL_law_589 dL_law_590 ?_
  refine l_arg C 2 (by decide) (by omega) hL dL_law_591 dL_law_592 dL_law_593 dL_law_594 dL_law_595 ?_
  refine l_cC C E lk_L_60 (w_X10_ofFolk (xL V (i + 1)) (xL V (i + 2)) σ) e1 rfl rfl recv_10 rfl rfl (Nat.le_of_ble_eq_true rfl) dL_law_596 ?_
  refine l_aload_n C 1 dL_law_599 rfl ?_
  refine l_arg C 1 (by decide) (by omega) hL dL_law_600 dL_law_601 dL_law_602 dL_law_603 dL_law_604 ?_
  refine l_arg C 2 (by decide) (by omega) hL dL_law_605 dL_law_606 dL_law_607 dL_law_608 dL_law_609 ?_
  refine l_cM C E lk_L_63 (w_X11_ofFolk (xL V (i + 1)) (xL V (i + 2)) τ) e2 rfl rfl recv_11 rfl rfl (Nat.le_of_ble_eq_true rfl) dL_law_610 ?_
  refine l_eq C 1595 dL_law_613 (by decide) ?_
  exact ih _ _ hR
set_option maxHeartbeats 1000000 in
theorem case_drink (C : LAt V) (E : EA V W) (hL : LL V ≤ 3072) (hi : i + 6 ≤ LL V) (h : RR σ τ) (ih : ∀ σ' τ' : St, RR σ' τ' → LJ V zL 1595 (lvL V W i) [] (PL2 V W σ' τ')) : LJ V zL 618 (lvL V W i) [] (PL2 V W σ τ) := by
  obtain ⟨r, σ1, τ1, e1, e2, hR⟩ := k_drink h (xL V (i + 1)) (xL V (i + 2)) (xL V (i + 3))
  refine l_aload_n C 2 dL_law_618 rfl ?_
  refine l_arg C 1 (by decide) (by omega) hL dL_law_619 dL_law_620 dL_law_621 dL_law_622 dL_law_623 ?_
  refine l_arg C 2 (by decide) (by omega) hL dL_law_624 dL_law_625 dL_law_626 dL_law_627 dL_law_628 ?_
  refine l_arg C 3 (by decide) (by omega) hL dL_law_629 dL_law_630 dL_law_631 dL_law_632 dL_law_633 ?_
  refine l_cC C E lk_L_64 (w_X10_drink (xL V (i + 1)) (xL V (i + 2)) (xL V (i + 3)) σ) e1 rfl rfl recv_10 rfl rfl (Nat.le_of_ble_eq_true rfl) dL_law_634 ?_
  refine l_aload_n C 1 dL_law_637 rfl ?_
  refine l_arg C 1 (by decide) (by omega) hL dL_law_638 dL_law_639 dL_law_640 dL_law_641 dL_law_642 ?_
  refine l_arg C 2 (by decide) (by omega) hL dL_law_643 dL_law_644 dL_law_645 dL_law_646 dL_law_647 ?_
  refine l_arg C 3 (by decide) (by omega) hL dL_law_648 dL_law_649 dL_law_650 dL_law_651 dL_law_652 ?_
  refine l_cM C E lk_L_67 (w_X11_drink (xL V (i + 1)) (xL V (i + 2)) (xL V (i + 3)) τ) e2 rfl rfl recv_11 rfl rfl (Nat.le_of_ble_eq_true rfl) dL_law_653 ?_
  refine l_eq C 1595 dL_law_656 (by decide) ?_
  exact ih _ _ hR
set_option maxHeartbeats 1000000 in
theorem case_feed (C : LAt V) (E : EA V W) (hL : LL V ≤ 3072) (hi : i + 6 ≤ LL V) (h : RR σ τ) (ih : ∀ σ' τ' : St, RR σ' τ' → LJ V zL 1595 (lvL V W i) [] (PL2 V W σ' τ')) : LJ V zL 661 (lvL V W i) [] (PL2 V W σ τ) := by
  obtain ⟨r, σ1, τ1, e1, e2, hR⟩ := k_feed h (((xL V (i + 1)).toInt64 <<< ((32 : Int32).toInt64 &&& 63)) ||| ((xL V (i + 2)).toInt64 &&& (4294967295 : Int64))) (xL V (i + 3))
  refine l_aload_n C 2 dL_law_661 rfl ?_
  refine l_arg C 1 (by decide) (by omega) hL dL_law_662 dL_law_663 dL_law_664 dL_law_665 dL_law_666 ?_
  refine l_i2l C dL_law_667 ?_
  refine l_bipush C (v := 32) dL_law_668 (by decide) ?_
  refine l_lshl C dL_law_670 ?_
  refine l_arg C 2 (by decide) (by omega) hL dL_law_671 dL_law_672 dL_law_673 dL_law_674 dL_law_675 ?_
  refine l_i2l C dL_law_676 ?_
  refine l_ldc2 C (v := 4294967295) (List.mem_of_getElem? (i := 1564) (by decide +kernel)) dL_law_677 ?_
  refine l_land C dL_law_680 ?_
  refine l_lor C dL_law_681 ?_
  refine l_arg C 3 (by decide) (by omega) hL dL_law_682 dL_law_683 dL_law_684 dL_law_685 dL_law_686 ?_
  refine l_cC C E lk_L_70 (w_X10_feed (((xL V (i + 1)).toInt64 <<< ((32 : Int32).toInt64 &&& 63)) ||| ((xL V (i + 2)).toInt64 &&& (4294967295 : Int64))) (xL V (i + 3)) σ) e1 rfl rfl recv_10 rfl rfl (Nat.le_of_ble_eq_true rfl) dL_law_687 ?_
  refine l_aload_n C 1 dL_law_690 rfl ?_
  refine l_arg C 1 (by decide) (by omega) hL dL_law_691 dL_law_692 dL_law_693 dL_law_694 dL_law_695 ?_
  refine l_i2l C dL_law_696 ?_
  refine l_bipush C (v := 32) dL_law_697 (by decide) ?_
  refine l_lshl C dL_law_699 ?_
  refine l_arg C 2 (by decide) (by omega) hL dL_law_700 dL_law_701 dL_law_702 dL_law_703 dL_law_704 ?_
  refine l_i2l C dL_law_705 ?_
  refine l_ldc2 C (v := 4294967295) (List.mem_of_getElem? (i := 1564) (by decide +kernel)) dL_law_706 ?_
  refine l_land C dL_law_709 ?_
  refine l_lor C dL_law_710 ?_
  refine l_arg C 3 (by decide) (by omega) hL dL_law_711 dL_law_712 dL_law_713 dL_law_714 dL_law_715 ?_
  refine l_cM C E lk_L_74 (w_X11_feed (((xL V (i + 1)).toInt64 <<< ((32 : Int32).toInt64 &&& 63)) ||| ((xL V (i + 2)).toInt64 &&& (4294967295 : Int64))) (xL V (i + 3)) τ) e2 rfl rfl recv_11 rfl rfl (Nat.le_of_ble_eq_true rfl) dL_law_716 ?_
  refine l_eq C 1595 dL_law_719 (by decide) ?_
  exact ih _ _ hR
set_option maxHeartbeats 1000000 in
theorem case_text (C : LAt V) (E : EA V W) (hL : LL V ≤ 3072) (hi : i + 6 ≤ LL V) (h : RR σ τ) (ih : ∀ σ' τ' : St, RR σ' τ' → LJ V zL 1595 (lvL V W i) [] (PL2 V W σ' τ')) : LJ V zL 724 (lvL V W i) [] (PL2 V W σ τ) := by
  obtain ⟨r, σ1, τ1, e1, e2, hR⟩ := k_text h (xL V (i + 1))
  refine l_aload_n C 2 dL_law_724 rfl ?_
  refine l_arg C 1 (by decide) (by omega) hL dL_law_725 dL_law_726 dL_law_727 dL_law_728 dL_law_729 ?_
  refine l_cC C E lk_L_75 (w_X10_text (xL V (i + 1)) σ) e1 rfl rfl recv_10 rfl rfl (Nat.le_of_ble_eq_true rfl) dL_law_730 ?_
  refine l_aload_n C 1 dL_law_733 rfl ?_
  refine l_arg C 1 (by decide) (by omega) hL dL_law_734 dL_law_735 dL_law_736 dL_law_737 dL_law_738 ?_
  refine l_cM C E lk_L_78 (w_X11_text (xL V (i + 1)) τ) e2 rfl rfl recv_11 rfl rfl (Nat.le_of_ble_eq_true rfl) dL_law_739 ?_
  refine l_eq C 1595 dL_law_742 (by decide) ?_
  exact ih _ _ hR
set_option maxHeartbeats 1000000 in
theorem case_law (C : LAt V) (E : EA V W) (hL : LL V ≤ 3072) (hi : i + 6 ≤ LL V) (h : RR σ τ) (ih : ∀ σ' τ' : St, RR σ' τ' → LJ V zL 1595 (lvL V W i) [] (PL2 V W σ' τ')) : LJ V zL 747 (lvL V W i) [] (PL2 V W σ τ) := by
  obtain ⟨r, σ1, τ1, e1, e2, hR⟩ := k_law h (xL V (i + 1)) (xL V (i + 2)) (xL V (i + 3)) (xL V (i + 4))
  refine l_aload_n C 2 dL_law_747 rfl ?_
  refine l_arg C 1 (by decide) (by omega) hL dL_law_748 dL_law_749 dL_law_750 dL_law_751 dL_law_752 ?_
  refine l_arg C 2 (by decide) (by omega) hL dL_law_753 dL_law_754 dL_law_755 dL_law_756 dL_law_757 ?_
  refine l_arg C 3 (by decide) (by omega) hL dL_law_758 dL_law_759 dL_law_760 dL_law_761 dL_law_762 ?_
  refine l_arg C 4 (by decide) (by omega) hL dL_law_763 dL_law_764 dL_law_765 dL_law_766 dL_law_767 ?_
  refine l_cC C E lk_L_79 (w_X10_law (xL V (i + 1)) (xL V (i + 2)) (xL V (i + 3)) (xL V (i + 4)) σ) e1 rfl rfl recv_10 rfl rfl (Nat.le_of_ble_eq_true rfl) dL_law_768 ?_
  refine l_aload_n C 1 dL_law_771 rfl ?_
  refine l_arg C 1 (by decide) (by omega) hL dL_law_772 dL_law_773 dL_law_774 dL_law_775 dL_law_776 ?_
  refine l_arg C 2 (by decide) (by omega) hL dL_law_777 dL_law_778 dL_law_779 dL_law_780 dL_law_781 ?_
  refine l_arg C 3 (by decide) (by omega) hL dL_law_782 dL_law_783 dL_law_784 dL_law_785 dL_law_786 ?_
  refine l_arg C 4 (by decide) (by omega) hL dL_law_787 dL_law_788 dL_law_789 dL_law_790 dL_law_791 ?_
  refine l_cM C E lk_L_83 (w_X11_law (xL V (i + 1)) (xL V (i + 2)) (xL V (i + 3)) (xL V (i + 4)) τ) e2 rfl rfl recv_11 rfl rfl (Nat.le_of_ble_eq_true rfl) dL_law_792 ?_
  refine l_eq C 1595 dL_law_795 (by decide) ?_
  exact ih _ _ hR
set_option maxHeartbeats 1000000 in
theorem case_hours (C : LAt V) (E : EA V W) (hL : LL V ≤ 3072) (hi : i + 6 ≤ LL V) (h : RR σ τ) (ih : ∀ σ' τ' : St, RR σ' τ' → LJ V zL 1595 (lvL V W i) [] (PL2 V W σ' τ')) : LJ V zL 800 (lvL V W i) [] (PL2 V W σ τ) := by
  obtain ⟨r, σ1, τ1, e1, e2, hR⟩ := k_hours h (xL V (i + 1))
  refine l_aload_n C 2 dL_law_800 rfl ?_
  refine l_arg C 1 (by decide) (by omega) hL dL_law_801 dL_law_802 dL_law_803 dL_law_804 dL_law_805 ?_
  refine l_cC C E lk_L_84 (w_X10_hours (xL V (i + 1)) σ) e1 rfl rfl recv_10 rfl rfl (Nat.le_of_ble_eq_true rfl) dL_law_806 ?_
  refine l_aload_n C 1 dL_law_809 rfl ?_
  refine l_arg C 1 (by decide) (by omega) hL dL_law_810 dL_law_811 dL_law_812 dL_law_813 dL_law_814 ?_
  refine l_cM C E lk_L_87 (w_X11_hours (xL V (i + 1)) τ) e2 rfl rfl recv_11 rfl rfl (Nat.le_of_ble_eq_true rfl) dL_law_815 ?_
  refine l_eq C 1595 dL_law_818 (by decide) ?_
  exact ih _ _ hR
set_option maxHeartbeats 1000000 in
theorem case_loose (C : LAt V) (E : EA V W) (hL : LL V ≤ 3072) (hi : i + 6 ≤ LL V) (h : RR σ τ) (ih : ∀ σ' τ' : St, RR σ' τ' → LJ V zL 1595 (lvL V W i) [] (PL2 V W σ' τ')) : LJ V zL 823 (lvL V W i) [] (PL2 V W σ τ) := by
  obtain ⟨r, σ1, τ1, e1, e2, hR⟩ := k_loose h (xL V (i + 1))
  refine l_aload_n C 2 dL_law_823 rfl ?_
  refine l_arg C 1 (by decide) (by omega) hL dL_law_824 dL_law_825 dL_law_826 dL_law_827 dL_law_828 ?_
  refine l_cC C E lk_L_88 (w_X10_loose (xL V (i + 1)) σ) e1 rfl rfl recv_10 rfl rfl (Nat.le_of_ble_eq_true rfl) dL_law_829 ?_
  refine l_aload_n C 1 dL_law_832 rfl ?_
  refine l_arg C 1 (by decide) (by omega) hL dL_law_833 dL_law_834 dL_law_835 dL_law_836 dL_law_837 ?_
  refine l_cM C E lk_L_91 (w_X11_loose (xL V (i + 1)) τ) e2 rfl rfl recv_11 rfl rfl (Nat.le_of_ble_eq_true rfl) dL_law_838 ?_
  refine l_eq C 1595 dL_law_841 (by decide) ?_
  exact ih _ _ hR
set_option maxHeartbeats 1000000 in
theorem case_then (C : LAt V) (E : EA V W) (hL : LL V ≤ 3072) (hi : i + 6 ≤ LL V) (h : RR σ τ) (ih : ∀ σ' τ' : St, RR σ' τ' → LJ V zL 1595 (lvL V W i) [] (PL2 V W σ' τ')) : LJ V zL 846 (lvL V W i) [] (PL2 V W σ τ) := by
  obtain ⟨r, σ1, τ1, e1, e2, hR⟩ := k_then h (xL V (i + 1)) (xL V (i + 2))
  refine l_aload_n C 2 dL_law_846 rfl ?_
  refine l_arg C 1 (by decide) (by omega) hL dL_law_847 dL_law_848 dL_law_849 dL_law_850 dL_law_851 ?_
  refine l_arg C 2 (by decide) (by omega) hL dL_law_852 dL_law_853 dL_law_854 dL_law_855 dL_law_856 ?_
  refine l_cC C E lk_L_92 (w_X10_then (xL V (i + 1)) (xL V (i + 2)) σ) e1 rfl rfl recv_10 rfl rfl (Nat.le_of_ble_eq_true rfl) dL_law_857 ?_
  refine l_aload_n C 1 dL_law_860 rfl ?_
  refine l_arg C 1 (by decide) (by omega) hL dL_law_861 dL_law_862 dL_law_863 dL_law_864 dL_law_865 ?_
  refine l_arg C 2 (by decide) (by omega) hL dL_law_866 dL_law_867 dL_law_868 dL_law_869 dL_law_870 ?_
  refine l_cM C E lk_L_95 (w_X11_then (xL V (i + 1)) (xL V (i + 2)) τ) e2 rfl rfl recv_11 rfl rfl (Nat.le_of_ble_eq_true rfl) dL_law_871 ?_
  refine l_eq C 1595 dL_law_874 (by decide) ?_
  exact ih _ _ hR
set_option maxHeartbeats 1000000 in
theorem case_learns (C : LAt V) (E : EA V W) (hL : LL V ≤ 3072) (hi : i + 6 ≤ LL V) (h : RR σ τ) (ih : ∀ σ' τ' : St, RR σ' τ' → LJ V zL 1595 (lvL V W i) [] (PL2 V W σ' τ')) : LJ V zL 879 (lvL V W i) [] (PL2 V W σ τ) := by
  obtain ⟨r, σ1, τ1, e1, e2, hR⟩ := k_learns h (xL V (i + 1)) (xL V (i + 2))
  refine l_aload_n C 2 dL_law_879 rfl ?_
  refine l_arg C 1 (by decide) (by omega) hL dL_law_880 dL_law_881 dL_law_882 dL_law_883 dL_law_884 ?_
  refine l_arg C 2 (by decide) (by omega) hL dL_law_885 dL_law_886 dL_law_887 dL_law_888 dL_law_889 ?_
  refine l_cC C E lk_L_96 (w_X10_learns (xL V (i + 1)) (xL V (i + 2)) σ) e1 rfl rfl recv_10 rfl rfl (Nat.le_of_ble_eq_true rfl) dL_law_890 ?_
  refine l_aload_n C 1 dL_law_893 rfl ?_
  refine l_arg C 1 (by decide) (by omega) hL dL_law_894 dL_law_895 dL_law_896 dL_law_897 dL_law_898 ?_
  refine l_arg C 2 (by decide) (by omega) hL dL_law_899 dL_law_900 dL_law_901 dL_law_902 dL_law_903 ?_
  refine l_cM C E lk_L_99 (w_X11_learns (xL V (i + 1)) (xL V (i + 2)) τ) e2 rfl rfl recv_11 rfl rfl (Nat.le_of_ble_eq_true rfl) dL_law_904 ?_
  refine l_eq C 1595 dL_law_907 (by decide) ?_
  exact ih _ _ hR
set_option maxHeartbeats 1000000 in
theorem case_calls (C : LAt V) (E : EA V W) (hL : LL V ≤ 3072) (hi : i + 6 ≤ LL V) (h : RR σ τ) (ih : ∀ σ' τ' : St, RR σ' τ' → LJ V zL 1595 (lvL V W i) [] (PL2 V W σ' τ')) : LJ V zL 912 (lvL V W i) [] (PL2 V W σ τ) := by
  obtain ⟨r, σ1, τ1, e1, e2, hR⟩ := k_calls h (xL V (i + 1)) (xL V (i + 2)) (xL V (i + 3)) (xL V (i + 4))
  refine l_aload_n C 2 dL_law_912 rfl ?_
  refine l_arg C 1 (by decide) (by omega) hL dL_law_913 dL_law_914 dL_law_915 dL_law_916 dL_law_917 ?_
  refine l_arg C 2 (by decide) (by omega) hL dL_law_918 dL_law_919 dL_law_920 dL_law_921 dL_law_922 ?_
  refine l_arg C 3 (by decide) (by omega) hL dL_law_923 dL_law_924 dL_law_925 dL_law_926 dL_law_927 ?_
  refine l_arg C 4 (by decide) (by omega) hL dL_law_928 dL_law_929 dL_law_930 dL_law_931 dL_law_932 ?_
  refine l_cC C E lk_L_100 (w_X10_calls (xL V (i + 1)) (xL V (i + 2)) (xL V (i + 3)) (xL V (i + 4)) σ) e1 rfl rfl recv_10 rfl rfl (Nat.le_of_ble_eq_true rfl) dL_law_933 ?_
  refine l_aload_n C 1 dL_law_936 rfl ?_
  refine l_arg C 1 (by decide) (by omega) hL dL_law_937 dL_law_938 dL_law_939 dL_law_940 dL_law_941 ?_
  refine l_arg C 2 (by decide) (by omega) hL dL_law_942 dL_law_943 dL_law_944 dL_law_945 dL_law_946 ?_
  refine l_arg C 3 (by decide) (by omega) hL dL_law_947 dL_law_948 dL_law_949 dL_law_950 dL_law_951 ?_
  refine l_arg C 4 (by decide) (by omega) hL dL_law_952 dL_law_953 dL_law_954 dL_law_955 dL_law_956 ?_
  refine l_cM C E lk_L_103 (w_X11_calls (xL V (i + 1)) (xL V (i + 2)) (xL V (i + 3)) (xL V (i + 4)) τ) e2 rfl rfl recv_11 rfl rfl (Nat.le_of_ble_eq_true rfl) dL_law_957 ?_
  refine l_eq C 1595 dL_law_960 (by decide) ?_
  exact ih _ _ hR
set_option maxHeartbeats 1000000 in
theorem case_stops (C : LAt V) (E : EA V W) (hL : LL V ≤ 3072) (hi : i + 6 ≤ LL V) (h : RR σ τ) (ih : ∀ σ' τ' : St, RR σ' τ' → LJ V zL 1595 (lvL V W i) [] (PL2 V W σ' τ')) : LJ V zL 965 (lvL V W i) [] (PL2 V W σ τ) := by
  obtain ⟨r, σ1, τ1, e1, e2, hR⟩ := k_stops h (xL V (i + 1)) (xL V (i + 2)) (xL V (i + 3))
  refine l_aload_n C 2 dL_law_965 rfl ?_
  refine l_arg C 1 (by decide) (by omega) hL dL_law_966 dL_law_967 dL_law_968 dL_law_969 dL_law_970 ?_
  refine l_arg C 2 (by decide) (by omega) hL dL_law_971 dL_law_972 dL_law_973 dL_law_974 dL_law_975 ?_
  refine l_arg C 3 (by decide) (by omega) hL dL_law_976 dL_law_977 dL_law_978 dL_law_979 dL_law_980 ?_
  refine l_cC C E lk_L_104 (w_X10_stops (xL V (i + 1)) (xL V (i + 2)) (xL V (i + 3)) σ) e1 rfl rfl recv_10 rfl rfl (Nat.le_of_ble_eq_true rfl) dL_law_981 ?_
  refine l_aload_n C 1 dL_law_984 rfl ?_
  refine l_arg C 1 (by decide) (by omega) hL dL_law_985 dL_law_986 dL_law_987 dL_law_988 dL_law_989 ?_
  refine l_arg C 2 (by decide) (by omega) hL dL_law_990 dL_law_991 dL_law_992 dL_law_993 dL_law_994 ?_
  refine l_arg C 3 (by decide) (by omega) hL dL_law_995 dL_law_996 dL_law_997 dL_law_998 dL_law_999 ?_
  refine l_cM C E lk_L_107 (w_X11_stops (xL V (i + 1)) (xL V (i + 2)) (xL V (i + 3)) τ) e2 rfl rfl recv_11 rfl rfl (Nat.le_of_ble_eq_true rfl) dL_law_1000 ?_
  refine l_eq C 1595 dL_law_1003 (by decide) ?_
  exact ih _ _ hR
set_option maxHeartbeats 1000000 in
theorem case_who (C : LAt V) (E : EA V W) (hL : LL V ≤ 3072) (hi : i + 6 ≤ LL V) (h : RR σ τ) (ih : ∀ σ' τ' : St, RR σ' τ' → LJ V zL 1595 (lvL V W i) [] (PL2 V W σ' τ')) : LJ V zL 1008 (lvL V W i) [] (PL2 V W σ τ) := by
  obtain ⟨r, σ1, τ1, e1, e2, hR⟩ := k_who h (xL V (i + 1)) (xL V (i + 2))
  refine l_aload_n C 2 dL_law_1008 rfl ?_
  refine l_arg C 1 (by decide) (by omega) hL dL_law_1009 dL_law_1010 dL_law_1011 dL_law_1012 dL_law_1013 ?_
  refine l_arg C 2 (by decide) (by omega) hL dL_law_1014 dL_law_1015 dL_law_1016 dL_law_1017 dL_law_1018 ?_
  refine l_cC C E lk_L_108 (w_X10_who (xL V (i + 1)) (xL V (i + 2)) σ) e1 rfl rfl recv_10 rfl rfl (Nat.le_of_ble_eq_true rfl) dL_law_1019 ?_
  refine l_aload_n C 1 dL_law_1022 rfl ?_
  refine l_arg C 1 (by decide) (by omega) hL dL_law_1023 dL_law_1024 dL_law_1025 dL_law_1026 dL_law_1027 ?_
  refine l_arg C 2 (by decide) (by omega) hL dL_law_1028 dL_law_1029 dL_law_1030 dL_law_1031 dL_law_1032 ?_
  refine l_cM C E lk_L_111 (w_X11_who (xL V (i + 1)) (xL V (i + 2)) τ) e2 rfl rfl recv_11 rfl rfl (Nat.le_of_ble_eq_true rfl) dL_law_1033 ?_
  refine l_eq C 1595 dL_law_1036 (by decide) ?_
  exact ih _ _ hR
set_option maxHeartbeats 1000000 in
theorem case_loud (C : LAt V) (E : EA V W) (hL : LL V ≤ 3072) (hi : i + 6 ≤ LL V) (h : RR σ τ) (ih : ∀ σ' τ' : St, RR σ' τ' → LJ V zL 1595 (lvL V W i) [] (PL2 V W σ' τ')) : LJ V zL 1041 (lvL V W i) [] (PL2 V W σ τ) := by
  obtain ⟨r, σ1, τ1, e1, e2, hR⟩ := k_loud h (xL V (i + 1)) (xL V (i + 2)) (xL V (i + 3)) (xL V (i + 4))
  refine l_aload_n C 2 dL_law_1041 rfl ?_
  refine l_arg C 1 (by decide) (by omega) hL dL_law_1042 dL_law_1043 dL_law_1044 dL_law_1045 dL_law_1046 ?_
  refine l_arg C 2 (by decide) (by omega) hL dL_law_1047 dL_law_1048 dL_law_1049 dL_law_1050 dL_law_1051 ?_
  refine l_arg C 3 (by decide) (by omega) hL dL_law_1052 dL_law_1053 dL_law_1054 dL_law_1055 dL_law_1056 ?_
  refine l_arg C 4 (by decide) (by omega) hL dL_law_1057 dL_law_1058 dL_law_1059 dL_law_1060 dL_law_1061 ?_
  refine l_cC C E lk_L_112 (w_X10_loud (xL V (i + 1)) (xL V (i + 2)) (xL V (i + 3)) (xL V (i + 4)) σ) e1 rfl rfl recv_10 rfl rfl (Nat.le_of_ble_eq_true rfl) dL_law_1062 ?_
  refine l_aload_n C 1 dL_law_1065 rfl ?_
  refine l_arg C 1 (by decide) (by omega) hL dL_law_1066 dL_law_1067 dL_law_1068 dL_law_1069 dL_law_1070 ?_
  refine l_arg C 2 (by decide) (by omega) hL dL_law_1071 dL_law_1072 dL_law_1073 dL_law_1074 dL_law_1075 ?_
  refine l_arg C 3 (by decide) (by omega) hL dL_law_1076 dL_law_1077 dL_law_1078 dL_law_1079 dL_law_1080 ?_
  refine l_arg C 4 (by decide) (by omega) hL dL_law_1081 dL_law_1082 dL_law_1083 dL_law_1084 dL_law_1085 ?_
  refine l_cM C E lk_L_115 (w_X11_loud (xL V (i + 1)) (xL V (i + 2)) (xL V (i + 3)) (xL V (i + 4)) τ) e2 rfl rfl recv_11 rfl rfl (Nat.le_of_ble_eq_true rfl) dL_law_1086 ?_
  refine l_eq C 1595 dL_law_1089 (by decide) ?_
  exact ih _ _ hR
set_option maxHeartbeats 1000000 in
theorem case_alike (C : LAt V) (E : EA V W) (hL : LL V ≤ 3072) (hi : i + 6 ≤ LL V) (h : RR σ τ) (ih : ∀ σ' τ' : St, RR σ' τ' → LJ V zL 1595 (lvL V W i) [] (PL2 V W σ' τ')) : LJ V zL 1094 (lvL V W i) [] (PL2 V W σ τ) := by
  obtain ⟨r, σ1, τ1, e1, e2, hR⟩ := k_alike h (xL V (i + 1))
  refine l_aload_n C 2 dL_law_1094 rfl ?_
  refine l_arg C 1 (by decide) (by omega) hL dL_law_1095 dL_law_1096 dL_law_1097 dL_law_1098 dL_law_1099 ?_
  refine l_cC C E lk_L_116 (w_X10_alike (xL V (i + 1)) σ) e1 rfl rfl recv_10 rfl rfl (Nat.le_of_ble_eq_true rfl) dL_law_1100 ?_
  refine l_aload_n C 1 dL_law_1103 rfl ?_
  refine l_arg C 1 (by decide) (by omega) hL dL_law_1104 dL_law_1105 dL_law_1106 dL_law_1107 dL_law_1108 ?_
  refine l_cM C E lk_L_119 (w_X11_alike (xL V (i + 1)) τ) e2 rfl rfl recv_11 rfl rfl (Nat.le_of_ble_eq_true rfl) dL_law_1109 ?_
  refine l_eq C 1595 dL_law_1112 (by decide) ?_
  exact ih _ _ hR
set_option maxHeartbeats 1000000 in
theorem case_furthest (C : LAt V) (E : EA V W) (hL : LL V ≤ 3072) (hi : i + 6 ≤ LL V) (h : RR σ τ) (ih : ∀ σ' τ' : St, RR σ' τ' → LJ V zL 1595 (lvL V W i) [] (PL2 V W σ' τ')) : LJ V zL 1117 (lvL V W i) [] (PL2 V W σ τ) := by
  obtain ⟨r, σ1, τ1, e1, e2, hR⟩ := k_furthest h (xL V (i + 1)) (xL V (i + 2))
  refine l_aload_n C 2 dL_law_1117 rfl ?_
  refine l_arg C 1 (by decide) (by omega) hL dL_law_1118 dL_law_1119 dL_law_1120 dL_law_1121 dL_law_1122 ?_
  refine l_arg C 2 (by decide) (by omega) hL dL_law_1123 dL_law_1124 dL_law_1125 dL_law_1126 dL_law_1127 ?_
  refine l_cC C E lk_L_120 (w_X10_furthest (xL V (i + 1)) (xL V (i + 2)) σ) e1 rfl rfl recv_10 rfl rfl (Nat.le_of_ble_eq_true rfl) dL_law_1128 ?_
  refine l_aload_n C 1 dL_law_1131 rfl ?_
  refine l_arg C 1 (by decide) (by omega) hL dL_law_1132 dL_law_1133 dL_law_1134 dL_law_1135 dL_law_1136 ?_
  refine l_arg C 2 (by decide) (by omega) hL dL_law_1137 dL_law_1138 dL_law_1139 dL_law_1140 dL_law_1141 ?_
  refine l_cM C E lk_L_123 (w_X11_furthest (xL V (i + 1)) (xL V (i + 2)) τ) e2 rfl rfl recv_11 rfl rfl (Nat.le_of_ble_eq_true rfl) dL_law_1142 ?_
  refine l_eq C 1595 dL_law_1145 (by decide) ?_
  exact ih _ _ hR
set_option maxHeartbeats 1000000 in
theorem case_odds (C : LAt V) (E : EA V W) (hL : LL V ≤ 3072) (hi : i + 6 ≤ LL V) (h : RR σ τ) (ih : ∀ σ' τ' : St, RR σ' τ' → LJ V zL 1595 (lvL V W i) [] (PL2 V W σ' τ')) : LJ V zL 1150 (lvL V W i) [] (PL2 V W σ τ) := by
  obtain ⟨r, σ1, τ1, e1, e2, hR⟩ := k_odds h (xL V (i + 1)) (xL V (i + 2)) (xL V (i + 3)) (xL V (i + 4))
  refine l_aload_n C 2 dL_law_1150 rfl ?_
  refine l_arg C 1 (by decide) (by omega) hL dL_law_1151 dL_law_1152 dL_law_1153 dL_law_1154 dL_law_1155 ?_
  refine l_arg C 2 (by decide) (by omega) hL dL_law_1156 dL_law_1157 dL_law_1158 dL_law_1159 dL_law_1160 ?_
  refine l_arg C 3 (by decide) (by omega) hL dL_law_1161 dL_law_1162 dL_law_1163 dL_law_1164 dL_law_1165 ?_
  refine l_arg C 4 (by decide) (by omega) hL dL_law_1166 dL_law_1167 dL_law_1168 dL_law_1169 dL_law_1170 ?_
  refine l_cC C E lk_L_124 (w_X10_odds (xL V (i + 1)) (xL V (i + 2)) (xL V (i + 3)) (xL V (i + 4)) σ) e1 rfl rfl recv_10 rfl rfl (Nat.le_of_ble_eq_true rfl) dL_law_1171 ?_
  refine l_aload_n C 1 dL_law_1174 rfl ?_
  refine l_arg C 1 (by decide) (by omega) hL dL_law_1175 dL_law_1176 dL_law_1177 dL_law_1178 dL_law_1179 ?_
  refine l_arg C 2 (by decide) (by omega) hL dL_law_1180 dL_law_1181 dL_law_1182 dL_law_1183 dL_law_1184 ?_
  refine l_arg C 3 (by decide) (by omega) hL dL_law_1185 dL_law_1186 dL_law_1187 dL_law_1188 dL_law_1189 ?_
  refine l_arg C 4 (by decide) (by omega) hL dL_law_1190 dL_law_1191 dL_law_1192 dL_law_1193 dL_law_1194 ?_
  refine l_cM C E lk_L_127 (w_X11_odds (xL V (i + 1)) (xL V (i + 2)) (xL V (i + 3)) (xL V (i + 4)) τ) e2 rfl rfl recv_11 rfl rfl (Nat.le_of_ble_eq_true rfl) dL_law_1195 ?_
  refine l_eq C 1595 dL_law_1198 (by decide) ?_
  exact ih _ _ hR
set_option maxHeartbeats 1000000 in
theorem case_seed (C : LAt V) (E : EA V W) (hL : LL V ≤ 3072) (hi : i + 6 ≤ LL V) (h : RR σ τ) (ih : ∀ σ' τ' : St, RR σ' τ' → LJ V zL 1595 (lvL V W i) [] (PL2 V W σ' τ')) : LJ V zL 1203 (lvL V W i) [] (PL2 V W σ τ) := by
  obtain ⟨r, σ1, τ1, e1, e2, hR⟩ := k_seed h (xL V (i + 1))
  refine l_aload_n C 2 dL_law_1203 rfl ?_
  refine l_arg C 1 (by decide) (by omega) hL dL_law_1204 dL_law_1205 dL_law_1206 dL_law_1207 dL_law_1208 ?_
  refine l_cC C E lk_L_128 (w_X10_seed (xL V (i + 1)) σ) e1 rfl rfl recv_10 rfl rfl (Nat.le_of_ble_eq_true rfl) dL_law_1209 ?_
  refine l_aload_n C 1 dL_law_1212 rfl ?_
  refine l_arg C 1 (by decide) (by omega) hL dL_law_1213 dL_law_1214 dL_law_1215 dL_law_1216 dL_law_1217 ?_
  refine l_cM C E lk_L_131 (w_X11_seed (xL V (i + 1)) τ) e2 rfl rfl recv_11 rfl rfl (Nat.le_of_ble_eq_true rfl) dL_law_1218 ?_
  refine l_eq C 1595 dL_law_1221 (by decide) ?_
  exact ih _ _ hR
set_option maxHeartbeats 1000000 in
theorem case_voice (C : LAt V) (E : EA V W) (hL : LL V ≤ 3072) (hi : i + 6 ≤ LL V) (h : RR σ τ) (ih : ∀ σ' τ' : St, RR σ' τ' → LJ V zL 1595 (lvL V W i) [] (PL2 V W σ' τ')) : LJ V zL 1226 (lvL V W i) [] (PL2 V W σ τ) := by
  obtain ⟨r, σ1, τ1, e1, e2, hR⟩ := k_voice h (xL V (i + 1)) (xL V (i + 2)) (xL V (i + 3))
  refine l_aload_n C 2 dL_law_1226 rfl ?_
  refine l_arg C 1 (by decide) (by omega) hL dL_law_1227 dL_law_1228 dL_law_1229 dL_law_1230 dL_law_1231 ?_
  refine l_arg C 2 (by decide) (by omega) hL dL_law_1232 dL_law_1233 dL_law_1234 dL_law_1235 dL_law_1236 ?_
  refine l_arg C 3 (by decide) (by omega) hL dL_law_1237 dL_law_1238 dL_law_1239 dL_law_1240 dL_law_1241 ?_
  refine l_cC C E lk_L_132 (w_X10_voice (xL V (i + 1)) (xL V (i + 2)) (xL V (i + 3)) σ) e1 rfl rfl recv_10 rfl rfl (Nat.le_of_ble_eq_true rfl) dL_law_1242 ?_
  refine l_aload_n C 1 dL_law_1245 rfl ?_
  refine l_arg C 1 (by decide) (by omega) hL dL_law_1246 dL_law_1247 dL_law_1248 dL_law_1249 dL_law_1250 ?_
  refine l_arg C 2 (by decide) (by omega) hL dL_law_1251 dL_law_1252 dL_law_1253 dL_law_1254 dL_law_1255 ?_
  refine l_arg C 3 (by decide) (by omega) hL dL_law_1256 dL_law_1257 dL_law_1258 dL_law_1259 dL_law_1260 ?_
  refine l_cM C E lk_L_135 (w_X11_voice (xL V (i + 1)) (xL V (i + 2)) (xL V (i + 3)) τ) e2 rfl rfl recv_11 rfl rfl (Nat.le_of_ble_eq_true rfl) dL_law_1261 ?_
  refine l_eq C 1595 dL_law_1264 (by decide) ?_
  exact ih _ _ hR
set_option maxHeartbeats 1000000 in
theorem case_trace (C : LAt V) (E : EA V W) (hL : LL V ≤ 3072) (hi : i + 6 ≤ LL V) (h : RR σ τ) (ih : ∀ σ' τ' : St, RR σ' τ' → LJ V zL 1595 (lvL V W i) [] (PL2 V W σ' τ')) : LJ V zL 1269 (lvL V W i) [] (PL2 V W σ τ) := by
  obtain ⟨r, σ1, τ1, e1, e2, hR⟩ := k_trace h (xL V (i + 1))
  refine l_aload_n C 2 dL_law_1269 rfl ?_
  refine l_arg C 1 (by decide) (by omega) hL dL_law_1270 dL_law_1271 dL_law_1272 dL_law_1273 dL_law_1274 ?_
  refine l_cC C E lk_L_136 (w_X10_trace (xL V (i + 1)) σ) e1 rfl rfl recv_10 rfl rfl (Nat.le_of_ble_eq_true rfl) dL_law_1275 ?_
  refine l_aload_n C 1 dL_law_1278 rfl ?_
  refine l_arg C 1 (by decide) (by omega) hL dL_law_1279 dL_law_1280 dL_law_1281 dL_law_1282 dL_law_1283 ?_
  refine l_cM C E lk_L_139 (w_X11_trace (xL V (i + 1)) τ) e2 rfl rfl recv_11 rfl rfl (Nat.le_of_ble_eq_true rfl) dL_law_1284 ?_
  refine l_eq C 1595 dL_law_1287 (by decide) ?_
  exact ih _ _ hR
set_option maxHeartbeats 1000000 in
theorem case_sheet (C : LAt V) (E : EA V W) (hL : LL V ≤ 3072) (hi : i + 6 ≤ LL V) (h : RR σ τ) (ih : ∀ σ' τ' : St, RR σ' τ' → LJ V zL 1595 (lvL V W i) [] (PL2 V W σ' τ')) : LJ V zL 1292 (lvL V W i) [] (PL2 V W σ τ) := by
  obtain ⟨r, σ1, τ1, e1, e2, hR⟩ := k_sheet h (xL V (i + 1)) (xL V (i + 2)) (xL V (i + 3))
  refine l_aload_n C 2 dL_law_1292 rfl ?_
  refine l_arg C 1 (by decide) (by omega) hL dL_law_1293 dL_law_1294 dL_law_1295 dL_law_1296 dL_law_1297 ?_
  refine l_arg C 2 (by decide) (by omega) hL dL_law_1298 dL_law_1299 dL_law_1300 dL_law_1301 dL_law_1302 ?_
  refine l_arg C 3 (by decide) (by omega) hL dL_law_1303 dL_law_1304 dL_law_1305 dL_law_1306 dL_law_1307 ?_
  refine l_cC C E lk_L_140 (w_X10_sheet (xL V (i + 1)) (xL V (i + 2)) (xL V (i + 3)) σ) e1 rfl rfl recv_10 rfl rfl (Nat.le_of_ble_eq_true rfl) dL_law_1308 ?_
  refine l_aload_n C 1 dL_law_1311 rfl ?_
  refine l_arg C 1 (by decide) (by omega) hL dL_law_1312 dL_law_1313 dL_law_1314 dL_law_1315 dL_law_1316 ?_
  refine l_arg C 2 (by decide) (by omega) hL dL_law_1317 dL_law_1318 dL_law_1319 dL_law_1320 dL_law_1321 ?_
  refine l_arg C 3 (by decide) (by omega) hL dL_law_1322 dL_law_1323 dL_law_1324 dL_law_1325 dL_law_1326 ?_
  refine l_cM C E lk_L_143 (w_X11_sheet (xL V (i + 1)) (xL V (i + 2)) (xL V (i + 3)) τ) e2 rfl rfl recv_11 rfl rfl (Nat.le_of_ble_eq_true rfl) dL_law_1327 ?_
  refine l_eq C 1595 dL_law_1330 (by decide) ?_
  exact ih _ _ hR
set_option maxHeartbeats 1000000 in
theorem case_put (C : LAt V) (E : EA V W) (hL : LL V ≤ 3072) (hi : i + 6 ≤ LL V) (h : RR σ τ) (ih : ∀ σ' τ' : St, RR σ' τ' → LJ V zL 1595 (lvL V W i) [] (PL2 V W σ' τ')) : LJ V zL 1335 (lvL V W i) [] (PL2 V W σ τ) := by
  obtain ⟨r, σ1, τ1, e1, e2, hR⟩ := k_put h (xL V (i + 1)) (xL V (i + 2)) (xL V (i + 3))
  refine l_aload_n C 2 dL_law_1335 rfl ?_
  refine l_arg C 1 (by decide) (by omega) hL dL_law_1336 dL_law_1337 dL_law_1338 dL_law_1339 dL_law_1340 ?_
  refine l_arg C 2 (by decide) (by omega) hL dL_law_1341 dL_law_1342 dL_law_1343 dL_law_1344 dL_law_1345 ?_
  refine l_arg C 3 (by decide) (by omega) hL dL_law_1346 dL_law_1347 dL_law_1348 dL_law_1349 dL_law_1350 ?_
  refine l_cC C E lk_L_144 (w_X10_put (xL V (i + 1)) (xL V (i + 2)) (xL V (i + 3)) σ) e1 rfl rfl recv_10 rfl rfl (Nat.le_of_ble_eq_true rfl) dL_law_1351 ?_
  refine l_aload_n C 1 dL_law_1354 rfl ?_
  refine l_arg C 1 (by decide) (by omega) hL dL_law_1355 dL_law_1356 dL_law_1357 dL_law_1358 dL_law_1359 ?_
  refine l_arg C 2 (by decide) (by omega) hL dL_law_1360 dL_law_1361 dL_law_1362 dL_law_1363 dL_law_1364 ?_
  refine l_arg C 3 (by decide) (by omega) hL dL_law_1365 dL_law_1366 dL_law_1367 dL_law_1368 dL_law_1369 ?_
  refine l_cM C E lk_L_147 (w_X11_put (xL V (i + 1)) (xL V (i + 2)) (xL V (i + 3)) τ) e2 rfl rfl recv_11 rfl rfl (Nat.le_of_ble_eq_true rfl) dL_law_1370 ?_
  refine l_eq C 1595 dL_law_1373 (by decide) ?_
  exact ih _ _ hR
set_option maxHeartbeats 1000000 in
theorem case_move (C : LAt V) (E : EA V W) (hL : LL V ≤ 3072) (hi : i + 6 ≤ LL V) (h : RR σ τ) (ih : ∀ σ' τ' : St, RR σ' τ' → LJ V zL 1595 (lvL V W i) [] (PL2 V W σ' τ')) : LJ V zL 1378 (lvL V W i) [] (PL2 V W σ τ) := by
  obtain ⟨r, σ1, τ1, e1, e2, hR⟩ := k_move h (xL V (i + 1)) (xL V (i + 2)) (xL V (i + 3)) (xL V (i + 4)) (xL V (i + 5))
  refine l_aload_n C 2 dL_law_1378 rfl ?_
  refine l_arg C 1 (by decide) (by omega) hL dL_law_1379 dL_law_1380 dL_law_1381 dL_law_1382 dL_law_1383 ?_
  refine l_arg C 2 (by decide) (by omega) hL dL_law_1384 dL_law_1385 dL_law_1386 dL_law_1387 dL_law_1388 ?_
  refine l_arg C 3 (by decide) (by omega) hL dL_law_1389 dL_law_1390 dL_law_1391 dL_law_1392 dL_law_1393 ?_
  refine l_arg C 4 (by decide) (by omega) hL dL_law_1394 dL_law_1395 dL_law_1396 dL_law_1397 dL_law_1398 ?_
  refine l_arg C 5 (by decide) (by omega) hL dL_law_1399 dL_law_1400 dL_law_1401 dL_law_1402 dL_law_1403 ?_
  refine l_cC C E lk_L_148 (w_X10_move (xL V (i + 1)) (xL V (i + 2)) (xL V (i + 3)) (xL V (i + 4)) (xL V (i + 5)) σ) e1 rfl rfl recv_10 rfl rfl (Nat.le_of_ble_eq_true rfl) dL_law_1404 ?_
  refine l_aload_n C 1 dL_law_1407 rfl ?_
  refine l_arg C 1 (by decide) (by omega) hL dL_law_1408 dL_law_1409 dL_law_1410 dL_law_1411 dL_law_1412 ?_
  refine l_arg C 2 (by decide) (by omega) hL dL_law_1413 dL_law_1414 dL_law_1415 dL_law_1416 dL_law_1417 ?_
  refine l_arg C 3 (by decide) (by omega) hL dL_law_1418 dL_law_1419 dL_law_1420 dL_law_1421 dL_law_1422 ?_
  refine l_arg C 4 (by decide) (by omega) hL dL_law_1423 dL_law_1424 dL_law_1425 dL_law_1426 dL_law_1427 ?_
  refine l_arg C 5 (by decide) (by omega) hL dL_law_1428 dL_law_1429 dL_law_1430 dL_law_1431 dL_law_1432 ?_
  refine l_cM C E lk_L_152 (w_X11_move (xL V (i + 1)) (xL V (i + 2)) (xL V (i + 3)) (xL V (i + 4)) (xL V (i + 5)) τ) e2 rfl rfl recv_11 rfl rfl (Nat.le_of_ble_eq_true rfl) dL_law_1433 ?_
  refine l_eq C 1595 dL_law_1436 (by decide) ?_
  exact ih _ _ hR
set_option maxHeartbeats 1000000 in
theorem case_palates (C : LAt V) (E : EA V W) (hL : LL V ≤ 3072) (hi : i + 6 ≤ LL V) (h : RR σ τ) (ih : ∀ σ' τ' : St, RR σ' τ' → LJ V zL 1595 (lvL V W i) [] (PL2 V W σ' τ')) : LJ V zL 1441 (lvL V W i) [] (PL2 V W σ τ) := by
  obtain ⟨r, σ1, τ1, e1, e2, hR⟩ := k_palates h (xL V (i + 1))
  refine l_aload_n C 2 dL_law_1441 rfl ?_
  refine l_arg C 1 (by decide) (by omega) hL dL_law_1442 dL_law_1443 dL_law_1444 dL_law_1445 dL_law_1446 ?_
  refine l_cC C E lk_L_153 (w_X10_palates (xL V (i + 1)) σ) e1 rfl rfl recv_10 rfl rfl (Nat.le_of_ble_eq_true rfl) dL_law_1447 ?_
  refine l_aload_n C 1 dL_law_1450 rfl ?_
  refine l_arg C 1 (by decide) (by omega) hL dL_law_1451 dL_law_1452 dL_law_1453 dL_law_1454 dL_law_1455 ?_
  refine l_cM C E lk_L_156 (w_X11_palates (xL V (i + 1)) τ) e2 rfl rfl recv_11 rfl rfl (Nat.le_of_ble_eq_true rfl) dL_law_1456 ?_
  refine l_eq C 1595 dL_law_1459 (by decide) ?_
  exact ih _ _ hR
set_option maxHeartbeats 1000000 in
theorem case_judge (C : LAt V) (E : EA V W) (hL : LL V ≤ 3072) (hi : i + 6 ≤ LL V) (h : RR σ τ) (ih : ∀ σ' τ' : St, RR σ' τ' → LJ V zL 1595 (lvL V W i) [] (PL2 V W σ' τ')) : LJ V zL 1464 (lvL V W i) [] (PL2 V W σ τ) := by
  obtain ⟨r, σ1, τ1, e1, e2, hR⟩ := k_judge h (xL V (i + 1))
  refine l_aload_n C 2 dL_law_1464 rfl ?_
  refine l_arg C 1 (by decide) (by omega) hL dL_law_1465 dL_law_1466 dL_law_1467 dL_law_1468 dL_law_1469 ?_
  refine l_cC C E lk_L_157 (w_X10_judge (xL V (i + 1)) σ) e1 rfl rfl recv_10 rfl rfl (Nat.le_of_ble_eq_true rfl) dL_law_1470 ?_
  refine l_aload_n C 1 dL_law_1473 rfl ?_
  refine l_arg C 1 (by decide) (by omega) hL dL_law_1474 dL_law_1475 dL_law_1476 dL_law_1477 dL_law_1478 ?_
  refine l_cM C E lk_L_160 (w_X11_judge (xL V (i + 1)) τ) e2 rfl rfl recv_11 rfl rfl (Nat.le_of_ble_eq_true rfl) dL_law_1479 ?_
  refine l_eq C 1595 dL_law_1482 (by decide) ?_
  exact ih _ _ hR
set_option maxHeartbeats 1000000 in
theorem case_image (C : LAt V) (E : EA V W) (hL : LL V ≤ 3072) (hi : i + 6 ≤ LL V) (h : RR σ τ) (ih : ∀ σ' τ' : St, RR σ' τ' → LJ V zL 1595 (lvL V W i) [] (PL2 V W σ' τ')) : LJ V zL 1487 (lvL V W i) [] (PL2 V W σ τ) := by
  obtain ⟨r, σ1, τ1, e1, e2, hR⟩ := k_image h
  refine l_aload_n C 2 dL_law_1487 rfl ?_
  refine l_cC C E lk_L_161 (w_X10_image  σ) e1 rfl rfl recv_10 rfl rfl (Nat.le_of_ble_eq_true rfl) dL_law_1488 ?_
  refine l_aload_n C 1 dL_law_1491 rfl ?_
  refine l_cM C E lk_L_165 (w_X11_image  τ) e2 rfl rfl recv_11 rfl rfl (Nat.le_of_ble_eq_true rfl) dL_law_1492 ?_
  refine l_eq C 1595 dL_law_1495 (by decide) ?_
  exact ih _ _ hR
set_option maxHeartbeats 1000000 in
theorem case_restore (C : LAt V) (E : EA V W) (hL : LL V ≤ 3072) (hi : i + 6 ≤ LL V) (h : RR σ τ) (ih : ∀ σ' τ' : St, RR σ' τ' → LJ V zL 1595 (lvL V W i) [] (PL2 V W σ' τ')) : LJ V zL 1500 (lvL V W i) [] (PL2 V W σ τ) := by
  obtain ⟨r, σ1, τ1, e1, e2, hR⟩ := k_restore h
  refine l_aload_n C 2 dL_law_1500 rfl ?_
  refine l_cC C E lk_L_166 (w_X10_restore  σ) e1 rfl rfl recv_10 rfl rfl (Nat.le_of_ble_eq_true rfl) dL_law_1501 ?_
  refine l_aload_n C 1 dL_law_1504 rfl ?_
  refine l_cM C E lk_L_169 (w_X11_restore  τ) e2 rfl rfl recv_11 rfl rfl (Nat.le_of_ble_eq_true rfl) dL_law_1505 ?_
  refine l_eq C 1595 dL_law_1508 (by decide) ?_
  exact ih _ _ hR
set_option maxHeartbeats 1000000 in
theorem case_tell (C : LAt V) (E : EA V W) (hL : LL V ≤ 3072) (hi : i + 6 ≤ LL V) (h : RR σ τ) (ih : ∀ σ' τ' : St, RR σ' τ' → LJ V zL 1595 (lvL V W i) [] (PL2 V W σ' τ')) : LJ V zL 1513 (lvL V W i) [] (PL2 V W σ τ) := by
  obtain ⟨r, σ1, τ1, e1, e2, hR⟩ := k_tell h (xL V (i + 1))
  refine l_aload_n C 2 dL_law_1513 rfl ?_
  refine l_arg C 1 (by decide) (by omega) hL dL_law_1514 dL_law_1515 dL_law_1516 dL_law_1517 dL_law_1518 ?_
  refine l_cC C E lk_L_170 (w_X10_tell (xL V (i + 1)) σ) e1 rfl rfl recv_10 rfl rfl (Nat.le_of_ble_eq_true rfl) dL_law_1519 ?_
  refine l_aload_n C 1 dL_law_1522 rfl ?_
  refine l_arg C 1 (by decide) (by omega) hL dL_law_1523 dL_law_1524 dL_law_1525 dL_law_1526 dL_law_1527 ?_
  refine l_cM C E lk_L_173 (w_X11_tell (xL V (i + 1)) τ) e2 rfl rfl recv_11 rfl rfl (Nat.le_of_ble_eq_true rfl) dL_law_1528 ?_
  refine l_eq C 1595 dL_law_1531 (by decide) ?_
  exact ih _ _ hR
set_option maxHeartbeats 1000000 in
theorem case_check (C : LAt V) (E : EA V W) (hL : LL V ≤ 3072) (hi : i + 6 ≤ LL V) (h : RR σ τ) (ih : ∀ σ' τ' : St, RR σ' τ' → LJ V zL 1595 (lvL V W i) [] (PL2 V W σ' τ')) : LJ V zL 1536 (lvL V W i) [] (PL2 V W σ τ) := by
  obtain ⟨r, σ1, τ1, e1, e2, hR⟩ := k_check h
  refine l_aload_n C 2 dL_law_1536 rfl ?_
  refine l_cC C E lk_L_174 (w_X10_check  σ) e1 rfl rfl recv_10 rfl rfl (Nat.le_of_ble_eq_true rfl) dL_law_1537 ?_
  refine l_aload_n C 1 dL_law_1540 rfl ?_
  refine l_cM C E lk_L_177 (w_X11_check  τ) e2 rfl rfl recv_11 rfl rfl (Nat.le_of_ble_eq_true rfl) dL_law_1541 ?_
  refine l_eq C 1595 dL_law_1544 (by decide) ?_
  exact ih _ _ hR
set_option maxHeartbeats 1000000 in
theorem case_count (C : LAt V) (E : EA V W) (hL : LL V ≤ 3072) (hi : i + 6 ≤ LL V) (h : RR σ τ) (ih : ∀ σ' τ' : St, RR σ' τ' → LJ V zL 1595 (lvL V W i) [] (PL2 V W σ' τ')) : LJ V zL 1549 (lvL V W i) [] (PL2 V W σ τ) := by
  obtain ⟨r, σ1, τ1, e1, e2, hR⟩ := k_count h (xL V (i + 1))
  refine l_aload_n C 2 dL_law_1549 rfl ?_
  refine l_arg C 1 (by decide) (by omega) hL dL_law_1550 dL_law_1551 dL_law_1552 dL_law_1553 dL_law_1554 ?_
  refine l_cC C E lk_L_178 (w_X10_count (xL V (i + 1)) σ) e1 rfl rfl recv_10 rfl rfl (Nat.le_of_ble_eq_true rfl) dL_law_1555 ?_
  refine l_aload_n C 1 dL_law_1558 rfl ?_
  refine l_arg C 1 (by decide) (by omega) hL dL_law_1559 dL_law_1560 dL_law_1561 dL_law_1562 dL_law_1563 ?_
  refine l_cM C E lk_L_181 (w_X11_count (xL V (i + 1)) τ) e2 rfl rfl recv_11 rfl rfl (Nat.le_of_ble_eq_true rfl) dL_law_1564 ?_
  refine l_eq C 1595 dL_law_1567 (by decide) ?_
  exact ih _ _ hR
set_option maxHeartbeats 1000000 in
theorem case_told (C : LAt V) (E : EA V W) (hL : LL V ≤ 3072) (hi : i + 6 ≤ LL V) (h : RR σ τ) (ih : ∀ σ' τ' : St, RR σ' τ' → LJ V zL 1595 (lvL V W i) [] (PL2 V W σ' τ')) : LJ V zL 1572 (lvL V W i) [] (PL2 V W σ τ) := by
  obtain ⟨r, σ1, τ1, e1, e2, hR⟩ := k_told h (xL V (i + 1))
  refine l_aload_n C 2 dL_law_1572 rfl ?_
  refine l_arg C 1 (by decide) (by omega) hL dL_law_1573 dL_law_1574 dL_law_1575 dL_law_1576 dL_law_1577 ?_
  refine l_cC C E lk_L_182 (w_X10_told (xL V (i + 1)) σ) e1 rfl rfl recv_10 rfl rfl (Nat.le_of_ble_eq_true rfl) dL_law_1578 ?_
  refine l_aload_n C 1 dL_law_1581 rfl ?_
  refine l_arg C 1 (by decide) (by omega) hL dL_law_1582 dL_law_1583 dL_law_1584 dL_law_1585 dL_law_1586 ?_
  refine l_cM C E lk_L_185 (w_X11_told (xL V (i + 1)) τ) e2 rfl rfl recv_11 rfl rfl (Nat.le_of_ble_eq_true rfl) dL_law_1587 ?_
  refine l_eq C 1595 dL_law_1590 (by decide) ?_
  exact ih _ _ hR
end LCASES
