/-! the law: 33 calls, one way of walking them -/
def zLaw : List (Nat × Nat × (Nat × Nat × Nat) × (Nat × Nat × Nat)) := [(180, 1, (13, 97, 2237), (17, 143, 5034)), (203, 0, (18, 98, 3002), (22, 144, 5043)), (216, 0, (23, 99, 3006), (26, 154, 5047)), (229, 0, (27, 100, 3010), (30, 155, 5091)), (242, 2, (31, 101, 3022), (35, 156, 5095)), (275, 2, (36, 102, 3040), (39, 157, 5108)), (308, 3, (40, 103, 3052), (44, 159, 5116)), (351, 1, (45, 104, 3068), (48, 160, 5126)), (374, 4, (49, 105, 3076), (53, 165, 5131)), (427, 4, (54, 106, 3110), (57, 170, 5147)), (480, 2, (58, 107, 3140), (61, 174, 5167)), (513, 3, (62, 108, 3181), (65, 175, 5183)), (556, 1, (66, 109, 3191), (69, 176, 5188)), (579, 0, (70, 110, 3195), (73, 177, 5192)), (592, 1, (74, 111, 3207), (77, 178, 5196)), (615, 0, (78, 112, 3212), (81, 179, 5200)), (628, 1, (82, 113, 3216), (85, 182, 5204)), (651, 3, (86, 114, 3225), (89, 184, 5216)), (694, 4, (90, 115, 4024), (93, 185, 5228)), (747, 5, (94, 116, 4028), (98, 186, 5234)), (810, 2, (99, 117, 4036), (102, 187, 5238)), (843, 4, (103, 119, 4045), (106, 188, 6002)), (896, 1, (107, 120, 4076), (110, 192, 6006)), (919, 1, (111, 121, 4091), (114, 193, 6021)), (942, 1, (115, 122, 4103), (118, 194, 6025)), (965, 3, (119, 123, 4111), (122, 196, 6030)), (1008, 4, (123, 124, 4145), (126, 197, 6038)), (1061, 0, (127, 125, 4154), (130, 198, 6043)), (1074, 2, (131, 126, 4158), (134, 199, 6047)), (1107, 5, (135, 127, 4173), (138, 200, 6051)), (1170, 0, (139, 129, 4189), (142, 201, 6060)), (1183, 0, (143, 130, 4193), (146, 202, 6064)), (1196, 1, (147, 131, 4197), (150, 203, 6068))]
def zOffs : Array Int := #[147, 170, 183, 196, 209, 242, 275, 318, 341, 394, 447, 480, 523, 546, 559, 582, 595, 618, 661, 714, 777, 810, 863, 886, 909, 932, 975, 1028, 1041, 1074, 1137, 1150, 1163]
def zPk (pc j : Nat) : Bool := decide (decode code pc = .ok (.aload_n 0, 1)) && decide (decode code (pc + 1) = .ok (.iload_n 3, 1)) && decide (decode code (pc + 2) = .ok (.iconst (j : Int), 1)) && decide (decode code (pc + 3) = .ok (.iadd, 1)) && decide (decode code (pc + 4) = .ok (.iaload, 1)) && decide (Int32.ofInt (j : Int) = nI j)
def zPks : Nat → Nat → Nat → Bool
  | 0, _, _ => true
  | n + 1, pc, j => zPk pc j && zPks n (pc + 5) (j + 1)
def zCs (ix mid pl ci n : Nat) : Bool := xis pl (.methodLink "PushSaidDoorLaw" ix (xY mid)) && Nat.blt mid 204 && !(xmini mid) && !(xSt mid) && Nat.beq (xI mid) ci && Nat.beq (xN mid) n && Nat.ble (xF mid) 7 && Nat.ble (n + 1) (xL mid) && Nat.ble (xL mid) 30
def zCk (q : Nat × Nat × (Nat × Nat × Nat) × (Nat × Nat × Nat)) : Bool := match q with
  | (P, n, (ix, mid, pl), (ix', mid', pl')) => decide (decode code P = .ok (.aload_n 1, 1)) && zPks n (P + 1) 1 && decide (decode code (P + 1 + 5 * n) = .ok (.invokevirtual ix, 3)) && decide (decode code (P + 4 + 5 * n) = .ok (.aload_n 2, 1)) && zPks n (P + 5 + 5 * n) 1 && decide (decode code (P + 5 + 10 * n) = .ok (.invokevirtual ix', 3)) && decide (decode code (P + 8 + 10 * n) = .ok (.if_icmp .eq (1219 - ((P + 8 + 10 * n : Nat) : Int)), 3)) && zCs ix mid pl 9 n && zCs ix' mid' pl' 10 n && Nat.ble n 5
theorem zlaw_0 : zCk (180, 1, (13, 97, 2237), (17, 143, 5034)) = true := by decide +kernel
theorem zlaw_1 : zCk (203, 0, (18, 98, 3002), (22, 144, 5043)) = true := by decide +kernel
theorem zlaw_2 : zCk (216, 0, (23, 99, 3006), (26, 154, 5047)) = true := by decide +kernel
theorem zlaw_3 : zCk (229, 0, (27, 100, 3010), (30, 155, 5091)) = true := by decide +kernel
theorem zlaw_4 : zCk (242, 2, (31, 101, 3022), (35, 156, 5095)) = true := by decide +kernel
theorem zlaw_5 : zCk (275, 2, (36, 102, 3040), (39, 157, 5108)) = true := by decide +kernel
theorem zlaw_6 : zCk (308, 3, (40, 103, 3052), (44, 159, 5116)) = true := by decide +kernel
theorem zlaw_7 : zCk (351, 1, (45, 104, 3068), (48, 160, 5126)) = true := by decide +kernel
theorem zlaw_8 : zCk (374, 4, (49, 105, 3076), (53, 165, 5131)) = true := by decide +kernel
theorem zlaw_9 : zCk (427, 4, (54, 106, 3110), (57, 170, 5147)) = true := by decide +kernel
theorem zlaw_10 : zCk (480, 2, (58, 107, 3140), (61, 174, 5167)) = true := by decide +kernel
theorem zlaw_11 : zCk (513, 3, (62, 108, 3181), (65, 175, 5183)) = true := by decide +kernel
theorem zlaw_12 : zCk (556, 1, (66, 109, 3191), (69, 176, 5188)) = true := by decide +kernel
theorem zlaw_13 : zCk (579, 0, (70, 110, 3195), (73, 177, 5192)) = true := by decide +kernel
theorem zlaw_14 : zCk (592, 1, (74, 111, 3207), (77, 178, 5196)) = true := by decide +kernel
theorem zlaw_15 : zCk (615, 0, (78, 112, 3212), (81, 179, 5200)) = true := by decide +kernel
theorem zlaw_16 : zCk (628, 1, (82, 113, 3216), (85, 182, 5204)) = true := by decide +kernel
theorem zlaw_17 : zCk (651, 3, (86, 114, 3225), (89, 184, 5216)) = true := by decide +kernel
theorem zlaw_18 : zCk (694, 4, (90, 115, 4024), (93, 185, 5228)) = true := by decide +kernel
theorem zlaw_19 : zCk (747, 5, (94, 116, 4028), (98, 186, 5234)) = true := by decide +kernel
theorem zlaw_20 : zCk (810, 2, (99, 117, 4036), (102, 187, 5238)) = true := by decide +kernel
theorem zlaw_21 : zCk (843, 4, (103, 119, 4045), (106, 188, 6002)) = true := by decide +kernel
theorem zlaw_22 : zCk (896, 1, (107, 120, 4076), (110, 192, 6006)) = true := by decide +kernel
theorem zlaw_23 : zCk (919, 1, (111, 121, 4091), (114, 193, 6021)) = true := by decide +kernel
theorem zlaw_24 : zCk (942, 1, (115, 122, 4103), (118, 194, 6025)) = true := by decide +kernel
theorem zlaw_25 : zCk (965, 3, (119, 123, 4111), (122, 196, 6030)) = true := by decide +kernel
theorem zlaw_26 : zCk (1008, 4, (123, 124, 4145), (126, 197, 6038)) = true := by decide +kernel
theorem zlaw_27 : zCk (1061, 0, (127, 125, 4154), (130, 198, 6043)) = true := by decide +kernel
theorem zlaw_28 : zCk (1074, 2, (131, 126, 4158), (134, 199, 6047)) = true := by decide +kernel
theorem zlaw_29 : zCk (1107, 5, (135, 127, 4173), (138, 200, 6051)) = true := by decide +kernel
theorem zlaw_30 : zCk (1170, 0, (139, 129, 4189), (142, 201, 6060)) = true := by decide +kernel
theorem zlaw_31 : zCk (1183, 0, (143, 130, 4193), (146, 202, 6064)) = true := by decide +kernel
theorem zlaw_32 : zCk (1196, 1, (147, 131, 4197), (150, 203, 6068)) = true := by decide +kernel
theorem zlaw_ok : ∀ q ∈ zLaw, zCk q = true := List.forall_mem_cons.mpr ⟨zlaw_0, List.forall_mem_cons.mpr ⟨zlaw_1, List.forall_mem_cons.mpr ⟨zlaw_2, List.forall_mem_cons.mpr ⟨zlaw_3, List.forall_mem_cons.mpr ⟨zlaw_4, List.forall_mem_cons.mpr ⟨zlaw_5, List.forall_mem_cons.mpr ⟨zlaw_6, List.forall_mem_cons.mpr ⟨zlaw_7, List.forall_mem_cons.mpr ⟨zlaw_8, List.forall_mem_cons.mpr ⟨zlaw_9, List.forall_mem_cons.mpr ⟨zlaw_10, List.forall_mem_cons.mpr ⟨zlaw_11, List.forall_mem_cons.mpr ⟨zlaw_12, List.forall_mem_cons.mpr ⟨zlaw_13, List.forall_mem_cons.mpr ⟨zlaw_14, List.forall_mem_cons.mpr ⟨zlaw_15, List.forall_mem_cons.mpr ⟨zlaw_16, List.forall_mem_cons.mpr ⟨zlaw_17, List.forall_mem_cons.mpr ⟨zlaw_18, List.forall_mem_cons.mpr ⟨zlaw_19, List.forall_mem_cons.mpr ⟨zlaw_20, List.forall_mem_cons.mpr ⟨zlaw_21, List.forall_mem_cons.mpr ⟨zlaw_22, List.forall_mem_cons.mpr ⟨zlaw_23, List.forall_mem_cons.mpr ⟨zlaw_24, List.forall_mem_cons.mpr ⟨zlaw_25, List.forall_mem_cons.mpr ⟨zlaw_26, List.forall_mem_cons.mpr ⟨zlaw_27, List.forall_mem_cons.mpr ⟨zlaw_28, List.forall_mem_cons.mpr ⟨zlaw_29, List.forall_mem_cons.mpr ⟨zlaw_30, List.forall_mem_cons.mpr ⟨zlaw_31, List.forall_mem_cons.mpr ⟨zlaw_32, fun _ h => absurd h List.not_mem_nil⟩⟩⟩⟩⟩⟩⟩⟩⟩⟩⟩⟩⟩⟩⟩⟩⟩⟩⟩⟩⟩⟩⟩⟩⟩⟩⟩⟩⟩⟩⟩⟩⟩
theorem zlaw_off : (List.range 33).all (fun t => match zLaw[t]?, zOffs[t]? with
    | some q, some off => decide ((33 : Int) + off = (q.1 : Int))
    | _, _ => false) = true := by decide +kernel
def zAg (n mC mR : Nat) : Prop := ∀ (is : List Int32) (S : xA) (M N : xM), is.length = n → WA S → RC S M → RR S N → Agr S M N mC (xent (xL mC) (.ref 0 :: is.map Value.int)) mR (xent (xL mR) (.ref 0 :: is.map Value.int))
theorem zag_0 : zAg 1 97 143 := by
  intro is S M N hn W C R
  match is, hn with
  | [x0], _ => exact A_write C R W x0
theorem zag_1 : zAg 0 98 144 := by
  intro is S M N hn W C R
  match is, hn with
  | [], _ => exact A_wipe C R W
theorem zag_2 : zAg 0 99 154 := by
  intro is S M N hn W C R
  match is, hn with
  | [], _ => exact A_fault C R W
theorem zag_3 : zAg 0 100 155 := by
  intro is S M N hn W C R
  match is, hn with
  | [], _ => exact A_lay C R W
theorem zag_4 : zAg 2 101 156 := by
  intro is S M N hn W C R
  match is, hn with
  | [x0, x1], _ => exact A_door C R W x0 x1
theorem zag_5 : zAg 2 102 157 := by
  intro is S M N hn W C R
  match is, hn with
  | [x0, x1], _ => exact A_person C R W x0 x1
theorem zag_6 : zAg 3 103 159 := by
  intro is S M N hn W C R
  match is, hn with
  | [x0, x1, x2], _ => exact A_times C R W x0 x1 x2
theorem zag_7 : zAg 1 104 160 := by
  intro is S M N hn W C R
  match is, hn with
  | [x0], _ => exact A_does C R W x0
theorem zag_8 : zAg 4 105 165 := by
  intro is S M N hn W C R
  match is, hn with
  | [x0, x1, x2, x3], _ => exact A_weighs C R W x0 x1 x2 x3
theorem zag_9 : zAg 4 106 170 := by
  intro is S M N hn W C R
  match is, hn with
  | [x0, x1, x2, x3], _ => exact A_wrong C R W x0 x1 x2 x3
theorem zag_10 : zAg 2 107 174 := by
  intro is S M N hn W C R
  match is, hn with
  | [x0, x1], _ => exact A_go C R W x0 x1
theorem zag_11 : zAg 3 108 175 := by
  intro is S M N hn W C R
  match is, hn with
  | [x0, x1, x2], _ => exact A_put C R W x0 x1 x2
theorem zag_12 : zAg 1 109 176 := by
  intro is S M N hn W C R
  match is, hn with
  | [x0], _ => exact A_hang C R W x0
theorem zag_13 : zAg 0 110 177 := by
  intro is S M N hn W C R
  match is, hn with
  | [], _ => exact A_undo C R W
theorem zag_14 : zAg 1 111 178 := by
  intro is S M N hn W C R
  match is, hn with
  | [x0], _ => exact A_tell C R W x0
theorem zag_15 : zAg 0 112 179 := by
  intro is S M N hn W C R
  match is, hn with
  | [], _ => exact A_noRow C R W
theorem zag_16 : zAg 1 113 182 := by
  intro is S M N hn W C R
  match is, hn with
  | [x0], _ => exact A_along C R W x0
theorem zag_17 : zAg 3 114 184 := by
  intro is S M N hn W C R
  match is, hn with
  | [x0, x1, x2], _ => exact A_way C R W x0 x1 x2
theorem zag_18 : zAg 4 115 185 := by
  intro is S M N hn W C R
  match is, hn with
  | [x0, x1, x2, x3], _ => exact A_learnt C R W x0 x1 x2 x3
theorem zag_19 : zAg 5 116 186 := by
  intro is S M N hn W C R
  match is, hn with
  | [x0, x1, x2, x3, x4], _ => exact A_spoilt C R W x0 x1 x2 x3 x4
theorem zag_20 : zAg 2 117 187 := by
  intro is S M N hn W C R
  match is, hn with
  | [x0, x1], _ => exact A_tray C R W x0 x1
theorem zag_21 : zAg 4 119 188 := by
  intro is S M N hn W C R
  match is, hn with
  | [x0, x1, x2, x3], _ => exact A_signs C R W x0 x1 x2 x3
theorem zag_22 : zAg 1 120 192 := by
  intro is S M N hn W C R
  match is, hn with
  | [x0], _ => exact A_hung C R W x0
theorem zag_23 : zAg 1 121 193 := by
  intro is S M N hn W C R
  match is, hn with
  | [x0], _ => exact A_clash C R W x0
theorem zag_24 : zAg 1 122 194 := by
  intro is S M N hn W C R
  match is, hn with
  | [x0], _ => exact A_worth C R W x0
theorem zag_25 : zAg 3 123 196 := by
  intro is S M N hn W C R
  match is, hn with
  | [x0, x1, x2], _ => exact A_crowd C R W x0 x1 x2
theorem zag_26 : zAg 4 124 197 := by
  intro is S M N hn W C R
  match is, hn with
  | [x0, x1, x2, x3], _ => exact A_film C R W x0 x1 x2 x3
theorem zag_27 : zAg 0 125 198 := by
  intro is S M N hn W C R
  match is, hn with
  | [], _ => exact A_forget C R W
theorem zag_28 : zAg 2 126 199 := by
  intro is S M N hn W C R
  match is, hn with
  | [x0, x1], _ => exact A_fits C R W x0 x1
theorem zag_29 : zAg 5 127 200 := by
  intro is S M N hn W C R
  match is, hn with
  | [x0, x1, x2, x3, x4], _ => exact A_day C R W x0 x1 x2 x3 x4
theorem zag_30 : zAg 0 129 201 := by
  intro is S M N hn W C R
  match is, hn with
  | [], _ => exact A_keep C R W
theorem zag_31 : zAg 0 130 202 := by
  intro is S M N hn W C R
  match is, hn with
  | [], _ => exact A_back C R W
theorem zag_32 : zAg 1 131 203 := by
  intro is S M N hn W C R
  match is, hn with
  | [x0], _ => exact A_count C R W x0
theorem zag_all : ∀ q ∈ zLaw, zAg q.2.1 q.2.2.1.2.1 q.2.2.2.2.1 := List.forall_mem_cons.mpr ⟨zag_0, List.forall_mem_cons.mpr ⟨zag_1, List.forall_mem_cons.mpr ⟨zag_2, List.forall_mem_cons.mpr ⟨zag_3, List.forall_mem_cons.mpr ⟨zag_4, List.forall_mem_cons.mpr ⟨zag_5, List.forall_mem_cons.mpr ⟨zag_6, List.forall_mem_cons.mpr ⟨zag_7, List.forall_mem_cons.mpr ⟨zag_8, List.forall_mem_cons.mpr ⟨zag_9, List.forall_mem_cons.mpr ⟨zag_10, List.forall_mem_cons.mpr ⟨zag_11, List.forall_mem_cons.mpr ⟨zag_12, List.forall_mem_cons.mpr ⟨zag_13, List.forall_mem_cons.mpr ⟨zag_14, List.forall_mem_cons.mpr ⟨zag_15, List.forall_mem_cons.mpr ⟨zag_16, List.forall_mem_cons.mpr ⟨zag_17, List.forall_mem_cons.mpr ⟨zag_18, List.forall_mem_cons.mpr ⟨zag_19, List.forall_mem_cons.mpr ⟨zag_20, List.forall_mem_cons.mpr ⟨zag_21, List.forall_mem_cons.mpr ⟨zag_22, List.forall_mem_cons.mpr ⟨zag_23, List.forall_mem_cons.mpr ⟨zag_24, List.forall_mem_cons.mpr ⟨zag_25, List.forall_mem_cons.mpr ⟨zag_26, List.forall_mem_cons.mpr ⟨zag_27, List.forall_mem_cons.mpr ⟨zag_28, List.forall_mem_cons.mpr ⟨zag_29, List.forall_mem_cons.mpr ⟨zag_30, List.forall_mem_cons.mpr ⟨zag_31, List.forall_mem_cons.mpr ⟨zag_32, fun _ h => absurd h List.not_mem_nil⟩⟩⟩⟩⟩⟩⟩⟩⟩⟩⟩⟩⟩⟩⟩⟩⟩⟩⟩⟩⟩⟩⟩⟩⟩⟩⟩⟩⟩⟩⟩⟩⟩
