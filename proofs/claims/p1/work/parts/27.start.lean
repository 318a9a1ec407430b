/-! ===== the classes, the exceptions ===== -/
section Start
variable {S : State} {A : Array Value}
def xskey (s : String) : Nat := s.toByteArray.data.toList.foldl (fun h b => (h * 257 + b.toNat) % 1000000007) 0
def xkdB (T : u_T) (l : List Nat) (k : Nat) : Bool := match parseFieldDescriptor (T k).2.2.1, l[k]? with
  | some t, some f => Nat.beq f (xfk t)
  | _, _ => false
theorem xCl_mk {ft : Nat → List Nat} {c : Nat} {C : String} {T : u_T} {N : Nat} {ps keys : List Nat} (h0 : vwCl[c]? = some (C, T, N)) (h1 : N ≤ 256) (h2 : ∀ k, k < N → xmem (ps.getD k 0) (u_lay C T k) = true) (h3 : ∀ k, k < N → xkdB T (ft c) k = true)
    (h4 : (List.range N).map (fun k => xskey (T k).2.1) = keys) (h5 : keys.Nodup) (h6 : (ft c).length = N) : xCl ft c := by
  have h7 : ∀ k, k < N → ∃ t f, parseFieldDescriptor (T k).2.2.1 = some t ∧ (ft c)[k]? = some f ∧ f = xfk t := by
    intro k hk
    have h := h3 k hk
    unfold xkdB at h
    split at h
    · next t f e1 e2 => exact ⟨t, f, e1, e2, Nat.eq_of_beq_eq_true h⟩
    · cases h
  refine ⟨C, T, N, fun k => (parseFieldDescriptor (T k).2.2.1).getD .int, h0, h1, fun w hw => ?_, fun k hk => ?_, fun a ha b hb hne e => hne ?_, h6, fun k hk => ?_⟩
  · obtain ⟨k, hk, rfl⟩ := List.mem_map.mp hw
    exact xmem_ok (h2 k (List.mem_range.mp hk))
  · obtain ⟨t, f, e1, -, -⟩ := h7 k hk
    show parseFieldDescriptor (T k).2.2.1 = some ((parseFieldDescriptor (T k).2.2.1).getD .int)
    rw [e1]
    rfl
  · have key : ∀ i j, i < j → j < N → (T i).2.1 ≠ (T j).2.1 := by
      intro i j hij hj he
      rw [← h4] at h5
      have h9 := List.pairwise_iff_getElem.mp h5 i j (by rw [List.length_map, List.length_range]; omega) (by rw [List.length_map, List.length_range]; omega) hij
      apply h9
      rw [List.getElem_map, List.getElem_map, List.getElem_range, List.getElem_range, he]
    rcases Nat.lt_trichotomy a b with h | h | h
    · exact absurd e (key a b h hb)
    · exact h
    · exact absurd e.symm (key b a h ha)
  · obtain ⟨t, f, e1, e2, e3⟩ := h7 k hk
    rw [e2, e3]
    show some (xfk t) = some (xfk ((parseFieldDescriptor (T k).2.2.1).getD .int))
    rw [e1]
    rfl
def xcp_0 : List Nat := [458, 460, 462]
theorem xcw_0_0 : ∀ j, j < 3 → xmem (xcp_0.getD (0 + j) 0) (u_lay RX0 TX0 (0 + j)) = true := by decide +kernel
theorem xck_0_0 : ∀ j, j < 3 → xkdB TX0 (xfts 0) (0 + j) = true := by decide +kernel
set_option maxRecDepth 100000 in
theorem xcl_0 : xCl xfts 0 := xCl_mk (C := RX0) (T := TX0) (N := 3) (ps := xcp_0) (keys := [840219293, 959044788, 298898209]) rfl (by decide) (fun k hk => (by have := xcw_0_0 (k - 0) (by omega); rwa [show 0 + (k - 0) = k by omega] at this)) (fun k hk => (by have := xck_0_0 (k - 0) (by omega); rwa [show 0 + (k - 0) = k by omega] at this)) (by decide +kernel) (by decide +kernel) rfl
def xcp_1 : List Nat := [1003, 1005, 1007, 1025, 1027, 1029, 1031, 1033, 1035, 1037, 1039, 1041, 1043, 1045, 1047, 1049, 1051, 1053, 1055, 1057]
theorem xcw_1_0 : ∀ j, j < 20 → xmem (xcp_1.getD (0 + j) 0) (u_lay RX1 TX1 (0 + j)) = true := by decide +kernel
theorem xck_1_0 : ∀ j, j < 20 → xkdB TX1 (xfts 1) (0 + j) = true := by decide +kernel
set_option maxRecDepth 100000 in
theorem xcl_1 : xCl xfts 1 := xCl_mk (C := RX1) (T := TX1) (N := 20) (ps := xcp_1) (keys := [455885904, 7291463, 887086037, 250776516, 816759857, 527607078, 701445358, 318112616, 857591740, 904082217, 942465732, 76683738, 341134770, 302134989, 687183513, 425305409, 772056482, 670210727, 658896993, 863913706]) rfl (by decide) (fun k hk => (by have := xcw_1_0 (k - 0) (by omega); rwa [show 0 + (k - 0) = k by omega] at this)) (fun k hk => (by have := xck_1_0 (k - 0) (by omega); rwa [show 0 + (k - 0) = k by omega] at this)) (by decide +kernel) (by decide +kernel) rfl
def xcp_2 : List Nat := [692, 694, 696, 698, 700, 702, 704, 706, 708, 710, 712, 714, 716, 718, 720, 722, 724]
theorem xcw_2_0 : ∀ j, j < 17 → xmem (xcp_2.getD (0 + j) 0) (u_lay RX2 TX2 (0 + j)) = true := by decide +kernel
theorem xck_2_0 : ∀ j, j < 17 → xkdB TX2 (xfts 2) (0 + j) = true := by decide +kernel
set_option maxRecDepth 100000 in
theorem xcl_2 : xCl xfts 2 := xCl_mk (C := RX2) (T := TX2) (N := 17) (ps := xcp_2) (keys := [455885904, 7291463, 887086037, 6828088, 938429511, 76320377, 660898665, 7690323, 906691047, 7359810, 210159064, 887086023, 978151412, 840617147, 243913445, 625798689, 830252803]) rfl (by decide) (fun k hk => (by have := xcw_2_0 (k - 0) (by omega); rwa [show 0 + (k - 0) = k by omega] at this)) (fun k hk => (by have := xck_2_0 (k - 0) (by omega); rwa [show 0 + (k - 0) = k by omega] at this)) (by decide +kernel) (by decide +kernel) rfl
def xcp_3 : List Nat := [491, 493, 495, 513, 515, 517, 519, 521]
theorem xcw_3_0 : ∀ j, j < 8 → xmem (xcp_3.getD (0 + j) 0) (u_lay RX3 TX3 (0 + j)) = true := by decide +kernel
theorem xck_3_0 : ∀ j, j < 8 → xkdB TX3 (xfts 3) (0 + j) = true := by decide +kernel
set_option maxRecDepth 100000 in
theorem xcl_3 : xCl xfts 3 := xCl_mk (C := RX3) (T := TX3) (N := 8) (ps := xcp_3) (keys := [830497909, 243692126, 276247742, 540757848, 973307353, 751844643, 265077114, 988490864]) rfl (by decide) (fun k hk => (by have := xcw_3_0 (k - 0) (by omega); rwa [show 0 + (k - 0) = k by omega] at this)) (fun k hk => (by have := xck_3_0 (k - 0) (by omega); rwa [show 0 + (k - 0) = k by omega] at this)) (by decide +kernel) (by decide +kernel) rfl
def xcp_4 : List Nat := [778, 780, 782, 784, 786, 788, 790, 792, 794, 796, 798, 800, 802, 804, 806, 808, 810, 812, 814]
theorem xcw_4_0 : ∀ j, j < 19 → xmem (xcp_4.getD (0 + j) 0) (u_lay RX4 TX4 (0 + j)) = true := by decide +kernel
theorem xck_4_0 : ∀ j, j < 19 → xkdB TX4 (xfts 4) (0 + j) = true := by decide +kernel
set_option maxRecDepth 100000 in
theorem xcl_4 : xCl xfts 4 := xCl_mk (C := RX4) (T := TX4) (N := 19) (ps := xcp_4) (keys := [455885904, 7291463, 887086037, 823244959, 436369823, 425202689, 830009427, 801218876, 776502610, 658896993, 958775204, 906691047, 7690323, 43681676, 21981587, 425305409, 772056482, 456812403, 975450753]) rfl (by decide) (fun k hk => (by have := xcw_4_0 (k - 0) (by omega); rwa [show 0 + (k - 0) = k by omega] at this)) (fun k hk => (by have := xck_4_0 (k - 0) (by omega); rwa [show 0 + (k - 0) = k by omega] at this)) (by decide +kernel) (by decide +kernel) rfl
def xcp_5 : List Nat := [421, 423, 425, 427, 429, 431, 433, 435]
theorem xcw_5_0 : ∀ j, j < 8 → xmem (xcp_5.getD (0 + j) 0) (u_lay RX5 TX5 (0 + j)) = true := by decide +kernel
theorem xck_5_0 : ∀ j, j < 8 → xkdB TX5 (xfts 5) (0 + j) = true := by decide +kernel
set_option maxRecDepth 100000 in
theorem xcl_5 : xCl xfts 5 := xCl_mk (C := RX5) (T := TX5) (N := 8) (ps := xcp_5) (keys := [776502610, 425202689, 525501677, 815471905, 773004570, 832446499, 899817522, 400456854]) rfl (by decide) (fun k hk => (by have := xcw_5_0 (k - 0) (by omega); rwa [show 0 + (k - 0) = k by omega] at this)) (fun k hk => (by have := xck_5_0 (k - 0) (by omega); rwa [show 0 + (k - 0) = k by omega] at this)) (by decide +kernel) (by decide +kernel) rfl
def xcp_6 : List Nat := [931, 933, 935, 937, 939, 941, 943, 945, 947, 949, 951, 953, 955, 957, 959, 961, 963, 965, 967, 969]
theorem xcw_6_0 : ∀ j, j < 20 → xmem (xcp_6.getD (0 + j) 0) (u_lay RX6 TX6 (0 + j)) = true := by decide +kernel
theorem xck_6_0 : ∀ j, j < 20 → xkdB TX6 (xfts 6) (0 + j) = true := by decide +kernel
set_option maxRecDepth 100000 in
theorem xcl_6 : xCl xfts 6 := xCl_mk (C := RX6) (T := TX6) (N := 20) (ps := xcp_6) (keys := [840219553, 6699319, 142064859, 416866449, 519804865, 298334875, 968629276, 776502610, 84340232, 801023280, 694329749, 976016040, 7291463, 400456879, 78053029, 510655777, 534820695, 891088630, 510665013, 401947282]) rfl (by decide) (fun k hk => (by have := xcw_6_0 (k - 0) (by omega); rwa [show 0 + (k - 0) = k by omega] at this)) (fun k hk => (by have := xck_6_0 (k - 0) (by omega); rwa [show 0 + (k - 0) = k by omega] at this)) (by decide +kernel) (by decide +kernel) rfl
def xcp_7 : List Nat := [1093, 1095, 1097, 1099, 1101, 1103, 1105, 1107, 1109, 1111, 1113, 1115, 1117, 1119, 1121, 1123, 1125, 1127, 1129, 1131]
theorem xcw_7_0 : ∀ j, j < 20 → xmem (xcp_7.getD (0 + j) 0) (u_lay RX7 TX7 (0 + j)) = true := by decide +kernel
theorem xck_7_0 : ∀ j, j < 20 → xkdB TX7 (xfts 7) (0 + j) = true := by decide +kernel
set_option maxRecDepth 100000 in
theorem xcl_7 : xCl xfts 7 := xCl_mk (C := RX7) (T := TX7) (N := 20) (ps := xcp_7) (keys := [511726631, 687841940, 188573719, 105505103, 913614734, 583197154, 776502610, 659845230, 924138408, 459508525, 704819103, 741822815, 654782046, 988627771, 28750928, 921694716, 868676691, 989796430, 863913706, 16486826]) rfl (by decide) (fun k hk => (by have := xcw_7_0 (k - 0) (by omega); rwa [show 0 + (k - 0) = k by omega] at this)) (fun k hk => (by have := xck_7_0 (k - 0) (by omega); rwa [show 0 + (k - 0) = k by omega] at this)) (by decide +kernel) (by decide +kernel) rfl
def xcp_8 : List Nat := [639, 641, 643, 645, 647, 649, 651, 653, 655, 657, 659, 661]
theorem xcw_8_0 : ∀ j, j < 12 → xmem (xcp_8.getD (0 + j) 0) (u_lay RX8 TX8 (0 + j)) = true := by decide +kernel
theorem xck_8_0 : ∀ j, j < 12 → xkdB TX8 (xfts 8) (0 + j) = true := by decide +kernel
set_option maxRecDepth 100000 in
theorem xcl_8 : xCl xfts 8 := xCl_mk (C := RX8) (T := TX8) (N := 12) (ps := xcp_8) (keys := [7291463, 874562463, 786730699, 7558232, 840221609, 721725091, 313002611, 959504319, 28637, 762551538, 189788344, 936952123]) rfl (by decide) (fun k hk => (by have := xcw_8_0 (k - 0) (by omega); rwa [show 0 + (k - 0) = k by omega] at this)) (fun k hk => (by have := xck_8_0 (k - 0) (by omega); rwa [show 0 + (k - 0) = k by omega] at this)) (by decide +kernel) (by decide +kernel) rfl
def xcp_9 : List Nat := [849, 851, 853, 855, 857, 859, 861, 863, 865, 867, 869, 871, 873, 875, 877, 879, 881, 883, 885, 887]
theorem xcw_9_0 : ∀ j, j < 20 → xmem (xcp_9.getD (0 + j) 0) (u_lay RX9 TX9 (0 + j)) = true := by decide +kernel
theorem xck_9_0 : ∀ j, j < 20 → xkdB TX9 (xfts 9) (0 + j) = true := by decide +kernel
set_option maxRecDepth 100000 in
theorem xcl_9 : xCl xfts 9 := xCl_mk (C := RX9) (T := TX9) (N := 20) (ps := xcp_9) (keys := [455885904, 7291463, 887086037, 700191798, 658896993, 884450293, 657837558, 786730699, 436369823, 976413053, 976413052, 906691047, 907590576, 243692126, 118797417, 42488414, 763414412, 772056482, 761869302, 109150947]) rfl (by decide) (fun k hk => (by have := xcw_9_0 (k - 0) (by omega); rwa [show 0 + (k - 0) = k by omega] at this)) (fun k hk => (by have := xck_9_0 (k - 0) (by omega); rwa [show 0 + (k - 0) = k by omega] at this)) (by decide +kernel) (by decide +kernel) rfl
def xcp_10 : List Nat := [552, 554, 556, 558, 560, 562, 564, 566, 568]
theorem xcw_10_0 : ∀ j, j < 9 → xmem (xcp_10.getD (0 + j) 0) (u_lay RX10 TX10 (0 + j)) = true := by decide +kernel
theorem xck_10_0 : ∀ j, j < 9 → xkdB TX10 (xfts 10) (0 + j) = true := by decide +kernel
set_option maxRecDepth 100000 in
theorem xcl_10 : xCl xfts 10 := xCl_mk (C := RX10) (T := TX10) (N := 9) (ps := xcp_10) (keys := [687183513, 990276467, 538748343, 526652873, 231843439, 771792276, 840217512, 873907128, 814946405]) rfl (by decide) (fun k hk => (by have := xcw_10_0 (k - 0) (by omega); rwa [show 0 + (k - 0) = k by omega] at this)) (fun k hk => (by have := xck_10_0 (k - 0) (by omega); rwa [show 0 + (k - 0) = k by omega] at this)) (by decide +kernel) (by decide +kernel) rfl
def xcp_11 : List Nat := [366, 368, 370, 372, 374, 376, 378, 380]
theorem xcw_11_0 : ∀ j, j < 8 → xmem (xcp_11.getD (0 + j) 0) (u_lay RX11 TX11 (0 + j)) = true := by decide +kernel
theorem xck_11_0 : ∀ j, j < 8 → xkdB TX11 (xfts 11) (0 + j) = true := by decide +kernel
set_option maxRecDepth 100000 in
theorem xcl_11 : xCl xfts 11 := xCl_mk (C := RX11) (T := TX11) (N := 8) (ps := xcp_11) (keys := [583709804, 822983605, 25045, 127384139, 211148161, 738966701, 27337390, 303135824]) rfl (by decide) (fun k hk => (by have := xcw_11_0 (k - 0) (by omega); rwa [show 0 + (k - 0) = k by omega] at this)) (fun k hk => (by have := xck_11_0 (k - 0) (by omega); rwa [show 0 + (k - 0) = k by omega] at this)) (by decide +kernel) (by decide +kernel) rfl
def xcp_12 : List Nat := [1149, 1151, 1153, 1155, 1157, 1159, 1161, 1163, 1165, 1167, 1169, 1171, 1173, 1175, 1177]
theorem xcw_12_0 : ∀ j, j < 15 → xmem (xcp_12.getD (0 + j) 0) (u_lay RX12 TX12 (0 + j)) = true := by decide +kernel
theorem xck_12_0 : ∀ j, j < 15 → xkdB TX12 (xfts 12) (0 + j) = true := by decide +kernel
set_option maxRecDepth 100000 in
theorem xcl_12 : xCl xfts 12 := xCl_mk (C := RX12) (T := TX12) (N := 15) (ps := xcp_12) (keys := [975488419, 7291463, 591683162, 822981293, 226833856, 771792788, 887086037, 738570417, 511726631, 467748328, 400456879, 106115230, 956433848, 314808966, 853086800]) rfl (by decide) (fun k hk => (by have := xcw_12_0 (k - 0) (by omega); rwa [show 0 + (k - 0) = k by omega] at this)) (fun k hk => (by have := xck_12_0 (k - 0) (by omega); rwa [show 0 + (k - 0) = k by omega] at this)) (by decide +kernel) (by decide +kernel) rfl
def xcp_13 : List Nat := [3910, 3912, 3914, 3916, 3918, 3920, 3922, 3924, 3926, 3928, 3930, 3932, 3934, 3936, 3938, 3940, 3942, 3944, 3946, 3948, 3950, 3952, 3954, 3956, 3958, 3960, 3962, 3964, 3966, 3968, 3970, 3972, 3974, 3976, 3978, 3980, 3982, 3984, 3986, 3988, 3990, 3992, 3994, 3996, 3998, 4000, 4002, 4004, 4006, 4008, 4010, 4012, 4014, 4016, 4018, 4020, 4022, 4024, 4026, 4028, 4030, 4032, 4034, 4036, 4038, 4040, 4042, 4044, 4046, 4048, 4050, 4052, 4054, 4056, 4058, 4060, 4062, 4064, 4066, 4068, 4070, 4072, 4074, 4076, 4078, 4096, 4098, 4100, 4102, 4104, 4106, 4108, 4110, 4112, 4114, 4116, 4118, 4120, 4122, 4124, 4126, 4128, 4130, 4132, 4134, 4136, 4138, 4140, 4142, 4144, 4146, 4148, 4150, 4152, 4154, 4156, 4158, 4160, 4162, 4164, 4166, 4168, 4170, 4172, 4174, 4176, 4178, 4180, 4182, 4184, 4186, 4188, 4190, 4192, 4194, 4196, 4198, 4200, 4202, 4204, 4206, 4208, 4210, 4212, 4214]
theorem xcw_13_0 : ∀ j, j < 48 → xmem (xcp_13.getD (0 + j) 0) (u_lay RX13 TX13 (0 + j)) = true := by decide +kernel
theorem xck_13_0 : ∀ j, j < 48 → xkdB TX13 (xfts 13) (0 + j) = true := by decide +kernel
theorem xcw_13_48 : ∀ j, j < 48 → xmem (xcp_13.getD (48 + j) 0) (u_lay RX13 TX13 (48 + j)) = true := by decide +kernel
theorem xck_13_48 : ∀ j, j < 48 → xkdB TX13 (xfts 13) (48 + j) = true := by decide +kernel
theorem xcw_13_96 : ∀ j, j < 48 → xmem (xcp_13.getD (96 + j) 0) (u_lay RX13 TX13 (96 + j)) = true := by decide +kernel
theorem xck_13_96 : ∀ j, j < 48 → xkdB TX13 (xfts 13) (96 + j) = true := by decide +kernel
theorem xcw_13_144 : ∀ j, j < 1 → xmem (xcp_13.getD (144 + j) 0) (u_lay RX13 TX13 (144 + j)) = true := by decide +kernel
theorem xck_13_144 : ∀ j, j < 1 → xkdB TX13 (xfts 13) (144 + j) = true := by decide +kernel
set_option maxRecDepth 100000 in
theorem xcl_13 : xCl xfts 13 := xCl_mk (C := RX13) (T := TX13) (N := 145) (ps := xcp_13) (keys := [606068487, 6499890, 211148161, 959039914, 812190956, 317611308, 38865722, 642550557, 943316848, 993649066, 353853810, 112, 18723172, 299554572, 975488419, 700522033, 607276296, 296641324, 25709296, 25045, 931000556, 626268906, 776502610, 761008850, 873640090, 489230853, 412163231, 396669471, 712689352, 798094050, 822981293, 226833856, 741713980, 931774590, 874562463, 786730699, 244074172, 975731167, 762551538, 790257985, 527738902, 451008427, 839688340, 455886418, 295852232, 263343356, 978151412, 840617147, 590389418, 19944026, 625798689, 906556677, 316304227, 435523715, 316701821, 368084343, 467748328, 766631447, 211306722, 875530210, 564181512, 859428088, 363104039, 696800809, 362627767, 456812403, 220223156, 939489840, 171954060, 815471905, 419240730, 438694959, 400456839, 400456854, 414213054, 384290644, 14235487, 21961454, 106115230, 172696945, 801767330, 535365430, 155722351, 519804865, 298334875, 968629276, 248876785, 669942410, 6964766, 810298246, 225212042, 252990072, 841909574, 891088630, 241823231, 534820695, 473715793, 538970675, 475073975, 913224362, 401947282, 350579185, 388392100, 816756273, 7161938, 772319385, 524708962, 312692300, 918713953, 816759857, 45199174, 954694062, 58490252, 58490514, 24360007, 813972899, 276896104, 687841940, 950469594, 775377463, 671175699, 578015963, 526891202, 659845230, 114014305, 580213777, 862539189, 944994032, 936789152, 715713358, 681372504, 681768042, 733150564, 214120460, 908117411, 123005607, 111494286, 606124793, 342731539, 333476058, 564820443, 7558232, 801200632, 430527936, 921570639]) rfl (by decide) (fun k hk => if h0 : k < 48 then (by have := xcw_13_0 (k - 0) (by omega); rwa [show 0 + (k - 0) = k by omega] at this) else if h1 : k < 96 then (by have := xcw_13_48 (k - 48) (by omega); rwa [show 48 + (k - 48) = k by omega] at this) else if h2 : k < 144 then (by have := xcw_13_96 (k - 96) (by omega); rwa [show 96 + (k - 96) = k by omega] at this) else (by have := xcw_13_144 (k - 144) (by omega); rwa [show 144 + (k - 144) = k by omega] at this)) (fun k hk => if h0 : k < 48 then (by have := xck_13_0 (k - 0) (by omega); rwa [show 0 + (k - 0) = k by omega] at this) else if h1 : k < 96 then (by have := xck_13_48 (k - 48) (by omega); rwa [show 48 + (k - 48) = k by omega] at this) else if h2 : k < 144 then (by have := xck_13_96 (k - 96) (by omega); rwa [show 96 + (k - 96) = k by omega] at this) else (by have := xck_13_144 (k - 144) (by omega); rwa [show 144 + (k - 144) = k by omega] at this)) (by decide +kernel) (by decide +kernel) rfl
theorem xcl_all : ∀ (c : Nat) (q : vw_C), vwCl[c]? = some q → xCl xfts c := fun c q h => match c, h with
  | 0, _ => xcl_0
  | 1, _ => xcl_1
  | 2, _ => xcl_2
  | 3, _ => xcl_3
  | 4, _ => xcl_4
  | 5, _ => xcl_5
  | 6, _ => xcl_6
  | 7, _ => xcl_7
  | 8, _ => xcl_8
  | 9, _ => xcl_9
  | 10, _ => xcl_10
  | 11, _ => xcl_11
  | 12, _ => xcl_12
  | 13, _ => xcl_13
  | n + 14, h => by cases h
theorem xin_all (hts : ∀ w ∈ lw_tbl, w.before A S = true) : ∀ (c : Nat) (q : vw_C), vwCl[c]? = some q → ∃ n, (Cond.instantiable q.1 n).before A S = true := fun c q h => match c, h with
  | 0, h => by cases h; exact ⟨_, (hts (Cond.instantiable "GridHouse$Big" 3) (xpc_in (k := 1) (List.mem_of_getElem? (i := 191) (by decide +kernel))))⟩
  | 1, h => by cases h; exact ⟨_, (hts (Cond.instantiable "GridHouse$Dispatch" 20) (xpc_in (k := 3) (List.mem_of_getElem? (i := 205) (by decide +kernel))))⟩
  | 2, h => by cases h; exact ⟨_, (hts (Cond.instantiable "GridHouse$Flow" 17) (xpc_in (k := 2) (List.mem_of_getElem? (i := 60) (by decide +kernel))))⟩
  | 3, h => by cases h; exact ⟨_, (hts (Cond.instantiable "GridHouse$Hand" 8) (xpc_in (k := 1) (List.mem_of_getElem? (i := 185) (by decide +kernel))))⟩
  | 4, h => by cases h; exact ⟨_, (hts (Cond.instantiable "GridHouse$Meters" 19) (xpc_in (k := 2) (List.mem_of_getElem? (i := 217) (by decide +kernel))))⟩
  | 5, h => by cases h; exact ⟨_, (hts (Cond.instantiable "GridHouse$Net" 8) (xpc_in (k := 1) (List.mem_of_getElem? (i := 130) (by decide +kernel))))⟩
  | 6, h => by cases h; exact ⟨_, (hts (Cond.instantiable "GridHouse$Relays" 20) (xpc_in (k := 3) (List.mem_of_getElem? (i := 123) (by decide +kernel))))⟩
  | 7, h => by cases h; exact ⟨_, (hts (Cond.instantiable "GridHouse$Rules" 20) (xpc_in (k := 4) (List.mem_of_getElem? (i := 37) (by decide +kernel))))⟩
  | 8, h => by cases h; exact ⟨_, (hts (Cond.instantiable "GridHouse$Shape" 12) (xpc_in (k := 2) (List.mem_of_getElem? (i := 74) (by decide +kernel))))⟩
  | 9, h => by cases h; exact ⟨_, (hts (Cond.instantiable "GridHouse$Shorts" 20) (xpc_in (k := 3) (List.mem_of_getElem? (i := 50) (by decide +kernel))))⟩
  | 10, h => by cases h; exact ⟨_, (hts (Cond.instantiable "GridHouse$Solver" 9) (xpc_in (k := 2) (List.mem_of_getElem? (i := 13) (by decide +kernel))))⟩
  | 11, h => by cases h; exact ⟨_, (hts (Cond.instantiable "GridHouse$Tape" 8) (xpc_in (k := 1) (List.mem_of_getElem? (i := 37) (by decide +kernel))))⟩
  | 12, h => by cases h; exact ⟨_, (hts (Cond.instantiable "GridHouse" 15) (xpc_in (k := 1) (List.mem_of_getElem? (i := 29) (by decide +kernel))))⟩
  | 13, h => by cases h; exact ⟨_, (hts (Cond.instantiable "GridHouseModel" 145) (xpc_in (k := 11) (List.mem_of_getElem? (i := 41) (by decide +kernel))))⟩
  | n + 14, h => by cases h
theorem xD_ex (hts : ∀ w ∈ lw_tbl, w.before A S = true) : ∃ D : va_G, va_K D vwCl [] S := by
  have h0 : ∀ c : Nat, ∃ p : ClassId × (Nat → Nat), ∀ q, vwCl[c]? = some q → u_Kn S q.1 q.2.1 q.2.2 p.1 p.2 := by
    intro c
    cases hq : vwCl[c]? with
    | none => exact ⟨(0, fun _ => 0), fun q h => by cases h⟩
    | some q =>
      obtain ⟨C, T, N, ty, e1, -, hw, -⟩ := xcl_all c q hq
      obtain ⟨n, hi⟩ := xin_all hts c q hq
      cases e1.symm.trans hq
      obtain ⟨cC, iS, h⟩ := u_known (ws := xW) (fun w hw => hts w (List.mem_filter.mp hw).1) hw hi
      exact ⟨(cC, iS), fun q' h' => by cases h'; exact h⟩
  obtain ⟨f, hf⟩ := Classical.axiomOfChoice h0
  exact ⟨(fun c => (f c).1, fun c => (f c).2), hf, fun k q h => by cases h⟩
theorem xEx_0 (hF : ∀ w ∈ xF0, w.before A S = true) (hts : ∀ w ∈ lw_tbl, w.before A S = true) : xEx S := ⟨fun E h => match E, h with
  | 0, _ => va_tabs rfl rfl (hts (Cond.castable "java/lang/IllegalArgumentException" "java/lang/IllegalArgumentException") (xpc_in (k := 8) (List.mem_of_getElem? (i := 87) (by decide +kernel))))
  | 1, _ => va_tabs rfl rfl (hts (Cond.castable "java/lang/IllegalStateException" "java/lang/IllegalStateException") (xpc_in (k := 8) (List.mem_of_getElem? (i := 8) (by decide +kernel))))
  | 2, _ => va_tabs rfl rfl (hts (Cond.castable "java/lang/IndexOutOfBoundsException" "java/lang/IndexOutOfBoundsException") (xpc_in (k := 8) (List.mem_of_getElem? (i := 128) (by decide +kernel))))
  | n + 3, h => absurd h (by omega), fun E E' h h' hne => match E, E', h, h', hne with
  | 0, 0, _, _, h => absurd rfl h
  | 0, 1, _, _, _ => va_Nc.of (hF (Cond.not (Cond.castable "java/lang/IllegalArgumentException" "java/lang/IllegalStateException")) (xF0_at (k := 242) (by decide +kernel)))
  | 0, 2, _, _, _ => va_Nc.of (hF (Cond.not (Cond.castable "java/lang/IllegalArgumentException" "java/lang/IndexOutOfBoundsException")) (xF0_at (k := 275) (by decide +kernel)))
  | 1, 0, _, _, _ => va_Nc.of (hF (Cond.not (Cond.castable "java/lang/IllegalStateException" "java/lang/IllegalArgumentException")) (xF0_at (k := 258) (by decide +kernel)))
  | 1, 1, _, _, h => absurd rfl h
  | 1, 2, _, _, _ => va_Nc.of (hF (Cond.not (Cond.castable "java/lang/IllegalStateException" "java/lang/IndexOutOfBoundsException")) (xF0_at (k := 274) (by decide +kernel)))
  | 2, 0, _, _, _ => va_Nc.of (hF (Cond.not (Cond.castable "java/lang/IndexOutOfBoundsException" "java/lang/IllegalArgumentException")) (xF0_at (k := 259) (by decide +kernel)))
  | 2, 1, _, _, _ => va_Nc.of (hF (Cond.not (Cond.castable "java/lang/IndexOutOfBoundsException" "java/lang/IllegalStateException")) (xF0_at (k := 243) (by decide +kernel)))
  | 2, 2, _, _, h => absurd rfl h
  | n + 3, _, h, _, _ => absurd h (by omega)
  | _, n + 3, _, h, _ => absurd h (by omega)⟩
theorem xZs_0 (hF : ∀ w ∈ xF0, w.before A S = true) (hts : ∀ w ∈ lw_tbl, w.before A S = true) : xZs S := ⟨vx_Zqof (hts (Cond.laysStatic "java/lang/Throwable" "UNASSIGNED_STACK" "[Ljava/lang/StackTraceElement;") (xpc_in (k := 8) (List.mem_of_getElem? (i := 33) (by decide +kernel)))) (hts (Cond.initialized "java/lang/Throwable") (xpc_in (k := 1) (List.mem_of_getElem? (i := 20) (by decide +kernel)))) (hF (Cond.isRef (Term.static "java/lang/Throwable" "UNASSIGNED_STACK" "[Ljava/lang/StackTraceElement;")) (xF0_at (k := 183) (by decide +kernel))) (xnoA S), vx_Zqof (hts (Cond.laysStatic "java/lang/Throwable" "SUPPRESSED_SENTINEL" "Ljava/util/List;") (xpc_in (k := 8) (List.mem_of_getElem? (i := 35) (by decide +kernel)))) (hts (Cond.initialized "java/lang/Throwable") (xpc_in (k := 1) (List.mem_of_getElem? (i := 20) (by decide +kernel)))) (hF (Cond.isRef (Term.static "java/lang/Throwable" "SUPPRESSED_SENTINEL" "Ljava/util/List;")) (xF0_at (k := 184) (by decide +kernel))) (xnoA S)⟩
theorem xvk_445 (hF : ∀ w ∈ xF0, w.before A S = true) (hts : ∀ w ∈ lw_tbl, w.before A S = true) : ∃ tx sa, vk_R RX12 445 tx sa S := by
  obtain ⟨a, c, cA, kA, q1, -⟩ := Cond.exactly_spec (args := A) (first := S) (o := none) (s := S) (idx := []) (t := (Term.string "GridHouse" 445)) (cls := "java/lang/String") (hF (Cond.exactly (Term.string "GridHouse" 445) "java/lang/String") (xF0_at (k := 967) (by decide +kernel)))
  exact ⟨_, a, vk_R.of (hts (Cond.stringRef "GridHouse" 445 "there is no run") (xpc_in (k := 10) (List.mem_of_getElem? (i := 138) (by decide +kernel)))) q1⟩
theorem xvk_439 (hF : ∀ w ∈ xF0, w.before A S = true) (hts : ∀ w ∈ lw_tbl, w.before A S = true) : ∃ tx sa, vk_R RX12 439 tx sa S := by
  obtain ⟨a, c, cA, kA, q1, -⟩ := Cond.exactly_spec (args := A) (first := S) (o := none) (s := S) (idx := []) (t := (Term.string "GridHouse" 439)) (cls := "java/lang/String") (hF (Cond.exactly (Term.string "GridHouse" 439) "java/lang/String") (xF0_at (k := 946) (by decide +kernel)))
  exact ⟨_, a, vk_R.of (hts (Cond.stringRef "GridHouse" 439 "there is no short") (xpc_in (k := 10) (List.mem_of_getElem? (i := 114) (by decide +kernel)))) q1⟩
theorem xvk_433 (hF : ∀ w ∈ xF0, w.before A S = true) (hts : ∀ w ∈ lw_tbl, w.before A S = true) : ∃ tx sa, vk_R RX12 433 tx sa S := by
  obtain ⟨a, c, cA, kA, q1, -⟩ := Cond.exactly_spec (args := A) (first := S) (o := none) (s := S) (idx := []) (t := (Term.string "GridHouse" 433)) (cls := "java/lang/String") (hF (Cond.exactly (Term.string "GridHouse" 433) "java/lang/String") (xF0_at (k := 922) (by decide +kernel)))
  exact ⟨_, a, vk_R.of (hts (Cond.stringRef "GridHouse" 433 "no such relay or row") (xpc_in (k := 10) (List.mem_of_getElem? (i := 90) (by decide +kernel)))) q1⟩
theorem xvk_416 (hF : ∀ w ∈ xF0, w.before A S = true) (hts : ∀ w ∈ lw_tbl, w.before A S = true) : ∃ tx sa, vk_R RX12 416 tx sa S := by
  obtain ⟨a, c, cA, kA, q1, -⟩ := Cond.exactly_spec (args := A) (first := S) (o := none) (s := S) (idx := []) (t := (Term.string "GridHouse" 416)) (cls := "java/lang/String") (hF (Cond.exactly (Term.string "GridHouse" 416) "java/lang/String") (xF0_at (k := 893) (by decide +kernel)))
  exact ⟨_, a, vk_R.of (hts (Cond.stringRef "GridHouse" 416 "no such relay") (xpc_in (k := 10) (List.mem_of_getElem? (i := 62) (by decide +kernel)))) q1⟩
theorem xvk_414 (hF : ∀ w ∈ xF0, w.before A S = true) (hts : ∀ w ∈ lw_tbl, w.before A S = true) : ∃ tx sa, vk_R RX12 414 tx sa S := by
  obtain ⟨a, c, cA, kA, q1, -⟩ := Cond.exactly_spec (args := A) (first := S) (o := none) (s := S) (idx := []) (t := (Term.string "GridHouse" 414)) (cls := "java/lang/String") (hF (Cond.exactly (Term.string "GridHouse" 414) "java/lang/String") (xF0_at (k := 859) (by decide +kernel)))
  exact ⟨_, a, vk_R.of (hts (Cond.stringRef "GridHouse" 414 "no such switch") (xpc_in (k := 10) (List.mem_of_getElem? (i := 49) (by decide +kernel)))) q1⟩
theorem xvk_350 (hF : ∀ w ∈ xF0, w.before A S = true) (hts : ∀ w ∈ lw_tbl, w.before A S = true) : ∃ tx sa, vk_R RX12 350 tx sa S := by
  obtain ⟨a, c, cA, kA, q1, -⟩ := Cond.exactly_spec (args := A) (first := S) (o := none) (s := S) (idx := []) (t := (Term.string "GridHouse" 350)) (cls := "java/lang/String") (hF (Cond.exactly (Term.string "GridHouse" 350) "java/lang/String") (xF0_at (k := 771) (by decide +kernel)))
  exact ⟨_, a, vk_R.of (hts (Cond.stringRef "GridHouse" 350 "no such meter") (xpc_in (k := 9) (List.mem_of_getElem? (i := 93) (by decide +kernel)))) q1⟩
theorem xvk_333 (hF : ∀ w ∈ xF0, w.before A S = true) (hts : ∀ w ∈ lw_tbl, w.before A S = true) : ∃ tx sa, vk_R RX12 333 tx sa S := by
  obtain ⟨a, c, cA, kA, q1, -⟩ := Cond.exactly_spec (args := A) (first := S) (o := none) (s := S) (idx := []) (t := (Term.string "GridHouse" 333)) (cls := "java/lang/String") (hF (Cond.exactly (Term.string "GridHouse" 333) "java/lang/String") (xF0_at (k := 732) (by decide +kernel)))
  exact ⟨_, a, vk_R.of (hts (Cond.stringRef "GridHouse" 333 "no such line or bar") (xpc_in (k := 9) (List.mem_of_getElem? (i := 74) (by decide +kernel)))) q1⟩
theorem xvk_268 (hF : ∀ w ∈ xF0, w.before A S = true) (hts : ∀ w ∈ lw_tbl, w.before A S = true) : ∃ tx sa, vk_R RX12 268 tx sa S := by
  obtain ⟨a, c, cA, kA, q1, -⟩ := Cond.exactly_spec (args := A) (first := S) (o := none) (s := S) (idx := []) (t := (Term.string "GridHouse" 268)) (cls := "java/lang/String") (hF (Cond.exactly (Term.string "GridHouse" 268) "java/lang/String") (xF0_at (k := 670) (by decide +kernel)))
  exact ⟨_, a, vk_R.of (hts (Cond.stringRef "GridHouse" 268 "a number is not as told") (xpc_in (k := 8) (List.mem_of_getElem? (i := 186) (by decide +kernel)))) q1⟩
theorem xvk_266 (hF : ∀ w ∈ xF0, w.before A S = true) (hts : ∀ w ∈ lw_tbl, w.before A S = true) : ∃ tx sa, vk_R RX12 266 tx sa S := by
  obtain ⟨a, c, cA, kA, q1, -⟩ := Cond.exactly_spec (args := A) (first := S) (o := none) (s := S) (idx := []) (t := (Term.string "GridHouse" 266)) (cls := "java/lang/String") (hF (Cond.exactly (Term.string "GridHouse" 266) "java/lang/String") (xF0_at (k := 713) (by decide +kernel)))
  exact ⟨_, a, vk_R.of (hts (Cond.stringRef "GridHouse" 266 "no such machine") (xpc_in (k := 8) (List.mem_of_getElem? (i := 235) (by decide +kernel)))) q1⟩
theorem xvk_264 (hF : ∀ w ∈ xF0, w.before A S = true) (hts : ∀ w ∈ lw_tbl, w.before A S = true) : ∃ tx sa, vk_R RX12 264 tx sa S := by
  obtain ⟨a, c, cA, kA, q1, -⟩ := Cond.exactly_spec (args := A) (first := S) (o := none) (s := S) (idx := []) (t := (Term.string "GridHouse" 264)) (cls := "java/lang/String") (hF (Cond.exactly (Term.string "GridHouse" 264) "java/lang/String") (xF0_at (k := 697) (by decide +kernel)))
  exact ⟨_, a, vk_R.of (hts (Cond.stringRef "GridHouse" 264 "no such line") (xpc_in (k := 8) (List.mem_of_getElem? (i := 219) (by decide +kernel)))) q1⟩
theorem xvk_262 (hF : ∀ w ∈ xF0, w.before A S = true) (hts : ∀ w ∈ lw_tbl, w.before A S = true) : ∃ tx sa, vk_R RX12 262 tx sa S := by
  obtain ⟨a, c, cA, kA, q1, -⟩ := Cond.exactly_spec (args := A) (first := S) (o := none) (s := S) (idx := []) (t := (Term.string "GridHouse" 262)) (cls := "java/lang/String") (hF (Cond.exactly (Term.string "GridHouse" 262) "java/lang/String") (xF0_at (k := 655) (by decide +kernel)))
  exact ⟨_, a, vk_R.of (hts (Cond.stringRef "GridHouse" 262 "no such bar") (xpc_in (k := 8) (List.mem_of_getElem? (i := 182) (by decide +kernel)))) q1⟩
theorem xvk_245 (hF : ∀ w ∈ xF0, w.before A S = true) (hts : ∀ w ∈ lw_tbl, w.before A S = true) : ∃ tx sa, vk_R RX12 245 tx sa S := by
  obtain ⟨a, c, cA, kA, q1, -⟩ := Cond.exactly_spec (args := A) (first := S) (o := none) (s := S) (idx := []) (t := (Term.string "GridHouse" 245)) (cls := "java/lang/String") (hF (Cond.exactly (Term.string "GridHouse" 245) "java/lang/String") (xF0_at (k := 635) (by decide +kernel)))
  exact ⟨_, a, vk_R.of (hts (Cond.stringRef "GridHouse" 245 "none are kept so") (xpc_in (k := 8) (List.mem_of_getElem? (i := 170) (by decide +kernel)))) q1⟩
theorem xvk_240 (hF : ∀ w ∈ xF0, w.before A S = true) (hts : ∀ w ∈ lw_tbl, w.before A S = true) : ∃ tx sa, vk_R RX12 240 tx sa S := by
  obtain ⟨a, c, cA, kA, q1, -⟩ := Cond.exactly_spec (args := A) (first := S) (o := none) (s := S) (idx := []) (t := (Term.string "GridHouse" 240)) (cls := "java/lang/String") (hF (Cond.exactly (Term.string "GridHouse" 240) "java/lang/String") (xF0_at (k := 618) (by decide +kernel)))
  exact ⟨_, a, vk_R.of (hts (Cond.stringRef "GridHouse" 240 "no such place") (xpc_in (k := 8) (List.mem_of_getElem? (i := 162) (by decide +kernel)))) q1⟩
theorem xvk_218 (hF : ∀ w ∈ xF0, w.before A S = true) (hts : ∀ w ∈ lw_tbl, w.before A S = true) : ∃ tx sa, vk_R RX12 218 tx sa S := by
  obtain ⟨a, c, cA, kA, q1, -⟩ := Cond.exactly_spec (args := A) (first := S) (o := none) (s := S) (idx := []) (t := (Term.string "GridHouse" 218)) (cls := "java/lang/String") (hF (Cond.exactly (Term.string "GridHouse" 218) "java/lang/String") (xF0_at (k := 556) (by decide +kernel)))
  exact ⟨_, a, vk_R.of (hts (Cond.stringRef "GridHouse" 218 "no such object") (xpc_in (k := 8) (List.mem_of_getElem? (i := 135) (by decide +kernel)))) q1⟩
theorem xvk_157 (hF : ∀ w ∈ xF0, w.before A S = true) (hts : ∀ w ∈ lw_tbl, w.before A S = true) : ∃ tx sa, vk_R RX12 157 tx sa S := by
  obtain ⟨a, c, cA, kA, q1, -⟩ := Cond.exactly_spec (args := A) (first := S) (o := none) (s := S) (idx := []) (t := (Term.string "GridHouse" 157)) (cls := "java/lang/String") (hF (Cond.exactly (Term.string "GridHouse" 157) "java/lang/String") (xF0_at (k := 540) (by decide +kernel)))
  exact ⟨_, a, vk_R.of (hts (Cond.stringRef "GridHouse" 157 "no such sort") (xpc_in (k := 8) (List.mem_of_getElem? (i := 108) (by decide +kernel)))) q1⟩
theorem xvk_123 (hF : ∀ w ∈ xF0, w.before A S = true) (hts : ∀ w ∈ lw_tbl, w.before A S = true) : ∃ tx sa, vk_R RX12 123 tx sa S := by
  obtain ⟨a, c, cA, kA, q1, -⟩ := Cond.exactly_spec (args := A) (first := S) (o := none) (s := S) (idx := []) (t := (Term.string "GridHouse" 123)) (cls := "java/lang/String") (hF (Cond.exactly (Term.string "GridHouse" 123) "java/lang/String") (xF0_at (k := 517) (by decide +kernel)))
  exact ⟨_, a, vk_R.of (hts (Cond.stringRef "GridHouse" 123 "not within the tape") (xpc_in (k := 8) (List.mem_of_getElem? (i := 94) (by decide +kernel)))) q1⟩
def xatB (ws : List Cond) : Bool := ws.all fun w => ((List.range 17).any fun k => (xpcs k).elem w) && (goodWord w || (w.faceAtom && w.onTables))
theorem xatB_ok (hts : ∀ w ∈ lw_tbl, w.before A S = true) {ws : List Cond} (h : xatB ws = true) : ∀ w ∈ ws, w ∈ xW ∨ (w.faceAtom = true ∧ w.onTables = true ∧ w.before #[] S = true) := by
  intro w hw
  obtain ⟨a, b⟩ := and_true' (List.all_eq_true.mp h w hw)
  obtain ⟨k, -, e⟩ := List.any_eq_true.mp a
  have hm : w ∈ lw_tbl := xpc_in (List.elem_iff.mp e)
  cases hg : goodWord w with
  | true => exact Or.inl (List.mem_filter.mpr ⟨hm, hg⟩)
  | false =>
    rw [hg, Bool.false_or] at b
    obtain ⟨b1, b2⟩ := and_true' b
    exact Or.inr ⟨b1, b2, va_tabs b2 rfl (hts w hm)⟩
set_option maxRecDepth 100000 in
theorem xat_0 : xatB (vx_atS RX12 125 (xen 0) xNm) = true := by decide +kernel
set_option maxRecDepth 100000 in
theorem xat_1 : xatB (vx_atS RX12 114 (xen 1) xNm) = true := by decide +kernel
set_option maxRecDepth 100000 in
theorem xat_2 : xatB (vx_atS RX12 220 (xen 2) xNm) = true := by decide +kernel
theorem xTt_0 (hF : ∀ w ∈ xF0, w.before A S = true) (hts : ∀ w ∈ lw_tbl, w.before A S = true) : xTt S := ⟨(List.forall_mem_cons.mpr ⟨xvk_123 hF hts, (List.forall_mem_cons.mpr ⟨xvk_157 hF hts, (List.forall_mem_cons.mpr ⟨xvk_218 hF hts, (List.forall_mem_cons.mpr ⟨xvk_240 hF hts, (List.forall_mem_cons.mpr ⟨xvk_245 hF hts, (List.forall_mem_cons.mpr ⟨xvk_262 hF hts, (List.forall_mem_cons.mpr ⟨xvk_264 hF hts, (List.forall_mem_cons.mpr ⟨xvk_266 hF hts, (List.forall_mem_cons.mpr ⟨xvk_268 hF hts, (List.forall_mem_cons.mpr ⟨xvk_333 hF hts, (List.forall_mem_cons.mpr ⟨xvk_350 hF hts, (List.forall_mem_cons.mpr ⟨xvk_414 hF hts, (List.forall_mem_cons.mpr ⟨xvk_416 hF hts, (List.forall_mem_cons.mpr ⟨xvk_433 hF hts, (List.forall_mem_cons.mpr ⟨xvk_439 hF hts, (List.forall_mem_cons.mpr ⟨xvk_445 hF hts, (fun _ h => nomatch h)⟩)⟩)⟩)⟩)⟩)⟩)⟩)⟩)⟩)⟩)⟩)⟩)⟩)⟩)⟩)⟩), List.forall_mem_cons.mpr ⟨xatB_ok hts xat_0, List.forall_mem_cons.mpr ⟨xatB_ok hts xat_1, List.forall_mem_cons.mpr ⟨xatB_ok hts xat_2, fun _ h => nomatch h⟩⟩⟩⟩
theorem xl1_0 : ∀ t ∈ xL1_0, xQw (xmt t.1) t.2 := List.forall_mem_cons.mpr ⟨xqw_J0_charAt_5068e, List.forall_mem_cons.mpr ⟨xqw_J0_checkIndex_df160, List.forall_mem_cons.mpr ⟨xqw_J0_coder_7d493, List.forall_mem_cons.mpr ⟨xqw_J0_isLatin1_aae02, List.forall_mem_cons.mpr ⟨xqw_J0_length_8abf5, List.forall_mem_cons.mpr ⟨xqw_J1_charAt_3b067, List.forall_mem_cons.mpr ⟨xqw_J3_checkIndex_8e157, List.forall_mem_cons.mpr ⟨xqw_J9_abs_067f4, List.forall_mem_cons.mpr ⟨xqw_J9_max_7cf53, List.forall_mem_cons.mpr ⟨xqw_J9_min_7cf53, List.forall_mem_cons.mpr ⟨xqw_L_angle, List.forall_mem_cons.mpr ⟨xqw_L_back, List.forall_mem_cons.mpr ⟨xqw_L_backup, List.forall_mem_cons.mpr ⟨xqw_L_bar, List.forall_mem_cons.mpr ⟨xqw_L_barred, List.forall_mem_cons.mpr ⟨xqw_L_begin, List.forall_mem_cons.mpr ⟨xqw_L_carries, List.forall_mem_cons.mpr ⟨xqw_L_cost, List.forall_mem_cons.mpr ⟨xqw_L_count, List.forall_mem_cons.mpr ⟨xqw_L_current, List.forall_mem_cons.mpr ⟨xqw_L_end, List.forall_mem_cons.mpr ⟨xqw_L_estimate, List.forall_mem_cons.mpr ⟨xqw_L_fails, List.forall_mem_cons.mpr ⟨xqw_L_feed, (fun _ h => nomatch h)⟩⟩⟩⟩⟩⟩⟩⟩⟩⟩⟩⟩⟩⟩⟩⟩⟩⟩⟩⟩⟩⟩⟩⟩
theorem xl1_1 : ∀ t ∈ xL1_1, xQw (xmt t.1) t.2 := List.forall_mem_cons.mpr ⟨xqw_L_figure, List.forall_mem_cons.mpr ⟨xqw_L_figures, List.forall_mem_cons.mpr ⟨xqw_L_get, List.forall_mem_cons.mpr ⟨xqw_L_gives, List.forall_mem_cons.mpr ⟨xqw_L_into, List.forall_mem_cons.mpr ⟨xqw_L_keep, List.forall_mem_cons.mpr ⟨xqw_L_met, List.forall_mem_cons.mpr ⟨xqw_L_meter, List.forall_mem_cons.mpr ⟨xqw_L_price, List.forall_mem_cons.mpr ⟨xqw_L_relay, List.forall_mem_cons.mpr ⟨xqw_L_rest, List.forall_mem_cons.mpr ⟨xqw_L_restore, List.forall_mem_cons.mpr ⟨xqw_L_row, List.forall_mem_cons.mpr ⟨xqw_L_run, List.forall_mem_cons.mpr ⟨xqw_L_seen, List.forall_mem_cons.mpr ⟨xqw_L_set, List.forall_mem_cons.mpr ⟨xqw_L_sets, List.forall_mem_cons.mpr ⟨xqw_L_shortAt, List.forall_mem_cons.mpr ⟨xqw_L_shortOn, List.forall_mem_cons.mpr ⟨xqw_L_strike, List.forall_mem_cons.mpr ⟨xqw_L_trouble, List.forall_mem_cons.mpr ⟨xqw_L_voltage, List.forall_mem_cons.mpr ⟨xqw_X0_compareSize, List.forall_mem_cons.mpr ⟨xqw_X0_copy, (fun _ h => nomatch h)⟩⟩⟩⟩⟩⟩⟩⟩⟩⟩⟩⟩⟩⟩⟩⟩⟩⟩⟩⟩⟩⟩⟩⟩
theorem xl1_2 : ∀ t ∈ xL1_2, xQw (xmt t.1) t.2 := List.forall_mem_cons.mpr ⟨xqw_X0_divide, List.forall_mem_cons.mpr ⟨xqw_X0_init, List.forall_mem_cons.mpr ⟨xqw_X0_isSmall, List.forall_mem_cons.mpr ⟨xqw_X0_left, List.forall_mem_cons.mpr ⟨xqw_X0_many, List.forall_mem_cons.mpr ⟨xqw_X0_moreTimes, List.forall_mem_cons.mpr ⟨xqw_X0_product, List.forall_mem_cons.mpr ⟨xqw_X0_put, List.forall_mem_cons.mpr ⟨xqw_X0_scale, List.forall_mem_cons.mpr ⟨xqw_X0_shorten, List.forall_mem_cons.mpr ⟨xqw_X0_sign, List.forall_mem_cons.mpr ⟨xqw_X0_small, List.forall_mem_cons.mpr ⟨xqw_X0_trim, List.forall_mem_cons.mpr ⟨xqw_X0_unsign, List.forall_mem_cons.mpr ⟨xqw_X0_wrap, List.forall_mem_cons.mpr ⟨xqw_X1_at, List.forall_mem_cons.mpr ⟨xqw_X1_cut, List.forall_mem_cons.mpr ⟨xqw_X1_fillParts, List.forall_mem_cons.mpr ⟨xqw_X1_foldLines, List.forall_mem_cons.mpr ⟨xqw_X1_init, List.forall_mem_cons.mpr ⟨xqw_X1_injectStart, List.forall_mem_cons.mpr ⟨xqw_X1_leaving, List.forall_mem_cons.mpr ⟨xqw_X1_measureLines, List.forall_mem_cons.mpr ⟨xqw_X1_setOut, (fun _ h => nomatch h)⟩⟩⟩⟩⟩⟩⟩⟩⟩⟩⟩⟩⟩⟩⟩⟩⟩⟩⟩⟩⟩⟩⟩⟩
theorem xl1_3 : ∀ t ∈ xL1_3, xQw (xmt t.1) t.2 := List.forall_mem_cons.mpr ⟨xqw_X1_share, List.forall_mem_cons.mpr ⟨xqw_X1_solve, List.forall_mem_cons.mpr ⟨xqw_X1_tellCost, List.forall_mem_cons.mpr ⟨xqw_X1_tellMachine, List.forall_mem_cons.mpr ⟨xqw_X1_trial, List.forall_mem_cons.mpr ⟨xqw_X2_addLoads, List.forall_mem_cons.mpr ⟨xqw_X2_addMachines, List.forall_mem_cons.mpr ⟨xqw_X2_countOver, List.forall_mem_cons.mpr ⟨xqw_X2_init, List.forall_mem_cons.mpr ⟨xqw_X2_inject, List.forall_mem_cons.mpr ⟨xqw_X2_look, List.forall_mem_cons.mpr ⟨xqw_X2_solve, List.forall_mem_cons.mpr ⟨xqw_X2_tryLines, List.forall_mem_cons.mpr ⟨xqw_X3_bringLow, List.forall_mem_cons.mpr ⟨xqw_X3_common, List.forall_mem_cons.mpr ⟨xqw_X3_digit, List.forall_mem_cons.mpr ⟨xqw_X3_divide, List.forall_mem_cons.mpr ⟨xqw_X3_init, List.forall_mem_cons.mpr ⟨xqw_X3_length, List.forall_mem_cons.mpr ⟨xqw_X3_made, List.forall_mem_cons.mpr ⟨xqw_X3_putCommon, List.forall_mem_cons.mpr ⟨xqw_X3_write, List.forall_mem_cons.mpr ⟨xqw_X4_clear, List.forall_mem_cons.mpr ⟨xqw_X4_clearTops, (fun _ h => nomatch h)⟩⟩⟩⟩⟩⟩⟩⟩⟩⟩⟩⟩⟩⟩⟩⟩⟩⟩⟩⟩⟩⟩⟩⟩
theorem xl1_4 : ∀ t ∈ xL1_4, xQw (xmt t.1) t.2 := List.forall_mem_cons.mpr ⟨xqw_X4_fill, List.forall_mem_cons.mpr ⟨xqw_X4_foldMeters, List.forall_mem_cons.mpr ⟨xqw_X4_greatest, List.forall_mem_cons.mpr ⟨xqw_X4_heaviest, List.forall_mem_cons.mpr ⟨xqw_X4_init, List.forall_mem_cons.mpr ⟨xqw_X4_markSeen, List.forall_mem_cons.mpr ⟨xqw_X4_markWhole, List.forall_mem_cons.mpr ⟨xqw_X4_solve, List.forall_mem_cons.mpr ⟨xqw_X4_weigh, List.forall_mem_cons.mpr ⟨xqw_X5_copy, List.forall_mem_cons.mpr ⟨xqw_X5_copyValues, List.forall_mem_cons.mpr ⟨xqw_X5_has, List.forall_mem_cons.mpr ⟨xqw_X5_hasShort, List.forall_mem_cons.mpr ⟨xqw_X5_init, List.forall_mem_cons.mpr ⟨xqw_X5_named, List.forall_mem_cons.mpr ⟨xqw_X5_putShort, List.forall_mem_cons.mpr ⟨xqw_X5_read, List.forall_mem_cons.mpr ⟨xqw_X6_clear, List.forall_mem_cons.mpr ⟨xqw_X6_init, List.forall_mem_cons.mpr ⟨xqw_X6_openedAs, List.forall_mem_cons.mpr ⟨xqw_X7_bringBack, List.forall_mem_cons.mpr ⟨xqw_X7_clear, List.forall_mem_cons.mpr ⟨xqw_X7_follow, List.forall_mem_cons.mpr ⟨xqw_X7_init, (fun _ h => nomatch h)⟩⟩⟩⟩⟩⟩⟩⟩⟩⟩⟩⟩⟩⟩⟩⟩⟩⟩⟩⟩⟩⟩⟩⟩
theorem xl1_5 : ∀ t ∈ xL1_5, xQw (xmt t.1) t.2 := List.forall_mem_cons.mpr ⟨xqw_X7_readOrder, List.forall_mem_cons.mpr ⟨xqw_X7_readRules, List.forall_mem_cons.mpr ⟨xqw_X7_setOut, List.forall_mem_cons.mpr ⟨xqw_X8_bits, List.forall_mem_cons.mpr ⟨xqw_X8_bitsOf, List.forall_mem_cons.mpr ⟨xqw_X8_init, List.forall_mem_cons.mpr ⟨xqw_X8_lay, List.forall_mem_cons.mpr ⟨xqw_X8_look, List.forall_mem_cons.mpr ⟨xqw_X8_number, List.forall_mem_cons.mpr ⟨xqw_X8_tally, List.forall_mem_cons.mpr ⟨xqw_X9_init, List.forall_mem_cons.mpr ⟨xqw_X9_solve, List.forall_mem_cons.mpr ⟨xqw_X9_tellInto, List.forall_mem_cons.mpr ⟨xqw_X10_blank, List.forall_mem_cons.mpr ⟨xqw_X10_close, List.forall_mem_cons.mpr ⟨xqw_X10_fold, List.forall_mem_cons.mpr ⟨xqw_X10_init, List.forall_mem_cons.mpr ⟨xqw_X10_inverse, List.forall_mem_cons.mpr ⟨xqw_X10_more, List.forall_mem_cons.mpr ⟨xqw_X10_reduce, List.forall_mem_cons.mpr ⟨xqw_X10_settle, List.forall_mem_cons.mpr ⟨xqw_X10_start, List.forall_mem_cons.mpr ⟨xqw_X10_start_, List.forall_mem_cons.mpr ⟨xqw_X10_take, (fun _ h => nomatch h)⟩⟩⟩⟩⟩⟩⟩⟩⟩⟩⟩⟩⟩⟩⟩⟩⟩⟩⟩⟩⟩⟩⟩⟩
theorem xl1_6 : ∀ t ∈ xL1_6, xQw (xmt t.1) t.2 := List.forall_mem_cons.mpr ⟨xqw_X10_times, List.forall_mem_cons.mpr ⟨xqw_X11_init, List.forall_mem_cons.mpr ⟨xqw_X11_learn, List.forall_mem_cons.mpr ⟨xqw_X11_next, List.forall_mem_cons.mpr ⟨xqw_X11_rewind, List.forall_mem_cons.mpr ⟨xqw_X11_whole, List.forall_mem_cons.mpr ⟨xqw_X11_write, List.forall_mem_cons.mpr ⟨xqw_X12_angle, List.forall_mem_cons.mpr ⟨xqw_X12_back, List.forall_mem_cons.mpr ⟨xqw_X12_backup, List.forall_mem_cons.mpr ⟨xqw_X12_bar, List.forall_mem_cons.mpr ⟨xqw_X12_barred, List.forall_mem_cons.mpr ⟨xqw_X12_begin, List.forall_mem_cons.mpr ⟨xqw_X12_carries, List.forall_mem_cons.mpr ⟨xqw_X12_carry, List.forall_mem_cons.mpr ⟨xqw_X12_changed, List.forall_mem_cons.mpr ⟨xqw_X12_clearShort, List.forall_mem_cons.mpr ⟨xqw_X12_cost, List.forall_mem_cons.mpr ⟨xqw_X12_count, List.forall_mem_cons.mpr ⟨xqw_X12_countFound, List.forall_mem_cons.mpr ⟨xqw_X12_countTold, List.forall_mem_cons.mpr ⟨xqw_X12_current, List.forall_mem_cons.mpr ⟨xqw_X12_dispatch, List.forall_mem_cons.mpr ⟨xqw_X12_end, (fun _ h => nomatch h)⟩⟩⟩⟩⟩⟩⟩⟩⟩⟩⟩⟩⟩⟩⟩⟩⟩⟩⟩⟩⟩⟩⟩⟩
theorem xl1_7 : ∀ t ∈ xL1_7, xQw (xmt t.1) t.2 := List.forall_mem_cons.mpr ⟨xqw_X12_estimate, List.forall_mem_cons.mpr ⟨xqw_X12_estimated, List.forall_mem_cons.mpr ⟨xqw_X12_fails, List.forall_mem_cons.mpr ⟨xqw_X12_feed, List.forall_mem_cons.mpr ⟨xqw_X12_figure, List.forall_mem_cons.mpr ⟨xqw_X12_figures, List.forall_mem_cons.mpr ⟨xqw_X12_find, List.forall_mem_cons.mpr ⟨xqw_X12_get, List.forall_mem_cons.mpr ⟨xqw_X12_gives, List.forall_mem_cons.mpr ⟨xqw_X12_init, List.forall_mem_cons.mpr ⟨xqw_X12_into, List.forall_mem_cons.mpr ⟨xqw_X12_keep, List.forall_mem_cons.mpr ⟨xqw_X12_met, List.forall_mem_cons.mpr ⟨xqw_X12_meter, List.forall_mem_cons.mpr ⟨xqw_X12_name, List.forall_mem_cons.mpr ⟨xqw_X12_net, List.forall_mem_cons.mpr ⟨xqw_X12_now, List.forall_mem_cons.mpr ⟨xqw_X12_opened, List.forall_mem_cons.mpr ⟨xqw_X12_order, List.forall_mem_cons.mpr ⟨xqw_X12_ordered, List.forall_mem_cons.mpr ⟨xqw_X12_price, List.forall_mem_cons.mpr ⟨xqw_X12_relay, List.forall_mem_cons.mpr ⟨xqw_X12_rest, List.forall_mem_cons.mpr ⟨xqw_X12_restore, (fun _ h => nomatch h)⟩⟩⟩⟩⟩⟩⟩⟩⟩⟩⟩⟩⟩⟩⟩⟩⟩⟩⟩⟩⟩⟩⟩⟩
theorem xl1_8 : ∀ t ∈ xL1_8, xQw (xmt t.1) t.2 := List.forall_mem_cons.mpr ⟨xqw_X12_row, List.forall_mem_cons.mpr ⟨xqw_X12_rules, List.forall_mem_cons.mpr ⟨xqw_X12_run, List.forall_mem_cons.mpr ⟨xqw_X12_screen, List.forall_mem_cons.mpr ⟨xqw_X12_seen, List.forall_mem_cons.mpr ⟨xqw_X12_set, List.forall_mem_cons.mpr ⟨xqw_X12_sets, List.forall_mem_cons.mpr ⟨xqw_X12_shortAt, List.forall_mem_cons.mpr ⟨xqw_X12_shortOn, List.forall_mem_cons.mpr ⟨xqw_X12_shorted, List.forall_mem_cons.mpr ⟨xqw_X12_step, List.forall_mem_cons.mpr ⟨xqw_X12_strike, List.forall_mem_cons.mpr ⟨xqw_X12_testBar, List.forall_mem_cons.mpr ⟨xqw_X12_testDispatch, List.forall_mem_cons.mpr ⟨xqw_X12_testLine, List.forall_mem_cons.mpr ⟨xqw_X12_testMachine, List.forall_mem_cons.mpr ⟨xqw_X12_testMeter, List.forall_mem_cons.mpr ⟨xqw_X12_testSwitch, List.forall_mem_cons.mpr ⟨xqw_X12_testWithin, List.forall_mem_cons.mpr ⟨xqw_X12_trouble, List.forall_mem_cons.mpr ⟨xqw_X12_voltage, List.forall_mem_cons.mpr ⟨xqw_X12_worst, List.forall_mem_cons.mpr ⟨xqw_X13_angle, List.forall_mem_cons.mpr ⟨xqw_X13_asItIs, (fun _ h => nomatch h)⟩⟩⟩⟩⟩⟩⟩⟩⟩⟩⟩⟩⟩⟩⟩⟩⟩⟩⟩⟩⟩⟩⟩⟩
theorem xl1_9 : ∀ t ∈ xL1_9, xQw (xmt t.1) t.2 := List.forall_mem_cons.mpr ⟨xqw_X13_back, List.forall_mem_cons.mpr ⟨xqw_X13_backup, List.forall_mem_cons.mpr ⟨xqw_X13_bar, List.forall_mem_cons.mpr ⟨xqw_X13_barred, List.forall_mem_cons.mpr ⟨xqw_X13_begin, List.forall_mem_cons.mpr ⟨xqw_X13_carries, List.forall_mem_cons.mpr ⟨xqw_X13_carry, List.forall_mem_cons.mpr ⟨xqw_X13_changed, List.forall_mem_cons.mpr ⟨xqw_X13_clearShort, List.forall_mem_cons.mpr ⟨xqw_X13_comeBack, List.forall_mem_cons.mpr ⟨xqw_X13_copy, List.forall_mem_cons.mpr ⟨xqw_X13_cost, List.forall_mem_cons.mpr ⟨xqw_X13_count, List.forall_mem_cons.mpr ⟨xqw_X13_current, List.forall_mem_cons.mpr ⟨xqw_X13_dispatch, List.forall_mem_cons.mpr ⟨xqw_X13_dispatchNet, List.forall_mem_cons.mpr ⟨xqw_X13_end, List.forall_mem_cons.mpr ⟨xqw_X13_estimate, List.forall_mem_cons.mpr ⟨xqw_X13_estimates, List.forall_mem_cons.mpr ⟨xqw_X13_fails, List.forall_mem_cons.mpr ⟨xqw_X13_feed, List.forall_mem_cons.mpr ⟨xqw_X13_figure, List.forall_mem_cons.mpr ⟨xqw_X13_figures, List.forall_mem_cons.mpr ⟨xqw_X13_find, (fun _ h => nomatch h)⟩⟩⟩⟩⟩⟩⟩⟩⟩⟩⟩⟩⟩⟩⟩⟩⟩⟩⟩⟩⟩⟩⟩⟩
theorem xl1_10 : ∀ t ∈ xL1_10, xQw (xmt t.1) t.2 := List.forall_mem_cons.mpr ⟨xqw_X13_findWords, List.forall_mem_cons.mpr ⟨xqw_X13_flows, List.forall_mem_cons.mpr ⟨xqw_X13_get, List.forall_mem_cons.mpr ⟨xqw_X13_gives, List.forall_mem_cons.mpr ⟨xqw_X13_goOn, List.forall_mem_cons.mpr ⟨xqw_X13_goThrough, List.forall_mem_cons.mpr ⟨xqw_X13_in, List.forall_mem_cons.mpr ⟨xqw_X13_init, List.forall_mem_cons.mpr ⟨xqw_X13_into, List.forall_mem_cons.mpr ⟨xqw_X13_isObject, List.forall_mem_cons.mpr ⟨xqw_X13_keep, List.forall_mem_cons.mpr ⟨xqw_X13_lowest, List.forall_mem_cons.mpr ⟨xqw_X13_make, List.forall_mem_cons.mpr ⟨xqw_X13_makeWhole, List.forall_mem_cons.mpr ⟨xqw_X13_met, List.forall_mem_cons.mpr ⟨xqw_X13_meter, List.forall_mem_cons.mpr ⟨xqw_X13_name, List.forall_mem_cons.mpr ⟨xqw_X13_net, List.forall_mem_cons.mpr ⟨xqw_X13_netFlows, List.forall_mem_cons.mpr ⟨xqw_X13_netShort, List.forall_mem_cons.mpr ⟨xqw_X13_netTopology, List.forall_mem_cons.mpr ⟨xqw_X13_opened, List.forall_mem_cons.mpr ⟨xqw_X13_order, List.forall_mem_cons.mpr ⟨xqw_X13_ordered, (fun _ h => nomatch h)⟩⟩⟩⟩⟩⟩⟩⟩⟩⟩⟩⟩⟩⟩⟩⟩⟩⟩⟩⟩⟩⟩⟩⟩
theorem xl1_11 : ∀ t ∈ xL1_11, xQw (xmt t.1) t.2 := List.forall_mem_cons.mpr ⟨xqw_X13_price, List.forall_mem_cons.mpr ⟨xqw_X13_put, List.forall_mem_cons.mpr ⟨xqw_X13_readNet, List.forall_mem_cons.mpr ⟨xqw_X13_relay, List.forall_mem_cons.mpr ⟨xqw_X13_remember, List.forall_mem_cons.mpr ⟨xqw_X13_rest, List.forall_mem_cons.mpr ⟨xqw_X13_restore, List.forall_mem_cons.mpr ⟨xqw_X13_row, List.forall_mem_cons.mpr ⟨xqw_X13_rules, List.forall_mem_cons.mpr ⟨xqw_X13_run, List.forall_mem_cons.mpr ⟨xqw_X13_screen, List.forall_mem_cons.mpr ⟨xqw_X13_screenAll, List.forall_mem_cons.mpr ⟨xqw_X13_seen, List.forall_mem_cons.mpr ⟨xqw_X13_set, List.forall_mem_cons.mpr ⟨xqw_X13_sets, List.forall_mem_cons.mpr ⟨xqw_X13_shortAt, List.forall_mem_cons.mpr ⟨xqw_X13_shortOn, List.forall_mem_cons.mpr ⟨xqw_X13_shorts, List.forall_mem_cons.mpr ⟨xqw_X13_step, List.forall_mem_cons.mpr ⟨xqw_X13_strike, List.forall_mem_cons.mpr ⟨xqw_X13_thrown, List.forall_mem_cons.mpr ⟨xqw_X13_topology, List.forall_mem_cons.mpr ⟨xqw_X13_trouble, List.forall_mem_cons.mpr ⟨xqw_X13_voltage, (fun _ h => nomatch h)⟩⟩⟩⟩⟩⟩⟩⟩⟩⟩⟩⟩⟩⟩⟩⟩⟩⟩⟩⟩⟩⟩⟩⟩
theorem xl1_12 : ∀ t ∈ xL1_12, xQw (xmt t.1) t.2 := List.forall_mem_cons.mpr ⟨xqw_X13_wellBy, List.forall_mem_cons.mpr ⟨xqw_X13_worst, (fun _ h => nomatch h)⟩⟩
theorem xl1_all : ∀ t ∈ xL1, xQw (xmt t.1) t.2 := (List.forall_mem_append.mpr ⟨xl1_0, (List.forall_mem_append.mpr ⟨xl1_1, (List.forall_mem_append.mpr ⟨xl1_2, (List.forall_mem_append.mpr ⟨xl1_3, (List.forall_mem_append.mpr ⟨xl1_4, (List.forall_mem_append.mpr ⟨xl1_5, (List.forall_mem_append.mpr ⟨xl1_6, (List.forall_mem_append.mpr ⟨xl1_7, (List.forall_mem_append.mpr ⟨xl1_8, (List.forall_mem_append.mpr ⟨xl1_9, (List.forall_mem_append.mpr ⟨xl1_10, (List.forall_mem_append.mpr ⟨xl1_11, xl1_12⟩)⟩)⟩)⟩)⟩)⟩)⟩)⟩)⟩)⟩)⟩)⟩)
theorem xT_lt {ty : FieldType} {t N : Nat} {f : Nat → Value} {B : Nat → Prop} (h : va_T ty t N f B S S.heap) : t < S.heap.size := by
  obtain ⟨cell, h1, -⟩ := h
  exact (Array.getElem?_eq_some_iff.mp h1).1
theorem xO_lt {E : String} {t : Nat} {B : Nat → Prop} (h : va_O E t B S S.heap) : t < S.heap.size := by
  obtain ⟨cell, h1, -⟩ := h
  exact (Array.getElem?_eq_some_iff.mp h1).1
theorem xac_all : ∀ t, t < 4 → Cond.arrayClass (xty1 t) ∈ xW := fun t h => match t, h with
  | 0, _ => xmem_ok (i := 438) (by decide +kernel)
  | 1, _ => xmem_ok (i := 384) (by decide +kernel)
  | 2, _ => xmem_ok (i := 465) (by decide +kernel)
  | 3, _ => xmem_ok (i := 383) (by decide +kernel)
  | n + 4, h => absurd h (by omega)
theorem xft_all : ∀ (c k t : Nat), (xfts c)[k]? = some t → t ≤ 3 := by
  have h : ∀ c, c < 14 → (xfts c).all (fun t => Nat.ble t 3) = true := by decide +kernel
  intro c k t hk
  by_cases hc : c < 14
  · exact Nat.le_of_ble_eq_true (List.all_eq_true.mp (h c hc) t (List.mem_of_getElem? hk))
  · match c, hc, hk with
    | n + 14, _, hk => cases hk
    | 0, hc, _ => exact absurd (by decide) hc
    | 1, hc, _ => exact absurd (by decide) hc
    | 2, hc, _ => exact absurd (by decide) hc
    | 3, hc, _ => exact absurd (by decide) hc
    | 4, hc, _ => exact absurd (by decide) hc
    | 5, hc, _ => exact absurd (by decide) hc
    | 6, hc, _ => exact absurd (by decide) hc
    | 7, hc, _ => exact absurd (by decide) hc
    | 8, hc, _ => exact absurd (by decide) hc
    | 9, hc, _ => exact absurd (by decide) hc
    | 10, hc, _ => exact absurd (by decide) hc
    | 11, hc, _ => exact absurd (by decide) hc
    | 12, hc, _ => exact absurd (by decide) hc
    | 13, hc, _ => exact absurd (by decide) hc
theorem xcells_at (sc : xC) : xwf 12 0 (xheap0 sc).1 ∧ (∀ k x, (xcells0 sc)[k]? = some x → xcell (xheap0 sc) k = x) ∧ ∀ k, 19 ≤ k → xcell (xheap0 sc) k = none := by
  obtain ⟨h1, h2, h3⟩ := xmk_spec 12 (xcells0 sc) 0 (.leaf none) (xwf_leaf _ _ _) (show 0 + 19 ≤ 2 ^ 12 by decide)
  refine ⟨h1, fun k x hx => ?_, fun k hk => ?_⟩
  · have hk : k < 19 := (List.getElem?_eq_some_iff.mp hx).1
    have := h2 k x hx
    rw [Nat.zero_add] at this
    unfold xcell
    rw [show Nat.blt k 4096 = true from Nat.ble_eq_true_of_le (by omega), cond_true]
    exact this
  · unfold xcell
    cases hb : Nat.blt k 4096 with
    | false => rfl
    | true =>
      rw [cond_true]
      exact h3 k (Nat.le_of_ble_eq_true hb) (Or.inr (by show 0 + 19 ≤ k; omega))
set_option maxHeartbeats 4000000 in
theorem xstart (hF : ∀ w ∈ xF0, w.before A S = true) (hts : ∀ w ∈ lw_tbl, w.before A S = true) {b : Nat} (hb : b < S.heap.size) : ∃ (old : Nat → Nat) (D : va_G), old 0 = b ∧ xGl S 19 old D xfts ∧ xSf S (xad 19 S.heap.size old) xmt xL ∧ xTt S ∧ xhr 19 old D S (xheap0 none) S.heap := by
  obtain ⟨t1, T1, Z1⟩ := xst_1 (S := S) hF hts
  obtain ⟨t2, T2, Z2⟩ := xst_2 (S := S) hF hts
  obtain ⟨t3, T3, Z3⟩ := xst_3 (S := S) hF hts
  obtain ⟨t4, T4, Z4⟩ := xst_4 (S := S) hF hts
  obtain ⟨t5, T5, Z5⟩ := xst_5 (S := S) hF hts
  obtain ⟨t6, T6, Z6⟩ := xst_6 (S := S) hF hts
  obtain ⟨t7, T7, Z7⟩ := xst_7 (S := S) hF hts
  obtain ⟨t8, T8, Z8⟩ := xst_8 (S := S) hF hts
  obtain ⟨t9, T9, Z9⟩ := xst_9 (S := S) hF hts
  obtain ⟨t10, T10, Z10⟩ := xst_10 (S := S) hF hts
  obtain ⟨t11, T11, Z11⟩ := xst_11 (S := S) hF hts
  obtain ⟨t12, T12, Z12⟩ := xst_12 (S := S) hF hts
  obtain ⟨t13, T13, Z13⟩ := xst_13 (S := S) hF hts
  obtain ⟨t14, T14, Z14⟩ := xst_14 (S := S) hF hts
  obtain ⟨t15, t16, V15, O15, C15, U15, T16⟩ := xtx_15 (S := S) hF hts
  obtain ⟨t17, t18, V17, O17, C17, U17, T18⟩ := xtx_17 (S := S) hF hts
  obtain ⟨D, hD⟩ := xD_ex (S := S) hts
  have hold : ∀ k, k < 19 → (fun k => ([b, t1, t2, t3, t4, t5, t6, t7, t8, t9, t10, t11, t12, t13, t14, t15, t16, t17, t18] : List Nat).getD k 0) k < S.heap.size := fun k hk => match k, hk with
    | 0, _ => hb
    | 1, _ => (xT_lt T1)
    | 2, _ => (xT_lt T2)
    | 3, _ => (xT_lt T3)
    | 4, _ => (xT_lt T4)
    | 5, _ => (xT_lt T5)
    | 6, _ => (xT_lt T6)
    | 7, _ => (xT_lt T7)
    | 8, _ => (xT_lt T8)
    | 9, _ => (xT_lt T9)
    | 10, _ => (xT_lt T10)
    | 11, _ => (xT_lt T11)
    | 12, _ => (xT_lt T12)
    | 13, _ => (xT_lt T13)
    | 14, _ => (xT_lt T14)
    | 15, _ => (xO_lt O15)
    | 16, _ => (xT_lt T16)
    | 17, _ => (xO_lt O17)
    | 18, _ => (xT_lt T18)
    | n + 19, h => absurd h (by omega)
  refine ⟨fun k => ([b, t1, t2, t3, t4, t5, t6, t7, t8, t9, t10, t11, t12, t13, t14, t15, t16, t17, t18] : List Nat).getD k 0, D, rfl, ⟨⟨hold, hD, xcl_all⟩, xEx_0 hF hts, xZs_0 hF hts, xac_all, xft_all⟩, ⟨xl1_all, (List.forall_mem_cons.mpr ⟨va_AO.of (hts (Cond.arrayOver (FieldType.object "GridHouse$Big")) (xpc_in (k := 2) (List.mem_of_getElem? (i := 69) (by decide +kernel)))), (List.forall_mem_cons.mpr ⟨va_AO.of (hts (Cond.arrayOver (FieldType.object "GridHouse$Flow")) (xpc_in (k := 2) (List.mem_of_getElem? (i := 215) (by decide +kernel)))), (List.forall_mem_cons.mpr ⟨va_AO.of (hts (Cond.arrayOver (FieldType.object "GridHouse$Net")) (xpc_in (k := 1) (List.mem_of_getElem? (i := 183) (by decide +kernel)))), (fun _ h => nomatch h)⟩)⟩)⟩), (List.forall_mem_cons.mpr ⟨(hts (Cond.arrayOver (FieldType.array FieldType.int)) (xpc_in (k := 1) (List.mem_of_getElem? (i := 136) (by decide +kernel)))), (List.forall_mem_cons.mpr ⟨(hts (Cond.arrayOver (FieldType.array FieldType.long)) (xpc_in (k := 1) (List.mem_of_getElem? (i := 138) (by decide +kernel)))), (fun _ h => nomatch h)⟩)⟩), (List.forall_mem_cons.mpr ⟨⟨_, V15⟩, (List.forall_mem_cons.mpr ⟨⟨_, V17⟩, (fun _ h => nomatch h)⟩)⟩), (List.forall_mem_cons.mpr ⟨Z1, (List.forall_mem_cons.mpr ⟨Z2, (List.forall_mem_cons.mpr ⟨Z3, (fun _ h => nomatch h)⟩)⟩)⟩), (List.forall_mem_cons.mpr ⟨va_Nw.of rfl (hts (Cond.methodLinkNest "GridHouse" 43 (⟨"GridHouse$Solver", "<init>", "()V"⟩ : MethodName) "GridHouse") (xpc_in (k := 2) (List.mem_of_getElem? (i := 14) (by decide +kernel)))), (fun _ h => nomatch h)⟩), va_Zof (hts (Cond.laysStatic "java/lang/String" "COMPACT_STRINGS" "Z") (xpc_in (k := 1) (List.mem_of_getElem? (i := 57) (by decide +kernel)))) (hts (Cond.initialized "java/lang/String") (xpc_in (k := 1) (List.mem_of_getElem? (i := 3) (by decide +kernel)))) (va_eqt (hF (Cond.eq (Term.static "java/lang/String" "COMPACT_STRINGS" "Z") (Term.int 1)) (xF0_at (k := 4) (by decide +kernel)))) (xnoA S), va_Zqof (hts (Cond.laysStatic "jdk/internal/util/Preconditions" "SIOOBE_FORMATTER" "Ljava/util/function/BiFunction;") (xpc_in (k := 1) (List.mem_of_getElem? (i := 73) (by decide +kernel)))) (hts (Cond.initialized "jdk/internal/util/Preconditions") (xpc_in (k := 1) (List.mem_of_getElem? (i := 5) (by decide +kernel)))) (hF (Cond.isRef (Term.static "jdk/internal/util/Preconditions" "SIOOBE_FORMATTER" "Ljava/util/function/BiFunction;")) (xF0_at (k := 5) (by decide +kernel))) (xnoA S)⟩, xTt_0 hF hts, ?_⟩
  obtain ⟨w1, w2, w3⟩ := xcells_at none
  refine ⟨fun k => ?_, w1, w3, Nat.le_refl _, by decide, Nat.le_refl _, fun _ => rfl, fun _ _ => rfl⟩
  match k with
  | 0 => rw [w2 0 _ rfl]; exact trivial
  | 1 => rw [w2 1 _ rfl]; exact xcr_I xsv_1 T1 (by decide) rfl (by decide)
  | 2 => rw [w2 2 _ rfl]; exact xcr_I xsv_2 T2 (by decide) rfl (by decide)
  | 3 => rw [w2 3 _ rfl]; exact xcr_J xsv_3 T3 (by decide) rfl (by decide)
  | 4 => rw [w2 4 _ rfl]; exact xcr_I xsv_4 T4 (by decide) rfl (by decide)
  | 5 => rw [w2 5 _ rfl]; exact xcr_I xsv_5 T5 (by decide) rfl (by decide)
  | 6 => rw [w2 6 _ rfl]; exact xcr_I xsv_6 T6 (by decide) rfl (by decide)
  | 7 => rw [w2 7 _ rfl]; exact xcr_I xsv_7 T7 (by decide) rfl (by decide)
  | 8 => rw [w2 8 _ rfl]; exact xcr_I xsv_8 T8 (by decide) rfl (by decide)
  | 9 => rw [w2 9 _ rfl]; exact xcr_I xsv_9 T9 (by decide) rfl (by decide)
  | 10 => rw [w2 10 _ rfl]; exact xcr_I xsv_10 T10 (by decide) rfl (by decide)
  | 11 => rw [w2 11 _ rfl]; exact xcr_I xsv_11 T11 (by decide) rfl (by decide)
  | 12 => rw [w2 12 _ rfl]; exact xcr_I xsv_12 T12 (by decide) rfl (by decide)
  | 13 => rw [w2 13 _ rfl]; exact xcr_I xsv_13 T13 (by decide) rfl (by decide)
  | 14 => rw [w2 14 _ rfl]; exact xcr_I xsv_14 T14 (by decide) rfl (by decide)
  | 15 => rw [w2 15 _ rfl]; exact ⟨xO_lt O15, 16, rfl, O15, C15, U15⟩
  | 16 => rw [w2 16 _ rfl]; exact xcr_I xsv_16 T16 (by decide) rfl (by decide)
  | 17 => rw [w2 17 _ rfl]; exact ⟨xO_lt O17, 18, rfl, O17, C17, U17⟩
  | 18 => rw [w2 18 _ rfl]; exact xcr_I xsv_18 T18 (by decide) rfl (by decide)
  | n + 19 => rw [w3 (n + 19) (by omega)]; trivial
end Start
