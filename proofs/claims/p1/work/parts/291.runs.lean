def xB_10 : List (List xA) := [[(.inr (.inr (.inr (.inl (0, 2147483647))))), (.inl 0), (.inl 1), (.inl 2), (.inr (.inr (.inr (.inl (2147483651, 4294967295)))))], [(.inr (.inr (.inr (.inl (0, 4294967295)))))], [(.inr (.inr (.inr (.inl (0, 4294967295)))))], [(.inr (.inr (.inr (.inl (0, 4294967295)))))], [(.inr (.inr (.inr (.inl (0, 4294967295)))))]]
theorem xcs_10 : xcaseB 10 xB_10 = true := by decide +kernel
set_option maxRecDepth 1000000 in
theorem xk_10_0 : xAllK xgo [[(.inr (.inr (.inr (.inl (0, 2147483647)))))], [(.inr (.inr (.inr (.inl (0, 4294967295)))))], [(.inr (.inr (.inr (.inl (0, 4294967295)))))], [(.inr (.inr (.inr (.inl (0, 4294967295)))))], [(.inr (.inr (.inr (.inl (0, 4294967295)))))]] [.inr (.inr (.inr (.inr (.inr (.inr 10)))))] = true := by decide +kernel
set_option maxRecDepth 1000000 in
theorem xk_10_1 : xAllK xgo [[(.inl 0)], [(.inr (.inr (.inr (.inl (0, 4294967295)))))], [(.inr (.inr (.inr (.inl (0, 4294967295)))))], [(.inr (.inr (.inr (.inl (0, 4294967295)))))], [(.inr (.inr (.inr (.inl (0, 4294967295)))))]] [.inr (.inr (.inr (.inr (.inr (.inr 10)))))] = true := by decide +kernel
set_option maxRecDepth 1000000 in
theorem xk_10_2 : xAllK xgo [[(.inl 1)], [(.inr (.inr (.inr (.inl (0, 4294967295)))))], [(.inr (.inr (.inr (.inl (0, 4294967295)))))], [(.inr (.inr (.inr (.inl (0, 4294967295)))))], [(.inr (.inr (.inr (.inl (0, 4294967295)))))]] [.inr (.inr (.inr (.inr (.inr (.inr 10)))))] = true := by decide +kernel
set_option maxRecDepth 1000000 in
theorem xk_10_3 : xAllK xgo [[(.inl 2)], [(.inr (.inr (.inr (.inl (0, 4294967295)))))], [(.inr (.inr (.inr (.inl (0, 4294967295)))))], [(.inr (.inr (.inr (.inl (0, 4294967295)))))], [(.inr (.inr (.inr (.inl (0, 4294967295)))))]] [.inr (.inr (.inr (.inr (.inr (.inr 10)))))] = true := by decide +kernel
set_option maxRecDepth 1000000 in
theorem xk_10_4 : xAllK xgo [[(.inr (.inr (.inr (.inl (2147483651, 4294967295)))))], [(.inr (.inr (.inr (.inl (0, 4294967295)))))], [(.inr (.inr (.inr (.inl (0, 4294967295)))))], [(.inr (.inr (.inr (.inl (0, 4294967295)))))], [(.inr (.inr (.inr (.inl (0, 4294967295)))))]] [.inr (.inr (.inr (.inr (.inr (.inr 10)))))] = true := by decide +kernel
theorem xk_10 : xAllK xgo xB_10 [.inr (.inr (.inr (.inr (.inr (.inr 10)))))] = true := (xAllK_cons xk_10_0 (xAllK_cons xk_10_1 (xAllK_cons xk_10_2 (xAllK_cons xk_10_3 (xAllK_cons xk_10_4 xAllK_nil)))))
def xB_11 : List (List xA) := [[(.inr (.inr (.inr (.inl (0, 2147483647))))), (.inl 0), (.inl 1), (.inl 2), (.inr (.inr (.inr (.inl (2147483651, 4294967295)))))], [(.inr (.inr (.inr (.inl (0, 4294967295)))))], [(.inr (.inr (.inr (.inl (0, 4294967295)))))], [(.inr (.inr (.inr (.inl (0, 4294967295)))))], [(.inr (.inr (.inr (.inl (0, 4294967295)))))]]
theorem xcs_11 : xcaseB 11 xB_11 = true := by decide +kernel
set_option maxRecDepth 1000000 in
theorem xk_11 : xAllK xgo xB_11 [.inr (.inr (.inr (.inr (.inr (.inr 11)))))] = true := by decide +kernel
def xB_12 : List (List xA) := [[(.inr (.inr (.inr (.inl (0, 2147483647))))), (.inl 0), (.inr (.inr (.inr (.inl (2147483649, 4294967295)))))], [(.inr (.inr (.inr (.inl (0, 4294967295)))))], [(.inr (.inr (.inr (.inl (0, 4294967295)))))], [(.inr (.inr (.inr (.inl (0, 4294967295)))))], [(.inr (.inr (.inr (.inl (0, 4294967295)))))]]
theorem xcs_12 : xcaseB 12 xB_12 = true := by decide +kernel
set_option maxRecDepth 1000000 in
theorem xk_12 : xAllK xgo xB_12 [.inr (.inr (.inr (.inr (.inr (.inr 12)))))] = true := by decide +kernel
def xB_13 : List (List xA) := [[(.inr (.inr (.inr (.inl (0, 2147483647))))), (.inl 0), (.inr (.inr (.inr (.inl (2147483649, 4294967295)))))], [(.inr (.inr (.inr (.inl (0, 4294967295)))))], [(.inr (.inr (.inr (.inl (0, 4294967295)))))], [(.inr (.inr (.inr (.inl (0, 4294967295)))))], [(.inr (.inr (.inr (.inl (0, 4294967295)))))]]
theorem xcs_13 : xcaseB 13 xB_13 = true := by decide +kernel
set_option maxRecDepth 1000000 in
theorem xk_13 : xAllK xgo xB_13 [.inr (.inr (.inr (.inr (.inr (.inr 13)))))] = true := by decide +kernel
def xB_14 : List (List xA) := [[(.inr (.inr (.inr (.inl (0, 2147483647))))), (.inl 0), (.inr (.inr (.inr (.inl (2147483649, 4294967295)))))], [(.inr (.inr (.inr (.inl (0, 4294967295)))))], [(.inr (.inr (.inr (.inl (0, 4294967295)))))], [(.inr (.inr (.inr (.inl (0, 4294967295)))))], [(.inr (.inr (.inr (.inl (0, 4294967295)))))]]
theorem xcs_14 : xcaseB 14 xB_14 = true := by decide +kernel
set_option maxRecDepth 1000000 in
theorem xk_14 : xAllK xgo xB_14 [.inr (.inr (.inr (.inr (.inr (.inr 14)))))] = true := by decide +kernel
def xB_15 : List (List xA) := [[(.inr (.inr (.inr (.inl (0, 2147483647))))), (.inl 0), (.inr (.inr (.inr (.inl (2147483649, 4294967295)))))], [(.inr (.inr (.inr (.inl (0, 4294967295)))))], [(.inr (.inr (.inr (.inl (0, 4294967295)))))], [(.inr (.inr (.inr (.inl (0, 4294967295)))))], [(.inr (.inr (.inr (.inl (0, 4294967295)))))]]
theorem xcs_15 : xcaseB 15 xB_15 = true := by decide +kernel
set_option maxRecDepth 1000000 in
theorem xk_15 : xAllK xgo xB_15 [.inr (.inr (.inr (.inr (.inr (.inr 15)))))] = true := by decide +kernel
def xB_16 : List (List xA) := [[(.inr (.inr (.inr (.inl (0, 2147483647))))), (.inl 0), (.inl 1), (.inr (.inr (.inr (.inl (2147483650, 4294967295)))))], [(.inr (.inr (.inr (.inl (0, 4294967295)))))], [(.inr (.inr (.inr (.inl (0, 4294967295)))))], [(.inr (.inr (.inr (.inl (0, 4294967295)))))], [(.inr (.inr (.inr (.inl (0, 4294967295)))))]]
theorem xcs_16 : xcaseB 16 xB_16 = true := by decide +kernel
set_option maxRecDepth 1000000 in
theorem xk_16 : xAllK xgo xB_16 [.inr (.inr (.inr (.inr (.inr (.inr 16)))))] = true := by decide +kernel
def xB_17 : List (List xA) := [[(.inr (.inr (.inr (.inl (0, 2147483647))))), (.inl 0), (.inl 1), (.inr (.inr (.inr (.inl (2147483650, 4294967295)))))], [(.inr (.inr (.inr (.inl (0, 2147483647))))), (.inl 0), (.inr (.inr (.inr (.inl (2147483649, 4294967295)))))], [(.inr (.inr (.inr (.inl (0, 4294967295)))))], [(.inr (.inr (.inr (.inl (0, 4294967295)))))], [(.inr (.inr (.inr (.inl (0, 4294967295)))))]]
theorem xcs_17 : xcaseB 17 xB_17 = true := by decide +kernel
set_option maxRecDepth 1000000 in
theorem xk_17 : xAllK xgo xB_17 [.inr (.inr (.inr (.inr (.inr (.inr 17)))))] = true := by decide +kernel
def xB_18 : List (List xA) := [[(.inr (.inr (.inr (.inl (0, 4294967295)))))], [(.inr (.inr (.inr (.inl (0, 4294967295)))))], [(.inr (.inr (.inr (.inl (0, 4294967295)))))], [(.inr (.inr (.inr (.inl (0, 4294967295)))))], [(.inr (.inr (.inr (.inl (0, 4294967295)))))]]
theorem xcs_18 : xcaseB 18 xB_18 = true := by decide +kernel
set_option maxRecDepth 1000000 in
theorem xk_18 : xAllK xgo xB_18 [.inr (.inr (.inr (.inr (.inr (.inr 18)))))] = true := by decide +kernel
def xB_19 : List (List xA) := [[(.inr (.inr (.inr (.inl (0, 2147483647))))), (.inl 0), (.inr (.inr (.inr (.inl (2147483649, 4294967295)))))], [(.inr (.inr (.inr (.inl (0, 4294967295)))))], [(.inr (.inr (.inr (.inl (0, 4294967295)))))], [(.inr (.inr (.inr (.inl (0, 4294967295)))))], [(.inr (.inr (.inr (.inl (0, 4294967295)))))]]
theorem xcs_19 : xcaseB 19 xB_19 = true := by decide +kernel
set_option maxRecDepth 1000000 in
theorem xk_19 : xAllK xgo xB_19 [.inr (.inr (.inr (.inr (.inr (.inr 19)))))] = true := by decide +kernel
def xB_20 : List (List xA) := [[(.inr (.inr (.inr (.inl (0, 2147483647))))), (.inl 0), (.inl 1), (.inl 2), (.inr (.inr (.inr (.inl (2147483651, 4294967295)))))], [(.inr (.inr (.inr (.inl (0, 2147483647))))), (.inl 0), (.inr (.inr (.inr (.inl (2147483649, 4294967295)))))], [(.inr (.inr (.inr (.inl (0, 4294967295)))))], [(.inr (.inr (.inr (.inl (0, 4294967295)))))], [(.inr (.inr (.inr (.inl (0, 4294967295)))))]]
theorem xcs_20 : xcaseB 20 xB_20 = true := by decide +kernel
set_option maxRecDepth 1000000 in
theorem xk_20 : xAllK xgo xB_20 [.inr (.inr (.inr (.inr (.inr (.inr 20)))))] = true := by decide +kernel
def xB_21 : List (List xA) := [[(.inr (.inr (.inr (.inl (0, 2147483647))))), (.inl 0), (.inr (.inr (.inr (.inl (2147483649, 4294967295)))))], [(.inr (.inr (.inr (.inl (0, 2147483647))))), (.inl 0), (.inr (.inr (.inr (.inl (2147483649, 4294967295)))))], [(.inr (.inr (.inr (.inl (0, 4294967295)))))], [(.inr (.inr (.inr (.inl (0, 4294967295)))))], [(.inr (.inr (.inr (.inl (0, 4294967295)))))]]
theorem xcs_21 : xcaseB 21 xB_21 = true := by decide +kernel
set_option maxRecDepth 1000000 in
theorem xk_21 : xAllK xgo xB_21 [.inr (.inr (.inr (.inr (.inr (.inr 21)))))] = true := by decide +kernel
def xB_22 : List (List xA) := [[(.inr (.inr (.inr (.inl (0, 2147483647))))), (.inl 0), (.inr (.inr (.inr (.inl (2147483649, 4294967295)))))], [(.inr (.inr (.inr (.inl (0, 4294967295)))))], [(.inr (.inr (.inr (.inl (0, 4294967295)))))], [(.inr (.inr (.inr (.inl (0, 4294967295)))))], [(.inr (.inr (.inr (.inl (0, 4294967295)))))]]
theorem xcs_22 : xcaseB 22 xB_22 = true := by decide +kernel
set_option maxRecDepth 1000000 in
theorem xk_22 : xAllK xgo xB_22 [.inr (.inr (.inr (.inr (.inr (.inr 22)))))] = true := by decide +kernel
def xB_23 : List (List xA) := [[(.inr (.inr (.inr (.inl (0, 2147483647))))), (.inl 0), (.inr (.inr (.inr (.inl (2147483649, 4294967295)))))], [(.inr (.inr (.inr (.inl (0, 4294967295)))))], [(.inr (.inr (.inr (.inl (0, 4294967295)))))], [(.inr (.inr (.inr (.inl (0, 4294967295)))))], [(.inr (.inr (.inr (.inl (0, 4294967295)))))]]
theorem xcs_23 : xcaseB 23 xB_23 = true := by decide +kernel
set_option maxRecDepth 1000000 in
theorem xk_23 : xAllK xgo xB_23 [.inr (.inr (.inr (.inr (.inr (.inr 23)))))] = true := by decide +kernel
def xB_24 : List (List xA) := [[(.inr (.inr (.inr (.inl (0, 2147483647))))), (.inl 0), (.inr (.inr (.inr (.inl (2147483649, 4294967295)))))], [(.inr (.inr (.inr (.inl (0, 4294967295)))))], [(.inr (.inr (.inr (.inl (0, 4294967295)))))], [(.inr (.inr (.inr (.inl (0, 4294967295)))))], [(.inr (.inr (.inr (.inl (0, 4294967295)))))]]
theorem xcs_24 : xcaseB 24 xB_24 = true := by decide +kernel
set_option maxRecDepth 1000000 in
theorem xk_24 : xAllK xgo xB_24 [.inr (.inr (.inr (.inr (.inr (.inr 24)))))] = true := by decide +kernel
def xB_25 : List (List xA) := [[(.inr (.inr (.inr (.inl (0, 4294967295)))))], [(.inr (.inr (.inr (.inl (0, 4294967295)))))], [(.inr (.inr (.inr (.inl (0, 4294967295)))))], [(.inr (.inr (.inr (.inl (0, 4294967295)))))], [(.inr (.inr (.inr (.inl (0, 4294967295)))))]]
theorem xcs_25 : xcaseB 25 xB_25 = true := by decide +kernel
set_option maxRecDepth 1000000 in
theorem xk_25 : xAllK xgo xB_25 [.inr (.inr (.inr (.inr (.inr (.inr 25)))))] = true := by decide +kernel
def xB_26 : List (List xA) := [[(.inr (.inr (.inr (.inl (0, 4294967295)))))], [(.inr (.inr (.inr (.inl (0, 2147483647))))), (.inl 0), (.inr (.inr (.inr (.inl (2147483649, 4294967295)))))], [(.inr (.inr (.inr (.inl (0, 4294967295)))))], [(.inr (.inr (.inr (.inl (0, 4294967295)))))], [(.inr (.inr (.inr (.inl (0, 4294967295)))))]]
theorem xcs_26 : xcaseB 26 xB_26 = true := by decide +kernel
set_option maxRecDepth 1000000 in
theorem xk_26 : xAllK xgo xB_26 [.inr (.inr (.inr (.inr (.inr (.inr 26)))))] = true := by decide +kernel
def xB_27 : List (List xA) := [[(.inr (.inr (.inr (.inl (0, 4294967295)))))], [(.inr (.inr (.inr (.inl (0, 2147483647))))), (.inl 0), (.inr (.inr (.inr (.inl (2147483649, 4294967295)))))], [(.inr (.inr (.inr (.inl (0, 4294967295)))))], [(.inr (.inr (.inr (.inl (0, 4294967295)))))], [(.inr (.inr (.inr (.inl (0, 4294967295)))))]]
theorem xcs_27 : xcaseB 27 xB_27 = true := by decide +kernel
set_option maxRecDepth 1000000 in
theorem xk_27 : xAllK xgo xB_27 [.inr (.inr (.inr (.inr (.inr (.inr 27)))))] = true := by decide +kernel
def xB_28 : List (List xA) := [[(.inr (.inr (.inr (.inl (0, 4294967295)))))], [(.inr (.inr (.inr (.inl (0, 4294967295)))))], [(.inr (.inr (.inr (.inl (0, 4294967295)))))], [(.inr (.inr (.inr (.inl (0, 4294967295)))))], [(.inr (.inr (.inr (.inl (0, 4294967295)))))]]
theorem xcs_28 : xcaseB 28 xB_28 = true := by decide +kernel
set_option maxRecDepth 1000000 in
theorem xk_28 : xAllK xgo xB_28 [.inr (.inr (.inr (.inr (.inr (.inr 28)))))] = true := by decide +kernel
def xB_29 : List (List xA) := [[(.inr (.inr (.inr (.inl (0, 2147483647))))), (.inl 0), (.inl 1), (.inl 2), (.inr (.inr (.inr (.inl (2147483651, 4294967295)))))], [(.inr (.inr (.inr (.inl (0, 4294967295)))))], [(.inr (.inr (.inr (.inl (0, 4294967295)))))], [(.inr (.inr (.inr (.inl (0, 4294967295)))))], [(.inr (.inr (.inr (.inl (0, 4294967295)))))]]
theorem xcs_29 : xcaseB 29 xB_29 = true := by decide +kernel
set_option maxRecDepth 1000000 in
theorem xk_29 : xAllK xgo xB_29 [.inr (.inr (.inr (.inr (.inr (.inr 29)))))] = true := by decide +kernel
def xB_30 : List (List xA) := [[(.inr (.inr (.inr (.inl (0, 2147483647))))), (.inl 0), (.inr (.inr (.inr (.inl (2147483649, 4294967295)))))], [(.inr (.inr (.inr (.inl (0, 4294967295)))))], [(.inr (.inr (.inr (.inl (0, 4294967295)))))], [(.inr (.inr (.inr (.inl (0, 4294967295)))))], [(.inr (.inr (.inr (.inl (0, 4294967295)))))]]
theorem xcs_30 : xcaseB 30 xB_30 = true := by decide +kernel
set_option maxRecDepth 1000000 in
theorem xk_30 : xAllK xgo xB_30 [.inr (.inr (.inr (.inr (.inr (.inr 30)))))] = true := by decide +kernel
