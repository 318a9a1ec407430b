def xB_45 : List (List xA) := [[(.inr (.inr (.inr (.inl (0, 2147483647))))), (.inl 0), (.inl 1), (.inr (.inr (.inr (.inl (2147483650, 4294967295)))))], [(.inr (.inr (.inr (.inl (0, 4294967295)))))], [(.inr (.inr (.inr (.inl (0, 4294967295)))))], [(.inr (.inr (.inr (.inl (0, 4294967295)))))], [(.inr (.inr (.inr (.inl (0, 4294967295)))))]]
theorem xcs_45 : xcaseB 45 xB_45 = true := by decide +kernel
set_option maxRecDepth 1000000 in
theorem xk_45_0 : xAllK xgo [[(.inr (.inr (.inr (.inl (0, 2147483647)))))], [(.inr (.inr (.inr (.inl (0, 4294967295)))))], [(.inr (.inr (.inr (.inl (0, 4294967295)))))], [(.inr (.inr (.inr (.inl (0, 4294967295)))))], [(.inr (.inr (.inr (.inl (0, 4294967295)))))]] [.inr (.inr (.inr (.inr (.inr (.inr 45)))))] = true := by decide +kernel
set_option maxRecDepth 1000000 in
theorem xk_45_1 : xAllK xgo [[(.inl 0)], [(.inr (.inr (.inr (.inl (0, 4294967295)))))], [(.inr (.inr (.inr (.inl (0, 4294967295)))))], [(.inr (.inr (.inr (.inl (0, 4294967295)))))], [(.inr (.inr (.inr (.inl (0, 4294967295)))))]] [.inr (.inr (.inr (.inr (.inr (.inr 45)))))] = true := by decide +kernel
set_option maxRecDepth 1000000 in
theorem xk_45_2 : xAllK xgo [[(.inl 1)], [(.inr (.inr (.inr (.inl (0, 4294967295)))))], [(.inr (.inr (.inr (.inl (0, 4294967295)))))], [(.inr (.inr (.inr (.inl (0, 4294967295)))))], [(.inr (.inr (.inr (.inl (0, 4294967295)))))]] [.inr (.inr (.inr (.inr (.inr (.inr 45)))))] = true := by decide +kernel
set_option maxRecDepth 1000000 in
theorem xk_45_3 : xAllK xgo [[(.inr (.inr (.inr (.inl (2147483650, 4294967295)))))], [(.inr (.inr (.inr (.inl (0, 4294967295)))))], [(.inr (.inr (.inr (.inl (0, 4294967295)))))], [(.inr (.inr (.inr (.inl (0, 4294967295)))))], [(.inr (.inr (.inr (.inl (0, 4294967295)))))]] [.inr (.inr (.inr (.inr (.inr (.inr 45)))))] = true := by decide +kernel
theorem xk_45 : xAllK xgo xB_45 [.inr (.inr (.inr (.inr (.inr (.inr 45)))))] = true := (xAllK_cons xk_45_0 (xAllK_cons xk_45_1 (xAllK_cons xk_45_2 (xAllK_cons xk_45_3 xAllK_nil))))
def xB_46 : List (List xA) := [[(.inr (.inr (.inr (.inl (0, 4294967295)))))], [(.inr (.inr (.inr (.inl (0, 4294967295)))))], [(.inr (.inr (.inr (.inl (0, 4294967295)))))], [(.inr (.inr (.inr (.inl (0, 4294967295)))))], [(.inr (.inr (.inr (.inl (0, 4294967295)))))]]
theorem xcs_46 : xcaseB 46 xB_46 = true := by decide +kernel
set_option maxRecDepth 1000000 in
theorem xk_46 : xAllK xgo xB_46 [.inr (.inr (.inr (.inr (.inr (.inr 46)))))] = true := by decide +kernel
def xB_47 : List (List xA) := [[(.inr (.inr (.inr (.inl (0, 2147483648))))), (.inl 1), (.inl 2), (.inl 3), (.inr (.inr (.inr (.inl (2147483652, 4294967295)))))], [(.inr (.inr (.inr (.inl (0, 4294967295)))))], [(.inr (.inr (.inr (.inl (0, 4294967295)))))], [(.inr (.inr (.inr (.inl (0, 4294967295)))))], [(.inr (.inr (.inr (.inl (0, 4294967295)))))]]
theorem xcs_47 : xcaseB 47 xB_47 = true := by decide +kernel
set_option maxRecDepth 1000000 in
theorem xk_47_0 : xAllK xgo [[(.inr (.inr (.inr (.inl (0, 2147483648)))))], [(.inr (.inr (.inr (.inl (0, 4294967295)))))], [(.inr (.inr (.inr (.inl (0, 4294967295)))))], [(.inr (.inr (.inr (.inl (0, 4294967295)))))], [(.inr (.inr (.inr (.inl (0, 4294967295)))))]] [.inr (.inr (.inr (.inr (.inr (.inr 47)))))] = true := by decide +kernel
set_option maxRecDepth 1000000 in
theorem xk_47_1 : xAllK xgo [[(.inl 1)], [(.inr (.inr (.inr (.inl (0, 4294967295)))))], [(.inr (.inr (.inr (.inl (0, 4294967295)))))], [(.inr (.inr (.inr (.inl (0, 4294967295)))))], [(.inr (.inr (.inr (.inl (0, 4294967295)))))]] [.inr (.inr (.inr (.inr (.inr (.inr 47)))))] = true := by decide +kernel
set_option maxRecDepth 1000000 in
theorem xk_47_2 : xAllK xgo [[(.inl 2)], [(.inr (.inr (.inr (.inl (0, 4294967295)))))], [(.inr (.inr (.inr (.inl (0, 4294967295)))))], [(.inr (.inr (.inr (.inl (0, 4294967295)))))], [(.inr (.inr (.inr (.inl (0, 4294967295)))))]] [.inr (.inr (.inr (.inr (.inr (.inr 47)))))] = true := by decide +kernel
set_option maxRecDepth 1000000 in
theorem xk_47_3 : xAllK xgo [[(.inl 3)], [(.inr (.inr (.inr (.inl (0, 4294967295)))))], [(.inr (.inr (.inr (.inl (0, 4294967295)))))], [(.inr (.inr (.inr (.inl (0, 4294967295)))))], [(.inr (.inr (.inr (.inl (0, 4294967295)))))]] [.inr (.inr (.inr (.inr (.inr (.inr 47)))))] = true := by decide +kernel
set_option maxRecDepth 1000000 in
theorem xk_47_4 : xAllK xgo [[(.inr (.inr (.inr (.inl (2147483652, 4294967295)))))], [(.inr (.inr (.inr (.inl (0, 4294967295)))))], [(.inr (.inr (.inr (.inl (0, 4294967295)))))], [(.inr (.inr (.inr (.inl (0, 4294967295)))))], [(.inr (.inr (.inr (.inl (0, 4294967295)))))]] [.inr (.inr (.inr (.inr (.inr (.inr 47)))))] = true := by decide +kernel
theorem xk_47 : xAllK xgo xB_47 [.inr (.inr (.inr (.inr (.inr (.inr 47)))))] = true := (xAllK_cons xk_47_0 (xAllK_cons xk_47_1 (xAllK_cons xk_47_2 (xAllK_cons xk_47_3 (xAllK_cons xk_47_4 xAllK_nil)))))
def xB_48 : List (List xA) := [[(.inr (.inr (.inr (.inl (0, 2147483647))))), (.inl 0), (.inr (.inr (.inr (.inl (2147483649, 4294967295)))))], [(.inr (.inr (.inr (.inl (0, 4294967295)))))], [(.inr (.inr (.inr (.inl (0, 4294967295)))))], [(.inr (.inr (.inr (.inl (0, 4294967295)))))], [(.inr (.inr (.inr (.inl (0, 4294967295)))))]]
theorem xcs_48 : xcaseB 48 xB_48 = true := by decide +kernel
set_option maxRecDepth 1000000 in
theorem xk_48 : xAllK xgo xB_48 [.inr (.inr (.inr (.inr (.inr (.inr 48)))))] = true := by decide +kernel
def xB_49 : List (List xA) := [[(.inr (.inr (.inr (.inl (0, 4294967295)))))], [(.inr (.inr (.inr (.inl (0, 4294967295)))))], [(.inr (.inr (.inr (.inl (0, 4294967295)))))], [(.inr (.inr (.inr (.inl (0, 4294967295)))))], [(.inr (.inr (.inr (.inl (0, 4294967295)))))]]
theorem xcs_49 : xcaseB 49 xB_49 = true := by decide +kernel
set_option maxRecDepth 1000000 in
theorem xk_49 : xAllK xgo xB_49 [.inr (.inr (.inr (.inr (.inr (.inr 49)))))] = true := by decide +kernel
def xB_50 : List (List xA) := [[(.inr (.inr (.inr (.inl (0, 4294967295)))))], [(.inr (.inr (.inr (.inl (0, 4294967295)))))], [(.inr (.inr (.inr (.inl (0, 4294967295)))))], [(.inr (.inr (.inr (.inl (0, 4294967295)))))], [(.inr (.inr (.inr (.inl (0, 4294967295)))))]]
theorem xcs_50 : xcaseB 50 xB_50 = true := by decide +kernel
set_option maxRecDepth 1000000 in
theorem xk_50 : xAllK xgo xB_50 [.inr (.inr (.inr (.inr (.inr (.inr 50)))))] = true := by decide +kernel
def xB_51 : List (List xA) := [[(.inr (.inr (.inr (.inl (0, 4294967295)))))], [(.inr (.inr (.inr (.inl (0, 4294967295)))))], [(.inr (.inr (.inr (.inl (0, 4294967295)))))], [(.inr (.inr (.inr (.inl (0, 4294967295)))))], [(.inr (.inr (.inr (.inl (0, 4294967295)))))]]
theorem xcs_51 : xcaseB 51 xB_51 = true := by decide +kernel
set_option maxRecDepth 1000000 in
theorem xk_51 : xAllK xgo xB_51 [.inr (.inr (.inr (.inr (.inr (.inr 51)))))] = true := by decide +kernel
def xB_52 : List (List xA) := [[(.inr (.inr (.inr (.inl (0, 4294967295)))))], [(.inr (.inr (.inr (.inl (0, 4294967295)))))], [(.inr (.inr (.inr (.inl (0, 4294967295)))))], [(.inr (.inr (.inr (.inl (0, 4294967295)))))], [(.inr (.inr (.inr (.inl (0, 4294967295)))))]]
theorem xcs_52 : xcaseB 52 xB_52 = true := by decide +kernel
set_option maxRecDepth 1000000 in
theorem xk_52 : xAllK xgo xB_52 [.inr (.inr (.inr (.inr (.inr (.inr 52)))))] = true := by decide +kernel
def xB_53 : List (List xA) := [[(.inr (.inr (.inr (.inl (0, 4294967295)))))], [(.inr (.inr (.inr (.inl (0, 4294967295)))))], [(.inr (.inr (.inr (.inl (0, 4294967295)))))], [(.inr (.inr (.inr (.inl (0, 4294967295)))))], [(.inr (.inr (.inr (.inl (0, 4294967295)))))]]
theorem xcs_53 : xcaseB 53 xB_53 = true := by decide +kernel
set_option maxRecDepth 1000000 in
theorem xk_53 : xAllK xgo xB_53 [.inr (.inr (.inr (.inr (.inr (.inr 53)))))] = true := by decide +kernel
def xB_54 : List (List xA) := [[(.inr (.inr (.inr (.inl (0, 4294967295)))))], [(.inr (.inr (.inr (.inl (0, 4294967295)))))], [(.inr (.inr (.inr (.inl (0, 4294967295)))))], [(.inr (.inr (.inr (.inl (0, 4294967295)))))], [(.inr (.inr (.inr (.inl (0, 4294967295)))))]]
theorem xcs_54 : xcaseB 54 xB_54 = true := by decide +kernel
set_option maxRecDepth 1000000 in
theorem xk_54 : xAllK xgo xB_54 [.inr (.inr (.inr (.inr (.inr (.inr 54)))))] = true := by decide +kernel
def xB_55 : List (List xA) := [[(.inr (.inr (.inr (.inl (0, 4294967295)))))], [(.inr (.inr (.inr (.inl (0, 4294967295)))))], [(.inr (.inr (.inr (.inl (0, 4294967295)))))], [(.inr (.inr (.inr (.inl (0, 4294967295)))))], [(.inr (.inr (.inr (.inl (0, 4294967295)))))]]
theorem xcs_55 : xcaseB 55 xB_55 = true := by decide +kernel
set_option maxRecDepth 1000000 in
theorem xk_55 : xAllK xgo xB_55 [.inr (.inr (.inr (.inr (.inr (.inr 55)))))] = true := by decide +kernel
def xB_56 : List (List xA) := [[(.inr (.inr (.inr (.inl (0, 4294967295)))))], [(.inr (.inr (.inr (.inl (0, 4294967295)))))], [(.inr (.inr (.inr (.inl (0, 4294967295)))))], [(.inr (.inr (.inr (.inl (0, 4294967295)))))], [(.inr (.inr (.inr (.inl (0, 4294967295)))))]]
theorem xcs_56 : xcaseB 56 xB_56 = true := by decide +kernel
set_option maxRecDepth 1000000 in
theorem xk_56 : xAllK xgo xB_56 [.inr (.inr (.inr (.inr (.inr (.inr 56)))))] = true := by decide +kernel
def xB_57 : List (List xA) := [[(.inr (.inr (.inr (.inl (0, 4294967295)))))], [(.inr (.inr (.inr (.inl (0, 4294967295)))))], [(.inr (.inr (.inr (.inl (0, 4294967295)))))], [(.inr (.inr (.inr (.inl (0, 4294967295)))))], [(.inr (.inr (.inr (.inl (0, 4294967295)))))]]
theorem xcs_57 : xcaseB 57 xB_57 = true := by decide +kernel
set_option maxRecDepth 1000000 in
theorem xk_57 : xAllK xgo xB_57 [.inr (.inr (.inr (.inr (.inr (.inr 57)))))] = true := by decide +kernel
def xB_58 : List (List xA) := [[(.inr (.inr (.inr (.inl (0, 4294967295)))))], [(.inr (.inr (.inr (.inl (0, 4294967295)))))], [(.inr (.inr (.inr (.inl (0, 4294967295)))))], [(.inr (.inr (.inr (.inl (0, 4294967295)))))], [(.inr (.inr (.inr (.inl (0, 4294967295)))))]]
theorem xcs_58 : xcaseB 58 xB_58 = true := by decide +kernel
set_option maxRecDepth 1000000 in
theorem xk_58 : xAllK xgo xB_58 [.inr (.inr (.inr (.inr (.inr (.inr 58)))))] = true := by decide +kernel
def xB_59 : List (List xA) := [[(.inr (.inr (.inr (.inl (0, 4294967295)))))], [(.inr (.inr (.inr (.inl (0, 4294967295)))))], [(.inr (.inr (.inr (.inl (0, 4294967295)))))], [(.inr (.inr (.inr (.inl (0, 4294967295)))))], [(.inr (.inr (.inr (.inl (0, 4294967295)))))]]
theorem xcs_59 : xcaseB 59 xB_59 = true := by decide +kernel
set_option maxRecDepth 1000000 in
theorem xk_59 : xAllK xgo xB_59 [.inr (.inr (.inr (.inr (.inr (.inr 59)))))] = true := by decide +kernel
def xB_60 : List (List xA) := [[(.inr (.inr (.inr (.inl (0, 4294967295)))))], [(.inr (.inr (.inr (.inl (0, 4294967295)))))], [(.inr (.inr (.inr (.inl (0, 4294967295)))))], [(.inr (.inr (.inr (.inl (0, 4294967295)))))], [(.inr (.inr (.inr (.inl (0, 4294967295)))))]]
theorem xcs_60 : xcaseB 60 xB_60 = true := by decide +kernel
set_option maxRecDepth 1000000 in
theorem xk_60 : xAllK xgo xB_60 [.inr (.inr (.inr (.inr (.inr (.inr 60)))))] = true := by decide +kernel
def xB_61 : List (List xA) := [[(.inr (.inr (.inr (.inl (0, 4294967295)))))], [(.inr (.inr (.inr (.inl (0, 4294967295)))))], [(.inr (.inr (.inr (.inl (0, 4294967295)))))], [(.inr (.inr (.inr (.inl (0, 4294967295)))))], [(.inr (.inr (.inr (.inl (0, 4294967295)))))]]
theorem xcs_61 : xcaseB 61 xB_61 = true := by decide +kernel
set_option maxRecDepth 1000000 in
theorem xk_61 : xAllK xgo xB_61 [.inr (.inr (.inr (.inr (.inr (.inr 61)))))] = true := by decide +kernel
def xB_62 : List (List xA) := [[(.inr (.inr (.inr (.inl (0, 4294967295)))))], [(.inr (.inr (.inr (.inl (0, 4294967295)))))], [(.inr (.inr (.inr (.inl (0, 4294967295)))))], [(.inr (.inr (.inr (.inl (0, 4294967295)))))], [(.inr (.inr (.inr (.inl (0, 4294967295)))))]]
theorem xcs_62 : xcaseB 62 xB_62 = true := by decide +kernel
set_option maxRecDepth 1000000 in
theorem xk_62 : xAllK xgo xB_62 [.inr (.inr (.inr (.inr (.inr (.inr 62)))))] = true := by decide +kernel
def xB_63 : List (List xA) := [[(.inr (.inr (.inr (.inl (0, 4294967295)))))], [(.inr (.inr (.inr (.inl (0, 4294967295)))))], [(.inr (.inr (.inr (.inl (0, 4294967295)))))], [(.inr (.inr (.inr (.inl (0, 4294967295)))))], [(.inr (.inr (.inr (.inl (0, 4294967295)))))]]
theorem xcs_63 : xcaseB 63 xB_63 = true := by decide +kernel
set_option maxRecDepth 1000000 in
theorem xk_63 : xAllK xgo xB_63 [.inr (.inr (.inr (.inr (.inr (.inr 63)))))] = true := by decide +kernel
