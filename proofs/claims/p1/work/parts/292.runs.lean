def xB_31 : List (List xA) := [[(.inr (.inr (.inr (.inl (0, 2147483647))))), (.inl 0), (.inr (.inr (.inr (.inl (2147483649, 4294967295)))))], [(.inr (.inr (.inr (.inl (0, 4294967295)))))], [(.inr (.inr (.inr (.inl (0, 4294967295)))))], [(.inr (.inr (.inr (.inl (0, 4294967295)))))], [(.inr (.inr (.inr (.inl (0, 4294967295)))))]]
theorem xcs_31 : xcaseB 31 xB_31 = true := by decide +kernel
set_option maxRecDepth 1000000 in
theorem xk_31 : xAllK xgo xB_31 [.inr (.inr (.inr (.inr (.inr (.inr 31)))))] = true := by decide +kernel
def xB_32 : List (List xA) := [[(.inr (.inr (.inr (.inl (0, 2147483647))))), (.inl 0), (.inr (.inr (.inr (.inl (2147483649, 4294967295)))))], [(.inr (.inr (.inr (.inl (0, 4294967295)))))], [(.inr (.inr (.inr (.inl (0, 4294967295)))))], [(.inr (.inr (.inr (.inl (0, 4294967295)))))], [(.inr (.inr (.inr (.inl (0, 4294967295)))))]]
theorem xcs_32 : xcaseB 32 xB_32 = true := by decide +kernel
set_option maxRecDepth 1000000 in
theorem xk_32 : xAllK xgo xB_32 [.inr (.inr (.inr (.inr (.inr (.inr 32)))))] = true := by decide +kernel
def xB_33 : List (List xA) := [[(.inr (.inr (.inr (.inl (0, 2147483647))))), (.inl 0), (.inr (.inr (.inr (.inl (2147483649, 4294967295)))))], [(.inr (.inr (.inr (.inl (0, 4294967295)))))], [(.inr (.inr (.inr (.inl (0, 4294967295)))))], [(.inr (.inr (.inr (.inl (0, 4294967295)))))], [(.inr (.inr (.inr (.inl (0, 4294967295)))))]]
theorem xcs_33 : xcaseB 33 xB_33 = true := by decide +kernel
set_option maxRecDepth 1000000 in
theorem xk_33 : xAllK xgo xB_33 [.inr (.inr (.inr (.inr (.inr (.inr 33)))))] = true := by decide +kernel
def xB_34 : List (List xA) := [[(.inr (.inr (.inr (.inl (0, 2147483647))))), (.inl 0), (.inr (.inr (.inr (.inl (2147483649, 4294967295)))))], [(.inr (.inr (.inr (.inl (0, 2147483647))))), (.inl 0), (.inr (.inr (.inr (.inl (2147483649, 4294967295)))))], [(.inr (.inr (.inr (.inl (0, 4294967295)))))], [(.inr (.inr (.inr (.inl (0, 4294967295)))))], [(.inr (.inr (.inr (.inl (0, 4294967295)))))]]
theorem xcs_34 : xcaseB 34 xB_34 = true := by decide +kernel
set_option maxRecDepth 1000000 in
theorem xk_34 : xAllK xgo xB_34 [.inr (.inr (.inr (.inr (.inr (.inr 34)))))] = true := by decide +kernel
def xB_35 : List (List xA) := [[(.inr (.inr (.inr (.inl (0, 2147483647))))), (.inl 0), (.inr (.inr (.inr (.inl (2147483649, 2157483646))))), (.inl 9999999), (.inr (.inr (.inr (.inl (2157483648, 4294967295)))))], [(.inr (.inr (.inr (.inl (0, 4294967295)))))], [(.inr (.inr (.inr (.inl (0, 4294967295)))))], [(.inr (.inr (.inr (.inl (0, 4294967295)))))], [(.inr (.inr (.inr (.inl (0, 4294967295)))))]]
theorem xcs_35 : xcaseB 35 xB_35 = true := by decide +kernel
set_option maxRecDepth 1000000 in
theorem xk_35 : xAllK xgo xB_35 [.inr (.inr (.inr (.inr (.inr (.inr 35)))))] = true := by decide +kernel
def xB_36 : List (List xA) := [[(.inr (.inr (.inr (.inl (0, 2147483647))))), (.inl 0), (.inr (.inr (.inr (.inl (2147483649, 4294967295)))))], [(.inr (.inr (.inr (.inl (0, 4294967295)))))], [(.inr (.inr (.inr (.inl (0, 4294967295)))))], [(.inr (.inr (.inr (.inl (0, 4294967295)))))], [(.inr (.inr (.inr (.inl (0, 4294967295)))))]]
theorem xcs_36 : xcaseB 36 xB_36 = true := by decide +kernel
set_option maxRecDepth 1000000 in
theorem xk_36 : xAllK xgo xB_36 [.inr (.inr (.inr (.inr (.inr (.inr 36)))))] = true := by decide +kernel
def xB_37 : List (List xA) := [[(.inr (.inr (.inr (.inl (0, 4294967295)))))], [(.inr (.inr (.inr (.inl (0, 4294967295)))))], [(.inr (.inr (.inr (.inl (0, 4294967295)))))], [(.inr (.inr (.inr (.inl (0, 4294967295)))))], [(.inr (.inr (.inr (.inl (0, 4294967295)))))]]
theorem xcs_37 : xcaseB 37 xB_37 = true := by decide +kernel
set_option maxRecDepth 1000000 in
theorem xk_37 : xAllK xgo xB_37 [.inr (.inr (.inr (.inr (.inr (.inr 37)))))] = true := by decide +kernel
def xB_38 : List (List xA) := [[(.inr (.inr (.inr (.inl (0, 4294967295)))))], [(.inr (.inr (.inr (.inl (0, 4294967295)))))], [(.inr (.inr (.inr (.inl (0, 4294967295)))))], [(.inr (.inr (.inr (.inl (0, 4294967295)))))], [(.inr (.inr (.inr (.inl (0, 4294967295)))))]]
theorem xcs_38 : xcaseB 38 xB_38 = true := by decide +kernel
set_option maxRecDepth 1000000 in
theorem xk_38 : xAllK xgo xB_38 [.inr (.inr (.inr (.inr (.inr (.inr 38)))))] = true := by decide +kernel
def xB_39 : List (List xA) := [[(.inr (.inr (.inr (.inl (0, 4294967295)))))], [(.inr (.inr (.inr (.inl (0, 4294967295)))))], [(.inr (.inr (.inr (.inl (0, 4294967295)))))], [(.inr (.inr (.inr (.inl (0, 4294967295)))))], [(.inr (.inr (.inr (.inl (0, 4294967295)))))]]
theorem xcs_39 : xcaseB 39 xB_39 = true := by decide +kernel
set_option maxRecDepth 1000000 in
theorem xk_39 : xAllK xgo xB_39 [.inr (.inr (.inr (.inr (.inr (.inr 39)))))] = true := by decide +kernel
def xB_40 : List (List xA) := [[(.inr (.inr (.inr (.inl (0, 4294967295)))))], [(.inr (.inr (.inr (.inl (0, 4294967295)))))], [(.inr (.inr (.inr (.inl (0, 4294967295)))))], [(.inr (.inr (.inr (.inl (0, 4294967295)))))], [(.inr (.inr (.inr (.inl (0, 4294967295)))))]]
theorem xcs_40 : xcaseB 40 xB_40 = true := by decide +kernel
set_option maxRecDepth 1000000 in
theorem xk_40 : xAllK xgo xB_40 [.inr (.inr (.inr (.inr (.inr (.inr 40)))))] = true := by decide +kernel
def xB_41 : List (List xA) := [[(.inr (.inr (.inr (.inl (0, 4294967295)))))], [(.inr (.inr (.inr (.inl (0, 4294967295)))))], [(.inr (.inr (.inr (.inl (0, 4294967295)))))], [(.inr (.inr (.inr (.inl (0, 4294967295)))))], [(.inr (.inr (.inr (.inl (0, 4294967295)))))]]
theorem xcs_41 : xcaseB 41 xB_41 = true := by decide +kernel
set_option maxRecDepth 1000000 in
theorem xk_41 : xAllK xgo xB_41 [.inr (.inr (.inr (.inr (.inr (.inr 41)))))] = true := by decide +kernel
def xB_42 : List (List xA) := [[(.inr (.inr (.inr (.inl (0, 4294967295)))))], [(.inr (.inr (.inr (.inl (0, 4294967295)))))], [(.inr (.inr (.inr (.inl (0, 4294967295)))))], [(.inr (.inr (.inr (.inl (0, 4294967295)))))], [(.inr (.inr (.inr (.inl (0, 4294967295)))))]]
theorem xcs_42 : xcaseB 42 xB_42 = true := by decide +kernel
set_option maxRecDepth 1000000 in
theorem xk_42 : xAllK xgo xB_42 [.inr (.inr (.inr (.inr (.inr (.inr 42)))))] = true := by decide +kernel
def xB_43 : List (List xA) := [[(.inr (.inr (.inr (.inl (0, 2147483647))))), (.inl 0), (.inr (.inr (.inr (.inl (2147483649, 4294967295)))))], [(.inr (.inr (.inr (.inl (0, 4294967295)))))], [(.inr (.inr (.inr (.inl (0, 4294967295)))))], [(.inr (.inr (.inr (.inl (0, 4294967295)))))], [(.inr (.inr (.inr (.inl (0, 4294967295)))))]]
theorem xcs_43 : xcaseB 43 xB_43 = true := by decide +kernel
set_option maxRecDepth 1000000 in
theorem xk_43 : xAllK xgo xB_43 [.inr (.inr (.inr (.inr (.inr (.inr 43)))))] = true := by decide +kernel
def xB_44 : List (List xA) := [[(.inr (.inr (.inr (.inl (0, 2147483647))))), (.inl 0), (.inr (.inr (.inr (.inl (2147483649, 4294967295)))))], [(.inr (.inr (.inr (.inl (0, 4294967295)))))], [(.inr (.inr (.inr (.inl (0, 4294967295)))))], [(.inr (.inr (.inr (.inl (0, 4294967295)))))], [(.inr (.inr (.inr (.inl (0, 4294967295)))))]]
theorem xcs_44 : xcaseB 44 xB_44 = true := by decide +kernel
set_option maxRecDepth 1000000 in
theorem xk_44 : xAllK xgo xB_44 [.inr (.inr (.inr (.inr (.inr (.inr 44)))))] = true := by decide +kernel
