/-! ===== owed ===== -/
section MStub
variable {G : zW}
theorem c_GModel_potentials_1 {hp : xH} (W : mW G) (d : Nat) (hT : zTy G hp) (M_bRg : bRg G hp) (M_bSm : bSm G hp) (H_2073 : bRo G 116 2073) : yC (xcall 89 xfts xpools xms (d + 10)) 483 [yR 2073, yI (1), yI (148), yI (150)] hp (fun rv hp' => (fun rv hp' => (rv = none ∧ True) ∧ bAx G [(83076749736557242056487941267521536, 10), (83076749736557242056487941267521536, 11), (83076749736557242056487941267521536, 38), (267609282498580899163777598533411887304933376, 256)] hp hp') rv hp' ∧ bRg G hp') := by
  sorry
theorem c_GModel_potentials_2 {hp : xH} (W : mW G) (d : Nat) (hT : zTy G hp) (M_bRg : bRg G hp) (M_bSm : bSm G hp) (H_2073 : bRo G 116 2073) : yC (xcall 89 xfts xpools xms (d + 10)) 483 [yR 2073, yI (2), yI (149), yI (167)] hp (fun rv hp' => (fun rv hp' => (rv = none ∧ True) ∧ bAx G [(83076749736557242056487941267521536, 10), (83076749736557242056487941267521536, 11), (83076749736557242056487941267521536, 38), (267609282498580899163777598533411887304933376, 256)] hp hp') rv hp' ∧ bRg G hp') := by
  sorry
end MStub
