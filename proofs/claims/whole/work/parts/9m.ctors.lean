theorem hy_yX10_init : yX10_init.cls ≠ "java/lang/invoke/MethodHandle" ∧ yX10_init.cls ≠ "java/lang/invoke/VarHandle" ∧ (parseMethodDescriptor yX10_init.desc).map (fun d => d.parameters.length) = some 0 := ⟨by decide +kernel, by decide +kernel, by decide +kernel⟩
theorem hy_yX7_init : yX7_init.cls ≠ "java/lang/invoke/MethodHandle" ∧ yX7_init.cls ≠ "java/lang/invoke/VarHandle" ∧ (parseMethodDescriptor yX7_init.desc).map (fun d => d.parameters.length) = some 0 := ⟨by decide +kernel, by decide +kernel, by decide +kernel⟩
theorem hy_yX4_init : yX4_init.cls ≠ "java/lang/invoke/MethodHandle" ∧ yX4_init.cls ≠ "java/lang/invoke/VarHandle" ∧ (parseMethodDescriptor yX4_init.desc).map (fun d => d.parameters.length) = some 0 := ⟨by decide +kernel, by decide +kernel, by decide +kernel⟩
theorem hy_yX3_init : yX3_init.cls ≠ "java/lang/invoke/MethodHandle" ∧ yX3_init.cls ≠ "java/lang/invoke/VarHandle" ∧ (parseMethodDescriptor yX3_init.desc).map (fun d => d.parameters.length) = some 0 := ⟨by decide +kernel, by decide +kernel, by decide +kernel⟩
theorem hy_yX0_init : yX0_init.cls ≠ "java/lang/invoke/MethodHandle" ∧ yX0_init.cls ≠ "java/lang/invoke/VarHandle" ∧ (parseMethodDescriptor yX0_init.desc).map (fun d => d.parameters.length) = some 0 := ⟨by decide +kernel, by decide +kernel, by decide +kernel⟩
theorem hy_yX1_init : yX1_init.cls ≠ "java/lang/invoke/MethodHandle" ∧ yX1_init.cls ≠ "java/lang/invoke/VarHandle" ∧ (parseMethodDescriptor yX1_init.desc).map (fun d => d.parameters.length) = some 0 := ⟨by decide +kernel, by decide +kernel, by decide +kernel⟩
theorem hy_yX8_init : yX8_init.cls ≠ "java/lang/invoke/MethodHandle" ∧ yX8_init.cls ≠ "java/lang/invoke/VarHandle" ∧ (parseMethodDescriptor yX8_init.desc).map (fun d => d.parameters.length) = some 0 := ⟨by decide +kernel, by decide +kernel, by decide +kernel⟩
theorem hy_yX2_init : yX2_init.cls ≠ "java/lang/invoke/MethodHandle" ∧ yX2_init.cls ≠ "java/lang/invoke/VarHandle" ∧ (parseMethodDescriptor yX2_init.desc).map (fun d => d.parameters.length) = some 0 := ⟨by decide +kernel, by decide +kernel, by decide +kernel⟩
theorem hy_yX6_init : yX6_init.cls ≠ "java/lang/invoke/MethodHandle" ∧ yX6_init.cls ≠ "java/lang/invoke/VarHandle" ∧ (parseMethodDescriptor yX6_init.desc).map (fun d => d.parameters.length) = some 0 := ⟨by decide +kernel, by decide +kernel, by decide +kernel⟩
theorem hy_yX9_init : yX9_init.cls ≠ "java/lang/invoke/MethodHandle" ∧ yX9_init.cls ≠ "java/lang/invoke/VarHandle" ∧ (parseMethodDescriptor yX9_init.desc).map (fun d => d.parameters.length) = some 0 := ⟨by decide +kernel, by decide +kernel, by decide +kernel⟩
theorem hy_yX5_init : yX5_init.cls ≠ "java/lang/invoke/MethodHandle" ∧ yX5_init.cls ≠ "java/lang/invoke/VarHandle" ∧ (parseMethodDescriptor yX5_init.desc).map (fun d => d.parameters.length) = some 0 := ⟨by decide +kernel, by decide +kernel, by decide +kernel⟩
theorem hy_yX11_init : yX11_init.cls ≠ "java/lang/invoke/MethodHandle" ∧ yX11_init.cls ≠ "java/lang/invoke/VarHandle" ∧ (parseMethodDescriptor yX11_init.desc).map (fun d => d.parameters.length) = some 0 := ⟨by decide +kernel, by decide +kernel, by decide +kernel⟩
theorem hy_yX12_init : yX12_init.cls ≠ "java/lang/invoke/MethodHandle" ∧ yX12_init.cls ≠ "java/lang/invoke/VarHandle" ∧ (parseMethodDescriptor yX12_init.desc).map (fun d => d.parameters.length) = some 0 := ⟨by decide +kernel, by decide +kernel, by decide +kernel⟩
def u_RX10_1 (K : Nat) (c n : Nat) (t : wS) : wS := wUR (t) c 0 n
def u_RX10_2 (K : Nat) (c n : Nat) (t : wS) : wS := wUR (u_RX10_1 K c n t) c 2 (n + 1)
def u_RX10_3 (K : Nat) (c n : Nat) (t : wS) : wS := wUR (u_RX10_2 K c n t) c 3 (n + 2)
def u_RX10_4 (K : Nat) (c n : Nat) (t : wS) : wS := wUR (u_RX10_3 K c n t) c 4 (n + 3)
def u_RX10_5 (K : Nat) (c n : Nat) (t : wS) : wS := wUI (u_RX10_4 K c n t) c 8 (-1)
/-- WoundTape$Tokens: 4 cells of 1603 slots -/
def e_RX10 (K : Nat) (c n : Nat) (t : wS) : wS := u_RX10_5 K c n t
theorem fr_RX10 (K : Nat) {c n : Nat} {t : wS} (hF : Fr t n) (hc : c < n) : Fr (e_RX10 K c n t) (n + 4) := by
  have hF1 : Fr (t) (n + 1) := Fr.up hF
  have hF2 : Fr (u_RX10_1 K c n t) (n + 1) := Fr.put hF1 (by omega) (by omega)
  have hF3 : Fr (u_RX10_1 K c n t) (n + 2) := Fr.up hF2
  have hF4 : Fr (u_RX10_2 K c n t) (n + 2) := Fr.put hF3 (by omega) (by omega)
  have hF5 : Fr (u_RX10_2 K c n t) (n + 3) := Fr.up hF4
  have hF6 : Fr (u_RX10_3 K c n t) (n + 3) := Fr.put hF5 (by omega) (by omega)
  have hF7 : Fr (u_RX10_3 K c n t) (n + 4) := Fr.up hF6
  have hF8 : Fr (u_RX10_4 K c n t) (n + 4) := Fr.put hF7 (by omega) (by omega)
  have hF9 : Fr (u_RX10_5 K c n t) (n + 4) := Fr.int hF8 rfl (fun q hq => if_neg (by omega))
  exact hF9
set_option maxHeartbeats 8000000 in
set_option maxRecDepth 4000 in
theorem mX10_init (K : Nat) : MetN yX10_init cX10_init 1 1 [(1, 400), (1, 401), (1, 401), (1, 401)] 1603 10 (e_RX10 K) := by
  refine mMetN (own := RX10) rfl rfl (by decide +kernel) (by decide) (by decide) fun X0 n c t hC hini hsh hcn hN hF hz hend => ?_
  simp only [List.length_cons, List.length_nil] at hN
  refine gn_R hC (by decide +kernel) (by decide +kernel) (b := fun _ => eLocR 0) (fun X hX => cLocR_n hX dX10_init_0 rfl) rfl (Nat.le_of_ble_eq_true rfl) ?_
  refine gn_obj hC (by decide +kernel) (by decide +kernel) wd_149 wd_142 wd_143 (Nat.le_of_ble_eq_true rfl) dX10_init_1 ?_
  refine gn_R hC (by decide +kernel) (by decide +kernel) (b := fun _ => eLocR 0) (fun X hX => cLocR_n hX dX10_init_4 rfl) rfl (Nat.le_of_ble_eq_true rfl) ?_
  refine gn_E hC (by decide +kernel) (by decide +kernel) (b := fun _ => eI 400) (fun X hX => cSi hX dX10_init_5 (by decide +kernel)) rfl (Nat.le_of_ble_eq_true rfl) ?_
  refine gn_newarr hC (N := 400) (n := n + 0) (by decide +kernel) (by decide +kernel) (by decide +kernel) rfl (by omega) (by decide +kernel) (by decide +kernel) hF (wBel_ref (by omega) wBel_nil) (wBel_ref (by omega) wBel_nil) dX10_init_8 ?_
  have hF1 : Fr (t) (n + 1) := Fr.up hF
  refine gn_putR hC (by decide +kernel) (by decide +kernel) hini (ci := 10) (k := 0) rfl inw10 rfl (by decide +kernel) (by decide +kernel) rfl rfl wd_150 tyX10_ok nmX10 rfl (fun a => ⟨rfl, rfl⟩) (shS_old hsh (by decide +kernel)) (by omega) dX10_init_10 ?_
  have hF2 : Fr (u_RX10_1 K c n t) (n + 1) := Fr.put hF1 (by omega) (by omega)
  change GN _ _ _ _ _ _ _ _ (u_RX10_1 K c n t)
  refine gn_R hC (by decide +kernel) (by decide +kernel) (b := fun _ => eLocR 0) (fun X hX => cLocR_n hX dX10_init_13 rfl) rfl (Nat.le_of_ble_eq_true rfl) ?_
  refine gn_E hC (by decide +kernel) (by decide +kernel) (b := fun _ => eI 401) (fun X hX => cSi hX dX10_init_14 (by decide +kernel)) rfl (Nat.le_of_ble_eq_true rfl) ?_
  refine gn_newarr hC (N := 401) (n := n + 1) (by decide +kernel) (by decide +kernel) (by decide +kernel) rfl (by omega) (by decide +kernel) (by decide +kernel) hF2 (wBel_ref (by omega) wBel_nil) (wBel_ref (by omega) wBel_nil) dX10_init_17 ?_
  have hF3 : Fr (u_RX10_1 K c n t) (n + 2) := Fr.up hF2
  refine gn_putR hC (by decide +kernel) (by decide +kernel) hini (ci := 10) (k := 2) rfl inw10 rfl (by decide +kernel) (by decide +kernel) rfl rfl wd_153 tyX10_ok nmX10 rfl (fun a => ⟨rfl, rfl⟩) (shS_old hsh (by decide +kernel)) (by omega) dX10_init_19 ?_
  have hF4 : Fr (u_RX10_2 K c n t) (n + 2) := Fr.put hF3 (by omega) (by omega)
  change GN _ _ _ _ _ _ _ _ (u_RX10_2 K c n t)
  refine gn_R hC (by decide +kernel) (by decide +kernel) (b := fun _ => eLocR 0) (fun X hX => cLocR_n hX dX10_init_22 rfl) rfl (Nat.le_of_ble_eq_true rfl) ?_
  refine gn_E hC (by decide +kernel) (by decide +kernel) (b := fun _ => eI 401) (fun X hX => cSi hX dX10_init_23 (by decide +kernel)) rfl (Nat.le_of_ble_eq_true rfl) ?_
  refine gn_newarr hC (N := 401) (n := n + 2) (by decide +kernel) (by decide +kernel) (by decide +kernel) rfl (by omega) (by decide +kernel) (by decide +kernel) hF4 (wBel_ref (by omega) wBel_nil) (wBel_ref (by omega) wBel_nil) dX10_init_26 ?_
  have hF5 : Fr (u_RX10_2 K c n t) (n + 3) := Fr.up hF4
  refine gn_putR hC (by decide +kernel) (by decide +kernel) hini (ci := 10) (k := 3) rfl inw10 rfl (by decide +kernel) (by decide +kernel) rfl rfl wd_154 tyX10_ok nmX10 rfl (fun a => ⟨rfl, rfl⟩) (shS_old hsh (by decide +kernel)) (by omega) dX10_init_28 ?_
  have hF6 : Fr (u_RX10_3 K c n t) (n + 3) := Fr.put hF5 (by omega) (by omega)
  change GN _ _ _ _ _ _ _ _ (u_RX10_3 K c n t)
  refine gn_R hC (by decide +kernel) (by decide +kernel) (b := fun _ => eLocR 0) (fun X hX => cLocR_n hX dX10_init_31 rfl) rfl (Nat.le_of_ble_eq_true rfl) ?_
  refine gn_E hC (by decide +kernel) (by decide +kernel) (b := fun _ => eI 401) (fun X hX => cSi hX dX10_init_32 (by decide +kernel)) rfl (Nat.le_of_ble_eq_true rfl) ?_
  refine gn_newarr hC (N := 401) (n := n + 3) (by decide +kernel) (by decide +kernel) (by decide +kernel) rfl (by omega) (by decide +kernel) (by decide +kernel) hF6 (wBel_ref (by omega) wBel_nil) (wBel_ref (by omega) wBel_nil) dX10_init_35 ?_
  have hF7 : Fr (u_RX10_3 K c n t) (n + 4) := Fr.up hF6
  refine gn_putR hC (by decide +kernel) (by decide +kernel) hini (ci := 10) (k := 4) rfl inw10 rfl (by decide +kernel) (by decide +kernel) rfl rfl wd_155 tyX10_ok nmX10 rfl (fun a => ⟨rfl, rfl⟩) (shS_old hsh (by decide +kernel)) (by omega) dX10_init_37 ?_
  have hF8 : Fr (u_RX10_4 K c n t) (n + 4) := Fr.put hF7 (by omega) (by omega)
  change GN _ _ _ _ _ _ _ _ (u_RX10_4 K c n t)
  refine gn_S hC (by decide +kernel) (by decide +kernel) (b := fun sh => sPut sh 10 8 (eLocR 0) (eI (-1))) (pB := 0) (pC := 0) (fun X hX => (csPut hX (cLocR_n hX dX10_init_40 rfl) (cConst hX dX10_init_41 (by decide +kernel)) rfl inw10 rfl (by decide +kernel) (by decide +kernel) rfl wd_160 tyX10_ok nmX10 rfl dX10_init_42)) (t1 := wUI (u_RX10_4 K c n t) c 8 (-1)) (ls1 := [.ref c]) ?_ ?_
  · exact sPut_this (shS_old hsh (by decide +kernel))
  have hF9 : Fr (u_RX10_5 K c n t) (n + 4) := Fr.int hF8 rfl (fun q hq => if_neg (by omega))
  change GN _ _ _ _ _ _ _ _ (u_RX10_5 K c n t)
  exact hend 45 _ dX10_init_45
def u_RX7_1 (K : Nat) (c n : Nat) (t : wS) : wS := wUR (t) c 3 n
def u_RX7_2 (K : Nat) (c n : Nat) (t : wS) : wS := wUR (u_RX7_1 K c n t) c 4 (n + 1)
def u_RX7_3 (K : Nat) (c n : Nat) (t : wS) : wS := wUR (u_RX7_2 K c n t) c 5 (n + 2)
def u_RX7_4 (K : Nat) (c n : Nat) (t : wS) : wS := wUR (u_RX7_3 K c n t) c 6 (n + 3)
def u_RX7_5 (K : Nat) (c n : Nat) (t : wS) : wS := wRow (u_RX7_4 K c n t) (n + 4) 2
def u_RX7_6 (K : Nat) (c n : Nat) (t : wS) : wS := wUR (u_RX7_5 K c n t) c 7 (n + 4)
def u_RX7_7 (K : Nat) (c n : Nat) (t : wS) : wS := e_RX7_last K c n (u_RX7_6 K c n t)
/-- WoundTape$Sides: 7 cells of 448 slots -/
def e_RX7 (K : Nat) (c n : Nat) (t : wS) : wS := u_RX7_7 K c n t
theorem fr_RX7 (K : Nat) {c n : Nat} {t : wS} (hF : Fr t n) (hc : c < n) : Fr (e_RX7 K c n t) (n + 7) := by
  have hF1 : Fr (t) (n + 1) := Fr.up hF
  have hF2 : Fr (u_RX7_1 K c n t) (n + 1) := Fr.put hF1 (by omega) (by omega)
  have hF3 : Fr (u_RX7_1 K c n t) (n + 2) := Fr.up hF2
  have hF4 : Fr (u_RX7_2 K c n t) (n + 2) := Fr.put hF3 (by omega) (by omega)
  have hF5 : Fr (u_RX7_2 K c n t) (n + 3) := Fr.up hF4
  have hF6 : Fr (u_RX7_3 K c n t) (n + 3) := Fr.put hF5 (by omega) (by omega)
  have hF7 : Fr (u_RX7_3 K c n t) (n + 4) := Fr.up hF6
  have hF8 : Fr (u_RX7_4 K c n t) (n + 4) := Fr.put hF7 (by omega) (by omega)
  have hF9 : Fr (u_RX7_5 K c n t) (n + 7) := Fr.row hF8
  have hF10 : Fr (u_RX7_6 K c n t) (n + 7) := Fr.put hF9 (by omega) (by omega)
  have hF11 : Fr (u_RX7_7 K c n t) (n + 7) := fr_RX7_last K hF10 (by omega)
  exact hF11
set_option maxHeartbeats 8000000 in
set_option maxRecDepth 4000 in
theorem mX7_init (K : Nat) (hK : 16777216 ≤ K) : MetN yX7_init cX7_init 1 3 [(1, 14), (1, 14), (1, 14), (1, 2), (2, 2), (1, 201), (1, 201)] 448 7 (e_RX7 K) := by
  refine mMetN (own := RX7) rfl rfl (by decide +kernel) (by decide) (by decide) fun X0 n c t hC hini hsh hcn hN hF hz hend => ?_
  simp only [List.length_cons, List.length_nil] at hN
  refine gn_R hC (by decide +kernel) (by decide +kernel) (b := fun _ => eLocR 0) (fun X hX => cLocR_n hX dX7_init_0 rfl) rfl (Nat.le_of_ble_eq_true rfl) ?_
  refine gn_obj hC (by decide +kernel) (by decide +kernel) wd_193 wd_142 wd_143 (Nat.le_of_ble_eq_true rfl) dX7_init_1 ?_
  refine gn_R hC (by decide +kernel) (by decide +kernel) (b := fun _ => eLocR 0) (fun X hX => cLocR_n hX dX7_init_4 rfl) rfl (Nat.le_of_ble_eq_true rfl) ?_
  refine gn_E hC (by decide +kernel) (by decide +kernel) (b := fun _ => eI 14) (fun X hX => cBi hX dX7_init_5 (by decide +kernel)) rfl (Nat.le_of_ble_eq_true rfl) ?_
  refine gn_newarr hC (N := 14) (n := n + 0) (by decide +kernel) (by decide +kernel) (by decide +kernel) rfl (by omega) (by decide +kernel) (by decide +kernel) hF (wBel_ref (by omega) wBel_nil) (wBel_ref (by omega) wBel_nil) dX7_init_7 ?_
  have hF1 : Fr (t) (n + 1) := Fr.up hF
  refine gn_putR hC (by decide +kernel) (by decide +kernel) hini (ci := 7) (k := 3) rfl inw7 rfl (by decide +kernel) (by decide +kernel) rfl rfl wd_213 tyX7_ok nmX7 rfl (fun a => ⟨rfl, rfl⟩) (shS_old hsh (by decide +kernel)) (by omega) dX7_init_9 ?_
  have hF2 : Fr (u_RX7_1 K c n t) (n + 1) := Fr.put hF1 (by omega) (by omega)
  change GN _ _ _ _ _ _ _ _ (u_RX7_1 K c n t)
  refine gn_R hC (by decide +kernel) (by decide +kernel) (b := fun _ => eLocR 0) (fun X hX => cLocR_n hX dX7_init_12 rfl) rfl (Nat.le_of_ble_eq_true rfl) ?_
  refine gn_E hC (by decide +kernel) (by decide +kernel) (b := fun _ => eI 14) (fun X hX => cBi hX dX7_init_13 (by decide +kernel)) rfl (Nat.le_of_ble_eq_true rfl) ?_
  refine gn_newarr hC (N := 14) (n := n + 1) (by decide +kernel) (by decide +kernel) (by decide +kernel) rfl (by omega) (by decide +kernel) (by decide +kernel) hF2 (wBel_ref (by omega) wBel_nil) (wBel_ref (by omega) wBel_nil) dX7_init_15 ?_
  have hF3 : Fr (u_RX7_1 K c n t) (n + 2) := Fr.up hF2
  refine gn_putR hC (by decide +kernel) (by decide +kernel) hini (ci := 7) (k := 4) rfl inw7 rfl (by decide +kernel) (by decide +kernel) rfl rfl wd_218 tyX7_ok nmX7 rfl (fun a => ⟨rfl, rfl⟩) (shS_old hsh (by decide +kernel)) (by omega) dX7_init_17 ?_
  have hF4 : Fr (u_RX7_2 K c n t) (n + 2) := Fr.put hF3 (by omega) (by omega)
  change GN _ _ _ _ _ _ _ _ (u_RX7_2 K c n t)
  refine gn_R hC (by decide +kernel) (by decide +kernel) (b := fun _ => eLocR 0) (fun X hX => cLocR_n hX dX7_init_20 rfl) rfl (Nat.le_of_ble_eq_true rfl) ?_
  refine gn_E hC (by decide +kernel) (by decide +kernel) (b := fun _ => eI 14) (fun X hX => cBi hX dX7_init_21 (by decide +kernel)) rfl (Nat.le_of_ble_eq_true rfl) ?_
  refine gn_newarr hC (N := 14) (n := n + 2) (by decide +kernel) (by decide +kernel) (by decide +kernel) rfl (by omega) (by decide +kernel) (by decide +kernel) hF4 (wBel_ref (by omega) wBel_nil) (wBel_ref (by omega) wBel_nil) dX7_init_23 ?_
  have hF5 : Fr (u_RX7_2 K c n t) (n + 3) := Fr.up hF4
  refine gn_putR hC (by decide +kernel) (by decide +kernel) hini (ci := 7) (k := 5) rfl inw7 rfl (by decide +kernel) (by decide +kernel) rfl rfl wd_221 tyX7_ok nmX7 rfl (fun a => ⟨rfl, rfl⟩) (shS_old hsh (by decide +kernel)) (by omega) dX7_init_25 ?_
  have hF6 : Fr (u_RX7_3 K c n t) (n + 3) := Fr.put hF5 (by omega) (by omega)
  change GN _ _ _ _ _ _ _ _ (u_RX7_3 K c n t)
  refine gn_R hC (by decide +kernel) (by decide +kernel) (b := fun _ => eLocR 0) (fun X hX => cLocR_n hX dX7_init_28 rfl) rfl (Nat.le_of_ble_eq_true rfl) ?_
  refine gn_E hC (by decide +kernel) (by decide +kernel) (b := fun _ => eI 2) (fun X hX => cConst hX dX7_init_29 (by decide +kernel)) rfl (Nat.le_of_ble_eq_true rfl) ?_
  refine gn_newarr hC (N := 2) (n := n + 3) (by decide +kernel) (by decide +kernel) (by decide +kernel) rfl (by omega) (by decide +kernel) (by decide +kernel) hF6 (wBel_ref (by omega) wBel_nil) (wBel_ref (by omega) wBel_nil) dX7_init_30 ?_
  have hF7 : Fr (u_RX7_3 K c n t) (n + 4) := Fr.up hF6
  refine gn_putR hC (by decide +kernel) (by decide +kernel) hini (ci := 7) (k := 6) rfl inw7 rfl (by decide +kernel) (by decide +kernel) rfl rfl wd_225 tyX7_ok nmX7 rfl (fun a => ⟨rfl, rfl⟩) (shS_old hsh (by decide +kernel)) (by omega) dX7_init_32 ?_
  have hF8 : Fr (u_RX7_4 K c n t) (n + 4) := Fr.put hF7 (by omega) (by omega)
  change GN _ _ _ _ _ _ _ _ (u_RX7_4 K c n t)
  refine gn_R hC (by decide +kernel) (by decide +kernel) (b := fun _ => eLocR 0) (fun X hX => cLocR_n hX dX7_init_35 rfl) rfl (Nat.le_of_ble_eq_true rfl) ?_
  refine gn_E hC (by decide +kernel) (by decide +kernel) (b := fun _ => eI 2) (fun X hX => cConst hX dX7_init_36 (by decide +kernel)) rfl (Nat.le_of_ble_eq_true rfl) ?_
  refine gn_E hC (by decide +kernel) (by decide +kernel) (b := fun _ => eI 201) (fun X hX => cSi hX dX7_init_37 (by decide +kernel)) rfl (Nat.le_of_ble_eq_true rfl) ?_
  refine gn_mna hC (N := 2) (K := 201) (n := n + 4) (by decide +kernel) (by decide +kernel) (by decide +kernel) (by decide +kernel) (by decide +kernel) (by decide +kernel) wd_194 rfl (by omega) (by decide +kernel) (by decide +kernel) hF8 (wBel_ref (by omega) wBel_nil) (wBel_ref (by omega) wBel_nil) dX7_init_40 ?_
  have hF9 : Fr (u_RX7_5 K c n t) (n + 7) := Fr.row hF8
  change GN _ _ _ _ _ _ _ _ (u_RX7_5 K c n t)
  refine gn_putR hC (by decide +kernel) (by decide +kernel) hini (ci := 7) (k := 7) rfl inw7 rfl (by decide +kernel) (by decide +kernel) rfl rfl wd_226 tyX7_ok nmX7 rfl (fun a => ⟨rfl, rfl⟩) (shS_old hsh (by decide +kernel)) (by omega) dX7_init_44 ?_
  have hF10 : Fr (u_RX7_6 K c n t) (n + 7) := Fr.put hF9 (by omega) (by omega)
  change GN _ _ _ _ _ _ _ _ (u_RX7_6 K c n t)
  have hw7_6 : (u_RX7_6 K c n t).2 c 7 = (n + 4) := by show (wUR _ _ _ _).2 _ _ = _; rw [wUR_at, if_pos rfl, if_pos rfl]
  refine gn_S hC (by decide +kernel) (by decide +kernel) (b := fun sh => sCall (nX7_fillHeard K sh) (aO sh 7 (eLocR 0) (aN))) (pB := 0) (pC := 0) (fun X hX => (csCallV hX (mX7_fillHeard K) wd_196 wd_198 wd_0 wd_199 wd_117 hy_yX7_fillHeard (by decide +kernel) (by decide +kernel) rfl (cAO (cLocR_n hX dX7_init_47 rfl) cAN) dX7_init_48)) (t1 := e_RX7_last K c n (u_RX7_6 K c n t)) (ls1 := [.ref c]) (by exact rest_RX7w K (shS_old hsh (by decide +kernel)) hw7_6 (by show (wUR (wRow _ _ _) _ _ _).2 _ _ = _; rw [wUR_ne (by omega), wRow_at, if_pos rfl]; rfl) (by show (wUR (wRow _ _ _) _ _ _).2 _ _ = _; rw [wUR_ne (by omega), wRow_at, if_pos rfl]; rfl) (shS_new hC.2.2.2.1 (j := 4)) (shS_new hC.2.2.2.1 (j := 5)) (shS_new hC.2.2.2.1 (j := 6)) (hz 0) (hz 1) (by omega) (by omega) hK) ?_
  have hF11 : Fr (u_RX7_7 K c n t) (n + 7) := fr_RX7_last K hF10 (by omega)
  change GN _ _ _ _ _ _ _ _ (u_RX7_7 K c n t)
  exact hend 51 _ dX7_init_51
def u_RX4_1 (K : Nat) (c n : Nat) (t : wS) : wS := wUR (t) c 1 n
def u_RX4_2 (K : Nat) (c n : Nat) (t : wS) : wS := wUR (u_RX4_1 K c n t) c 2 (n + 1)
def u_RX4_3 (K : Nat) (c n : Nat) (t : wS) : wS := wUR (u_RX4_2 K c n t) c 3 (n + 2)
def u_RX4_4 (K : Nat) (c n : Nat) (t : wS) : wS := wUR (u_RX4_3 K c n t) c 4 (n + 3)
def u_RX4_5 (K : Nat) (c n : Nat) (t : wS) : wS := wUR (u_RX4_4 K c n t) c 5 (n + 4)
def u_RX4_6 (K : Nat) (c n : Nat) (t : wS) : wS := wUR (u_RX4_5 K c n t) c 7 (n + 5)
/-- WoundTape$Law: 6 cells of 528 slots -/
def e_RX4 (K : Nat) (c n : Nat) (t : wS) : wS := u_RX4_6 K c n t
theorem fr_RX4 (K : Nat) {c n : Nat} {t : wS} (hF : Fr t n) (hc : c < n) : Fr (e_RX4 K c n t) (n + 6) := by
  have hF1 : Fr (t) (n + 1) := Fr.up hF
  have hF2 : Fr (u_RX4_1 K c n t) (n + 1) := Fr.put hF1 (by omega) (by omega)
  have hF3 : Fr (u_RX4_1 K c n t) (n + 2) := Fr.up hF2
  have hF4 : Fr (u_RX4_2 K c n t) (n + 2) := Fr.put hF3 (by omega) (by omega)
  have hF5 : Fr (u_RX4_2 K c n t) (n + 3) := Fr.up hF4
  have hF6 : Fr (u_RX4_3 K c n t) (n + 3) := Fr.put hF5 (by omega) (by omega)
  have hF7 : Fr (u_RX4_3 K c n t) (n + 4) := Fr.up hF6
  have hF8 : Fr (u_RX4_4 K c n t) (n + 4) := Fr.put hF7 (by omega) (by omega)
  have hF9 : Fr (u_RX4_4 K c n t) (n + 5) := Fr.up hF8
  have hF10 : Fr (u_RX4_5 K c n t) (n + 5) := Fr.put hF9 (by omega) (by omega)
  have hF11 : Fr (u_RX4_5 K c n t) (n + 6) := Fr.up hF10
  have hF12 : Fr (u_RX4_6 K c n t) (n + 6) := Fr.put hF11 (by omega) (by omega)
  exact hF12
set_option maxHeartbeats 8000000 in
set_option maxRecDepth 4000 in
theorem mX4_init (K : Nat) : MetN yX4_init cX4_init 1 1 [(1, 16), (1, 16), (1, 16), (1, 16), (1, 400), (1, 64)] 528 4 (e_RX4 K) := by
  refine mMetN (own := RX4) rfl rfl (by decide +kernel) (by decide) (by decide) fun X0 n c t hC hini hsh hcn hN hF hz hend => ?_
  simp only [List.length_cons, List.length_nil] at hN
  refine gn_R hC (by decide +kernel) (by decide +kernel) (b := fun _ => eLocR 0) (fun X hX => cLocR_n hX dX4_init_0 rfl) rfl (Nat.le_of_ble_eq_true rfl) ?_
  refine gn_obj hC (by decide +kernel) (by decide +kernel) wd_249 wd_142 wd_143 (Nat.le_of_ble_eq_true rfl) dX4_init_1 ?_
  refine gn_R hC (by decide +kernel) (by decide +kernel) (b := fun _ => eLocR 0) (fun X hX => cLocR_n hX dX4_init_4 rfl) rfl (Nat.le_of_ble_eq_true rfl) ?_
  refine gn_E hC (by decide +kernel) (by decide +kernel) (b := fun _ => eI 16) (fun X hX => cBi hX dX4_init_5 (by decide +kernel)) rfl (Nat.le_of_ble_eq_true rfl) ?_
  refine gn_newarr hC (N := 16) (n := n + 0) (by decide +kernel) (by decide +kernel) (by decide +kernel) rfl (by omega) (by decide +kernel) (by decide +kernel) hF (wBel_ref (by omega) wBel_nil) (wBel_ref (by omega) wBel_nil) dX4_init_7 ?_
  have hF1 : Fr (t) (n + 1) := Fr.up hF
  refine gn_putR hC (by decide +kernel) (by decide +kernel) hini (ci := 4) (k := 1) rfl inw4 rfl (by decide +kernel) (by decide +kernel) rfl rfl wd_252 tyX4_ok nmX4 rfl (fun a => ⟨rfl, rfl⟩) (shS_old hsh (by decide +kernel)) (by omega) dX4_init_9 ?_
  have hF2 : Fr (u_RX4_1 K c n t) (n + 1) := Fr.put hF1 (by omega) (by omega)
  change GN _ _ _ _ _ _ _ _ (u_RX4_1 K c n t)
  refine gn_R hC (by decide +kernel) (by decide +kernel) (b := fun _ => eLocR 0) (fun X hX => cLocR_n hX dX4_init_12 rfl) rfl (Nat.le_of_ble_eq_true rfl) ?_
  refine gn_E hC (by decide +kernel) (by decide +kernel) (b := fun _ => eI 16) (fun X hX => cBi hX dX4_init_13 (by decide +kernel)) rfl (Nat.le_of_ble_eq_true rfl) ?_
  refine gn_newarr hC (N := 16) (n := n + 1) (by decide +kernel) (by decide +kernel) (by decide +kernel) rfl (by omega) (by decide +kernel) (by decide +kernel) hF2 (wBel_ref (by omega) wBel_nil) (wBel_ref (by omega) wBel_nil) dX4_init_15 ?_
  have hF3 : Fr (u_RX4_1 K c n t) (n + 2) := Fr.up hF2
  refine gn_putR hC (by decide +kernel) (by decide +kernel) hini (ci := 4) (k := 2) rfl inw4 rfl (by decide +kernel) (by decide +kernel) rfl rfl wd_253 tyX4_ok nmX4 rfl (fun a => ⟨rfl, rfl⟩) (shS_old hsh (by decide +kernel)) (by omega) dX4_init_17 ?_
  have hF4 : Fr (u_RX4_2 K c n t) (n + 2) := Fr.put hF3 (by omega) (by omega)
  change GN _ _ _ _ _ _ _ _ (u_RX4_2 K c n t)
  refine gn_R hC (by decide +kernel) (by decide +kernel) (b := fun _ => eLocR 0) (fun X hX => cLocR_n hX dX4_init_20 rfl) rfl (Nat.le_of_ble_eq_true rfl) ?_
  refine gn_E hC (by decide +kernel) (by decide +kernel) (b := fun _ => eI 16) (fun X hX => cBi hX dX4_init_21 (by decide +kernel)) rfl (Nat.le_of_ble_eq_true rfl) ?_
  refine gn_newarr hC (N := 16) (n := n + 2) (by decide +kernel) (by decide +kernel) (by decide +kernel) rfl (by omega) (by decide +kernel) (by decide +kernel) hF4 (wBel_ref (by omega) wBel_nil) (wBel_ref (by omega) wBel_nil) dX4_init_23 ?_
  have hF5 : Fr (u_RX4_2 K c n t) (n + 3) := Fr.up hF4
  refine gn_putR hC (by decide +kernel) (by decide +kernel) hini (ci := 4) (k := 3) rfl inw4 rfl (by decide +kernel) (by decide +kernel) rfl rfl wd_254 tyX4_ok nmX4 rfl (fun a => ⟨rfl, rfl⟩) (shS_old hsh (by decide +kernel)) (by omega) dX4_init_25 ?_
  have hF6 : Fr (u_RX4_3 K c n t) (n + 3) := Fr.put hF5 (by omega) (by omega)
  change GN _ _ _ _ _ _ _ _ (u_RX4_3 K c n t)
  refine gn_R hC (by decide +kernel) (by decide +kernel) (b := fun _ => eLocR 0) (fun X hX => cLocR_n hX dX4_init_28 rfl) rfl (Nat.le_of_ble_eq_true rfl) ?_
  refine gn_E hC (by decide +kernel) (by decide +kernel) (b := fun _ => eI 16) (fun X hX => cBi hX dX4_init_29 (by decide +kernel)) rfl (Nat.le_of_ble_eq_true rfl) ?_
  refine gn_newarr hC (N := 16) (n := n + 3) (by decide +kernel) (by decide +kernel) (by decide +kernel) rfl (by omega) (by decide +kernel) (by decide +kernel) hF6 (wBel_ref (by omega) wBel_nil) (wBel_ref (by omega) wBel_nil) dX4_init_31 ?_
  have hF7 : Fr (u_RX4_3 K c n t) (n + 4) := Fr.up hF6
  refine gn_putR hC (by decide +kernel) (by decide +kernel) hini (ci := 4) (k := 4) rfl inw4 rfl (by decide +kernel) (by decide +kernel) rfl rfl wd_255 tyX4_ok nmX4 rfl (fun a => ⟨rfl, rfl⟩) (shS_old hsh (by decide +kernel)) (by omega) dX4_init_33 ?_
  have hF8 : Fr (u_RX4_4 K c n t) (n + 4) := Fr.put hF7 (by omega) (by omega)
  change GN _ _ _ _ _ _ _ _ (u_RX4_4 K c n t)
  refine gn_R hC (by decide +kernel) (by decide +kernel) (b := fun _ => eLocR 0) (fun X hX => cLocR_n hX dX4_init_36 rfl) rfl (Nat.le_of_ble_eq_true rfl) ?_
  refine gn_E hC (by decide +kernel) (by decide +kernel) (b := fun _ => eI 400) (fun X hX => cSi hX dX4_init_37 (by decide +kernel)) rfl (Nat.le_of_ble_eq_true rfl) ?_
  refine gn_newarr hC (N := 400) (n := n + 4) (by decide +kernel) (by decide +kernel) (by decide +kernel) rfl (by omega) (by decide +kernel) (by decide +kernel) hF8 (wBel_ref (by omega) wBel_nil) (wBel_ref (by omega) wBel_nil) dX4_init_40 ?_
  have hF9 : Fr (u_RX4_4 K c n t) (n + 5) := Fr.up hF8
  refine gn_putR hC (by decide +kernel) (by decide +kernel) hini (ci := 4) (k := 5) rfl inw4 rfl (by decide +kernel) (by decide +kernel) rfl rfl wd_256 tyX4_ok nmX4 rfl (fun a => ⟨rfl, rfl⟩) (shS_old hsh (by decide +kernel)) (by omega) dX4_init_42 ?_
  have hF10 : Fr (u_RX4_5 K c n t) (n + 5) := Fr.put hF9 (by omega) (by omega)
  change GN _ _ _ _ _ _ _ _ (u_RX4_5 K c n t)
  refine gn_R hC (by decide +kernel) (by decide +kernel) (b := fun _ => eLocR 0) (fun X hX => cLocR_n hX dX4_init_45 rfl) rfl (Nat.le_of_ble_eq_true rfl) ?_
  refine gn_E hC (by decide +kernel) (by decide +kernel) (b := fun _ => eI 64) (fun X hX => cBi hX dX4_init_46 (by decide +kernel)) rfl (Nat.le_of_ble_eq_true rfl) ?_
  refine gn_newarr hC (N := 64) (n := n + 5) (by decide +kernel) (by decide +kernel) (by decide +kernel) rfl (by omega) (by decide +kernel) (by decide +kernel) hF10 (wBel_ref (by omega) wBel_nil) (wBel_ref (by omega) wBel_nil) dX4_init_48 ?_
  have hF11 : Fr (u_RX4_5 K c n t) (n + 6) := Fr.up hF10
  refine gn_putR hC (by decide +kernel) (by decide +kernel) hini (ci := 4) (k := 7) rfl inw4 rfl (by decide +kernel) (by decide +kernel) rfl rfl wd_258 tyX4_ok nmX4 rfl (fun a => ⟨rfl, rfl⟩) (shS_old hsh (by decide +kernel)) (by omega) dX4_init_50 ?_
  have hF12 : Fr (u_RX4_6 K c n t) (n + 6) := Fr.put hF11 (by omega) (by omega)
  change GN _ _ _ _ _ _ _ _ (u_RX4_6 K c n t)
  exact hend 53 _ dX4_init_53
def u_RX3_1 (K : Nat) (c n : Nat) (t : wS) : wS := wUR (t) c 1 n
def u_RX3_2 (K : Nat) (c n : Nat) (t : wS) : wS := wUR (u_RX3_1 K c n t) c 2 (n + 1)
def u_RX3_3 (K : Nat) (c n : Nat) (t : wS) : wS := wUR (u_RX3_2 K c n t) c 3 (n + 2)
def u_RX3_4 (K : Nat) (c n : Nat) (t : wS) : wS := wUR (u_RX3_3 K c n t) c 4 (n + 3)
/-- WoundTape$Evening: 4 cells of 128 slots -/
def e_RX3 (K : Nat) (c n : Nat) (t : wS) : wS := u_RX3_4 K c n t
theorem fr_RX3 (K : Nat) {c n : Nat} {t : wS} (hF : Fr t n) (hc : c < n) : Fr (e_RX3 K c n t) (n + 4) := by
  have hF1 : Fr (t) (n + 1) := Fr.up hF
  have hF2 : Fr (u_RX3_1 K c n t) (n + 1) := Fr.put hF1 (by omega) (by omega)
  have hF3 : Fr (u_RX3_1 K c n t) (n + 2) := Fr.up hF2
  have hF4 : Fr (u_RX3_2 K c n t) (n + 2) := Fr.put hF3 (by omega) (by omega)
  have hF5 : Fr (u_RX3_2 K c n t) (n + 3) := Fr.up hF4
  have hF6 : Fr (u_RX3_3 K c n t) (n + 3) := Fr.put hF5 (by omega) (by omega)
  have hF7 : Fr (u_RX3_3 K c n t) (n + 4) := Fr.up hF6
  have hF8 : Fr (u_RX3_4 K c n t) (n + 4) := Fr.put hF7 (by omega) (by omega)
  exact hF8
set_option maxHeartbeats 8000000 in
set_option maxRecDepth 4000 in
theorem mX3_init (K : Nat) : MetN yX3_init cX3_init 1 1 [(1, 60), (1, 60), (1, 4), (1, 4)] 128 3 (e_RX3 K) := by
  refine mMetN (own := RX3) rfl rfl (by decide +kernel) (by decide) (by decide) fun X0 n c t hC hini hsh hcn hN hF hz hend => ?_
  simp only [List.length_cons, List.length_nil] at hN
  refine gn_R hC (by decide +kernel) (by decide +kernel) (b := fun _ => eLocR 0) (fun X hX => cLocR_n hX dX3_init_0 rfl) rfl (Nat.le_of_ble_eq_true rfl) ?_
  refine gn_obj hC (by decide +kernel) (by decide +kernel) wd_281 wd_142 wd_143 (Nat.le_of_ble_eq_true rfl) dX3_init_1 ?_
  refine gn_R hC (by decide +kernel) (by decide +kernel) (b := fun _ => eLocR 0) (fun X hX => cLocR_n hX dX3_init_4 rfl) rfl (Nat.le_of_ble_eq_true rfl) ?_
  refine gn_E hC (by decide +kernel) (by decide +kernel) (b := fun _ => eI 60) (fun X hX => cBi hX dX3_init_5 (by decide +kernel)) rfl (Nat.le_of_ble_eq_true rfl) ?_
  refine gn_newarr hC (N := 60) (n := n + 0) (by decide +kernel) (by decide +kernel) (by decide +kernel) rfl (by omega) (by decide +kernel) (by decide +kernel) hF (wBel_ref (by omega) wBel_nil) (wBel_ref (by omega) wBel_nil) dX3_init_7 ?_
  have hF1 : Fr (t) (n + 1) := Fr.up hF
  refine gn_putR hC (by decide +kernel) (by decide +kernel) hini (ci := 3) (k := 1) rfl inw3 rfl (by decide +kernel) (by decide +kernel) rfl rfl wd_286 tyX3_ok nmX3 rfl (fun a => ⟨rfl, rfl⟩) (shS_old hsh (by decide +kernel)) (by omega) dX3_init_9 ?_
  have hF2 : Fr (u_RX3_1 K c n t) (n + 1) := Fr.put hF1 (by omega) (by omega)
  change GN _ _ _ _ _ _ _ _ (u_RX3_1 K c n t)
  refine gn_R hC (by decide +kernel) (by decide +kernel) (b := fun _ => eLocR 0) (fun X hX => cLocR_n hX dX3_init_12 rfl) rfl (Nat.le_of_ble_eq_true rfl) ?_
  refine gn_E hC (by decide +kernel) (by decide +kernel) (b := fun _ => eI 60) (fun X hX => cBi hX dX3_init_13 (by decide +kernel)) rfl (Nat.le_of_ble_eq_true rfl) ?_
  refine gn_newarr hC (N := 60) (n := n + 1) (by decide +kernel) (by decide +kernel) (by decide +kernel) rfl (by omega) (by decide +kernel) (by decide +kernel) hF2 (wBel_ref (by omega) wBel_nil) (wBel_ref (by omega) wBel_nil) dX3_init_15 ?_
  have hF3 : Fr (u_RX3_1 K c n t) (n + 2) := Fr.up hF2
  refine gn_putR hC (by decide +kernel) (by decide +kernel) hini (ci := 3) (k := 2) rfl inw3 rfl (by decide +kernel) (by decide +kernel) rfl rfl wd_289 tyX3_ok nmX3 rfl (fun a => ⟨rfl, rfl⟩) (shS_old hsh (by decide +kernel)) (by omega) dX3_init_17 ?_
  have hF4 : Fr (u_RX3_2 K c n t) (n + 2) := Fr.put hF3 (by omega) (by omega)
  change GN _ _ _ _ _ _ _ _ (u_RX3_2 K c n t)
  refine gn_R hC (by decide +kernel) (by decide +kernel) (b := fun _ => eLocR 0) (fun X hX => cLocR_n hX dX3_init_20 rfl) rfl (Nat.le_of_ble_eq_true rfl) ?_
  refine gn_E hC (by decide +kernel) (by decide +kernel) (b := fun _ => eI 4) (fun X hX => cConst hX dX3_init_21 (by decide +kernel)) rfl (Nat.le_of_ble_eq_true rfl) ?_
  refine gn_newarr hC (N := 4) (n := n + 2) (by decide +kernel) (by decide +kernel) (by decide +kernel) rfl (by omega) (by decide +kernel) (by decide +kernel) hF4 (wBel_ref (by omega) wBel_nil) (wBel_ref (by omega) wBel_nil) dX3_init_22 ?_
  have hF5 : Fr (u_RX3_2 K c n t) (n + 3) := Fr.up hF4
  refine gn_putR hC (by decide +kernel) (by decide +kernel) hini (ci := 3) (k := 3) rfl inw3 rfl (by decide +kernel) (by decide +kernel) rfl rfl wd_292 tyX3_ok nmX3 rfl (fun a => ⟨rfl, rfl⟩) (shS_old hsh (by decide +kernel)) (by omega) dX3_init_24 ?_
  have hF6 : Fr (u_RX3_3 K c n t) (n + 3) := Fr.put hF5 (by omega) (by omega)
  change GN _ _ _ _ _ _ _ _ (u_RX3_3 K c n t)
  refine gn_R hC (by decide +kernel) (by decide +kernel) (b := fun _ => eLocR 0) (fun X hX => cLocR_n hX dX3_init_27 rfl) rfl (Nat.le_of_ble_eq_true rfl) ?_
  refine gn_E hC (by decide +kernel) (by decide +kernel) (b := fun _ => eI 4) (fun X hX => cConst hX dX3_init_28 (by decide +kernel)) rfl (Nat.le_of_ble_eq_true rfl) ?_
  refine gn_newarr hC (N := 4) (n := n + 3) (by decide +kernel) (by decide +kernel) (by decide +kernel) rfl (by omega) (by decide +kernel) (by decide +kernel) hF6 (wBel_ref (by omega) wBel_nil) (wBel_ref (by omega) wBel_nil) dX3_init_29 ?_
  have hF7 : Fr (u_RX3_3 K c n t) (n + 4) := Fr.up hF6
  refine gn_putR hC (by decide +kernel) (by decide +kernel) hini (ci := 3) (k := 4) rfl inw3 rfl (by decide +kernel) (by decide +kernel) rfl rfl wd_293 tyX3_ok nmX3 rfl (fun a => ⟨rfl, rfl⟩) (shS_old hsh (by decide +kernel)) (by omega) dX3_init_31 ?_
  have hF8 : Fr (u_RX3_4 K c n t) (n + 4) := Fr.put hF7 (by omega) (by omega)
  change GN _ _ _ _ _ _ _ _ (u_RX3_4 K c n t)
  exact hend 34 _ dX3_init_34
def u_RX0_1 (K : Nat) (c n : Nat) (t : wS) : wS := wUR (t) c 1 n
/-- WoundTape$Afters: 1 cells of 196 slots -/
def e_RX0 (K : Nat) (c n : Nat) (t : wS) : wS := u_RX0_1 K c n t
theorem fr_RX0 (K : Nat) {c n : Nat} {t : wS} (hF : Fr t n) (hc : c < n) : Fr (e_RX0 K c n t) (n + 1) := by
  have hF1 : Fr (t) (n + 1) := Fr.up hF
  have hF2 : Fr (u_RX0_1 K c n t) (n + 1) := Fr.put hF1 (by omega) (by omega)
  exact hF2
set_option maxHeartbeats 8000000 in
set_option maxRecDepth 4000 in
theorem mX0_init (K : Nat) : MetN yX0_init cX0_init 1 1 [(1, 196)] 196 0 (e_RX0 K) := by
  refine mMetN (own := RX0) rfl rfl (by decide +kernel) (by decide) (by decide) fun X0 n c t hC hini hsh hcn hN hF hz hend => ?_
  simp only [List.length_cons, List.length_nil] at hN
  refine gn_R hC (by decide +kernel) (by decide +kernel) (b := fun _ => eLocR 0) (fun X hX => cLocR_n hX dX0_init_0 rfl) rfl (Nat.le_of_ble_eq_true rfl) ?_
  refine gn_obj hC (by decide +kernel) (by decide +kernel) wd_310 wd_142 wd_143 (Nat.le_of_ble_eq_true rfl) dX0_init_1 ?_
  refine gn_R hC (by decide +kernel) (by decide +kernel) (b := fun _ => eLocR 0) (fun X hX => cLocR_n hX dX0_init_4 rfl) rfl (Nat.le_of_ble_eq_true rfl) ?_
  refine gn_E hC (by decide +kernel) (by decide +kernel) (b := fun _ => eI 196) (fun X hX => cSi hX dX0_init_5 (by decide +kernel)) rfl (Nat.le_of_ble_eq_true rfl) ?_
  refine gn_newarr hC (N := 196) (n := n + 0) (by decide +kernel) (by decide +kernel) (by decide +kernel) rfl (by omega) (by decide +kernel) (by decide +kernel) hF (wBel_ref (by omega) wBel_nil) (wBel_ref (by omega) wBel_nil) dX0_init_8 ?_
  have hF1 : Fr (t) (n + 1) := Fr.up hF
  refine gn_putR hC (by decide +kernel) (by decide +kernel) hini (ci := 0) (k := 1) rfl inw0 rfl (by decide +kernel) (by decide +kernel) rfl rfl wd_313 tyX0_ok nmX0 rfl (fun a => ⟨rfl, rfl⟩) (shS_old hsh (by decide +kernel)) (by omega) dX0_init_10 ?_
  have hF2 : Fr (u_RX0_1 K c n t) (n + 1) := Fr.put hF1 (by omega) (by omega)
  change GN _ _ _ _ _ _ _ _ (u_RX0_1 K c n t)
  exact hend 13 _ dX0_init_13
def u_RX1_1 (K : Nat) (c n : Nat) (t : wS) : wS := wUR (t) c 0 n
/-- WoundTape$Book: 1 cells of 600 slots -/
def e_RX1 (K : Nat) (c n : Nat) (t : wS) : wS := u_RX1_1 K c n t
theorem fr_RX1 (K : Nat) {c n : Nat} {t : wS} (hF : Fr t n) (hc : c < n) : Fr (e_RX1 K c n t) (n + 1) := by
  have hF1 : Fr (t) (n + 1) := Fr.up hF
  have hF2 : Fr (u_RX1_1 K c n t) (n + 1) := Fr.put hF1 (by omega) (by omega)
  exact hF2
set_option maxHeartbeats 8000000 in
set_option maxRecDepth 4000 in
theorem mX1_init (K : Nat) : MetN yX1_init cX1_init 1 1 [(1, 600)] 600 1 (e_RX1 K) := by
  refine mMetN (own := RX1) rfl rfl (by decide +kernel) (by decide) (by decide) fun X0 n c t hC hini hsh hcn hN hF hz hend => ?_
  simp only [List.length_cons, List.length_nil] at hN
  refine gn_R hC (by decide +kernel) (by decide +kernel) (b := fun _ => eLocR 0) (fun X hX => cLocR_n hX dX1_init_0 rfl) rfl (Nat.le_of_ble_eq_true rfl) ?_
  refine gn_obj hC (by decide +kernel) (by decide +kernel) wd_324 wd_142 wd_143 (Nat.le_of_ble_eq_true rfl) dX1_init_1 ?_
  refine gn_R hC (by decide +kernel) (by decide +kernel) (b := fun _ => eLocR 0) (fun X hX => cLocR_n hX dX1_init_4 rfl) rfl (Nat.le_of_ble_eq_true rfl) ?_
  refine gn_E hC (by decide +kernel) (by decide +kernel) (b := fun _ => eI 600) (fun X hX => cSi hX dX1_init_5 (by decide +kernel)) rfl (Nat.le_of_ble_eq_true rfl) ?_
  refine gn_newarr hC (N := 600) (n := n + 0) (by decide +kernel) (by decide +kernel) (by decide +kernel) rfl (by omega) (by decide +kernel) (by decide +kernel) hF (wBel_ref (by omega) wBel_nil) (wBel_ref (by omega) wBel_nil) dX1_init_8 ?_
  have hF1 : Fr (t) (n + 1) := Fr.up hF
  refine gn_putR hC (by decide +kernel) (by decide +kernel) hini (ci := 1) (k := 0) rfl inw1 rfl (by decide +kernel) (by decide +kernel) rfl rfl wd_325 tyX1_ok nmX1 rfl (fun a => ⟨rfl, rfl⟩) (shS_old hsh (by decide +kernel)) (by omega) dX1_init_10 ?_
  have hF2 : Fr (u_RX1_1 K c n t) (n + 1) := Fr.put hF1 (by omega) (by omega)
  change GN _ _ _ _ _ _ _ _ (u_RX1_1 K c n t)
  exact hend 13 _ dX1_init_13
def u_RX8_1 (K : Nat) (c n : Nat) (t : wS) : wS := wUR (t) c 7 n
def u_RX8_2 (K : Nat) (c n : Nat) (t : wS) : wS := e_RX8_last K c n (u_RX8_1 K c n t)
/-- WoundTape$Stand: 1 cells of 201 slots -/
def e_RX8 (K : Nat) (c n : Nat) (t : wS) : wS := u_RX8_2 K c n t
theorem fr_RX8 (K : Nat) {c n : Nat} {t : wS} (hF : Fr t n) (hc : c < n) : Fr (e_RX8 K c n t) (n + 1) := by
  have hF1 : Fr (t) (n + 1) := Fr.up hF
  have hF2 : Fr (u_RX8_1 K c n t) (n + 1) := Fr.put hF1 (by omega) (by omega)
  have hF3 : Fr (u_RX8_2 K c n t) (n + 1) := fr_RX8_last K hF2 (by omega)
  exact hF3
theorem e_RX8_ref {K a m : Nat} {t : wS} {c k : Nat} (h : c ≠ a) : (e_RX8 K a m t).2 c k = t.2 c k := by
  show (wUR t a 7 m).2 c k = _
  rw [wUR_ne h]
set_option maxHeartbeats 8000000 in
set_option maxRecDepth 4000 in
theorem mX8_init (K : Nat) : MetN yX8_init cX8_init 1 1 [(1, 201)] 201 8 (e_RX8 K) := by
  refine mMetN (own := RX8) rfl rfl (by decide +kernel) (by decide) (by decide) fun X0 n c t hC hini hsh hcn hN hF hz hend => ?_
  simp only [List.length_cons, List.length_nil] at hN
  refine gn_R hC (by decide +kernel) (by decide +kernel) (b := fun _ => eLocR 0) (fun X hX => cLocR_n hX dX8_init_0 rfl) rfl (Nat.le_of_ble_eq_true rfl) ?_
  refine gn_obj hC (by decide +kernel) (by decide +kernel) wd_334 wd_142 wd_143 (Nat.le_of_ble_eq_true rfl) dX8_init_1 ?_
  refine gn_R hC (by decide +kernel) (by decide +kernel) (b := fun _ => eLocR 0) (fun X hX => cLocR_n hX dX8_init_4 rfl) rfl (Nat.le_of_ble_eq_true rfl) ?_
  refine gn_E hC (by decide +kernel) (by decide +kernel) (b := fun _ => eI 201) (fun X hX => cSi hX dX8_init_5 (by decide +kernel)) rfl (Nat.le_of_ble_eq_true rfl) ?_
  refine gn_newarr hC (N := 201) (n := n + 0) (by decide +kernel) (by decide +kernel) (by decide +kernel) rfl (by omega) (by decide +kernel) (by decide +kernel) hF (wBel_ref (by omega) wBel_nil) (wBel_ref (by omega) wBel_nil) dX8_init_8 ?_
  have hF1 : Fr (t) (n + 1) := Fr.up hF
  refine gn_putR hC (by decide +kernel) (by decide +kernel) hini (ci := 8) (k := 7) rfl inw8 rfl (by decide +kernel) (by decide +kernel) rfl rfl wd_361 tyX8_ok nmX8 rfl (fun a => ⟨rfl, rfl⟩) (shS_old hsh (by decide +kernel)) (by omega) dX8_init_10 ?_
  have hF2 : Fr (u_RX8_1 K c n t) (n + 1) := Fr.put hF1 (by omega) (by omega)
  change GN _ _ _ _ _ _ _ _ (u_RX8_1 K c n t)
  have hw7_1 : (u_RX8_1 K c n t).2 c 7 = n := by show (wUR _ _ _ _).2 _ _ = _; rw [wUR_at, if_pos rfl, if_pos rfl]
  refine gn_S hC (by decide +kernel) (by decide +kernel) (b := fun sh => sAst sh (eFldR sh 8 7 (eLocR 0)) (eI 0) (eI 1)) (pB := 0) (pC := 0) (fun X hX => (csAst hX (cFldR hX (cLocR_n hX dX8_init_13 rfl) rfl inw8 rfl (by decide +kernel) (by decide +kernel) rfl wd_361 dX8_init_14) (cConst hX dX8_init_17 (by decide +kernel)) (cConst hX dX8_init_18 (by decide +kernel)) dX8_init_19)) (t1 := e_RX8_last K c n (u_RX8_1 K c n t)) (ls1 := [.ref c]) (by exact rest_RX8 K (shS_old hsh (by decide +kernel)) hw7_1 (shS_new hC.2.2.2.1 (j := 0)) (by omega)) ?_
  have hF3 : Fr (u_RX8_2 K c n t) (n + 1) := fr_RX8_last K hF2 (by omega)
  change GN _ _ _ _ _ _ _ _ (u_RX8_2 K c n t)
  exact hend 20 _ dX8_init_20
def u_RX2_1 (K : Nat) (c n : Nat) (t : wS) : wS := e_RX7 K n (n + 1) (t)
def u_RX2_2 (K : Nat) (c n : Nat) (t : wS) : wS := wUR (u_RX2_1 K c n t) c 0 n
def u_RX2_3 (K : Nat) (c n : Nat) (t : wS) : wS := e_RX4 K (n + 8) (n + 9) (u_RX2_2 K c n t)
def u_RX2_4 (K : Nat) (c n : Nat) (t : wS) : wS := wUR (u_RX2_3 K c n t) c 1 (n + 8)
def u_RX2_5 (K : Nat) (c n : Nat) (t : wS) : wS := e_RX3 K (n + 15) (n + 16) (u_RX2_4 K c n t)
def u_RX2_6 (K : Nat) (c n : Nat) (t : wS) : wS := wUR (u_RX2_5 K c n t) c 2 (n + 15)
def u_RX2_7 (K : Nat) (c n : Nat) (t : wS) : wS := e_RX0 K (n + 20) (n + 21) (u_RX2_6 K c n t)
def u_RX2_8 (K : Nat) (c n : Nat) (t : wS) : wS := wUR (u_RX2_7 K c n t) c 3 (n + 20)
def u_RX2_9 (K : Nat) (c n : Nat) (t : wS) : wS := e_RX1 K (n + 22) (n + 23) (u_RX2_8 K c n t)
def u_RX2_10 (K : Nat) (c n : Nat) (t : wS) : wS := wUR (u_RX2_9 K c n t) c 4 (n + 22)
def u_RX2_11 (K : Nat) (c n : Nat) (t : wS) : wS := e_RX8 K (n + 24) (n + 25) (u_RX2_10 K c n t)
def u_RX2_12 (K : Nat) (c n : Nat) (t : wS) : wS := wUR (u_RX2_11 K c n t) c 5 (n + 24)
def u_RX2_13 (K : Nat) (c n : Nat) (t : wS) : wS := wUI (u_RX2_12 K c n t) c 6 1
def u_RX2_14 (K : Nat) (c n : Nat) (t : wS) : wS := wUI (u_RX2_13 K c n t) c 7 10
def u_RX2_15 (K : Nat) (c n : Nat) (t : wS) : wS := wUR (u_RX2_14 K c n t) c 9 (n + 26)
def u_RX2_16 (K : Nat) (c n : Nat) (t : wS) : wS := wUR (u_RX2_15 K c n t) c 10 (n + 27)
/-- WoundTape$Deck: 28 cells of 2157 slots -/
def e_RX2 (K : Nat) (c n : Nat) (t : wS) : wS := u_RX2_16 K c n t
theorem fr_RX2 (K : Nat) {c n : Nat} {t : wS} (hF : Fr t n) (hc : c < n) : Fr (e_RX2 K c n t) (n + 28) := by
  have hF1 : Fr (t) (n + 1) := Fr.up hF
  have hF2 : Fr (u_RX2_1 K c n t) (n + 8) := fr_RX7 K hF1 (by omega)
  have hF3 : Fr (u_RX2_2 K c n t) (n + 8) := Fr.put hF2 (by omega) (by omega)
  have hF4 : Fr (u_RX2_2 K c n t) (n + 9) := Fr.up hF3
  have hF5 : Fr (u_RX2_3 K c n t) (n + 15) := fr_RX4 K hF4 (by omega)
  have hF6 : Fr (u_RX2_4 K c n t) (n + 15) := Fr.put hF5 (by omega) (by omega)
  have hF7 : Fr (u_RX2_4 K c n t) (n + 16) := Fr.up hF6
  have hF8 : Fr (u_RX2_5 K c n t) (n + 20) := fr_RX3 K hF7 (by omega)
  have hF9 : Fr (u_RX2_6 K c n t) (n + 20) := Fr.put hF8 (by omega) (by omega)
  have hF10 : Fr (u_RX2_6 K c n t) (n + 21) := Fr.up hF9
  have hF11 : Fr (u_RX2_7 K c n t) (n + 22) := fr_RX0 K hF10 (by omega)
  have hF12 : Fr (u_RX2_8 K c n t) (n + 22) := Fr.put hF11 (by omega) (by omega)
  have hF13 : Fr (u_RX2_8 K c n t) (n + 23) := Fr.up hF12
  have hF14 : Fr (u_RX2_9 K c n t) (n + 24) := fr_RX1 K hF13 (by omega)
  have hF15 : Fr (u_RX2_10 K c n t) (n + 24) := Fr.put hF14 (by omega) (by omega)
  have hF16 : Fr (u_RX2_10 K c n t) (n + 25) := Fr.up hF15
  have hF17 : Fr (u_RX2_11 K c n t) (n + 26) := fr_RX8 K hF16 (by omega)
  have hF18 : Fr (u_RX2_12 K c n t) (n + 26) := Fr.put hF17 (by omega) (by omega)
  have hF19 : Fr (u_RX2_13 K c n t) (n + 26) := Fr.int hF18 rfl (fun q hq => if_neg (by omega))
  have hF20 : Fr (u_RX2_14 K c n t) (n + 26) := Fr.int hF19 rfl (fun q hq => if_neg (by omega))
  have hF21 : Fr (u_RX2_14 K c n t) (n + 27) := Fr.up hF20
  have hF22 : Fr (u_RX2_15 K c n t) (n + 27) := Fr.put hF21 (by omega) (by omega)
  have hF23 : Fr (u_RX2_15 K c n t) (n + 28) := Fr.up hF22
  have hF24 : Fr (u_RX2_16 K c n t) (n + 28) := Fr.put hF23 (by omega) (by omega)
  exact hF24
set_option maxHeartbeats 8000000 in
set_option maxRecDepth 4000 in
theorem mX2_init (K : Nat) (hK : 16777216 ≤ K) : MetN yX2_init cX2_init 1 4 [(0, 7), (1, 14), (1, 14), (1, 14), (1, 2), (2, 2), (1, 201), (1, 201), (0, 4), (1, 16), (1, 16), (1, 16), (1, 16), (1, 400), (1, 64), (0, 3), (1, 60), (1, 60), (1, 4), (1, 4), (0, 0), (1, 196), (0, 1), (1, 600), (0, 8), (1, 201), (1, 12), (1, 12)] 2157 2 (e_RX2 K) := by
  refine mMetN (own := RX2) rfl rfl (by decide +kernel) (by decide) (by decide) fun X0 n c t hC hini hsh hcn hN hF hz hend => ?_
  simp only [List.length_cons, List.length_nil] at hN
  refine gn_R hC (by decide +kernel) (by decide +kernel) (b := fun _ => eLocR 0) (fun X hX => cLocR_n hX dX2_init_0 rfl) rfl (Nat.le_of_ble_eq_true rfl) ?_
  refine gn_obj hC (by decide +kernel) (by decide +kernel) wd_187 wd_142 wd_143 (Nat.le_of_ble_eq_true rfl) dX2_init_1 ?_
  refine gn_R hC (by decide +kernel) (by decide +kernel) (b := fun _ => eLocR 0) (fun X hX => cLocR_n hX dX2_init_4 rfl) rfl (Nat.le_of_ble_eq_true rfl) ?_
  refine gn_newobj hC (n := n + 0) (ci := 7) rfl inw7 tyX7_ok rfl (by decide +kernel) wd_188 wd_189 wd_117 rfl (by omega) (by decide +kernel) (by decide +kernel) hF (wBel_ref (by omega) wBel_nil) (wBel_ref (by omega) wBel_nil) dX2_init_5 ?_
  have hF1 : Fr (t) (n + 1) := Fr.up hF
  refine gn_dup hC (by decide +kernel) (by decide +kernel) rfl dX2_init_8 ?_
  refine gn_call hC (S' := [(1, 14), (1, 14), (1, 14), (1, 2), (2, 2), (1, 201), (1, 201)]) (c2 := 8) (sl2 := 456) (mX7_init K hK) rfl wd_192 wd_191 wd_117 hy_yX7_init (by decide +kernel) (by decide +kernel) (Or.inl wd_190) (shS_new hC.2.2.2.1 (j := 0)) (n := n + 1) rfl (by simp only [List.length_cons, List.length_nil]; omega) rfl rfl (by decide +kernel) (by decide +kernel) (fun k => (hF.2 _ k (by omega)).1) hF1 (wBel_ref (by omega) wBel_nil) (wBel_ref (by omega) (wBel_ref (by omega) wBel_nil)) (Nat.le_of_ble_eq_true rfl) dX2_init_9 ?_
  have hF2 : Fr (u_RX2_1 K c n t) (n + 8) := fr_RX7 K hF1 (by omega)
  change GN _ _ _ _ _ _ _ _ (u_RX2_1 K c n t)
  refine gn_putR hC (by decide +kernel) (by decide +kernel) hini (ci := 2) (k := 0) rfl inw2 rfl (by decide +kernel) (by decide +kernel) rfl rfl wd_383 tyX2_ok nmX2 rfl (fun a => ⟨rfl, rfl⟩) (shS_old hsh (by decide +kernel)) (by omega) dX2_init_12 ?_
  have hF3 : Fr (u_RX2_2 K c n t) (n + 8) := Fr.put hF2 (by omega) (by omega)
  change GN _ _ _ _ _ _ _ _ (u_RX2_2 K c n t)
  refine gn_R hC (by decide +kernel) (by decide +kernel) (b := fun _ => eLocR 0) (fun X hX => cLocR_n hX dX2_init_15 rfl) rfl (Nat.le_of_ble_eq_true rfl) ?_
  refine gn_newobj hC (n := n + 8) (ci := 4) rfl inw4 tyX4_ok rfl (by decide +kernel) wd_244 wd_245 wd_118 rfl (by omega) (by decide +kernel) (by decide +kernel) hF3 (wBel_ref (by omega) wBel_nil) (wBel_ref (by omega) wBel_nil) dX2_init_16 ?_
  have hF4 : Fr (u_RX2_2 K c n t) (n + 9) := Fr.up hF3
  refine gn_dup hC (by decide +kernel) (by decide +kernel) rfl dX2_init_19 ?_
  refine gn_call hC (S' := [(1, 16), (1, 16), (1, 16), (1, 16), (1, 400), (1, 64)]) (c2 := 15) (sl2 := 992) (mX4_init K) rfl wd_248 wd_247 wd_118 hy_yX4_init (by decide +kernel) (by decide +kernel) (Or.inr ⟨_, List.mem_of_getElem? (i := 2) rfl⟩) (shS_new hC.2.2.2.1 (j := 8)) (n := n + 9) rfl (by simp only [List.length_cons, List.length_nil]; omega) rfl rfl (by decide +kernel) (by decide +kernel) (fun k => (hF3.2 _ k (by omega)).1) hF4 (wBel_ref (by omega) wBel_nil) (wBel_ref (by omega) (wBel_ref (by omega) wBel_nil)) (Nat.le_of_ble_eq_true rfl) dX2_init_20 ?_
  have hF5 : Fr (u_RX2_3 K c n t) (n + 15) := fr_RX4 K hF4 (by omega)
  change GN _ _ _ _ _ _ _ _ (u_RX2_3 K c n t)
  refine gn_putR hC (by decide +kernel) (by decide +kernel) hini (ci := 2) (k := 1) rfl inw2 rfl (by decide +kernel) (by decide +kernel) rfl rfl wd_388 tyX2_ok nmX2 rfl (fun a => ⟨rfl, rfl⟩) (shS_old hsh (by decide +kernel)) (by omega) dX2_init_23 ?_
  have hF6 : Fr (u_RX2_4 K c n t) (n + 15) := Fr.put hF5 (by omega) (by omega)
  change GN _ _ _ _ _ _ _ _ (u_RX2_4 K c n t)
  refine gn_R hC (by decide +kernel) (by decide +kernel) (b := fun _ => eLocR 0) (fun X hX => cLocR_n hX dX2_init_26 rfl) rfl (Nat.le_of_ble_eq_true rfl) ?_
  refine gn_newobj hC (n := n + 15) (ci := 3) rfl inw3 tyX3_ok rfl (by decide +kernel) wd_276 wd_277 wd_119 rfl (by omega) (by decide +kernel) (by decide +kernel) hF6 (wBel_ref (by omega) wBel_nil) (wBel_ref (by omega) wBel_nil) dX2_init_27 ?_
  have hF7 : Fr (u_RX2_4 K c n t) (n + 16) := Fr.up hF6
  refine gn_dup hC (by decide +kernel) (by decide +kernel) rfl dX2_init_30 ?_
  refine gn_call hC (S' := [(1, 60), (1, 60), (1, 4), (1, 4)]) (c2 := 20) (sl2 := 1125) (mX3_init K) rfl wd_280 wd_279 wd_119 hy_yX3_init (by decide +kernel) (by decide +kernel) (Or.inr ⟨_, List.mem_of_getElem? (i := 3) rfl⟩) (shS_new hC.2.2.2.1 (j := 15)) (n := n + 16) rfl (by simp only [List.length_cons, List.length_nil]; omega) rfl rfl (by decide +kernel) (by decide +kernel) (fun k => (hF6.2 _ k (by omega)).1) hF7 (wBel_ref (by omega) wBel_nil) (wBel_ref (by omega) (wBel_ref (by omega) wBel_nil)) (Nat.le_of_ble_eq_true rfl) dX2_init_31 ?_
  have hF8 : Fr (u_RX2_5 K c n t) (n + 20) := fr_RX3 K hF7 (by omega)
  change GN _ _ _ _ _ _ _ _ (u_RX2_5 K c n t)
  refine gn_putR hC (by decide +kernel) (by decide +kernel) hini (ci := 2) (k := 2) rfl inw2 rfl (by decide +kernel) (by decide +kernel) rfl rfl wd_391 tyX2_ok nmX2 rfl (fun a => ⟨rfl, rfl⟩) (shS_old hsh (by decide +kernel)) (by omega) dX2_init_34 ?_
  have hF9 : Fr (u_RX2_6 K c n t) (n + 20) := Fr.put hF8 (by omega) (by omega)
  change GN _ _ _ _ _ _ _ _ (u_RX2_6 K c n t)
  refine gn_R hC (by decide +kernel) (by decide +kernel) (b := fun _ => eLocR 0) (fun X hX => cLocR_n hX dX2_init_37 rfl) rfl (Nat.le_of_ble_eq_true rfl) ?_
  refine gn_newobj hC (n := n + 20) (ci := 0) rfl inw0 tyX0_ok rfl (by decide +kernel) wd_305 wd_306 wd_120 rfl (by omega) (by decide +kernel) (by decide +kernel) hF9 (wBel_ref (by omega) wBel_nil) (wBel_ref (by omega) wBel_nil) dX2_init_38 ?_
  have hF10 : Fr (u_RX2_6 K c n t) (n + 21) := Fr.up hF9
  refine gn_dup hC (by decide +kernel) (by decide +kernel) rfl dX2_init_41 ?_
  refine gn_call hC (S' := [(1, 196)]) (c2 := 22) (sl2 := 1323) (mX0_init K) rfl wd_309 wd_308 wd_120 hy_yX0_init (by decide +kernel) (by decide +kernel) (Or.inr ⟨_, List.mem_of_getElem? (i := 4) rfl⟩) (shS_new hC.2.2.2.1 (j := 20)) (n := n + 21) rfl (by simp only [List.length_cons, List.length_nil]; omega) rfl rfl (by decide +kernel) (by decide +kernel) (fun k => (hF9.2 _ k (by omega)).1) hF10 (wBel_ref (by omega) wBel_nil) (wBel_ref (by omega) (wBel_ref (by omega) wBel_nil)) (Nat.le_of_ble_eq_true rfl) dX2_init_42 ?_
  have hF11 : Fr (u_RX2_7 K c n t) (n + 22) := fr_RX0 K hF10 (by omega)
  change GN _ _ _ _ _ _ _ _ (u_RX2_7 K c n t)
  refine gn_putR hC (by decide +kernel) (by decide +kernel) hini (ci := 2) (k := 3) rfl inw2 rfl (by decide +kernel) (by decide +kernel) rfl rfl wd_394 tyX2_ok nmX2 rfl (fun a => ⟨rfl, rfl⟩) (shS_old hsh (by decide +kernel)) (by omega) dX2_init_45 ?_
  have hF12 : Fr (u_RX2_8 K c n t) (n + 22) := Fr.put hF11 (by omega) (by omega)
  change GN _ _ _ _ _ _ _ _ (u_RX2_8 K c n t)
  refine gn_R hC (by decide +kernel) (by decide +kernel) (b := fun _ => eLocR 0) (fun X hX => cLocR_n hX dX2_init_48 rfl) rfl (Nat.le_of_ble_eq_true rfl) ?_
  refine gn_newobj hC (n := n + 22) (ci := 1) rfl inw1 tyX1_ok rfl (by decide +kernel) wd_319 wd_320 wd_121 rfl (by omega) (by decide +kernel) (by decide +kernel) hF12 (wBel_ref (by omega) wBel_nil) (wBel_ref (by omega) wBel_nil) dX2_init_49 ?_
  have hF13 : Fr (u_RX2_8 K c n t) (n + 23) := Fr.up hF12
  refine gn_dup hC (by decide +kernel) (by decide +kernel) rfl dX2_init_52 ?_
  refine gn_call hC (S' := [(1, 600)]) (c2 := 24) (sl2 := 1924) (mX1_init K) rfl wd_323 wd_322 wd_121 hy_yX1_init (by decide +kernel) (by decide +kernel) (Or.inr ⟨_, List.mem_of_getElem? (i := 5) rfl⟩) (shS_new hC.2.2.2.1 (j := 22)) (n := n + 23) rfl (by simp only [List.length_cons, List.length_nil]; omega) rfl rfl (by decide +kernel) (by decide +kernel) (fun k => (hF12.2 _ k (by omega)).1) hF13 (wBel_ref (by omega) wBel_nil) (wBel_ref (by omega) (wBel_ref (by omega) wBel_nil)) (Nat.le_of_ble_eq_true rfl) dX2_init_53 ?_
  have hF14 : Fr (u_RX2_9 K c n t) (n + 24) := fr_RX1 K hF13 (by omega)
  change GN _ _ _ _ _ _ _ _ (u_RX2_9 K c n t)
  refine gn_putR hC (by decide +kernel) (by decide +kernel) hini (ci := 2) (k := 4) rfl inw2 rfl (by decide +kernel) (by decide +kernel) rfl rfl wd_397 tyX2_ok nmX2 rfl (fun a => ⟨rfl, rfl⟩) (shS_old hsh (by decide +kernel)) (by omega) dX2_init_56 ?_
  have hF15 : Fr (u_RX2_10 K c n t) (n + 24) := Fr.put hF14 (by omega) (by omega)
  change GN _ _ _ _ _ _ _ _ (u_RX2_10 K c n t)
  refine gn_R hC (by decide +kernel) (by decide +kernel) (b := fun _ => eLocR 0) (fun X hX => cLocR_n hX dX2_init_59 rfl) rfl (Nat.le_of_ble_eq_true rfl) ?_
  refine gn_newobj hC (n := n + 24) (ci := 8) rfl inw8 tyX8_ok rfl (by decide +kernel) wd_329 wd_330 wd_122 rfl (by omega) (by decide +kernel) (by decide +kernel) hF15 (wBel_ref (by omega) wBel_nil) (wBel_ref (by omega) wBel_nil) dX2_init_60 ?_
  have hF16 : Fr (u_RX2_10 K c n t) (n + 25) := Fr.up hF15
  refine gn_dup hC (by decide +kernel) (by decide +kernel) rfl dX2_init_63 ?_
  refine gn_call hC (S' := [(1, 201)]) (c2 := 26) (sl2 := 2133) (mX8_init K) rfl wd_333 wd_332 wd_122 hy_yX8_init (by decide +kernel) (by decide +kernel) (Or.inl wd_331) (shS_new hC.2.2.2.1 (j := 24)) (n := n + 25) rfl (by simp only [List.length_cons, List.length_nil]; omega) rfl rfl (by decide +kernel) (by decide +kernel) (fun k => (hF15.2 _ k (by omega)).1) hF16 (wBel_ref (by omega) wBel_nil) (wBel_ref (by omega) (wBel_ref (by omega) wBel_nil)) (Nat.le_of_ble_eq_true rfl) dX2_init_64 ?_
  have hF17 : Fr (u_RX2_11 K c n t) (n + 26) := fr_RX8 K hF16 (by omega)
  change GN _ _ _ _ _ _ _ _ (u_RX2_11 K c n t)
  refine gn_putR hC (by decide +kernel) (by decide +kernel) hini (ci := 2) (k := 5) rfl inw2 rfl (by decide +kernel) (by decide +kernel) rfl rfl wd_399 tyX2_ok nmX2 rfl (fun a => ⟨rfl, rfl⟩) (shS_old hsh (by decide +kernel)) (by omega) dX2_init_67 ?_
  have hF18 : Fr (u_RX2_12 K c n t) (n + 26) := Fr.put hF17 (by omega) (by omega)
  change GN _ _ _ _ _ _ _ _ (u_RX2_12 K c n t)
  refine gn_S hC (by decide +kernel) (by decide +kernel) (b := fun sh => sPut sh 2 6 (eLocR 0) (eI 1)) (pB := 0) (pC := 0) (fun X hX => (csPut hX (cLocR_n hX dX2_init_70 rfl) (cConst hX dX2_init_71 (by decide +kernel)) rfl inw2 rfl (by decide +kernel) (by decide +kernel) rfl wd_404 tyX2_ok nmX2 rfl dX2_init_72)) (t1 := wUI (u_RX2_12 K c n t) c 6 1) (ls1 := [.ref c]) ?_ ?_
  · exact sPut_this (shS_old hsh (by decide +kernel))
  have hF19 : Fr (u_RX2_13 K c n t) (n + 26) := Fr.int hF18 rfl (fun q hq => if_neg (by omega))
  change GN _ _ _ _ _ _ _ _ (u_RX2_13 K c n t)
  refine gn_S hC (by decide +kernel) (by decide +kernel) (b := fun sh => sPut sh 2 7 (eLocR 0) (eI 10)) (pB := 0) (pC := 0) (fun X hX => (csPut hX (cLocR_n hX dX2_init_75 rfl) (cBi hX dX2_init_76 (by decide +kernel)) rfl inw2 rfl (by decide +kernel) (by decide +kernel) rfl wd_408 tyX2_ok nmX2 rfl dX2_init_78)) (t1 := wUI (u_RX2_13 K c n t) c 7 10) (ls1 := [.ref c]) ?_ ?_
  · exact sPut_this (shS_old hsh (by decide +kernel))
  have hF20 : Fr (u_RX2_14 K c n t) (n + 26) := Fr.int hF19 rfl (fun q hq => if_neg (by omega))
  change GN _ _ _ _ _ _ _ _ (u_RX2_14 K c n t)
  refine gn_R hC (by decide +kernel) (by decide +kernel) (b := fun _ => eLocR 0) (fun X hX => cLocR_n hX dX2_init_81 rfl) rfl (Nat.le_of_ble_eq_true rfl) ?_
  refine gn_E hC (by decide +kernel) (by decide +kernel) (b := fun _ => eI 12) (fun X hX => cBi hX dX2_init_82 (by decide +kernel)) rfl (Nat.le_of_ble_eq_true rfl) ?_
  refine gn_newarr hC (N := 12) (n := n + 26) (by decide +kernel) (by decide +kernel) (by decide +kernel) rfl (by omega) (by decide +kernel) (by decide +kernel) hF20 (wBel_ref (by omega) wBel_nil) (wBel_ref (by omega) wBel_nil) dX2_init_84 ?_
  have hF21 : Fr (u_RX2_14 K c n t) (n + 27) := Fr.up hF20
  refine gn_putR hC (by decide +kernel) (by decide +kernel) hini (ci := 2) (k := 9) rfl inw2 rfl (by decide +kernel) (by decide +kernel) rfl rfl wd_413 tyX2_ok nmX2 rfl (fun a => ⟨rfl, rfl⟩) (shS_old hsh (by decide +kernel)) (by omega) dX2_init_86 ?_
  have hF22 : Fr (u_RX2_15 K c n t) (n + 27) := Fr.put hF21 (by omega) (by omega)
  change GN _ _ _ _ _ _ _ _ (u_RX2_15 K c n t)
  refine gn_R hC (by decide +kernel) (by decide +kernel) (b := fun _ => eLocR 0) (fun X hX => cLocR_n hX dX2_init_89 rfl) rfl (Nat.le_of_ble_eq_true rfl) ?_
  refine gn_E hC (by decide +kernel) (by decide +kernel) (b := fun _ => eI 12) (fun X hX => cBi hX dX2_init_90 (by decide +kernel)) rfl (Nat.le_of_ble_eq_true rfl) ?_
  refine gn_newarr hC (N := 12) (n := n + 27) (by decide +kernel) (by decide +kernel) (by decide +kernel) rfl (by omega) (by decide +kernel) (by decide +kernel) hF22 (wBel_ref (by omega) wBel_nil) (wBel_ref (by omega) wBel_nil) dX2_init_92 ?_
  have hF23 : Fr (u_RX2_15 K c n t) (n + 28) := Fr.up hF22
  refine gn_putR hC (by decide +kernel) (by decide +kernel) hini (ci := 2) (k := 10) rfl inw2 rfl (by decide +kernel) (by decide +kernel) rfl rfl wd_414 tyX2_ok nmX2 rfl (fun a => ⟨rfl, rfl⟩) (shS_old hsh (by decide +kernel)) (by omega) dX2_init_94 ?_
  have hF24 : Fr (u_RX2_16 K c n t) (n + 28) := Fr.put hF23 (by omega) (by omega)
  change GN _ _ _ _ _ _ _ _ (u_RX2_16 K c n t)
  exact hend 97 _ dX2_init_97
def u_RX6_1 (K : Nat) (c n : Nat) (t : wS) : wS := wUR (t) c 0 n
def u_RX6_2 (K : Nat) (c n : Nat) (t : wS) : wS := wRow (u_RX6_1 K c n t) (n + 1) 3
def u_RX6_3 (K : Nat) (c n : Nat) (t : wS) : wS := wUR (u_RX6_2 K c n t) c 1 (n + 1)
def u_RX6_4 (K : Nat) (c n : Nat) (t : wS) : wS := wRow (u_RX6_3 K c n t) (n + 5) 3
def u_RX6_5 (K : Nat) (c n : Nat) (t : wS) : wS := wUR (u_RX6_4 K c n t) c 2 (n + 5)
def u_RX6_6 (K : Nat) (c n : Nat) (t : wS) : wS := wUR (u_RX6_5 K c n t) c 3 (n + 9)
/-- WoundTape$Runner: 10 cells of 1420 slots -/
def e_RX6 (K : Nat) (c n : Nat) (t : wS) : wS := u_RX6_6 K c n t
theorem fr_RX6 (K : Nat) {c n : Nat} {t : wS} (hF : Fr t n) (hc : c < n) : Fr (e_RX6 K c n t) (n + 10) := by
  have hF1 : Fr (t) (n + 1) := Fr.up hF
  have hF2 : Fr (u_RX6_1 K c n t) (n + 1) := Fr.put hF1 (by omega) (by omega)
  have hF3 : Fr (u_RX6_2 K c n t) (n + 5) := Fr.row hF2
  have hF4 : Fr (u_RX6_3 K c n t) (n + 5) := Fr.put hF3 (by omega) (by omega)
  have hF5 : Fr (u_RX6_4 K c n t) (n + 9) := Fr.row hF4
  have hF6 : Fr (u_RX6_5 K c n t) (n + 9) := Fr.put hF5 (by omega) (by omega)
  have hF7 : Fr (u_RX6_5 K c n t) (n + 10) := Fr.up hF6
  have hF8 : Fr (u_RX6_6 K c n t) (n + 10) := Fr.put hF7 (by omega) (by omega)
  exact hF8
set_option maxHeartbeats 8000000 in
set_option maxRecDepth 4000 in
theorem mX6_init (K : Nat) : MetN yX6_init cX6_init 1 1 [(1, 7), (2, 3), (1, 201), (1, 201), (1, 201), (2, 3), (1, 201), (1, 201), (1, 201), (1, 201)] 1420 6 (e_RX6 K) := by
  refine mMetN (own := RX6) rfl rfl (by decide +kernel) (by decide) (by decide) fun X0 n c t hC hini hsh hcn hN hF hz hend => ?_
  simp only [List.length_cons, List.length_nil] at hN
  refine gn_R hC (by decide +kernel) (by decide +kernel) (b := fun _ => eLocR 0) (fun X hX => cLocR_n hX dX6_init_0 rfl) rfl (Nat.le_of_ble_eq_true rfl) ?_
  refine gn_obj hC (by decide +kernel) (by decide +kernel) wd_451 wd_142 wd_143 (Nat.le_of_ble_eq_true rfl) dX6_init_1 ?_
  refine gn_R hC (by decide +kernel) (by decide +kernel) (b := fun _ => eLocR 0) (fun X hX => cLocR_n hX dX6_init_4 rfl) rfl (Nat.le_of_ble_eq_true rfl) ?_
  refine gn_E hC (by decide +kernel) (by decide +kernel) (b := fun _ => eI 7) (fun X hX => cBi hX dX6_init_5 (by decide +kernel)) rfl (Nat.le_of_ble_eq_true rfl) ?_
  refine gn_newarr hC (N := 7) (n := n + 0) (by decide +kernel) (by decide +kernel) (by decide +kernel) rfl (by omega) (by decide +kernel) (by decide +kernel) hF (wBel_ref (by omega) wBel_nil) (wBel_ref (by omega) wBel_nil) dX6_init_7 ?_
  have hF1 : Fr (t) (n + 1) := Fr.up hF
  refine gn_putR hC (by decide +kernel) (by decide +kernel) hini (ci := 6) (k := 0) rfl inw6 rfl (by decide +kernel) (by decide +kernel) rfl rfl wd_453 tyX6_ok nmX6 rfl (fun a => ⟨rfl, rfl⟩) (shS_old hsh (by decide +kernel)) (by omega) dX6_init_9 ?_
  have hF2 : Fr (u_RX6_1 K c n t) (n + 1) := Fr.put hF1 (by omega) (by omega)
  change GN _ _ _ _ _ _ _ _ (u_RX6_1 K c n t)
  refine gn_R hC (by decide +kernel) (by decide +kernel) (b := fun _ => eLocR 0) (fun X hX => cLocR_n hX dX6_init_12 rfl) rfl (Nat.le_of_ble_eq_true rfl) ?_
  refine gn_E hC (by decide +kernel) (by decide +kernel) (b := fun _ => eI 3) (fun X hX => cConst hX dX6_init_13 (by decide +kernel)) rfl (Nat.le_of_ble_eq_true rfl) ?_
  refine gn_E hC (by decide +kernel) (by decide +kernel) (b := fun _ => eI 201) (fun X hX => cSi hX dX6_init_14 (by decide +kernel)) rfl (Nat.le_of_ble_eq_true rfl) ?_
  refine gn_mna hC (N := 3) (K := 201) (n := n + 1) (by decide +kernel) (by decide +kernel) (by decide +kernel) (by decide +kernel) (by decide +kernel) (by decide +kernel) wd_452 rfl (by omega) (by decide +kernel) (by decide +kernel) hF2 (wBel_ref (by omega) wBel_nil) (wBel_ref (by omega) wBel_nil) dX6_init_17 ?_
  have hF3 : Fr (u_RX6_2 K c n t) (n + 5) := Fr.row hF2
  change GN _ _ _ _ _ _ _ _ (u_RX6_2 K c n t)
  refine gn_putR hC (by decide +kernel) (by decide +kernel) hini (ci := 6) (k := 1) rfl inw6 rfl (by decide +kernel) (by decide +kernel) rfl rfl wd_454 tyX6_ok nmX6 rfl (fun a => ⟨rfl, rfl⟩) (shS_old hsh (by decide +kernel)) (by omega) dX6_init_21 ?_
  have hF4 : Fr (u_RX6_3 K c n t) (n + 5) := Fr.put hF3 (by omega) (by omega)
  change GN _ _ _ _ _ _ _ _ (u_RX6_3 K c n t)
  refine gn_R hC (by decide +kernel) (by decide +kernel) (b := fun _ => eLocR 0) (fun X hX => cLocR_n hX dX6_init_24 rfl) rfl (Nat.le_of_ble_eq_true rfl) ?_
  refine gn_E hC (by decide +kernel) (by decide +kernel) (b := fun _ => eI 3) (fun X hX => cConst hX dX6_init_25 (by decide +kernel)) rfl (Nat.le_of_ble_eq_true rfl) ?_
  refine gn_E hC (by decide +kernel) (by decide +kernel) (b := fun _ => eI 201) (fun X hX => cSi hX dX6_init_26 (by decide +kernel)) rfl (Nat.le_of_ble_eq_true rfl) ?_
  refine gn_mna hC (N := 3) (K := 201) (n := n + 5) (by decide +kernel) (by decide +kernel) (by decide +kernel) (by decide +kernel) (by decide +kernel) (by decide +kernel) wd_452 rfl (by omega) (by decide +kernel) (by decide +kernel) hF4 (wBel_ref (by omega) wBel_nil) (wBel_ref (by omega) wBel_nil) dX6_init_29 ?_
  have hF5 : Fr (u_RX6_4 K c n t) (n + 9) := Fr.row hF4
  change GN _ _ _ _ _ _ _ _ (u_RX6_4 K c n t)
  refine gn_putR hC (by decide +kernel) (by decide +kernel) hini (ci := 6) (k := 2) rfl inw6 rfl (by decide +kernel) (by decide +kernel) rfl rfl wd_455 tyX6_ok nmX6 rfl (fun a => ⟨rfl, rfl⟩) (shS_old hsh (by decide +kernel)) (by omega) dX6_init_33 ?_
  have hF6 : Fr (u_RX6_5 K c n t) (n + 9) := Fr.put hF5 (by omega) (by omega)
  change GN _ _ _ _ _ _ _ _ (u_RX6_5 K c n t)
  refine gn_R hC (by decide +kernel) (by decide +kernel) (b := fun _ => eLocR 0) (fun X hX => cLocR_n hX dX6_init_36 rfl) rfl (Nat.le_of_ble_eq_true rfl) ?_
  refine gn_E hC (by decide +kernel) (by decide +kernel) (b := fun _ => eI 201) (fun X hX => cSi hX dX6_init_37 (by decide +kernel)) rfl (Nat.le_of_ble_eq_true rfl) ?_
  refine gn_newarr hC (N := 201) (n := n + 9) (by decide +kernel) (by decide +kernel) (by decide +kernel) rfl (by omega) (by decide +kernel) (by decide +kernel) hF6 (wBel_ref (by omega) wBel_nil) (wBel_ref (by omega) wBel_nil) dX6_init_40 ?_
  have hF7 : Fr (u_RX6_5 K c n t) (n + 10) := Fr.up hF6
  refine gn_putR hC (by decide +kernel) (by decide +kernel) hini (ci := 6) (k := 3) rfl inw6 rfl (by decide +kernel) (by decide +kernel) rfl rfl wd_456 tyX6_ok nmX6 rfl (fun a => ⟨rfl, rfl⟩) (shS_old hsh (by decide +kernel)) (by omega) dX6_init_42 ?_
  have hF8 : Fr (u_RX6_6 K c n t) (n + 10) := Fr.put hF7 (by omega) (by omega)
  change GN _ _ _ _ _ _ _ _ (u_RX6_6 K c n t)
  exact hend 45 _ dX6_init_45
def u_RX9_1 (K : Nat) (c n : Nat) (t : wS) : wS := wUR (t) c 0 n
def u_RX9_2 (K : Nat) (c n : Nat) (t : wS) : wS := wUR (u_RX9_1 K c n t) c 1 (n + 1)
def u_RX9_3 (K : Nat) (c n : Nat) (t : wS) : wS := wUR (u_RX9_2 K c n t) c 7 (n + 2)
def u_RX9_4 (K : Nat) (c n : Nat) (t : wS) : wS := wUR (u_RX9_3 K c n t) c 8 (n + 3)
/-- WoundTape$Thought: 4 cells of 934 slots -/
def e_RX9 (K : Nat) (c n : Nat) (t : wS) : wS := u_RX9_4 K c n t
theorem fr_RX9 (K : Nat) {c n : Nat} {t : wS} (hF : Fr t n) (hc : c < n) : Fr (e_RX9 K c n t) (n + 4) := by
  have hF1 : Fr (t) (n + 1) := Fr.up hF
  have hF2 : Fr (u_RX9_1 K c n t) (n + 1) := Fr.put hF1 (by omega) (by omega)
  have hF3 : Fr (u_RX9_1 K c n t) (n + 2) := Fr.up hF2
  have hF4 : Fr (u_RX9_2 K c n t) (n + 2) := Fr.put hF3 (by omega) (by omega)
  have hF5 : Fr (u_RX9_2 K c n t) (n + 3) := Fr.up hF4
  have hF6 : Fr (u_RX9_3 K c n t) (n + 3) := Fr.put hF5 (by omega) (by omega)
  have hF7 : Fr (u_RX9_3 K c n t) (n + 4) := Fr.up hF6
  have hF8 : Fr (u_RX9_4 K c n t) (n + 4) := Fr.put hF7 (by omega) (by omega)
  exact hF8
set_option maxHeartbeats 8000000 in
set_option maxRecDepth 4000 in
theorem mX9_init (K : Nat) : MetN yX9_init cX9_init 1 1 [(1, 65), (1, 65), (1, 800), (1, 4)] 934 9 (e_RX9 K) := by
  refine mMetN (own := RX9) rfl rfl (by decide +kernel) (by decide) (by decide) fun X0 n c t hC hini hsh hcn hN hF hz hend => ?_
  simp only [List.length_cons, List.length_nil] at hN
  refine gn_R hC (by decide +kernel) (by decide +kernel) (b := fun _ => eLocR 0) (fun X hX => cLocR_n hX dX9_init_0 rfl) rfl (Nat.le_of_ble_eq_true rfl) ?_
  refine gn_obj hC (by decide +kernel) (by decide +kernel) wd_486 wd_142 wd_143 (Nat.le_of_ble_eq_true rfl) dX9_init_1 ?_
  refine gn_R hC (by decide +kernel) (by decide +kernel) (b := fun _ => eLocR 0) (fun X hX => cLocR_n hX dX9_init_4 rfl) rfl (Nat.le_of_ble_eq_true rfl) ?_
  refine gn_E hC (by decide +kernel) (by decide +kernel) (b := fun _ => eI 65) (fun X hX => cBi hX dX9_init_5 (by decide +kernel)) rfl (Nat.le_of_ble_eq_true rfl) ?_
  refine gn_newarr hC (N := 65) (n := n + 0) (by decide +kernel) (by decide +kernel) (by decide +kernel) rfl (by omega) (by decide +kernel) (by decide +kernel) hF (wBel_ref (by omega) wBel_nil) (wBel_ref (by omega) wBel_nil) dX9_init_7 ?_
  have hF1 : Fr (t) (n + 1) := Fr.up hF
  refine gn_putR hC (by decide +kernel) (by decide +kernel) hini (ci := 9) (k := 0) rfl inw9 rfl (by decide +kernel) (by decide +kernel) rfl rfl wd_487 tyX9_ok nmX9 rfl (fun a => ⟨rfl, rfl⟩) (shS_old hsh (by decide +kernel)) (by omega) dX9_init_9 ?_
  have hF2 : Fr (u_RX9_1 K c n t) (n + 1) := Fr.put hF1 (by omega) (by omega)
  change GN _ _ _ _ _ _ _ _ (u_RX9_1 K c n t)
  refine gn_R hC (by decide +kernel) (by decide +kernel) (b := fun _ => eLocR 0) (fun X hX => cLocR_n hX dX9_init_12 rfl) rfl (Nat.le_of_ble_eq_true rfl) ?_
  refine gn_E hC (by decide +kernel) (by decide +kernel) (b := fun _ => eI 65) (fun X hX => cBi hX dX9_init_13 (by decide +kernel)) rfl (Nat.le_of_ble_eq_true rfl) ?_
  refine gn_newarr hC (N := 65) (n := n + 1) (by decide +kernel) (by decide +kernel) (by decide +kernel) rfl (by omega) (by decide +kernel) (by decide +kernel) hF2 (wBel_ref (by omega) wBel_nil) (wBel_ref (by omega) wBel_nil) dX9_init_15 ?_
  have hF3 : Fr (u_RX9_1 K c n t) (n + 2) := Fr.up hF2
  refine gn_putR hC (by decide +kernel) (by decide +kernel) hini (ci := 9) (k := 1) rfl inw9 rfl (by decide +kernel) (by decide +kernel) rfl rfl wd_488 tyX9_ok nmX9 rfl (fun a => ⟨rfl, rfl⟩) (shS_old hsh (by decide +kernel)) (by omega) dX9_init_17 ?_
  have hF4 : Fr (u_RX9_2 K c n t) (n + 2) := Fr.put hF3 (by omega) (by omega)
  change GN _ _ _ _ _ _ _ _ (u_RX9_2 K c n t)
  refine gn_R hC (by decide +kernel) (by decide +kernel) (b := fun _ => eLocR 0) (fun X hX => cLocR_n hX dX9_init_20 rfl) rfl (Nat.le_of_ble_eq_true rfl) ?_
  refine gn_E hC (by decide +kernel) (by decide +kernel) (b := fun _ => eI 800) (fun X hX => cSi hX dX9_init_21 (by decide +kernel)) rfl (Nat.le_of_ble_eq_true rfl) ?_
  refine gn_newarr hC (N := 800) (n := n + 2) (by decide +kernel) (by decide +kernel) (by decide +kernel) rfl (by omega) (by decide +kernel) (by decide +kernel) hF4 (wBel_ref (by omega) wBel_nil) (wBel_ref (by omega) wBel_nil) dX9_init_24 ?_
  have hF5 : Fr (u_RX9_2 K c n t) (n + 3) := Fr.up hF4
  refine gn_putR hC (by decide +kernel) (by decide +kernel) hini (ci := 9) (k := 7) rfl inw9 rfl (by decide +kernel) (by decide +kernel) rfl rfl wd_497 tyX9_ok nmX9 rfl (fun a => ⟨rfl, rfl⟩) (shS_old hsh (by decide +kernel)) (by omega) dX9_init_26 ?_
  have hF6 : Fr (u_RX9_3 K c n t) (n + 3) := Fr.put hF5 (by omega) (by omega)
  change GN _ _ _ _ _ _ _ _ (u_RX9_3 K c n t)
  refine gn_R hC (by decide +kernel) (by decide +kernel) (b := fun _ => eLocR 0) (fun X hX => cLocR_n hX dX9_init_29 rfl) rfl (Nat.le_of_ble_eq_true rfl) ?_
  refine gn_E hC (by decide +kernel) (by decide +kernel) (b := fun _ => eI 4) (fun X hX => cConst hX dX9_init_30 (by decide +kernel)) rfl (Nat.le_of_ble_eq_true rfl) ?_
  refine gn_newarr hC (N := 4) (n := n + 3) (by decide +kernel) (by decide +kernel) (by decide +kernel) rfl (by omega) (by decide +kernel) (by decide +kernel) hF6 (wBel_ref (by omega) wBel_nil) (wBel_ref (by omega) wBel_nil) dX9_init_31 ?_
  have hF7 : Fr (u_RX9_3 K c n t) (n + 4) := Fr.up hF6
  refine gn_putR hC (by decide +kernel) (by decide +kernel) hini (ci := 9) (k := 8) rfl inw9 rfl (by decide +kernel) (by decide +kernel) rfl rfl wd_498 tyX9_ok nmX9 rfl (fun a => ⟨rfl, rfl⟩) (shS_old hsh (by decide +kernel)) (by omega) dX9_init_33 ?_
  have hF8 : Fr (u_RX9_4 K c n t) (n + 4) := Fr.put hF7 (by omega) (by omega)
  change GN _ _ _ _ _ _ _ _ (u_RX9_4 K c n t)
  exact hend 36 _ dX9_init_36
def u_RX5_1 (K : Nat) (c n : Nat) (t : wS) : wS := wUR (t) c 2 n
def u_RX5_2 (K : Nat) (c n : Nat) (t : wS) : wS := wUR (u_RX5_1 K c n t) c 3 (n + 1)
def u_RX5_3 (K : Nat) (c n : Nat) (t : wS) : wS := wUR (u_RX5_2 K c n t) c 4 (n + 2)
/-- WoundTape$Plans: 3 cells of 520 slots -/
def e_RX5 (K : Nat) (c n : Nat) (t : wS) : wS := u_RX5_3 K c n t
theorem fr_RX5 (K : Nat) {c n : Nat} {t : wS} (hF : Fr t n) (hc : c < n) : Fr (e_RX5 K c n t) (n + 3) := by
  have hF1 : Fr (t) (n + 1) := Fr.up hF
  have hF2 : Fr (u_RX5_1 K c n t) (n + 1) := Fr.put hF1 (by omega) (by omega)
  have hF3 : Fr (u_RX5_1 K c n t) (n + 2) := Fr.up hF2
  have hF4 : Fr (u_RX5_2 K c n t) (n + 2) := Fr.put hF3 (by omega) (by omega)
  have hF5 : Fr (u_RX5_2 K c n t) (n + 3) := Fr.up hF4
  have hF6 : Fr (u_RX5_3 K c n t) (n + 3) := Fr.put hF5 (by omega) (by omega)
  exact hF6
set_option maxHeartbeats 8000000 in
set_option maxRecDepth 4000 in
theorem mX5_init (K : Nat) : MetN yX5_init cX5_init 1 1 [(1, 256), (1, 256), (1, 8)] 520 5 (e_RX5 K) := by
  refine mMetN (own := RX5) rfl rfl (by decide +kernel) (by decide) (by decide) fun X0 n c t hC hini hsh hcn hN hF hz hend => ?_
  simp only [List.length_cons, List.length_nil] at hN
  refine gn_R hC (by decide +kernel) (by decide +kernel) (b := fun _ => eLocR 0) (fun X hX => cLocR_n hX dX5_init_0 rfl) rfl (Nat.le_of_ble_eq_true rfl) ?_
  refine gn_obj hC (by decide +kernel) (by decide +kernel) wd_523 wd_142 wd_143 (Nat.le_of_ble_eq_true rfl) dX5_init_1 ?_
  refine gn_R hC (by decide +kernel) (by decide +kernel) (b := fun _ => eLocR 0) (fun X hX => cLocR_n hX dX5_init_4 rfl) rfl (Nat.le_of_ble_eq_true rfl) ?_
  refine gn_E hC (by decide +kernel) (by decide +kernel) (b := fun _ => eI 256) (fun X hX => cSi hX dX5_init_5 (by decide +kernel)) rfl (Nat.le_of_ble_eq_true rfl) ?_
  refine gn_newarr hC (N := 256) (n := n + 0) (by decide +kernel) (by decide +kernel) (by decide +kernel) rfl (by omega) (by decide +kernel) (by decide +kernel) hF (wBel_ref (by omega) wBel_nil) (wBel_ref (by omega) wBel_nil) dX5_init_8 ?_
  have hF1 : Fr (t) (n + 1) := Fr.up hF
  refine gn_putR hC (by decide +kernel) (by decide +kernel) hini (ci := 5) (k := 2) rfl inw5 rfl (by decide +kernel) (by decide +kernel) rfl rfl wd_528 tyX5_ok nmX5 rfl (fun a => ⟨rfl, rfl⟩) (shS_old hsh (by decide +kernel)) (by omega) dX5_init_10 ?_
  have hF2 : Fr (u_RX5_1 K c n t) (n + 1) := Fr.put hF1 (by omega) (by omega)
  change GN _ _ _ _ _ _ _ _ (u_RX5_1 K c n t)
  refine gn_R hC (by decide +kernel) (by decide +kernel) (b := fun _ => eLocR 0) (fun X hX => cLocR_n hX dX5_init_13 rfl) rfl (Nat.le_of_ble_eq_true rfl) ?_
  refine gn_E hC (by decide +kernel) (by decide +kernel) (b := fun _ => eI 256) (fun X hX => cSi hX dX5_init_14 (by decide +kernel)) rfl (Nat.le_of_ble_eq_true rfl) ?_
  refine gn_newarr hC (N := 256) (n := n + 1) (by decide +kernel) (by decide +kernel) (by decide +kernel) rfl (by omega) (by decide +kernel) (by decide +kernel) hF2 (wBel_ref (by omega) wBel_nil) (wBel_ref (by omega) wBel_nil) dX5_init_17 ?_
  have hF3 : Fr (u_RX5_1 K c n t) (n + 2) := Fr.up hF2
  refine gn_putR hC (by decide +kernel) (by decide +kernel) hini (ci := 5) (k := 3) rfl inw5 rfl (by decide +kernel) (by decide +kernel) rfl rfl wd_529 tyX5_ok nmX5 rfl (fun a => ⟨rfl, rfl⟩) (shS_old hsh (by decide +kernel)) (by omega) dX5_init_19 ?_
  have hF4 : Fr (u_RX5_2 K c n t) (n + 2) := Fr.put hF3 (by omega) (by omega)
  change GN _ _ _ _ _ _ _ _ (u_RX5_2 K c n t)
  refine gn_R hC (by decide +kernel) (by decide +kernel) (b := fun _ => eLocR 0) (fun X hX => cLocR_n hX dX5_init_22 rfl) rfl (Nat.le_of_ble_eq_true rfl) ?_
  refine gn_E hC (by decide +kernel) (by decide +kernel) (b := fun _ => eI 8) (fun X hX => cBi hX dX5_init_23 (by decide +kernel)) rfl (Nat.le_of_ble_eq_true rfl) ?_
  refine gn_newarr hC (N := 8) (n := n + 2) (by decide +kernel) (by decide +kernel) (by decide +kernel) rfl (by omega) (by decide +kernel) (by decide +kernel) hF4 (wBel_ref (by omega) wBel_nil) (wBel_ref (by omega) wBel_nil) dX5_init_25 ?_
  have hF5 : Fr (u_RX5_2 K c n t) (n + 3) := Fr.up hF4
  refine gn_putR hC (by decide +kernel) (by decide +kernel) hini (ci := 5) (k := 4) rfl inw5 rfl (by decide +kernel) (by decide +kernel) rfl rfl wd_530 tyX5_ok nmX5 rfl (fun a => ⟨rfl, rfl⟩) (shS_old hsh (by decide +kernel)) (by omega) dX5_init_27 ?_
  have hF6 : Fr (u_RX5_3 K c n t) (n + 3) := Fr.put hF5 (by omega) (by omega)
  change GN _ _ _ _ _ _ _ _ (u_RX5_3 K c n t)
  exact hend 30 _ dX5_init_30
