def u_RX11_1 (K : Nat) (c n : Nat) (t : wS) : wS := e_RX10 K n (n + 1) (t)
def u_RX11_2 (K : Nat) (c n : Nat) (t : wS) : wS := wUR (u_RX11_1 K c n t) c 0 n
def u_RX11_3 (K : Nat) (c n : Nat) (t : wS) : wS := e_RX2 K (n + 5) (n + 6) (u_RX11_2 K c n t)
def u_RX11_4 (K : Nat) (c n : Nat) (t : wS) : wS := wUR (u_RX11_3 K c n t) c 1 (n + 5)
def u_RX11_5 (K : Nat) (c n : Nat) (t : wS) : wS := e_RX2 K (n + 34) (n + 35) (u_RX11_4 K c n t)
def u_RX11_6 (K : Nat) (c n : Nat) (t : wS) : wS := wUR (u_RX11_5 K c n t) c 2 (n + 34)
def u_RX11_7 (K : Nat) (c n : Nat) (t : wS) : wS := e_RX7 K (n + 63) (n + 64) (u_RX11_6 K c n t)
def u_RX11_8 (K : Nat) (c n : Nat) (t : wS) : wS := wUR (u_RX11_7 K c n t) c 3 (n + 63)
def u_RX11_9 (K : Nat) (c n : Nat) (t : wS) : wS := e_RX4 K (n + 71) (n + 72) (u_RX11_8 K c n t)
def u_RX11_10 (K : Nat) (c n : Nat) (t : wS) : wS := wUR (u_RX11_9 K c n t) c 4 (n + 71)
def u_RX11_11 (K : Nat) (c n : Nat) (t : wS) : wS := e_RX3 K (n + 78) (n + 79) (u_RX11_10 K c n t)
def u_RX11_12 (K : Nat) (c n : Nat) (t : wS) : wS := wUR (u_RX11_11 K c n t) c 5 (n + 78)
def u_RX11_13 (K : Nat) (c n : Nat) (t : wS) : wS := e_RX0 K (n + 83) (n + 84) (u_RX11_12 K c n t)
def u_RX11_14 (K : Nat) (c n : Nat) (t : wS) : wS := wUR (u_RX11_13 K c n t) c 6 (n + 83)
def u_RX11_15 (K : Nat) (c n : Nat) (t : wS) : wS := e_RX6 K (n + 85) (n + 86) (u_RX11_14 K c n t)
def u_RX11_16 (K : Nat) (c n : Nat) (t : wS) : wS := wUR (u_RX11_15 K c n t) c 7 (n + 85)
def u_RX11_17 (K : Nat) (c n : Nat) (t : wS) : wS := e_RX9 K (n + 96) (n + 97) (u_RX11_16 K c n t)
def u_RX11_18 (K : Nat) (c n : Nat) (t : wS) : wS := wUR (u_RX11_17 K c n t) c 8 (n + 96)
def u_RX11_19 (K : Nat) (c n : Nat) (t : wS) : wS := e_RX5 K (n + 101) (n + 102) (u_RX11_18 K c n t)
def u_RX11_20 (K : Nat) (c n : Nat) (t : wS) : wS := wUR (u_RX11_19 K c n t) c 9 (n + 101)
def u_RX11_21 (K : Nat) (c n : Nat) (t : wS) : wS := wUR (u_RX11_20 K c n t) c 10 (n + 105)
def u_RX11_22 (K : Nat) (c n : Nat) (t : wS) : wS := e_RX8 K (n + 106) (n + 107) (u_RX11_21 K c n t)
def u_RX11_23 (K : Nat) (c n : Nat) (t : wS) : wS := wUR (u_RX11_22 K c n t) (n + 105) (0 : Int32).toNatClampNeg (n + 106)
def u_RX11_24 (K : Nat) (c n : Nat) (t : wS) : wS := e_RX8 K (n + 108) (n + 109) (u_RX11_23 K c n t)
def u_RX11_25 (K : Nat) (c n : Nat) (t : wS) : wS := wUR (u_RX11_24 K c n t) (n + 105) (1 : Int32).toNatClampNeg (n + 108)
def u_RX11_26 (K : Nat) (c n : Nat) (t : wS) : wS := e_RX8 K (n + 110) (n + 111) (u_RX11_25 K c n t)
def u_RX11_27 (K : Nat) (c n : Nat) (t : wS) : wS := wUR (u_RX11_26 K c n t) (n + 105) (2 : Int32).toNatClampNeg (n + 110)
def u_RX11_28 (K : Nat) (c n : Nat) (t : wS) : wS := e_RX8 K (n + 112) (n + 113) (u_RX11_27 K c n t)
def u_RX11_29 (K : Nat) (c n : Nat) (t : wS) : wS := wUR (u_RX11_28 K c n t) (n + 105) (3 : Int32).toNatClampNeg (n + 112)
def u_RX11_30 (K : Nat) (c n : Nat) (t : wS) : wS := e_RX8 K (n + 114) (n + 115) (u_RX11_29 K c n t)
def u_RX11_31 (K : Nat) (c n : Nat) (t : wS) : wS := wUR (u_RX11_30 K c n t) (n + 105) (4 : Int32).toNatClampNeg (n + 114)
def u_RX11_32 (K : Nat) (c n : Nat) (t : wS) : wS := e_RX8 K (n + 116) (n + 117) (u_RX11_31 K c n t)
def u_RX11_33 (K : Nat) (c n : Nat) (t : wS) : wS := wUR (u_RX11_32 K c n t) (n + 105) (5 : Int32).toNatClampNeg (n + 116)
/-- WoundTape: 118 cells of 11428 slots -/
def e_RX11 (K : Nat) (c n : Nat) (t : wS) : wS := u_RX11_33 K c n t
theorem fr_RX11 (K : Nat) {c n : Nat} {t : wS} (hF : Fr t n) (hc : c < n) : Fr (e_RX11 K c n t) (n + 118) := by
  have hF1 : Fr (t) (n + 1) := Fr.up hF
  have hF2 : Fr (u_RX11_1 K c n t) (n + 5) := fr_RX10 K hF1 (by omega)
  have hF3 : Fr (u_RX11_2 K c n t) (n + 5) := Fr.put hF2 (by omega) (by omega)
  have hF4 : Fr (u_RX11_2 K c n t) (n + 6) := Fr.up hF3
  have hF5 : Fr (u_RX11_3 K c n t) (n + 34) := fr_RX2 K hF4 (by omega)
  have hF6 : Fr (u_RX11_4 K c n t) (n + 34) := Fr.put hF5 (by omega) (by omega)
  have hF7 : Fr (u_RX11_4 K c n t) (n + 35) := Fr.up hF6
  have hF8 : Fr (u_RX11_5 K c n t) (n + 63) := fr_RX2 K hF7 (by omega)
  have hF9 : Fr (u_RX11_6 K c n t) (n + 63) := Fr.put hF8 (by omega) (by omega)
  have hF10 : Fr (u_RX11_6 K c n t) (n + 64) := Fr.up hF9
  have hF11 : Fr (u_RX11_7 K c n t) (n + 71) := fr_RX7 K hF10 (by omega)
  have hF12 : Fr (u_RX11_8 K c n t) (n + 71) := Fr.put hF11 (by omega) (by omega)
  have hF13 : Fr (u_RX11_8 K c n t) (n + 72) := Fr.up hF12
  have hF14 : Fr (u_RX11_9 K c n t) (n + 78) := fr_RX4 K hF13 (by omega)
  have hF15 : Fr (u_RX11_10 K c n t) (n + 78) := Fr.put hF14 (by omega) (by omega)
  have hF16 : Fr (u_RX11_10 K c n t) (n + 79) := Fr.up hF15
  have hF17 : Fr (u_RX11_11 K c n t) (n + 83) := fr_RX3 K hF16 (by omega)
  have hF18 : Fr (u_RX11_12 K c n t) (n + 83) := Fr.put hF17 (by omega) (by omega)
  have hF19 : Fr (u_RX11_12 K c n t) (n + 84) := Fr.up hF18
  have hF20 : Fr (u_RX11_13 K c n t) (n + 85) := fr_RX0 K hF19 (by omega)
  have hF21 : Fr (u_RX11_14 K c n t) (n + 85) := Fr.put hF20 (by omega) (by omega)
  have hF22 : Fr (u_RX11_14 K c n t) (n + 86) := Fr.up hF21
  have hF23 : Fr (u_RX11_15 K c n t) (n + 96) := fr_RX6 K hF22 (by omega)
  have hF24 : Fr (u_RX11_16 K c n t) (n + 96) := Fr.put hF23 (by omega) (by omega)
  have hF25 : Fr (u_RX11_16 K c n t) (n + 97) := Fr.up hF24
  have hF26 : Fr (u_RX11_17 K c n t) (n + 101) := fr_RX9 K hF25 (by omega)
  have hF27 : Fr (u_RX11_18 K c n t) (n + 101) := Fr.put hF26 (by omega) (by omega)
  have hF28 : Fr (u_RX11_18 K c n t) (n + 102) := Fr.up hF27
  have hF29 : Fr (u_RX11_19 K c n t) (n + 105) := fr_RX5 K hF28 (by omega)
  have hF30 : Fr (u_RX11_20 K c n t) (n + 105) := Fr.put hF29 (by omega) (by omega)
  have hF31 : Fr (u_RX11_20 K c n t) (n + 106) := Fr.up hF30
  have hF32 : Fr (u_RX11_21 K c n t) (n + 106) := Fr.put hF31 (by omega) (by omega)
  have hF33 : Fr (u_RX11_21 K c n t) (n + 107) := Fr.up hF32
  have hF34 : Fr (u_RX11_22 K c n t) (n + 108) := fr_RX8 K hF33 (by omega)
  have hF35 : Fr (u_RX11_23 K c n t) (n + 108) := Fr.put hF34 (by omega) (by omega)
  have hF36 : Fr (u_RX11_23 K c n t) (n + 109) := Fr.up hF35
  have hF37 : Fr (u_RX11_24 K c n t) (n + 110) := fr_RX8 K hF36 (by omega)
  have hF38 : Fr (u_RX11_25 K c n t) (n + 110) := Fr.put hF37 (by omega) (by omega)
  have hF39 : Fr (u_RX11_25 K c n t) (n + 111) := Fr.up hF38
  have hF40 : Fr (u_RX11_26 K c n t) (n + 112) := fr_RX8 K hF39 (by omega)
  have hF41 : Fr (u_RX11_27 K c n t) (n + 112) := Fr.put hF40 (by omega) (by omega)
  have hF42 : Fr (u_RX11_27 K c n t) (n + 113) := Fr.up hF41
  have hF43 : Fr (u_RX11_28 K c n t) (n + 114) := fr_RX8 K hF42 (by omega)
  have hF44 : Fr (u_RX11_29 K c n t) (n + 114) := Fr.put hF43 (by omega) (by omega)
  have hF45 : Fr (u_RX11_29 K c n t) (n + 115) := Fr.up hF44
  have hF46 : Fr (u_RX11_30 K c n t) (n + 116) := fr_RX8 K hF45 (by omega)
  have hF47 : Fr (u_RX11_31 K c n t) (n + 116) := Fr.put hF46 (by omega) (by omega)
  have hF48 : Fr (u_RX11_31 K c n t) (n + 117) := Fr.up hF47
  have hF49 : Fr (u_RX11_32 K c n t) (n + 118) := fr_RX8 K hF48 (by omega)
  have hF50 : Fr (u_RX11_33 K c n t) (n + 118) := Fr.put hF49 (by omega) (by omega)
  exact hF50
set_option maxHeartbeats 8000000 in
set_option maxRecDepth 4000 in
theorem mX11_init (K : Nat) (hK : 16777216 ≤ K) : MetN yX11_init cX11_init 2 5 [(0, 10), (1, 400), (1, 401), (1, 401), (1, 401), (0, 2), (0, 7), (1, 14), (1, 14), (1, 14), (1, 2), (2, 2), (1, 201), (1, 201), (0, 4), (1, 16), (1, 16), (1, 16), (1, 16), (1, 400), (1, 64), (0, 3), (1, 60), (1, 60), (1, 4), (1, 4), (0, 0), (1, 196), (0, 1), (1, 600), (0, 8), (1, 201), (1, 12), (1, 12), (0, 2), (0, 7), (1, 14), (1, 14), (1, 14), (1, 2), (2, 2), (1, 201), (1, 201), (0, 4), (1, 16), (1, 16), (1, 16), (1, 16), (1, 400), (1, 64), (0, 3), (1, 60), (1, 60), (1, 4), (1, 4), (0, 0), (1, 196), (0, 1), (1, 600), (0, 8), (1, 201), (1, 12), (1, 12), (0, 7), (1, 14), (1, 14), (1, 14), (1, 2), (2, 2), (1, 201), (1, 201), (0, 4), (1, 16), (1, 16), (1, 16), (1, 16), (1, 400), (1, 64), (0, 3), (1, 60), (1, 60), (1, 4), (1, 4), (0, 0), (1, 196), (0, 6), (1, 7), (2, 3), (1, 201), (1, 201), (1, 201), (2, 3), (1, 201), (1, 201), (1, 201), (1, 201), (0, 9), (1, 65), (1, 65), (1, 800), (1, 4), (0, 5), (1, 256), (1, 256), (1, 8), (3, 6), (0, 8), (1, 201), (0, 8), (1, 201), (0, 8), (1, 201), (0, 8), (1, 201), (0, 8), (1, 201), (0, 8), (1, 201)] 11428 11 (e_RX11 K) := by
  refine mMetN (own := RX11) rfl rfl (by decide +kernel) (by decide) (by decide) fun X0 n c t hC hini hsh hcn hN hF hz hend => ?_
  simp only [List.length_cons, List.length_nil] at hN
  refine gn_R hC (by decide +kernel) (by decide +kernel) (b := fun _ => eLocR 0) (fun X hX => cLocR_n hX dX11_init_0 rfl) rfl (Nat.le_of_ble_eq_true rfl) ?_
  refine gn_obj hC (by decide +kernel) (by decide +kernel) wd_141 wd_142 wd_143 (Nat.le_of_ble_eq_true rfl) dX11_init_1 ?_
  refine gn_R hC (by decide +kernel) (by decide +kernel) (b := fun _ => eLocR 0) (fun X hX => cLocR_n hX dX11_init_4 rfl) rfl (Nat.le_of_ble_eq_true rfl) ?_
  refine gn_newobj hC (n := n + 0) (ci := 10) rfl inw10 tyX10_ok rfl (by decide +kernel) wd_144 wd_145 wd_115 rfl (by omega) (by decide +kernel) (by decide +kernel) hF (wBel_ref (by omega) (wBel_jk wBel_nil)) (wBel_ref (by omega) wBel_nil) dX11_init_5 ?_
  have hF1 : Fr (t) (n + 1) := Fr.up hF
  refine gn_dup hC (by decide +kernel) (by decide +kernel) rfl dX11_init_8 ?_
  refine gn_call hC (S' := [(1, 400), (1, 401), (1, 401), (1, 401)]) (c2 := 5) (sl2 := 1612) (mX10_init K) rfl wd_148 wd_147 wd_115 hy_yX10_init (by decide +kernel) (by decide +kernel) (Or.inr ⟨_, List.mem_of_getElem? (i := 0) rfl⟩) (shS_new hC.2.2.2.1 (j := 0)) (n := n + 1) rfl (by simp only [List.length_cons, List.length_nil]; omega) rfl rfl (by decide +kernel) (by decide +kernel) (fun k => (hF.2 _ k (by omega)).1) hF1 (wBel_ref (by omega) (wBel_jk wBel_nil)) (wBel_ref (by omega) (wBel_ref (by omega) wBel_nil)) (Nat.le_of_ble_eq_true rfl) dX11_init_9 ?_
  have hF2 : Fr (u_RX11_1 K c n t) (n + 5) := fr_RX10 K hF1 (by omega)
  change GN _ _ _ _ _ _ _ _ (u_RX11_1 K c n t)
  refine gn_putR hC (by decide +kernel) (by decide +kernel) hini (ci := 11) (k := 0) rfl inw11 rfl (by decide +kernel) (by decide +kernel) rfl rfl wd_545 tyX11_ok nmX11 rfl (fun a => ⟨rfl, rfl⟩) (shS_old hsh (by decide +kernel)) (by omega) dX11_init_12 ?_
  have hF3 : Fr (u_RX11_2 K c n t) (n + 5) := Fr.put hF2 (by omega) (by omega)
  change GN _ _ _ _ _ _ _ _ (u_RX11_2 K c n t)
  refine gn_R hC (by decide +kernel) (by decide +kernel) (b := fun _ => eLocR 0) (fun X hX => cLocR_n hX dX11_init_15 rfl) rfl (Nat.le_of_ble_eq_true rfl) ?_
  refine gn_newobj hC (n := n + 5) (ci := 2) rfl inw2 tyX2_ok rfl (by decide +kernel) wd_182 wd_183 wd_116 rfl (by omega) (by decide +kernel) (by decide +kernel) hF3 (wBel_ref (by omega) (wBel_jk wBel_nil)) (wBel_ref (by omega) wBel_nil) dX11_init_16 ?_
  have hF4 : Fr (u_RX11_2 K c n t) (n + 6) := Fr.up hF3
  refine gn_dup hC (by decide +kernel) (by decide +kernel) rfl dX11_init_19 ?_
  refine gn_call hC (S' := [(0, 7), (1, 14), (1, 14), (1, 14), (1, 2), (2, 2), (1, 201), (1, 201), (0, 4), (1, 16), (1, 16), (1, 16), (1, 16), (1, 400), (1, 64), (0, 3), (1, 60), (1, 60), (1, 4), (1, 4), (0, 0), (1, 196), (0, 1), (1, 600), (0, 8), (1, 201), (1, 12), (1, 12)]) (c2 := 34) (sl2 := 3780) (mX2_init K hK) rfl wd_186 wd_185 wd_116 hy_yX2_init (by decide +kernel) (by decide +kernel) (Or.inr ⟨_, List.mem_of_getElem? (i := 1) rfl⟩) (shS_new hC.2.2.2.1 (j := 5)) (n := n + 6) rfl (by simp only [List.length_cons, List.length_nil]; omega) rfl rfl (by decide +kernel) (by decide +kernel) (fun k => (hF3.2 _ k (by omega)).1) hF4 (wBel_ref (by omega) (wBel_jk wBel_nil)) (wBel_ref (by omega) (wBel_ref (by omega) wBel_nil)) (Nat.le_of_ble_eq_true rfl) dX11_init_20 ?_
  have hF5 : Fr (u_RX11_3 K c n t) (n + 34) := fr_RX2 K hF4 (by omega)
  change GN _ _ _ _ _ _ _ _ (u_RX11_3 K c n t)
  refine gn_putR hC (by decide +kernel) (by decide +kernel) hini (ci := 11) (k := 1) rfl inw11 rfl (by decide +kernel) (by decide +kernel) rfl rfl wd_546 tyX11_ok nmX11 rfl (fun a => ⟨rfl, rfl⟩) (shS_old hsh (by decide +kernel)) (by omega) dX11_init_23 ?_
  have hF6 : Fr (u_RX11_4 K c n t) (n + 34) := Fr.put hF5 (by omega) (by omega)
  change GN _ _ _ _ _ _ _ _ (u_RX11_4 K c n t)
  refine gn_R hC (by decide +kernel) (by decide +kernel) (b := fun _ => eLocR 0) (fun X hX => cLocR_n hX dX11_init_26 rfl) rfl (Nat.le_of_ble_eq_true rfl) ?_
  refine gn_newobj hC (n := n + 34) (ci := 2) rfl inw2 tyX2_ok rfl (by decide +kernel) wd_182 wd_183 wd_116 rfl (by omega) (by decide +kernel) (by decide +kernel) hF6 (wBel_ref (by omega) (wBel_jk wBel_nil)) (wBel_ref (by omega) wBel_nil) dX11_init_27 ?_
  have hF7 : Fr (u_RX11_4 K c n t) (n + 35) := Fr.up hF6
  refine gn_dup hC (by decide +kernel) (by decide +kernel) rfl dX11_init_30 ?_
  refine gn_call hC (S' := [(0, 7), (1, 14), (1, 14), (1, 14), (1, 2), (2, 2), (1, 201), (1, 201), (0, 4), (1, 16), (1, 16), (1, 16), (1, 16), (1, 400), (1, 64), (0, 3), (1, 60), (1, 60), (1, 4), (1, 4), (0, 0), (1, 196), (0, 1), (1, 600), (0, 8), (1, 201), (1, 12), (1, 12)]) (c2 := 63) (sl2 := 5948) (mX2_init K hK) rfl wd_186 wd_185 wd_116 hy_yX2_init (by decide +kernel) (by decide +kernel) (Or.inr ⟨_, List.mem_of_getElem? (i := 1) rfl⟩) (shS_new hC.2.2.2.1 (j := 34)) (n := n + 35) rfl (by simp only [List.length_cons, List.length_nil]; omega) rfl rfl (by decide +kernel) (by decide +kernel) (fun k => (hF6.2 _ k (by omega)).1) hF7 (wBel_ref (by omega) (wBel_jk wBel_nil)) (wBel_ref (by omega) (wBel_ref (by omega) wBel_nil)) (Nat.le_of_ble_eq_true rfl) dX11_init_31 ?_
  have hF8 : Fr (u_RX11_5 K c n t) (n + 63) := fr_RX2 K hF7 (by omega)
  change GN _ _ _ _ _ _ _ _ (u_RX11_5 K c n t)
  refine gn_putR hC (by decide +kernel) (by decide +kernel) hini (ci := 11) (k := 2) rfl inw11 rfl (by decide +kernel) (by decide +kernel) rfl rfl wd_547 tyX11_ok nmX11 rfl (fun a => ⟨rfl, rfl⟩) (shS_old hsh (by decide +kernel)) (by omega) dX11_init_34 ?_
  have hF9 : Fr (u_RX11_6 K c n t) (n + 63) := Fr.put hF8 (by omega) (by omega)
  change GN _ _ _ _ _ _ _ _ (u_RX11_6 K c n t)
  refine gn_R hC (by decide +kernel) (by decide +kernel) (b := fun _ => eLocR 0) (fun X hX => cLocR_n hX dX11_init_37 rfl) rfl (Nat.le_of_ble_eq_true rfl) ?_
  refine gn_newobj hC (n := n + 63) (ci := 7) rfl inw7 tyX7_ok rfl (by decide +kernel) wd_438 wd_189 wd_117 rfl (by omega) (by decide +kernel) (by decide +kernel) hF9 (wBel_ref (by omega) (wBel_jk wBel_nil)) (wBel_ref (by omega) wBel_nil) dX11_init_38 ?_
  have hF10 : Fr (u_RX11_6 K c n t) (n + 64) := Fr.up hF9
  refine gn_dup hC (by decide +kernel) (by decide +kernel) rfl dX11_init_41 ?_
  refine gn_call hC (S' := [(1, 14), (1, 14), (1, 14), (1, 2), (2, 2), (1, 201), (1, 201)]) (c2 := 71) (sl2 := 6404) (mX7_init K hK) rfl wd_192 wd_191 wd_117 hy_yX7_init (by decide +kernel) (by decide +kernel) (Or.inl wd_439) (shS_new hC.2.2.2.1 (j := 63)) (n := n + 64) rfl (by simp only [List.length_cons, List.length_nil]; omega) rfl rfl (by decide +kernel) (by decide +kernel) (fun k => (hF9.2 _ k (by omega)).1) hF10 (wBel_ref (by omega) (wBel_jk wBel_nil)) (wBel_ref (by omega) (wBel_ref (by omega) wBel_nil)) (Nat.le_of_ble_eq_true rfl) dX11_init_42 ?_
  have hF11 : Fr (u_RX11_7 K c n t) (n + 71) := fr_RX7 K hF10 (by omega)
  change GN _ _ _ _ _ _ _ _ (u_RX11_7 K c n t)
  refine gn_putR hC (by decide +kernel) (by decide +kernel) hini (ci := 11) (k := 3) rfl inw11 rfl (by decide +kernel) (by decide +kernel) rfl rfl wd_548 tyX11_ok nmX11 rfl (fun a => ⟨rfl, rfl⟩) (shS_old hsh (by decide +kernel)) (by omega) dX11_init_45 ?_
  have hF12 : Fr (u_RX11_8 K c n t) (n + 71) := Fr.put hF11 (by omega) (by omega)
  change GN _ _ _ _ _ _ _ _ (u_RX11_8 K c n t)
  refine gn_R hC (by decide +kernel) (by decide +kernel) (b := fun _ => eLocR 0) (fun X hX => cLocR_n hX dX11_init_48 rfl) rfl (Nat.le_of_ble_eq_true rfl) ?_
  refine gn_newobj hC (n := n + 71) (ci := 4) rfl inw4 tyX4_ok rfl (by decide +kernel) wd_440 wd_245 wd_118 rfl (by omega) (by decide +kernel) (by decide +kernel) hF12 (wBel_ref (by omega) (wBel_jk wBel_nil)) (wBel_ref (by omega) wBel_nil) dX11_init_49 ?_
  have hF13 : Fr (u_RX11_8 K c n t) (n + 72) := Fr.up hF12
  refine gn_dup hC (by decide +kernel) (by decide +kernel) rfl dX11_init_52 ?_
  refine gn_call hC (S' := [(1, 16), (1, 16), (1, 16), (1, 16), (1, 400), (1, 64)]) (c2 := 78) (sl2 := 6940) (mX4_init K) rfl wd_248 wd_247 wd_118 hy_yX4_init (by decide +kernel) (by decide +kernel) (Or.inr ⟨_, List.mem_of_getElem? (i := 6) rfl⟩) (shS_new hC.2.2.2.1 (j := 71)) (n := n + 72) rfl (by simp only [List.length_cons, List.length_nil]; omega) rfl rfl (by decide +kernel) (by decide +kernel) (fun k => (hF12.2 _ k (by omega)).1) hF13 (wBel_ref (by omega) (wBel_jk wBel_nil)) (wBel_ref (by omega) (wBel_ref (by omega) wBel_nil)) (Nat.le_of_ble_eq_true rfl) dX11_init_53 ?_
  have hF14 : Fr (u_RX11_9 K c n t) (n + 78) := fr_RX4 K hF13 (by omega)
  change GN _ _ _ _ _ _ _ _ (u_RX11_9 K c n t)
  refine gn_putR hC (by decide +kernel) (by decide +kernel) hini (ci := 11) (k := 4) rfl inw11 rfl (by decide +kernel) (by decide +kernel) rfl rfl wd_549 tyX11_ok nmX11 rfl (fun a => ⟨rfl, rfl⟩) (shS_old hsh (by decide +kernel)) (by omega) dX11_init_56 ?_
  have hF15 : Fr (u_RX11_10 K c n t) (n + 78) := Fr.put hF14 (by omega) (by omega)
  change GN _ _ _ _ _ _ _ _ (u_RX11_10 K c n t)
  refine gn_R hC (by decide +kernel) (by decide +kernel) (b := fun _ => eLocR 0) (fun X hX => cLocR_n hX dX11_init_59 rfl) rfl (Nat.le_of_ble_eq_true rfl) ?_
  refine gn_newobj hC (n := n + 78) (ci := 3) rfl inw3 tyX3_ok rfl (by decide +kernel) wd_442 wd_277 wd_119 rfl (by omega) (by decide +kernel) (by decide +kernel) hF15 (wBel_ref (by omega) (wBel_jk wBel_nil)) (wBel_ref (by omega) wBel_nil) dX11_init_60 ?_
  have hF16 : Fr (u_RX11_10 K c n t) (n + 79) := Fr.up hF15
  refine gn_dup hC (by decide +kernel) (by decide +kernel) rfl dX11_init_63 ?_
  refine gn_call hC (S' := [(1, 60), (1, 60), (1, 4), (1, 4)]) (c2 := 83) (sl2 := 7073) (mX3_init K) rfl wd_280 wd_279 wd_119 hy_yX3_init (by decide +kernel) (by decide +kernel) (Or.inr ⟨_, List.mem_of_getElem? (i := 7) rfl⟩) (shS_new hC.2.2.2.1 (j := 78)) (n := n + 79) rfl (by simp only [List.length_cons, List.length_nil]; omega) rfl rfl (by decide +kernel) (by decide +kernel) (fun k => (hF15.2 _ k (by omega)).1) hF16 (wBel_ref (by omega) (wBel_jk wBel_nil)) (wBel_ref (by omega) (wBel_ref (by omega) wBel_nil)) (Nat.le_of_ble_eq_true rfl) dX11_init_64 ?_
  have hF17 : Fr (u_RX11_11 K c n t) (n + 83) := fr_RX3 K hF16 (by omega)
  change GN _ _ _ _ _ _ _ _ (u_RX11_11 K c n t)
  refine gn_putR hC (by decide +kernel) (by decide +kernel) hini (ci := 11) (k := 5) rfl inw11 rfl (by decide +kernel) (by decide +kernel) rfl rfl wd_550 tyX11_ok nmX11 rfl (fun a => ⟨rfl, rfl⟩) (shS_old hsh (by decide +kernel)) (by omega) dX11_init_67 ?_
  have hF18 : Fr (u_RX11_12 K c n t) (n + 83) := Fr.put hF17 (by omega) (by omega)
  change GN _ _ _ _ _ _ _ _ (u_RX11_12 K c n t)
  refine gn_R hC (by decide +kernel) (by decide +kernel) (b := fun _ => eLocR 0) (fun X hX => cLocR_n hX dX11_init_70 rfl) rfl (Nat.le_of_ble_eq_true rfl) ?_
  refine gn_newobj hC (n := n + 83) (ci := 0) rfl inw0 tyX0_ok rfl (by decide +kernel) wd_444 wd_306 wd_120 rfl (by omega) (by decide +kernel) (by decide +kernel) hF18 (wBel_ref (by omega) (wBel_jk wBel_nil)) (wBel_ref (by omega) wBel_nil) dX11_init_71 ?_
  have hF19 : Fr (u_RX11_12 K c n t) (n + 84) := Fr.up hF18
  refine gn_dup hC (by decide +kernel) (by decide +kernel) rfl dX11_init_74 ?_
  refine gn_call hC (S' := [(1, 196)]) (c2 := 85) (sl2 := 7271) (mX0_init K) rfl wd_309 wd_308 wd_120 hy_yX0_init (by decide +kernel) (by decide +kernel) (Or.inr ⟨_, List.mem_of_getElem? (i := 8) rfl⟩) (shS_new hC.2.2.2.1 (j := 83)) (n := n + 84) rfl (by simp only [List.length_cons, List.length_nil]; omega) rfl rfl (by decide +kernel) (by decide +kernel) (fun k => (hF18.2 _ k (by omega)).1) hF19 (wBel_ref (by omega) (wBel_jk wBel_nil)) (wBel_ref (by omega) (wBel_ref (by omega) wBel_nil)) (Nat.le_of_ble_eq_true rfl) dX11_init_75 ?_
  have hF20 : Fr (u_RX11_13 K c n t) (n + 85) := fr_RX0 K hF19 (by omega)
  change GN _ _ _ _ _ _ _ _ (u_RX11_13 K c n t)
  refine gn_putR hC (by decide +kernel) (by decide +kernel) hini (ci := 11) (k := 6) rfl inw11 rfl (by decide +kernel) (by decide +kernel) rfl rfl wd_551 tyX11_ok nmX11 rfl (fun a => ⟨rfl, rfl⟩) (shS_old hsh (by decide +kernel)) (by omega) dX11_init_78 ?_
  have hF21 : Fr (u_RX11_14 K c n t) (n + 85) := Fr.put hF20 (by omega) (by omega)
  change GN _ _ _ _ _ _ _ _ (u_RX11_14 K c n t)
  refine gn_R hC (by decide +kernel) (by decide +kernel) (b := fun _ => eLocR 0) (fun X hX => cLocR_n hX dX11_init_81 rfl) rfl (Nat.le_of_ble_eq_true rfl) ?_
  refine gn_newobj hC (n := n + 85) (ci := 6) rfl inw6 tyX6_ok rfl (by decide +kernel) wd_446 wd_447 wd_123 rfl (by omega) (by decide +kernel) (by decide +kernel) hF21 (wBel_ref (by omega) (wBel_jk wBel_nil)) (wBel_ref (by omega) wBel_nil) dX11_init_82 ?_
  have hF22 : Fr (u_RX11_14 K c n t) (n + 86) := Fr.up hF21
  refine gn_dup hC (by decide +kernel) (by decide +kernel) rfl dX11_init_85 ?_
  refine gn_call hC (S' := [(1, 7), (2, 3), (1, 201), (1, 201), (1, 201), (2, 3), (1, 201), (1, 201), (1, 201), (1, 201)]) (c2 := 96) (sl2 := 8700) (mX6_init K) rfl wd_450 wd_449 wd_123 hy_yX6_init (by decide +kernel) (by decide +kernel) (Or.inr ⟨_, List.mem_of_getElem? (i := 9) rfl⟩) (shS_new hC.2.2.2.1 (j := 85)) (n := n + 86) rfl (by simp only [List.length_cons, List.length_nil]; omega) rfl rfl (by decide +kernel) (by decide +kernel) (fun k => (hF21.2 _ k (by omega)).1) hF22 (wBel_ref (by omega) (wBel_jk wBel_nil)) (wBel_ref (by omega) (wBel_ref (by omega) wBel_nil)) (Nat.le_of_ble_eq_true rfl) dX11_init_86 ?_
  have hF23 : Fr (u_RX11_15 K c n t) (n + 96) := fr_RX6 K hF22 (by omega)
  change GN _ _ _ _ _ _ _ _ (u_RX11_15 K c n t)
  refine gn_putR hC (by decide +kernel) (by decide +kernel) hini (ci := 11) (k := 7) rfl inw11 rfl (by decide +kernel) (by decide +kernel) rfl rfl wd_552 tyX11_ok nmX11 rfl (fun a => ⟨rfl, rfl⟩) (shS_old hsh (by decide +kernel)) (by omega) dX11_init_89 ?_
  have hF24 : Fr (u_RX11_16 K c n t) (n + 96) := Fr.put hF23 (by omega) (by omega)
  change GN _ _ _ _ _ _ _ _ (u_RX11_16 K c n t)
  refine gn_R hC (by decide +kernel) (by decide +kernel) (b := fun _ => eLocR 0) (fun X hX => cLocR_n hX dX11_init_92 rfl) rfl (Nat.le_of_ble_eq_true rfl) ?_
  refine gn_newobj hC (n := n + 96) (ci := 9) rfl inw9 tyX9_ok rfl (by decide +kernel) wd_481 wd_482 wd_124 rfl (by omega) (by decide +kernel) (by decide +kernel) hF24 (wBel_ref (by omega) (wBel_jk wBel_nil)) (wBel_ref (by omega) wBel_nil) dX11_init_93 ?_
  have hF25 : Fr (u_RX11_16 K c n t) (n + 97) := Fr.up hF24
  refine gn_dup hC (by decide +kernel) (by decide +kernel) rfl dX11_init_96 ?_
  refine gn_call hC (S' := [(1, 65), (1, 65), (1, 800), (1, 4)]) (c2 := 101) (sl2 := 9643) (mX9_init K) rfl wd_485 wd_484 wd_124 hy_yX9_init (by decide +kernel) (by decide +kernel) (Or.inr ⟨_, List.mem_of_getElem? (i := 10) rfl⟩) (shS_new hC.2.2.2.1 (j := 96)) (n := n + 97) rfl (by simp only [List.length_cons, List.length_nil]; omega) rfl rfl (by decide +kernel) (by decide +kernel) (fun k => (hF24.2 _ k (by omega)).1) hF25 (wBel_ref (by omega) (wBel_jk wBel_nil)) (wBel_ref (by omega) (wBel_ref (by omega) wBel_nil)) (Nat.le_of_ble_eq_true rfl) dX11_init_97 ?_
  have hF26 : Fr (u_RX11_17 K c n t) (n + 101) := fr_RX9 K hF25 (by omega)
  change GN _ _ _ _ _ _ _ _ (u_RX11_17 K c n t)
  refine gn_putR hC (by decide +kernel) (by decide +kernel) hini (ci := 11) (k := 8) rfl inw11 rfl (by decide +kernel) (by decide +kernel) rfl rfl wd_553 tyX11_ok nmX11 rfl (fun a => ⟨rfl, rfl⟩) (shS_old hsh (by decide +kernel)) (by omega) dX11_init_100 ?_
  have hF27 : Fr (u_RX11_18 K c n t) (n + 101) := Fr.put hF26 (by omega) (by omega)
  change GN _ _ _ _ _ _ _ _ (u_RX11_18 K c n t)
  refine gn_R hC (by decide +kernel) (by decide +kernel) (b := fun _ => eLocR 0) (fun X hX => cLocR_n hX dX11_init_103 rfl) rfl (Nat.le_of_ble_eq_true rfl) ?_
  refine gn_newobj hC (n := n + 101) (ci := 5) rfl inw5 tyX5_ok rfl (by decide +kernel) wd_518 wd_519 wd_125 rfl (by omega) (by decide +kernel) (by decide +kernel) hF27 (wBel_ref (by omega) (wBel_jk wBel_nil)) (wBel_ref (by omega) wBel_nil) dX11_init_104 ?_
  have hF28 : Fr (u_RX11_18 K c n t) (n + 102) := Fr.up hF27
  refine gn_dup hC (by decide +kernel) (by decide +kernel) rfl dX11_init_107 ?_
  refine gn_call hC (S' := [(1, 256), (1, 256), (1, 8)]) (c2 := 105) (sl2 := 10168) (mX5_init K) rfl wd_522 wd_521 wd_125 hy_yX5_init (by decide +kernel) (by decide +kernel) (Or.inr ⟨_, List.mem_of_getElem? (i := 11) rfl⟩) (shS_new hC.2.2.2.1 (j := 101)) (n := n + 102) rfl (by simp only [List.length_cons, List.length_nil]; omega) rfl rfl (by decide +kernel) (by decide +kernel) (fun k => (hF27.2 _ k (by omega)).1) hF28 (wBel_ref (by omega) (wBel_jk wBel_nil)) (wBel_ref (by omega) (wBel_ref (by omega) wBel_nil)) (Nat.le_of_ble_eq_true rfl) dX11_init_108 ?_
  have hF29 : Fr (u_RX11_19 K c n t) (n + 105) := fr_RX5 K hF28 (by omega)
  change GN _ _ _ _ _ _ _ _ (u_RX11_19 K c n t)
  refine gn_putR hC (by decide +kernel) (by decide +kernel) hini (ci := 11) (k := 9) rfl inw11 rfl (by decide +kernel) (by decide +kernel) rfl rfl wd_554 tyX11_ok nmX11 rfl (fun a => ⟨rfl, rfl⟩) (shS_old hsh (by decide +kernel)) (by omega) dX11_init_111 ?_
  have hF30 : Fr (u_RX11_20 K c n t) (n + 105) := Fr.put hF29 (by omega) (by omega)
  change GN _ _ _ _ _ _ _ _ (u_RX11_20 K c n t)
  refine gn_R hC (by decide +kernel) (by decide +kernel) (b := fun _ => eLocR 0) (fun X hX => cLocR_n hX dX11_init_114 rfl) rfl (Nat.le_of_ble_eq_true rfl) ?_
  refine gn_E hC (by decide +kernel) (by decide +kernel) (b := fun _ => eI 6) (fun X hX => cBi hX dX11_init_115 (by decide +kernel)) rfl (Nat.le_of_ble_eq_true rfl) ?_
  refine gn_anew hC (N := 6) (n := n + 105) (by decide +kernel) (by decide +kernel) (by decide +kernel) wd_542 rfl (by omega) (by decide +kernel) (by decide +kernel) hF30 (wBel_ref (by omega) (wBel_jk wBel_nil)) (wBel_ref (by omega) wBel_nil) dX11_init_117 ?_
  have hF31 : Fr (u_RX11_20 K c n t) (n + 106) := Fr.up hF30
  refine gn_putR hC (by decide +kernel) (by decide +kernel) hini (ci := 11) (k := 10) rfl inw11 rfl (by decide +kernel) (by decide +kernel) rfl rfl wd_555 tyX11_ok nmX11 rfl (fun a => ⟨rfl, rfl⟩) (shS_old hsh (by decide +kernel)) (by omega) dX11_init_120 ?_
  have hF32 : Fr (u_RX11_21 K c n t) (n + 106) := Fr.put hF31 (by omega) (by omega)
  change GN _ _ _ _ _ _ _ _ (u_RX11_21 K c n t)
  have hw10_21 : (u_RX11_21 K c n t).2 c 10 = (n + 105) := by show (wUR _ _ _ _).2 _ _ = _; rw [wUR_at, if_pos rfl, if_pos rfl]
  refine gn_S hC (by decide +kernel) (by decide +kernel) (b := fun _ => sLoc 1 (eI 0)) (pB := 0) (pC := 0) (fun X hX => csLoc_n hX (cConst hX dX11_init_123 (by decide +kernel)) dX11_init_124 rfl (by decide +kernel)) (t1 := u_RX11_21 K c n t) rfl ?_
  refine gn_T hC (by decide +kernel) (by decide +kernel) (b := fun _ => cI .lt (eLoc 1) (eI 6)) (fun X hX => ccI_f hX (cLoc_n hX dX11_init_125 rfl) (cBi hX dX11_init_126 (by decide +kernel)) dX11_init_128 rfl rfl) (by simp only [mDen, sSeq, sLoc, sLocR, sLocL, sInc, sPut, sPutZ, sPutO, sAst, sAstO, sAstD, sAstR, sIf, sRet, sRetZ, sRetL, sRetV, sBrk, sCon, sCall, sDrop, sCopy, sSkip, sSw, wSwF, eI, eLoc, eLocR, eLocL, eFld, eFldR, eArr, eArrR, eLen, eB, eD, eU, eIf, eIfL, eBo, eCall, eCallL, aN, aI, aR, aO, eStr, eSLen, eSAt, eSIdx, eLI, eI2L, eLB, cI, cZ, cL, cAnd, cOr, cNot, cIf, Option.bind_some, Option.bind_none, List.getElem?_cons_zero, List.getElem?_cons_succ, List.set_cons_zero, List.set_cons_succ, List.length_cons, List.length_nil, List.all_cons, List.all_nil, wIR, List.cons_append, List.nil_append, List.append_nil, List.reduceReplicate, Bool.and_true, Bool.true_and, Bool.and_self, and_true, true_and, and_self, if_true, if_false, reduceCtorEq, Nat.reduceAdd, Nat.reduceSub, Nat.reduceLeDiff, Nat.zero_add, Nat.le_refl, Nat.sub_self, List.replicate_zero, List.replicate_succ, wcmp, decide_eq_true_eq, Bool.false_eq_true, Bool.not_true, Bool.not_false, Bool.not_eq_true, Nat.reduceEqDiff, Nat.succ_ne_zero, Nat.one_ne_zero, Nat.zero_ne_one, not_true_eq_false, not_false_eq_true, decide_true, decide_false, ↓reduceIte]; rfl) (Nat.le_of_ble_eq_true rfl) ?_
  refine gn_R hC (by decide +kernel) (by decide +kernel) (b := fun sh => eFldR sh 11 10 (eLocR 0)) (v := n + 105) (fun X hX => (cFldR hX (cLocR_n hX dX11_init_131 rfl) rfl inw11 rfl (by decide +kernel) (by decide +kernel) rfl wd_555 dX11_init_132)) (eFldR_this (shS_old hsh (by decide +kernel)) hw10_21 (h5000 (show n + 105 < 1000 by omega))) (Nat.le_of_ble_eq_true rfl) ?_
  refine gn_E hC (by decide +kernel) (by decide +kernel) (b := fun _ => eLoc 1) (fun X hX => cLoc_n hX dX11_init_135 rfl) rfl (Nat.le_of_ble_eq_true rfl) ?_
  refine gn_newobj hC (n := n + 106) (ci := 8) rfl inw8 tyX8_ok rfl (by decide +kernel) wd_542 wd_330 wd_122 rfl (by omega) (by decide +kernel) (by decide +kernel) hF32 (wBel_ref (by omega) (wBel_int wBel_nil)) (wBel_int (wBel_ref (by omega) wBel_nil)) dX11_init_136 ?_
  have hF33 : Fr (u_RX11_21 K c n t) (n + 107) := Fr.up hF32
  refine gn_dup hC (by decide +kernel) (by decide +kernel) rfl dX11_init_139 ?_
  refine gn_call hC (S' := [(1, 201)]) (c2 := 108) (sl2 := 10383) (mX8_init K) rfl wd_333 wd_332 wd_122 hy_yX8_init (by decide +kernel) (by decide +kernel) (Or.inl wd_544) (shS_new hC.2.2.2.1 (j := 106)) (n := n + 107) rfl (by simp only [List.length_cons, List.length_nil]; omega) rfl rfl (by decide +kernel) (by decide +kernel) (fun k => (hF32.2 _ k (by omega)).1) hF33 (wBel_ref (by omega) (wBel_int wBel_nil)) (wBel_ref (by omega) (wBel_int (wBel_ref (by omega) wBel_nil))) (Nat.le_of_ble_eq_true rfl) dX11_init_140 ?_
  have hF34 : Fr (u_RX11_22 K c n t) (n + 108) := fr_RX8 K hF33 (by omega)
  change GN _ _ _ _ _ _ _ _ (u_RX11_22 K c n t)
  have hw10_22 : (u_RX11_22 K c n t).2 c 10 = (n + 105) := by show (e_RX8 _ _ _ _).2 _ _ = _; rw [e_RX8_ref (by omega)]; exact hw10_21
  refine gn_aast hC (by decide +kernel) (by decide +kernel) (ci := 8) rfl (by rw [shS_new hC.2.2.2.1 (j := 105)]; rfl) (by rw [shS_new hC.2.2.2.1 (j := 105)]; rfl) (shS_new hC.2.2.2.1 (j := 106)) (by omega) dX11_init_143 ?_
  have hF35 : Fr (u_RX11_23 K c n t) (n + 108) := Fr.put hF34 (by omega) (by omega)
  change GN _ _ _ _ _ _ _ _ (u_RX11_23 K c n t)
  have hw10_23 : (u_RX11_23 K c n t).2 c 10 = (n + 105) := by show (wUR _ _ _ _).2 _ _ = _; rw [wUR_ne (by omega)]; exact hw10_22
  refine gn_S hC (by decide +kernel) (by decide +kernel) (b := fun _ => sInc 1 1) (pB := 0) (pC := 0) (fun X hX => csInc hX dX11_init_144 (by decide +kernel)) (t1 := u_RX11_23 K c n t) (ls1 := [.ref c, .int 1]) rfl ?_
  refine gn_goto (p1 := 125) hC (by decide +kernel) (by decide +kernel) dX11_init_147 rfl ?_
  refine gn_T hC (by decide +kernel) (by decide +kernel) (b := fun _ => cI .lt (eLoc 1) (eI 6)) (fun X hX => ccI_f hX (cLoc_n hX dX11_init_125 rfl) (cBi hX dX11_init_126 (by decide +kernel)) dX11_init_128 rfl rfl) (by simp only [mDen, sSeq, sLoc, sLocR, sLocL, sInc, sPut, sPutZ, sPutO, sAst, sAstO, sAstD, sAstR, sIf, sRet, sRetZ, sRetL, sRetV, sBrk, sCon, sCall, sDrop, sCopy, sSkip, sSw, wSwF, eI, eLoc, eLocR, eLocL, eFld, eFldR, eArr, eArrR, eLen, eB, eD, eU, eIf, eIfL, eBo, eCall, eCallL, aN, aI, aR, aO, eStr, eSLen, eSAt, eSIdx, eLI, eI2L, eLB, cI, cZ, cL, cAnd, cOr, cNot, cIf, Option.bind_some, Option.bind_none, List.getElem?_cons_zero, List.getElem?_cons_succ, List.set_cons_zero, List.set_cons_succ, List.length_cons, List.length_nil, List.all_cons, List.all_nil, wIR, List.cons_append, List.nil_append, List.append_nil, List.reduceReplicate, Bool.and_true, Bool.true_and, Bool.and_self, and_true, true_and, and_self, if_true, if_false, reduceCtorEq, Nat.reduceAdd, Nat.reduceSub, Nat.reduceLeDiff, Nat.zero_add, Nat.le_refl, Nat.sub_self, List.replicate_zero, List.replicate_succ, wcmp, decide_eq_true_eq, Bool.false_eq_true, Bool.not_true, Bool.not_false, Bool.not_eq_true, Nat.reduceEqDiff, Nat.succ_ne_zero, Nat.one_ne_zero, Nat.zero_ne_one, not_true_eq_false, not_false_eq_true, decide_true, decide_false, ↓reduceIte]; rfl) (Nat.le_of_ble_eq_true rfl) ?_
  refine gn_R hC (by decide +kernel) (by decide +kernel) (b := fun sh => eFldR sh 11 10 (eLocR 0)) (v := n + 105) (fun X hX => (cFldR hX (cLocR_n hX dX11_init_131 rfl) rfl inw11 rfl (by decide +kernel) (by decide +kernel) rfl wd_555 dX11_init_132)) (eFldR_this (shS_old hsh (by decide +kernel)) hw10_23 (h5000 (show n + 105 < 1000 by omega))) (Nat.le_of_ble_eq_true rfl) ?_
  refine gn_E hC (by decide +kernel) (by decide +kernel) (b := fun _ => eLoc 1) (fun X hX => cLoc_n hX dX11_init_135 rfl) rfl (Nat.le_of_ble_eq_true rfl) ?_
  refine gn_newobj hC (n := n + 108) (ci := 8) rfl inw8 tyX8_ok rfl (by decide +kernel) wd_542 wd_330 wd_122 rfl (by omega) (by decide +kernel) (by decide +kernel) hF35 (wBel_ref (by omega) (wBel_int wBel_nil)) (wBel_int (wBel_ref (by omega) wBel_nil)) dX11_init_136 ?_
  have hF36 : Fr (u_RX11_23 K c n t) (n + 109) := Fr.up hF35
  refine gn_dup hC (by decide +kernel) (by decide +kernel) rfl dX11_init_139 ?_
  refine gn_call hC (S' := [(1, 201)]) (c2 := 110) (sl2 := 10592) (mX8_init K) rfl wd_333 wd_332 wd_122 hy_yX8_init (by decide +kernel) (by decide +kernel) (Or.inl wd_544) (shS_new hC.2.2.2.1 (j := 108)) (n := n + 109) rfl (by simp only [List.length_cons, List.length_nil]; omega) rfl rfl (by decide +kernel) (by decide +kernel) (fun k => (hF35.2 _ k (by omega)).1) hF36 (wBel_ref (by omega) (wBel_int wBel_nil)) (wBel_ref (by omega) (wBel_int (wBel_ref (by omega) wBel_nil))) (Nat.le_of_ble_eq_true rfl) dX11_init_140 ?_
  have hF37 : Fr (u_RX11_24 K c n t) (n + 110) := fr_RX8 K hF36 (by omega)
  change GN _ _ _ _ _ _ _ _ (u_RX11_24 K c n t)
  have hw10_24 : (u_RX11_24 K c n t).2 c 10 = (n + 105) := by show (e_RX8 _ _ _ _).2 _ _ = _; rw [e_RX8_ref (by omega)]; exact hw10_23
  refine gn_aast hC (by decide +kernel) (by decide +kernel) (ci := 8) rfl (by rw [shS_new hC.2.2.2.1 (j := 105)]; rfl) (by rw [shS_new hC.2.2.2.1 (j := 105)]; rfl) (shS_new hC.2.2.2.1 (j := 108)) (by omega) dX11_init_143 ?_
  have hF38 : Fr (u_RX11_25 K c n t) (n + 110) := Fr.put hF37 (by omega) (by omega)
  change GN _ _ _ _ _ _ _ _ (u_RX11_25 K c n t)
  have hw10_25 : (u_RX11_25 K c n t).2 c 10 = (n + 105) := by show (wUR _ _ _ _).2 _ _ = _; rw [wUR_ne (by omega)]; exact hw10_24
  refine gn_S hC (by decide +kernel) (by decide +kernel) (b := fun _ => sInc 1 1) (pB := 0) (pC := 0) (fun X hX => csInc hX dX11_init_144 (by decide +kernel)) (t1 := u_RX11_25 K c n t) (ls1 := [.ref c, .int 2]) rfl ?_
  refine gn_goto (p1 := 125) hC (by decide +kernel) (by decide +kernel) dX11_init_147 rfl ?_
  refine gn_T hC (by decide +kernel) (by decide +kernel) (b := fun _ => cI .lt (eLoc 1) (eI 6)) (fun X hX => ccI_f hX (cLoc_n hX dX11_init_125 rfl) (cBi hX dX11_init_126 (by decide +kernel)) dX11_init_128 rfl rfl) (by simp only [mDen, sSeq, sLoc, sLocR, sLocL, sInc, sPut, sPutZ, sPutO, sAst, sAstO, sAstD, sAstR, sIf, sRet, sRetZ, sRetL, sRetV, sBrk, sCon, sCall, sDrop, sCopy, sSkip, sSw, wSwF, eI, eLoc, eLocR, eLocL, eFld, eFldR, eArr, eArrR, eLen, eB, eD, eU, eIf, eIfL, eBo, eCall, eCallL, aN, aI, aR, aO, eStr, eSLen, eSAt, eSIdx, eLI, eI2L, eLB, cI, cZ, cL, cAnd, cOr, cNot, cIf, Option.bind_some, Option.bind_none, List.getElem?_cons_zero, List.getElem?_cons_succ, List.set_cons_zero, List.set_cons_succ, List.length_cons, List.length_nil, List.all_cons, List.all_nil, wIR, List.cons_append, List.nil_append, List.append_nil, List.reduceReplicate, Bool.and_true, Bool.true_and, Bool.and_self, and_true, true_and, and_self, if_true, if_false, reduceCtorEq, Nat.reduceAdd, Nat.reduceSub, Nat.reduceLeDiff, Nat.zero_add, Nat.le_refl, Nat.sub_self, List.replicate_zero, List.replicate_succ, wcmp, decide_eq_true_eq, Bool.false_eq_true, Bool.not_true, Bool.not_false, Bool.not_eq_true, Nat.reduceEqDiff, Nat.succ_ne_zero, Nat.one_ne_zero, Nat.zero_ne_one, not_true_eq_false, not_false_eq_true, decide_true, decide_false, ↓reduceIte]; rfl) (Nat.le_of_ble_eq_true rfl) ?_
  refine gn_R hC (by decide +kernel) (by decide +kernel) (b := fun sh => eFldR sh 11 10 (eLocR 0)) (v := n + 105) (fun X hX => (cFldR hX (cLocR_n hX dX11_init_131 rfl) rfl inw11 rfl (by decide +kernel) (by decide +kernel) rfl wd_555 dX11_init_132)) (eFldR_this (shS_old hsh (by decide +kernel)) hw10_25 (h5000 (show n + 105 < 1000 by omega))) (Nat.le_of_ble_eq_true rfl) ?_
  refine gn_E hC (by decide +kernel) (by decide +kernel) (b := fun _ => eLoc 1) (fun X hX => cLoc_n hX dX11_init_135 rfl) rfl (Nat.le_of_ble_eq_true rfl) ?_
  refine gn_newobj hC (n := n + 110) (ci := 8) rfl inw8 tyX8_ok rfl (by decide +kernel) wd_542 wd_330 wd_122 rfl (by omega) (by decide +kernel) (by decide +kernel) hF38 (wBel_ref (by omega) (wBel_int wBel_nil)) (wBel_int (wBel_ref (by omega) wBel_nil)) dX11_init_136 ?_
  have hF39 : Fr (u_RX11_25 K c n t) (n + 111) := Fr.up hF38
  refine gn_dup hC (by decide +kernel) (by decide +kernel) rfl dX11_init_139 ?_
  refine gn_call hC (S' := [(1, 201)]) (c2 := 112) (sl2 := 10801) (mX8_init K) rfl wd_333 wd_332 wd_122 hy_yX8_init (by decide +kernel) (by decide +kernel) (Or.inl wd_544) (shS_new hC.2.2.2.1 (j := 110)) (n := n + 111) rfl (by simp only [List.length_cons, List.length_nil]; omega) rfl rfl (by decide +kernel) (by decide +kernel) (fun k => (hF38.2 _ k (by omega)).1) hF39 (wBel_ref (by omega) (wBel_int wBel_nil)) (wBel_ref (by omega) (wBel_int (wBel_ref (by omega) wBel_nil))) (Nat.le_of_ble_eq_true rfl) dX11_init_140 ?_
  have hF40 : Fr (u_RX11_26 K c n t) (n + 112) := fr_RX8 K hF39 (by omega)
  change GN _ _ _ _ _ _ _ _ (u_RX11_26 K c n t)
  have hw10_26 : (u_RX11_26 K c n t).2 c 10 = (n + 105) := by show (e_RX8 _ _ _ _).2 _ _ = _; rw [e_RX8_ref (by omega)]; exact hw10_25
  refine gn_aast hC (by decide +kernel) (by decide +kernel) (ci := 8) rfl (by rw [shS_new hC.2.2.2.1 (j := 105)]; rfl) (by rw [shS_new hC.2.2.2.1 (j := 105)]; rfl) (shS_new hC.2.2.2.1 (j := 110)) (by omega) dX11_init_143 ?_
  have hF41 : Fr (u_RX11_27 K c n t) (n + 112) := Fr.put hF40 (by omega) (by omega)
  change GN _ _ _ _ _ _ _ _ (u_RX11_27 K c n t)
  have hw10_27 : (u_RX11_27 K c n t).2 c 10 = (n + 105) := by show (wUR _ _ _ _).2 _ _ = _; rw [wUR_ne (by omega)]; exact hw10_26
  refine gn_S hC (by decide +kernel) (by decide +kernel) (b := fun _ => sInc 1 1) (pB := 0) (pC := 0) (fun X hX => csInc hX dX11_init_144 (by decide +kernel)) (t1 := u_RX11_27 K c n t) (ls1 := [.ref c, .int 3]) rfl ?_
  refine gn_goto (p1 := 125) hC (by decide +kernel) (by decide +kernel) dX11_init_147 rfl ?_
  refine gn_T hC (by decide +kernel) (by decide +kernel) (b := fun _ => cI .lt (eLoc 1) (eI 6)) (fun X hX => ccI_f hX (cLoc_n hX dX11_init_125 rfl) (cBi hX dX11_init_126 (by decide +kernel)) dX11_init_128 rfl rfl) (by simp only [mDen, sSeq, sLoc, sLocR, sLocL, sInc, sPut, sPutZ, sPutO, sAst, sAstO, sAstD, sAstR, sIf, sRet, sRetZ, sRetL, sRetV, sBrk, sCon, sCall, sDrop, sCopy, sSkip, sSw, wSwF, eI, eLoc, eLocR, eLocL, eFld, eFldR, eArr, eArrR, eLen, eB, eD, eU, eIf, eIfL, eBo, eCall, eCallL, aN, aI, aR, aO, eStr, eSLen, eSAt, eSIdx, eLI, eI2L, eLB, cI, cZ, cL, cAnd, cOr, cNot, cIf, Option.bind_some, Option.bind_none, List.getElem?_cons_zero, List.getElem?_cons_succ, List.set_cons_zero, List.set_cons_succ, List.length_cons, List.length_nil, List.all_cons, List.all_nil, wIR, List.cons_append, List.nil_append, List.append_nil, List.reduceReplicate, Bool.and_true, Bool.true_and, Bool.and_self, and_true, true_and, and_self, if_true, if_false, reduceCtorEq, Nat.reduceAdd, Nat.reduceSub, Nat.reduceLeDiff, Nat.zero_add, Nat.le_refl, Nat.sub_self, List.replicate_zero, List.replicate_succ, wcmp, decide_eq_true_eq, Bool.false_eq_true, Bool.not_true, Bool.not_false, Bool.not_eq_true, Nat.reduceEqDiff, Nat.succ_ne_zero, Nat.one_ne_zero, Nat.zero_ne_one, not_true_eq_false, not_false_eq_true, decide_true, decide_false, ↓reduceIte]; rfl) (Nat.le_of_ble_eq_true rfl) ?_
  refine gn_R hC (by decide +kernel) (by decide +kernel) (b := fun sh => eFldR sh 11 10 (eLocR 0)) (v := n + 105) (fun X hX => (cFldR hX (cLocR_n hX dX11_init_131 rfl) rfl inw11 rfl (by decide +kernel) (by decide +kernel) rfl wd_555 dX11_init_132)) (eFldR_this (shS_old hsh (by decide +kernel)) hw10_27 (h5000 (show n + 105 < 1000 by omega))) (Nat.le_of_ble_eq_true rfl) ?_
  refine gn_E hC (by decide +kernel) (by decide +kernel) (b := fun _ => eLoc 1) (fun X hX => cLoc_n hX dX11_init_135 rfl) rfl (Nat.le_of_ble_eq_true rfl) ?_
  refine gn_newobj hC (n := n + 112) (ci := 8) rfl inw8 tyX8_ok rfl (by decide +kernel) wd_542 wd_330 wd_122 rfl (by omega) (by decide +kernel) (by decide +kernel) hF41 (wBel_ref (by omega) (wBel_int wBel_nil)) (wBel_int (wBel_ref (by omega) wBel_nil)) dX11_init_136 ?_
  have hF42 : Fr (u_RX11_27 K c n t) (n + 113) := Fr.up hF41
  refine gn_dup hC (by decide +kernel) (by decide +kernel) rfl dX11_init_139 ?_
  refine gn_call hC (S' := [(1, 201)]) (c2 := 114) (sl2 := 11010) (mX8_init K) rfl wd_333 wd_332 wd_122 hy_yX8_init (by decide +kernel) (by decide +kernel) (Or.inl wd_544) (shS_new hC.2.2.2.1 (j := 112)) (n := n + 113) rfl (by simp only [List.length_cons, List.length_nil]; omega) rfl rfl (by decide +kernel) (by decide +kernel) (fun k => (hF41.2 _ k (by omega)).1) hF42 (wBel_ref (by omega) (wBel_int wBel_nil)) (wBel_ref (by omega) (wBel_int (wBel_ref (by omega) wBel_nil))) (Nat.le_of_ble_eq_true rfl) dX11_init_140 ?_
  have hF43 : Fr (u_RX11_28 K c n t) (n + 114) := fr_RX8 K hF42 (by omega)
  change GN _ _ _ _ _ _ _ _ (u_RX11_28 K c n t)
  have hw10_28 : (u_RX11_28 K c n t).2 c 10 = (n + 105) := by show (e_RX8 _ _ _ _).2 _ _ = _; rw [e_RX8_ref (by omega)]; exact hw10_27
  refine gn_aast hC (by decide +kernel) (by decide +kernel) (ci := 8) rfl (by rw [shS_new hC.2.2.2.1 (j := 105)]; rfl) (by rw [shS_new hC.2.2.2.1 (j := 105)]; rfl) (shS_new hC.2.2.2.1 (j := 112)) (by omega) dX11_init_143 ?_
  have hF44 : Fr (u_RX11_29 K c n t) (n + 114) := Fr.put hF43 (by omega) (by omega)
  change GN _ _ _ _ _ _ _ _ (u_RX11_29 K c n t)
  have hw10_29 : (u_RX11_29 K c n t).2 c 10 = (n + 105) := by show (wUR _ _ _ _).2 _ _ = _; rw [wUR_ne (by omega)]; exact hw10_28
  refine gn_S hC (by decide +kernel) (by decide +kernel) (b := fun _ => sInc 1 1) (pB := 0) (pC := 0) (fun X hX => csInc hX dX11_init_144 (by decide +kernel)) (t1 := u_RX11_29 K c n t) (ls1 := [.ref c, .int 4]) rfl ?_
  refine gn_goto (p1 := 125) hC (by decide +kernel) (by decide +kernel) dX11_init_147 rfl ?_
  refine gn_T hC (by decide +kernel) (by decide +kernel) (b := fun _ => cI .lt (eLoc 1) (eI 6)) (fun X hX => ccI_f hX (cLoc_n hX dX11_init_125 rfl) (cBi hX dX11_init_126 (by decide +kernel)) dX11_init_128 rfl rfl) (by simp only [mDen, sSeq, sLoc, sLocR, sLocL, sInc, sPut, sPutZ, sPutO, sAst, sAstO, sAstD, sAstR, sIf, sRet, sRetZ, sRetL, sRetV, sBrk, sCon, sCall, sDrop, sCopy, sSkip, sSw, wSwF, eI, eLoc, eLocR, eLocL, eFld, eFldR, eArr, eArrR, eLen, eB, eD, eU, eIf, eIfL, eBo, eCall, eCallL, aN, aI, aR, aO, eStr, eSLen, eSAt, eSIdx, eLI, eI2L, eLB, cI, cZ, cL, cAnd, cOr, cNot, cIf, Option.bind_some, Option.bind_none, List.getElem?_cons_zero, List.getElem?_cons_succ, List.set_cons_zero, List.set_cons_succ, List.length_cons, List.length_nil, List.all_cons, List.all_nil, wIR, List.cons_append, List.nil_append, List.append_nil, List.reduceReplicate, Bool.and_true, Bool.true_and, Bool.and_self, and_true, true_and, and_self, if_true, if_false, reduceCtorEq, Nat.reduceAdd, Nat.reduceSub, Nat.reduceLeDiff, Nat.zero_add, Nat.le_refl, Nat.sub_self, List.replicate_zero, List.replicate_succ, wcmp, decide_eq_true_eq, Bool.false_eq_true, Bool.not_true, Bool.not_false, Bool.not_eq_true, Nat.reduceEqDiff, Nat.succ_ne_zero, Nat.one_ne_zero, Nat.zero_ne_one, not_true_eq_false, not_false_eq_true, decide_true, decide_false, ↓reduceIte]; rfl) (Nat.le_of_ble_eq_true rfl) ?_
  refine gn_R hC (by decide +kernel) (by decide +kernel) (b := fun sh => eFldR sh 11 10 (eLocR 0)) (v := n + 105) (fun X hX => (cFldR hX (cLocR_n hX dX11_init_131 rfl) rfl inw11 rfl (by decide +kernel) (by decide +kernel) rfl wd_555 dX11_init_132)) (eFldR_this (shS_old hsh (by decide +kernel)) hw10_29 (h5000 (show n + 105 < 1000 by omega))) (Nat.le_of_ble_eq_true rfl) ?_
  refine gn_E hC (by decide +kernel) (by decide +kernel) (b := fun _ => eLoc 1) (fun X hX => cLoc_n hX dX11_init_135 rfl) rfl (Nat.le_of_ble_eq_true rfl) ?_
  refine gn_newobj hC (n := n + 114) (ci := 8) rfl inw8 tyX8_ok rfl (by decide +kernel) wd_542 wd_330 wd_122 rfl (by omega) (by decide +kernel) (by decide +kernel) hF44 (wBel_ref (by omega) (wBel_int wBel_nil)) (wBel_int (wBel_ref (by omega) wBel_nil)) dX11_init_136 ?_
  have hF45 : Fr (u_RX11_29 K c n t) (n + 115) := Fr.up hF44
  refine gn_dup hC (by decide +kernel) (by decide +kernel) rfl dX11_init_139 ?_
  refine gn_call hC (S' := [(1, 201)]) (c2 := 116) (sl2 := 11219) (mX8_init K) rfl wd_333 wd_332 wd_122 hy_yX8_init (by decide +kernel) (by decide +kernel) (Or.inl wd_544) (shS_new hC.2.2.2.1 (j := 114)) (n := n + 115) rfl (by simp only [List.length_cons, List.length_nil]; omega) rfl rfl (by decide +kernel) (by decide +kernel) (fun k => (hF44.2 _ k (by omega)).1) hF45 (wBel_ref (by omega) (wBel_int wBel_nil)) (wBel_ref (by omega) (wBel_int (wBel_ref (by omega) wBel_nil))) (Nat.le_of_ble_eq_true rfl) dX11_init_140 ?_
  have hF46 : Fr (u_RX11_30 K c n t) (n + 116) := fr_RX8 K hF45 (by omega)
  change GN _ _ _ _ _ _ _ _ (u_RX11_30 K c n t)
  have hw10_30 : (u_RX11_30 K c n t).2 c 10 = (n + 105) := by show (e_RX8 _ _ _ _).2 _ _ = _; rw [e_RX8_ref (by omega)]; exact hw10_29
  refine gn_aast hC (by decide +kernel) (by decide +kernel) (ci := 8) rfl (by rw [shS_new hC.2.2.2.1 (j := 105)]; rfl) (by rw [shS_new hC.2.2.2.1 (j := 105)]; rfl) (shS_new hC.2.2.2.1 (j := 114)) (by omega) dX11_init_143 ?_
  have hF47 : Fr (u_RX11_31 K c n t) (n + 116) := Fr.put hF46 (by omega) (by omega)
  change GN _ _ _ _ _ _ _ _ (u_RX11_31 K c n t)
  have hw10_31 : (u_RX11_31 K c n t).2 c 10 = (n + 105) := by show (wUR _ _ _ _).2 _ _ = _; rw [wUR_ne (by omega)]; exact hw10_30
  refine gn_S hC (by decide +kernel) (by decide +kernel) (b := fun _ => sInc 1 1) (pB := 0) (pC := 0) (fun X hX => csInc hX dX11_init_144 (by decide +kernel)) (t1 := u_RX11_31 K c n t) (ls1 := [.ref c, .int 5]) rfl ?_
  refine gn_goto (p1 := 125) hC (by decide +kernel) (by decide +kernel) dX11_init_147 rfl ?_
  refine gn_T hC (by decide +kernel) (by decide +kernel) (b := fun _ => cI .lt (eLoc 1) (eI 6)) (fun X hX => ccI_f hX (cLoc_n hX dX11_init_125 rfl) (cBi hX dX11_init_126 (by decide +kernel)) dX11_init_128 rfl rfl) (by simp only [mDen, sSeq, sLoc, sLocR, sLocL, sInc, sPut, sPutZ, sPutO, sAst, sAstO, sAstD, sAstR, sIf, sRet, sRetZ, sRetL, sRetV, sBrk, sCon, sCall, sDrop, sCopy, sSkip, sSw, wSwF, eI, eLoc, eLocR, eLocL, eFld, eFldR, eArr, eArrR, eLen, eB, eD, eU, eIf, eIfL, eBo, eCall, eCallL, aN, aI, aR, aO, eStr, eSLen, eSAt, eSIdx, eLI, eI2L, eLB, cI, cZ, cL, cAnd, cOr, cNot, cIf, Option.bind_some, Option.bind_none, List.getElem?_cons_zero, List.getElem?_cons_succ, List.set_cons_zero, List.set_cons_succ, List.length_cons, List.length_nil, List.all_cons, List.all_nil, wIR, List.cons_append, List.nil_append, List.append_nil, List.reduceReplicate, Bool.and_true, Bool.true_and, Bool.and_self, and_true, true_and, and_self, if_true, if_false, reduceCtorEq, Nat.reduceAdd, Nat.reduceSub, Nat.reduceLeDiff, Nat.zero_add, Nat.le_refl, Nat.sub_self, List.replicate_zero, List.replicate_succ, wcmp, decide_eq_true_eq, Bool.false_eq_true, Bool.not_true, Bool.not_false, Bool.not_eq_true, Nat.reduceEqDiff, Nat.succ_ne_zero, Nat.one_ne_zero, Nat.zero_ne_one, not_true_eq_false, not_false_eq_true, decide_true, decide_false, ↓reduceIte]; rfl) (Nat.le_of_ble_eq_true rfl) ?_
  refine gn_R hC (by decide +kernel) (by decide +kernel) (b := fun sh => eFldR sh 11 10 (eLocR 0)) (v := n + 105) (fun X hX => (cFldR hX (cLocR_n hX dX11_init_131 rfl) rfl inw11 rfl (by decide +kernel) (by decide +kernel) rfl wd_555 dX11_init_132)) (eFldR_this (shS_old hsh (by decide +kernel)) hw10_31 (h5000 (show n + 105 < 1000 by omega))) (Nat.le_of_ble_eq_true rfl) ?_
  refine gn_E hC (by decide +kernel) (by decide +kernel) (b := fun _ => eLoc 1) (fun X hX => cLoc_n hX dX11_init_135 rfl) rfl (Nat.le_of_ble_eq_true rfl) ?_
  refine gn_newobj hC (n := n + 116) (ci := 8) rfl inw8 tyX8_ok rfl (by decide +kernel) wd_542 wd_330 wd_122 rfl (by omega) (by decide +kernel) (by decide +kernel) hF47 (wBel_ref (by omega) (wBel_int wBel_nil)) (wBel_int (wBel_ref (by omega) wBel_nil)) dX11_init_136 ?_
  have hF48 : Fr (u_RX11_31 K c n t) (n + 117) := Fr.up hF47
  refine gn_dup hC (by decide +kernel) (by decide +kernel) rfl dX11_init_139 ?_
  refine gn_call hC (S' := [(1, 201)]) (c2 := 118) (sl2 := 11428) (mX8_init K) rfl wd_333 wd_332 wd_122 hy_yX8_init (by decide +kernel) (by decide +kernel) (Or.inl wd_544) (shS_new hC.2.2.2.1 (j := 116)) (n := n + 117) rfl (by simp only [List.length_cons, List.length_nil]; omega) rfl rfl (by decide +kernel) (by decide +kernel) (fun k => (hF47.2 _ k (by omega)).1) hF48 (wBel_ref (by omega) (wBel_int wBel_nil)) (wBel_ref (by omega) (wBel_int (wBel_ref (by omega) wBel_nil))) (Nat.le_of_ble_eq_true rfl) dX11_init_140 ?_
  have hF49 : Fr (u_RX11_32 K c n t) (n + 118) := fr_RX8 K hF48 (by omega)
  change GN _ _ _ _ _ _ _ _ (u_RX11_32 K c n t)
  have hw10_32 : (u_RX11_32 K c n t).2 c 10 = (n + 105) := by show (e_RX8 _ _ _ _).2 _ _ = _; rw [e_RX8_ref (by omega)]; exact hw10_31
  refine gn_aast hC (by decide +kernel) (by decide +kernel) (ci := 8) rfl (by rw [shS_new hC.2.2.2.1 (j := 105)]; rfl) (by rw [shS_new hC.2.2.2.1 (j := 105)]; rfl) (shS_new hC.2.2.2.1 (j := 116)) (by omega) dX11_init_143 ?_
  have hF50 : Fr (u_RX11_33 K c n t) (n + 118) := Fr.put hF49 (by omega) (by omega)
  change GN _ _ _ _ _ _ _ _ (u_RX11_33 K c n t)
  have hw10_33 : (u_RX11_33 K c n t).2 c 10 = (n + 105) := by show (wUR _ _ _ _).2 _ _ = _; rw [wUR_ne (by omega)]; exact hw10_32
  refine gn_S hC (by decide +kernel) (by decide +kernel) (b := fun _ => sInc 1 1) (pB := 0) (pC := 0) (fun X hX => csInc hX dX11_init_144 (by decide +kernel)) (t1 := u_RX11_33 K c n t) (ls1 := [.ref c, .int 6]) rfl ?_
  refine gn_goto (p1 := 125) hC (by decide +kernel) (by decide +kernel) dX11_init_147 rfl ?_
  refine gn_F hC (by decide +kernel) (by decide +kernel) (b := fun _ => cI .lt (eLoc 1) (eI 6)) (fun X hX => ccI_f hX (cLoc_n hX dX11_init_125 rfl) (cBi hX dX11_init_126 (by decide +kernel)) dX11_init_128 rfl rfl) (by simp only [mDen, sSeq, sLoc, sLocR, sLocL, sInc, sPut, sPutZ, sPutO, sAst, sAstO, sAstD, sAstR, sIf, sRet, sRetZ, sRetL, sRetV, sBrk, sCon, sCall, sDrop, sCopy, sSkip, sSw, wSwF, eI, eLoc, eLocR, eLocL, eFld, eFldR, eArr, eArrR, eLen, eB, eD, eU, eIf, eIfL, eBo, eCall, eCallL, aN, aI, aR, aO, eStr, eSLen, eSAt, eSIdx, eLI, eI2L, eLB, cI, cZ, cL, cAnd, cOr, cNot, cIf, Option.bind_some, Option.bind_none, List.getElem?_cons_zero, List.getElem?_cons_succ, List.set_cons_zero, List.set_cons_succ, List.length_cons, List.length_nil, List.all_cons, List.all_nil, wIR, List.cons_append, List.nil_append, List.append_nil, List.reduceReplicate, Bool.and_true, Bool.true_and, Bool.and_self, and_true, true_and, and_self, if_true, if_false, reduceCtorEq, Nat.reduceAdd, Nat.reduceSub, Nat.reduceLeDiff, Nat.zero_add, Nat.le_refl, Nat.sub_self, List.replicate_zero, List.replicate_succ, wcmp, decide_eq_true_eq, Bool.false_eq_true, Bool.not_true, Bool.not_false, Bool.not_eq_true, Nat.reduceEqDiff, Nat.succ_ne_zero, Nat.one_ne_zero, Nat.zero_ne_one, not_true_eq_false, not_false_eq_true, decide_true, decide_false, ↓reduceIte]; rfl) (Nat.le_of_ble_eq_true rfl) ?_
  exact hend 150 _ dX11_init_150
