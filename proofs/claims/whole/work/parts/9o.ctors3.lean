theorem T12_0 : TX12 0 = ("WoundTapeModel", "w", "[I", true) := by decide +kernel
theorem T12_1 : TX12 1 = ("WoundTapeModel", "kept", "[I", true) := by decide +kernel
theorem T12_2 : TX12 2 = ("WoundTapeModel", "back", "[I", true) := by decide +kernel
theorem T12_3 : TX12 3 = ("WoundTapeModel", "next", "[I", true) := by decide +kernel
theorem T12_6 : TX12 6 = ("WoundTapeModel", "freshLine", "[I", true) := by decide +kernel
theorem T12_7 : TX12 7 = ("WoundTapeModel", "freshStep", "[I", true) := by decide +kernel
theorem T12_8 : TX12 8 = ("WoundTapeModel", "freshSong", "[I", true) := by decide +kernel
theorem T12_9 : TX12 9 = ("WoundTapeModel", "freshSide", "[I", true) := by decide +kernel
theorem T12_10 : TX12 10 = ("WoundTapeModel", "freshDeed", "[I", true) := by decide +kernel
theorem T12_11 : TX12 11 = ("WoundTapeModel", "freshRow", "[I", true) := by decide +kernel
theorem T12_12 : TX12 12 = ("WoundTapeModel", "tape", "[I", true) := by decide +kernel
theorem T12_13 : TX12 13 = ("WoundTapeModel", "pile", "[I", true) := by decide +kernel
theorem T12_14 : TX12 14 = ("WoundTapeModel", "facts", "[I", true) := by decide +kernel
theorem T12_32 : TX12 32 = ("WoundTapeModel", "faultPlace", "I", false) := by decide +kernel
theorem T12_37 : TX12 37 = ("WoundTapeModel", "laid", "[I", true) := by decide +kernel
theorem T12_38 : TX12 38 = ("WoundTapeModel", "alike", "[I", true) := by decide +kernel
theorem T12_39 : TX12 39 = ("WoundTapeModel", "order", "[I", true) := by decide +kernel
theorem T12_40 : TX12 40 = ("WoundTapeModel", "bestOrder", "[I", true) := by decide +kernel
theorem T12_41 : TX12 41 = ("WoundTapeModel", "begin", "[I", true) := by decide +kernel
def u_RX12_1 (K : Nat) (c n : Nat) (t : wS) : wS := wUR (t) c 0 n
def u_RX12_2 (K : Nat) (c n : Nat) (t : wS) : wS := wUR (u_RX12_1 K c n t) c 1 (n + 1)
def u_RX12_3 (K : Nat) (c n : Nat) (t : wS) : wS := wUR (u_RX12_2 K c n t) c 2 (n + 2)
def u_RX12_4 (K : Nat) (c n : Nat) (t : wS) : wS := wUR (u_RX12_3 K c n t) c 3 (n + 3)
def u_RX12_5 (K : Nat) (c n : Nat) (t : wS) : wS := wUR (u_RX12_4 K c n t) c 6 (n + 4)
def u_RX12_6 (K : Nat) (c n : Nat) (t : wS) : wS := wUR (u_RX12_5 K c n t) c 7 (n + 5)
def u_RX12_7 (K : Nat) (c n : Nat) (t : wS) : wS := wUR (u_RX12_6 K c n t) c 8 (n + 6)
def u_RX12_8 (K : Nat) (c n : Nat) (t : wS) : wS := wUR (u_RX12_7 K c n t) c 9 (n + 7)
def u_RX12_9 (K : Nat) (c n : Nat) (t : wS) : wS := wUR (u_RX12_8 K c n t) c 10 (n + 8)
def u_RX12_10 (K : Nat) (c n : Nat) (t : wS) : wS := wUR (u_RX12_9 K c n t) c 11 (n + 9)
def u_RX12_11 (K : Nat) (c n : Nat) (t : wS) : wS := wUR (u_RX12_10 K c n t) c 12 (n + 10)
def u_RX12_12 (K : Nat) (c n : Nat) (t : wS) : wS := wUR (u_RX12_11 K c n t) c 13 (n + 11)
def u_RX12_13 (K : Nat) (c n : Nat) (t : wS) : wS := wUR (u_RX12_12 K c n t) c 14 (n + 12)
def u_RX12_14 (K : Nat) (c n : Nat) (t : wS) : wS := wUI (u_RX12_13 K c n t) c 32 (-1)
def u_RX12_15 (K : Nat) (c n : Nat) (t : wS) : wS := wUR (u_RX12_14 K c n t) c 37 (n + 13)
def u_RX12_16 (K : Nat) (c n : Nat) (t : wS) : wS := wUR (u_RX12_15 K c n t) c 38 (n + 14)
def u_RX12_17 (K : Nat) (c n : Nat) (t : wS) : wS := wUR (u_RX12_16 K c n t) c 39 (n + 15)
def u_RX12_18 (K : Nat) (c n : Nat) (t : wS) : wS := wUR (u_RX12_17 K c n t) c 40 (n + 16)
def u_RX12_19 (K : Nat) (c n : Nat) (t : wS) : wS := wUR (u_RX12_18 K c n t) c 41 (n + 17)
def u_RX12_20 (K : Nat) (c n : Nat) (t : wS) : wS := e_RX12_last K c n (u_RX12_19 K c n t)
/-- WoundTapeModel: 18 cells of 18787 slots -/
def e_RX12 (K : Nat) (c n : Nat) (t : wS) : wS := u_RX12_20 K c n t
theorem fr_RX12 (K : Nat) {c n : Nat} {t : wS} (hF : Fr t n) (hc : c < n) : Fr (e_RX12 K c n t) (n + 18) := by
  have hF1 : Fr (t) (n + 1) := Fr.up hF
  have hF2 : Fr (u_RX12_1 K c n t) (n + 1) := Fr.put hF1 (by omega) (by omega)
  have hF3 : Fr (u_RX12_1 K c n t) (n + 2) := Fr.up hF2
  have hF4 : Fr (u_RX12_2 K c n t) (n + 2) := Fr.put hF3 (by omega) (by omega)
  have hF5 : Fr (u_RX12_2 K c n t) (n + 3) := Fr.up hF4
  have hF6 : Fr (u_RX12_3 K c n t) (n + 3) := Fr.put hF5 (by omega) (by omega)
  have hF7 : Fr (u_RX12_3 K c n t) (n + 4) := Fr.up hF6
  have hF8 : Fr (u_RX12_4 K c n t) (n + 4) := Fr.put hF7 (by omega) (by omega)
  have hF9 : Fr (u_RX12_4 K c n t) (n + 5) := Fr.up hF8
  have hF10 : Fr (u_RX12_5 K c n t) (n + 5) := Fr.put hF9 (by omega) (by omega)
  have hF11 : Fr (u_RX12_5 K c n t) (n + 6) := Fr.up hF10
  have hF12 : Fr (u_RX12_6 K c n t) (n + 6) := Fr.put hF11 (by omega) (by omega)
  have hF13 : Fr (u_RX12_6 K c n t) (n + 7) := Fr.up hF12
  have hF14 : Fr (u_RX12_7 K c n t) (n + 7) := Fr.put hF13 (by omega) (by omega)
  have hF15 : Fr (u_RX12_7 K c n t) (n + 8) := Fr.up hF14
  have hF16 : Fr (u_RX12_8 K c n t) (n + 8) := Fr.put hF15 (by omega) (by omega)
  have hF17 : Fr (u_RX12_8 K c n t) (n + 9) := Fr.up hF16
  have hF18 : Fr (u_RX12_9 K c n t) (n + 9) := Fr.put hF17 (by omega) (by omega)
  have hF19 : Fr (u_RX12_9 K c n t) (n + 10) := Fr.up hF18
  have hF20 : Fr (u_RX12_10 K c n t) (n + 10) := Fr.put hF19 (by omega) (by omega)
  have hF21 : Fr (u_RX12_10 K c n t) (n + 11) := Fr.up hF20
  have hF22 : Fr (u_RX12_11 K c n t) (n + 11) := Fr.put hF21 (by omega) (by omega)
  have hF23 : Fr (u_RX12_11 K c n t) (n + 12) := Fr.up hF22
  have hF24 : Fr (u_RX12_12 K c n t) (n + 12) := Fr.put hF23 (by omega) (by omega)
  have hF25 : Fr (u_RX12_12 K c n t) (n + 13) := Fr.up hF24
  have hF26 : Fr (u_RX12_13 K c n t) (n + 13) := Fr.put hF25 (by omega) (by omega)
  have hF27 : Fr (u_RX12_14 K c n t) (n + 13) := Fr.int hF26 rfl (fun q hq => if_neg (by omega))
  have hF28 : Fr (u_RX12_14 K c n t) (n + 14) := Fr.up hF27
  have hF29 : Fr (u_RX12_15 K c n t) (n + 14) := Fr.put hF28 (by omega) (by omega)
  have hF30 : Fr (u_RX12_15 K c n t) (n + 15) := Fr.up hF29
  have hF31 : Fr (u_RX12_16 K c n t) (n + 15) := Fr.put hF30 (by omega) (by omega)
  have hF32 : Fr (u_RX12_16 K c n t) (n + 16) := Fr.up hF31
  have hF33 : Fr (u_RX12_17 K c n t) (n + 16) := Fr.put hF32 (by omega) (by omega)
  have hF34 : Fr (u_RX12_17 K c n t) (n + 17) := Fr.up hF33
  have hF35 : Fr (u_RX12_18 K c n t) (n + 17) := Fr.put hF34 (by omega) (by omega)
  have hF36 : Fr (u_RX12_18 K c n t) (n + 18) := Fr.up hF35
  have hF37 : Fr (u_RX12_19 K c n t) (n + 18) := Fr.put hF36 (by omega) (by omega)
  have hF38 : Fr (u_RX12_20 K c n t) (n + 18) := fr_RX12_last K hF37 (by omega)
  exact hF38
set_option maxHeartbeats 8000000 in
set_option maxRecDepth 4000 in
theorem mX12_init (K : Nat) (hK : 16777216 ≤ K) : MetN yX12_init cX12_init 2 3 [(1, 2440), (1, 2440), (1, 1248), (1, 201), (1, 64), (1, 820), (1, 56), (1, 402), (1, 60), (1, 48), (1, 400), (1, 420), (1, 8), (1, 10050), (1, 100), (1, 8), (1, 8), (1, 14)] 18787 12 (e_RX12 K) := by
  refine mMetN (own := RX12) rfl rfl (by decide +kernel) (by decide) (by decide) fun X0 n c t hC hini hsh hcn hN hF hz hend => ?_
  simp only [List.length_cons, List.length_nil] at hN
  have hb : ∀ k, k < 18 → n + k < 1000 := fun k hk => by omega
  have hcb : ∀ k, c < n + k := fun k => by omega
  have hn0 : n < 1000 := by omega
  have h50 : ¬ n = 5000 := by omega
  have h5 : ∀ k, k < 18 → ¬ n + k = 5000 := fun k hk => by omega
  have hl0 : ∀ k, 0 < k → n < n + k := fun k hk => by omega
  have hlt : ∀ j k, j < k → n + j < n + k := fun j k hk => by omega
  refine gn_R hC (by decide +kernel) (by decide +kernel) (b := fun _ => eLocR 0) (fun X hX => cLocR_n hX dX12_init_0 rfl) rfl (Nat.le_of_ble_eq_true rfl) ?_
  refine gn_obj hC (by decide +kernel) (by decide +kernel) wd_1347 wd_142 wd_143 (Nat.le_of_ble_eq_true rfl) dX12_init_1 ?_
  refine gn_R hC (by decide +kernel) (by decide +kernel) (b := fun _ => eLocR 0) (fun X hX => cLocR_n hX dX12_init_4 rfl) rfl (Nat.le_of_ble_eq_true rfl) ?_
  refine gn_E hC (by decide +kernel) (by decide +kernel) (b := fun _ => eI 2440) (fun X hX => cSi hX dX12_init_5 (by decide +kernel)) rfl (Nat.le_of_ble_eq_true rfl) ?_
  refine gn_newarr hC (N := 2440) (n := n + 0) (by decide +kernel) (by decide +kernel) (by decide +kernel) rfl (by first | exact hcb _ | exact hb _ (by decide) | exact hlt _ _ (by decide) | exact hl0 _ (by decide) | exact h5 _ (by decide) | exact h50 | exact hcn | exact hn0) (by decide +kernel) (by decide +kernel) hF (wBel_ref (by first | exact hcb _ | exact hb _ (by decide) | exact hlt _ _ (by decide) | exact hl0 _ (by decide) | exact h5 _ (by decide) | exact h50 | exact hcn | exact hn0) (wBel_jk wBel_nil)) (wBel_ref (by first | exact hcb _ | exact hb _ (by decide) | exact hlt _ _ (by decide) | exact hl0 _ (by decide) | exact h5 _ (by decide) | exact h50 | exact hcn | exact hn0) wBel_nil) dX12_init_8 ?_
  have hF1 : Fr (t) (n + 1) := Fr.up hF
  refine gn_putR hC (by decide +kernel) (by decide +kernel) hini (ci := 12) (k := 0) rfl inw12 rfl (by decide +kernel) (by decide +kernel) T12_0 rfl wd_1356 tyX12_ok nmX12 rfl (fun a => ⟨rfl, rfl⟩) (shS_old hsh (by decide +kernel)) (by first | exact hcb _ | exact hb _ (by decide) | exact hlt _ _ (by decide) | exact hl0 _ (by decide) | exact h5 _ (by decide) | exact h50 | exact hcn | exact hn0) dX12_init_10 ?_
  have hF2 : Fr (u_RX12_1 K c n t) (n + 1) := Fr.put hF1 (by first | exact hcb _ | exact hb _ (by decide) | exact hlt _ _ (by decide) | exact hl0 _ (by decide) | exact h5 _ (by decide) | exact h50 | exact hcn | exact hn0) (by first | exact hcb _ | exact hb _ (by decide) | exact hlt _ _ (by decide) | exact hl0 _ (by decide) | exact h5 _ (by decide) | exact h50 | exact hcn | exact hn0)
  change GN _ _ _ _ _ _ _ _ (u_RX12_1 K c n t)
  have hw0_1 : (u_RX12_1 K c n t).2 c 0 = n := by show (wUR _ _ _ _).2 _ _ = _; rw [wUR_at, if_pos rfl, if_pos rfl]
  refine gn_R hC (by decide +kernel) (by decide +kernel) (b := fun _ => eLocR 0) (fun X hX => cLocR_n hX dX12_init_13 rfl) rfl (Nat.le_of_ble_eq_true rfl) ?_
  refine gn_E hC (by decide +kernel) (by decide +kernel) (b := fun _ => eI 2440) (fun X hX => cSi hX dX12_init_14 (by decide +kernel)) rfl (Nat.le_of_ble_eq_true rfl) ?_
  refine gn_newarr hC (N := 2440) (n := n + 1) (by decide +kernel) (by decide +kernel) (by decide +kernel) rfl (by first | exact hcb _ | exact hb _ (by decide) | exact hlt _ _ (by decide) | exact hl0 _ (by decide) | exact h5 _ (by decide) | exact h50 | exact hcn | exact hn0) (by decide +kernel) (by decide +kernel) hF2 (wBel_ref (by first | exact hcb _ | exact hb _ (by decide) | exact hlt _ _ (by decide) | exact hl0 _ (by decide) | exact h5 _ (by decide) | exact h50 | exact hcn | exact hn0) (wBel_jk wBel_nil)) (wBel_ref (by first | exact hcb _ | exact hb _ (by decide) | exact hlt _ _ (by decide) | exact hl0 _ (by decide) | exact h5 _ (by decide) | exact h50 | exact hcn | exact hn0) wBel_nil) dX12_init_17 ?_
  have hF3 : Fr (u_RX12_1 K c n t) (n + 2) := Fr.up hF2
  refine gn_putR hC (by decide +kernel) (by decide +kernel) hini (ci := 12) (k := 1) rfl inw12 rfl (by decide +kernel) (by decide +kernel) T12_1 rfl wd_1357 tyX12_ok nmX12 rfl (fun a => ⟨rfl, rfl⟩) (shS_old hsh (by decide +kernel)) (by first | exact hcb _ | exact hb _ (by decide) | exact hlt _ _ (by decide) | exact hl0 _ (by decide) | exact h5 _ (by decide) | exact h50 | exact hcn | exact hn0) dX12_init_19 ?_
  have hF4 : Fr (u_RX12_2 K c n t) (n + 2) := Fr.put hF3 (by first | exact hcb _ | exact hb _ (by decide) | exact hlt _ _ (by decide) | exact hl0 _ (by decide) | exact h5 _ (by decide) | exact h50 | exact hcn | exact hn0) (by first | exact hcb _ | exact hb _ (by decide) | exact hlt _ _ (by decide) | exact hl0 _ (by decide) | exact h5 _ (by decide) | exact h50 | exact hcn | exact hn0)
  change GN _ _ _ _ _ _ _ _ (u_RX12_2 K c n t)
  have hw0_2 : (u_RX12_2 K c n t).2 c 0 = n := by show (wUR _ _ _ _).2 _ _ = _; rw [wUR_ns (by decide +kernel)]; exact hw0_1
  refine gn_R hC (by decide +kernel) (by decide +kernel) (b := fun _ => eLocR 0) (fun X hX => cLocR_n hX dX12_init_22 rfl) rfl (Nat.le_of_ble_eq_true rfl) ?_
  refine gn_E hC (by decide +kernel) (by decide +kernel) (b := fun _ => eI 1248) (fun X hX => cSi hX dX12_init_23 (by decide +kernel)) rfl (Nat.le_of_ble_eq_true rfl) ?_
  refine gn_newarr hC (N := 1248) (n := n + 2) (by decide +kernel) (by decide +kernel) (by decide +kernel) rfl (by first | exact hcb _ | exact hb _ (by decide) | exact hlt _ _ (by decide) | exact hl0 _ (by decide) | exact h5 _ (by decide) | exact h50 | exact hcn | exact hn0) (by decide +kernel) (by decide +kernel) hF4 (wBel_ref (by first | exact hcb _ | exact hb _ (by decide) | exact hlt _ _ (by decide) | exact hl0 _ (by decide) | exact h5 _ (by decide) | exact h50 | exact hcn | exact hn0) (wBel_jk wBel_nil)) (wBel_ref (by first | exact hcb _ | exact hb _ (by decide) | exact hlt _ _ (by decide) | exact hl0 _ (by decide) | exact h5 _ (by decide) | exact h50 | exact hcn | exact hn0) wBel_nil) dX12_init_26 ?_
  have hF5 : Fr (u_RX12_2 K c n t) (n + 3) := Fr.up hF4
  refine gn_putR hC (by decide +kernel) (by decide +kernel) hini (ci := 12) (k := 2) rfl inw12 rfl (by decide +kernel) (by decide +kernel) T12_2 rfl wd_1358 tyX12_ok nmX12 rfl (fun a => ⟨rfl, rfl⟩) (shS_old hsh (by decide +kernel)) (by first | exact hcb _ | exact hb _ (by decide) | exact hlt _ _ (by decide) | exact hl0 _ (by decide) | exact h5 _ (by decide) | exact h50 | exact hcn | exact hn0) dX12_init_28 ?_
  have hF6 : Fr (u_RX12_3 K c n t) (n + 3) := Fr.put hF5 (by first | exact hcb _ | exact hb _ (by decide) | exact hlt _ _ (by decide) | exact hl0 _ (by decide) | exact h5 _ (by decide) | exact h50 | exact hcn | exact hn0) (by first | exact hcb _ | exact hb _ (by decide) | exact hlt _ _ (by decide) | exact hl0 _ (by decide) | exact h5 _ (by decide) | exact h50 | exact hcn | exact hn0)
  change GN _ _ _ _ _ _ _ _ (u_RX12_3 K c n t)
  have hw0_3 : (u_RX12_3 K c n t).2 c 0 = n := by show (wUR _ _ _ _).2 _ _ = _; rw [wUR_ns (by decide +kernel)]; exact hw0_2
  refine gn_R hC (by decide +kernel) (by decide +kernel) (b := fun _ => eLocR 0) (fun X hX => cLocR_n hX dX12_init_31 rfl) rfl (Nat.le_of_ble_eq_true rfl) ?_
  refine gn_E hC (by decide +kernel) (by decide +kernel) (b := fun _ => eI 201) (fun X hX => cSi hX dX12_init_32 (by decide +kernel)) rfl (Nat.le_of_ble_eq_true rfl) ?_
  refine gn_newarr hC (N := 201) (n := n + 3) (by decide +kernel) (by decide +kernel) (by decide +kernel) rfl (by first | exact hcb _ | exact hb _ (by decide) | exact hlt _ _ (by decide) | exact hl0 _ (by decide) | exact h5 _ (by decide) | exact h50 | exact hcn | exact hn0) (by decide +kernel) (by decide +kernel) hF6 (wBel_ref (by first | exact hcb _ | exact hb _ (by decide) | exact hlt _ _ (by decide) | exact hl0 _ (by decide) | exact h5 _ (by decide) | exact h50 | exact hcn | exact hn0) (wBel_jk wBel_nil)) (wBel_ref (by first | exact hcb _ | exact hb _ (by decide) | exact hlt _ _ (by decide) | exact hl0 _ (by decide) | exact h5 _ (by decide) | exact h50 | exact hcn | exact hn0) wBel_nil) dX12_init_35 ?_
  have hF7 : Fr (u_RX12_3 K c n t) (n + 4) := Fr.up hF6
  refine gn_putR hC (by decide +kernel) (by decide +kernel) hini (ci := 12) (k := 3) rfl inw12 rfl (by decide +kernel) (by decide +kernel) T12_3 rfl wd_1359 tyX12_ok nmX12 rfl (fun a => ⟨rfl, rfl⟩) (shS_old hsh (by decide +kernel)) (by first | exact hcb _ | exact hb _ (by decide) | exact hlt _ _ (by decide) | exact hl0 _ (by decide) | exact h5 _ (by decide) | exact h50 | exact hcn | exact hn0) dX12_init_37 ?_
  have hF8 : Fr (u_RX12_4 K c n t) (n + 4) := Fr.put hF7 (by first | exact hcb _ | exact hb _ (by decide) | exact hlt _ _ (by decide) | exact hl0 _ (by decide) | exact h5 _ (by decide) | exact h50 | exact hcn | exact hn0) (by first | exact hcb _ | exact hb _ (by decide) | exact hlt _ _ (by decide) | exact hl0 _ (by decide) | exact h5 _ (by decide) | exact h50 | exact hcn | exact hn0)
  change GN _ _ _ _ _ _ _ _ (u_RX12_4 K c n t)
  have hw0_4 : (u_RX12_4 K c n t).2 c 0 = n := by show (wUR _ _ _ _).2 _ _ = _; rw [wUR_ns (by decide +kernel)]; exact hw0_3
  refine gn_R hC (by decide +kernel) (by decide +kernel) (b := fun _ => eLocR 0) (fun X hX => cLocR_n hX dX12_init_40 rfl) rfl (Nat.le_of_ble_eq_true rfl) ?_
  refine gn_E hC (by decide +kernel) (by decide +kernel) (b := fun _ => eI 64) (fun X hX => cBi hX dX12_init_41 (by decide +kernel)) rfl (Nat.le_of_ble_eq_true rfl) ?_
  refine gn_newarr hC (N := 64) (n := n + 4) (by decide +kernel) (by decide +kernel) (by decide +kernel) rfl (by first | exact hcb _ | exact hb _ (by decide) | exact hlt _ _ (by decide) | exact hl0 _ (by decide) | exact h5 _ (by decide) | exact h50 | exact hcn | exact hn0) (by decide +kernel) (by decide +kernel) hF8 (wBel_ref (by first | exact hcb _ | exact hb _ (by decide) | exact hlt _ _ (by decide) | exact hl0 _ (by decide) | exact h5 _ (by decide) | exact h50 | exact hcn | exact hn0) (wBel_jk wBel_nil)) (wBel_ref (by first | exact hcb _ | exact hb _ (by decide) | exact hlt _ _ (by decide) | exact hl0 _ (by decide) | exact h5 _ (by decide) | exact h50 | exact hcn | exact hn0) wBel_nil) dX12_init_43 ?_
  have hF9 : Fr (u_RX12_4 K c n t) (n + 5) := Fr.up hF8
  refine gn_putR hC (by decide +kernel) (by decide +kernel) hini (ci := 12) (k := 6) rfl inw12 rfl (by decide +kernel) (by decide +kernel) T12_6 rfl wd_1362 tyX12_ok nmX12 rfl (fun a => ⟨rfl, rfl⟩) (shS_old hsh (by decide +kernel)) (by first | exact hcb _ | exact hb _ (by decide) | exact hlt _ _ (by decide) | exact hl0 _ (by decide) | exact h5 _ (by decide) | exact h50 | exact hcn | exact hn0) dX12_init_45 ?_
  have hF10 : Fr (u_RX12_5 K c n t) (n + 5) := Fr.put hF9 (by first | exact hcb _ | exact hb _ (by decide) | exact hlt _ _ (by decide) | exact hl0 _ (by decide) | exact h5 _ (by decide) | exact h50 | exact hcn | exact hn0) (by first | exact hcb _ | exact hb _ (by decide) | exact hlt _ _ (by decide) | exact hl0 _ (by decide) | exact h5 _ (by decide) | exact h50 | exact hcn | exact hn0)
  change GN _ _ _ _ _ _ _ _ (u_RX12_5 K c n t)
  have hw0_5 : (u_RX12_5 K c n t).2 c 0 = n := by show (wUR _ _ _ _).2 _ _ = _; rw [wUR_ns (by decide +kernel)]; exact hw0_4
  refine gn_R hC (by decide +kernel) (by decide +kernel) (b := fun _ => eLocR 0) (fun X hX => cLocR_n hX dX12_init_48 rfl) rfl (Nat.le_of_ble_eq_true rfl) ?_
  refine gn_E hC (by decide +kernel) (by decide +kernel) (b := fun _ => eI 820) (fun X hX => cSi hX dX12_init_49 (by decide +kernel)) rfl (Nat.le_of_ble_eq_true rfl) ?_
  refine gn_newarr hC (N := 820) (n := n + 5) (by decide +kernel) (by decide +kernel) (by decide +kernel) rfl (by first | exact hcb _ | exact hb _ (by decide) | exact hlt _ _ (by decide) | exact hl0 _ (by decide) | exact h5 _ (by decide) | exact h50 | exact hcn | exact hn0) (by decide +kernel) (by decide +kernel) hF10 (wBel_ref (by first | exact hcb _ | exact hb _ (by decide) | exact hlt _ _ (by decide) | exact hl0 _ (by decide) | exact h5 _ (by decide) | exact h50 | exact hcn | exact hn0) (wBel_jk wBel_nil)) (wBel_ref (by first | exact hcb _ | exact hb _ (by decide) | exact hlt _ _ (by decide) | exact hl0 _ (by decide) | exact h5 _ (by decide) | exact h50 | exact hcn | exact hn0) wBel_nil) dX12_init_52 ?_
  have hF11 : Fr (u_RX12_5 K c n t) (n + 6) := Fr.up hF10
  refine gn_putR hC (by decide +kernel) (by decide +kernel) hini (ci := 12) (k := 7) rfl inw12 rfl (by decide +kernel) (by decide +kernel) T12_7 rfl wd_1363 tyX12_ok nmX12 rfl (fun a => ⟨rfl, rfl⟩) (shS_old hsh (by decide +kernel)) (by first | exact hcb _ | exact hb _ (by decide) | exact hlt _ _ (by decide) | exact hl0 _ (by decide) | exact h5 _ (by decide) | exact h50 | exact hcn | exact hn0) dX12_init_54 ?_
  have hF12 : Fr (u_RX12_6 K c n t) (n + 6) := Fr.put hF11 (by first | exact hcb _ | exact hb _ (by decide) | exact hlt _ _ (by decide) | exact hl0 _ (by decide) | exact h5 _ (by decide) | exact h50 | exact hcn | exact hn0) (by first | exact hcb _ | exact hb _ (by decide) | exact hlt _ _ (by decide) | exact hl0 _ (by decide) | exact h5 _ (by decide) | exact h50 | exact hcn | exact hn0)
  change GN _ _ _ _ _ _ _ _ (u_RX12_6 K c n t)
  have hw0_6 : (u_RX12_6 K c n t).2 c 0 = n := by show (wUR _ _ _ _).2 _ _ = _; rw [wUR_ns (by decide +kernel)]; exact hw0_5
  refine gn_R hC (by decide +kernel) (by decide +kernel) (b := fun _ => eLocR 0) (fun X hX => cLocR_n hX dX12_init_57 rfl) rfl (Nat.le_of_ble_eq_true rfl) ?_
  refine gn_E hC (by decide +kernel) (by decide +kernel) (b := fun _ => eI 56) (fun X hX => cBi hX dX12_init_58 (by decide +kernel)) rfl (Nat.le_of_ble_eq_true rfl) ?_
  refine gn_newarr hC (N := 56) (n := n + 6) (by decide +kernel) (by decide +kernel) (by decide +kernel) rfl (by first | exact hcb _ | exact hb _ (by decide) | exact hlt _ _ (by decide) | exact hl0 _ (by decide) | exact h5 _ (by decide) | exact h50 | exact hcn | exact hn0) (by decide +kernel) (by decide +kernel) hF12 (wBel_ref (by first | exact hcb _ | exact hb _ (by decide) | exact hlt _ _ (by decide) | exact hl0 _ (by decide) | exact h5 _ (by decide) | exact h50 | exact hcn | exact hn0) (wBel_jk wBel_nil)) (wBel_ref (by first | exact hcb _ | exact hb _ (by decide) | exact hlt _ _ (by decide) | exact hl0 _ (by decide) | exact h5 _ (by decide) | exact h50 | exact hcn | exact hn0) wBel_nil) dX12_init_60 ?_
  have hF13 : Fr (u_RX12_6 K c n t) (n + 7) := Fr.up hF12
  refine gn_putR hC (by decide +kernel) (by decide +kernel) hini (ci := 12) (k := 8) rfl inw12 rfl (by decide +kernel) (by decide +kernel) T12_8 rfl wd_1364 tyX12_ok nmX12 rfl (fun a => ⟨rfl, rfl⟩) (shS_old hsh (by decide +kernel)) (by first | exact hcb _ | exact hb _ (by decide) | exact hlt _ _ (by decide) | exact hl0 _ (by decide) | exact h5 _ (by decide) | exact h50 | exact hcn | exact hn0) dX12_init_62 ?_
  have hF14 : Fr (u_RX12_7 K c n t) (n + 7) := Fr.put hF13 (by first | exact hcb _ | exact hb _ (by decide) | exact hlt _ _ (by decide) | exact hl0 _ (by decide) | exact h5 _ (by decide) | exact h50 | exact hcn | exact hn0) (by first | exact hcb _ | exact hb _ (by decide) | exact hlt _ _ (by decide) | exact hl0 _ (by decide) | exact h5 _ (by decide) | exact h50 | exact hcn | exact hn0)
  change GN _ _ _ _ _ _ _ _ (u_RX12_7 K c n t)
  have hw0_7 : (u_RX12_7 K c n t).2 c 0 = n := by show (wUR _ _ _ _).2 _ _ = _; rw [wUR_ns (by decide +kernel)]; exact hw0_6
  refine gn_R hC (by decide +kernel) (by decide +kernel) (b := fun _ => eLocR 0) (fun X hX => cLocR_n hX dX12_init_65 rfl) rfl (Nat.le_of_ble_eq_true rfl) ?_
  refine gn_E hC (by decide +kernel) (by decide +kernel) (b := fun _ => eI 402) (fun X hX => cSi hX dX12_init_66 (by decide +kernel)) rfl (Nat.le_of_ble_eq_true rfl) ?_
  refine gn_newarr hC (N := 402) (n := n + 7) (by decide +kernel) (by decide +kernel) (by decide +kernel) rfl (by first | exact hcb _ | exact hb _ (by decide) | exact hlt _ _ (by decide) | exact hl0 _ (by decide) | exact h5 _ (by decide) | exact h50 | exact hcn | exact hn0) (by decide +kernel) (by decide +kernel) hF14 (wBel_ref (by first | exact hcb _ | exact hb _ (by decide) | exact hlt _ _ (by decide) | exact hl0 _ (by decide) | exact h5 _ (by decide) | exact h50 | exact hcn | exact hn0) (wBel_jk wBel_nil)) (wBel_ref (by first | exact hcb _ | exact hb _ (by decide) | exact hlt _ _ (by decide) | exact hl0 _ (by decide) | exact h5 _ (by decide) | exact h50 | exact hcn | exact hn0) wBel_nil) dX12_init_69 ?_
  have hF15 : Fr (u_RX12_7 K c n t) (n + 8) := Fr.up hF14
  refine gn_putR hC (by decide +kernel) (by decide +kernel) hini (ci := 12) (k := 9) rfl inw12 rfl (by decide +kernel) (by decide +kernel) T12_9 rfl wd_1365 tyX12_ok nmX12 rfl (fun a => ⟨rfl, rfl⟩) (shS_old hsh (by decide +kernel)) (by first | exact hcb _ | exact hb _ (by decide) | exact hlt _ _ (by decide) | exact hl0 _ (by decide) | exact h5 _ (by decide) | exact h50 | exact hcn | exact hn0) dX12_init_71 ?_
  have hF16 : Fr (u_RX12_8 K c n t) (n + 8) := Fr.put hF15 (by first | exact hcb _ | exact hb _ (by decide) | exact hlt _ _ (by decide) | exact hl0 _ (by decide) | exact h5 _ (by decide) | exact h50 | exact hcn | exact hn0) (by first | exact hcb _ | exact hb _ (by decide) | exact hlt _ _ (by decide) | exact hl0 _ (by decide) | exact h5 _ (by decide) | exact h50 | exact hcn | exact hn0)
  change GN _ _ _ _ _ _ _ _ (u_RX12_8 K c n t)
  have hw0_8 : (u_RX12_8 K c n t).2 c 0 = n := by show (wUR _ _ _ _).2 _ _ = _; rw [wUR_ns (by decide +kernel)]; exact hw0_7
  refine gn_R hC (by decide +kernel) (by decide +kernel) (b := fun _ => eLocR 0) (fun X hX => cLocR_n hX dX12_init_74 rfl) rfl (Nat.le_of_ble_eq_true rfl) ?_
  refine gn_E hC (by decide +kernel) (by decide +kernel) (b := fun _ => eI 60) (fun X hX => cBi hX dX12_init_75 (by decide +kernel)) rfl (Nat.le_of_ble_eq_true rfl) ?_
  refine gn_newarr hC (N := 60) (n := n + 8) (by decide +kernel) (by decide +kernel) (by decide +kernel) rfl (by first | exact hcb _ | exact hb _ (by decide) | exact hlt _ _ (by decide) | exact hl0 _ (by decide) | exact h5 _ (by decide) | exact h50 | exact hcn | exact hn0) (by decide +kernel) (by decide +kernel) hF16 (wBel_ref (by first | exact hcb _ | exact hb _ (by decide) | exact hlt _ _ (by decide) | exact hl0 _ (by decide) | exact h5 _ (by decide) | exact h50 | exact hcn | exact hn0) (wBel_jk wBel_nil)) (wBel_ref (by first | exact hcb _ | exact hb _ (by decide) | exact hlt _ _ (by decide) | exact hl0 _ (by decide) | exact h5 _ (by decide) | exact h50 | exact hcn | exact hn0) wBel_nil) dX12_init_77 ?_
  have hF17 : Fr (u_RX12_8 K c n t) (n + 9) := Fr.up hF16
  refine gn_putR hC (by decide +kernel) (by decide +kernel) hini (ci := 12) (k := 10) rfl inw12 rfl (by decide +kernel) (by decide +kernel) T12_10 rfl wd_1366 tyX12_ok nmX12 rfl (fun a => ⟨rfl, rfl⟩) (shS_old hsh (by decide +kernel)) (by first | exact hcb _ | exact hb _ (by decide) | exact hlt _ _ (by decide) | exact hl0 _ (by decide) | exact h5 _ (by decide) | exact h50 | exact hcn | exact hn0) dX12_init_79 ?_
  have hF18 : Fr (u_RX12_9 K c n t) (n + 9) := Fr.put hF17 (by first | exact hcb _ | exact hb _ (by decide) | exact hlt _ _ (by decide) | exact hl0 _ (by decide) | exact h5 _ (by decide) | exact h50 | exact hcn | exact hn0) (by first | exact hcb _ | exact hb _ (by decide) | exact hlt _ _ (by decide) | exact hl0 _ (by decide) | exact h5 _ (by decide) | exact h50 | exact hcn | exact hn0)
  change GN _ _ _ _ _ _ _ _ (u_RX12_9 K c n t)
  have hw0_9 : (u_RX12_9 K c n t).2 c 0 = n := by show (wUR _ _ _ _).2 _ _ = _; rw [wUR_ns (by decide +kernel)]; exact hw0_8
  refine gn_R hC (by decide +kernel) (by decide +kernel) (b := fun _ => eLocR 0) (fun X hX => cLocR_n hX dX12_init_82 rfl) rfl (Nat.le_of_ble_eq_true rfl) ?_
  refine gn_E hC (by decide +kernel) (by decide +kernel) (b := fun _ => eI 48) (fun X hX => cBi hX dX12_init_83 (by decide +kernel)) rfl (Nat.le_of_ble_eq_true rfl) ?_
  refine gn_newarr hC (N := 48) (n := n + 9) (by decide +kernel) (by decide +kernel) (by decide +kernel) rfl (by first | exact hcb _ | exact hb _ (by decide) | exact hlt _ _ (by decide) | exact hl0 _ (by decide) | exact h5 _ (by decide) | exact h50 | exact hcn | exact hn0) (by decide +kernel) (by decide +kernel) hF18 (wBel_ref (by first | exact hcb _ | exact hb _ (by decide) | exact hlt _ _ (by decide) | exact hl0 _ (by decide) | exact h5 _ (by decide) | exact h50 | exact hcn | exact hn0) (wBel_jk wBel_nil)) (wBel_ref (by first | exact hcb _ | exact hb _ (by decide) | exact hlt _ _ (by decide) | exact hl0 _ (by decide) | exact h5 _ (by decide) | exact h50 | exact hcn | exact hn0) wBel_nil) dX12_init_85 ?_
  have hF19 : Fr (u_RX12_9 K c n t) (n + 10) := Fr.up hF18
  refine gn_putR hC (by decide +kernel) (by decide +kernel) hini (ci := 12) (k := 11) rfl inw12 rfl (by decide +kernel) (by decide +kernel) T12_11 rfl wd_1367 tyX12_ok nmX12 rfl (fun a => ⟨rfl, rfl⟩) (shS_old hsh (by decide +kernel)) (by first | exact hcb _ | exact hb _ (by decide) | exact hlt _ _ (by decide) | exact hl0 _ (by decide) | exact h5 _ (by decide) | exact h50 | exact hcn | exact hn0) dX12_init_87 ?_
  have hF20 : Fr (u_RX12_10 K c n t) (n + 10) := Fr.put hF19 (by first | exact hcb _ | exact hb _ (by decide) | exact hlt _ _ (by decide) | exact hl0 _ (by decide) | exact h5 _ (by decide) | exact h50 | exact hcn | exact hn0) (by first | exact hcb _ | exact hb _ (by decide) | exact hlt _ _ (by decide) | exact hl0 _ (by decide) | exact h5 _ (by decide) | exact h50 | exact hcn | exact hn0)
  change GN _ _ _ _ _ _ _ _ (u_RX12_10 K c n t)
  have hw0_10 : (u_RX12_10 K c n t).2 c 0 = n := by show (wUR _ _ _ _).2 _ _ = _; rw [wUR_ns (by decide +kernel)]; exact hw0_9
  refine gn_R hC (by decide +kernel) (by decide +kernel) (b := fun _ => eLocR 0) (fun X hX => cLocR_n hX dX12_init_90 rfl) rfl (Nat.le_of_ble_eq_true rfl) ?_
  refine gn_E hC (by decide +kernel) (by decide +kernel) (b := fun _ => eI 400) (fun X hX => cSi hX dX12_init_91 (by decide +kernel)) rfl (Nat.le_of_ble_eq_true rfl) ?_
  refine gn_newarr hC (N := 400) (n := n + 10) (by decide +kernel) (by decide +kernel) (by decide +kernel) rfl (by first | exact hcb _ | exact hb _ (by decide) | exact hlt _ _ (by decide) | exact hl0 _ (by decide) | exact h5 _ (by decide) | exact h50 | exact hcn | exact hn0) (by decide +kernel) (by decide +kernel) hF20 (wBel_ref (by first | exact hcb _ | exact hb _ (by decide) | exact hlt _ _ (by decide) | exact hl0 _ (by decide) | exact h5 _ (by decide) | exact h50 | exact hcn | exact hn0) (wBel_jk wBel_nil)) (wBel_ref (by first | exact hcb _ | exact hb _ (by decide) | exact hlt _ _ (by decide) | exact hl0 _ (by decide) | exact h5 _ (by decide) | exact h50 | exact hcn | exact hn0) wBel_nil) dX12_init_94 ?_
  have hF21 : Fr (u_RX12_10 K c n t) (n + 11) := Fr.up hF20
  refine gn_putR hC (by decide +kernel) (by decide +kernel) hini (ci := 12) (k := 12) rfl inw12 rfl (by decide +kernel) (by decide +kernel) T12_12 rfl wd_1368 tyX12_ok nmX12 rfl (fun a => ⟨rfl, rfl⟩) (shS_old hsh (by decide +kernel)) (by first | exact hcb _ | exact hb _ (by decide) | exact hlt _ _ (by decide) | exact hl0 _ (by decide) | exact h5 _ (by decide) | exact h50 | exact hcn | exact hn0) dX12_init_96 ?_
  have hF22 : Fr (u_RX12_11 K c n t) (n + 11) := Fr.put hF21 (by first | exact hcb _ | exact hb _ (by decide) | exact hlt _ _ (by decide) | exact hl0 _ (by decide) | exact h5 _ (by decide) | exact h50 | exact hcn | exact hn0) (by first | exact hcb _ | exact hb _ (by decide) | exact hlt _ _ (by decide) | exact hl0 _ (by decide) | exact h5 _ (by decide) | exact h50 | exact hcn | exact hn0)
  change GN _ _ _ _ _ _ _ _ (u_RX12_11 K c n t)
  have hw0_11 : (u_RX12_11 K c n t).2 c 0 = n := by show (wUR _ _ _ _).2 _ _ = _; rw [wUR_ns (by decide +kernel)]; exact hw0_10
  refine gn_R hC (by decide +kernel) (by decide +kernel) (b := fun _ => eLocR 0) (fun X hX => cLocR_n hX dX12_init_99 rfl) rfl (Nat.le_of_ble_eq_true rfl) ?_
  refine gn_E hC (by decide +kernel) (by decide +kernel) (b := fun _ => eI 420) (fun X hX => cSi hX dX12_init_100 (by decide +kernel)) rfl (Nat.le_of_ble_eq_true rfl) ?_
  refine gn_newarr hC (N := 420) (n := n + 11) (by decide +kernel) (by decide +kernel) (by decide +kernel) rfl (by first | exact hcb _ | exact hb _ (by decide) | exact hlt _ _ (by decide) | exact hl0 _ (by decide) | exact h5 _ (by decide) | exact h50 | exact hcn | exact hn0) (by decide +kernel) (by decide +kernel) hF22 (wBel_ref (by first | exact hcb _ | exact hb _ (by decide) | exact hlt _ _ (by decide) | exact hl0 _ (by decide) | exact h5 _ (by decide) | exact h50 | exact hcn | exact hn0) (wBel_jk wBel_nil)) (wBel_ref (by first | exact hcb _ | exact hb _ (by decide) | exact hlt _ _ (by decide) | exact hl0 _ (by decide) | exact h5 _ (by decide) | exact h50 | exact hcn | exact hn0) wBel_nil) dX12_init_103 ?_
  have hF23 : Fr (u_RX12_11 K c n t) (n + 12) := Fr.up hF22
  refine gn_putR hC (by decide +kernel) (by decide +kernel) hini (ci := 12) (k := 13) rfl inw12 rfl (by decide +kernel) (by decide +kernel) T12_13 rfl wd_1369 tyX12_ok nmX12 rfl (fun a => ⟨rfl, rfl⟩) (shS_old hsh (by decide +kernel)) (by first | exact hcb _ | exact hb _ (by decide) | exact hlt _ _ (by decide) | exact hl0 _ (by decide) | exact h5 _ (by decide) | exact h50 | exact hcn | exact hn0) dX12_init_105 ?_
  have hF24 : Fr (u_RX12_12 K c n t) (n + 12) := Fr.put hF23 (by first | exact hcb _ | exact hb _ (by decide) | exact hlt _ _ (by decide) | exact hl0 _ (by decide) | exact h5 _ (by decide) | exact h50 | exact hcn | exact hn0) (by first | exact hcb _ | exact hb _ (by decide) | exact hlt _ _ (by decide) | exact hl0 _ (by decide) | exact h5 _ (by decide) | exact h50 | exact hcn | exact hn0)
  change GN _ _ _ _ _ _ _ _ (u_RX12_12 K c n t)
  have hw0_12 : (u_RX12_12 K c n t).2 c 0 = n := by show (wUR _ _ _ _).2 _ _ = _; rw [wUR_ns (by decide +kernel)]; exact hw0_11
  refine gn_R hC (by decide +kernel) (by decide +kernel) (b := fun _ => eLocR 0) (fun X hX => cLocR_n hX dX12_init_108 rfl) rfl (Nat.le_of_ble_eq_true rfl) ?_
  refine gn_E hC (by decide +kernel) (by decide +kernel) (b := fun _ => eI 8) (fun X hX => cBi hX dX12_init_109 (by decide +kernel)) rfl (Nat.le_of_ble_eq_true rfl) ?_
  refine gn_newarr hC (N := 8) (n := n + 12) (by decide +kernel) (by decide +kernel) (by decide +kernel) rfl (by first | exact hcb _ | exact hb _ (by decide) | exact hlt _ _ (by decide) | exact hl0 _ (by decide) | exact h5 _ (by decide) | exact h50 | exact hcn | exact hn0) (by decide +kernel) (by decide +kernel) hF24 (wBel_ref (by first | exact hcb _ | exact hb _ (by decide) | exact hlt _ _ (by decide) | exact hl0 _ (by decide) | exact h5 _ (by decide) | exact h50 | exact hcn | exact hn0) (wBel_jk wBel_nil)) (wBel_ref (by first | exact hcb _ | exact hb _ (by decide) | exact hlt _ _ (by decide) | exact hl0 _ (by decide) | exact h5 _ (by decide) | exact h50 | exact hcn | exact hn0) wBel_nil) dX12_init_111 ?_
  have hF25 : Fr (u_RX12_12 K c n t) (n + 13) := Fr.up hF24
  refine gn_putR hC (by decide +kernel) (by decide +kernel) hini (ci := 12) (k := 14) rfl inw12 rfl (by decide +kernel) (by decide +kernel) T12_14 rfl wd_1370 tyX12_ok nmX12 rfl (fun a => ⟨rfl, rfl⟩) (shS_old hsh (by decide +kernel)) (by first | exact hcb _ | exact hb _ (by decide) | exact hlt _ _ (by decide) | exact hl0 _ (by decide) | exact h5 _ (by decide) | exact h50 | exact hcn | exact hn0) dX12_init_113 ?_
  have hF26 : Fr (u_RX12_13 K c n t) (n + 13) := Fr.put hF25 (by first | exact hcb _ | exact hb _ (by decide) | exact hlt _ _ (by decide) | exact hl0 _ (by decide) | exact h5 _ (by decide) | exact h50 | exact hcn | exact hn0) (by first | exact hcb _ | exact hb _ (by decide) | exact hlt _ _ (by decide) | exact hl0 _ (by decide) | exact h5 _ (by decide) | exact h50 | exact hcn | exact hn0)
  change GN _ _ _ _ _ _ _ _ (u_RX12_13 K c n t)
  have hw0_13 : (u_RX12_13 K c n t).2 c 0 = n := by show (wUR _ _ _ _).2 _ _ = _; rw [wUR_ns (by decide +kernel)]; exact hw0_12
  refine gn_S hC (by decide +kernel) (by decide +kernel) (b := fun sh => sPut sh 12 32 (eLocR 0) (eI (-1))) (pB := 0) (pC := 0) (fun X hX => (csPut hX (cLocR_n hX dX12_init_116 rfl) (cConst hX dX12_init_117 (by decide +kernel)) rfl inw12 rfl (by decide +kernel) (by decide +kernel) T12_32 wd_1388 tyX12_ok nmX12 rfl dX12_init_118)) (t1 := wUI (u_RX12_13 K c n t) c 32 (-1)) (ls1 := [.ref c, wjk]) ?_ ?_
  · exact sPut_this (shS_old hsh (by decide +kernel))
  have hF27 : Fr (u_RX12_14 K c n t) (n + 13) := Fr.int hF26 rfl (fun q hq => if_neg (by omega))
  change GN _ _ _ _ _ _ _ _ (u_RX12_14 K c n t)
  have hw0_14 : (u_RX12_14 K c n t).2 c 0 = n := hw0_13
  refine gn_R hC (by decide +kernel) (by decide +kernel) (b := fun _ => eLocR 0) (fun X hX => cLocR_n hX dX12_init_121 rfl) rfl (Nat.le_of_ble_eq_true rfl) ?_
  refine gn_E hC (by decide +kernel) (by decide +kernel) (b := fun _ => eI 10050) (fun X hX => cSi hX dX12_init_122 (by decide +kernel)) rfl (Nat.le_of_ble_eq_true rfl) ?_
  refine gn_newarr hC (N := 10050) (n := n + 13) (by decide +kernel) (by decide +kernel) (by decide +kernel) rfl (by first | exact hcb _ | exact hb _ (by decide) | exact hlt _ _ (by decide) | exact hl0 _ (by decide) | exact h5 _ (by decide) | exact h50 | exact hcn | exact hn0) (by decide +kernel) (by decide +kernel) hF27 (wBel_ref (by first | exact hcb _ | exact hb _ (by decide) | exact hlt _ _ (by decide) | exact hl0 _ (by decide) | exact h5 _ (by decide) | exact h50 | exact hcn | exact hn0) (wBel_jk wBel_nil)) (wBel_ref (by first | exact hcb _ | exact hb _ (by decide) | exact hlt _ _ (by decide) | exact hl0 _ (by decide) | exact h5 _ (by decide) | exact h50 | exact hcn | exact hn0) wBel_nil) dX12_init_125 ?_
  have hF28 : Fr (u_RX12_14 K c n t) (n + 14) := Fr.up hF27
  refine gn_putR hC (by decide +kernel) (by decide +kernel) hini (ci := 12) (k := 37) rfl inw12 rfl (by decide +kernel) (by decide +kernel) T12_37 rfl wd_1393 tyX12_ok nmX12 rfl (fun a => ⟨rfl, rfl⟩) (shS_old hsh (by decide +kernel)) (by first | exact hcb _ | exact hb _ (by decide) | exact hlt _ _ (by decide) | exact hl0 _ (by decide) | exact h5 _ (by decide) | exact h50 | exact hcn | exact hn0) dX12_init_127 ?_
  have hF29 : Fr (u_RX12_15 K c n t) (n + 14) := Fr.put hF28 (by first | exact hcb _ | exact hb _ (by decide) | exact hlt _ _ (by decide) | exact hl0 _ (by decide) | exact h5 _ (by decide) | exact h50 | exact hcn | exact hn0) (by first | exact hcb _ | exact hb _ (by decide) | exact hlt _ _ (by decide) | exact hl0 _ (by decide) | exact h5 _ (by decide) | exact h50 | exact hcn | exact hn0)
  change GN _ _ _ _ _ _ _ _ (u_RX12_15 K c n t)
  have hw0_15 : (u_RX12_15 K c n t).2 c 0 = n := by show (wUR _ _ _ _).2 _ _ = _; rw [wUR_ns (by decide +kernel)]; exact hw0_14
  refine gn_R hC (by decide +kernel) (by decide +kernel) (b := fun _ => eLocR 0) (fun X hX => cLocR_n hX dX12_init_130 rfl) rfl (Nat.le_of_ble_eq_true rfl) ?_
  refine gn_E hC (by decide +kernel) (by decide +kernel) (b := fun _ => eI 100) (fun X hX => cBi hX dX12_init_131 (by decide +kernel)) rfl (Nat.le_of_ble_eq_true rfl) ?_
  refine gn_newarr hC (N := 100) (n := n + 14) (by decide +kernel) (by decide +kernel) (by decide +kernel) rfl (by first | exact hcb _ | exact hb _ (by decide) | exact hlt _ _ (by decide) | exact hl0 _ (by decide) | exact h5 _ (by decide) | exact h50 | exact hcn | exact hn0) (by decide +kernel) (by decide +kernel) hF29 (wBel_ref (by first | exact hcb _ | exact hb _ (by decide) | exact hlt _ _ (by decide) | exact hl0 _ (by decide) | exact h5 _ (by decide) | exact h50 | exact hcn | exact hn0) (wBel_jk wBel_nil)) (wBel_ref (by first | exact hcb _ | exact hb _ (by decide) | exact hlt _ _ (by decide) | exact hl0 _ (by decide) | exact h5 _ (by decide) | exact h50 | exact hcn | exact hn0) wBel_nil) dX12_init_133 ?_
  have hF30 : Fr (u_RX12_15 K c n t) (n + 15) := Fr.up hF29
  refine gn_putR hC (by decide +kernel) (by decide +kernel) hini (ci := 12) (k := 38) rfl inw12 rfl (by decide +kernel) (by decide +kernel) T12_38 rfl wd_1394 tyX12_ok nmX12 rfl (fun a => ⟨rfl, rfl⟩) (shS_old hsh (by decide +kernel)) (by first | exact hcb _ | exact hb _ (by decide) | exact hlt _ _ (by decide) | exact hl0 _ (by decide) | exact h5 _ (by decide) | exact h50 | exact hcn | exact hn0) dX12_init_135 ?_
  have hF31 : Fr (u_RX12_16 K c n t) (n + 15) := Fr.put hF30 (by first | exact hcb _ | exact hb _ (by decide) | exact hlt _ _ (by decide) | exact hl0 _ (by decide) | exact h5 _ (by decide) | exact h50 | exact hcn | exact hn0) (by first | exact hcb _ | exact hb _ (by decide) | exact hlt _ _ (by decide) | exact hl0 _ (by decide) | exact h5 _ (by decide) | exact h50 | exact hcn | exact hn0)
  change GN _ _ _ _ _ _ _ _ (u_RX12_16 K c n t)
  have hw0_16 : (u_RX12_16 K c n t).2 c 0 = n := by show (wUR _ _ _ _).2 _ _ = _; rw [wUR_ns (by decide +kernel)]; exact hw0_15
  refine gn_R hC (by decide +kernel) (by decide +kernel) (b := fun _ => eLocR 0) (fun X hX => cLocR_n hX dX12_init_138 rfl) rfl (Nat.le_of_ble_eq_true rfl) ?_
  refine gn_E hC (by decide +kernel) (by decide +kernel) (b := fun _ => eI 8) (fun X hX => cBi hX dX12_init_139 (by decide +kernel)) rfl (Nat.le_of_ble_eq_true rfl) ?_
  refine gn_newarr hC (N := 8) (n := n + 15) (by decide +kernel) (by decide +kernel) (by decide +kernel) rfl (by first | exact hcb _ | exact hb _ (by decide) | exact hlt _ _ (by decide) | exact hl0 _ (by decide) | exact h5 _ (by decide) | exact h50 | exact hcn | exact hn0) (by decide +kernel) (by decide +kernel) hF31 (wBel_ref (by first | exact hcb _ | exact hb _ (by decide) | exact hlt _ _ (by decide) | exact hl0 _ (by decide) | exact h5 _ (by decide) | exact h50 | exact hcn | exact hn0) (wBel_jk wBel_nil)) (wBel_ref (by first | exact hcb _ | exact hb _ (by decide) | exact hlt _ _ (by decide) | exact hl0 _ (by decide) | exact h5 _ (by decide) | exact h50 | exact hcn | exact hn0) wBel_nil) dX12_init_141 ?_
  have hF32 : Fr (u_RX12_16 K c n t) (n + 16) := Fr.up hF31
  refine gn_putR hC (by decide +kernel) (by decide +kernel) hini (ci := 12) (k := 39) rfl inw12 rfl (by decide +kernel) (by decide +kernel) T12_39 rfl wd_1395 tyX12_ok nmX12 rfl (fun a => ⟨rfl, rfl⟩) (shS_old hsh (by decide +kernel)) (by first | exact hcb _ | exact hb _ (by decide) | exact hlt _ _ (by decide) | exact hl0 _ (by decide) | exact h5 _ (by decide) | exact h50 | exact hcn | exact hn0) dX12_init_143 ?_
  have hF33 : Fr (u_RX12_17 K c n t) (n + 16) := Fr.put hF32 (by first | exact hcb _ | exact hb _ (by decide) | exact hlt _ _ (by decide) | exact hl0 _ (by decide) | exact h5 _ (by decide) | exact h50 | exact hcn | exact hn0) (by first | exact hcb _ | exact hb _ (by decide) | exact hlt _ _ (by decide) | exact hl0 _ (by decide) | exact h5 _ (by decide) | exact h50 | exact hcn | exact hn0)
  change GN _ _ _ _ _ _ _ _ (u_RX12_17 K c n t)
  have hw0_17 : (u_RX12_17 K c n t).2 c 0 = n := by show (wUR _ _ _ _).2 _ _ = _; rw [wUR_ns (by decide +kernel)]; exact hw0_16
  refine gn_R hC (by decide +kernel) (by decide +kernel) (b := fun _ => eLocR 0) (fun X hX => cLocR_n hX dX12_init_146 rfl) rfl (Nat.le_of_ble_eq_true rfl) ?_
  refine gn_E hC (by decide +kernel) (by decide +kernel) (b := fun _ => eI 8) (fun X hX => cBi hX dX12_init_147 (by decide +kernel)) rfl (Nat.le_of_ble_eq_true rfl) ?_
  refine gn_newarr hC (N := 8) (n := n + 16) (by decide +kernel) (by decide +kernel) (by decide +kernel) rfl (by first | exact hcb _ | exact hb _ (by decide) | exact hlt _ _ (by decide) | exact hl0 _ (by decide) | exact h5 _ (by decide) | exact h50 | exact hcn | exact hn0) (by decide +kernel) (by decide +kernel) hF33 (wBel_ref (by first | exact hcb _ | exact hb _ (by decide) | exact hlt _ _ (by decide) | exact hl0 _ (by decide) | exact h5 _ (by decide) | exact h50 | exact hcn | exact hn0) (wBel_jk wBel_nil)) (wBel_ref (by first | exact hcb _ | exact hb _ (by decide) | exact hlt _ _ (by decide) | exact hl0 _ (by decide) | exact h5 _ (by decide) | exact h50 | exact hcn | exact hn0) wBel_nil) dX12_init_149 ?_
  have hF34 : Fr (u_RX12_17 K c n t) (n + 17) := Fr.up hF33
  refine gn_putR hC (by decide +kernel) (by decide +kernel) hini (ci := 12) (k := 40) rfl inw12 rfl (by decide +kernel) (by decide +kernel) T12_40 rfl wd_1396 tyX12_ok nmX12 rfl (fun a => ⟨rfl, rfl⟩) (shS_old hsh (by decide +kernel)) (by first | exact hcb _ | exact hb _ (by decide) | exact hlt _ _ (by decide) | exact hl0 _ (by decide) | exact h5 _ (by decide) | exact h50 | exact hcn | exact hn0) dX12_init_151 ?_
  have hF35 : Fr (u_RX12_18 K c n t) (n + 17) := Fr.put hF34 (by first | exact hcb _ | exact hb _ (by decide) | exact hlt _ _ (by decide) | exact hl0 _ (by decide) | exact h5 _ (by decide) | exact h50 | exact hcn | exact hn0) (by first | exact hcb _ | exact hb _ (by decide) | exact hlt _ _ (by decide) | exact hl0 _ (by decide) | exact h5 _ (by decide) | exact h50 | exact hcn | exact hn0)
  change GN _ _ _ _ _ _ _ _ (u_RX12_18 K c n t)
  have hw0_18 : (u_RX12_18 K c n t).2 c 0 = n := by show (wUR _ _ _ _).2 _ _ = _; rw [wUR_ns (by decide +kernel)]; exact hw0_17
  refine gn_R hC (by decide +kernel) (by decide +kernel) (b := fun _ => eLocR 0) (fun X hX => cLocR_n hX dX12_init_154 rfl) rfl (Nat.le_of_ble_eq_true rfl) ?_
  refine gn_E hC (by decide +kernel) (by decide +kernel) (b := fun _ => eI 14) (fun X hX => cBi hX dX12_init_155 (by decide +kernel)) rfl (Nat.le_of_ble_eq_true rfl) ?_
  refine gn_newarr hC (N := 14) (n := n + 17) (by decide +kernel) (by decide +kernel) (by decide +kernel) rfl (by first | exact hcb _ | exact hb _ (by decide) | exact hlt _ _ (by decide) | exact hl0 _ (by decide) | exact h5 _ (by decide) | exact h50 | exact hcn | exact hn0) (by decide +kernel) (by decide +kernel) hF35 (wBel_ref (by first | exact hcb _ | exact hb _ (by decide) | exact hlt _ _ (by decide) | exact hl0 _ (by decide) | exact h5 _ (by decide) | exact h50 | exact hcn | exact hn0) (wBel_jk wBel_nil)) (wBel_ref (by first | exact hcb _ | exact hb _ (by decide) | exact hlt _ _ (by decide) | exact hl0 _ (by decide) | exact h5 _ (by decide) | exact h50 | exact hcn | exact hn0) wBel_nil) dX12_init_157 ?_
  have hF36 : Fr (u_RX12_18 K c n t) (n + 18) := Fr.up hF35
  refine gn_putR hC (by decide +kernel) (by decide +kernel) hini (ci := 12) (k := 41) rfl inw12 rfl (by decide +kernel) (by decide +kernel) T12_41 rfl wd_1397 tyX12_ok nmX12 rfl (fun a => ⟨rfl, rfl⟩) (shS_old hsh (by decide +kernel)) (by first | exact hcb _ | exact hb _ (by decide) | exact hlt _ _ (by decide) | exact hl0 _ (by decide) | exact h5 _ (by decide) | exact h50 | exact hcn | exact hn0) dX12_init_159 ?_
  have hF37 : Fr (u_RX12_19 K c n t) (n + 18) := Fr.put hF36 (by first | exact hcb _ | exact hb _ (by decide) | exact hlt _ _ (by decide) | exact hl0 _ (by decide) | exact h5 _ (by decide) | exact h50 | exact hcn | exact hn0) (by first | exact hcb _ | exact hb _ (by decide) | exact hlt _ _ (by decide) | exact hl0 _ (by decide) | exact h5 _ (by decide) | exact h50 | exact hcn | exact hn0)
  change GN _ _ _ _ _ _ _ _ (u_RX12_19 K c n t)
  have hw0_19 : (u_RX12_19 K c n t).2 c 0 = n := by show (wUR _ _ _ _).2 _ _ = _; rw [wUR_ns (by decide +kernel)]; exact hw0_18
  refine gn_S hC (by decide +kernel) (by decide +kernel) (b := fun sh => sSeq (sAst sh (eFldR sh 12 0 (eLocR 0)) (eI 209) (eI 1)) (sSeq (sAst sh (eFldR sh 12 0 (eLocR 0)) (eI 210) (eI 10)) (sSeq (sCall (nX12_rewinds K sh) (aO sh 12 (eLocR 0) (aN))) (sSeq (sLoc 1 (eI 0)) (sWh (cI .lt (eLoc 1) (eI 402)) (sAst sh (eFldR sh 12 0 (eLocR 0)) (eB oAdd (eI 272) (eLoc 1)) (eI 98)) (sInc 1 1) K))))) (pB := 0) (pC := 0) (fun X hX => (csSeq (pM := 171) (csAst hX (cFldR hX (cLocR_n hX dX12_init_162 rfl) rfl inw12 rfl (by decide +kernel) (by decide +kernel) rfl wd_1356 dX12_init_163) (cSi hX dX12_init_166 (by decide +kernel)) (cConst hX dX12_init_169 (by decide +kernel)) dX12_init_170) (csSeq (pM := 181) (csAst hX (cFldR hX (cLocR_n hX dX12_init_171 rfl) rfl inw12 rfl (by decide +kernel) (by decide +kernel) rfl wd_1356 dX12_init_172) (cSi hX dX12_init_175 (by decide +kernel)) (cBi hX dX12_init_178 (by decide +kernel)) dX12_init_180) (csSeq (pM := 185) (csCallV hX (mX12_rewinds K) wd_1348 wd_1350 wd_30 wd_1351 wd_126 hy_yX12_rewinds (by decide +kernel) (by decide +kernel) rfl (cAO (cLocR_n hX dX12_init_181 rfl) cAN) dX12_init_182) (csSeq (pM := 187) (csLoc_n hX (cConst hX dX12_init_185 (by decide +kernel)) dX12_init_186 rfl (by decide +kernel)) (csWh (pT := 194) (pU := 206) (qB := 0) (qC := 0) (ccI_f hX (cLoc_n hX dX12_init_187 rfl) (cSi hX dX12_init_188 (by decide +kernel)) dX12_init_191 rfl rfl) (csAst hX (cFldR hX (cLocR_n hX dX12_init_194 rfl) rfl inw12 rfl (by decide +kernel) (by decide +kernel) rfl wd_1356 dX12_init_195) (c_iadd hX (cSi hX dX12_init_198 (by decide +kernel)) (cLoc_n hX dX12_init_201 rfl) dX12_init_202) (cBi hX dX12_init_203 (by decide +kernel)) dX12_init_205) (csGo hX (pM := 209) (csInc hX dX12_init_206 (by decide +kernel)) dX12_init_209 rfl) K)))))) (t1 := e_RX12_last K c n (u_RX12_19 K c n t)) (ls1 := [.ref c, .int 402]) (by exact rest_RX12w K (shS_old hsh (by decide +kernel)) hw0_19 (shS_new hC.2.2.2.1 (j := 0)) (by first | exact hcb _ | exact hb _ (by decide) | exact hlt _ _ (by decide) | exact hl0 _ (by decide) | exact h5 _ (by decide) | exact h50 | exact hcn | exact hn0) (by first | exact hcb _ | exact hb _ (by decide) | exact hlt _ _ (by decide) | exact hl0 _ (by decide) | exact h5 _ (by decide) | exact h50 | exact hcn | exact hn0) hK) ?_
  have hF38 : Fr (u_RX12_20 K c n t) (n + 18) := fr_RX12_last K hF37 (by first | exact hcb _ | exact hb _ (by decide) | exact hlt _ _ (by decide) | exact hl0 _ (by decide) | exact h5 _ (by decide) | exact h50 | exact hcn | exact hn0)
  change GN _ _ _ _ _ _ _ _ (u_RX12_20 K c n t)
  exact hend 212 _ dX12_init_212
