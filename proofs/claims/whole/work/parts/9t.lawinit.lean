/-! THE LAW: both objects, as they come -/
def t00 : wS := (fun _ _ => 0, fun _ _ => 5000)
def kF : Nat := 16777216
def tE : wS := e_RX12 kF 119 120 (e_RX11 kF 0 1 t00)
def s00 : wSg := fun i => if i = 7 then 1 else if i = 209 then 1 else if i = 210 then 10 else if 272 ≤ i ∧ i < 674 then 98 else 0
def e00 : Nat → Nat := fun k => if k < 6 then 107 + 2 * k else 5000
theorem fr_t00 : Fr t00 0 := ⟨fun c k h => absurd h (Nat.not_lt_zero c), fun c k _ => ⟨rfl, rfl⟩⟩
theorem fr_tE : Fr tE 138 := fr_RX12 kF (n := 120) (Fr.up (fr_RX11 kF (n := 1) (Fr.up fr_t00) (by decide))) (by decide)
theorem wUR_k {t : wS} {c k r a k' : Nat} (h : k' ≠ k) : (wUR t c k r).2 a k' = t.2 a k' := by
  rw [wUR_at]
  by_cases g : a = c
  · rw [if_pos g, if_neg h, g]
  · rw [if_neg g]
theorem wUI_s {t : wS} {c k : Nat} {v : Int32} : (wUI t c k v).2 = t.2 := rfl
theorem wUC_s {t : wS} {c : Nat} {f : Nat → Int32} : (wUC t c f).2 = t.2 := rfl
theorem wRow_k {t : wS} {n N a k' : Nat} (h : N ≤ k') (g : t.2 a k' = 5000) : (wRow t n N).2 a k' = 5000 := by
  rw [wRow_at]
  by_cases q : a = n
  · rw [if_pos q, if_neg (by omega)]
  · rw [if_neg q]; exact g
theorem tc0 : (0 : Int32).toNatClampNeg = 0 := by decide
theorem tc1 : (1 : Int32).toNatClampNeg = 1 := by decide
theorem tc2 : (2 : Int32).toNatClampNeg = 2 := by decide
theorem tc3 : (3 : Int32).toNatClampNeg = 3 := by decide
theorem tc4 : (4 : Int32).toNatClampNeg = 4 := by decide
theorem tc5 : (5 : Int32).toNatClampNeg = 5 := by decide
theorem k5_e_RX8_last {K c n k : Nat} {t : wS} (hk : 43 ≤ k) (h : ∀ a, t.2 a k = 5000) (a : Nat) : (e_RX8_last K c n t).2 a k = 5000 := h a
theorem k5_e_RX7_last {K c n k : Nat} {t : wS} (hk : 43 ≤ k) (h : ∀ a, t.2 a k = 5000) (a : Nat) : (e_RX7_last K c n t).2 a k = 5000 := h a
theorem k5_e_RX12_last {K c n k : Nat} {t : wS} (hk : 43 ≤ k) (h : ∀ a, t.2 a k = 5000) (a : Nat) : (e_RX12_last K c n t).2 a k = 5000 := h a
theorem k5_u_RX10_1 {K c n k : Nat} {t : wS} (hk : 43 ≤ k) (h : ∀ a, t.2 a k = 5000) (a : Nat) : (u_RX10_1 K c n t).2 a k = 5000 := (wUR_k (by omega)).trans (h a)
theorem k5_u_RX10_2 {K c n k : Nat} {t : wS} (hk : 43 ≤ k) (h : ∀ a, t.2 a k = 5000) (a : Nat) : (u_RX10_2 K c n t).2 a k = 5000 := (wUR_k (by omega)).trans (k5_u_RX10_1 hk h a)
theorem k5_u_RX10_3 {K c n k : Nat} {t : wS} (hk : 43 ≤ k) (h : ∀ a, t.2 a k = 5000) (a : Nat) : (u_RX10_3 K c n t).2 a k = 5000 := (wUR_k (by omega)).trans (k5_u_RX10_2 hk h a)
theorem k5_u_RX10_4 {K c n k : Nat} {t : wS} (hk : 43 ≤ k) (h : ∀ a, t.2 a k = 5000) (a : Nat) : (u_RX10_4 K c n t).2 a k = 5000 := (wUR_k (by omega)).trans (k5_u_RX10_3 hk h a)
theorem k5_u_RX10_5 {K c n k : Nat} {t : wS} (hk : 43 ≤ k) (h : ∀ a, t.2 a k = 5000) (a : Nat) : (u_RX10_5 K c n t).2 a k = 5000 := (k5_u_RX10_4 hk h a)
theorem k5_e_RX10 {K c n k : Nat} {t : wS} (hk : 43 ≤ k) (h : ∀ a, t.2 a k = 5000) (a : Nat) : (e_RX10 K c n t).2 a k = 5000 := (k5_u_RX10_5 hk h a)
theorem k5_u_RX7_1 {K c n k : Nat} {t : wS} (hk : 43 ≤ k) (h : ∀ a, t.2 a k = 5000) (a : Nat) : (u_RX7_1 K c n t).2 a k = 5000 := (wUR_k (by omega)).trans (h a)
theorem k5_u_RX7_2 {K c n k : Nat} {t : wS} (hk : 43 ≤ k) (h : ∀ a, t.2 a k = 5000) (a : Nat) : (u_RX7_2 K c n t).2 a k = 5000 := (wUR_k (by omega)).trans (k5_u_RX7_1 hk h a)
theorem k5_u_RX7_3 {K c n k : Nat} {t : wS} (hk : 43 ≤ k) (h : ∀ a, t.2 a k = 5000) (a : Nat) : (u_RX7_3 K c n t).2 a k = 5000 := (wUR_k (by omega)).trans (k5_u_RX7_2 hk h a)
theorem k5_u_RX7_4 {K c n k : Nat} {t : wS} (hk : 43 ≤ k) (h : ∀ a, t.2 a k = 5000) (a : Nat) : (u_RX7_4 K c n t).2 a k = 5000 := (wUR_k (by omega)).trans (k5_u_RX7_3 hk h a)
theorem k5_u_RX7_5 {K c n k : Nat} {t : wS} (hk : 43 ≤ k) (h : ∀ a, t.2 a k = 5000) (a : Nat) : (u_RX7_5 K c n t).2 a k = 5000 := wRow_k (by omega) (k5_u_RX7_4 hk h a)
theorem k5_u_RX7_6 {K c n k : Nat} {t : wS} (hk : 43 ≤ k) (h : ∀ a, t.2 a k = 5000) (a : Nat) : (u_RX7_6 K c n t).2 a k = 5000 := (wUR_k (by omega)).trans (k5_u_RX7_5 hk h a)
theorem k5_u_RX7_7 {K c n k : Nat} {t : wS} (hk : 43 ≤ k) (h : ∀ a, t.2 a k = 5000) (a : Nat) : (u_RX7_7 K c n t).2 a k = 5000 := k5_e_RX7_last hk (fun a => k5_u_RX7_6 hk h a) a
theorem k5_e_RX7 {K c n k : Nat} {t : wS} (hk : 43 ≤ k) (h : ∀ a, t.2 a k = 5000) (a : Nat) : (e_RX7 K c n t).2 a k = 5000 := (k5_u_RX7_7 hk h a)
theorem k5_u_RX4_1 {K c n k : Nat} {t : wS} (hk : 43 ≤ k) (h : ∀ a, t.2 a k = 5000) (a : Nat) : (u_RX4_1 K c n t).2 a k = 5000 := (wUR_k (by omega)).trans (h a)
theorem k5_u_RX4_2 {K c n k : Nat} {t : wS} (hk : 43 ≤ k) (h : ∀ a, t.2 a k = 5000) (a : Nat) : (u_RX4_2 K c n t).2 a k = 5000 := (wUR_k (by omega)).trans (k5_u_RX4_1 hk h a)
theorem k5_u_RX4_3 {K c n k : Nat} {t : wS} (hk : 43 ≤ k) (h : ∀ a, t.2 a k = 5000) (a : Nat) : (u_RX4_3 K c n t).2 a k = 5000 := (wUR_k (by omega)).trans (k5_u_RX4_2 hk h a)
theorem k5_u_RX4_4 {K c n k : Nat} {t : wS} (hk : 43 ≤ k) (h : ∀ a, t.2 a k = 5000) (a : Nat) : (u_RX4_4 K c n t).2 a k = 5000 := (wUR_k (by omega)).trans (k5_u_RX4_3 hk h a)
theorem k5_u_RX4_5 {K c n k : Nat} {t : wS} (hk : 43 ≤ k) (h : ∀ a, t.2 a k = 5000) (a : Nat) : (u_RX4_5 K c n t).2 a k = 5000 := (wUR_k (by omega)).trans (k5_u_RX4_4 hk h a)
theorem k5_u_RX4_6 {K c n k : Nat} {t : wS} (hk : 43 ≤ k) (h : ∀ a, t.2 a k = 5000) (a : Nat) : (u_RX4_6 K c n t).2 a k = 5000 := (wUR_k (by omega)).trans (k5_u_RX4_5 hk h a)
theorem k5_e_RX4 {K c n k : Nat} {t : wS} (hk : 43 ≤ k) (h : ∀ a, t.2 a k = 5000) (a : Nat) : (e_RX4 K c n t).2 a k = 5000 := (k5_u_RX4_6 hk h a)
theorem k5_u_RX3_1 {K c n k : Nat} {t : wS} (hk : 43 ≤ k) (h : ∀ a, t.2 a k = 5000) (a : Nat) : (u_RX3_1 K c n t).2 a k = 5000 := (wUR_k (by omega)).trans (h a)
theorem k5_u_RX3_2 {K c n k : Nat} {t : wS} (hk : 43 ≤ k) (h : ∀ a, t.2 a k = 5000) (a : Nat) : (u_RX3_2 K c n t).2 a k = 5000 := (wUR_k (by omega)).trans (k5_u_RX3_1 hk h a)
theorem k5_u_RX3_3 {K c n k : Nat} {t : wS} (hk : 43 ≤ k) (h : ∀ a, t.2 a k = 5000) (a : Nat) : (u_RX3_3 K c n t).2 a k = 5000 := (wUR_k (by omega)).trans (k5_u_RX3_2 hk h a)
theorem k5_u_RX3_4 {K c n k : Nat} {t : wS} (hk : 43 ≤ k) (h : ∀ a, t.2 a k = 5000) (a : Nat) : (u_RX3_4 K c n t).2 a k = 5000 := (wUR_k (by omega)).trans (k5_u_RX3_3 hk h a)
theorem k5_e_RX3 {K c n k : Nat} {t : wS} (hk : 43 ≤ k) (h : ∀ a, t.2 a k = 5000) (a : Nat) : (e_RX3 K c n t).2 a k = 5000 := (k5_u_RX3_4 hk h a)
theorem k5_u_RX0_1 {K c n k : Nat} {t : wS} (hk : 43 ≤ k) (h : ∀ a, t.2 a k = 5000) (a : Nat) : (u_RX0_1 K c n t).2 a k = 5000 := (wUR_k (by omega)).trans (h a)
theorem k5_e_RX0 {K c n k : Nat} {t : wS} (hk : 43 ≤ k) (h : ∀ a, t.2 a k = 5000) (a : Nat) : (e_RX0 K c n t).2 a k = 5000 := (k5_u_RX0_1 hk h a)
theorem k5_u_RX1_1 {K c n k : Nat} {t : wS} (hk : 43 ≤ k) (h : ∀ a, t.2 a k = 5000) (a : Nat) : (u_RX1_1 K c n t).2 a k = 5000 := (wUR_k (by omega)).trans (h a)
theorem k5_e_RX1 {K c n k : Nat} {t : wS} (hk : 43 ≤ k) (h : ∀ a, t.2 a k = 5000) (a : Nat) : (e_RX1 K c n t).2 a k = 5000 := (k5_u_RX1_1 hk h a)
theorem k5_u_RX8_1 {K c n k : Nat} {t : wS} (hk : 43 ≤ k) (h : ∀ a, t.2 a k = 5000) (a : Nat) : (u_RX8_1 K c n t).2 a k = 5000 := (wUR_k (by omega)).trans (h a)
theorem k5_u_RX8_2 {K c n k : Nat} {t : wS} (hk : 43 ≤ k) (h : ∀ a, t.2 a k = 5000) (a : Nat) : (u_RX8_2 K c n t).2 a k = 5000 := k5_e_RX8_last hk (fun a => k5_u_RX8_1 hk h a) a
theorem k5_e_RX8 {K c n k : Nat} {t : wS} (hk : 43 ≤ k) (h : ∀ a, t.2 a k = 5000) (a : Nat) : (e_RX8 K c n t).2 a k = 5000 := (k5_u_RX8_2 hk h a)
theorem k5_u_RX2_1 {K c n k : Nat} {t : wS} (hk : 43 ≤ k) (h : ∀ a, t.2 a k = 5000) (a : Nat) : (u_RX2_1 K c n t).2 a k = 5000 := k5_e_RX7 hk (fun a => h a) a
theorem k5_u_RX2_2 {K c n k : Nat} {t : wS} (hk : 43 ≤ k) (h : ∀ a, t.2 a k = 5000) (a : Nat) : (u_RX2_2 K c n t).2 a k = 5000 := (wUR_k (by omega)).trans (k5_u_RX2_1 hk h a)
theorem k5_u_RX2_3 {K c n k : Nat} {t : wS} (hk : 43 ≤ k) (h : ∀ a, t.2 a k = 5000) (a : Nat) : (u_RX2_3 K c n t).2 a k = 5000 := k5_e_RX4 hk (fun a => k5_u_RX2_2 hk h a) a
theorem k5_u_RX2_4 {K c n k : Nat} {t : wS} (hk : 43 ≤ k) (h : ∀ a, t.2 a k = 5000) (a : Nat) : (u_RX2_4 K c n t).2 a k = 5000 := (wUR_k (by omega)).trans (k5_u_RX2_3 hk h a)
theorem k5_u_RX2_5 {K c n k : Nat} {t : wS} (hk : 43 ≤ k) (h : ∀ a, t.2 a k = 5000) (a : Nat) : (u_RX2_5 K c n t).2 a k = 5000 := k5_e_RX3 hk (fun a => k5_u_RX2_4 hk h a) a
theorem k5_u_RX2_6 {K c n k : Nat} {t : wS} (hk : 43 ≤ k) (h : ∀ a, t.2 a k = 5000) (a : Nat) : (u_RX2_6 K c n t).2 a k = 5000 := (wUR_k (by omega)).trans (k5_u_RX2_5 hk h a)
theorem k5_u_RX2_7 {K c n k : Nat} {t : wS} (hk : 43 ≤ k) (h : ∀ a, t.2 a k = 5000) (a : Nat) : (u_RX2_7 K c n t).2 a k = 5000 := k5_e_RX0 hk (fun a => k5_u_RX2_6 hk h a) a
theorem k5_u_RX2_8 {K c n k : Nat} {t : wS} (hk : 43 ≤ k) (h : ∀ a, t.2 a k = 5000) (a : Nat) : (u_RX2_8 K c n t).2 a k = 5000 := (wUR_k (by omega)).trans (k5_u_RX2_7 hk h a)
theorem k5_u_RX2_9 {K c n k : Nat} {t : wS} (hk : 43 ≤ k) (h : ∀ a, t.2 a k = 5000) (a : Nat) : (u_RX2_9 K c n t).2 a k = 5000 := k5_e_RX1 hk (fun a => k5_u_RX2_8 hk h a) a
theorem k5_u_RX2_10 {K c n k : Nat} {t : wS} (hk : 43 ≤ k) (h : ∀ a, t.2 a k = 5000) (a : Nat) : (u_RX2_10 K c n t).2 a k = 5000 := (wUR_k (by omega)).trans (k5_u_RX2_9 hk h a)
theorem k5_u_RX2_11 {K c n k : Nat} {t : wS} (hk : 43 ≤ k) (h : ∀ a, t.2 a k = 5000) (a : Nat) : (u_RX2_11 K c n t).2 a k = 5000 := k5_e_RX8 hk (fun a => k5_u_RX2_10 hk h a) a
theorem k5_u_RX2_12 {K c n k : Nat} {t : wS} (hk : 43 ≤ k) (h : ∀ a, t.2 a k = 5000) (a : Nat) : (u_RX2_12 K c n t).2 a k = 5000 := (wUR_k (by omega)).trans (k5_u_RX2_11 hk h a)
theorem k5_u_RX2_13 {K c n k : Nat} {t : wS} (hk : 43 ≤ k) (h : ∀ a, t.2 a k = 5000) (a : Nat) : (u_RX2_13 K c n t).2 a k = 5000 := (k5_u_RX2_12 hk h a)
theorem k5_u_RX2_14 {K c n k : Nat} {t : wS} (hk : 43 ≤ k) (h : ∀ a, t.2 a k = 5000) (a : Nat) : (u_RX2_14 K c n t).2 a k = 5000 := (k5_u_RX2_13 hk h a)
theorem k5_u_RX2_15 {K c n k : Nat} {t : wS} (hk : 43 ≤ k) (h : ∀ a, t.2 a k = 5000) (a : Nat) : (u_RX2_15 K c n t).2 a k = 5000 := (wUR_k (by omega)).trans (k5_u_RX2_14 hk h a)
theorem k5_u_RX2_16 {K c n k : Nat} {t : wS} (hk : 43 ≤ k) (h : ∀ a, t.2 a k = 5000) (a : Nat) : (u_RX2_16 K c n t).2 a k = 5000 := (wUR_k (by omega)).trans (k5_u_RX2_15 hk h a)
theorem k5_e_RX2 {K c n k : Nat} {t : wS} (hk : 43 ≤ k) (h : ∀ a, t.2 a k = 5000) (a : Nat) : (e_RX2 K c n t).2 a k = 5000 := (k5_u_RX2_16 hk h a)
theorem k5_u_RX6_1 {K c n k : Nat} {t : wS} (hk : 43 ≤ k) (h : ∀ a, t.2 a k = 5000) (a : Nat) : (u_RX6_1 K c n t).2 a k = 5000 := (wUR_k (by omega)).trans (h a)
theorem k5_u_RX6_2 {K c n k : Nat} {t : wS} (hk : 43 ≤ k) (h : ∀ a, t.2 a k = 5000) (a : Nat) : (u_RX6_2 K c n t).2 a k = 5000 := wRow_k (by omega) (k5_u_RX6_1 hk h a)
theorem k5_u_RX6_3 {K c n k : Nat} {t : wS} (hk : 43 ≤ k) (h : ∀ a, t.2 a k = 5000) (a : Nat) : (u_RX6_3 K c n t).2 a k = 5000 := (wUR_k (by omega)).trans (k5_u_RX6_2 hk h a)
theorem k5_u_RX6_4 {K c n k : Nat} {t : wS} (hk : 43 ≤ k) (h : ∀ a, t.2 a k = 5000) (a : Nat) : (u_RX6_4 K c n t).2 a k = 5000 := wRow_k (by omega) (k5_u_RX6_3 hk h a)
theorem k5_u_RX6_5 {K c n k : Nat} {t : wS} (hk : 43 ≤ k) (h : ∀ a, t.2 a k = 5000) (a : Nat) : (u_RX6_5 K c n t).2 a k = 5000 := (wUR_k (by omega)).trans (k5_u_RX6_4 hk h a)
theorem k5_u_RX6_6 {K c n k : Nat} {t : wS} (hk : 43 ≤ k) (h : ∀ a, t.2 a k = 5000) (a : Nat) : (u_RX6_6 K c n t).2 a k = 5000 := (wUR_k (by omega)).trans (k5_u_RX6_5 hk h a)
theorem k5_e_RX6 {K c n k : Nat} {t : wS} (hk : 43 ≤ k) (h : ∀ a, t.2 a k = 5000) (a : Nat) : (e_RX6 K c n t).2 a k = 5000 := (k5_u_RX6_6 hk h a)
theorem k5_u_RX9_1 {K c n k : Nat} {t : wS} (hk : 43 ≤ k) (h : ∀ a, t.2 a k = 5000) (a : Nat) : (u_RX9_1 K c n t).2 a k = 5000 := (wUR_k (by omega)).trans (h a)
theorem k5_u_RX9_2 {K c n k : Nat} {t : wS} (hk : 43 ≤ k) (h : ∀ a, t.2 a k = 5000) (a : Nat) : (u_RX9_2 K c n t).2 a k = 5000 := (wUR_k (by omega)).trans (k5_u_RX9_1 hk h a)
theorem k5_u_RX9_3 {K c n k : Nat} {t : wS} (hk : 43 ≤ k) (h : ∀ a, t.2 a k = 5000) (a : Nat) : (u_RX9_3 K c n t).2 a k = 5000 := (wUR_k (by omega)).trans (k5_u_RX9_2 hk h a)
theorem k5_u_RX9_4 {K c n k : Nat} {t : wS} (hk : 43 ≤ k) (h : ∀ a, t.2 a k = 5000) (a : Nat) : (u_RX9_4 K c n t).2 a k = 5000 := (wUR_k (by omega)).trans (k5_u_RX9_3 hk h a)
theorem k5_e_RX9 {K c n k : Nat} {t : wS} (hk : 43 ≤ k) (h : ∀ a, t.2 a k = 5000) (a : Nat) : (e_RX9 K c n t).2 a k = 5000 := (k5_u_RX9_4 hk h a)
theorem k5_u_RX5_1 {K c n k : Nat} {t : wS} (hk : 43 ≤ k) (h : ∀ a, t.2 a k = 5000) (a : Nat) : (u_RX5_1 K c n t).2 a k = 5000 := (wUR_k (by omega)).trans (h a)
theorem k5_u_RX5_2 {K c n k : Nat} {t : wS} (hk : 43 ≤ k) (h : ∀ a, t.2 a k = 5000) (a : Nat) : (u_RX5_2 K c n t).2 a k = 5000 := (wUR_k (by omega)).trans (k5_u_RX5_1 hk h a)
theorem k5_u_RX5_3 {K c n k : Nat} {t : wS} (hk : 43 ≤ k) (h : ∀ a, t.2 a k = 5000) (a : Nat) : (u_RX5_3 K c n t).2 a k = 5000 := (wUR_k (by omega)).trans (k5_u_RX5_2 hk h a)
theorem k5_e_RX5 {K c n k : Nat} {t : wS} (hk : 43 ≤ k) (h : ∀ a, t.2 a k = 5000) (a : Nat) : (e_RX5 K c n t).2 a k = 5000 := (k5_u_RX5_3 hk h a)
theorem k5_u_RX11_1 {K c n k : Nat} {t : wS} (hk : 43 ≤ k) (h : ∀ a, t.2 a k = 5000) (a : Nat) : (u_RX11_1 K c n t).2 a k = 5000 := k5_e_RX10 hk (fun a => h a) a
theorem k5_u_RX11_2 {K c n k : Nat} {t : wS} (hk : 43 ≤ k) (h : ∀ a, t.2 a k = 5000) (a : Nat) : (u_RX11_2 K c n t).2 a k = 5000 := (wUR_k (by omega)).trans (k5_u_RX11_1 hk h a)
theorem k5_u_RX11_3 {K c n k : Nat} {t : wS} (hk : 43 ≤ k) (h : ∀ a, t.2 a k = 5000) (a : Nat) : (u_RX11_3 K c n t).2 a k = 5000 := k5_e_RX2 hk (fun a => k5_u_RX11_2 hk h a) a
theorem k5_u_RX11_4 {K c n k : Nat} {t : wS} (hk : 43 ≤ k) (h : ∀ a, t.2 a k = 5000) (a : Nat) : (u_RX11_4 K c n t).2 a k = 5000 := (wUR_k (by omega)).trans (k5_u_RX11_3 hk h a)
theorem k5_u_RX11_5 {K c n k : Nat} {t : wS} (hk : 43 ≤ k) (h : ∀ a, t.2 a k = 5000) (a : Nat) : (u_RX11_5 K c n t).2 a k = 5000 := k5_e_RX2 hk (fun a => k5_u_RX11_4 hk h a) a
theorem k5_u_RX11_6 {K c n k : Nat} {t : wS} (hk : 43 ≤ k) (h : ∀ a, t.2 a k = 5000) (a : Nat) : (u_RX11_6 K c n t).2 a k = 5000 := (wUR_k (by omega)).trans (k5_u_RX11_5 hk h a)
theorem k5_u_RX11_7 {K c n k : Nat} {t : wS} (hk : 43 ≤ k) (h : ∀ a, t.2 a k = 5000) (a : Nat) : (u_RX11_7 K c n t).2 a k = 5000 := k5_e_RX7 hk (fun a => k5_u_RX11_6 hk h a) a
theorem k5_u_RX11_8 {K c n k : Nat} {t : wS} (hk : 43 ≤ k) (h : ∀ a, t.2 a k = 5000) (a : Nat) : (u_RX11_8 K c n t).2 a k = 5000 := (wUR_k (by omega)).trans (k5_u_RX11_7 hk h a)
theorem k5_u_RX11_9 {K c n k : Nat} {t : wS} (hk : 43 ≤ k) (h : ∀ a, t.2 a k = 5000) (a : Nat) : (u_RX11_9 K c n t).2 a k = 5000 := k5_e_RX4 hk (fun a => k5_u_RX11_8 hk h a) a
theorem k5_u_RX11_10 {K c n k : Nat} {t : wS} (hk : 43 ≤ k) (h : ∀ a, t.2 a k = 5000) (a : Nat) : (u_RX11_10 K c n t).2 a k = 5000 := (wUR_k (by omega)).trans (k5_u_RX11_9 hk h a)
theorem k5_u_RX11_11 {K c n k : Nat} {t : wS} (hk : 43 ≤ k) (h : ∀ a, t.2 a k = 5000) (a : Nat) : (u_RX11_11 K c n t).2 a k = 5000 := k5_e_RX3 hk (fun a => k5_u_RX11_10 hk h a) a
theorem k5_u_RX11_12 {K c n k : Nat} {t : wS} (hk : 43 ≤ k) (h : ∀ a, t.2 a k = 5000) (a : Nat) : (u_RX11_12 K c n t).2 a k = 5000 := (wUR_k (by omega)).trans (k5_u_RX11_11 hk h a)
theorem k5_u_RX11_13 {K c n k : Nat} {t : wS} (hk : 43 ≤ k) (h : ∀ a, t.2 a k = 5000) (a : Nat) : (u_RX11_13 K c n t).2 a k = 5000 := k5_e_RX0 hk (fun a => k5_u_RX11_12 hk h a) a
theorem k5_u_RX11_14 {K c n k : Nat} {t : wS} (hk : 43 ≤ k) (h : ∀ a, t.2 a k = 5000) (a : Nat) : (u_RX11_14 K c n t).2 a k = 5000 := (wUR_k (by omega)).trans (k5_u_RX11_13 hk h a)
theorem k5_u_RX11_15 {K c n k : Nat} {t : wS} (hk : 43 ≤ k) (h : ∀ a, t.2 a k = 5000) (a : Nat) : (u_RX11_15 K c n t).2 a k = 5000 := k5_e_RX6 hk (fun a => k5_u_RX11_14 hk h a) a
theorem k5_u_RX11_16 {K c n k : Nat} {t : wS} (hk : 43 ≤ k) (h : ∀ a, t.2 a k = 5000) (a : Nat) : (u_RX11_16 K c n t).2 a k = 5000 := (wUR_k (by omega)).trans (k5_u_RX11_15 hk h a)
theorem k5_u_RX11_17 {K c n k : Nat} {t : wS} (hk : 43 ≤ k) (h : ∀ a, t.2 a k = 5000) (a : Nat) : (u_RX11_17 K c n t).2 a k = 5000 := k5_e_RX9 hk (fun a => k5_u_RX11_16 hk h a) a
theorem k5_u_RX11_18 {K c n k : Nat} {t : wS} (hk : 43 ≤ k) (h : ∀ a, t.2 a k = 5000) (a : Nat) : (u_RX11_18 K c n t).2 a k = 5000 := (wUR_k (by omega)).trans (k5_u_RX11_17 hk h a)
theorem k5_u_RX11_19 {K c n k : Nat} {t : wS} (hk : 43 ≤ k) (h : ∀ a, t.2 a k = 5000) (a : Nat) : (u_RX11_19 K c n t).2 a k = 5000 := k5_e_RX5 hk (fun a => k5_u_RX11_18 hk h a) a
theorem k5_u_RX11_20 {K c n k : Nat} {t : wS} (hk : 43 ≤ k) (h : ∀ a, t.2 a k = 5000) (a : Nat) : (u_RX11_20 K c n t).2 a k = 5000 := (wUR_k (by omega)).trans (k5_u_RX11_19 hk h a)
theorem k5_u_RX11_21 {K c n k : Nat} {t : wS} (hk : 43 ≤ k) (h : ∀ a, t.2 a k = 5000) (a : Nat) : (u_RX11_21 K c n t).2 a k = 5000 := (wUR_k (by omega)).trans (k5_u_RX11_20 hk h a)
theorem k5_u_RX11_22 {K c n k : Nat} {t : wS} (hk : 43 ≤ k) (h : ∀ a, t.2 a k = 5000) (a : Nat) : (u_RX11_22 K c n t).2 a k = 5000 := k5_e_RX8 hk (fun a => k5_u_RX11_21 hk h a) a
theorem k5_u_RX11_23 {K c n k : Nat} {t : wS} (hk : 43 ≤ k) (h : ∀ a, t.2 a k = 5000) (a : Nat) : (u_RX11_23 K c n t).2 a k = 5000 := (wUR_k (by simp only [tc0, tc1, tc2, tc3, tc4, tc5]; omega)).trans (k5_u_RX11_22 hk h a)
theorem k5_u_RX11_24 {K c n k : Nat} {t : wS} (hk : 43 ≤ k) (h : ∀ a, t.2 a k = 5000) (a : Nat) : (u_RX11_24 K c n t).2 a k = 5000 := k5_e_RX8 hk (fun a => k5_u_RX11_23 hk h a) a
theorem k5_u_RX11_25 {K c n k : Nat} {t : wS} (hk : 43 ≤ k) (h : ∀ a, t.2 a k = 5000) (a : Nat) : (u_RX11_25 K c n t).2 a k = 5000 := (wUR_k (by simp only [tc0, tc1, tc2, tc3, tc4, tc5]; omega)).trans (k5_u_RX11_24 hk h a)
theorem k5_u_RX11_26 {K c n k : Nat} {t : wS} (hk : 43 ≤ k) (h : ∀ a, t.2 a k = 5000) (a : Nat) : (u_RX11_26 K c n t).2 a k = 5000 := k5_e_RX8 hk (fun a => k5_u_RX11_25 hk h a) a
theorem k5_u_RX11_27 {K c n k : Nat} {t : wS} (hk : 43 ≤ k) (h : ∀ a, t.2 a k = 5000) (a : Nat) : (u_RX11_27 K c n t).2 a k = 5000 := (wUR_k (by simp only [tc0, tc1, tc2, tc3, tc4, tc5]; omega)).trans (k5_u_RX11_26 hk h a)
theorem k5_u_RX11_28 {K c n k : Nat} {t : wS} (hk : 43 ≤ k) (h : ∀ a, t.2 a k = 5000) (a : Nat) : (u_RX11_28 K c n t).2 a k = 5000 := k5_e_RX8 hk (fun a => k5_u_RX11_27 hk h a) a
theorem k5_u_RX11_29 {K c n k : Nat} {t : wS} (hk : 43 ≤ k) (h : ∀ a, t.2 a k = 5000) (a : Nat) : (u_RX11_29 K c n t).2 a k = 5000 := (wUR_k (by simp only [tc0, tc1, tc2, tc3, tc4, tc5]; omega)).trans (k5_u_RX11_28 hk h a)
theorem k5_u_RX11_30 {K c n k : Nat} {t : wS} (hk : 43 ≤ k) (h : ∀ a, t.2 a k = 5000) (a : Nat) : (u_RX11_30 K c n t).2 a k = 5000 := k5_e_RX8 hk (fun a => k5_u_RX11_29 hk h a) a
theorem k5_u_RX11_31 {K c n k : Nat} {t : wS} (hk : 43 ≤ k) (h : ∀ a, t.2 a k = 5000) (a : Nat) : (u_RX11_31 K c n t).2 a k = 5000 := (wUR_k (by simp only [tc0, tc1, tc2, tc3, tc4, tc5]; omega)).trans (k5_u_RX11_30 hk h a)
theorem k5_u_RX11_32 {K c n k : Nat} {t : wS} (hk : 43 ≤ k) (h : ∀ a, t.2 a k = 5000) (a : Nat) : (u_RX11_32 K c n t).2 a k = 5000 := k5_e_RX8 hk (fun a => k5_u_RX11_31 hk h a) a
theorem k5_u_RX11_33 {K c n k : Nat} {t : wS} (hk : 43 ≤ k) (h : ∀ a, t.2 a k = 5000) (a : Nat) : (u_RX11_33 K c n t).2 a k = 5000 := (wUR_k (by simp only [tc0, tc1, tc2, tc3, tc4, tc5]; omega)).trans (k5_u_RX11_32 hk h a)
theorem k5_e_RX11 {K c n k : Nat} {t : wS} (hk : 43 ≤ k) (h : ∀ a, t.2 a k = 5000) (a : Nat) : (e_RX11 K c n t).2 a k = 5000 := (k5_u_RX11_33 hk h a)
theorem k5_u_RX12_1 {K c n k : Nat} {t : wS} (hk : 43 ≤ k) (h : ∀ a, t.2 a k = 5000) (a : Nat) : (u_RX12_1 K c n t).2 a k = 5000 := (wUR_k (by omega)).trans (h a)
theorem k5_u_RX12_2 {K c n k : Nat} {t : wS} (hk : 43 ≤ k) (h : ∀ a, t.2 a k = 5000) (a : Nat) : (u_RX12_2 K c n t).2 a k = 5000 := (wUR_k (by omega)).trans (k5_u_RX12_1 hk h a)
theorem k5_u_RX12_3 {K c n k : Nat} {t : wS} (hk : 43 ≤ k) (h : ∀ a, t.2 a k = 5000) (a : Nat) : (u_RX12_3 K c n t).2 a k = 5000 := (wUR_k (by omega)).trans (k5_u_RX12_2 hk h a)
theorem k5_u_RX12_4 {K c n k : Nat} {t : wS} (hk : 43 ≤ k) (h : ∀ a, t.2 a k = 5000) (a : Nat) : (u_RX12_4 K c n t).2 a k = 5000 := (wUR_k (by omega)).trans (k5_u_RX12_3 hk h a)
theorem k5_u_RX12_5 {K c n k : Nat} {t : wS} (hk : 43 ≤ k) (h : ∀ a, t.2 a k = 5000) (a : Nat) : (u_RX12_5 K c n t).2 a k = 5000 := (wUR_k (by omega)).trans (k5_u_RX12_4 hk h a)
theorem k5_u_RX12_6 {K c n k : Nat} {t : wS} (hk : 43 ≤ k) (h : ∀ a, t.2 a k = 5000) (a : Nat) : (u_RX12_6 K c n t).2 a k = 5000 := (wUR_k (by omega)).trans (k5_u_RX12_5 hk h a)
theorem k5_u_RX12_7 {K c n k : Nat} {t : wS} (hk : 43 ≤ k) (h : ∀ a, t.2 a k = 5000) (a : Nat) : (u_RX12_7 K c n t).2 a k = 5000 := (wUR_k (by omega)).trans (k5_u_RX12_6 hk h a)
theorem k5_u_RX12_8 {K c n k : Nat} {t : wS} (hk : 43 ≤ k) (h : ∀ a, t.2 a k = 5000) (a : Nat) : (u_RX12_8 K c n t).2 a k = 5000 := (wUR_k (by omega)).trans (k5_u_RX12_7 hk h a)
theorem k5_u_RX12_9 {K c n k : Nat} {t : wS} (hk : 43 ≤ k) (h : ∀ a, t.2 a k = 5000) (a : Nat) : (u_RX12_9 K c n t).2 a k = 5000 := (wUR_k (by omega)).trans (k5_u_RX12_8 hk h a)
theorem k5_u_RX12_10 {K c n k : Nat} {t : wS} (hk : 43 ≤ k) (h : ∀ a, t.2 a k = 5000) (a : Nat) : (u_RX12_10 K c n t).2 a k = 5000 := (wUR_k (by omega)).trans (k5_u_RX12_9 hk h a)
theorem k5_u_RX12_11 {K c n k : Nat} {t : wS} (hk : 43 ≤ k) (h : ∀ a, t.2 a k = 5000) (a : Nat) : (u_RX12_11 K c n t).2 a k = 5000 := (wUR_k (by omega)).trans (k5_u_RX12_10 hk h a)
theorem k5_u_RX12_12 {K c n k : Nat} {t : wS} (hk : 43 ≤ k) (h : ∀ a, t.2 a k = 5000) (a : Nat) : (u_RX12_12 K c n t).2 a k = 5000 := (wUR_k (by omega)).trans (k5_u_RX12_11 hk h a)
theorem k5_u_RX12_13 {K c n k : Nat} {t : wS} (hk : 43 ≤ k) (h : ∀ a, t.2 a k = 5000) (a : Nat) : (u_RX12_13 K c n t).2 a k = 5000 := (wUR_k (by omega)).trans (k5_u_RX12_12 hk h a)
theorem k5_u_RX12_14 {K c n k : Nat} {t : wS} (hk : 43 ≤ k) (h : ∀ a, t.2 a k = 5000) (a : Nat) : (u_RX12_14 K c n t).2 a k = 5000 := (k5_u_RX12_13 hk h a)
theorem k5_u_RX12_15 {K c n k : Nat} {t : wS} (hk : 43 ≤ k) (h : ∀ a, t.2 a k = 5000) (a : Nat) : (u_RX12_15 K c n t).2 a k = 5000 := (wUR_k (by omega)).trans (k5_u_RX12_14 hk h a)
theorem k5_u_RX12_16 {K c n k : Nat} {t : wS} (hk : 43 ≤ k) (h : ∀ a, t.2 a k = 5000) (a : Nat) : (u_RX12_16 K c n t).2 a k = 5000 := (wUR_k (by omega)).trans (k5_u_RX12_15 hk h a)
theorem k5_u_RX12_17 {K c n k : Nat} {t : wS} (hk : 43 ≤ k) (h : ∀ a, t.2 a k = 5000) (a : Nat) : (u_RX12_17 K c n t).2 a k = 5000 := (wUR_k (by omega)).trans (k5_u_RX12_16 hk h a)
theorem k5_u_RX12_18 {K c n k : Nat} {t : wS} (hk : 43 ≤ k) (h : ∀ a, t.2 a k = 5000) (a : Nat) : (u_RX12_18 K c n t).2 a k = 5000 := (wUR_k (by omega)).trans (k5_u_RX12_17 hk h a)
theorem k5_u_RX12_19 {K c n k : Nat} {t : wS} (hk : 43 ≤ k) (h : ∀ a, t.2 a k = 5000) (a : Nat) : (u_RX12_19 K c n t).2 a k = 5000 := (wUR_k (by omega)).trans (k5_u_RX12_18 hk h a)
theorem k5_u_RX12_20 {K c n k : Nat} {t : wS} (hk : 43 ≤ k) (h : ∀ a, t.2 a k = 5000) (a : Nat) : (u_RX12_20 K c n t).2 a k = 5000 := k5_e_RX12_last hk (fun a => k5_u_RX12_19 hk h a) a
theorem k5_e_RX12 {K c n k : Nat} {t : wS} (hk : 43 ≤ k) (h : ∀ a, t.2 a k = 5000) (a : Nat) : (e_RX12 K c n t).2 a k = 5000 := (k5_u_RX12_20 hk h a)
theorem tE_far {k : Nat} (hk : 43 ≤ k) (a : Nat) : tE.2 a k = 5000 := k5_e_RX12 hk (fun a => k5_e_RX11 hk (fun _ => rfl) a) a
set_option maxRecDepth 100000 in
theorem tE_near : ∀ c, c < 138 → ∀ k, k < 43 → tE.2 c k = RF e00 c k := by decide +kernel
set_option maxRecDepth 100000 in
theorem RFL_len : RFL.length ≤ 138 ∧ ∀ c, c < 138 → (RFL.getD c []).length ≤ 43 := by decide +kernel
theorem tE_refs : tE.2 = RF e00 := by
  funext c k
  by_cases h1 : c < 138
  · by_cases h2 : k < 43
    · exact tE_near c h1 k h2
    · rw [tE_far (by omega)]
      unfold RF
      by_cases h3 : c = 106
      · rw [if_pos h3]
        unfold e00
        rw [if_neg (by omega)]
      · rw [if_neg h3]
        have := RFL_len.2 c h1
        rw [List.getD_eq_getElem?_getD (l := RFL.getD c []), List.getElem?_eq_none (by omega)]
        rfl
  · rw [(fr_tE.2 c k (by omega)).2]
    unfold RF
    rw [if_neg (by omega)]
    have := RFL_len.1
    rw [List.getD_eq_getElem?_getD (l := RFL), List.getElem?_eq_none (by omega)]
    rfl
theorem e00_ok : eOK e00 := by
  refine ⟨fun k hk => ⟨k, hk, if_pos hk⟩, fun k l hk hl h => ?_⟩
  unfold e00 at h
  rw [if_pos hk, if_pos hl] at h
  omega
set_option maxRecDepth 100000 in
theorem tE_28 : tE.1 28 = fun _ => 0 := rfl
set_option maxRecDepth 100000 in
theorem tE_30 : tE.1 30 = fun _ => 0 := rfl
set_option maxRecDepth 100000 in
theorem tE_93 : tE.1 93 = fun _ => 0 := rfl
set_option maxRecDepth 100000 in
theorem tE_94 : tE.1 94 = fun _ => 0 := rfl
set_option maxRecDepth 100000 in
theorem tE_95 : tE.1 95 = fun _ => 0 := rfl
set_option maxRecDepth 100000 in
theorem tE_32 : tE.1 32 = upd (fun _ => 0) 0 1 := rfl
set_option maxRecDepth 100000 in
theorem tE_120 : tE.1 120 = fun j => if j < 5 then 0 else if j = 7 then 1 else if 7 < j ∧ j < 208 then 0 else if j = 209 then 1 else if j = 210 then 10 else if 272 ≤ j ∧ j < 674 then 98 else 0 := rfl
set_option maxRecDepth 100000 in
theorem tE_c : tE.1 0 11 = J 0 ∧ tE.1 0 12 = J 0 ∧ tE.1 86 4 = J 0 ∧ tE.1 1 1 = J 0 ∧ tE.1 1 7 = J 0 ∧ tE.1 1 8 = J (-1) ∧ tE.1 6 6 = J 1 ∧ tE.1 6 7 = J 10 ∧ tE.1 6 8 = J 0 := by decide +kernel
set_option maxRecDepth 100000 in
theorem tE_d : tE.1 7 0 = J 0 ∧ tE.1 7 1 = J 0 ∧ tE.1 7 2 = J 0 ∧ tE.1 13 0 = J 99 ∧ tE.1 14 0 = J 99 ∧ tE.1 15 0 = J 0 ∧ tE.1 15 6 = J 0 ∧ tE.1 22 0 = J 0 ∧ tE.1 27 0 = J 0 := by decide +kernel
set_option maxRecDepth 100000 in
theorem tE_e : tE.1 31 0 = J 0 ∧ tE.1 31 1 = J 0 ∧ tE.1 31 2 = J 0 ∧ tE.1 31 3 = J 0 ∧ tE.1 31 4 = J 0 ∧ tE.1 31 5 = J 0 ∧ tE.1 31 6 = J 0 := by decide +kernel
set_option maxRecDepth 100000 in
theorem tE_r : tE.1 119 4 = J 0 ∧ tE.1 119 5 = J 0 ∧ tE.1 119 23 = J 0 ∧ tE.1 119 27 = J 0 ∧ tE.1 119 30 = J 0 ∧ tE.1 119 32 = J (-1) := by decide +kernel
theorem s00_at (i : Nat) : s00 i = if i = 7 then 1 else if i = 209 then 1 else if i = 210 then 10 else if 272 ≤ i ∧ i < 674 then 98 else 0 := rfl
theorem s00_z {i : Nat} (h : i ≠ 7 ∧ i ≠ 209 ∧ i ≠ 210 ∧ ¬ (272 ≤ i ∧ i < 674)) : s00 i = 0 := by
  rw [s00_at, if_neg h.1, if_neg h.2.1, if_neg h.2.2.1, if_neg h.2.2.2]
theorem s00_ok : gOK 0 s00 := by
  have z : ∀ {i : Nat}, i ≠ 7 ∧ i ≠ 209 ∧ i ≠ 210 ∧ ¬ (272 ≤ i ∧ i < 674) → s00 i = 0 := fun h => s00_z h
  have k208 : s00 208 = 0 := z (by omega)
  have k7 : s00 7 = 1 := rfl
  refine ⟨⟨⟨⟨?_, fun i hi => ?_⟩, fun sd p h1 h2 => ?_, ?_, ?_, ?_, ?_⟩, ?_, ?_, ?_, ?_, fun p hp => ?_, fun p hp h2 => ?_⟩, ⟨?_, ?_, fun i hi => ?_, fun i hi => ?_⟩, ⟨?_, fun i hi => ?_⟩, fun i hi => ?_, ⟨?_, fun i hi => ?_⟩, fun sd p h1 h2 => ?_, ?_⟩
  · rw [z (by omega)]; omega
  · rw [z (by omega)] at hi; omega
  · rw [k208] at h2; omega
  · rw [k208]; omega
  · rw [z (by omega)]; omega
  · show (1 : Nat) ≤ 4; omega
  · show (10 : Nat) ≤ 99; omega
  · rw [z (by omega)]; omega
  · rw [z (by omega)]; omega
  · rw [z (by omega)]; omega
  · rw [z (by omega)]; omega
  · by_cases c : p = 0
    · subst c; show (1 : Nat) ≤ 1; omega
    · rw [z (by omega)]; omega
  · rw [k208] at h2
    exact z (by omega)
  · rw [z (by omega)]; omega
  · rw [k208]; omega
  · rw [z (by omega)] at hi; omega
  · rw [z (by omega)] at hi; omega
  · rw [z (by omega)]; omega
  · rw [z (by omega)] at hi; omega
  · rw [z (by omega)]; omega
  · rw [z (by omega)]; omega
  · rw [z (by omega)] at hi; omega
  · rw [k208] at h2; omega
  · rw [z (by omega)]; omega
theorem lw_init : LWs 0 tE := by
  have hz : ∀ {i : Nat}, i ≠ 7 ∧ i ≠ 209 ∧ i ≠ 210 ∧ ¬ (272 ≤ i ∧ i < 674) → s00 i = 0 := fun h => s00_z h
  have k208 : s00 208 = 0 := hz (by omega)
  obtain ⟨a1, a2, a3, a4, a5, a6, a7, a8, a9⟩ := tE_c
  obtain ⟨b1, b2, b3, b4, b5, b6, b7, b8, b9⟩ := tE_d
  obtain ⟨c1, c2, c3, c4, c5, c6, c7⟩ := tE_e
  obtain ⟨d1, d2, d3, d4, d5, d6⟩ := tE_r
  have e2 := tE_refs
  have hD : DkK 6 s00 tE.1 := by
    refine ⟨⟨⟨?_, ?_, ?_⟩, fun i hi => ?_, fun sd p h1 h2 => ?_⟩, ⟨?_, 0, fun i hi => ?_, ?_, ?_, fun k hk => ?_, fun i hi => ?_⟩, ⟨?_, fun i hi => ?_⟩, ⟨?_, fun i hi => ?_⟩, fun i hi => ?_, ⟨⟨?_, ?_, ?_, ?_, ?_, ?_, ?_⟩, fun p hp => ?_⟩, ⟨?_, ?_, ?_⟩, fun i hi => ?_⟩
    · rw [k208]; exact b1
    · rw [hz (by omega)]; exact b2
    · rw [hz (i := 211) (by omega)]; exact b3
    · rw [hz (by omega)] at hi; omega
    · rw [k208] at h2
      have hp : p = 0 := by omega
      subst hp
      have hh : heardM s00 sd 0 = 99 := if_pos k208.symm
      rw [hh]
      obtain rfl | rfl : sd = 0 ∨ sd = 1 := by omega
      · exact b4
      · exact b5
    · rw [hz (by omega)]; exact b6
    · rw [hz (by omega)] at hi; omega
    · show (0 : Nat) ≤ 400; omega
    · exact b7
    · exact absurd hk (Nat.not_lt_zero k)
    · rw [hz (by omega)] at hi; omega
    · rw [hz (by omega)]; exact b8
    · rw [hz (by omega)] at hi; omega
    · rw [hz (by omega)]; exact b9
    · rw [hz (by omega)]
      show tE.1 28 i = _
      rw [tE_28]; rfl
    · rw [hz (by omega)]
      show tE.1 30 i = _
      rw [tE_30]; rfl
    · rw [hz (by omega)]; exact c1
    · rw [hz (by omega)]; exact c2
    · rw [hz (by omega)]; exact c3
    · rw [hz (by omega)]; exact c4
    · rw [hz (by omega)]; exact c5
    · rw [hz (by omega)]; exact c6
    · rw [hz (by omega)]; exact c7
    · show tE.1 32 p = _
      rw [tE_32]
      by_cases c : p = 0
      · subst c; rfl
      · rw [hz (by omega)]
        unfold upd
        rw [if_neg c]; rfl
    · exact a7
    · exact a8
    · rw [hz (by omega)]; exact a9
    · rw [hz (by omega)] at hi; omega
  refine ⟨0, 0, s00, s00, [], false, fun _ => 0, 0, 0, -1, e00, tE.1, by rw [← e2], by omega, by omega, ⟨hD, BsK.nil a1, e00_ok, a2, fun h => absurd h (by decide), a3, fun w p hw hp => ⟨0, by omega, ?_⟩⟩, ⟨s00_ok, fun j hj => absurd hj (Nat.not_lt_zero j), fun h => absurd h (by decide)⟩, fun i hi => ?_, RBs.nil d1, ⟨d2, fun h => absurd h (by decide)⟩, ⟨⟨by omega, d3, fun i hi => absurd hi (Nat.not_lt_zero i)⟩, by omega, a4, fun i hi => absurd hi (Nat.not_lt_zero i)⟩, ⟨⟨d5, d6⟩, a5, a6⟩, ⟨0, by omega, d4⟩⟩
  · obtain rfl | rfl | rfl : w = 0 ∨ w = 1 ∨ w = 2 := by omega
    · show tE.1 93 p = _
      rw [tE_93]; rfl
    · show tE.1 94 p = _
      rw [tE_94]; rfl
    · show tE.1 95 p = _
      rw [tE_95]; rfl
  · rw [tE_120, s00_at]
    dsimp only
    (repeat' split) <;> first | rfl | (exfalso; omega)
