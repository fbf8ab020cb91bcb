/-! ORDER: by sets, and by all orders: sums -/
def smN (f : Nat → Nat) : Nat → Nat
  | 0 => 0
  | n + 1 => smN f n + f n
theorem smN_c {f g : Nat → Nat} : ∀ n, (∀ i, i < n → f i = g i) → smN f n = smN g n
  | 0, _ => rfl
  | n + 1, h => by rw [smN, smN, smN_c n (fun i hi => h i (by omega)), h n (by omega)]
theorem smN_add (f g : Nat → Nat) : ∀ n, smN (fun i => f i + g i) n = smN f n + smN g n
  | 0 => rfl
  | n + 1 => by rw [smN, smN, smN, smN_add f g n]; omega
theorem smN_mul (f : Nat → Nat) (c : Nat) : ∀ n, smN (fun i => f i * c) n = smN f n * c
  | 0 => by rw [smN, smN, Nat.zero_mul]
  | n + 1 => by rw [smN, smN, smN_mul f c n, Nat.add_mul]
theorem smN_0 : ∀ n, smN (fun _ => 0) n = 0
  | 0 => rfl
  | n + 1 => by rw [smN, smN_0 n]
theorem smN_swap (f : Nat → Nat → Nat) (k : Nat) : ∀ n, smN (fun i => smN (fun j => f i j) k) n = smN (fun j => smN (fun i => f i j) n) k
  | 0 => (smN_0 k).symm
  | n + 1 => by
    rw [smN, smN_swap f k n, ← smN_add]
    rfl
theorem smN_le {f : Nat → Nat} {c : Nat} : ∀ n, (∀ i, i < n → f i ≤ c) → smN f n ≤ c * n
  | 0, _ => Nat.zero_le _
  | n + 1, h => by
    have h1 := smN_le n (fun i hi => h i (by omega))
    have h2 := h n (by omega)
    rw [smN, Nat.mul_succ]
    omega
theorem smN_mono (f : Nat → Nat) : ∀ (d a : Nat), smN f a ≤ smN f (a + d)
  | 0, _ => Nat.le_refl _
  | d + 1, a => by
    have := smN_mono f d a
    rw [show a + (d + 1) = (a + d) + 1 by omega, smN]
    omega
theorem smN_rng (f : Nat → Nat) (a b : Nat) (hab : a ≤ b) : ∀ n, smN (fun t => if a ≤ t ∧ t < b then f t else 0) n + smN f (min a n) = smN f (min b n)
  | 0 => by rw [Nat.min_zero, Nat.min_zero]; rfl
  | n + 1 => by
    have h := smN_rng f a b hab n
    rw [smN]
    by_cases h1 : a ≤ n ∧ n < b
    · rw [if_pos h1, show min a (n + 1) = min a n by omega, show min b (n + 1) = n + 1 by omega, smN]
      rw [show min b n = n by omega] at h
      omega
    · rw [if_neg h1]
      by_cases h2 : n < a
      · rw [show min a (n + 1) = n + 1 by omega, show min b (n + 1) = n + 1 by omega]
        rw [show min a n = n by omega, show min b n = n by omega] at h
        rw [smN]
        omega
      · rw [show min a (n + 1) = min a n by omega, show min b (n + 1) = min b n by omega]
        omega
/-! sets -/
theorem or_bit (a i k : Nat) : bitM (a ||| 2 ^ i) k = if k = i then 1 else bitM a k := by
  rw [bitM_eq, bitM_eq, Nat.testBit_or, Nat.testBit_two_pow]
  by_cases q : k = i
  · subst q
    simp
  · rw [if_neg q]
    have : decide (i = k) = false := decide_eq_false (fun h => q h.symm)
    rw [this, Bool.or_false]
def sumA (A : Nat) (f : Nat → Nat) (n : Nat) : Nat := smN (fun a => if bitM A a = 1 then f a else 0) n
theorem sumA_or {A i : Nat} (f : Nat → Nat) (h : bitM A i = 0) : ∀ n, sumA (A ||| 2 ^ i) f n = sumA A f n + if i < n then f i else 0
  | 0 => rfl
  | n + 1 => by
    have ih := sumA_or f h n
    unfold sumA at ih ⊢
    rw [smN, smN, ih, or_bit]
    by_cases q : n = i
    · subst q
      rw [if_pos rfl, if_pos rfl, if_neg (by omega), if_neg (by omega), if_pos (by omega)]
    · rw [if_neg q]
      by_cases q2 : i < n
      · rw [if_pos q2, if_pos (show i < n + 1 by omega)]; omega
      · rw [if_neg q2, if_neg (show ¬ i < n + 1 by omega)]; omega
/-- the set of the first t -/
def preS (q : List Nat) : Nat → Nat
  | 0 => 0
  | t + 1 => preS q t ||| 2 ^ (q.getD t 0)
theorem preS_bit (q : List Nat) (x : Nat) : ∀ t, bitM (preS q t) x = 1 ↔ ∃ j, j < t ∧ q.getD j 0 = x
  | 0 => by
    have : bitM 0 x = 0 := by unfold bitM; simp
    rw [preS, this]
    exact ⟨fun h => absurd h (by decide), fun ⟨j, h, _⟩ => absurd h (Nat.not_lt_zero j)⟩
  | t + 1 => by
    rw [preS, or_bit]
    by_cases h : x = q.getD t 0
    · rw [if_pos h]
      exact ⟨fun _ => ⟨t, by omega, h.symm⟩, fun _ => rfl⟩
    · rw [if_neg h, preS_bit q x t]
      refine ⟨fun ⟨j, h1, h2⟩ => ⟨j, by omega, h2⟩, fun ⟨j, h1, h2⟩ => ⟨j, ?_, h2⟩⟩
      by_cases h3 : j = t
      · subst h3; exact absurd h2.symm h
      · omega
/-- different places below N -/
def dstL (N : Nat) (q : List Nat) : Prop := (∀ j, j < q.length → q.getD j 0 < N) ∧ ∀ i j, i < q.length → j < q.length → q.getD i 0 = q.getD j 0 → i = j
theorem preS_no {N : Nat} {q : List Nat} (hd : dstL N q) {t i : Nat} (ht : t ≤ q.length) (hi : i < q.length) : bitM (preS q t) (q.getD i 0) = 1 ↔ i < t := by
  rw [preS_bit]
  refine ⟨fun ⟨j, h1, h2⟩ => ?_, fun h => ⟨i, h, rfl⟩⟩
  have := hd.2 j i (by omega) hi h2
  omega
theorem bit01 {a k : Nat} (h : ¬ bitM a k = 1) : bitM a k = 0 := by
  have := bitM_le a k
  omega
theorem preS_sum {N : Nat} {q : List Nat} (hd : dstL N q) (f : Nat → Nat) : ∀ t, t ≤ q.length → sumA (preS q t) f N = smN (fun j => f (q.getD j 0)) t
  | 0, _ => by
    unfold sumA
    rw [preS, smN, smN_c (g := fun _ => 0) N (fun i _ => if_neg (by unfold bitM; simp)), smN_0]
  | t + 1, ht => by
    rw [preS, sumA_or f (bit01 (fun h => by have := (preS_no hd (t := t) (by omega) (by omega)).mp h; omega)) N, preS_sum hd f t (by omega), if_pos (hd.1 t (by omega))]
    rfl
theorem all_one {f : Nat → Nat} : ∀ n, (∀ i, i < n → f i ≤ 1) → smN f n = n → ∀ i, i < n → f i = 1
  | 0, _, _, i, hi => absurd hi (Nat.not_lt_zero i)
  | n + 1, h, hs, i, hi => by
    have h1 := smN_le (c := 1) n (fun i hi => h i (by omega))
    have h2 := h n (by omega)
    rw [smN] at hs
    by_cases q : i = n
    · subst q; omega
    · exact all_one n (fun i hi => h i (by omega)) (by omega) i (by omega)
theorem preS_full {N : Nat} {q : List Nat} (hd : dstL N q) (hl : q.length = N) : ∀ a, a < N → bitM (preS q N) a = 1 := fun a ha => by
  have h := preS_sum hd (fun _ => 1) N (by omega)
  unfold sumA at h
  rw [show smN (fun _ => 1) N = N from (by
    have : ∀ n, smN (fun _ => 1) n = n := fun n => by
      induction n with
      | zero => rfl
      | succ n ih => rw [smN, ih]
    exact this N)] at h
  have := all_one N (fun i _ => by dsimp only; split <;> omega) h a ha
  by_cases q2 : bitM (preS q N) a = 1
  · exact q2
  · rw [if_neg q2] at this; omega
/-- a sum over all below N is the sum over the list -/
theorem sum_all {N : Nat} {q : List Nat} (hd : dstL N q) (hl : q.length = N) (f : Nat → Nat) : smN f N = smN (fun j => f (q.getD j 0)) N := by
  rw [← preS_sum hd f N (by omega)]
  unfold sumA
  exact smN_c N (fun a ha => (if_pos (preS_full hd hl a ha)).symm)
/-! what it costs that song i lies behind A -/
def crossM (s : wSg) (F N A i : Nat) : Nat := smN (fun a => smN (fun b => if (bitM A a = 1 ∧ ¬ bitM A b = 1 ∧ ¬ b = i) ∨ (¬ bitM A a = 1 ∧ (bitM A b = 1 ∨ b = i) ∧ ¬ a = b) then s (734 + 14 * (F + a) + (F + b)) else 0) N) N * s (216 + 4 * (F + i) + 2)
def accM (s : wSg) (F N : Nat) (q : List Nat) (t : Nat) : Nat := smN (fun j => crossM s F N (preS q j) (q.getD j 0)) t
theorem map_getD {F : Nat} {q : List Nat} {i : Nat} (h : i < q.length) : (q.map (F + ·)).getD i 0 = F + q.getD i 0 := by
  rw [List.getD_eq_getElem?_getD, List.getD_eq_getElem?_getD, List.getElem?_map]
  simp [h]
theorem start_sm (s : wSg) (p : List Nat) : ∀ i, startM s p i = smN (fun t => s (216 + 4 * (p.getD t 0) + 2)) i
  | 0 => rfl
  | i + 1 => by rw [startM, smN, start_sm s p i]
theorem row_sm (s : wSg) (p : List Nat) (i : Nat) : ∀ k, rowM s p i k = smN (pairM s p i) k
  | 0 => rfl
  | k + 1 => by rw [rowM, smN, row_sm s p i k]
theorem ocost_sm (s : wSg) (p : List Nat) : ∀ n, ocostM s p n = smN (fun i => smN (pairM s p i) p.length) n
  | 0 => rfl
  | n + 1 => by rw [ocostM, smN, ocost_sm s p n, row_sm]
theorem acc_cost {s : wSg} {F N : Nat} {q : List Nat} (hd : dstL N q) (hl : q.length = N) : accM s F N q N = ocostM s (q.map (F + ·)) N := by
  obtain ⟨L, hL⟩ : ∃ L : Nat → Nat, L = fun t => s (216 + 4 * (F + q.getD t 0) + 2) := ⟨_, rfl⟩
  obtain ⟨W, hW⟩ : ∃ W : Nat → Nat → Nat, W = fun i k => s (734 + 14 * (F + q.getD i 0) + (F + q.getD k 0)) := ⟨_, rfl⟩
  have e1 : accM s F N q N = smN (fun t => smN (fun i => smN (fun k => if (i < t ∧ t < k) ∨ (k ≤ t ∧ t ≤ i ∧ ¬ i = k) then W i k * L t else 0) N) N) N := by
    unfold accM
    refine smN_c N (fun t ht => ?_)
    unfold crossM
    rw [sum_all hd hl, ← smN_mul]
    refine smN_c N (fun i hi => ?_)
    rw [sum_all hd hl, ← smN_mul]
    refine smN_c N (fun k hk => ?_)
    have n1 := preS_no hd (t := t) (i := i) (by omega) (by omega)
    have n2 := preS_no hd (t := t) (i := k) (by omega) (by omega)
    have n3 : q.getD k 0 = q.getD t 0 ↔ k = t := ⟨fun h => hd.2 k t (by omega) (by omega) h, fun h => by rw [h]⟩
    have n4 : q.getD i 0 = q.getD k 0 ↔ i = k := ⟨fun h => hd.2 i k (by omega) (by omega) h, fun h => by rw [h]⟩
    simp only [n1, n2, n3, n4]
    by_cases c : (i < t ∧ t < k) ∨ (k ≤ t ∧ t ≤ i ∧ ¬ i = k)
    · rw [if_pos c, if_pos (by omega), hW, hL]
    · rw [if_neg c, if_neg (by omega), Nat.zero_mul]
  have hlm : (q.map (F + ·)).length = N := by rw [List.length_map, hl]
  rw [e1, ocost_sm, smN_swap]
  refine smN_c N (fun i hi => ?_)
  rw [smN_swap, hlm]
  refine smN_c N (fun k hk => ?_)
  have hst : ∀ j, j ≤ N → startM s (q.map (F + ·)) j = smN L j := fun j hj => by
    rw [start_sm, hL]
    exact smN_c j (fun t ht => by rw [map_getD (by omega)])
  have hfar : farM s (q.map (F + ·)) i k = (smN L k : Int) - (smN L (i + 1) : Int) := by
    unfold farM
    have h1 : smN L (i + 1) = smN L i + L i := rfl
    have h2 : L i = s (216 + 4 * (F + q.getD i 0) + 2) := by rw [hL]
    rw [hst k (by omega), hst i (by omega), map_getD (by omega)]
    omega
  have hw : s (734 + 14 * ((q.map (F + ·)).getD i 0) + (q.map (F + ·)).getD k 0) = W i k := by rw [map_getD (by omega), map_getD (by omega), hW]
  unfold pairM
  rw [hw, hfar]
  have hsum : ∀ (C : Nat → Prop) (hC : ∀ t, Decidable (C t)), smN (fun t => @ite _ (C t) (hC t) (W i k * L t) 0) N = W i k * smN (fun t => @ite _ (C t) (hC t) (L t) 0) N := fun C hC => by
    rw [Nat.mul_comm, ← smN_mul]
    refine smN_c N (fun t _ => ?_)
    by_cases c : C t
    · rw [if_pos c, if_pos c, Nat.mul_comm]
    · rw [if_neg c, if_neg c, Nat.zero_mul]
  rw [hsum]
  by_cases c : i = k
  · rw [if_pos c, smN_c (g := fun _ => 0) N (fun t _ => if_neg (by omega)), smN_0, Nat.mul_zero]
  · rw [if_neg c]
    congr 1
    by_cases c2 : i < k
    · have h := smN_rng L (i + 1) k (by omega) N
      rw [show min (i + 1) N = i + 1 by omega, show min k N = k by omega] at h
      rw [smN_c (g := fun t => if i + 1 ≤ t ∧ t < k then L t else 0) N (fun t _ => by
        by_cases c3 : i + 1 ≤ t ∧ t < k
        · rw [if_pos c3, if_pos (by omega)]
        · rw [if_neg c3, if_neg (by omega)])]
      omega
    · have h := smN_rng L k (i + 1) (by omega) N
      rw [show min (i + 1) N = i + 1 by omega, show min k N = k by omega] at h
      rw [smN_c (g := fun t => if k ≤ t ∧ t < i + 1 then L t else 0) N (fun t _ => by
        by_cases c3 : k ≤ t ∧ t < i + 1
        · rw [if_pos c3, if_pos (by omega)]
        · rw [if_neg c3, if_neg (by omega)])]
      omega
