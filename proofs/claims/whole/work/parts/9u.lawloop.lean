/-! THE LAW: its loop -/
theorem t32 (v : Int32) : -2147483648 ≤ v.toInt ∧ v.toInt < 2147483648 := ⟨by have := Int32.le_toInt v; omega, by have := Int32.toInt_lt v; omega⟩
theorem lw_aN {i : Nat} : ∀ t : wS, aN (lwL i) t = some ([], t) := fun _ => rfl
theorem lw_aI {i : Nat} {e : wEI} {r : wAr} {v : Int32} {vs : List Value} (he : ∀ t : wS, e (lwL i) t = some (v, t)) (hr : ∀ t : wS, r (lwL i) t = some (vs, t)) : ∀ t : wS, aI e r (lwL i) t = some (.int v :: vs, t) := fun t => by
  show ((e (lwL i) t).bind _) = _
  rw [he]
  show ((r (lwL i) t).bind _) = _
  rw [hr]
  rfl
theorem lw_bo {i : Nat} {e : wEI} {v : Int32} (he : ∀ t : wS, e (lwL i) t = some (v, t)) : ∀ t : wS, eBo (cZ .ne e) (lwL i) t = some (J (if (!decide (v = 0)) = true then 1 else 0), t) := fun t => by
  show (((e (lwL i) t).bind _).bind _) = _
  rw [he]
  show some (if (!decide (v = 0)) = true then (1 : Int32) else 0, t) = _
  by_cases c : (!decide (v = 0)) = true
  · rw [if_pos c, if_pos c]; rfl
  · rw [if_neg c, if_neg c]; rfl
theorem lw_aO {i ci k c : Nat} {r : wAr} {vs : List Value} {t : wS} (hk : eLocR k (lwL i) t = some (c, t)) (hc : SH c = (0, ci)) (hr : ∀ t : wS, r (lwL i) t = some (vs, t)) : aO SH ci (eLocR k) r (lwL i) t = some (.ref c :: vs, t) := by
  show ((eLocR k (lwL i) t).bind _) = _
  rw [hk]
  show (if SH c = (0, ci) then (r (lwL i) t).bind _ else none) = _
  rw [if_pos hc, hr]
  rfl
theorem lw_eCall {f : wM} {a : wAr} {ls : wL} {t t1 : wS} {vs : List Value} {v : Int32} (h1 : a ls t = some (vs, t)) (h2 : f vs t = some (some (.int v), t1)) : eCall f a ls t = some (v, t1) := by
  show ((a ls t).bind _) = _
  rw [h1]
  show ((f vs t).bind _) = _
  rw [h2]
  rfl
theorem lw_eCallL {f : wM} {a : wAr} {ls : wL} {t t1 : wS} {vs : List Value} {v : Int64} (h1 : a ls t = some (vs, t)) (h2 : f vs t = some (some (.long v), t1)) : eCallL f a ls t = some (v, t1) := by
  show ((a ls t).bind _) = _
  rw [h1]
  show ((f vs t).bind _) = _
  rw [h2]
  rfl
theorem lw_cI {f g : wM} {a : wAr} {i : Nat} {vs : List Value} {t : wS} {R : wS → Prop} (ha : ∀ t : wS, a (lwL i) t = some (vs, t)) (h : BothA isIn f g vs t R) : ∃ t2, cI .eq (eCall f (aO SH 11 (eLocR 1) a)) (eCall g (aO SH 12 (eLocR 2) a)) (lwL i) t = some (true, t2) ∧ R t2 := by
  obtain ⟨⟨r, t1⟩, h1, ⟨v, hv⟩, ⟨⟨r2, t2⟩, h2, h3, h4⟩⟩ := h
  dsimp only at hv h2 h3 h4
  subst hv
  subst h3
  refine ⟨t2, ?_, h4⟩
  show ((eCall f (aO SH 11 (eLocR 1) a) (lwL i) t).bind _) = _
  rw [lw_eCall (lw_aO (k := 1) (c := 0) rfl rfl ha) h1]
  show ((eCall g (aO SH 12 (eLocR 2) a) (lwL i) t1).bind _) = _
  rw [lw_eCall (lw_aO (k := 2) (c := 119) rfl rfl ha) h2]
  show some (decide (v = v), t2) = _
  rw [decide_eq_true rfl]
theorem lw_cL {f g : wM} {a : wAr} {i : Nat} {vs : List Value} {t : wS} {R : wS → Prop} (ha : ∀ t : wS, a (lwL i) t = some (vs, t)) (h : BothA isLg f g vs t R) : ∃ t2, cL .eq (eCallL f (aO SH 11 (eLocR 1) a)) (eCallL g (aO SH 12 (eLocR 2) a)) (lwL i) t = some (true, t2) ∧ R t2 := by
  obtain ⟨⟨r, t1⟩, h1, ⟨v, hv⟩, ⟨⟨r2, t2⟩, h2, h3, h4⟩⟩ := h
  dsimp only at hv h2 h3 h4
  subst hv
  subst h3
  refine ⟨t2, ?_, h4⟩
  show ((eCallL f (aO SH 11 (eLocR 1) a) (lwL i) t).bind _) = _
  rw [lw_eCallL (lw_aO (k := 1) (c := 0) rfl rfl ha) h1]
  show ((eCallL g (aO SH 12 (eLocR 2) a) (lwL i) t1).bind _) = _
  rw [lw_eCallL (lw_aO (k := 2) (c := 119) rfl rfl ha) h2]
  show some (decide (lg_cmp v v = 0), t2) = _
  rw [decide_eq_true (show lg_cmp v v = 0 by simp [lg_cmp])]
section LLOOP
variable {X : wX} {b L : Nat} {zs : Nat → Int32} (K : Nat)
theorem lw_scr1 {i : Nat} {t : wS} (hL : L ≤ 3072) (h : 6 * i + 1 < L) : eScr L zs (eB oAdd (eLoc 3) (eI 1)) (lwL i) t = some (zs (6 * i + 1), t) := lw_scr (k := 1) hL h (by omega)
theorem lw_scr2 {i : Nat} {t : wS} (hL : L ≤ 3072) (h : 6 * i + 2 < L) : eScr L zs (eB oAdd (eLoc 3) (eI 2)) (lwL i) t = some (zs (6 * i + 2), t) := lw_scr (k := 2) hL h (by omega)
theorem lw_scr3 {i : Nat} {t : wS} (hL : L ≤ 3072) (h : 6 * i + 3 < L) : eScr L zs (eB oAdd (eLoc 3) (eI 3)) (lwL i) t = some (zs (6 * i + 3), t) := lw_scr (k := 3) hL h (by omega)
theorem lw_scr4 {i : Nat} {t : wS} (hL : L ≤ 3072) (h : 6 * i + 4 < L) : eScr L zs (eB oAdd (eLoc 3) (eI 4)) (lwL i) t = some (zs (6 * i + 4), t) := lw_scr (k := 4) hL h (by omega)
theorem lw_scr5 {i : Nat} {t : wS} (hL : L ≤ 3072) (h : 6 * i + 5 < L) : eScr L zs (eB oAdd (eLoc 3) (eI 5)) (lwL i) t = some (zs (6 * i + 5), t) := lw_scr (k := 5) hL h (by omega)
theorem lw_scr0 {i : Nat} {t : wS} (hL : L ≤ 3072) (h : 6 * i < L) : eScr L zs (eLoc 3) (lwL i) t = some (zs (6 * i), t) := by
  show (if (4000 : Nat) = 4000 ∧ wIn (J (6 * i : Nat)) L = true then some (zs (J (6 * i : Nat)).toNatClampNeg, t) else none) = _
  rw [if_pos ⟨rfl, J_in (by omega) (by omega) (by omega)⟩, J_nat (by omega) (by omega), Int.toNat_natCast]
theorem lk_0 (hK : 16777216 ≤ K) (hX : CX RL code 4 none 100 X) (hs : SCR X b L zs) (hsh : gsh (xG X) = SH) (hL : L ≤ 3072) {i : Nat} (hi : 6 * i + 6 ≤ L) {t : wS} (h : LWs i t) (kk : ∀ t2, LWs (i + 1) t2 → Go 4 X 1181 (lwL i) [] t2) : Go 4 X 184 (lwL i) [] t := by
  have hb := j_0 K hK h (by omega) (zs (6 * i + 1))
  try simp only [J_eta] at hb
  obtain ⟨t2, e, hR⟩ := lw_cI (lw_aI (fun t => lw_scr1 hL (by omega)) lw_aN) hb
  exact lc_0 K hX hs (lwL i) [] t true t2 (by rw [hsh]; exact e) (Nat.le_refl 0) (fun _ => kk t2 hR) (fun h => by cases h)
theorem lk_1 (hK : 16777216 ≤ K) (hX : CX RL code 4 none 100 X) (hs : SCR X b L zs) (hsh : gsh (xG X) = SH) (hL : L ≤ 3072) {i : Nat} (hi : 6 * i + 6 ≤ L) {t : wS} (h : LWs i t) (kk : ∀ t2, LWs (i + 1) t2 → Go 4 X 1181 (lwL i) [] t2) : Go 4 X 207 (lwL i) [] t := by
  have hb := j_1 K hK h (by omega) (t32 (zs (6 * i + 1))).1 (t32 (zs (6 * i + 1))).2 (t32 (zs (6 * i + 2))).1 (t32 (zs (6 * i + 2))).2
  try simp only [J_eta] at hb
  obtain ⟨t2, e, hR⟩ := lw_cI (lw_aI (fun t => lw_scr1 hL (by omega)) (lw_aI (fun t => lw_scr2 hL (by omega)) lw_aN)) hb
  exact lc_1 K hX hs (lwL i) [] t true t2 (by rw [hsh]; exact e) (Nat.le_refl 0) (fun _ => kk t2 hR) (fun h => by cases h)
theorem lk_2 (hK : 16777216 ≤ K) (hX : CX RL code 4 none 100 X) (hs : SCR X b L zs) (hsh : gsh (xG X) = SH) (hL : L ≤ 3072) {i : Nat} (hi : 6 * i + 6 ≤ L) {t : wS} (h : LWs i t) (kk : ∀ t2, LWs (i + 1) t2 → Go 4 X 1181 (lwL i) [] t2) : Go 4 X 240 (lwL i) [] t := by
  have hb := j_2 K hK h (by omega) (t32 (zs (6 * i + 1))).1 (t32 (zs (6 * i + 1))).2
  try simp only [J_eta] at hb
  obtain ⟨t2, e, hR⟩ := lw_cI (lw_aI (fun t => lw_scr1 hL (by omega)) lw_aN) hb
  exact lc_2 K hX hs (lwL i) [] t true t2 (by rw [hsh]; exact e) (Nat.le_refl 0) (fun _ => kk t2 hR) (fun h => by cases h)
theorem lk_3 (hK : 16777216 ≤ K) (hX : CX RL code 4 none 100 X) (hs : SCR X b L zs) (hsh : gsh (xG X) = SH) (hL : L ≤ 3072) {i : Nat} (hi : 6 * i + 6 ≤ L) {t : wS} (h : LWs i t) (kk : ∀ t2, LWs (i + 1) t2 → Go 4 X 1181 (lwL i) [] t2) : Go 4 X 263 (lwL i) [] t := by
  have hb := j_3 K hK h (by omega) (!decide (zs (6 * i + 1) = 0)) (t32 (zs (6 * i + 2))).1 (t32 (zs (6 * i + 2))).2
  try simp only [J_eta] at hb
  obtain ⟨t2, e, hR⟩ := lw_cI (lw_aI (lw_bo (fun t => lw_scr1 hL (by omega))) (lw_aI (fun t => lw_scr2 hL (by omega)) lw_aN)) hb
  exact lc_3 K hX hs (lwL i) [] t true t2 (by rw [hsh]; exact e) (Nat.le_refl 0) (fun _ => kk t2 hR) (fun h => by cases h)
theorem lk_4 (hK : 16777216 ≤ K) (hX : CX RL code 4 none 100 X) (hs : SCR X b L zs) (hsh : gsh (xG X) = SH) (hL : L ≤ 3072) {i : Nat} (hi : 6 * i + 6 ≤ L) {t : wS} (h : LWs i t) (kk : ∀ t2, LWs (i + 1) t2 → Go 4 X 1181 (lwL i) [] t2) : Go 4 X 312 (lwL i) [] t := by
  have hb := j_4 K hK h (by omega) (t32 (zs (6 * i + 1))).1 (t32 (zs (6 * i + 1))).2
  try simp only [J_eta] at hb
  obtain ⟨t2, e, hR⟩ := lw_cI (lw_aI (fun t => lw_scr1 hL (by omega)) lw_aN) hb
  exact lc_4 K hX hs (lwL i) [] t true t2 (by rw [hsh]; exact e) (Nat.le_refl 0) (fun _ => kk t2 hR) (fun h => by cases h)
theorem lk_5 (hK : 16777216 ≤ K) (hX : CX RL code 4 none 100 X) (hs : SCR X b L zs) (hsh : gsh (xG X) = SH) (hL : L ≤ 3072) {i : Nat} (hi : 6 * i + 6 ≤ L) {t : wS} (h : LWs i t) (kk : ∀ t2, LWs (i + 1) t2 → Go 4 X 1181 (lwL i) [] t2) : Go 4 X 335 (lwL i) [] t := by
  have hb := j_5 K hK h (by omega)
  try simp only [J_eta] at hb
  obtain ⟨t2, e, hR⟩ := lw_cI lw_aN hb
  exact lc_5 K hX hs (lwL i) [] t true t2 (by rw [hsh]; exact e) (Nat.le_refl 0) (fun _ => kk t2 hR) (fun h => by cases h)
theorem lk_6 (hK : 16777216 ≤ K) (hX : CX RL code 4 none 100 X) (hs : SCR X b L zs) (hsh : gsh (xG X) = SH) (hL : L ≤ 3072) {i : Nat} (hi : 6 * i + 6 ≤ L) {t : wS} (h : LWs i t) (kk : ∀ t2, LWs (i + 1) t2 → Go 4 X 1181 (lwL i) [] t2) : Go 4 X 348 (lwL i) [] t := by
  have hb := j_6 K hK h (by omega)
  try simp only [J_eta] at hb
  obtain ⟨t2, e, hR⟩ := lw_cI lw_aN hb
  exact lc_6 K hX hs (lwL i) [] t true t2 (by rw [hsh]; exact e) (Nat.le_refl 0) (fun _ => kk t2 hR) (fun h => by cases h)
theorem lk_7 (hK : 16777216 ≤ K) (hX : CX RL code 4 none 100 X) (hs : SCR X b L zs) (hsh : gsh (xG X) = SH) (hL : L ≤ 3072) {i : Nat} (hi : 6 * i + 6 ≤ L) {t : wS} (h : LWs i t) (kk : ∀ t2, LWs (i + 1) t2 → Go 4 X 1181 (lwL i) [] t2) : Go 4 X 361 (lwL i) [] t := by
  have hb := j_7 K hK h (by omega) (zs (6 * i + 1)) (zs (6 * i + 2)) (zs (6 * i + 3)) (zs (6 * i + 4)) (zs (6 * i + 5))
  try simp only [J_eta] at hb
  obtain ⟨t2, e, hR⟩ := lw_cI (lw_aI (fun t => lw_scr1 hL (by omega)) (lw_aI (fun t => lw_scr2 hL (by omega)) (lw_aI (fun t => lw_scr3 hL (by omega)) (lw_aI (fun t => lw_scr4 hL (by omega)) (lw_aI (fun t => lw_scr5 hL (by omega)) lw_aN))))) hb
  exact lc_7 K hX hs (lwL i) [] t true t2 (by rw [hsh]; exact e) (Nat.le_refl 0) (fun _ => kk t2 hR) (fun h => by cases h)
theorem lk_8 (hK : 16777216 ≤ K) (hX : CX RL code 4 none 100 X) (hs : SCR X b L zs) (hsh : gsh (xG X) = SH) (hL : L ≤ 3072) {i : Nat} (hi : 6 * i + 6 ≤ L) {t : wS} (h : LWs i t) (kk : ∀ t2, LWs (i + 1) t2 → Go 4 X 1181 (lwL i) [] t2) : Go 4 X 424 (lwL i) [] t := by
  have hb := j_8 K h (t32 (zs (6 * i + 1))).1 (t32 (zs (6 * i + 1))).2
  try simp only [J_eta] at hb
  obtain ⟨t2, e, hR⟩ := lw_cI (lw_aI (fun t => lw_scr1 hL (by omega)) lw_aN) hb
  exact lc_8 K hX hs (lwL i) [] t true t2 (by rw [hsh]; exact e) (Nat.le_refl 0) (fun _ => kk t2 hR) (fun h => by cases h)
theorem lk_9 (hK : 16777216 ≤ K) (hX : CX RL code 4 none 100 X) (hs : SCR X b L zs) (hsh : gsh (xG X) = SH) (hL : L ≤ 3072) {i : Nat} (hi : 6 * i + 6 ≤ L) {t : wS} (h : LWs i t) (kk : ∀ t2, LWs (i + 1) t2 → Go 4 X 1181 (lwL i) [] t2) : Go 4 X 447 (lwL i) [] t := by
  have hb := j_9 K hK h (t32 (zs (6 * i + 1))).1 (t32 (zs (6 * i + 1))).2
  try simp only [J_eta] at hb
  obtain ⟨t2, e, hR⟩ := lw_cI (lw_aI (fun t => lw_scr1 hL (by omega)) lw_aN) hb
  exact lc_9 K hX hs (lwL i) [] t true t2 (by rw [hsh]; exact e) (Nat.le_refl 0) (fun _ => kk t2 hR) (fun h => by cases h)
theorem lk_10 (hK : 16777216 ≤ K) (hX : CX RL code 4 none 100 X) (hs : SCR X b L zs) (hsh : gsh (xG X) = SH) (hL : L ≤ 3072) {i : Nat} (hi : 6 * i + 6 ≤ L) {t : wS} (h : LWs i t) (kk : ∀ t2, LWs (i + 1) t2 → Go 4 X 1181 (lwL i) [] t2) : Go 4 X 470 (lwL i) [] t := by
  have hb := j_10 K hK h (by omega) (t32 (zs (6 * i + 1))).1 (t32 (zs (6 * i + 1))).2
  try simp only [J_eta] at hb
  obtain ⟨t2, e, hR⟩ := lw_cI (lw_aI (fun t => lw_scr1 hL (by omega)) lw_aN) hb
  exact lc_10 K hX hs (lwL i) [] t true t2 (by rw [hsh]; exact e) (Nat.le_refl 0) (fun _ => kk t2 hR) (fun h => by cases h)
theorem lk_11 (hK : 16777216 ≤ K) (hX : CX RL code 4 none 100 X) (hs : SCR X b L zs) (hsh : gsh (xG X) = SH) (hL : L ≤ 3072) {i : Nat} (hi : 6 * i + 6 ≤ L) {t : wS} (h : LWs i t) (kk : ∀ t2, LWs (i + 1) t2 → Go 4 X 1181 (lwL i) [] t2) : Go 4 X 493 (lwL i) [] t := by
  have hb := j_11 K hK h (by omega) (t32 (zs (6 * i + 1))).1 (t32 (zs (6 * i + 1))).2 (t32 (zs (6 * i + 2))).1 (t32 (zs (6 * i + 2))).2
  try simp only [J_eta] at hb
  obtain ⟨t2, e, hR⟩ := lw_cI (lw_aI (fun t => lw_scr1 hL (by omega)) (lw_aI (fun t => lw_scr2 hL (by omega)) lw_aN)) hb
  exact lc_11 K hX hs (lwL i) [] t true t2 (by rw [hsh]; exact e) (Nat.le_refl 0) (fun _ => kk t2 hR) (fun h => by cases h)
theorem lk_12 (hK : 16777216 ≤ K) (hX : CX RL code 4 none 100 X) (hs : SCR X b L zs) (hsh : gsh (xG X) = SH) (hL : L ≤ 3072) {i : Nat} (hi : 6 * i + 6 ≤ L) {t : wS} (h : LWs i t) (kk : ∀ t2, LWs (i + 1) t2 → Go 4 X 1181 (lwL i) [] t2) : Go 4 X 526 (lwL i) [] t := by
  have hb := j_12 K hK h (by omega) (t32 (zs (6 * i + 1))).1 (t32 (zs (6 * i + 1))).2 (t32 (zs (6 * i + 2))).1 (t32 (zs (6 * i + 2))).2
  try simp only [J_eta] at hb
  obtain ⟨t2, e, hR⟩ := lw_cI (lw_aI (fun t => lw_scr1 hL (by omega)) (lw_aI (fun t => lw_scr2 hL (by omega)) lw_aN)) hb
  exact lc_12 K hX hs (lwL i) [] t true t2 (by rw [hsh]; exact e) (Nat.le_refl 0) (fun _ => kk t2 hR) (fun h => by cases h)
theorem lk_13 (hK : 16777216 ≤ K) (hX : CX RL code 4 none 100 X) (hs : SCR X b L zs) (hsh : gsh (xG X) = SH) (hL : L ≤ 3072) {i : Nat} (hi : 6 * i + 6 ≤ L) {t : wS} (h : LWs i t) (kk : ∀ t2, LWs (i + 1) t2 → Go 4 X 1181 (lwL i) [] t2) : Go 4 X 559 (lwL i) [] t := by
  have hb := j_13 K hK h (by omega) (t32 (zs (6 * i + 1))).1 (t32 (zs (6 * i + 1))).2 (t32 (zs (6 * i + 2))).1 (t32 (zs (6 * i + 2))).2
  try simp only [J_eta] at hb
  obtain ⟨t2, e, hR⟩ := lw_cI (lw_aI (fun t => lw_scr1 hL (by omega)) (lw_aI (fun t => lw_scr2 hL (by omega)) lw_aN)) hb
  exact lc_13 K hX hs (lwL i) [] t true t2 (by rw [hsh]; exact e) (Nat.le_refl 0) (fun _ => kk t2 hR) (fun h => by cases h)
theorem lk_14 (hK : 16777216 ≤ K) (hX : CX RL code 4 none 100 X) (hs : SCR X b L zs) (hsh : gsh (xG X) = SH) (hL : L ≤ 3072) {i : Nat} (hi : 6 * i + 6 ≤ L) {t : wS} (h : LWs i t) (kk : ∀ t2, LWs (i + 1) t2 → Go 4 X 1181 (lwL i) [] t2) : Go 4 X 592 (lwL i) [] t := by
  have hb := j_14 K hK h (by omega) (t32 (zs (6 * i + 1))).1 (t32 (zs (6 * i + 1))).2
  try simp only [J_eta] at hb
  obtain ⟨t2, e, hR⟩ := lw_cI (lw_aI (fun t => lw_scr1 hL (by omega)) lw_aN) hb
  exact lc_14 K hX hs (lwL i) [] t true t2 (by rw [hsh]; exact e) (Nat.le_refl 0) (fun _ => kk t2 hR) (fun h => by cases h)
theorem lk_15 (hK : 16777216 ≤ K) (hX : CX RL code 4 none 100 X) (hs : SCR X b L zs) (hsh : gsh (xG X) = SH) (hL : L ≤ 3072) {i : Nat} (hi : 6 * i + 6 ≤ L) {t : wS} (h : LWs i t) (kk : ∀ t2, LWs (i + 1) t2 → Go 4 X 1181 (lwL i) [] t2) : Go 4 X 615 (lwL i) [] t := by
  have hb := j_15 K hK h (by omega) (t32 (zs (6 * i + 1))).1 (t32 (zs (6 * i + 1))).2 (!decide (zs (6 * i + 2) = 0)) (t32 (zs (6 * i + 3))).1 (t32 (zs (6 * i + 3))).2 (t32 (zs (6 * i + 4))).1 (t32 (zs (6 * i + 4))).2
  try simp only [J_eta] at hb
  obtain ⟨t2, e, hR⟩ := lw_cI (lw_aI (fun t => lw_scr1 hL (by omega)) (lw_aI (lw_bo (fun t => lw_scr2 hL (by omega))) (lw_aI (fun t => lw_scr3 hL (by omega)) (lw_aI (fun t => lw_scr4 hL (by omega)) lw_aN)))) hb
  exact lc_15 K hX hs (lwL i) [] t true t2 (by rw [hsh]; exact e) (Nat.le_refl 0) (fun _ => kk t2 hR) (fun h => by cases h)
theorem lk_16 (hK : 16777216 ≤ K) (hX : CX RL code 4 none 100 X) (hs : SCR X b L zs) (hsh : gsh (xG X) = SH) (hL : L ≤ 3072) {i : Nat} (hi : 6 * i + 6 ≤ L) {t : wS} (h : LWs i t) (kk : ∀ t2, LWs (i + 1) t2 → Go 4 X 1181 (lwL i) [] t2) : Go 4 X 684 (lwL i) [] t := by
  have hb := j_16 K hK h (by omega) (t32 (zs (6 * i + 1))).1 (t32 (zs (6 * i + 1))).2 (t32 (zs (6 * i + 2))).1 (t32 (zs (6 * i + 2))).2
  try simp only [J_eta] at hb
  obtain ⟨t2, e, hR⟩ := lw_cI (lw_aI (fun t => lw_scr1 hL (by omega)) (lw_aI (fun t => lw_scr2 hL (by omega)) lw_aN)) hb
  exact lc_16 K hX hs (lwL i) [] t true t2 (by rw [hsh]; exact e) (Nat.le_refl 0) (fun _ => kk t2 hR) (fun h => by cases h)
theorem lk_17 (hK : 16777216 ≤ K) (hX : CX RL code 4 none 100 X) (hs : SCR X b L zs) (hsh : gsh (xG X) = SH) (hL : L ≤ 3072) {i : Nat} (hi : 6 * i + 6 ≤ L) {t : wS} (h : LWs i t) (kk : ∀ t2, LWs (i + 1) t2 → Go 4 X 1181 (lwL i) [] t2) : Go 4 X 717 (lwL i) [] t := by
  have hb := j_17 K hK h (by omega) (t32 (zs (6 * i + 1))).1 (t32 (zs (6 * i + 1))).2 (!decide (zs (6 * i + 2) = 0)) (t32 (zs (6 * i + 3))).1 (t32 (zs (6 * i + 3))).2
  try simp only [J_eta] at hb
  obtain ⟨t2, e, hR⟩ := lw_cI (lw_aI (fun t => lw_scr1 hL (by omega)) (lw_aI (lw_bo (fun t => lw_scr2 hL (by omega))) (lw_aI (fun t => lw_scr3 hL (by omega)) lw_aN))) hb
  exact lc_17 K hX hs (lwL i) [] t true t2 (by rw [hsh]; exact e) (Nat.le_refl 0) (fun _ => kk t2 hR) (fun h => by cases h)
theorem lk_18 (hK : 16777216 ≤ K) (hX : CX RL code 4 none 100 X) (hs : SCR X b L zs) (hsh : gsh (xG X) = SH) (hL : L ≤ 3072) {i : Nat} (hi : 6 * i + 6 ≤ L) {t : wS} (h : LWs i t) (kk : ∀ t2, LWs (i + 1) t2 → Go 4 X 1181 (lwL i) [] t2) : Go 4 X 776 (lwL i) [] t := by
  have hb := j_18 K hK h (by omega) (t32 (zs (6 * i + 1))).1 (t32 (zs (6 * i + 1))).2 (t32 (zs (6 * i + 2))).1 (t32 (zs (6 * i + 2))).2 (t32 (zs (6 * i + 3))).1 (t32 (zs (6 * i + 3))).2
  try simp only [J_eta] at hb
  obtain ⟨t2, e, hR⟩ := lw_cI (lw_aI (fun t => lw_scr1 hL (by omega)) (lw_aI (fun t => lw_scr2 hL (by omega)) (lw_aI (fun t => lw_scr3 hL (by omega)) lw_aN))) hb
  exact lc_18 K hX hs (lwL i) [] t true t2 (by rw [hsh]; exact e) (Nat.le_refl 0) (fun _ => kk t2 hR) (fun h => by cases h)
theorem lk_19 (hK : 16777216 ≤ K) (hX : CX RL code 4 none 100 X) (hs : SCR X b L zs) (hsh : gsh (xG X) = SH) (hL : L ≤ 3072) {i : Nat} (hi : 6 * i + 6 ≤ L) {t : wS} (h : LWs i t) (kk : ∀ t2, LWs (i + 1) t2 → Go 4 X 1181 (lwL i) [] t2) : Go 4 X 819 (lwL i) [] t := by
  have hb := j_19 K hK h (by omega) (t32 (zs (6 * i + 1))).1 (t32 (zs (6 * i + 1))).2 (t32 (zs (6 * i + 2))).1 (t32 (zs (6 * i + 2))).2
  try simp only [J_eta] at hb
  obtain ⟨t2, e, hR⟩ := lw_cI (lw_aI (fun t => lw_scr1 hL (by omega)) (lw_aI (fun t => lw_scr2 hL (by omega)) lw_aN)) hb
  exact lc_19 K hX hs (lwL i) [] t true t2 (by rw [hsh]; exact e) (Nat.le_refl 0) (fun _ => kk t2 hR) (fun h => by cases h)
theorem lk_20 (hK : 16777216 ≤ K) (hX : CX RL code 4 none 100 X) (hs : SCR X b L zs) (hsh : gsh (xG X) = SH) (hL : L ≤ 3072) {i : Nat} (hi : 6 * i + 6 ≤ L) {t : wS} (h : LWs i t) (kk : ∀ t2, LWs (i + 1) t2 → Go 4 X 1181 (lwL i) [] t2) : Go 4 X 852 (lwL i) [] t := by
  have hb := j_20 K hK h (by omega) (t32 (zs (6 * i + 1))).1 (t32 (zs (6 * i + 1))).2
  try simp only [J_eta] at hb
  obtain ⟨t2, e, hR⟩ := lw_cI (lw_aI (fun t => lw_scr1 hL (by omega)) lw_aN) hb
  exact lc_20 K hX hs (lwL i) [] t true t2 (by rw [hsh]; exact e) (Nat.le_refl 0) (fun _ => kk t2 hR) (fun h => by cases h)
theorem lk_21 (hK : 16777216 ≤ K) (hX : CX RL code 4 none 100 X) (hs : SCR X b L zs) (hsh : gsh (xG X) = SH) (hL : L ≤ 3072) {i : Nat} (hi : 6 * i + 6 ≤ L) {t : wS} (h : LWs i t) (kk : ∀ t2, LWs (i + 1) t2 → Go 4 X 1181 (lwL i) [] t2) : Go 4 X 875 (lwL i) [] t := by
  have hb := j_21 K hK h (by omega) (t32 (zs (6 * i + 1))).1 (t32 (zs (6 * i + 1))).2
  try simp only [J_eta] at hb
  obtain ⟨t2, e, hR⟩ := lw_cI (lw_aI (fun t => lw_scr1 hL (by omega)) lw_aN) hb
  exact lc_21 K hX hs (lwL i) [] t true t2 (by rw [hsh]; exact e) (Nat.le_refl 0) (fun _ => kk t2 hR) (fun h => by cases h)
theorem lk_22 (hK : 16777216 ≤ K) (hX : CX RL code 4 none 100 X) (hs : SCR X b L zs) (hsh : gsh (xG X) = SH) (hL : L ≤ 3072) {i : Nat} (hi : 6 * i + 6 ≤ L) {t : wS} (h : LWs i t) (kk : ∀ t2, LWs (i + 1) t2 → Go 4 X 1181 (lwL i) [] t2) : Go 4 X 898 (lwL i) [] t := by
  have hb := j_22 K hK h (by omega) (t32 (zs (6 * i + 1))).1 (t32 (zs (6 * i + 1))).2 (t32 (zs (6 * i + 2))).1 (t32 (zs (6 * i + 2))).2
  try simp only [J_eta] at hb
  obtain ⟨t2, e, hR⟩ := lw_cI (lw_aI (fun t => lw_scr1 hL (by omega)) (lw_aI (fun t => lw_scr2 hL (by omega)) lw_aN)) hb
  exact lc_22 K hX hs (lwL i) [] t true t2 (by rw [hsh]; exact e) (Nat.le_refl 0) (fun _ => kk t2 hR) (fun h => by cases h)
theorem lk_23 (hK : 16777216 ≤ K) (hX : CX RL code 4 none 100 X) (hs : SCR X b L zs) (hsh : gsh (xG X) = SH) (hL : L ≤ 3072) {i : Nat} (hi : 6 * i + 6 ≤ L) {t : wS} (h : LWs i t) (kk : ∀ t2, LWs (i + 1) t2 → Go 4 X 1181 (lwL i) [] t2) : Go 4 X 931 (lwL i) [] t := by
  have hb := j_23 K hK h (by omega) (t32 (zs (6 * i + 1))).1 (t32 (zs (6 * i + 1))).2
  try simp only [J_eta] at hb
  obtain ⟨t2, e, hR⟩ := lw_cI (lw_aI (fun t => lw_scr1 hL (by omega)) lw_aN) hb
  exact lc_23 K hX hs (lwL i) [] t true t2 (by rw [hsh]; exact e) (Nat.le_refl 0) (fun _ => kk t2 hR) (fun h => by cases h)
theorem lk_24 (hK : 16777216 ≤ K) (hX : CX RL code 4 none 100 X) (hs : SCR X b L zs) (hsh : gsh (xG X) = SH) (hL : L ≤ 3072) {i : Nat} (hi : 6 * i + 6 ≤ L) {t : wS} (h : LWs i t) (kk : ∀ t2, LWs (i + 1) t2 → Go 4 X 1181 (lwL i) [] t2) : Go 4 X 954 (lwL i) [] t := by
  have hb := j_24 K hK h (by omega) (t32 (zs (6 * i + 1))).1 (t32 (zs (6 * i + 1))).2
  try simp only [J_eta] at hb
  obtain ⟨t2, e, hR⟩ := lw_cI (lw_aI (fun t => lw_scr1 hL (by omega)) lw_aN) hb
  exact lc_24 K hX hs (lwL i) [] t true t2 (by rw [hsh]; exact e) (Nat.le_refl 0) (fun _ => kk t2 hR) (fun h => by cases h)
theorem lk_25 (hK : 16777216 ≤ K) (hX : CX RL code 4 none 100 X) (hs : SCR X b L zs) (hsh : gsh (xG X) = SH) (hL : L ≤ 3072) {i : Nat} (hi : 6 * i + 6 ≤ L) {t : wS} (h : LWs i t) (kk : ∀ t2, LWs (i + 1) t2 → Go 4 X 1181 (lwL i) [] t2) : Go 4 X 977 (lwL i) [] t := by
  have hb := j_25 K hK h (by omega) (t32 (zs (6 * i + 1))).1 (t32 (zs (6 * i + 1))).2 (t32 (zs (6 * i + 2))).1 (t32 (zs (6 * i + 2))).2
  try simp only [J_eta] at hb
  obtain ⟨t2, e, hR⟩ := lw_cI (lw_aI (fun t => lw_scr1 hL (by omega)) (lw_aI (fun t => lw_scr2 hL (by omega)) lw_aN)) hb
  exact lc_25 K hX hs (lwL i) [] t true t2 (by rw [hsh]; exact e) (Nat.le_refl 0) (fun _ => kk t2 hR) (fun h => by cases h)
theorem lk_26 (hK : 16777216 ≤ K) (hX : CX RL code 4 none 100 X) (hs : SCR X b L zs) (hsh : gsh (xG X) = SH) (hL : L ≤ 3072) {i : Nat} (hi : 6 * i + 6 ≤ L) {t : wS} (h : LWs i t) (kk : ∀ t2, LWs (i + 1) t2 → Go 4 X 1181 (lwL i) [] t2) : Go 4 X 1010 (lwL i) [] t := by
  have hb := j_26 K hK h (by omega) (t32 (zs (6 * i + 1))).1 (t32 (zs (6 * i + 1))).2
  try simp only [J_eta] at hb
  obtain ⟨t2, e, hR⟩ := lw_cI (lw_aI (fun t => lw_scr1 hL (by omega)) lw_aN) hb
  exact lc_26 K hX hs (lwL i) [] t true t2 (by rw [hsh]; exact e) (Nat.le_refl 0) (fun _ => kk t2 hR) (fun h => by cases h)
theorem lk_27 (hK : 16777216 ≤ K) (hX : CX RL code 4 none 100 X) (hs : SCR X b L zs) (hsh : gsh (xG X) = SH) (hL : L ≤ 3072) {i : Nat} (hi : 6 * i + 6 ≤ L) {t : wS} (h : LWs i t) (kk : ∀ t2, LWs (i + 1) t2 → Go 4 X 1181 (lwL i) [] t2) : Go 4 X 1033 (lwL i) [] t := by
  have hb := j_27 K hK h (by omega)
  try simp only [J_eta] at hb
  obtain ⟨t2, e, hR⟩ := lw_cI lw_aN hb
  exact lc_27 K hX hs (lwL i) [] t true t2 (by rw [hsh]; exact e) (Nat.le_refl 0) (fun _ => kk t2 hR) (fun h => by cases h)
theorem lk_28 (hK : 16777216 ≤ K) (hX : CX RL code 4 none 100 X) (hs : SCR X b L zs) (hsh : gsh (xG X) = SH) (hL : L ≤ 3072) {i : Nat} (hi : 6 * i + 6 ≤ L) {t : wS} (h : LWs i t) (kk : ∀ t2, LWs (i + 1) t2 → Go 4 X 1181 (lwL i) [] t2) : Go 4 X 1046 (lwL i) [] t := by
  have hb := j_28 K hK h (by omega) (t32 (zs (6 * i + 1))).1 (t32 (zs (6 * i + 1))).2
  try simp only [J_eta] at hb
  obtain ⟨t2, e, hR⟩ := lw_cL (lw_aI (fun t => lw_scr1 hL (by omega)) lw_aN) hb
  exact lc_28 K hX hs (lwL i) [] t true t2 (by rw [hsh]; exact e) (Nat.le_refl 0) (fun _ => kk t2 hR) (fun h => by cases h)
theorem lk_29 (hK : 16777216 ≤ K) (hX : CX RL code 4 none 100 X) (hs : SCR X b L zs) (hsh : gsh (xG X) = SH) (hL : L ≤ 3072) {i : Nat} (hi : 6 * i + 6 ≤ L) {t : wS} (h : LWs i t) (kk : ∀ t2, LWs (i + 1) t2 → Go 4 X 1181 (lwL i) [] t2) : Go 4 X 1070 (lwL i) [] t := by
  have hb := j_29 K hK h (by omega)
  try simp only [J_eta] at hb
  obtain ⟨t2, e, hR⟩ := lw_cI lw_aN hb
  exact lc_29 K hX hs (lwL i) [] t true t2 (by rw [hsh]; exact e) (Nat.le_refl 0) (fun _ => kk t2 hR) (fun h => by cases h)
theorem lk_30 (hK : 16777216 ≤ K) (hX : CX RL code 4 none 100 X) (hs : SCR X b L zs) (hsh : gsh (xG X) = SH) (hL : L ≤ 3072) {i : Nat} (hi : 6 * i + 6 ≤ L) {t : wS} (h : LWs i t) (kk : ∀ t2, LWs (i + 1) t2 → Go 4 X 1181 (lwL i) [] t2) : Go 4 X 1083 (lwL i) [] t := by
  have hb := j_30 K hK h (by omega) (t32 (zs (6 * i + 1))).1 (t32 (zs (6 * i + 1))).2
  try simp only [J_eta] at hb
  obtain ⟨t2, e, hR⟩ := lw_cI (lw_aI (fun t => lw_scr1 hL (by omega)) lw_aN) hb
  exact lc_30 K hX hs (lwL i) [] t true t2 (by rw [hsh]; exact e) (Nat.le_refl 0) (fun _ => kk t2 hR) (fun h => by cases h)
theorem lk_31 (hK : 16777216 ≤ K) (hX : CX RL code 4 none 100 X) (hs : SCR X b L zs) (hsh : gsh (xG X) = SH) (hL : L ≤ 3072) {i : Nat} (hi : 6 * i + 6 ≤ L) {t : wS} (h : LWs i t) (kk : ∀ t2, LWs (i + 1) t2 → Go 4 X 1181 (lwL i) [] t2) : Go 4 X 1106 (lwL i) [] t := by
  have hb := j_31 K hK h (by omega)
  try simp only [J_eta] at hb
  obtain ⟨t2, e, hR⟩ := lw_cI lw_aN hb
  exact lc_31 K hX hs (lwL i) [] t true t2 (by rw [hsh]; exact e) (Nat.le_refl 0) (fun _ => kk t2 hR) (fun h => by cases h)
theorem lk_32 (hK : 16777216 ≤ K) (hX : CX RL code 4 none 100 X) (hs : SCR X b L zs) (hsh : gsh (xG X) = SH) (hL : L ≤ 3072) {i : Nat} (hi : 6 * i + 6 ≤ L) {t : wS} (h : LWs i t) (kk : ∀ t2, LWs (i + 1) t2 → Go 4 X 1181 (lwL i) [] t2) : Go 4 X 1119 (lwL i) [] t := by
  have hb := j_32 K hK h (by omega) (!decide (zs (6 * i + 1) = 0))
  try simp only [J_eta] at hb
  obtain ⟨t2, e, hR⟩ := lw_cI (lw_aI (lw_bo (fun t => lw_scr1 hL (by omega))) lw_aN) hb
  exact lc_32 K hX hs (lwL i) [] t true t2 (by rw [hsh]; exact e) (Nat.le_refl 0) (fun _ => kk t2 hR) (fun h => by cases h)
theorem lk_33 (hK : 16777216 ≤ K) (hX : CX RL code 4 none 100 X) (hs : SCR X b L zs) (hsh : gsh (xG X) = SH) (hL : L ≤ 3072) {i : Nat} (hi : 6 * i + 6 ≤ L) {t : wS} (h : LWs i t) (kk : ∀ t2, LWs (i + 1) t2 → Go 4 X 1181 (lwL i) [] t2) : Go 4 X 1158 (lwL i) [] t := by
  have hb := j_33 K hK h (by omega) (t32 (zs (6 * i + 1))).1 (t32 (zs (6 * i + 1))).2
  try simp only [J_eta] at hb
  obtain ⟨t2, e, hR⟩ := lw_cI (lw_aI (fun t => lw_scr1 hL (by omega)) lw_aN) hb
  exact lc_33 K hX hs (lwL i) [] t true t2 (by rw [hsh]; exact e) (Nat.le_refl 0) (fun _ => kk t2 hR) (fun h => by cases h)
theorem lw_next (hX : CX RL code 4 none 100 X) {i : Nat} (hi : i ≤ 600) {t : wS} (k : Go 4 X 18 (lwL (i + 1)) [] t) : Go 4 X 1181 (lwL i) [] t := by
  refine csInc (pB := 0) (pC := 0) hX dL_1181 (by decide) (lwL i) t (0, none, lwL (i + 1), t) ?_ ⟨fun _ => g_goto (tgt := 18) hX dL_1184 (by decide) k, fun h => (by cases h), fun h => (by cases h), fun h => (by cases h)⟩
  show some (0, none, [Value.ref 4000, .ref 0, .ref 119, .int (J (6 * i : Nat) + Int32.ofInt 6)], t) = _
  have e : J (6 * i : Nat) + Int32.ofInt 6 = J (6 * (i + 1) : Nat) := by
    show J _ + J _ = _
    rw [J_inc]
    congr 1
  rw [e]
  rfl
theorem lw_head (hX : CX RL code 4 none 100 X) (hs : SCR X b L zs) (hL : L ≤ 3072) {i : Nat} (hi : i ≤ 600) {t : wS} (k1 : 6 * i + 6 ≤ L → Go 4 X 27 (lwL i) [] t) (k2 : ¬ 6 * i + 6 ≤ L → Go 4 X 1187 (lwL i) [] t) : Go 4 X 18 (lwL i) [] t := by
  have hc : CmpC 4 X 0 18 27 1187 (cI .le (eLoc 3) (eB oSub (eScrLen L) (eI 6))) := ccI_f hX (cLoc_n hX dL_18 rfl) (c_isub hX (cScrLen hX hs (cLocR_n hX dL_19 rfl) dL_20) (cBi hX dL_21 (by decide)) dL_23) dL_24 rfl rfl
  have e : cI .le (eLoc 3) (eB oSub (eScrLen L) (eI 6)) (lwL i) t = some (decide (((6 * i : Nat) : Int) ≤ (L : Int) - 6), t) := by
    show some (wcmp .le (J (6 * i : Nat)) (oSub (Int32.ofNat L) (J 6)), t) = _
    rw [J_ofNat, J_sub, wc_le (by omega) (by omega) (by omega) (by omega)]
  refine hc (lwL i) [] t _ t e (Nat.le_refl 0) (fun h => k1 ?_) (fun h => k2 ?_)
  · have := of_decide_eq_true h
    omega
  · have := of_decide_eq_false h
    omega
theorem lw_body (hK : 16777216 ≤ K) (hX : CX RL code 4 none 100 X) (hs : SCR X b L zs) (hsh : gsh (xG X) = SH) (hL : L ≤ 3072) {i : Nat} (hi : 6 * i + 6 ≤ L) {t : wS} (h : LWs i t) (kk : ∀ t2, LWs (i + 1) t2 → Go 4 X 18 (lwL (i + 1)) [] t2) : Go 4 X 27 (lwL i) [] t := by
  have kk1 : ∀ t2, LWs (i + 1) t2 → Go 4 X 1181 (lwL i) [] t2 := fun t2 h2 => lw_next hX (by omega) (kk t2 h2)
  have hc : CmpE 4 X 0 27 33 (eB oAnd (eScr L zs (eLoc 3)) (eI 63)) := c_iand hX (cScr hX hs (cLocR_n hX dL_27 rfl) (cLoc_n hX dL_28 rfl) dL_29) (cBi hX dL_30 (by decide)) dL_32
  obtain ⟨n, hn, hx⟩ := pk_andE (zs (6 * i)) (m := 63) 6 (by decide)
  have e : eB oAnd (eScr L zs (eLoc 3)) (eI 63) (lwL i) t = some (nI n, t) := by
    show ((eScr L zs (eLoc 3) (lwL i) t).bind _) = _
    rw [lw_scr0 hL (by omega)]
    show some (zs (6 * i) &&& 63, t) = _
    rw [hx]
  refine hc (lwL i) [] t _ t e (Nat.le_refl 0) ?_
  by_cases c : n < 34
  · obtain rfl | rfl | rfl | rfl | rfl | rfl | rfl | rfl | rfl | rfl | rfl | rfl | rfl | rfl | rfl | rfl | rfl | rfl | rfl | rfl | rfl | rfl | rfl | rfl | rfl | rfl | rfl | rfl | rfl | rfl | rfl | rfl | rfl | rfl : n = 0 ∨ n = 1 ∨ n = 2 ∨ n = 3 ∨ n = 4 ∨ n = 5 ∨ n = 6 ∨ n = 7 ∨ n = 8 ∨ n = 9 ∨ n = 10 ∨ n = 11 ∨ n = 12 ∨ n = 13 ∨ n = 14 ∨ n = 15 ∨ n = 16 ∨ n = 17 ∨ n = 18 ∨ n = 19 ∨ n = 20 ∨ n = 21 ∨ n = 22 ∨ n = 23 ∨ n = 24 ∨ n = 25 ∨ n = 26 ∨ n = 27 ∨ n = 28 ∨ n = 29 ∨ n = 30 ∨ n = 31 ∨ n = 32 ∨ n = 33 := by omega
    · exact g_tabIn (tgt := 184) hX dL_33 (by decide +kernel) (by decide +kernel) (off := 151) (by decide +kernel) rfl (lk_0 K hK hX hs hsh hL hi h kk1)
    · exact g_tabIn (tgt := 207) hX dL_33 (by decide +kernel) (by decide +kernel) (off := 174) (by decide +kernel) rfl (lk_1 K hK hX hs hsh hL hi h kk1)
    · exact g_tabIn (tgt := 240) hX dL_33 (by decide +kernel) (by decide +kernel) (off := 207) (by decide +kernel) rfl (lk_2 K hK hX hs hsh hL hi h kk1)
    · exact g_tabIn (tgt := 263) hX dL_33 (by decide +kernel) (by decide +kernel) (off := 230) (by decide +kernel) rfl (lk_3 K hK hX hs hsh hL hi h kk1)
    · exact g_tabIn (tgt := 312) hX dL_33 (by decide +kernel) (by decide +kernel) (off := 279) (by decide +kernel) rfl (lk_4 K hK hX hs hsh hL hi h kk1)
    · exact g_tabIn (tgt := 335) hX dL_33 (by decide +kernel) (by decide +kernel) (off := 302) (by decide +kernel) rfl (lk_5 K hK hX hs hsh hL hi h kk1)
    · exact g_tabIn (tgt := 348) hX dL_33 (by decide +kernel) (by decide +kernel) (off := 315) (by decide +kernel) rfl (lk_6 K hK hX hs hsh hL hi h kk1)
    · exact g_tabIn (tgt := 361) hX dL_33 (by decide +kernel) (by decide +kernel) (off := 328) (by decide +kernel) rfl (lk_7 K hK hX hs hsh hL hi h kk1)
    · exact g_tabIn (tgt := 424) hX dL_33 (by decide +kernel) (by decide +kernel) (off := 391) (by decide +kernel) rfl (lk_8 K hK hX hs hsh hL hi h kk1)
    · exact g_tabIn (tgt := 447) hX dL_33 (by decide +kernel) (by decide +kernel) (off := 414) (by decide +kernel) rfl (lk_9 K hK hX hs hsh hL hi h kk1)
    · exact g_tabIn (tgt := 470) hX dL_33 (by decide +kernel) (by decide +kernel) (off := 437) (by decide +kernel) rfl (lk_10 K hK hX hs hsh hL hi h kk1)
    · exact g_tabIn (tgt := 493) hX dL_33 (by decide +kernel) (by decide +kernel) (off := 460) (by decide +kernel) rfl (lk_11 K hK hX hs hsh hL hi h kk1)
    · exact g_tabIn (tgt := 526) hX dL_33 (by decide +kernel) (by decide +kernel) (off := 493) (by decide +kernel) rfl (lk_12 K hK hX hs hsh hL hi h kk1)
    · exact g_tabIn (tgt := 559) hX dL_33 (by decide +kernel) (by decide +kernel) (off := 526) (by decide +kernel) rfl (lk_13 K hK hX hs hsh hL hi h kk1)
    · exact g_tabIn (tgt := 592) hX dL_33 (by decide +kernel) (by decide +kernel) (off := 559) (by decide +kernel) rfl (lk_14 K hK hX hs hsh hL hi h kk1)
    · exact g_tabIn (tgt := 615) hX dL_33 (by decide +kernel) (by decide +kernel) (off := 582) (by decide +kernel) rfl (lk_15 K hK hX hs hsh hL hi h kk1)
    · exact g_tabIn (tgt := 684) hX dL_33 (by decide +kernel) (by decide +kernel) (off := 651) (by decide +kernel) rfl (lk_16 K hK hX hs hsh hL hi h kk1)
    · exact g_tabIn (tgt := 717) hX dL_33 (by decide +kernel) (by decide +kernel) (off := 684) (by decide +kernel) rfl (lk_17 K hK hX hs hsh hL hi h kk1)
    · exact g_tabIn (tgt := 776) hX dL_33 (by decide +kernel) (by decide +kernel) (off := 743) (by decide +kernel) rfl (lk_18 K hK hX hs hsh hL hi h kk1)
    · exact g_tabIn (tgt := 819) hX dL_33 (by decide +kernel) (by decide +kernel) (off := 786) (by decide +kernel) rfl (lk_19 K hK hX hs hsh hL hi h kk1)
    · exact g_tabIn (tgt := 852) hX dL_33 (by decide +kernel) (by decide +kernel) (off := 819) (by decide +kernel) rfl (lk_20 K hK hX hs hsh hL hi h kk1)
    · exact g_tabIn (tgt := 875) hX dL_33 (by decide +kernel) (by decide +kernel) (off := 842) (by decide +kernel) rfl (lk_21 K hK hX hs hsh hL hi h kk1)
    · exact g_tabIn (tgt := 898) hX dL_33 (by decide +kernel) (by decide +kernel) (off := 865) (by decide +kernel) rfl (lk_22 K hK hX hs hsh hL hi h kk1)
    · exact g_tabIn (tgt := 931) hX dL_33 (by decide +kernel) (by decide +kernel) (off := 898) (by decide +kernel) rfl (lk_23 K hK hX hs hsh hL hi h kk1)
    · exact g_tabIn (tgt := 954) hX dL_33 (by decide +kernel) (by decide +kernel) (off := 921) (by decide +kernel) rfl (lk_24 K hK hX hs hsh hL hi h kk1)
    · exact g_tabIn (tgt := 977) hX dL_33 (by decide +kernel) (by decide +kernel) (off := 944) (by decide +kernel) rfl (lk_25 K hK hX hs hsh hL hi h kk1)
    · exact g_tabIn (tgt := 1010) hX dL_33 (by decide +kernel) (by decide +kernel) (off := 977) (by decide +kernel) rfl (lk_26 K hK hX hs hsh hL hi h kk1)
    · exact g_tabIn (tgt := 1033) hX dL_33 (by decide +kernel) (by decide +kernel) (off := 1000) (by decide +kernel) rfl (lk_27 K hK hX hs hsh hL hi h kk1)
    · exact g_tabIn (tgt := 1046) hX dL_33 (by decide +kernel) (by decide +kernel) (off := 1013) (by decide +kernel) rfl (lk_28 K hK hX hs hsh hL hi h kk1)
    · exact g_tabIn (tgt := 1070) hX dL_33 (by decide +kernel) (by decide +kernel) (off := 1037) (by decide +kernel) rfl (lk_29 K hK hX hs hsh hL hi h kk1)
    · exact g_tabIn (tgt := 1083) hX dL_33 (by decide +kernel) (by decide +kernel) (off := 1050) (by decide +kernel) rfl (lk_30 K hK hX hs hsh hL hi h kk1)
    · exact g_tabIn (tgt := 1106) hX dL_33 (by decide +kernel) (by decide +kernel) (off := 1073) (by decide +kernel) rfl (lk_31 K hK hX hs hsh hL hi h kk1)
    · exact g_tabIn (tgt := 1119) hX dL_33 (by decide +kernel) (by decide +kernel) (off := 1086) (by decide +kernel) rfl (lk_32 K hK hX hs hsh hL hi h kk1)
    · exact g_tabIn (tgt := 1158) hX dL_33 (by decide +kernel) (by decide +kernel) (off := 1125) (by decide +kernel) rfl (lk_33 K hK hX hs hsh hL hi h kk1)
  · refine g_tabOut (tgt := 1181) hX dL_33 (Or.inr ?_) rfl (kk1 t ?_)
    · rw [nI_toInt (by omega)]; omega
    · obtain ⟨B, st, s, ks, Bs, img, ty, tn, fk, fp, ee, m, rfl, hB, hst, h⟩ := h
      exact ⟨B, st, s, ks, Bs, img, ty, tn, fk, fp, ee, m, rfl, by omega, by omega, h⟩
theorem lw_loop (hK : 16777216 ≤ K) (hX : CX RL code 4 none 100 X) (hs : SCR X b L zs) (hsh : gsh (xG X) = SH) (hL : L ≤ 3072) (hend : ∀ (ls : wL) (t : wS), Go 4 X 1187 ls [] t) : ∀ (n i : Nat) (t : wS), i + n = 513 → LWs i t → Go 4 X 18 (lwL i) [] t
  | 0, i, t, hn, h => lw_head hX hs hL (by omega) (fun q => absurd q (by omega)) (fun _ => hend _ _)
  | n + 1, i, t, hn, h => lw_head hX hs hL (by omega) (fun q => lw_body K hK hX hs hsh hL q h (fun t2 h2 => lw_loop hK hX hs hsh hL hend n (i + 1) t2 (by omega) h2)) (fun _ => hend _ _)
end LLOOP
