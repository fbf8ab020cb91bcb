/-! THE LAW: class and reference, call by call -/
theorem ClS.o {st : Nat} {s ks : wSg} {Bs : List wSg} {img : Bool} {e : Nat → Nat} {m m' : wMm} (h : ClS st s ks Bs img e m) (k : ∀ c, c < 119 → m' c = m c) : ClS st s ks Bs img e m' := by
  obtain ⟨a1, a2, a3, a4, a5, a6, a7⟩ := h
  refine ⟨a1.o (fun c _ _ _ => k c (by omega)), ⟨a2.1, by rw [k 0 (by omega)]; exact a2.2.1, fun j hj => ?_⟩, a3, by rw [k 0 (by omega)]; exact a4, fun hi => (a5 hi).o (fun c _ _ _ => k c (by omega)), by rw [k 86 (by omega)]; exact a6, a7.o (fun c _ _ => k c (by omega))⟩
  have h6 := a2.1
  obtain ⟨d0, _⟩ := a3.cell (k := j) (by omega) e
  exact (a2.2.2 j hj).o (fun c _ _ => k c (by omega))
/-- all that class and reference hold, and that they hold the same -/
def LWc (B st : Nat) (s ks : wSg) (Bs : List wSg) (img : Bool) (ty : Nat → Nat) (tn fk : Nat) (fp : Int) (e : Nat → Nat) (m : wMm) : Prop := ClS st s ks Bs img e m ∧ nOK B s ks Bs img ∧ RW s m ∧ RBs Bs m ∧ RK ks img m ∧ (RTp ty tn m ∧ TkK ty tn m) ∧ (RFa fk fp m ∧ FaK fk fp m) ∧ ValOK m
/-- behind i calls -/
def LWs (i : Nat) (t : wS) : Prop := ∃ (B st : Nat) (s ks : wSg) (Bs : List wSg) (img : Bool) (ty : Nat → Nat) (tn fk : Nat) (fp : Int) (e : Nat → Nat) (m : wMm), t = (m, RF e) ∧ B ≤ 60 * i ∧ st ≤ 1000 * i ∧ LWc B st s ks Bs img ty tn fk fp e m
def isIn (r : Option Value) : Prop := ∃ a : Int32, r = some (.int a)
def isLg (r : Option Value) : Prop := ∃ a : Int64, r = some (.long a)
/-- both answer alike -/
def BothA (P : Option Value → Prop) (f g : wM) (vs : List Value) (t : wS) (R : wS → Prop) : Prop := PM f (.ref 0 :: vs) t (fun r t1 => P r ∧ PM g (.ref 119 :: vs) t1 (fun r2 t2 => r2 = r ∧ R t2))
/-- the reference's cells as the class's call leaves them -/
theorem KC.rbs {Bs : List wSg} {m m1 : wMm} (h : RBs Bs m) (k : ∀ c, 119 ≤ c → m1 c = m c) : RBs Bs m1 := ⟨h.1, by rw [k 119 (by omega)]; exact h.2.1, fun j i q1 q2 => by rw [k 122 (by omega)]; exact h.2.2 j i q1 q2⟩
theorem KC.rtp {ty : Nat → Nat} {tn : Nat} {m m1 : wMm} (h : RTp ty tn m) (k : ∀ c, 119 ≤ c → m1 c = m c) : RTp ty tn m1 := ⟨h.1, by rw [k 119 (by omega)]; exact h.2.1, fun j hj => by rw [k 130 (by omega)]; exact h.2.2 j hj⟩
theorem KC.rfa {fk : Nat} {fp : Int} {m m1 : wMm} (h : RFa fk fp m) (k : ∀ c, 119 ≤ c → m1 c = m c) : RFa fk fp m1 := ⟨by rw [k 119 (by omega)]; exact h.1, by rw [k 119 (by omega)]; exact h.2⟩
theorem KC.rk {ks : wSg} {img : Bool} {m m1 : wMm} (h : RK ks img m) (k : ∀ c, 119 ≤ c → m1 c = m c) : RK ks img m1 := ⟨by rw [k 119 (by omega)]; exact h.1, fun q j hj => by rw [k 121 (by omega)]; exact h.2 q j hj⟩
theorem j_pair {P : Option Value → Prop} {f g : wM} {vs : List Value} {r : Option Value} {i B B' st : Nat} {s s' ks : wSg} {Bs Bs' : List wSg} {img : Bool} {ty : Nat → Nat} {tn fk : Nat} {fp : Int} {e : Nat → Nat} {m : wMm} (h : LWc B st s ks Bs img ty tn fk fp e m) (hB : B' ≤ 60 * (i + 1)) (hst : st ≤ 1000 * i) (hp : P r) (hn : nOK B' s' ks Bs' img)
    (hk : PM f (.ref 0 :: vs) (m, RF e) (PCl m st s' ks Bs' img r)) (hr : ∀ (m1 : wMm) (e1 : Nat → Nat), RW s m1 → RBs Bs m1 → RFa fk fp m1 → PM g (.ref 119 :: vs) (m1, RF e1) (PO m1 e1 s' Bs' r)) : BothA P f g vs (m, RF e) (LWs (i + 1)) := by
  obtain ⟨h1, h2, h3, h4, h5, ⟨h6, h7⟩, ⟨h8, h9⟩, h10⟩ := h
  refine PM_mono hk ?_
  rintro r1 u ⟨rfl, m1, e1, st1, rfl, hs1, c1, c2⟩
  refine ⟨hp, PM_mono (hr m1 e1 (h3.congr (c2.1 120 (by omega))) (KC.rbs h4 c2.1) (KC.rfa h8 c2.1)) ?_⟩
  rintro r2 u2 ⟨rfl, m2, rfl, d1, d2, d3⟩
  refine ⟨rfl, B', st1, s', ks, Bs', img, ty, tn, fk, fp, e1, m2, rfl, hB, by omega, c1.o d3.1, hn, d1, d2, d3.rk (KC.rk h5 c2.1), ⟨d3.rt (KC.rtp h6 c2.1), h7.1, ?_, fun j hj => ?_⟩, ⟨d3.rf (KC.rfa h8 c2.1), ?_, ?_⟩, h10.o (by rw [d3.2.2.2 27 (by omega), c2.1 119 (by omega)])⟩
  · rw [d3.1 1 (by omega), c2.2.1]; exact h7.2.1
  · rw [d3.1 2 (by omega), c2.2.2]; exact h7.2.2 j hj
  · rw [d3.1 1 (by omega), c2.2.1]; exact h9.1
  · rw [d3.1 1 (by omega), c2.2.1]; exact h9.2
/-! ends of the reference's calls -/
theorem PO.same {m : wMm} {e : Nat → Nat} {s : wSg} {Bs : List wSg} {r : Option Value} (h : RW s m) (hB : RBs Bs m) : PO m e s Bs r r (m, RF e) := ⟨rfl, m, rfl, h, hB, KA.refl m⟩
theorem PO.ofW {f : wM} {vs : List Value} {m : wMm} {e : Nat → Nat} {s' : wSg} {Bs : List wSg} {r : Option Value} (hB : RBs Bs m) (h : PM f vs (m, RF e) (PW m e s' r)) : PM f vs (m, RF e) (PO m e s' Bs r) := PM_mono h (by
  rintro r' u ⟨rfl, m', rfl, h1, h2⟩
  exact ⟨rfl, m', rfl, h1, h2.bs hB, h2.ka⟩)
theorem PO.ofT {f : wM} {vs : List Value} {m : wMm} {e : Nat → Nat} {s : wSg} {Bs : List wSg} {r : Option Value} (hR : RW s m) (hB : RBs Bs m) (h : PM f vs (m, RF e) (PT m e r)) : PM f vs (m, RF e) (PO m e s Bs r) := PM_mono h (by
  rintro r' u ⟨rfl, m', rfl, h1⟩
  exact ⟨rfl, m', rfl, h1.rw hR, h1.kr.bs hB, h1.kr.ka⟩)
theorem PO.ofS {f : wM} {vs : List Value} {m : wMm} {e : Nat → Nat} {s : wSg} {Bs : List wSg} {r : Option Value} (hR : RW s m) (hB : RBs Bs m) (h : PM f vs (m, RF e) (fun r' u => r' = r ∧ u = (m, RF e))) : PM f vs (m, RF e) (PO m e s Bs r) := PM_mono h (by
  rintro r' u ⟨rfl, rfl⟩
  exact PO.same hR hB)
section JOINT
variable (K : Nat) {i : Nat} {t : wS}
theorem j_0 (hK : 16777216 ≤ K) (h : LWs i t) (hi : i ≤ 600) (v : Int32) : BothA isIn (nX11_state K SH) (nX12_state K SH) [.int v] t (LWs (i + 1)) := by
  obtain ⟨B, st, s, ks, Bs, img, ty, tn, fk, fp, e, m, rfl, hB, hst, h⟩ := h
  exact j_pair h (B' := B) (by omega) hst ⟨_, rfl⟩ (h.2.1.state _) (k_state K h.1 h.2.1.1 v) (fun m1 e1 a b _ => r_state K e1 a v)
theorem j_1 (hK : 16777216 ≤ K) (h : LWs i t) (hi : i ≤ 600) {v w : Int} (h1 : -2147483648 ≤ v) (h2 : v < 2147483648) (h3 : -2147483648 ≤ w) (h4 : w < 2147483648) : BothA isIn (nX11_set K SH) (nX12_set K SH) [.int (J v), .int (J w)] t (LWs (i + 1)) := by
  obtain ⟨B, st, s, ks, Bs, img, ty, tn, fk, fp, e, m, rfl, hB, hst, h⟩ := h
  exact j_pair h (B' := B) (by omega) hst ⟨_, rfl⟩ (h.2.1.set v w) (k_set K h.1 h.2.1.1 h1 h2 h3 h4) (fun m1 e1 a b _ => r_set K e1 a b h1 h2 h3 h4)
theorem j_2 (hK : 16777216 ≤ K) (h : LWs i t) (hi : i ≤ 600) {v : Int} (h1 : -2147483648 ≤ v) (h2 : v < 2147483648) : BothA isIn (nX11_put K SH) (nX12_put K SH) [.int (J v)] t (LWs (i + 1)) := by
  obtain ⟨B, st, s, ks, Bs, img, ty, tn, fk, fp, e, m, rfl, hB, hst, h⟩ := h
  have hk := k_put K h.1 h.2.1.1 h1 h2 hK
  by_cases c : 0 ≤ v ∧ v ≤ s 208
  · rw [if_pos c] at hk
    refine j_pair h (B' := B) (by omega) hst ⟨_, rfl⟩ (h.2.1.put (p := v.toNat) (by omega)) hk (fun m1 e1 a b _ => ?_)
    have hr := r_put K e1 a b h.2.1.1.1 h1 h2 hK
    rw [if_pos c] at hr
    exact hr
  · rw [if_neg c] at hk
    refine j_pair h (B' := B) (by omega) hst ⟨_, rfl⟩ h.2.1 hk (fun m1 e1 a b _ => ?_)
    have hr := r_put K e1 a b h.2.1.1.1 h1 h2 hK
    rw [if_neg c] at hr
    exact hr
theorem j_3 (hK : 16777216 ≤ K) (h : LWs i t) (hi : i ≤ 600) (on : Bool) {v : Int} (h1 : -2147483648 ≤ v) (h2 : v < 2147483648) : BothA isIn (nX11_wind K SH) (nX12_wind K SH) [.int (J (if on = true then 1 else 0)), .int (J v)] t (LWs (i + 1)) := by
  obtain ⟨B, st, s, ks, Bs, img, ty, tn, fk, fp, e, m, rfl, hB, hst, h⟩ := h
  have hk := k_wind K on h.1 h.2.1.1 (by omega) (by omega) h1 h2 hK
  by_cases c : 1 ≤ v ∧ v ≤ 60
  · rw [if_pos c] at hk
    refine j_pair h (B' := B + 1) (by omega) hst ⟨_, rfl⟩ (h.2.1.wind on v.toNat) hk (fun m1 e1 a b _ => ?_)
    have hr := r_wind K e1 a b h.2.1.1.1 on h1 h2 hK
    rw [if_pos c] at hr
    exact hr
  · rw [if_neg c] at hk
    refine j_pair h (B' := B) (by omega) hst ⟨_, rfl⟩ h.2.1 hk (fun m1 e1 a b _ => ?_)
    have hr := r_wind K e1 a b h.2.1.1.1 on h1 h2 hK
    rw [if_neg c] at hr
    exact hr
theorem j_4 (hK : 16777216 ≤ K) (h : LWs i t) (hi : i ≤ 600) {v : Int} (h1 : -2147483648 ≤ v) (h2 : v < 2147483648) : BothA isIn (nX11_hear K SH) (nX12_hear K SH) [.int (J v)] t (LWs (i + 1)) := by
  obtain ⟨B, st, s, ks, Bs, img, ty, tn, fk, fp, e, m, rfl, hB, hst, h⟩ := h
  have hk := k_hear K h.1 h.2.1.1 h1 h2 hK
  by_cases c : 1 ≤ v ∧ v ≤ 30
  · rw [if_pos c] at hk
    refine j_pair h (B' := B) (by omega) hst ⟨_, rfl⟩ (h.2.1.hear v.toNat) hk (fun m1 e1 a b _ => ?_)
    have hr := r_hear K e1 a b h.2.1.1.1 h1 h2 hK
    rw [if_pos c] at hr
    exact hr
  · rw [if_neg c] at hk
    refine j_pair h (B' := B) (by omega) hst ⟨_, rfl⟩ h.2.1 hk (fun m1 e1 a b _ => ?_)
    have hr := r_hear K e1 a b h.2.1.1.1 h1 h2 hK
    rw [if_neg c] at hr
    exact hr
theorem j_5 (hK : 16777216 ≤ K) (h : LWs i t) (hi : i ≤ 600) : BothA isIn (nX11_turn K SH) (nX12_turn K SH) [] t (LWs (i + 1)) := by
  obtain ⟨B, st, s, ks, Bs, img, ty, tn, fk, fp, e, m, rfl, hB, hst, h⟩ := h
  exact j_pair h (B' := B) (by omega) hst ⟨_, rfl⟩ h.2.1.turn (k_turn K h.1 h.2.1.1 hK) (fun m1 e1 a b _ => r_turn K e1 a b h.2.1.1.1 hK)
theorem j_6 (hK : 16777216 ≤ K) (h : LWs i t) (hi : i ≤ 600) : BothA isIn (nX11_evening K SH) (nX12_evening K SH) [] t (LWs (i + 1)) := by
  obtain ⟨B, st, s, ks, Bs, img, ty, tn, fk, fp, e, m, rfl, hB, hst, h⟩ := h
  exact j_pair h (B' := B + 60) (by omega) hst ⟨_, rfl⟩ h.2.1.evening (k_evening K h.1 h.2.1.1 (by omega) (by omega) hK) (fun m1 e1 a b _ => r_evening K e1 a b h.2.1.1.1 h.2.1.1.2.2.1 hK)
theorem j_7 (hK : 16777216 ≤ K) (h : LWs i t) (hi : i ≤ 600) (a b c d f : Int32) : BothA isIn (nX11_feed K SH) (nX12_feed K SH) [.int a, .int b, .int c, .int d, .int f] t (LWs (i + 1)) := by
  obtain ⟨B, st, s, ks, Bs, img, ty, tn, fk, fp, e, m, rfl, hB, hst, h⟩ := h
  obtain ⟨h1, h2, h3, h4, h5, ⟨h6, h7⟩, ⟨h8, h9⟩, h10⟩ := id h
  by_cases q : tn + 20 ≤ 400
  · refine PM_mono (k_feed K h7 a b c d f q hK) ?_
    rintro r u ⟨rfl, m1, rfl, c1, c2⟩
    have k9 : ∀ c, 119 ≤ c → m1 c = m c := fun c hc => c2.1 c (by omega) (by omega)
    refine ⟨⟨_, rfl⟩, PM_mono (r_feed K e (KC.rtp h6 k9) a b c d f q hK) ?_⟩
    rintro r2 u2 ⟨rfl, m2, rfl, d1, d2, d3⟩
    refine ⟨rfl, B, st, s, ks, Bs, img, _, _, fk, fp, e, m2, rfl, by omega, by omega, (KB.cls h1 c2).o (fun x hx => d2 x (by omega) (by omega)), h2, ?_, ?_, ?_, ⟨d1, c1.1, ?_, fun j hj => ?_⟩, ⟨?_, ?_⟩, ?_⟩
    · exact h3.congr (by rw [d2 120 (by omega) (by omega), k9 120 (by omega)])
    · exact ⟨h4.1, by rw [d3 4 (by omega), k9 119 (by omega)]; exact h4.2.1, fun j x q1 q2 => by rw [d2 122 (by omega) (by omega), k9 122 (by omega)]; exact h4.2.2 j x q1 q2⟩
    · exact ⟨by rw [d3 5 (by omega), k9 119 (by omega)]; exact h5.1, fun q j hj => by rw [d2 121 (by omega) (by omega), k9 121 (by omega)]; exact h5.2 q j hj⟩
    · rw [d2 1 (by omega) (by omega)]; exact c1.2.1
    · rw [d2 2 (by omega) (by omega)]; exact c1.2.2 j hj
    · exact ⟨by rw [d3 30 (by omega), k9 119 (by omega)]; exact h8.1, by rw [d3 32 (by omega), k9 119 (by omega)]; exact h8.2⟩
    · exact ⟨by rw [d2 1 (by omega) (by omega), c2.2 7 (by omega)]; exact h9.1, by rw [d2 1 (by omega) (by omega), c2.2 8 (by omega)]; exact h9.2⟩
    · exact h10.o (by rw [d3 27 (by omega), k9 119 (by omega)])
  · have hk := k_feedNo (e := e) K (fun r t1 => isIn r ∧ PM (nX12_feed K SH) (.ref 119 :: [.int a, .int b, .int c, .int d, .int f]) t1 (fun r2 t2 => r2 = r ∧ LWs (i + 1) t2)) h7 a b c d f (by omega)
    unfold BothA
    rw [hk]
    refine ⟨⟨_, rfl⟩, ?_⟩
    rw [r_feedNo K e _ h6 a b c d f (by omega)]
    exact ⟨rfl, B, st, s, ks, Bs, img, ty, tn, fk, fp, e, m, rfl, by omega, by omega, h⟩
theorem j_8 (h : LWs i t) {w : Int} (h1 : -2147483648 ≤ w) (h2 : w < 2147483648) : BothA isIn (nX11_end K SH) (nX12_end K SH) [.int (J w)] t (LWs (i + 1)) := by
  obtain ⟨B, st, s, ks, Bs, img, ty, tn, fk, fp, e, m, rfl, hB, hst, h⟩ := h
  obtain ⟨g1, g2, g3, g4, g5, ⟨g6, g7⟩, ⟨g8, g9⟩, g10⟩ := id h
  show PM (nX11_end K SH) [.ref 0, .int (J w)] (m, RF e) _
  rw [k_end K _ g7 h1 h2]
  refine ⟨⟨_, rfl⟩, ?_⟩
  by_cases q : 0 ≤ w ∧ w ≤ tn
  · have c2 : KB m (mU m 1 1 (J w)) := ⟨fun c a b => mU_ne a, fun k a => by rw [mU_skip (Or.inr a)]⟩
    have k9 : ∀ c, 119 ≤ c → (mU m 1 1 (J w)) c = m c := fun c hc => mU_ne (by omega)
    rw [if_pos q, if_pos q]
    show PM (nX12_end K SH) [.ref 119, .int (J w)] (mU m 1 1 (J w), RF e) _
    rw [r_end K e _ (KC.rtp g6 k9) h1 h2, if_pos q, if_pos q]
    obtain ⟨n, rfl⟩ : ∃ n : Nat, w = n := ⟨w.toNat, by omega⟩
    refine ⟨rfl, B, st, s, ks, Bs, img, ty, n, fk, fp, e, _, rfl, by omega, by omega, (KB.cls g1 c2).o (fun x hx => mU_ne (by omega)), g2, ?_, ?_, ?_, ⟨⟨?_, ?_, fun j hj => ?_⟩, ?_, ?_, fun j hj => ?_⟩, ⟨?_, ?_⟩, ?_⟩
    · exact g3.congr (by rw [mU_ne (by omega), mU_ne (by omega)])
    · exact ⟨g4.1, by rw [mU_skip (by omega), mU_ne (by omega)]; exact g4.2.1, fun j x q1 q2 => by rw [mU_ne (by omega), mU_ne (by omega)]; exact g4.2.2 j x q1 q2⟩
    · exact ⟨by rw [mU_skip (by omega), mU_ne (by omega)]; exact g5.1, fun q j hj => by rw [mU_ne (by omega), mU_ne (by omega)]; exact g5.2 q j hj⟩
    · have := g6.1; omega
    · exact mU_same _ _ _ _
    · rw [mU_ne (by omega), mU_ne (by omega)]; exact g6.2.2 j (by omega)
    · have := g6.1; omega
    · rw [mU_ne (by omega)]; exact mU_same _ _ _ _
    · rw [mU_ne (by omega), mU_ne (by omega)]; exact g7.2.2 j (by omega)
    · exact ⟨by rw [mU_skip (by omega), mU_ne (by omega)]; exact g8.1, by rw [mU_skip (by omega), mU_ne (by omega)]; exact g8.2⟩
    · exact ⟨by rw [mU_ne (by omega), mU_skip (by omega)]; exact g9.1, by rw [mU_ne (by omega), mU_skip (by omega)]; exact g9.2⟩
    · exact g10.o (by rw [mU_skip (by omega), mU_ne (by omega)])
  · rw [if_neg q, if_neg q]
    show PM (nX12_end K SH) [.ref 119, .int (J w)] (m, RF e) _
    rw [r_end K e _ g6 h1 h2, if_neg q, if_neg q]
    exact ⟨rfl, B, st, s, ks, Bs, img, ty, tn, fk, fp, e, m, rfl, by omega, by omega, h⟩
theorem j_text {f g : wM} {vs : List Value} {B st : Nat} {s ks : wSg} {Bs : List wSg} {img : Bool} {ty : Nat → Nat} {tn fk : Nat} {fp : Int} {e : Nat → Nat} {m : wMm} {P : wMm → Int → Nat → Int → Prop} {P' : wSg → List wSg → Int → Nat → Int → Prop} (h : LWc B st s ks Bs img ty tn fk fp e m) (hB : B ≤ 60 * i) (hst : st ≤ 1000 * i)
    (hk : PM f (.ref 0 :: vs) (m, RF e) (TxE e m P)) (hr : ∀ m1 : wMm, RW s m1 → RBs Bs m1 → RTp ty tn m1 → ValOK m1 → PM g (.ref 119 :: vs) (m1, RF e) (TextE e m1 P'))
    (hG : ∀ (m1 : wMm) (n : Int) (fk : Nat) (fp : Int) (s' : wSg) (Bs' : List wSg) (n' : Int) (fk' : Nat) (fp' : Int), P m1 n fk fp → P' s' Bs' n' fk' fp' → n = n' ∧ fk = fk' ∧ fp = fp' ∧ nOK B s' ks Bs' img ∧ ClS st s' ks Bs' img e m1) : BothA isIn f g vs (m, RF e) (LWs (i + 1)) := by
  obtain ⟨h1, h2, h3, h4, h5, ⟨h6, h7⟩, ⟨h8, h9⟩, h10⟩ := h
  refine PM_mono hk ?_
  rintro r u ⟨m1, n, fp1, fk1, rfl, rfl, c1, c2, ⟨c3, c4⟩, c5⟩
  refine ⟨⟨_, rfl⟩, PM_mono (hr m1 (h3.congr (c3 120 (by omega))) (KC.rbs h4 c3) (KC.rtp h6 c3) (h10.o (by rw [c3 119 (by omega)]))) ?_⟩
  rintro r2 u2 ⟨m2, s2, Bs2, n2, fk2, fp2, rfl, rfl, d1, d2, d3, d4, d5, d6, d7⟩
  obtain ⟨rfl, rfl, rfl, e4, e5⟩ := hG m1 _ _ _ _ _ _ _ _ c5 d7
  refine ⟨rfl, B, st, s2, ks, Bs2, img, ty, 0, fk1, fp1, e, m2, rfl, by omega, by omega, e5.o d6.1, e4, d1, d2, ⟨?_, fun q j hj => ?_⟩, ⟨⟨by omega, d4, fun j hj => absurd hj (Nat.not_lt_zero j)⟩, by omega, ?_, fun j hj => absurd hj (Nat.not_lt_zero j)⟩, ⟨d3, ?_, ?_⟩, d5⟩
  · rw [d6.2.2, c3 119 (by omega)]; exact h5.1
  · rw [d6.2.1, c3 121 (by omega)]; exact h5.2 q j hj
  · rw [d6.1 1 (by omega)]; exact c1
  · rw [d6.1 1 (by omega)]; exact c2.1
  · rw [d6.1 1 (by omega)]; exact c2.2
theorem Tx_pair {α : Type} {res : wXR α} {B st : Nat} {s ks : wSg} {Bs : List wSg} {img : Bool} {e : Nat → Nat} {G : α → wMm → Int → Prop} {G' : α → wSg → List wSg → Int → Prop} (h2 : nOK B s ks Bs img) (hG : ∀ (a : α) (m1 : wMm) (n : Int) (s' : wSg) (Bs' : List wSg) (n' : Int), G a m1 n → G' a s' Bs' n' → n = n' ∧ nOK B s' ks Bs' img ∧ ClS st s' ks Bs' img e m1)
    (m1 : wMm) (n : Int) (fk : Nat) (fp : Int) (s' : wSg) (Bs' : List wSg) (n' : Int) (fk' : Nat) (fp' : Int) (c : TxR res G (fun m' => ClS st s ks Bs img e m') m1 n fk fp) (d : TextR res s Bs G' s' Bs' n' fk' fp') : n = n' ∧ fk = fk' ∧ fp = fp' ∧ nOK B s' ks Bs' img ∧ ClS st s' ks Bs' img e m1 := by
  cases res with
  | ok a =>
    obtain ⟨c1, c2, c3⟩ : G a m1 n ∧ fk = 0 ∧ fp = -1 := c
    obtain ⟨d1, d2, d3⟩ : G' a s' Bs' n' ∧ fk' = 0 ∧ fp' = -1 := d
    obtain ⟨e1, e2, e3⟩ := hG a m1 n s' Bs' n' c1 d1
    exact ⟨e1, by rw [c2, d2], by rw [c3, d3], e2, e3⟩
  | error q =>
    obtain ⟨k, p⟩ := q
    obtain ⟨c1, c2, c3, c4⟩ : ClS st s ks Bs img e m1 ∧ n = -1 ∧ fk = k ∧ fp = p := c
    obtain ⟨rfl, rfl, d2, d3, d4⟩ : s' = s ∧ Bs' = Bs ∧ n' = -1 ∧ fk' = k ∧ fp' = p := d
    exact ⟨by rw [c2, d2], by rw [c3, d3], by rw [c4, d4], h2, c1⟩
theorem rowW_208 (R : List wRo) (s : wSg) : ∀ n, rowW R n s 208 = s 208
  | 0 => rfl
  | n + 1 => by
    show su _ _ _ 208 = _
    unfold su
    rw [if_neg (by omega), rowW_208 R s n]
theorem lineW_208 (Ls : List wLn) (s : wSg) (n : Nat) : lineW Ls n s 208 = s 208 := by
  unfold lineW
  rw [if_neg (by omega), if_neg (by omega), if_neg (by omega), if_neg (by omega)]
theorem j_9 (hK : 16777216 ≤ K) (h : LWs i t) {w : Int} (h1 : -2147483648 ≤ w) (h2 : w < 2147483648) : BothA isIn (nX11_text K SH) (nX12_text K SH) [.int (J w)] t (LWs (i + 1)) := by
  obtain ⟨B, st, s, ks, Bs, img, ty, tn, fk, fp, e, m, rfl, hB, hst, h⟩ := h
  obtain ⟨g1, g2, g3, g4, g5, ⟨g6, g7⟩, ⟨g8, g9⟩, g10⟩ := id h
  by_cases q : 0 ≤ w ∧ w ≤ 3
  · obtain rfl | rfl | rfl | rfl : w = 0 ∨ w = 1 ∨ w = 2 ∨ w = 3 := by omega
    · refine j_text h hB hst (k_text0 K g1 g2.1 g7 hK) (fun m1 a b c d => r_text0 K e a b c d hK) (Tx_pair g2 ?_)
      rintro a m1 n s' Bs' n' ⟨rfl, b1, b2⟩ ⟨rfl, rfl, rfl⟩
      exact ⟨rfl, g2.nil (gOK_tape g2.1 b1), b2⟩
    · refine j_text h hB hst (k_text1 K g1 g2.1 g7 hK) (fun m1 a b c d => r_text1 K e a b c d hK) (Tx_pair g2 ?_)
      rintro a m1 n s' Bs' n' ⟨rfl, b1⟩ ⟨⟨v, hv, rfl⟩, rfl, rfl⟩
      obtain ⟨b2, b3⟩ := b1 v hv
      refine ⟨rfl, g2.told b2 ?_, b3⟩
      show copW _ _ _ _ 208 = _
      rw [copW_ne (by omega), lineW_208, su_ne (by omega)]
    · refine j_text h hB hst (k_text2 K g1 g2.1 g7 hK) (fun m1 a b c d => r_text2 K e a b c d hK) (Tx_pair g2 ?_)
      rintro a m1 n s' Bs' n' ⟨rfl, b1, b2⟩ ⟨rfl, rfl, rfl⟩
      exact ⟨rfl, g2.nil b1, b2⟩
    · refine j_text h hB hst (k_text3 K g1 g2.1 g7 hK) (fun m1 a b c d => r_text3 K e a b c d g2.1.2.1.1 hK) (Tx_pair g2 ?_)
      rintro a m1 n s' Bs' n' ⟨rfl, b1, b2⟩ ⟨rfl, rfl, rfl⟩
      refine ⟨rfl, g2.told b1 ?_, b2⟩
      show rowW _ _ _ 208 = _
      rw [rowW_208, copW_ne (by omega), su_ne (by omega)]
  · refine j_text h hB hst (k_textNo K g1 g7 h1 h2 q hK) (fun m1 a b c d => r_textNo K e a b d h1 h2 q) ?_
    rintro m1 n fk1 fp1 s' Bs' n' fk2 fp2 ⟨a1, rfl, rfl, rfl⟩ ⟨rfl, rfl, rfl, rfl, rfl⟩
    exact ⟨rfl, rfl, rfl, g2, a1⟩
theorem j_10 (hK : 16777216 ≤ K) (h : LWs i t) (hi : i ≤ 600) {v : Int} (h1 : -2147483648 ≤ v) (h2 : v < 2147483648) : BothA isIn (nX11_fault K SH) (nX12_fault K SH) [.int (J v)] t (LWs (i + 1)) := by
  obtain ⟨B, st, s, ks, Bs, img, ty, tn, fk, fp, e, m, rfl, hB, hst, h⟩ := h
  obtain ⟨g1, g2, g3, g4, g5, ⟨g6, g7⟩, ⟨g8, g9⟩, g10⟩ := id h
  obtain ⟨o1, o2, o3, o4, o5, o6, o7⟩ := g2.1
  obtain ⟨p208, p0, p1, p2, p6, p9⟩ := o1.le
  exact j_pair h (B' := B) (by omega) hst ⟨_, rfl⟩ (g2) (by show PM _ _ _ _; rw [k_fault K _ g9 h1 h2]; exact PCl.same g1) (fun m1 e1 a b c => (by show PM _ _ _ _; rw [r_fault K e1 _ c h1 h2]; exact PO.same a b))
theorem j_11 (hK : 16777216 ≤ K) (h : LWs i t) (hi : i ≤ 600) {v : Int} (h1 : -2147483648 ≤ v) (h2 : v < 2147483648) {w : Int} (h3 : -2147483648 ≤ w) (h4 : w < 2147483648) : BothA isIn (nX11_song K SH) (nX12_song K SH) [.int (J v), .int (J w)] t (LWs (i + 1)) := by
  obtain ⟨B, st, s, ks, Bs, img, ty, tn, fk, fp, e, m, rfl, hB, hst, h⟩ := h
  obtain ⟨g1, g2, g3, g4, g5, ⟨g6, g7⟩, ⟨g8, g9⟩, g10⟩ := id h
  obtain ⟨o1, o2, o3, o4, o5, o6, o7⟩ := g2.1
  obtain ⟨p208, p0, p1, p2, p6, p9⟩ := o1.le
  exact j_pair h (B' := B) (by omega) hst ⟨_, rfl⟩ (g2) (by show PM _ _ _ _; rw [c_song K e _ g1.1.1 o2 h1 h2 h3 h4]; exact PCl.same g1) (fun m1 e1 a b c => (by show PM _ _ _ _; rw [r_song K e1 _ a o2.1 h1 h2 h3 h4]; exact PO.same a b))
theorem j_12 (hK : 16777216 ≤ K) (h : LWs i t) (hi : i ≤ 600) {v : Int} (h1 : -2147483648 ≤ v) (h2 : v < 2147483648) {w : Int} (h3 : -2147483648 ≤ w) (h4 : w < 2147483648) : BothA isIn (nX11_at K SH) (nX12_at K SH) [.int (J v), .int (J w)] t (LWs (i + 1)) := by
  obtain ⟨B, st, s, ks, Bs, img, ty, tn, fk, fp, e, m, rfl, hB, hst, h⟩ := h
  obtain ⟨g1, g2, g3, g4, g5, ⟨g6, g7⟩, ⟨g8, g9⟩, g10⟩ := id h
  obtain ⟨o1, o2, o3, o4, o5, o6, o7⟩ := g2.1
  obtain ⟨p208, p0, p1, p2, p6, p9⟩ := o1.le
  exact j_pair h (B' := B) (by omega) hst ⟨_, rfl⟩ (g2) (by show PM _ _ _ _; rw [c_at K e _ g1.1.1 p208 h1 h2 h3 h4]; exact PCl.same g1) (fun m1 e1 a b c => (by show PM _ _ _ _; rw [r_at K e1 _ a p208 h1 h2 h3 h4]; exact PO.same a b))
theorem j_13 (hK : 16777216 ≤ K) (h : LWs i t) (hi : i ≤ 600) {v : Int} (h1 : -2147483648 ≤ v) (h2 : v < 2147483648) {w : Int} (h3 : -2147483648 ≤ w) (h4 : w < 2147483648) : BothA isIn (nX11_after K SH) (nX12_after K SH) [.int (J v), .int (J w)] t (LWs (i + 1)) := by
  obtain ⟨B, st, s, ks, Bs, img, ty, tn, fk, fp, e, m, rfl, hB, hst, h⟩ := h
  obtain ⟨g1, g2, g3, g4, g5, ⟨g6, g7⟩, ⟨g8, g9⟩, g10⟩ := id h
  obtain ⟨o1, o2, o3, o4, o5, o6, o7⟩ := g2.1
  obtain ⟨p208, p0, p1, p2, p6, p9⟩ := o1.le
  exact j_pair h (B' := B) (by omega) hst ⟨_, rfl⟩ (g2) (by show PM _ _ _ _; rw [c_after K e _ g1.1.1 g1.1.2.2.2.1 o2.1 h1 h2 h3 h4]; exact PCl.same g1) (fun m1 e1 a b c => (by show PM _ _ _ _; rw [r_after K e1 _ a o2.1 h1 h2 h3 h4]; exact PO.same a b))
theorem j_14 (hK : 16777216 ≤ K) (h : LWs i t) (hi : i ≤ 600) {v : Int} (h1 : -2147483648 ≤ v) (h2 : v < 2147483648) : BothA isIn (nX11_known K SH) (nX12_known K SH) [.int (J v)] t (LWs (i + 1)) := by
  obtain ⟨B, st, s, ks, Bs, img, ty, tn, fk, fp, e, m, rfl, hB, hst, h⟩ := h
  obtain ⟨g1, g2, g3, g4, g5, ⟨g6, g7⟩, ⟨g8, g9⟩, g10⟩ := id h
  obtain ⟨o1, o2, o3, o4, o5, o6, o7⟩ := g2.1
  obtain ⟨p208, p0, p1, p2, p6, p9⟩ := o1.le
  exact j_pair h (B' := B) (by omega) hst ⟨_, rfl⟩ (g2) (by show PM _ _ _ _; rw [c_known K e _ g1.1.1 g1.1.mv.2 p208 h1 h2]; exact PCl.same g1) (fun m1 e1 a b c => (by show PM _ _ _ _; rw [r_known K e1 _ a p208 h1 h2]; exact PO.same a b))
theorem j_15 (hK : 16777216 ≤ K) (h : LWs i t) (hi : i ≤ 600) {v : Int} (h1 : -2147483648 ≤ v) (h2 : v < 2147483648) (on : Bool) {w : Int} (h3 : -2147483648 ≤ w) (h4 : w < 2147483648) {g : Int} (h5 : -2147483648 ≤ g) (h6 : g < 2147483648) : BothA isIn (nX11_lawAt K SH) (nX12_lawAt K SH) [.int (J v), .int (J (if on = true then 1 else 0)), .int (J w), .int (J g)] t (LWs (i + 1)) := by
  obtain ⟨B, st, s, ks, Bs, img, ty, tn, fk, fp, e, m, rfl, hB, hst, h⟩ := h
  obtain ⟨g1, g2, g3, g4, g5, ⟨g6, g7⟩, ⟨g8, g9⟩, g10⟩ := id h
  obtain ⟨o1, o2, o3, o4, o5, o6, o7⟩ := g2.1
  obtain ⟨p208, p0, p1, p2, p6, p9⟩ := o1.le
  exact j_pair h (B' := B) (by omega) hst ⟨_, rfl⟩ (g2) (CTh.end_ g1 (c_lawAt K e on g1.1 g2.1 (by omega) g1.2.2.2.2.2.1 g1.2.2.2.2.2.2 (by omega) h1 h2 h5 h6 h3 h4 hK)) (fun m1 e1 a b c => PO.ofT a b (r_lawAt K e1 a o1.1 on h1 h2 h5 h6 h3 h4 hK))
theorem j_16 (hK : 16777216 ≤ K) (h : LWs i t) (hi : i ≤ 600) {v : Int} (h1 : -2147483648 ≤ v) (h2 : v < 2147483648) {w : Int} (h3 : -2147483648 ≤ w) (h4 : w < 2147483648) : BothA isIn (nX11_book K SH) (nX12_book K SH) [.int (J v), .int (J w)] t (LWs (i + 1)) := by
  obtain ⟨B, st, s, ks, Bs, img, ty, tn, fk, fp, e, m, rfl, hB, hst, h⟩ := h
  obtain ⟨g1, g2, g3, g4, g5, ⟨g6, g7⟩, ⟨g8, g9⟩, g10⟩ := id h
  obtain ⟨o1, o2, o3, o4, o5, o6, o7⟩ := g2.1
  obtain ⟨p208, p0, p1, p2, p6, p9⟩ := o1.le
  exact j_pair h (B' := B) (by omega) hst ⟨_, rfl⟩ (g2) (by show PM _ _ _ _; rw [c_book K e _ g1.1.mv p6 h1 h2 h3 h4]; exact PCl.same g1) (fun m1 e1 a b c => (by show PM _ _ _ _; rw [r_book K e1 _ a p6 h1 h2 h3 h4]; exact PO.same a b))
theorem j_17 (hK : 16777216 ≤ K) (h : LWs i t) (hi : i ≤ 600) {v : Int} (h1 : -2147483648 ≤ v) (h2 : v < 2147483648) (on : Bool) {w : Int} (h3 : -2147483648 ≤ w) (h4 : w < 2147483648) : BothA isIn (nX11_runs K SH) (nX12_runs K SH) [.int (J v), .int (J (if on = true then 1 else 0)), .int (J w)] t (LWs (i + 1)) := by
  obtain ⟨B, st, s, ks, Bs, img, ty, tn, fk, fp, e, m, rfl, hB, hst, h⟩ := h
  obtain ⟨g1, g2, g3, g4, g5, ⟨g6, g7⟩, ⟨g8, g9⟩, g10⟩ := id h
  obtain ⟨o1, o2, o3, o4, o5, o6, o7⟩ := g2.1
  obtain ⟨p208, p0, p1, p2, p6, p9⟩ := o1.le
  exact j_pair h (B' := B) (by omega) hst ⟨_, rfl⟩ (g2) (CTh.end_ g1 (c_runs K e on g1.1 g2.1 (by omega) g1.2.2.2.2.2.1 g1.2.2.2.2.2.2 (by omega) h1 h2 h3 h4 hK)) (fun m1 e1 a b c => PO.ofT a b (r_runs K e1 a o1.1 on h1 h2 h3 h4 hK))
theorem j_18 (hK : 16777216 ≤ K) (h : LWs i t) (hi : i ≤ 600) {v : Int} (h1 : -2147483648 ≤ v) (h2 : v < 2147483648) {w : Int} (h3 : -2147483648 ≤ w) (h4 : w < 2147483648) {g : Int} (h5 : -2147483648 ≤ g) (h6 : g < 2147483648) : BothA isIn (nX11_soonest K SH) (nX12_soonest K SH) [.int (J v), .int (J w), .int (J g)] t (LWs (i + 1)) := by
  obtain ⟨B, st, s, ks, Bs, img, ty, tn, fk, fp, e, m, rfl, hB, hst, h⟩ := h
  obtain ⟨g1, g2, g3, g4, g5, ⟨g6, g7⟩, ⟨g8, g9⟩, g10⟩ := id h
  obtain ⟨o1, o2, o3, o4, o5, o6, o7⟩ := g2.1
  obtain ⟨p208, p0, p1, p2, p6, p9⟩ := o1.le
  exact j_pair h (B' := B) (by omega) hst ⟨_, rfl⟩ (g2) (k_soonest K g1 g2.1 (by omega) (by omega) h1 h2 h3 h4 h5 h6 hK) (fun m1 e1 a b c => PO.ofW b (r_soonest K e1 a o1.1 o2 h1 h2 h3 h4 h5 h6 hK))
theorem j_19 (hK : 16777216 ≤ K) (h : LWs i t) (hi : i ≤ 600) {v : Int} (h1 : -2147483648 ≤ v) (h2 : v < 2147483648) {w : Int} (h3 : -2147483648 ≤ w) (h4 : w < 2147483648) : BothA isIn (nX11_turned K SH) (nX12_turned K SH) [.int (J v), .int (J w)] t (LWs (i + 1)) := by
  obtain ⟨B, st, s, ks, Bs, img, ty, tn, fk, fp, e, m, rfl, hB, hst, h⟩ := h
  obtain ⟨g1, g2, g3, g4, g5, ⟨g6, g7⟩, ⟨g8, g9⟩, g10⟩ := id h
  obtain ⟨o1, o2, o3, o4, o5, o6, o7⟩ := g2.1
  obtain ⟨p208, p0, p1, p2, p6, p9⟩ := o1.le
  exact j_pair h (B' := B) (by omega) hst ⟨_, rfl⟩ (g2) (k_turned K g1 g2.1 (by omega) (by omega) h1 h2 h3 h4 hK) (fun m1 e1 a b c => PO.ofW b (r_turned K e1 a o1 o2 h1 h2 h3 h4 hK))
theorem j_20 (hK : 16777216 ≤ K) (h : LWs i t) (hi : i ≤ 600) {v : Int} (h1 : -2147483648 ≤ v) (h2 : v < 2147483648) : BothA isIn (nX11_unsure K SH) (nX12_unsure K SH) [.int (J v)] t (LWs (i + 1)) := by
  obtain ⟨B, st, s, ks, Bs, img, ty, tn, fk, fp, e, m, rfl, hB, hst, h⟩ := h
  obtain ⟨g1, g2, g3, g4, g5, ⟨g6, g7⟩, ⟨g8, g9⟩, g10⟩ := id h
  obtain ⟨o1, o2, o3, o4, o5, o6, o7⟩ := g2.1
  obtain ⟨p208, p0, p1, p2, p6, p9⟩ := o1.le
  exact j_pair h (B' := B) (by omega) hst ⟨_, rfl⟩ (g2) (by show PM _ _ _ _; rw [k_unsure K _ g1 g2.1 h1 h2 hK]; exact PCl.same g1) (fun m1 e1 a b c => PO.ofS a b (r_unsure K e1 a o1 o2 h1 h2 hK))
theorem j_21 (hK : 16777216 ≤ K) (h : LWs i t) (hi : i ≤ 600) {v : Int} (h1 : -2147483648 ≤ v) (h2 : v < 2147483648) : BothA isIn (nX11_tells K SH) (nX12_tells K SH) [.int (J v)] t (LWs (i + 1)) := by
  obtain ⟨B, st, s, ks, Bs, img, ty, tn, fk, fp, e, m, rfl, hB, hst, h⟩ := h
  obtain ⟨g1, g2, g3, g4, g5, ⟨g6, g7⟩, ⟨g8, g9⟩, g10⟩ := id h
  obtain ⟨o1, o2, o3, o4, o5, o6, o7⟩ := g2.1
  obtain ⟨p208, p0, p1, p2, p6, p9⟩ := o1.le
  exact j_pair h (B' := B) (by omega) hst ⟨_, rfl⟩ (g2) (k_tells K g1 g2.1 (by omega) (by omega) h1 h2 hK) (fun m1 e1 a b c => PO.ofW b (r_tells K e1 a o1 h1 h2 hK))
theorem j_22 (hK : 16777216 ≤ K) (h : LWs i t) (hi : i ≤ 600) {v : Int} (h1 : -2147483648 ≤ v) (h2 : v < 2147483648) {w : Int} (h3 : -2147483648 ≤ w) (h4 : w < 2147483648) : BothA isIn (nX11_card K SH) (nX12_card K SH) [.int (J v), .int (J w)] t (LWs (i + 1)) := by
  obtain ⟨B, st, s, ks, Bs, img, ty, tn, fk, fp, e, m, rfl, hB, hst, h⟩ := h
  obtain ⟨g1, g2, g3, g4, g5, ⟨g6, g7⟩, ⟨g8, g9⟩, g10⟩ := id h
  obtain ⟨o1, o2, o3, o4, o5, o6, o7⟩ := g2.1
  obtain ⟨p208, p0, p1, p2, p6, p9⟩ := o1.le
  exact j_pair h (B' := B) (by omega) hst ⟨_, rfl⟩ (g2) (k_card K g1 g2.1 h1 h2 h3 h4 hK) (fun m1 e1 a b c => PO.ofS a b (r_card K e1 a o2 h1 h2 h3 h4 hK))
theorem j_23 (hK : 16777216 ≤ K) (h : LWs i t) (hi : i ≤ 600) {v : Int} (h1 : -2147483648 ≤ v) (h2 : v < 2147483648) : BothA isIn (nX11_order K SH) (nX12_order K SH) [.int (J v)] t (LWs (i + 1)) := by
  obtain ⟨B, st, s, ks, Bs, img, ty, tn, fk, fp, e, m, rfl, hB, hst, h⟩ := h
  obtain ⟨g1, g2, g3, g4, g5, ⟨g6, g7⟩, ⟨g8, g9⟩, g10⟩ := id h
  obtain ⟨o1, o2, o3, o4, o5, o6, o7⟩ := g2.1
  obtain ⟨p208, p0, p1, p2, p6, p9⟩ := o1.le
  exact j_pair h (B' := B) (by omega) hst ⟨_, rfl⟩ (g2) (k_order K g1 g2.1 h1 h2 hK) (fun m1 e1 a b c => PO.ofW b (r_order K e1 a o2 o4 p0 h1 h2 hK))
theorem j_24 (hK : 16777216 ≤ K) (h : LWs i t) (hi : i ≤ 600) {v : Int} (h1 : -2147483648 ≤ v) (h2 : v < 2147483648) : BothA isIn (nX11_halves K SH) (nX12_halves K SH) [.int (J v)] t (LWs (i + 1)) := by
  obtain ⟨B, st, s, ks, Bs, img, ty, tn, fk, fp, e, m, rfl, hB, hst, h⟩ := h
  obtain ⟨g1, g2, g3, g4, g5, ⟨g6, g7⟩, ⟨g8, g9⟩, g10⟩ := id h
  obtain ⟨o1, o2, o3, o4, o5, o6, o7⟩ := g2.1
  obtain ⟨p208, p0, p1, p2, p6, p9⟩ := o1.le
  exact j_pair h (B' := B) (by omega) hst ⟨_, rfl⟩ (g2) (k_halves K g1 g2.1 h1 h2 hK) (fun m1 e1 a b c => PO.ofS a b (r_halves K e1 a o2 h1 h2 hK))
theorem j_25 (hK : 16777216 ≤ K) (h : LWs i t) (hi : i ≤ 600) {v : Int} (h1 : -2147483648 ≤ v) (h2 : v < 2147483648) {w : Int} (h3 : -2147483648 ≤ w) (h4 : w < 2147483648) : BothA isIn (nX11_worn K SH) (nX12_worn K SH) [.int (J v), .int (J w)] t (LWs (i + 1)) := by
  obtain ⟨B, st, s, ks, Bs, img, ty, tn, fk, fp, e, m, rfl, hB, hst, h⟩ := h
  obtain ⟨g1, g2, g3, g4, g5, ⟨g6, g7⟩, ⟨g8, g9⟩, g10⟩ := id h
  obtain ⟨o1, o2, o3, o4, o5, o6, o7⟩ := g2.1
  obtain ⟨p208, p0, p1, p2, p6, p9⟩ := o1.le
  exact j_pair h (B' := B) (by omega) hst ⟨_, rfl⟩ (g2.worn v w) (k_worn K g1 g2.1 h1 h2 h3 h4) (fun m1 e1 a b c => PO.ofW b (r_worn K e1 a o5 p208 h1 h2 h3 h4))
theorem j_26 (hK : 16777216 ≤ K) (h : LWs i t) (hi : i ≤ 600) {v : Int} (h1 : -2147483648 ≤ v) (h2 : v < 2147483648) : BothA isIn (nX11_sought K SH) (nX12_sought K SH) [.int (J v)] t (LWs (i + 1)) := by
  obtain ⟨B, st, s, ks, Bs, img, ty, tn, fk, fp, e, m, rfl, hB, hst, h⟩ := h
  obtain ⟨g1, g2, g3, g4, g5, ⟨g6, g7⟩, ⟨g8, g9⟩, g10⟩ := id h
  obtain ⟨o1, o2, o3, o4, o5, o6, o7⟩ := g2.1
  obtain ⟨p208, p0, p1, p2, p6, p9⟩ := o1.le
  exact j_pair h (B' := B) (by omega) hst ⟨_, rfl⟩ (g2) (by show PM _ _ _ _; rw [k_sought K _ g1 g2.1 h1 h2 hK]; exact PCl.same g1) (fun m1 e1 a b c => PO.ofS a b (r_sought K e1 a o2 o5 p0 h1 h2 hK))
theorem j_27 (hK : 16777216 ≤ K) (h : LWs i t) (hi : i ≤ 600)  : BothA isIn (nX11_most K SH) (nX12_most K SH) [] t (LWs (i + 1)) := by
  obtain ⟨B, st, s, ks, Bs, img, ty, tn, fk, fp, e, m, rfl, hB, hst, h⟩ := h
  obtain ⟨g1, g2, g3, g4, g5, ⟨g6, g7⟩, ⟨g8, g9⟩, g10⟩ := id h
  obtain ⟨o1, o2, o3, o4, o5, o6, o7⟩ := g2.1
  obtain ⟨p208, p0, p1, p2, p6, p9⟩ := o1.le
  exact j_pair h (B' := B) (by omega) hst ⟨_, rfl⟩ (g2) (by show PM _ _ _ _; rw [k_most K _ g1 g2.1 hK]; exact PCl.same g1) (fun m1 e1 a b c => PO.ofS a b (r_most K e1 a o2 o5 p0 hK))
theorem j_28 (hK : 16777216 ≤ K) (h : LWs i t) (hi : i ≤ 600) {v : Int} (h1 : -2147483648 ≤ v) (h2 : v < 2147483648) : BothA isLg (nX11_rule K SH) (nX12_rule K SH) [.int (J v)] t (LWs (i + 1)) := by
  obtain ⟨B, st, s, ks, Bs, img, ty, tn, fk, fp, e, m, rfl, hB, hst, h⟩ := h
  obtain ⟨g1, g2, g3, g4, g5, ⟨g6, g7⟩, ⟨g8, g9⟩, g10⟩ := id h
  obtain ⟨o1, o2, o3, o4, o5, o6, o7⟩ := g2.1
  obtain ⟨p208, p0, p1, p2, p6, p9⟩ := o1.le
  exact j_pair h (B' := B) (by omega) hst ⟨_, rfl⟩ (g2) (k_rule K g1 g2.1 (by omega) (by omega) h1 h2 hK) (fun m1 e1 a b c => PO.ofT a b (r_rule K e1 a o1 o2 h1 h2 hK))
theorem j_29 (hK : 16777216 ≤ K) (h : LWs i t) (hi : i ≤ 600)  : BothA isIn (nX11_best K SH) (nX12_best K SH) [] t (LWs (i + 1)) := by
  obtain ⟨B, st, s, ks, Bs, img, ty, tn, fk, fp, e, m, rfl, hB, hst, h⟩ := h
  obtain ⟨g1, g2, g3, g4, g5, ⟨g6, g7⟩, ⟨g8, g9⟩, g10⟩ := id h
  obtain ⟨o1, o2, o3, o4, o5, o6, o7⟩ := g2.1
  obtain ⟨p208, p0, p1, p2, p6, p9⟩ := o1.le
  exact j_pair h (B' := B) (by omega) hst ⟨_, rfl⟩ (g2) (k_best K g1 g2.1 (by omega) (by omega) hK) (fun m1 e1 a b c => PO.ofT a b (r_best K e1 a o1 o2 hK))
theorem j_30 (hK : 16777216 ≤ K) (h : LWs i t) (hi : i ≤ 600) {v : Int} (h1 : -2147483648 ≤ v) (h2 : v < 2147483648) : BothA isIn (nX11_goes K SH) (nX12_goes K SH) [.int (J v)] t (LWs (i + 1)) := by
  obtain ⟨B, st, s, ks, Bs, img, ty, tn, fk, fp, e, m, rfl, hB, hst, h⟩ := h
  obtain ⟨g1, g2, g3, g4, g5, ⟨g6, g7⟩, ⟨g8, g9⟩, g10⟩ := id h
  obtain ⟨o1, o2, o3, o4, o5, o6, o7⟩ := g2.1
  obtain ⟨p208, p0, p1, p2, p6, p9⟩ := o1.le
  exact j_pair h (B' := B) (by omega) hst ⟨_, rfl⟩ (g2) (k_goes K g1 g2.1 (by omega) (by omega) h1 h2 hK) (fun m1 e1 a b c => PO.ofW b (r_goes K e1 a o1 o3 h1 h2 hK))
theorem j_33 (hK : 16777216 ≤ K) (h : LWs i t) (hi : i ≤ 600) {v : Int} (h1 : -2147483648 ≤ v) (h2 : v < 2147483648) : BothA isIn (nX11_look K SH) (nX12_look K SH) [.int (J v)] t (LWs (i + 1)) := by
  obtain ⟨B, st, s, ks, Bs, img, ty, tn, fk, fp, e, m, rfl, hB, hst, h⟩ := h
  obtain ⟨g1, g2, g3, g4, g5, ⟨g6, g7⟩, ⟨g8, g9⟩, g10⟩ := id h
  obtain ⟨o1, o2, o3, o4, o5, o6, o7⟩ := g2.1
  obtain ⟨p208, p0, p1, p2, p6, p9⟩ := o1.le
  exact j_pair h (B' := B) (by omega) hst ⟨_, rfl⟩ (g2) (by show PM _ _ _ _; rw [c_look K e _ g1.1 g1.2.1.2.1 h1 h2]; exact PCl.same g1) (fun m1 e1 a b c => (by show PM _ _ _ _; rw [r_look K e1 _ a b h1 h2]; exact PO.same a b))
theorem j_31 (hK : 16777216 ≤ K) (h : LWs i t) (hi : i ≤ 600) : BothA isIn (nX11_undo K SH) (nX12_undo K SH) [] t (LWs (i + 1)) := by
  obtain ⟨B, st, s, ks, Bs, img, ty, tn, fk, fp, e, m, rfl, hB, hst, h⟩ := h
  have hk := k_undo K h.1 h.2.1.1 hK
  by_cases c : Bs.length = 0
  · rw [if_pos c] at hk
    refine j_pair h (B' := B) (by omega) hst ⟨_, rfl⟩ h.2.1 hk (fun m1 e1 a b _ => ?_)
    have hr := r_undo K e1 a b hK
    rw [if_pos c] at hr
    exact hr
  · rw [if_neg c] at hk
    refine j_pair h (B' := B) (by omega) hst ⟨_, rfl⟩ (h.2.1.undo c) hk (fun m1 e1 a b _ => ?_)
    have hr := r_undo K e1 a b hK
    rw [if_neg c] at hr
    exact hr
theorem j_32 (hK : 16777216 ≤ K) (h : LWs i t) (hi : i ≤ 600) (on : Bool) : BothA isIn (nX11_image K SH) (nX12_image K SH) [.int (J (if on = true then 1 else 0))] t (LWs (i + 1)) := by
  obtain ⟨B, st, s, ks, Bs, img, ty, tn, fk, fp, e, m, rfl, hB, hst, h⟩ := h
  obtain ⟨g1, g2, g3, g4, g5, ⟨g6, g7⟩, ⟨g8, g9⟩, g10⟩ := h
  cases on with
  | true =>
    show PM (nX11_image K SH) [.ref 0, .int (J 1)] (m, RF e) (fun r t1 => isIn r ∧ PM (nX12_image K SH) [.ref 119, .int (J 1)] t1 (fun r2 t2 => r2 = r ∧ LWs (i + 1) t2))
    refine PM_mono (k_imageT K g1 g2.1 hK) ?_
    rintro r u ⟨rfl, m1, e1, st1, rfl, hs1, c1, c2⟩
    refine ⟨⟨_, rfl⟩, PM_mono (r_imageT2 K e1 (g3.congr (c2.1 120 (by omega))) (KC.rbs g4 c2.1) (KC.rtp g6 c2.1) (KC.rfa g8 c2.1) hK) ?_⟩
    rintro r2 u2 ⟨rfl, m2, rfl, d1, d2, d3, d4, d5, d6, d7⟩
    refine ⟨rfl, B, st1, s, s, Bs, true, ty, tn, fk, fp, e1, m2, rfl, by omega, by omega, c1.o d6, g2.imageT, d1, d2, d5, ⟨d3, g7.1, ?_, fun j hj => ?_⟩, ⟨d4, ?_, ?_⟩, g10.o (by rw [d7, c2.1 119 (by omega)])⟩
    · rw [d6 1 (by omega), c2.2.1]; exact g7.2.1
    · rw [d6 2 (by omega), c2.2.2]; exact g7.2.2 j hj
    · rw [d6 1 (by omega), c2.2.1]; exact g9.1
    · rw [d6 1 (by omega), c2.2.1]; exact g9.2
  | false =>
    show PM (nX11_image K SH) [.ref 0, .int (J 0)] (m, RF e) (fun r t1 => isIn r ∧ PM (nX12_image K SH) [.ref 119, .int (J 0)] t1 (fun r2 t2 => r2 = r ∧ LWs (i + 1) t2))
    have hn : nOK B (if img = true then ks else s) ks (if img = true then [] else Bs) img := by
      cases img with
      | false => exact g2
      | true => exact g2.imageF
    refine PM_mono (k_imageF K g1 g2.2.2 hK) ?_
    rintro r u ⟨rfl, m1, e1, st1, rfl, hs1, c1, c2⟩
    refine ⟨⟨_, rfl⟩, PM_mono (r_imageF2 K e1 (g3.congr (c2.1 120 (by omega))) (KC.rbs g4 c2.1) (KC.rtp g6 c2.1) (KC.rfa g8 c2.1) (KC.rk g5 c2.1) hK) ?_⟩
    rintro r2 u2 ⟨rfl, m2, rfl, d1, d2, d3, d4, d5, d6, d7⟩
    refine ⟨rfl, B, st1, _, ks, _, img, ty, tn, fk, fp, e1, m2, rfl, by omega, by omega, c1.o d6, hn, d1, d2, d5, ⟨d3, g7.1, ?_, fun j hj => ?_⟩, ⟨d4, ?_, ?_⟩, g10.o (by rw [d7, c2.1 119 (by omega)])⟩
    · rw [d6 1 (by omega), c2.2.1]; exact g7.2.1
    · rw [d6 2 (by omega), c2.2.2]; exact g7.2.2 j hj
    · rw [d6 1 (by omega), c2.2.1]; exact g9.1
    · rw [d6 1 (by omega), c2.2.1]; exact g9.2
end JOINT
