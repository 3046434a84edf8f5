/-- one scene, task or law more, or none: what a text leaves -/
theorem IV.grow {p p' : IP} {u v : HS} (h : IVc p u) (hs : IVs p u) (n1 : pNs p ≤ pNs p') (n2 : pNt p ≤ pNt p') (n3 : pNl p ≤ pNl p') (n4 : pNi p' = pNi p) (n5 : pN p' = pN p) (n6 : pNr p' = pNr p) (n7 : pNb p' = pNb p) (eC : ∀ s, s < pNs p → pC p' s = pC p s) (eT : ∀ t, t < pNt p → pT p' t = pT p t) (eW : ∀ q, q < pNl p → pW p' q = pW p q) (hC : ICn p' v) (hT : ITa v) (hS : ISc p' v) (hK : ITk p' v) (hL : ILw p' v) (e : ∀ r, r = 0 ∨ (20 ≤ r ∧ r ≤ 31) ∨ r = 54 ∨ r = 77 ∨ r = 81 ∨ r = 83 ∨ r = 85 ∨ r = 87 → gI v r = gI u r) (f : ∀ k, k = 28 ∨ k = 29 ∨ k = 30 ∨ k = 31 ∨ k = 38 ∨ k = 39 ∨ k = 40 → gI v 9 0 k = gI u 9 0 k) : IV v := by
  obtain ⟨-, -, -, -, -, h6, h7, h8⟩ := h
  have elk : lkF v = lkF u := by unfold lkF; rw [e 81 (by omega)]
  have vl : ∀ n lk, VL (pNs p) (pNt p) n lk → VL (pNs p') (pNt p') n lk := fun n lk hv l hl => by
    obtain ⟨⟨s, a, b⟩, ⟨t, c, d⟩, r⟩ := hv l hl
    exact ⟨⟨s, by omega, b⟩, ⟨t, by omega, d⟩, r⟩
  obtain ⟨⟨a1, a2, a3⟩, ⟨b1, b2, b3, b4⟩, c1, c2, c3, c4⟩ := h6
  refine ⟨p', ⟨hC, hT, hS, hK, hL, ?_, fun k hk => ?_, ?_⟩, ?_, ?_⟩
  · unfold IHa
    rw [n5, n6, n7, f 28 (by omega), f 29 (by omega), f 30 (by omega), f 31 (by omega), elk, e 83 (by omega), e 85 (by omega), e 77 (by omega)]
    obtain ⟨w1, w2, w3⟩ := c4
    exact ⟨⟨a1, a2, a3⟩, ⟨b1.eq (e 0 (by omega)) (e 20 (by omega)) (e 21 (by omega)) (e 22 (by omega)) (e 23 (by omega)) (e 24 (by omega)), b2.eq (e 0 (by omega)) (e 25 (by omega)) (e 26 (by omega)) (e 27 (by omega)), b3.eq (e 0 (by omega)) (e 28 (by omega)) (e 29 (by omega)) (e 30 (by omega)), b4.eq (e 0 (by omega)) (e 31 (by omega))⟩, vl _ _ c1, c2, c3, w1, fun q hq => w2 q (by omega), w3⟩
  · rw [n4] at hk
    have hi : IM p v k := (h7 k hk).eq fun r hr => e r (by omega)
    obtain ⟨n, nr, nb, h', i1, i2, i3, i4, i5, i6, i7, i8, i9, i10, i11, i12, i13⟩ := hi
    exact ⟨n, nr, nb, h', by omega, i2, i3, i4, i5, i6, i7, i8, i9, vl _ _ i10, i11, i12, i13⟩
  · unfold IMo; rw [f 38 (by omega), f 39 (by omega), f 40 (by omega)]; exact h8
  · intro l q hl hq
    rw [e 54 (by omega)]
    rcases hs.1 l q hl hq with z | ⟨z1, z2, z3⟩
    · exact Or.inl z
    · refine Or.inr ⟨by omega, by omega, ?_⟩
      obtain ⟨⟨s, hs1, es⟩, ⟨t, ht1, et⟩, -⟩ := c1 l z1
      have ns := hC.1.1
      have nt := hC.1.2.1
      have s1 : loS u l < pNs p := by unfold loS; rw [es, nI_clamp (by omega)]; exact hs1
      have t1 : loT u l < pNt p := by unfold loT; rw [et, nI_clamp (by omega)]; exact ht1
      rw [z3]
      unfold loJ loE
      have l1 : loS v l = loS u l := by unfold loS; rw [elk]
      have l2 : loT v l = loT u l := by unfold loT; rw [elk]
      rw [l1, l2, eW q z2, eC _ s1, eT _ t1, elk, e 83 (by omega), e 85 (by omega), n6, n7]
  · intro s t q hs' ht' hq
    rw [e 54 (by omega)]
    rcases hs.2 s t q hs' ht' hq with z | ⟨z1, z2, z3, z4⟩
    · exact Or.inl z
    · refine Or.inr ⟨by omega, by omega, by omega, ?_⟩
      rw [z4]
      unfold neJ
      rw [eW q z3, eC _ z1, eT _ z2]
/-- the same, and nothing is new -/
theorem IV.sameT {p : IP} {u v : HS} (h : IVc p u) (hs : IVs p u) (hC : ICn p v) (hT : ITa v) (hS : ISc p v) (hK : ITk p v) (hL : ILw p v) (e : ∀ r, r = 0 ∨ (20 ≤ r ∧ r ≤ 31) ∨ r = 54 ∨ r = 77 ∨ r = 81 ∨ r = 83 ∨ r = 85 ∨ r = 87 → gI v r = gI u r) (f : ∀ k, k = 28 ∨ k = 29 ∨ k = 30 ∨ k = 31 ∨ k = 38 ∨ k = 39 ∨ k = 40 → gI v 9 0 k = gI u 9 0 k) : IV v :=
  IV.grow h hs (Nat.le_refl _) (Nat.le_refl _) (Nat.le_refl _) rfl rfl rfl rfl (fun _ _ => rfl) (fun _ _ => rfl) (fun _ _ => rfl) hC hT hS hK hL e f
theorem min_lt {α : Type} (x : Int32) (h : Nat) (hh : h ≤ 400) (J K : α) : (if nI h < x then J else if (200 : Int32) < x then J else K) = if nI (min h 200) < x then J else K := by
  have a : (nI h < x) ↔ (h : Int) < x.toInt := by rw [Int32.lt_iff_toInt_lt, nI_toInt (by omega)]
  have b : ((200 : Int32) < x) ↔ (200 : Int) < x.toInt := by rw [Int32.lt_iff_toInt_lt]; exact Iff.rfl
  have c : (nI (min h 200) < x) ↔ ((min h 200 : Nat) : Int) < x.toInt := by rw [Int32.lt_iff_toInt_lt, nI_toInt (by omega)]
  by_cases q1 : nI h < x
  · rw [if_pos q1, if_pos (c.mpr (by have := a.mp q1; omega))]
  · rw [if_neg q1]
    by_cases q2 : (200 : Int32) < x
    · rw [if_pos q2, if_pos (c.mpr (by have := b.mp q2; omega))]
    · rw [if_neg q2, if_neg (fun z => by
        have := c.mp z
        by_cases y : (h : Int) < x.toInt
        · exact q1 (a.mpr y)
        · by_cases y2 : (200 : Int) < x.toInt
          · exact q2 (b.mpr y2)
          · omega)]
theorem rLess {h : Nat} (hh : h ≤ 400) : mX9_less (nI h) 200 = some (nI (min h 200)) := by
  unfold mX9_less
  by_cases c : 200 ≤ h
  · rw [if_pos (show (200 : Int32) ≤ nI h from nI_le (a := 200) c (by omega)), Nat.min_eq_right c]; rfl
  · rw [if_neg (show ¬ (200 : Int32) ≤ nI h from nI_ge (b := 200) (by omega) (by decide)), Nat.min_eq_left (by omega)]
theorem inM (x : Int32) {m : Nat} (hm : m < 2 ^ 31 - 1) : mX9_in x 0 (nI m) = some (bI (inB x (m + 1))) := by
  have := in0 x (n := m + 1) (by omega)
  rw [nI_pred] at this
  exact this
/-- a text of n bytes begins on both sides; nothing but the tape has changed -/
theorem ITa.un {u : HS} (h5 : gI u 5 0 1 = 0) (h9 : gI u 9 0 1 = 0) (hb : ∀ k, k < 400 → gI u 45 0 k = gI u 60 0 k) (hp : gI u 5 0 6 = gI u 9 0 3) : ITa u := ⟨0, Nat.zero_le _, h5, h9, hb, hp⟩
/-! what stands below a count is as it was -/
def eqS (n : Nat) (u v : HS) : Prop := ∀ s, s < n → (∀ r, r = 3 ∨ (37 ≤ r ∧ r ≤ 43) → gI v r s = gI u r s) ∧ (gR v (3 + s) = gR u (3 + s) ∧ gR v (10 + s) = gR u (10 + s)) ∧ gI v 66 0 s = gI u 66 0 s ∧ gI v 67 0 s = gI u 67 0 s ∧ (∀ k, k < 24 → gI v 65 (24 * s + k) = gI u 65 (24 * s + k)) ∧ ∀ t, t < 8 → gI v 69 (8 * s + t) = gI u 69 (8 * s + t)
def eqK (n : Nat) (u v : HS) : Prop := ∀ t, t < n → gI v 6 t = gI u 6 t ∧ gI v 71 t = gI u 71 t
def eqL (n : Nat) (u v : HS) : Prop := ∀ q, q < n → (∀ r, r = 1 ∨ (32 ≤ r ∧ r ≤ 36) → gI v r q = gI u r q) ∧ gI v 73 q = gI u 73 q ∧ gI v 76 0 q = gI u 76 0 q ∧ ∀ k, k < 16 → gI v 75 (16 * q + k) = gI u 75 (16 * q + k)
theorem eqS.c {n s : Nat} {u v : HS} {c : SV} (h : eqS n u v) (hs : s < n) (h1 : RS u s c) (h2 : SO u s c) : RS v s c ∧ SO v s c := by
  obtain ⟨a, ⟨b1, b2⟩, c1, c2, d1, d2⟩ := h s hs
  refine ⟨?_, ?_⟩
  · obtain ⟨e1, e2, e3, e4, e5, e6, e7⟩ := h1
    exact ⟨e1, e2, e3, by rw [c1]; exact e4, by rw [c2]; exact e5, fun k j hk => by rw [d1 k hk]; exact e6 k j hk, fun t j ht => by rw [d2 t ht]; exact e7 t j ht⟩
  · unfold SO
    rw [a 3 (by omega), a 38 (by omega), a 40 (by omega), a 41 (by omega), a 42 (by omega), a 43 (by omega), b1, b2]
    exact h2
theorem eqL.c {n q : Nat} {u v : HS} {w : LT} (h : eqL n u v) (hq : q < n) (h1 : LR u q w) (h2 : LC u q w) : LR v q w ∧ LC v q w := by
  obtain ⟨a, b, c, d⟩ := h q hq
  refine ⟨?_, ?_⟩
  · obtain ⟨e1, e2, e3, e4, e5⟩ := h1
    exact ⟨e1, e2, by rw [c]; exact e3, fun k j hk hj => by rw [d k (by omega)]; exact e4 k j hk hj, fun p hp => by rw [b]; exact e5 p hp⟩
  · unfold LC
    rw [a 1 (by omega), a 32 (by omega), a 33 (by omega), a 34 (by omega), a 35 (by omega), a 36 (by omega)]
    exact h2
/-- what all texts leave: the tape is empty, the place of the fault is told -/
def TQ (u v : HS) : Prop := (∀ r, r = 0 ∨ (20 ≤ r ∧ r ≤ 31) ∨ r = 45 ∨ r = 54 ∨ r = 60 ∨ r = 77 ∨ r = 81 ∨ r = 83 ∨ r = 85 ∨ r = 87 → gI v r = gI u r) ∧ (∀ k, k = 28 ∨ k = 29 ∨ k = 30 ∨ k = 31 ∨ k = 32 ∨ k = 38 ∨ k = 39 ∨ k = 40 → gI v 9 0 k = gI u 9 0 k) ∧ gI v 5 0 1 = 0 ∧ gI v 9 0 1 = 0 ∧ gI v 5 0 6 = gI v 9 0 3
theorem TQ.ta {p : IP} {u v : HS} (h : IVc p u) (hq : TQ u v) : ITa v := by
  obtain ⟨e, -, h1, h2, h3⟩ := hq
  obtain ⟨-, -, -, -, hb, -⟩ := h.2.1
  exact ITa.un h1 h2 (by rw [e 45 (by omega), e 60 (by omega)]; exact hb) h3
theorem TQ.same {p : IP} {u v : HS} (h : IVc p u) (hs : IVs p u) (hq : TQ u v) (e8 : gI v 8 = gI u 8) (f : ∀ k, k = 14 ∨ k = 15 ∨ k = 16 → gI v 9 0 k = gI u 9 0 k) (hS : eqS (pNs p) u v) (hK : eqK (pNt p) u v) (hL : eqL (pNl p) u v) : IV v := by
  refine IV.sameT h hs ?_ (hq.ta h) (fun s hs' => hS.c hs' (h.2.2.1 s hs').1 (h.2.2.1 s hs').2) (fun t ht => ?_) (fun q hq' => ?_) (fun r hr => hq.1 r (by omega)) (fun k hk => hq.2.1 k (by omega))
  · unfold ICn
    rw [e8, f 14 (by omega), f 15 (by omega), f 16 (by omega), hq.2.1 32 (by omega)]
    exact h.1
  · obtain ⟨a, b⟩ := hK t ht
    rw [a, b]
    exact h.2.2.2.1 t ht
  · obtain ⟨a, b⟩ := hL.c hq' (h.2.2.2.2.1 q hq').1 (h.2.2.2.2.1 q hq').2.1
    exact ⟨a, b, (h.2.2.2.2.1 q hq').2.2⟩
