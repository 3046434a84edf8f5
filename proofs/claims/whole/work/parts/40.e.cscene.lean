/-! ===== numbers of places ===== -/
theorem nI_toI {x : Int32} {n : Nat} (hn : n < 2 ^ 31) (h : x.toInt = n) : x = nI n := Int32.toInt_inj.mp (h.trans (nI_toInt hn).symm)
theorem plc_num {X Y s n : Nat} (hs : s ≤ n) (h0 : 0 < n) (hn : n ≤ 300) (hX : X < 100) (hY : Y < 100) : ∃ Z, Z ≤ max X Y ∧ nI X + ((nI Y - nI X) * nI s) / nI n = nI Z := by
  by_cases h : X ≤ Y
  · refine ⟨X + (Y - X) * s / n, ?_, ?_⟩
    · have : (Y - X) * s / n ≤ Y - X := Nat.div_le_of_le_mul (by rw [Nat.mul_comm n]; exact Nat.mul_le_mul_left _ hs)
      omega
    · have hb : (Y - X) * s < 2 ^ 31 := Nat.lt_of_le_of_lt (Nat.mul_le_mul (show Y - X ≤ 100 by omega) (show s ≤ 300 by omega)) (by decide)
      rw [pk_sub h, pk_mul, pk_div hb h0 (by omega), nI_add]
  · have hb : (X - Y) * s ≤ 100 * 300 := Nat.mul_le_mul (show X - Y ≤ 100 by omega) (show s ≤ 300 by omega)
    have hd : (X - Y) * s / n ≤ X - Y := Nat.div_le_of_le_mul (by rw [Nat.mul_comm n]; exact Nat.mul_le_mul_left _ hs)
    obtain ⟨M, hM⟩ : ∃ M, M = (X - Y) * s := ⟨_, rfl⟩
    obtain ⟨D, hD⟩ : ∃ D, D = M / n := ⟨_, rfl⟩
    rw [← hM] at hb hd
    rw [← hD] at hd
    refine ⟨X - D, by omega, ?_⟩
    have e1 : (nI Y - nI X).toInt = -((X - Y : Nat) : Int) := by
      rw [pk_sub_toInt (by omega) (by omega)]; omega
    have e2 : ((nI Y - nI X) * nI s).toInt = -(M : Int) := by
      have e3 : (nI Y - nI X).toInt * (nI s).toInt = -(M : Int) := by
        rw [e1, nI_toInt (by omega), Int.neg_mul, hM, Int.natCast_mul]
      rw [Jvm.Kit.i32_mul (by rw [e3]; omega) (by rw [e3]; omega), e3]
    have e4 : (((nI Y - nI X) * nI s) / nI n).toInt = -(D : Int) := by
      rw [Jvm.Kit.i32_div (by rw [e2]; omega), e2, nI_toInt (by omega), Int.neg_tdiv, hD, Int.ofNat_tdiv]
    refine nI_toI (by omega) ?_
    have e5 : (nI X).toInt = X := nI_toInt (by omega)
    rw [Jvm.Kit.i32_add (by rw [e4, e5]; omega) (by rw [e4, e5]; omega), e4, e5]
    omega
theorem plc_in {c : SV} (hc : SWF c) {t : Int32} {τ : Nat} (hτ : τ < 300) (h : isT c t (nI τ) = true) : ∃ X Y, X < 40 ∧ Y < 30 ∧ plcS c t (nI τ) 0 = nI X ∧ plcS c t (nI τ) 1 = nI Y := by
  unfold isT at h
  obtain ⟨q, hq⟩ := Option.isSome_iff_exists.mp h
  have hk := wayO_lt hq
  have hp := wayO_p hq
  unfold wayP at hp
  simp only [Bool.and_eq_true, decide_eq_true_eq] at hp
  obtain ⟨⟨⟨p1, p2⟩, p3⟩, p4⟩ := hp
  obtain ⟨-, ⟨a, b, hab, hb, e2, e5⟩, ⟨x1, y1, hx1, hy1, e3, e4⟩, ⟨x2, y2, hx2, hy2, e6, e7⟩⟩ := hc.k1 hk p1
  rw [e2] at p3
  rw [e5] at p4
  have h3 := (nI_leI (by omega) (by omega)).mp p3
  have h4 := (nI_leI (by omega) (by omega)).mp p4
  unfold plcS plcO
  rw [hq]
  simp only [Option.elim, Nat.add_zero, e2, e5, e3, e6, show 3 + 1 = 4 from rfl, show 6 + 1 = 7 from rfl, e4, e7]
  by_cases hc2 : nI a = nI b
  · rw [if_pos hc2, if_pos hc2]; exact ⟨x1, y1, hx1, hy1, rfl, rfl⟩
  · rw [if_neg hc2, if_neg hc2, pk_sub h3, pk_sub hab]
    have hne : a ≠ b := fun z => hc2 (by rw [z])
    obtain ⟨X, h5, h6⟩ := plc_num (X := x1) (Y := x2) (s := τ - a) (n := b - a) (by omega) (by omega) (by omega) (by omega) (by omega)
    obtain ⟨Y, h7, h8⟩ := plc_num (X := y1) (Y := y2) (s := τ - a) (n := b - a) (by omega) (by omega) (by omega) (by omega) (by omega)
    exact ⟨X, Y, by omega, by omega, h6, h8⟩
theorem col_in {c : SV} (hc : SWF c) {t : Nat} (ht : t < sT c) (hT : sT c ≤ 8) (τ : Int32) : ∃ z, z < 8 ∧ colS c (nI t) τ = nI z := by
  unfold colS
  cases hq : colO c (nI t) τ with
  | none => obtain ⟨⟨z, h1, h2⟩, -⟩ := hc.2 t ht; exact ⟨z, h1, by simp only [Option.elim]; rw [nI_clamp (by omega), h2]⟩
  | some q =>
    have hk := colO_lt hq
    have hp : (decide (sC c q 0 = 4) && decide (sC c q 1 = nI t)) = true := latP_p (p := fun k => decide (sC c k 0 = 4) && decide (sC c k 1 = nI t)) (fun q h => by cases h) q hq
    simp only [Bool.and_eq_true, decide_eq_true_eq] at hp
    obtain ⟨-, -, z, h1, h2⟩ := hc.k4 hk hp.1
    exact ⟨z, h1, h2⟩
theorem mor_nI {a b : Nat} (ha : a < 2 ^ 31) (hb : b < 2 ^ 31) : mor (nI a) (nI b) = nI (max a b) := by
  unfold mor
  by_cases h : a ≤ b
  · rw [if_pos (nI_le h hb), Nat.max_eq_right h]
  · rw [if_neg (nI_ge (by omega) ha), Nat.max_eq_left (by omega)]
theorem amt_sub {a b : Nat} (ha : a < 1000) (hb : b < 1000) : amt (nI a - nI b) = nI (max a b - min a b) := by
  unfold amt
  by_cases h : b ≤ a
  · rw [pk_sub h, if_pos (nI_pos' (by omega)), Nat.max_eq_left h, Nat.min_eq_right h]
  · have e : (nI a - nI b).toInt = (a : Int) - b := pk_sub_toInt (by omega) (by omega)
    rw [if_neg (fun q => by rw [Jvm.Kit.i32_nonneg, e] at q; omega), Nat.max_eq_right (by omega), Nat.min_eq_left (by omega)]
    refine nI_toI (by omega) ?_
    rw [Jvm.Kit.i32_neg (by rw [e]; omega), e]
    omega
theorem endS_nI {c : SV} (hc : SWF c) : ∃ e, e < 300 ∧ endS c = nI e := by
  have : ∀ (l : List Nat) (a : Int32), (∀ k ∈ l, k < sN c) → (∃ e, e < 300 ∧ a = nI e) → ∃ e, e < 300 ∧ l.foldl (endF c) a = nI e := by
    intro l
    induction l with
    | nil => intro a _ h; exact h
    | cons x l ih =>
      intro a hl ⟨e, he, ha⟩
      refine ih _ (fun k hk => hl k (List.mem_cons_of_mem _ hk)) ?_
      unfold endF
      by_cases h1 : sC c x 0 = 1
      · obtain ⟨-, ⟨a', b, hab, hb, e2, e5⟩, -⟩ := hc.k1 (hl x List.mem_cons_self) h1
        rw [if_pos h1, e5, ha, mor_nI (by omega) (by omega)]
        exact ⟨_, by omega, rfl⟩
      · rw [if_neg h1]; exact ⟨e, he, ha⟩
  exact this _ 0 (fun k hk => List.mem_range.mp hk) ⟨0, by decide, rfl⟩
theorem oddS_nI {c : SV} (hc : SWF c) : oddS c = -1 ∨ ∃ t, t < sT c ∧ oddS c = nI t := by
  have : ∀ (l : List Nat) (a : Int32), (∀ k ∈ l, k < sN c) → (a = -1 ∨ ∃ t, t < sT c ∧ a = nI t) → (l.foldl (oddF c) a = -1 ∨ ∃ t, t < sT c ∧ l.foldl (oddF c) a = nI t) := by
    intro l
    induction l with
    | nil => intro a _ h; exact h
    | cons x l ih =>
      intro a hl ha
      refine ih _ (fun k hk => hl k (List.mem_cons_of_mem _ hk)) ?_
      unfold oddF
      by_cases h1 : sC c x 0 = 3
      · rw [if_pos h1]; exact Or.inr (hc.k3 (hl x List.mem_cons_self) h1)
      · rw [if_neg h1]; exact ha
  exact this _ (-1) (fun k hk => List.mem_range.mp hk) (Or.inl rfl)
theorem trnS_nI {c : SV} (hc : SWF c) : trnS c = -1 ∨ ∃ t, t < sT c ∧ trnS c = nI t := by
  unfold trnS
  cases hq : (List.range (sN c)).find? fun k => decide (sC c k 0 = 4) with
  | none => exact Or.inl rfl
  | some q =>
    have h1 : sC c q 0 = 4 := of_decide_eq_true (List.find?_some (p := fun k => decide (sC c k 0 = 4)) hq)
    exact Or.inr (hc.k4 (List.mem_range.mp (List.mem_of_find?_eq_some hq)) h1).1
/-! ===== a scene as the class has it ===== -/
def klS (c : SV) (x : Int32) : List Nat := (List.range (sN c)).filter fun k => decide (sC c k 0 = x)
def cel (c : SV) (t τ : Nat) : Int32 := if isT c (nI t) (nI τ) then plcS c (nI t) (nI τ) 0 * 100 + plcS c (nI t) (nI τ) 1 else -1
def SO (u : HS) (i : Nat) (c : SV) : Prop :=
  (i < 7 ∧ SWF c ∧ sN c ≤ 24 ∧ sT c ≤ 8) ∧ (gI u 3 i 0 = nI (sT c) ∧ gI u 3 i 3 = nI (klS c 1).length ∧ gI u 3 i 5 = nI (klS c 2).length ∧ gI u 3 i 7 = nI (klS c 4).length ∧ gI u 3 i 9 = oddS c ∧ gI u 3 i 10 = trnS c ∧ gI u 3 i 11 = endS c) ∧ (gR u (3 + i) = 300 * sT c ∧ gR u (10 + i) = 300 * sT c) ∧
  (∀ t, t < sT c → gI u 38 i t = sH c t 1) ∧ (∀ j q, (klS c 2)[j]? = some q → gI u 40 i (3 * j) = sC c q 1 ∧ gI u 40 i (3 * j + 1) = sC c q 2 ∧ gI u 40 i (3 * j + 2) = sC c q 3) ∧
  (∀ j q, (klS c 4)[j]? = some q → gI u 41 i (3 * j) = sC c q 1 ∧ gI u 41 i (3 * j + 1) = sC c q 2) ∧ ∀ t τ, t < sT c → τ < 300 → gI u 42 i (300 * t + τ) = cel c t τ ∧ gI u 43 i (300 * t + τ) = colS c (nI t) (nI τ)
theorem klS_le {c : SV} {x : Int32} : (klS c x).length ≤ sN c := Nat.le_trans (List.length_filter_le _ _) (by rw [List.length_range]; exact Nat.le_refl _)
theorem klS_at {c : SV} {x : Int32} {j q : Nat} (h : (klS c x)[j]? = some q) : q < sN c ∧ sC c q 0 = x := by
  have := List.mem_of_getElem? h
  unfold klS at this
  rw [List.mem_filter] at this
  exact ⟨List.mem_range.mp this.1, of_decide_eq_true this.2⟩
theorem cIsCell {u : HS} {i : Nat} {n t τ : Nat} (h : gI u 3 i 0 = nI n) (ht : t < n) (hn : n ≤ 8) (hτ : τ < 300) : mX3_isCell u i (nI t) (nI τ) = some 1 := by
  unfold mX3_isCell
  rw [if_neg (nI_pos (by omega)), h, if_neg (nI_ge ht (by omega)), if_neg (nI_pos (by omega)), if_neg (show ¬ (300 : Int32) ≤ nI τ from nI_ge (b := 300) hτ (by decide))]
theorem cPl_in {u : HS} {i : Nat} {c : SV} (h : SO u i c) {t τ : Nat} (ht : t < sT c) (hτ : τ < 300) : mX3_placeAt u i (nI t) (nI τ) = some (cel c t τ) := by
  obtain ⟨⟨h1, h2, h3, h4⟩, ⟨a0, -⟩, ⟨r1, r2⟩, -, -, -, h6⟩ := h
  unfold mX3_placeAt
  rw [cIsCell a0 ht h4 hτ]
  simp only [ob_q]
  rw [if_neg (by decide), r1, show (nI t * 300 : Int32) = nI (t * 300) from pk_mul t 300, nI_add, ck_nI (by omega) (by omega)]
  simp only [ob_q]
  rw [Nat.mul_comm t, (h6 t τ ht hτ).1]
theorem cPl_m1 {u : HS} {i : Nat} {y : Int32} : mX3_placeAt u i (-1) y = some (-1) := by
  unfold mX3_placeAt mX3_isCell
  rw [if_pos (by decide)]; rfl
theorem cPl_neg {u : HS} {i : Nat} {x y : Int32} (hy : y < 0) : mX3_placeAt u i x y = some (-1) := by
  unfold mX3_placeAt mX3_isCell
  by_cases h1 : x < 0
  · rw [if_pos h1]; rfl
  · rw [if_neg h1]
    by_cases h2 : gI u 3 i 0 ≤ x
    · rw [if_pos h2]; rfl
    · rw [if_neg h2, if_pos hy]; rfl
theorem cTi_in {u : HS} {i : Nat} {c : SV} (h : SO u i c) {t τ : Nat} (ht : t < sT c) (hτ : τ < 300) : mX3_tintAt u i (nI t) (nI τ) = some (colS c (nI t) (nI τ)) := by
  obtain ⟨⟨h1, h2, h3, h4⟩, ⟨a0, -⟩, ⟨r1, r2⟩, -, -, -, h6⟩ := h
  unfold mX3_tintAt
  rw [cIsCell a0 ht h4 hτ]
  simp only [ob_q]
  rw [if_neg (by decide), r2, show (nI t * 300 : Int32) = nI (t * 300) from pk_mul t 300, nI_add, ck_nI (by omega) (by omega)]
  simp only [ob_q]
  rw [Nat.mul_comm t, (h6 t τ ht hτ).2]
theorem cel_nI {c : SV} (hc : SWF c) {t τ : Nat} (hτ : τ < 300) (h : isT c (nI t) (nI τ) = true) : ∃ X Y, X < 40 ∧ Y < 30 ∧ plcS c (nI t) (nI τ) 0 = nI X ∧ plcS c (nI t) (nI τ) 1 = nI Y ∧ cel c t τ = nI (X * 100 + Y) := by
  obtain ⟨X, Y, hX, hY, e1, e2⟩ := plc_in hc hτ h
  refine ⟨X, Y, hX, hY, e1, e2, ?_⟩
  unfold cel
  rw [if_pos h, e1, e2, show (nI X * 100 : Int32) = nI (X * 100) from pk_mul X 100, nI_add]
theorem cel_m1 {c : SV} (hc : SWF c) {t τ : Nat} (hτ : τ < 300) : (cel c t τ = -1) = (isT c (nI t) (nI τ) = false) := by
  cases h : isT c (nI t) (nI τ) with
  | false => unfold cel; rw [h]; simp
  | true =>
    obtain ⟨X, Y, hX, hY, e1, e2, e3⟩ := cel_nI hc hτ h
    rw [e3]
    simp [nI_m1 (show X * 100 + Y < 2 ^ 31 by omega)]
theorem d100 {X Y : Nat} (hX : X < 1000) (hY : Y < 100) : nI (X * 100 + Y) / 100 = nI X ∧ nI (X * 100 + Y) - nI (X * 100 + Y) / 100 * 100 = nI Y := by
  have e := pk_div (a := X * 100 + Y) (d := 100) (by omega) (by decide) (by decide)
  have e2 := pk_rem (a := X * 100 + Y) (d := 100) (by omega) (by decide) (by decide)
  rw [show (X * 100 + Y) / 100 = X by omega] at e
  rw [show (X * 100 + Y) % 100 = Y by omega] at e2
  exact ⟨e, e2⟩
theorem cFar (x y n : Int32) : mX7_farther x y n = some (mor (amt (x / 100 - y / 100) - n) (amt ((x - x / 100 * 100) - (y - y / 100 * 100)))) := by
  unfold mX7_farther
  simp only [bd_q]
  have e : ∀ z : Int32, (if 0 ≤ z then some z else some (-z) : Option Int32) = some (amt z) := by
    intro z; unfold amt; split <;> rfl
  simp only [e, ob_q]
  unfold mor
  split <;> rfl
theorem sub0 (x : Int32) : x - 0 = x := Int32.sub_zero x
theorem nI_s1 {τ : Nat} (h : 0 < τ) : nI τ - 1 = nI (τ - 1) := by
  obtain ⟨z, rfl⟩ : ∃ z, τ = z + 1 := ⟨τ - 1, by omega⟩
  exact nI_pred z
theorem cPace {u : HS} {i : Nat} {c : SV} (h : SO u i c) {t τ : Nat} (ht : t < sT c) (hτ : τ < 300) : mX3_paceAt u i (nI t) (nI τ) = some (pacS c (nI t) (nI τ)) := by
  have hc := h.1.2.1
  unfold mX3_paceAt pacS
  rw [cPl_in h ht hτ]
  simp only [ob_q]
  by_cases h0 : τ = 0
  · subst h0
    rw [cPl_neg (show nI 0 - 1 < 0 by decide)]
    simp only [ob_q, if_true, show nI 0 = 0 from rfl, true_or]
    split <;> rfl
  · rw [nI_s1 (by omega), cPl_in h ht (show τ - 1 < 300 by omega)]
    simp only [ob_q, cel_m1 hc hτ, cel_m1 hc (show τ - 1 < 300 by omega), show (nI τ = 0) = False from eq_false (nI_ne0 (by omega) (by omega)), false_or]
    cases h1 : isT c (nI t) (nI τ) with
    | false => simp
    | true =>
      cases h2 : isT c (nI t) (nI (τ - 1)) with
      | false => simp
      | true =>
        obtain ⟨X, Y, hX, hY, e1, e2, e3⟩ := cel_nI hc hτ h1
        obtain ⟨X', Y', hX', hY', e1', e2', e3'⟩ := cel_nI hc (show τ - 1 < 300 by omega) h2
        have d1 := d100 (X := X) (Y := Y) (by omega) (by omega)
        have d2 := d100 (X := X') (Y := Y') (by omega) (by omega)
        simp only [Bool.true_eq_false, if_false, or_self, cFar, ob_q, e3, e3', e1, e2, e1', e2', sub0]
        rw [d1.2, d2.2, d1.1, d2.1]
theorem cTurn {u : HS} {i : Nat} {c : SV} (h : SO u i c) (t : Int32) {τ : Nat} (hτ : τ < 300) : mX3_turned u i t (nI τ) = some (bI (chgS c t (nI τ))) := by
  obtain ⟨⟨h1, h2, h3, h4⟩, ⟨-, -, -, a7, -⟩, -, -, -, h5, -⟩ := h
  have hl := klS_le (c := c) (x := 4)
  unfold mX3_turned
  simp only [jp_q]
  have hp : ∀ j, j < (klS c 4).length → ∃ q, (klS c 4)[j]? = some q := fun j hj => ⟨_, List.getElem?_eq_getElem hj⟩
  refine (loopA0 (L := fun fu x => mX3_turned_L2 u i (nI τ) t (some 0) fu x) (no := some 0) (yes := some 1) (fun j => (klS c 4)[j]?.elim false fun k => decide (sC c k 1 = t) && decide (nI τ - 9 ≤ sC c k 2) && decide (sC c k 2 ≤ nI τ)) (n := (klS c 4).length) (o := 0) (FU_lt (by omega)) ?_ ?_).trans ?_
  · intro fu j hj
    show mX3_turned_L2 u i (nI τ) t (some 0) (fu + 1) (nI (0 + j)) = if _ then _ else mX3_turned_L2 u i (nI τ) t (some 0) fu (nI (0 + j + 1))
    obtain ⟨q, hq⟩ := hp j hj
    obtain ⟨e1, e2⟩ := h5 j q hq
    obtain ⟨hk, hk0⟩ := klS_at hq
    obtain ⟨-, ⟨a, ha, e3⟩, -⟩ := h2.k4 hk hk0
    rw [mX3_turned_L2.eq_2, a7, Nat.zero_add, if_neg (nI_ge hj (by omega)), show (nI j * 3 : Int32) = nI (j * 3) from pk_mul j 3, nI_1, nI_1, ck_nI (show j * 3 + 1 < 72 by omega) (by decide), ck_nI (show j * 3 < 72 by omega) (by decide), Nat.mul_comm j 3]
    simp only [ob_q, bd_q, jp_q, e1, e2, hq, Option.elim, e3]
    have c1 : nI τ - nI a < 0 ↔ ¬ nI a ≤ nI τ := by
      rw [nI_leI (by omega) (by omega), Int32.lt_iff_toInt_lt, pk_sub_toInt (by omega) (by omega)]
      show (τ : Int) - a < 0 ↔ _
      omega
    have c2 : 9 < nI τ - nI a ↔ ¬ nI τ - 9 ≤ nI a := by
      rw [Int32.lt_iff_toInt_lt, Int32.le_iff_toInt_le, pk_sub_toInt (by omega) (by omega), show nI τ - 9 = nI τ - nI 9 from rfl, pk_sub_toInt (by omega) (by omega), nI_toInt (by omega)]
      show (9 : Int) < _ ↔ _
      omega
    by_cases q1 : sC c q 1 = t <;> by_cases q2 : nI a ≤ nI τ <;> by_cases q3 : nI τ - 9 ≤ nI a <;> simp [q1, q2, q3, c1, c2]
  · intro fu
    show mX3_turned_L2 u i (nI τ) t (some 0) (fu + 1) (nI (0 + (klS c 4).length)) = _
    rw [mX3_turned_L2.eq_2, a7, Nat.zero_add, if_pos (nI_le (Nat.le_refl _) (by omega))]
  · have e : ((List.range (klS c 4).length).any fun j => (klS c 4)[j]?.elim false fun k => decide (sC c k 1 = t) && decide (nI τ - 9 ≤ sC c k 2) && decide (sC c k 2 ≤ nI τ)) = chgS c t (nI τ) := by
      rw [Bool.eq_iff_iff]
      unfold chgS
      simp only [List.any_eq_true, List.mem_range]
      constructor
      · rintro ⟨j, hj, hh⟩
        obtain ⟨q, hq⟩ := hp j hj
        obtain ⟨hk, hk0⟩ := klS_at hq
        rw [hq] at hh
        simp only [Option.elim] at hh
        exact ⟨q, hk, by simp only [hk0, decide_true, Bool.true_and]; exact hh⟩
      · rintro ⟨k, hk, hh⟩
        have hm : k ∈ klS c 4 := by
          unfold klS
          rw [List.mem_filter]
          refine ⟨List.mem_range.mpr hk, ?_⟩
          simp only [Bool.and_eq_true] at hh
          exact hh.1.1.1
        obtain ⟨j, hj, hjk⟩ := List.mem_iff_getElem.mp hm
        refine ⟨j, hj, ?_⟩
        rw [List.getElem?_eq_getElem hj, hjk]
        simp only [Option.elim]
        simp only [Bool.and_eq_true] at hh ⊢
        exact ⟨⟨hh.1.1.2, hh.1.2⟩, hh.2⟩
    rw [e]
    cases chgS c t (nI τ) <;> rfl
