/-! images: what the class copies -/
theorem cp_r {σ : HS} {r j i r' : Nat} (h : r' ≠ r) : gI (cpA σ r j i) r' = gI σ r' := by funext i' k'; rw [gI_cpA, if_neg (fun q => h q.1)]
theorem cp_i {σ : HS} {r j i r' i' : Nat} (h : i' ≠ i) : gI (cpA σ r j i) r' i' = gI σ r' i' := by funext k'; rw [gI_cpA, if_neg (fun q => h q.2)]
theorem cp_eq {σ : HS} {r j i : Nat} : gI (cpA σ r j i) r i = gI σ r j := by funext k'; rw [gI_cpA, if_pos ⟨rfl, rfl⟩]
theorem wI_i {σ : HS} {r i k r' i' : Nat} {v : Int32} (h : i' ≠ i) : gI (wI σ r i k v) r' i' = gI σ r' i' := by funext k'; rw [gI_wI, if_neg (fun q => h q.2.1)]
theorem gR_cpA' {σ : HS} {r j i : Nat} : gR (cpA σ r j i) = gR σ := nrfl rfl
theorem gR_wI' {σ : HS} {r i k : Nat} {v : Int32} : gR (wI σ r i k v) = gR σ := nrfl rfl
theorem cCopy (u : HS) {a b : Nat} (hab : b ≠ a) : ∃ u', mX0_copyFrom u a b = some u' ∧ (∀ r, r ≠ 0 → (r < 20 ∨ 31 < r) → gI u' r = gI u r) ∧ (∀ r i, i ≠ a → gI u' r i = gI u r i) ∧ (∀ r, 20 ≤ r ∧ r ≤ 31 → gI u' r a = gI u r b) ∧ (gI u' 0 a 0 = gI u 0 b 0 ∧ gI u' 0 a 3 = gI u 0 b 3 ∧ gI u' 0 a 7 = gI u 0 b 7 ∧ gI u' 0 a 11 = gI u 0 b 11 ∧ gI u' 0 a 16 = gI u 0 b 16) ∧ gR u' = gR u := by
  have hw : ∀ (σ : HS) (r k r' : Nat) (v : Int32), gI (wI σ r a k v) r' b = gI σ r' b := fun σ r k r' v => wI_i hab
  have hc : ∀ (σ : HS) (r r' : Nat), gI (cpA σ r b a) r' b = gI σ r' b := fun σ r r' => cp_i hab
  unfold mX0_copyFrom
  simp only [bd_q, hw, hc]
  refine ⟨_, rfl, fun r h0 h2 => ?_, fun r i hi => ?_, fun r hr => ?_, ?_, ?_⟩
  · rw [gI_r h0, cp_r (by omega), cp_r (by omega), cp_r (by omega), cp_r (by omega), gI_r h0, cp_r (by omega), cp_r (by omega), cp_r (by omega), gI_r h0, cp_r (by omega), cp_r (by omega), cp_r (by omega), gI_r h0, cp_r (by omega), cp_r (by omega), gI_r h0]
  · rw [wI_i hi, cp_i hi, cp_i hi, cp_i hi, cp_i hi, wI_i hi, cp_i hi, cp_i hi, cp_i hi, wI_i hi, cp_i hi, cp_i hi, cp_i hi, wI_i hi, cp_i hi, cp_i hi, wI_i hi]
  · have : r = 20 ∨ r = 21 ∨ r = 22 ∨ r = 23 ∨ r = 24 ∨ r = 25 ∨ r = 26 ∨ r = 27 ∨ r = 28 ∨ r = 29 ∨ r = 30 ∨ r = 31 := by omega
    rcases this with rfl | rfl | rfl | rfl | rfl | rfl | rfl | rfl | rfl | rfl | rfl | rfl <;> simp (config := { decide := true }) only [gI_r, cp_r, cp_eq, hw, hc]
  · refine ⟨?_, ?_, ?_, ?_, ?_⟩ <;> simp (config := { decide := true }) only [cp_r, gI_k, gI_eq]
  · simp only [gR_cpA', gR_wI']
/-! images: what the reference moves -/
def posR (r i c : Nat) : Nat := if r = 9 ∧ i = 0 ∧ 28 ≤ c ∧ c ≤ 31 then c - 28 else if r = 77 ∧ i = 0 ∧ c < 4 then 5 + c else if r = 81 ∧ i < 14 ∧ c < 8 then 9 + 8 * i + c else if r = 83 ∧ i < 60 ∧ c < 4 then 121 + 4 * i + c else if r = 85 ∧ i < 40 ∧ c < 3 then 361 + 3 * i + c else 1000
theorem posR_c (r i c : Nat) : (r = 9 ∧ i = 0 ∧ 28 ≤ c ∧ c ≤ 31 ∧ posR r i c = c - 28) ∨ (r = 77 ∧ i = 0 ∧ c < 4 ∧ posR r i c = 5 + c) ∨ (r = 81 ∧ i < 14 ∧ c < 8 ∧ posR r i c = 9 + 8 * i + c) ∨ (r = 83 ∧ i < 60 ∧ c < 4 ∧ posR r i c = 121 + 4 * i + c) ∨ (r = 85 ∧ i < 40 ∧ c < 3 ∧ posR r i c = 361 + 3 * i + c) ∨ posR r i c = 1000 := by
  unfold posR
  by_cases h1 : r = 9 ∧ i = 0 ∧ 28 ≤ c ∧ c ≤ 31
  · rw [if_pos h1]; exact Or.inl ⟨h1.1, h1.2.1, h1.2.2.1, h1.2.2.2, rfl⟩
  · rw [if_neg h1]
    by_cases h2 : r = 77 ∧ i = 0 ∧ c < 4
    · rw [if_pos h2]; exact Or.inr (Or.inl ⟨h2.1, h2.2.1, h2.2.2, rfl⟩)
    · rw [if_neg h2]
      by_cases h3 : r = 81 ∧ i < 14 ∧ c < 8
      · rw [if_pos h3]; exact Or.inr (Or.inr (Or.inl ⟨h3.1, h3.2.1, h3.2.2, rfl⟩))
      · rw [if_neg h3]
        by_cases h4 : r = 83 ∧ i < 60 ∧ c < 4
        · rw [if_pos h4]; exact Or.inr (Or.inr (Or.inr (Or.inl ⟨h4.1, h4.2.1, h4.2.2, rfl⟩)))
        · rw [if_neg h4]
          by_cases h5 : r = 85 ∧ i < 40 ∧ c < 3
          · rw [if_pos h5]; exact Or.inr (Or.inr (Or.inr (Or.inr (Or.inl ⟨h5.1, h5.2.1, h5.2.2, rfl⟩))))
          · rw [if_neg h5]; exact Or.inr (Or.inr (Or.inr (Or.inr (Or.inr rfl))))
theorem posR_inj {r i c r' i' c' : Nat} (h : posR r i c = posR r' i' c') (hl : posR r i c < 1000) : r = r' ∧ i = i' ∧ c = c' := by
  have a := posR_c r i c
  have b := posR_c r' i' c'
  generalize posR r i c = x at *
  generalize posR r' i' c' = y at *
  omega
def NF (r i c : Nat) : Prop := ¬ (r = 9 ∧ i = 0 ∧ c = 37)
/-- the spot stands at sp, all between lo and sp is moved -/
def MI (b : Bool) (k lo : Nat) (u : HS) (sp : Nat) (v : HS) : Prop := gI v 9 0 37 = nI sp ∧ gR v = gR u ∧ if b = true then (∀ r i c, NF r i c → gI v r i c = if lo ≤ posR r i c ∧ posR r i c < sp then gI u 87 k (posR r i c) else gI u r i c) else (∀ r i c, NF r i c → ¬ (r = 87 ∧ i = k) → gI v r i c = gI u r i c) ∧ (∀ r i c, lo ≤ posR r i c → posR r i c < sp → gI v 87 k (posR r i c) = gI u r i c) ∧ (∀ j, j < lo → gI v 87 k j = gI u 87 k j) ∧ (lo ≤ 4 → 4 < sp → gI v 87 k 4 = gI u 9 0 16)
theorem ck3 {k : Nat} (hk : k < 3) : ck 3 (nI k) = some k := ck_nI hk (by decide)
theorem rMove {v : HS} {k sp : Nat} (hk : k < 3) (h37 : gI v 9 0 37 = nI sp) (hs : sp < 520) (x : Int32) (b : Bool) : mX9_moves v (nI k) x (bI b) = some (if b = true then gI v 87 k sp else x, wI (if b = true then v else wI v 87 k sp x) 9 0 37 (nI (sp + 1))) := by
  have e : nI (sp + 1) - 1 = nI sp := by rw [← nI_1, Int32.add_sub_cancel]
  unfold mX9_moves
  cases b with
  | true =>
    rw [if_neg (show ¬ bI true = 0 by decide)]
    simp only [ob_q, bd_q, ck3 hk, h37, nI_1, gI_eq, e, ck_nI hs (show 520 < 2 ^ 31 by decide), gI_r (show (87 : Nat) ≠ 9 by decide), if_true]
  | false =>
    rw [if_pos (show bI false = 0 by decide)]
    simp only [ob_q, bd_q, ck3 hk, h37, ck_nI hs (show 520 < 2 ^ 31 by decide), gI_r (show (9 : Nat) ≠ 87 by decide), nI_1, gI_eq, e, gI_r (show (87 : Nat) ≠ 9 by decide), Bool.false_eq_true, if_false]
/-- one value moves -/
theorem MI.step {b : Bool} {k lo sp r i c : Nat} {u v : HS} (h : MI b k lo u sp v) (hk : k < 3) (hp : posR r i c = sp) (hs : sp < 520) (hlo : lo ≤ sp) : ∃ x v1, mX9_moves v (nI k) (gI v r i c) (bI b) = some (x, v1) ∧ MI b k lo u (sp + 1) (wI v1 r i c x) := by
  obtain ⟨h37, hR, hm⟩ := h
  refine ⟨_, _, rMove hk h37 hs _ b, ?_⟩
  have hne : ¬ (r = 9 ∧ i = 0 ∧ c = 37) := by
    intro q; rw [q.1, q.2.1, q.2.2] at hp
    have : posR 9 0 37 = 1000 := by decide
    omega
  have hr87 : r ≠ 87 := by
    intro q; rw [q] at hp
    have : posR 87 i c = 1000 := by unfold posR; repeat (rw [if_neg (by omega)])
    omega
  refine ⟨?_, hR ▸ ?_, ?_⟩
  · rw [gI_wI, if_neg (fun q => hne ⟨q.1.symm, q.2.1.symm, q.2.2.symm⟩), gI_eq]
  · cases b <;> rfl
  · cases b with
    | true =>
      rw [if_pos rfl] at hm ⊢
      rw [if_pos rfl, if_pos rfl]
      intro r' i' c' hn
      rw [gI_wI]
      by_cases e : r' = r ∧ i' = i ∧ c' = c
      · rw [if_pos e, e.1, e.2.1, e.2.2, hp, if_pos (by omega)]
        have := hm 87 k sp (fun q => by omega)
        rw [if_neg (by rw [show posR 87 k sp = 1000 by unfold posR; repeat (rw [if_neg (by omega)])]; omega)] at this
        exact this
      · rw [if_neg e, gI_wI, if_neg hn, hm r' i' c' hn]
        by_cases d : lo ≤ posR r' i' c' ∧ posR r' i' c' < sp
        · rw [if_pos d, if_pos (by omega)]
        · rw [if_neg d, if_neg]
          intro q
          have : posR r' i' c' = sp := by omega
          exact e (posR_inj (this.trans hp.symm) (by omega))
    | false =>
      rw [if_neg (by decide)] at hm ⊢
      rw [if_neg (by decide), if_neg (by decide)]
      obtain ⟨m1, m2, m3, m4⟩ := hm
      have hv : gI v r i c = gI u r i c := m1 r i c hne (fun q => hr87 q.1)
      refine ⟨fun r' i' c' hn h8 => ?_, fun r' i' c' h1 h2 => ?_, fun j hj => ?_, fun h1 h2 => ?_⟩
      · rw [gI_wI]
        by_cases e : r' = r ∧ i' = i ∧ c' = c
        · rw [if_pos e, e.1, e.2.1, e.2.2, hv]
        · rw [if_neg e, gI_wI, if_neg hn, gI_wI, if_neg (fun q => h8 ⟨q.1, q.2.1⟩)]
          exact m1 r' i' c' hn h8
      · rw [gI_r (Ne.symm hr87), gI_r (by decide)]
        by_cases e : posR r' i' c' = sp
        · obtain ⟨e1, e2, e3⟩ := posR_inj (e.trans hp.symm) (by omega)
          rw [e, gI_eq, hv, e1, e2, e3]
        · rw [gI_k e]; exact m2 r' i' c' h1 (by omega)
      · rw [gI_r (Ne.symm hr87), gI_r (by decide), gI_k (by omega)]; exact m3 j hj
      · have h4 : sp ≠ 4 := by
          intro q
          have := posR_c r i c
          omega
        rw [gI_r (Ne.symm hr87), gI_r (by decide), gI_k (Ne.symm h4)]; exact m4 h1 (by omega)
