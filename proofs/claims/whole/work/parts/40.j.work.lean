/-! ===== laws: code that is worked with a stack ===== -/
abbrev LV : Type := Nat × (Nat → Nat → Int32) × (Nat → Int32)
def lwN (w : LV) : Nat := w.1
def lwC (w : LV) (k j : Nat) : Int32 := w.2.1 k j
def lwK (w : LV) (p : Nat) : Int32 := w.2.2 p
/-- what a number or a name puts on the stack -/
def puS (nm : Nat → Int32) (c : Int32) : Int32 := if c < 10000 then c else nm (c - 10000).toNatClampNeg
/-- what joins two values -/
def wkS (c a b : Int32) : Int32 :=
  if c = 10020 then a + b else if c = 10021 then a - b else if c = 10022 then a * b else if c = 10023 then (if b = 0 then 0 else a / b)
  else if c = 10024 then (if b ≤ a then b else a) else if c = 10025 then (if a ≤ b then b else a) else if c = 10030 then (if b ≤ a then 0 else 1)
  else if c = 10031 then (if a ≤ b then 0 else 1) else if c = 10032 then (if a = b then 1 else 0) else if c = 10034 then a &&& b else a ||| b
def stS (nm : Nat → Int32) (c : Int32) (s : Nat × (Nat → Int32)) : Nat × (Nat → Int32) :=
  if c < 10020 then (s.1 + 1, upd s.2 s.1 (puS nm c)) else if c = 10033 then (s.1, upd s.2 (s.1 - 1) (1 - s.2 (s.1 - 1)))
  else (s.1 - 1, upd s.2 (s.1 - 2) (wkS c (s.2 (s.1 - 2)) (s.2 (s.1 - 1))))
def ruS (code : Nat → Int32) (nm : Nat → Int32) : Nat → Nat → Nat × (Nat → Int32) → Nat × (Nat → Int32)
  | 0, _, s => s
  | d + 1, k, s => ruS code nm d (k + 1) (stS nm (code k) s)
/-- kinds of values on the stack, the top first: true is 0 or 1 -/
def tyS (c : Int32) (st : List Bool) : Option (List Bool) :=
  if 0 ≤ c ∧ c < 10011 then (if st.length < 60 then some (false :: st) else none)
  else if c = 10033 then (match st with | true :: r => some (true :: r) | _ => none)
  else if 10020 ≤ c ∧ c ≤ 10025 then (match st with | _ :: _ :: r => some (false :: r) | _ => none)
  else if 10030 ≤ c ∧ c ≤ 10032 then (match st with | _ :: _ :: r => some (true :: r) | _ => none)
  else if c = 10034 ∨ c = 10035 then (match st with | true :: true :: r => some (true :: r) | _ => none)
  else none
def tyR (code : Nat → Int32) : Nat → Nat → List Bool → Option (List Bool)
  | 0, _, st => some st
  | d + 1, k, st => (tyS (code k) st).bind (tyR code d (k + 1))
/-- the code as the class has it -/
def enc (c : Int32) : Int32 := if c < 10000 then c else if c < 10020 then 9999 - c else if c ≤ 10025 then 10000 - c else if c ≤ 10032 then 10004 - c else if c = 10033 then -31 else if c = 10034 then -29 else -30
theorem tyS_cases {c : Int32} {st st' : List Bool} (h : tyS c st = some st') :
    (∃ n, (n < 10000 ∨ (10000 ≤ n ∧ n < 10011)) ∧ c = nI n ∧ st.length < 60 ∧ st' = false :: st) ∨ (∃ r, c = 10033 ∧ st = true :: r ∧ st' = true :: r) ∨
    (∃ a b r x, (c = 10020 ∨ c = 10021 ∨ c = 10022 ∨ c = 10023 ∨ c = 10024 ∨ c = 10025 ∨ c = 10030 ∨ c = 10031 ∨ c = 10032 ∨ c = 10034 ∨ c = 10035) ∧ st = a :: b :: r ∧ st' = x :: r ∧ (x = true → (c = 10030 ∨ c = 10031 ∨ c = 10032) ∨ ((c = 10034 ∨ c = 10035) ∧ a = true ∧ b = true))) := by
  unfold tyS at h
  by_cases h1 : 0 ≤ c ∧ c < 10011
  · rw [if_pos h1] at h
    by_cases h2 : st.length < 60
    · rw [if_pos h2] at h
      obtain ⟨n, hn, e⟩ := nI_of (x := c) (Int32.not_lt.mpr h1.1)
      have h3 : n < 10011 := (nI_ltI (by omega) (by decide)).mp (show nI n < nI 10011 by rw [← e]; exact h1.2)
      exact Or.inl ⟨n, by omega, e, h2, (Option.some.inj h).symm⟩
    · rw [if_neg h2] at h; cases h
  · rw [if_neg h1] at h
    by_cases h2 : c = 10033
    · rw [if_pos h2] at h
      match st, h with
      | true :: r, h => exact Or.inr (Or.inl ⟨r, h2, rfl, (Option.some.inj h).symm⟩)
    · rw [if_neg h2] at h
      by_cases h3 : 10020 ≤ c ∧ c ≤ 10025
      · rw [if_pos h3] at h
        match st, h with
        | a :: b :: r, h =>
          refine Or.inr (Or.inr ⟨a, b, r, false, ?_, rfl, (Option.some.inj h).symm, fun q => by cases q⟩)
          obtain ⟨n, hn, e⟩ := nI_of (x := c) (Int32.not_lt.mpr (Int32.le_trans (by decide) h3.1))
          have h4 : 10020 ≤ n := (nI_leI (by decide) (by omega)).mp (show nI 10020 ≤ nI n by rw [← e]; exact h3.1)
          have h5 : n ≤ 10025 := (nI_leI (by omega) (by decide)).mp (show nI n ≤ nI 10025 by rw [← e]; exact h3.2)
          have : n = 10020 ∨ n = 10021 ∨ n = 10022 ∨ n = 10023 ∨ n = 10024 ∨ n = 10025 := by omega
          rcases this with q | q | q | q | q | q <;> rw [e, q] <;> simp [nI]
      · rw [if_neg h3] at h
        by_cases h4 : 10030 ≤ c ∧ c ≤ 10032
        · rw [if_pos h4] at h
          match st, h with
          | a :: b :: r, h =>
            obtain ⟨n, hn, e⟩ := nI_of (x := c) (Int32.not_lt.mpr (Int32.le_trans (by decide) h4.1))
            have h4' : 10030 ≤ n := (nI_leI (by decide) (by omega)).mp (show nI 10030 ≤ nI n by rw [← e]; exact h4.1)
            have h5 : n ≤ 10032 := (nI_leI (by omega) (by decide)).mp (show nI n ≤ nI 10032 by rw [← e]; exact h4.2)
            have : n = 10030 ∨ n = 10031 ∨ n = 10032 := by omega
            have hc : c = 10030 ∨ c = 10031 ∨ c = 10032 := by rcases this with q | q | q <;> rw [e, q] <;> simp [nI]
            exact Or.inr (Or.inr ⟨a, b, r, true, by rcases hc with q | q | q <;> simp [q], rfl, (Option.some.inj h).symm, fun _ => Or.inl hc⟩)
        · rw [if_neg h4] at h
          by_cases h5 : c = 10034 ∨ c = 10035
          · rw [if_pos h5] at h
            match st, h with
            | true :: true :: r, h => exact Or.inr (Or.inr ⟨true, true, r, true, by rcases h5 with q | q <;> simp [q], rfl, (Option.some.inj h).symm, fun _ => Or.inr ⟨h5, rfl, rfl⟩⟩)
          · rw [if_neg h5] at h; cases h
theorem rWorked (c a b : Int32) : mX9_worked c a b = some (wkS c a b) := by
  unfold mX9_worked wkS
  by_cases h0 : c = 10020
  · simp [h0]
  by_cases h1 : c = 10021
  · simp [h1]
  by_cases h2 : c = 10022
  · simp [h2]
  by_cases h3 : c = 10023
  · subst h3
    by_cases hb : b = 0
    · simp [hb]
    · simp [hb, nz_ok hb]
  by_cases h4 : c = 10024
  · subst h4; by_cases q : b ≤ a <;> simp [q]
  by_cases h5 : c = 10025
  · subst h5; by_cases q : a ≤ b <;> simp [q]
  by_cases h6 : c = 10030
  · subst h6; by_cases q : b ≤ a <;> simp [q]
  by_cases h7 : c = 10031
  · subst h7; by_cases q : a ≤ b <;> simp [q]
  by_cases h8 : c = 10032
  · subst h8; by_cases q : a = b <;> simp [q]
  by_cases h9 : c = 10034
  · subst h9; simp
  simp only [h0, h1, h2, h3, h4, h5, h6, h7, h8, h9, if_false, ite_self]
theorem cJoined {c a b : Int32} (hc : c = 10020 ∨ c = 10021 ∨ c = 10022 ∨ c = 10023 ∨ c = 10024 ∨ c = 10025 ∨ c = 10030 ∨ c = 10031 ∨ c = 10032 ∨ c = 10034 ∨ c = 10035) : mX4_joined (enc c) a b = some (wkS c a b) := by
  rcases hc with h | h | h | h | h | h | h | h | h | h | h <;> subst h
  · rfl
  · rfl
  · rfl
  · by_cases hb : b = 0
    · subst hb; rfl
    · simp [mX4_joined, wkS, enc, hb, nz_ok hb]
  · simp only [mX4_joined, wkS, enc]; by_cases q : b ≤ a <;> simp [q]
  · simp only [mX4_joined, wkS, enc]; by_cases q : a ≤ b <;> simp [q]
  · simp only [mX4_joined, wkS, enc]; by_cases q : b ≤ a <;> simp [q]
  · simp only [mX4_joined, wkS, enc]; by_cases q : a ≤ b <;> simp [q]
  · simp only [mX4_joined, wkS, enc]; by_cases q : a = b <;> simp [q]
  · rfl
  · rfl
theorem enc_op {c : Int32} (hc : c = 10020 ∨ c = 10021 ∨ c = 10022 ∨ c = 10023 ∨ c = 10024 ∨ c = 10025 ∨ c = 10030 ∨ c = 10031 ∨ c = 10032 ∨ c = 10034 ∨ c = 10035) : enc c < -11 ∧ enc c ≠ -31 ∧ 10020 ≤ c ∧ c ≠ 10033 ∧ ¬ c < 10020 := by
  rcases hc with h | h | h | h | h | h | h | h | h | h | h <;> subst h <;> decide
/-- the reference's stack holds what it should -/
theorem rWorkL {u : HS} {l b : Nat} {code nm : Nat → Int32} (w : HS → Option (Int32 × HS)) (hl : l < 4) (hb : b ≤ 400) (hnm : ∀ j, j < 11 → gI u 79 0 j = nm j) :
    ∀ (d k : Nat) (st st' : List Bool) (s : Nat × (Nat → Int32)) (a : HS) (fu : Nat), (∀ p, p < d → gI u 73 l (k + p) = code (k + p)) → k + d = b → d < fu → tyR code d k st = some st' → st.length ≤ 60 → s.1 = st.length → Fr [78] [] u a → (∀ j, j < s.1 → gI a 78 0 j = s.2 j) →
      ∃ a', mX9_work_L6 (nI b) (nI l) w fu (nI st.length) (nI k) a = w a' ∧ Fr [78] [] u a' ∧ (ruS code nm d k s).1 = st'.length ∧ ∀ j, j < st'.length → gI a' 78 0 j = (ruS code nm d k s).2 j := by
  intro d
  induction d with
  | zero =>
    intro k st st' s a fu hcode hk hf ht hsl hs hF hm
    obtain ⟨z, rfl⟩ : ∃ z, fu = z + 1 := ⟨fu - 1, by omega⟩
    have e : k = b := by omega
    subst e
    have e2 : st = st' := Option.some.inj ht
    subst e2
    rw [mX9_work_L6.eq_2, if_pos (nI_le (Nat.le_refl _) (by omega))]
    exact ⟨a, rfl, hF, hs, fun j hj => hm j (by omega)⟩
  | succ d ih =>
    intro k st st' s a fu hcode hk hf ht hsl hs hF hm
    obtain ⟨z, rfl⟩ : ∃ z, fu = z + 1 := ⟨fu - 1, by omega⟩
    unfold tyR at ht
    obtain ⟨st1, ht1, ht2⟩ := ob ht
    have hc0 : gI a 73 l k = code k := by rw [hF.m1 (by decide) (by decide)]; exact hcode 0 (by omega)
    rw [mX9_work_L6.eq_2, if_neg (nI_ge (show k < b by omega) (by omega)), ck_nI hl (by decide)]
    simp only [ob_q]
    rw [ck_nI (show k < 500 by omega) (by decide)]
    simp only [ob_q, bd_q, jp_q, hc0, nI_1]
    have hnma : ∀ j, j < 11 → gI a 79 0 j = nm j := fun j hj => by rw [hF.m1 (by decide) (by decide)]; exact hnm j hj
    unfold ruS
    rcases tyS_cases ht1 with ⟨n, hn, ec, hlen, e1⟩ | ⟨r, ec, e0, e1⟩ | ⟨x, y, r, q, hc, e0, e1, -⟩
    · rw [ec]
      rw [if_neg (show ¬ (10020 : Int32) ≤ nI n from nI_ge (b := 10020) (by omega) (by decide))]
      have hpu : (if (10000 : Int32) ≤ nI n then (ck 11 (nI n - 10000)).bind fun k133 => some (gI a 79 0 k133) else some (nI n) : Option Int32) = some (puS nm (nI n)) := by
        unfold puS
        rcases hn with h | ⟨h, h'⟩
        · rw [if_neg (show ¬ (10000 : Int32) ≤ nI n from nI_ge (b := 10000) h (by decide)), if_pos (show nI n < (10000 : Int32) from nI_lt (b := 10000) h (by decide))]
        · rw [if_pos (show (10000 : Int32) ≤ nI n from nI_le (a := 10000) h (by omega)), if_neg (show ¬ nI n < (10000 : Int32) from nI_nlt (b := 10000) h (by omega)), show nI n - 10000 = nI (n - 10000) from pk_sub (b := 10000) h, ck_nI (show n - 10000 < 11 by omega) (by decide), nI_clamp (by omega)]
          simp only [ob_q, hnma (n - 10000) (by omega)]
      rw [hpu]
      simp only [ob_q]
      rw [ck_nI (show st.length < 150 by omega) (by decide)]
      simp only [ob_q]
      have hst : stS nm (nI n) s = (s.1 + 1, upd s.2 s.1 (puS nm (nI n))) := by
        unfold stS; rw [if_pos (show nI n < (10020 : Int32) from nI_lt (b := 10020) (by omega) (by decide))]
      rw [hst]
      subst e1
      refine ih (k + 1) (false :: st) st' _ _ z (fun p hp => by rw [show k + 1 + p = k + (p + 1) by omega]; exact hcode (p + 1) (by omega)) (by omega) (by omega) ht2 (by simp; omega) (by simp [hs]) (hF.sI (by decide) (by decide)) ?_
      intro j hj
      show gI (wI a 78 0 st.length _) 78 0 j = upd s.2 s.1 _ j
      rw [gI_wI, ← hs]
      by_cases c : j = s.1
      · rw [if_pos ⟨rfl, rfl, c⟩, c, pk_us]
      · rw [if_neg (fun q => c q.2.2), pk_un c]
        exact hm j (by simp only at hj; omega)
    · rw [ec]
      have h1 : 1 ≤ st.length := by rw [e0]; simp
      rw [if_pos (by decide), if_pos rfl, nI_s1 h1, ck_nI (show st.length - 1 < 150 by omega) (by decide)]
      simp only [ob_q]
      have hst : stS nm 10033 s = (s.1, upd s.2 (s.1 - 1) (1 - s.2 (s.1 - 1))) := rfl
      rw [hst]
      have hl1 : st1.length = st.length := by rw [e1, e0]
      rw [← hl1]
      refine ih (k + 1) st1 st' _ _ z (fun p hp => by rw [show k + 1 + p = k + (p + 1) by omega]; exact hcode (p + 1) (by omega)) (by omega) (by omega) ht2 (by omega) (by rw [hl1]; exact hs) (hF.sI (by decide) (by decide)) ?_
      intro j hj
      show gI (wI a 78 0 (st1.length - 1) _) 78 0 j = upd s.2 (s.1 - 1) _ j
      rw [gI_wI, hl1, ← hs]
      by_cases c : j = s.1 - 1
      · rw [if_pos ⟨rfl, rfl, c⟩, c, pk_us, hm _ (by omega)]
      · rw [if_neg (fun q => c q.2.2), pk_un c]
        exact hm j (by simp only at hj; omega)
    · obtain ⟨-, -, h3, h4, h5⟩ := enc_op hc
      have h1 : st.length = r.length + 2 := by rw [e0]; rfl
      rw [if_pos h3, if_neg h4, show nI st.length + (-1) = nI (r.length + 1) by rw [h1]; exact pk_m1 _, nI_s1 (by omega), ck_nI (show r.length + 1 - 1 < 150 by omega) (by decide), ck_nI (show r.length + 1 < 150 by omega) (by decide)]
      simp only [ob_q, rWorked, Nat.add_sub_cancel]
      have hst : stS nm (code k) s = (s.1 - 1, upd s.2 (s.1 - 2) (wkS (code k) (s.2 (s.1 - 2)) (s.2 (s.1 - 1)))) := by
        unfold stS; rw [if_neg h5, if_neg h4]
      rw [hst]
      have hl1 : st1.length = r.length + 1 := by rw [e1]; rfl
      rw [← hl1]
      refine ih (k + 1) st1 st' _ _ z (fun p hp => by rw [show k + 1 + p = k + (p + 1) by omega]; exact hcode (p + 1) (by omega)) (by omega) (by omega) ht2 (by omega) (by show s.1 - 1 = _; omega) (hF.sI (by decide) (by decide)) ?_
      intro j hj
      show gI (wI a 78 0 r.length _) 78 0 j = upd s.2 (s.1 - 2) _ j
      rw [gI_wI, show s.1 - 2 = r.length by omega, hl1]
      by_cases c : j = r.length
      · rw [if_pos ⟨rfl, rfl, c⟩, c, pk_us, hm _ (by omega), hm _ (by omega), show s.1 - 1 = r.length + 1 by omega]
      · rw [if_neg (fun q => c q.2.2), pk_un c]
        exact hm j (by simp only at hj; omega)
/-- the value of some code -/
def evS (code nm : Nat → Int32) (a b : Nat) : Int32 := (ruS code nm (b - a) a (0, fun _ => 0)).2 0
theorem rWork {u : HS} {l a b : Nat} {code nm : Nat → Int32} {x : Bool} (hl : l < 4) (hab : a ≤ b) (hb : b ≤ 400) (hnm : ∀ j, j < 11 → gI u 79 0 j = nm j) (hcode : ∀ p, a ≤ p → p < b → gI u 73 l p = code p) (ht : tyR code (b - a) a [] = some [x]) : ∃ u', mX9_work u (nI l) (nI a) (nI b) = some (evS code nm a b, u') ∧ Fr [78] [] u u' := by
  unfold mX9_work
  simp only [jp_q]
  obtain ⟨u', e1, hF, h1, h2⟩ := rWorkL (u := u) (l := l) (b := b) (code := code) (nm := nm) (fun u104 => (ck 150 0).bind fun k106 => some (gI u104 78 0 k106, u104)) hl hb hnm (b - a) a [] [x] (0, fun _ => 0) u FU (fun p hp => hcode (a + p) (by omega) (by omega)) (by omega) (FU_lt (by omega)) ht (by simp) rfl Fr.rf (fun j hj => absurd hj (by simp))
  rw [show mX9_work_L6 (nI b) (nI l) (fun u104 => (ck 150 0).bind fun k106 => some (gI u104 78 0 k106, u104)) FU 0 (nI a) u = _ from e1]
  rw [show ck 150 0 = some 0 by decide]
  simp only [ob_q]
  refine ⟨u', ?_, hF⟩
  rw [h2 0 (by simp)]
  rfl
/-- values that must be 0 or 1 are -/
def BO (st : List Bool) (s : Nat × (Nat → Int32)) : Prop := ∀ j, st[j]? = some true → s.2 (s.1 - 1 - j) = 0 ∨ s.2 (s.1 - 1 - j) = 1
theorem bo_step {nm : Nat → Int32} {c : Int32} {st st' : List Bool} {s : Nat × (Nat → Int32)} (h : tyS c st = some st') (hs : s.1 = st.length) (hb : BO st s) : BO st' (stS nm c s) ∧ (stS nm c s).1 = st'.length := by
  rcases tyS_cases h with ⟨n, hn, ec, hlen, e1⟩ | ⟨r, ec, e0, e1⟩ | ⟨x, y, r, q, hc, e0, e1, hq⟩
  · have hst : stS nm c s = (s.1 + 1, upd s.2 s.1 (puS nm c)) := by
      unfold stS; rw [ec, if_pos (show nI n < (10020 : Int32) from nI_lt (b := 10020) (by omega) (by decide))]
    rw [hst, e1]
    refine ⟨fun j hj => ?_, by simp [hs]⟩
    match j, hj with
    | 0, hj => simp at hj
    | j + 1, hj =>
      rw [List.getElem?_cons_succ] at hj
      have hjl := (List.getElem?_eq_some_iff.mp hj).1
      show upd s.2 s.1 _ (s.1 + 1 - 1 - (j + 1)) = 0 ∨ upd s.2 s.1 _ (s.1 + 1 - 1 - (j + 1)) = 1
      rw [pk_un (by omega), show s.1 + 1 - 1 - (j + 1) = s.1 - 1 - j by omega]
      exact hb j hj
  · subst ec
    have hst : stS nm 10033 s = (s.1, upd s.2 (s.1 - 1) (1 - s.2 (s.1 - 1))) := rfl
    rw [hst]
    refine ⟨fun j hj => ?_, by show s.1 = _; rw [hs, e0, e1]⟩
    show upd s.2 (s.1 - 1) _ (s.1 - 1 - j) = 0 ∨ upd s.2 (s.1 - 1) _ (s.1 - 1 - j) = 1
    match j, hj with
    | 0, hj =>
      rw [Nat.sub_zero, pk_us]
      rcases hb 0 (by rw [e0]; rfl) with q | q <;> rw [Nat.sub_zero] at q <;> rw [q]
      · exact Or.inr rfl
      · exact Or.inl rfl
    | j + 1, hj =>
      rw [e1, ← e0] at hj
      have hjl := (List.getElem?_eq_some_iff.mp hj).1
      rw [pk_un (by omega)]
      exact hb (j + 1) hj
  · obtain ⟨-, -, h3, h4, h5⟩ := enc_op hc
    have hst : stS nm c s = (s.1 - 1, upd s.2 (s.1 - 2) (wkS c (s.2 (s.1 - 2)) (s.2 (s.1 - 1)))) := by
      unfold stS; rw [if_neg h5, if_neg h4]
    have hl : s.1 = r.length + 2 := by rw [hs, e0]; rfl
    rw [hst]
    refine ⟨fun j hj => ?_, by show s.1 - 1 = _; rw [e1, List.length_cons]; omega⟩
    show upd s.2 (s.1 - 2) _ (s.1 - 1 - 1 - j) = 0 ∨ upd s.2 (s.1 - 2) _ (s.1 - 1 - 1 - j) = 1
    match j, hj with
    | 0, hj =>
      rw [e1] at hj
      have hx : q = true := by simpa using hj
      rw [show s.1 - 1 - 1 - 0 = s.1 - 2 by omega, pk_us]
      rcases hq hx with (q1 | q1 | q1) | ⟨q1, q2, q3⟩
      · rw [q1]; unfold wkS; simp only [show ((10030 : Int32) = 10020) = False by decide, show ((10030 : Int32) = 10021) = False by decide, show ((10030 : Int32) = 10022) = False by decide, show ((10030 : Int32) = 10023) = False by decide, show ((10030 : Int32) = 10024) = False by decide, show ((10030 : Int32) = 10025) = False by decide, if_false, if_true]; split <;> simp
      · rw [q1]; unfold wkS; simp only [show ((10031 : Int32) = 10020) = False by decide, show ((10031 : Int32) = 10021) = False by decide, show ((10031 : Int32) = 10022) = False by decide, show ((10031 : Int32) = 10023) = False by decide, show ((10031 : Int32) = 10024) = False by decide, show ((10031 : Int32) = 10025) = False by decide, show ((10031 : Int32) = 10030) = False by decide, if_false, if_true]; split <;> simp
      · rw [q1]; unfold wkS; simp only [show ((10032 : Int32) = 10020) = False by decide, show ((10032 : Int32) = 10021) = False by decide, show ((10032 : Int32) = 10022) = False by decide, show ((10032 : Int32) = 10023) = False by decide, show ((10032 : Int32) = 10024) = False by decide, show ((10032 : Int32) = 10025) = False by decide, show ((10032 : Int32) = 10030) = False by decide, show ((10032 : Int32) = 10031) = False by decide, if_false, if_true]; split <;> simp
      · have v1 := hb 0 (by rw [e0, q2]; rfl)
        have v2 := hb 1 (by rw [e0, q3]; rfl)
        rw [show s.1 - 1 - 0 = s.1 - 1 by omega] at v1
        rw [show s.1 - 1 - 1 = s.1 - 2 by omega] at v2
        rcases q1 with q1 | q1 <;> rcases v1 with v1 | v1 <;> rcases v2 with v2 | v2 <;> rw [q1, v1, v2] <;> decide
    | j + 1, hj =>
      rw [e1, List.getElem?_cons_succ] at hj
      have hjl := (List.getElem?_eq_some_iff.mp hj).1
      rw [pk_un (by omega), show s.1 - 1 - 1 - (j + 1) = s.1 - 1 - (j + 2) by omega]
      refine hb (j + 2) ?_
      rw [e0, List.getElem?_cons_succ, List.getElem?_cons_succ]; exact hj
theorem bo_run {code nm : Nat → Int32} : ∀ (d k : Nat) (st st' : List Bool) (s : Nat × (Nat → Int32)), tyR code d k st = some st' → s.1 = st.length → BO st s → BO st' (ruS code nm d k s) ∧ (ruS code nm d k s).1 = st'.length := by
  intro d
  induction d with
  | zero =>
    intro k st st' s ht hs hb
    have e2 : st = st' := Option.some.inj ht
    subst e2
    exact ⟨hb, hs⟩
  | succ d ih =>
    intro k st st' s ht hs hb
    unfold tyR at ht
    obtain ⟨st1, ht1, ht2⟩ := ob ht
    have h1 := bo_step (nm := nm) ht1 hs hb
    unfold ruS
    exact ih (k + 1) st1 st' _ ht2 h1.2 h1.1
theorem BO.nil {f : Nat → Int32} : BO [] (0, f) := fun j hj => by simp at hj
theorem evS_01 {code nm : Nat → Int32} {a b : Nat} (ht : tyR code (b - a) a [] = some [true]) : evS code nm a b = 0 ∨ evS code nm a b = 1 := by
  have h := bo_run (nm := nm) (b - a) a [] [true] (0, fun _ => 0) ht rfl BO.nil
  have := h.1 0 rfl
  rw [h.2] at this
  exact this
/-- the class's stack does so too -/
theorem cWorkL {u : HS} {i b : Nat} {code nm : Nat → Int32} (w : Int32 → HS → Option (Int32 × HS)) (hb : b ≤ 400) (hnm : ∀ j, j < 11 → gI u 48 0 j = nm j) :
    ∀ (d k : Nat) (st st' : List Bool) (s : Nat × (Nat → Int32)) (a : HS) (fu : Nat), (∀ p, p < d → gI u 32 i (k + p) = enc (code (k + p))) → k + d = b → d < fu → tyR code d k st = some st' → st.length ≤ 60 → s.1 = st.length → BO st s → Fr [44] [] u a → (∀ j, j < s.1 → gI a 44 0 j = s.2 j) →
      ∃ a', mX4_work_L6 (nI b) i w fu (nI st.length) (nI k) a = w (nI st'.length) a' ∧ Fr [44] [] u a' ∧ (ruS code nm d k s).1 = st'.length ∧ ∀ j, j < st'.length → gI a' 44 0 j = (ruS code nm d k s).2 j := by
  intro d
  induction d with
  | zero =>
    intro k st st' s a fu hcode hk hf ht hsl hs hbo hF hm
    obtain ⟨z, rfl⟩ : ∃ z, fu = z + 1 := ⟨fu - 1, by omega⟩
    have e : k = b := by omega
    subst e
    have e2 : st = st' := Option.some.inj ht
    subst e2
    rw [mX4_work_L6.eq_2, if_pos (nI_le (Nat.le_refl _) (by omega))]
    exact ⟨a, rfl, hF, hs, fun j hj => hm j (by omega)⟩
  | succ d ih =>
    intro k st st' s a fu hcode hk hf ht hsl hs hbo hF hm
    obtain ⟨z, rfl⟩ : ∃ z, fu = z + 1 := ⟨fu - 1, by omega⟩
    unfold tyR at ht
    obtain ⟨st1, ht1, ht2⟩ := ob ht
    have hbo1 := (bo_step (nm := nm) ht1 hs hbo).1
    have hc0 : gI a 32 i k = enc (code k) := by rw [hF.m1 (by decide) (by decide)]; exact hcode 0 (by omega)
    rw [mX4_work_L6.eq_2, if_neg (nI_ge (show k < b by omega) (by omega)), ck_nI (show k < 400 by omega) (by decide)]
    simp only [ob_q, bd_q, jp_q, hc0, nI_1]
    have hnma : ∀ j, j < 11 → gI a 48 0 j = nm j := fun j hj => by rw [hF.m1 (by decide) (by decide)]; exact hnm j hj
    unfold ruS
    rcases tyS_cases ht1 with ⟨n, hn, ec, hlen, e1⟩ | ⟨r, ec, e0, e1⟩ | ⟨x, y, r, q, hc, e0, e1, -⟩
    · rw [ec]
      have hen : ¬ enc (nI n) < -11 ∧ (if enc (nI n) < 0 then (ck 11 (-1 - enc (nI n))).bind fun k142 => some (gI a 48 0 k142) else some (enc (nI n)) : Option Int32) = some (puS nm (nI n)) := by
        unfold puS enc
        rcases hn with h | ⟨h, h'⟩
        · rw [if_pos (show nI n < (10000 : Int32) from nI_lt (b := 10000) h (by decide)), if_pos (show nI n < (10000 : Int32) from nI_lt (b := 10000) h (by decide))]
          refine ⟨fun q => ?_, by rw [if_neg (nI_pos (by omega))]⟩
          rw [Int32.lt_iff_toInt_lt, nI_toInt (by omega)] at q
          have : (-11 : Int32).toInt = -11 := rfl
          omega
        · rw [if_neg (show ¬ nI n < (10000 : Int32) from nI_nlt (b := 10000) h (by omega)), if_pos (show nI n < (10020 : Int32) from nI_lt (b := 10020) (by omega) (by decide)), if_neg (show ¬ nI n < (10000 : Int32) from nI_nlt (b := 10000) h (by omega))]
          have et : (9999 - nI n : Int32).toInt = 9999 - (n : Int) := pk_sub_toInt (a := 9999) (by decide) (by omega)
          have e3 : (-1 : Int32) - (9999 - nI n) = nI (n - 10000) := by
            refine nI_toI (by omega) ?_
            have e4 : (-1 : Int32).toInt = -1 := rfl
            rw [Jvm.Kit.i32_sub (by rw [et, e4]; omega) (by rw [et, e4]; omega), et, e4]; omega
          refine ⟨fun q => ?_, ?_⟩
          · rw [Int32.lt_iff_toInt_lt, et] at q
            have : (-11 : Int32).toInt = -11 := rfl
            omega
          · rw [if_pos (by rw [Int32.lt_iff_toInt_lt, et]; show (9999 - (n : Int)) < 0; omega), e3, ck_nI (show n - 10000 < 11 by omega) (by decide), show nI n - 10000 = nI (n - 10000) from pk_sub (b := 10000) h, nI_clamp (by omega)]
            simp only [ob_q, hnma (n - 10000) (by omega)]
      rw [if_neg hen.1, if_neg (show ¬ (64 : Int32) ≤ nI st.length from nI_ge (b := 64) (by omega) (by decide)), hen.2]
      simp only [ob_q]
      rw [ck_nI (show st.length < 64 by omega) (by decide)]
      simp only [ob_q]
      have hst : stS nm (nI n) s = (s.1 + 1, upd s.2 s.1 (puS nm (nI n))) := by
        unfold stS; rw [if_pos (show nI n < (10020 : Int32) from nI_lt (b := 10020) (by omega) (by decide))]
      rw [ec, hst] at hbo1
      rw [hst]
      subst e1
      refine ih (k + 1) (false :: st) st' _ _ z (fun p hp => by rw [show k + 1 + p = k + (p + 1) by omega]; exact hcode (p + 1) (by omega)) (by omega) (by omega) ht2 (by simp; omega) (by simp [hs]) hbo1 (hF.sI (by decide) (by decide)) ?_
      intro j hj
      show gI (wI a 44 0 st.length _) 44 0 j = upd s.2 s.1 _ j
      rw [gI_wI, ← hs]
      by_cases c : j = s.1
      · rw [if_pos ⟨rfl, rfl, c⟩, c, pk_us]
      · rw [if_neg (fun q => c q.2.2), pk_un c]
        exact hm j (by simp only at hj; omega)
    · have h1 : 1 ≤ st.length := by rw [e0]; simp
      have hst : stS nm 10033 s = (s.1, upd s.2 (s.1 - 1) (1 - s.2 (s.1 - 1))) := rfl
      rw [ec, hst] at hbo1
      rw [ec, show enc 10033 = -31 from rfl, if_pos (by decide), if_pos rfl, if_neg (nI_nle (by omega) (by omega)), nI_s1 h1, ck_nI (show st.length - 1 < 64 by omega) (by decide)]
      simp only [ob_q]
      have hv : gI a 44 0 (st.length - 1) = s.2 (s.1 - 1) := by rw [hm _ (by omega), hs]
      have hx : (if gI a 44 0 (st.length - 1) = 0 then some 1 else some 0 : Option Int32) = some (1 - s.2 (s.1 - 1)) := by
        rw [hv]
        rcases hbo 0 (by rw [e0]; rfl) with q | q <;> rw [Nat.sub_zero] at q <;> rw [q] <;> rfl
      rw [hx]
      simp only [ob_q]
      rw [hst]
      have hl1 : st1.length = st.length := by rw [e1, e0]
      rw [← hl1]
      refine ih (k + 1) st1 st' _ _ z (fun p hp => by rw [show k + 1 + p = k + (p + 1) by omega]; exact hcode (p + 1) (by omega)) (by omega) (by omega) ht2 (by omega) (by rw [hl1]; exact hs) hbo1 (hF.sI (by decide) (by decide)) ?_
      intro j hj
      show gI (wI a 44 0 (st1.length - 1) _) 44 0 j = upd s.2 (s.1 - 1) _ j
      rw [gI_wI, hl1, ← hs]
      by_cases c : j = s.1 - 1
      · rw [if_pos ⟨rfl, rfl, c⟩, c, pk_us]
      · rw [if_neg (fun q => c q.2.2), pk_un c]
        exact hm j (by simp only at hj; omega)
    · obtain ⟨g1, g2, h3, h4, h5⟩ := enc_op hc
      have h1 : st.length = r.length + 2 := by rw [e0]; rfl
      have hst : stS nm (code k) s = (s.1 - 1, upd s.2 (s.1 - 2) (wkS (code k) (s.2 (s.1 - 2)) (s.2 (s.1 - 1)))) := by
        unfold stS; rw [if_neg h5, if_neg h4]
      rw [hst] at hbo1
      rw [if_pos g1, if_neg g2, if_neg (show ¬ nI st.length ≤ (1 : Int32) from nI_ge (a := 1) (by omega) (by omega)), show nI st.length + (-1) = nI (r.length + 1) by rw [h1]; exact pk_m1 _, nI_s1 (by omega), ck_nI (show r.length + 1 - 1 < 64 by omega) (by decide), ck_nI (show r.length + 1 < 64 by omega) (by decide)]
      simp only [ob_q, cJoined hc, Nat.add_sub_cancel]
      rw [hst]
      have hl1 : st1.length = r.length + 1 := by rw [e1]; rfl
      rw [← hl1]
      refine ih (k + 1) st1 st' _ _ z (fun p hp => by rw [show k + 1 + p = k + (p + 1) by omega]; exact hcode (p + 1) (by omega)) (by omega) (by omega) ht2 (by omega) (by show s.1 - 1 = _; omega) hbo1 (hF.sI (by decide) (by decide)) ?_
      intro j hj
      show gI (wI a 44 0 r.length _) 44 0 j = upd s.2 (s.1 - 2) _ j
      rw [gI_wI, show s.1 - 2 = r.length by omega, hl1]
      by_cases c : j = r.length
      · rw [if_pos ⟨rfl, rfl, c⟩, c, pk_us, hm _ (by omega), hm _ (by omega), show s.1 - 1 = r.length + 1 by omega]
      · rw [if_neg (fun q => c q.2.2), pk_un c]
        exact hm j (by simp only at hj; omega)
theorem cWork {u : HS} {i a b : Nat} {code nm : Nat → Int32} {x : Bool} (hab : a ≤ b) (hb : b ≤ 400) (hnm : ∀ j, j < 11 → gI u 48 0 j = nm j) (hcode : ∀ p, a ≤ p → p < b → gI u 32 i p = enc (code p)) (ht : tyR code (b - a) a [] = some [x]) : ∃ u', mX4_work u i (nI a) (nI b) = some (evS code nm a b, u') ∧ Fr [44] [] u u' := by
  unfold mX4_work
  simp only [jp_q]
  obtain ⟨u', e1, hF, h1, h2⟩ := cWorkL (u := u) (i := i) (b := b) (code := code) (nm := nm) (fun x104 u105 => if x104 = 0 then some (1, u105) else (ck 64 0).bind fun k108 => some (gI u105 44 0 k108, u105)) hb hnm (b - a) a [] [x] (0, fun _ => 0) u FU (fun p hp => hcode (a + p) (by omega) (by omega)) (by omega) (FU_lt (by omega)) ht (by simp) rfl BO.nil Fr.rf (fun j hj => absurd hj (by simp))
  rw [show mX4_work_L6 (nI b) i (fun x104 u105 => if x104 = 0 then some (1, u105) else (ck 64 0).bind fun k108 => some (gI u105 44 0 k108, u105)) FU 0 (nI a) u = _ from e1]
  rw [if_neg (show ¬ nI [x].length = 0 from nI_ne0 (by simp) (by simp)), show ck 64 0 = some 0 by decide]
  simp only [ob_q]
  refine ⟨u', ?_, hF⟩
  rw [h2 0 (by simp)]
  rfl
theorem cWork0 {u : HS} {i a : Nat} (ha : a < 2 ^ 31) : mX4_work u i (nI a) (nI a) = some (1, u) := by
  unfold mX4_work
  simp only [jp_q]
  rw [show FU = 4095 + 1 from rfl, mX4_work_L6.eq_2, if_pos (nI_le (Nat.le_refl _) ha), if_pos rfl]
