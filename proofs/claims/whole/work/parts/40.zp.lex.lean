/-! ===== texts: the bytes and the place ===== -/
def whF (B : Nat → Int32) (P : Int32 → Bool) : Nat → Nat → Nat
  | 0, p => p
  | d + 1, p => if P (B p) = true then whF B P d (p + 1) else p
/-- the first place from p on whose byte fits no longer -/
def wh (B : Nat → Int32) (P : Int32 → Bool) (n p : Nat) : Nat := whF B P (n - p) p
theorem wh_n {B : Nat → Int32} {P : Int32 → Bool} {n : Nat} : wh B P n n = n := by unfold wh; rw [Nat.sub_self]; rfl
theorem wh_y {B : Nat → Int32} {P : Int32 → Bool} {n p : Nat} (hp : p < n) (h : P (B p) = true) : wh B P n p = wh B P n (p + 1) := by
  unfold wh
  rw [show n - p = (n - (p + 1)) + 1 by omega]
  show (if P (B p) = true then _ else _) = _
  rw [if_pos h]
theorem wh_no {B : Nat → Int32} {P : Int32 → Bool} {n p : Nat} (hp : p < n) (h : P (B p) = false) : wh B P n p = p := by
  unfold wh
  rw [show n - p = (n - (p + 1)) + 1 by omega]
  show (if P (B p) = true then _ else _) = _
  rw [if_neg (by rw [h]; decide)]
theorem whF_le {B : Nat → Int32} {P : Int32 → Bool} : ∀ (d p : Nat), p ≤ whF B P d p ∧ whF B P d p ≤ p + d := by
  intro d
  induction d with
  | zero => exact fun p => ⟨Nat.le_refl _, Nat.le_refl _⟩
  | succ d ih =>
    intro p
    show p ≤ (if P (B p) = true then whF B P d (p + 1) else p) ∧ (if P (B p) = true then whF B P d (p + 1) else p) ≤ p + (d + 1)
    by_cases c : P (B p) = true
    · rw [if_pos c]; have := ih (p + 1); omega
    · rw [if_neg c]; omega
theorem wh_le {B : Nat → Int32} {P : Int32 → Bool} {n p : Nat} (hp : p ≤ n) : p ≤ wh B P n p ∧ wh B P n p ≤ n := by
  have := whF_le (B := B) (P := P) (n - p) p
  unfold wh; omega
theorem wh_stop {B : Nat → Int32} {P : Int32 → Bool} {n : Nat} : ∀ (d p : Nat), p + d = n → wh B P n p < n → P (B (wh B P n p)) = false := by
  intro d
  induction d with
  | zero => intro p h1 h2; have : p = n := by omega
            rw [this, wh_n] at h2; omega
  | succ d ih =>
    intro p h1 h2
    cases c : P (B p) with
    | true => rw [wh_y (by omega) c] at h2 ⊢; exact ih (p + 1) (by omega) h2
    | false => rw [wh_no (by omega) c]; exact c
theorem wh_idem {B : Nat → Int32} {P : Int32 → Bool} {n p : Nat} (hp : p ≤ n) : wh B P n (wh B P n p) = wh B P n p := by
  have h := wh_le (B := B) (P := P) hp
  by_cases c : wh B P n p < n
  · exact wh_no c (wh_stop (n - p) p (by omega) c)
  · rw [show wh B P n p = n by omega, wh_n]
def isBl (b : Int32) : Bool := decide (b = 32)
def isDg (b : Int32) : Bool := !decide (b < 48) && !decide (57 < b)
def isAz (b : Int32) : Bool := !decide (b < 97) && !decide (122 < b)
def sk (B : Nat → Int32) (n p : Nat) : Nat := wh B isBl n p
def LexC (B : Nat → Int32) (n p : Nat) (u : HS) : Prop := gI u 5 0 2 = nI n ∧ n ≤ 400 ∧ gI u 5 0 3 = nI p ∧ p ≤ n ∧ ∀ k, k < n → gI u 45 0 k = B k
def LexR (B : Nat → Int32) (n p : Nat) (u : HS) : Prop := gI u 9 0 2 = nI n ∧ n ≤ 400 ∧ gI u 9 0 4 = nI p ∧ p ≤ n ∧ ∀ k, k < n → gI u 60 0 k = B k
/-- the class's tape moves -/
def FC (K : List Nat) (u v : HS) : Prop := (∀ r, r ≠ 5 → gI v r = gI u r) ∧ (∀ k, k ∉ K → gI v 5 0 k = gI u 5 0 k) ∧ gR v = gR u
theorem FC.rf {K : List Nat} {u : HS} : FC K u u := ⟨fun _ _ => rfl, fun _ _ => rfl, rfl⟩
theorem FC.tr {K : List Nat} {u v w : HS} (h : FC K u v) (h2 : FC K v w) : FC K u w := ⟨fun r a => (h2.1 r a).trans (h.1 r a), fun k a => (h2.2.1 k a).trans (h.2.1 k a), h2.2.2.trans h.2.2⟩
theorem FC.mo {K K' : List Nat} {u v : HS} (h : FC K u v) (hK : ∀ k, k ∈ K → k ∈ K') : FC K' u v := ⟨h.1, fun k a => h.2.1 k (fun q => a (hK k q)), h.2.2⟩
theorem FC.w {K : List Nat} {u v : HS} {k : Nat} {x : Int32} (h : FC K u v) (hk : k ∈ K) : FC K u (wI v 5 0 k x) := ⟨fun r a => (gI_r a).trans (h.1 r a), fun k' a => (gI_k (fun q => a (by rw [q]; exact hk))).trans (h.2.1 k' a), h.2.2⟩
theorem LexC.mv {B : Nat → Int32} {n p q : Nat} {u : HS} (h : LexC B n p u) (hq : q ≤ n) : LexC B n q (wI u 5 0 3 (nI q)) := by
  obtain ⟨h1, h2, h3, h4, h5⟩ := h
  exact ⟨by rw [gI_k (by decide)]; exact h1, h2, by rw [gI_eq], hq, fun k hk => by rw [gI_r (by decide)]; exact h5 k hk⟩
theorem LexR.mv {B : Nat → Int32} {n p q : Nat} {u : HS} (h : LexR B n p u) (hq : q ≤ n) : LexR B n q (wI u 9 0 4 (nI q)) := by
  obtain ⟨h1, h2, h3, h4, h5⟩ := h
  exact ⟨by rw [gI_k (by decide)]; exact h1, h2, by rw [gI_eq], hq, fun k hk => by rw [gI_r (by decide)]; exact h5 k hk⟩
theorem LexC.k {B : Nat → Int32} {n p k : Nat} {x : Int32} {u : HS} (h : LexC B n p u) (h2 : k ≠ 2) (h3 : k ≠ 3) : LexC B n p (wI u 5 0 k x) := by
  obtain ⟨a1, a2, a3, a4, a5⟩ := h
  exact ⟨by rw [gI_k (Ne.symm h2)]; exact a1, a2, by rw [gI_k (Ne.symm h3)]; exact a3, a4, fun k hk => by rw [gI_r (by decide)]; exact a5 k hk⟩
theorem LexR.k {B : Nat → Int32} {n p k : Nat} {x : Int32} {u : HS} (h : LexR B n p u) (h2 : k ≠ 2) (h3 : k ≠ 4) : LexR B n p (wI u 9 0 k x) := by
  obtain ⟨a1, a2, a3, a4, a5⟩ := h
  exact ⟨by rw [gI_k (Ne.symm h2)]; exact a1, a2, by rw [gI_k (Ne.symm h3)]; exact a3, a4, fun k hk => by rw [gI_r (by decide)]; exact a5 k hk⟩
theorem cSkipL {B : Nat → Int32} {n : Nat} {w : HS → Option HS} : ∀ (d p fu : Nat) (u : HS), p + d = n → d < fu → LexC B n p u → ∃ u', mX5_skipBlanks_L0 w fu u = w u' ∧ LexC B n (sk B n p) u' ∧ FC [3] u u' := by
  intro d
  induction d with
  | zero =>
    intro p fu u h1 h2 h
    obtain ⟨z, rfl⟩ : ∃ z, fu = z + 1 := ⟨fu - 1, by omega⟩
    have e : p = n := by omega
    subst e
    refine ⟨u, ?_, by unfold sk; rw [wh_n]; exact h, FC.rf⟩
    rw [mX5_skipBlanks_L0.eq_2, h.1, h.2.2.1, if_pos (nI_le (Nat.le_refl _) (by have := h.2.1; omega))]
  | succ d ih =>
    intro p fu u h1 h2 h
    obtain ⟨z, rfl⟩ : ∃ z, fu = z + 1 := ⟨fu - 1, by omega⟩
    have hn := h.2.1
    rw [mX5_skipBlanks_L0.eq_2, h.1, h.2.2.1, if_neg (nI_ge (show p < n by omega) (by omega)), ck_nI (show p < 400 by omega) (by decide)]
    simp only [ob_q, bd_q, h.2.2.2.2 p (by omega), nI_1]
    by_cases c : B p = 32
    · rw [if_pos c]
      obtain ⟨u', e, l, f⟩ := ih (p + 1) z _ (by omega) (by omega) (h.mv (show p + 1 ≤ n by omega))
      refine ⟨u', e, ?_, (FC.rf.w (by decide)).tr f⟩
      unfold sk at l ⊢
      rw [wh_y (by omega) (show isBl (B p) = true from decide_eq_true c)]
      exact l
    · rw [if_neg c]
      refine ⟨u, rfl, ?_, FC.rf⟩
      unfold sk
      rw [wh_no (by omega) (show isBl (B p) = false from decide_eq_false c)]
      exact h
theorem cSkip {B : Nat → Int32} {n p : Nat} {u : HS} (h : LexC B n p u) : ∃ u', mX5_skipBlanks u = some u' ∧ LexC B n (sk B n p) u' ∧ FC [3] u u' := by
  have h2 := h.2.1
  have h4 := h.2.2.2.1
  unfold mX5_skipBlanks
  simp only [jp_q]
  exact cSkipL (n - p) p FU u (by omega) (FU_lt (by omega)) h
theorem rByte {B : Nat → Int32} {n p : Nat} {u : HS} (h : LexR B n p u) {k : Nat} (hk : k ≤ n) : mX9_byteAt u (nI k) = some (if k < n then B k else -1) := by
  have hn := h.2.1
  unfold mX9_byteAt
  rw [h.1]
  by_cases c : k < n
  · rw [if_pos (nI_lt c (by omega)), if_pos c, ck_nI (show k < 400 by omega) (by decide)]
    simp only [ob_q, h.2.2.2.2 k c]
  · rw [if_neg (nI_nlt (by omega) (by omega)), if_neg c]
theorem rSkipL {B : Nat → Int32} {n : Nat} {w : HS → Option HS} : ∀ (d p fu : Nat) (u : HS), p + d = n → d < fu → LexR B n p u → ∃ u', mX9_blanks_L0 w fu u = w u' ∧ LexR B n (sk B n p) u' ∧ Fr [] [4] u u' := by
  intro d
  induction d with
  | zero =>
    intro p fu u h1 h2 h
    obtain ⟨z, rfl⟩ : ∃ z, fu = z + 1 := ⟨fu - 1, by omega⟩
    have e : p = n := by omega
    subst e
    refine ⟨u, ?_, by unfold sk; rw [wh_n]; exact h, Fr.rf⟩
    rw [mX9_blanks_L0.eq_2, h.2.2.1, rByte h (Nat.le_refl _), if_neg (by omega)]
    simp only [ob_q]
    rw [if_neg (by decide)]
  | succ d ih =>
    intro p fu u h1 h2 h
    obtain ⟨z, rfl⟩ : ∃ z, fu = z + 1 := ⟨fu - 1, by omega⟩
    have hn := h.2.1
    rw [mX9_blanks_L0.eq_2, h.2.2.1, rByte h (by omega), if_pos (by omega)]
    simp only [ob_q, bd_q, nI_1]
    by_cases c : B p = 32
    · rw [if_pos c]
      obtain ⟨u', e, l, f⟩ := ih (p + 1) z _ (by omega) (by omega) (h.mv (show p + 1 ≤ n by omega))
      refine ⟨u', e, ?_, (Fr.rf.w9 (by decide)).tr f⟩
      unfold sk at l ⊢
      rw [wh_y (by omega) (show isBl (B p) = true from decide_eq_true c)]
      exact l
    · rw [if_neg c]
      refine ⟨u, rfl, ?_, Fr.rf⟩
      unfold sk
      rw [wh_no (by omega) (show isBl (B p) = false from decide_eq_false c)]
      exact h
theorem rSkip {B : Nat → Int32} {n p : Nat} {u : HS} (h : LexR B n p u) : ∃ u', mX9_blanks u = some u' ∧ LexR B n (sk B n p) u' ∧ Fr [] [4] u u' := by
  have h2 := h.2.1
  have h4 := h.2.2.2.1
  unfold mX9_blanks
  simp only [jp_q]
  exact rSkipL (n - p) p FU u (by omega) (FU_lt (by omega)) h
/-! numbers -/
def dgV (b : Int32) : Nat := b.toNatClampNeg - 48
theorem isDg_v {b : Int32} (h : isDg b = true) : ∃ t, t < 10 ∧ b = nI (48 + t) ∧ dgV b = t := by
  unfold isDg at h
  simp only [Bool.and_eq_true, Bool.not_eq_true', decide_eq_false_iff_not, Int32.not_lt] at h
  obtain ⟨j, hj, e⟩ := nI_of (x := b) (Int32.not_lt.mpr (Int32.le_trans (by decide) h.1))
  rw [e] at h
  have h1 := (nI_leI (a := 48) (by decide) hj).mp h.1
  have h2 := (nI_leI (b := 57) hj (by decide)).mp h.2
  exact ⟨j - 48, by omega, by rw [e]; congr 1; omega, by unfold dgV; rw [e, nI_clamp hj]⟩
def numV (B : Nat → Int32) : Nat → Nat → Nat → Nat
  | 0, _, v => v
  | d + 1, p, v => if isDg (B p) = true then numV B d (p + 1) (10 * v + dgV (B p)) else v
theorem cIsAt {B : Nat → Int32} {n p : Nat} {u : HS} (h : LexC B n p u) {k : Nat} (hk : k ≤ n) (x y : Int32) : mX5_isAt u (nI k) x y = some (if k < n then bI (!decide (B k < x) && !decide (y < B k)) else 0) := by
  have hn := h.2.1
  unfold mX5_isAt
  rw [h.1]
  by_cases c : k < n
  · rw [if_neg (nI_ge c (by omega)), if_pos c, ck_nI (show k < 400 by omega) (by decide)]
    simp only [ob_q, h.2.2.2.2 k c]
    by_cases d : B k < x
    · rw [if_pos d]; simp [d, bI]
    · rw [if_neg d]
      by_cases e : y < B k
      · rw [if_pos e]; simp [e, bI]
      · rw [if_neg e]; simp [d, e, bI]
  · rw [if_pos (nI_le (by omega) (by omega)), if_neg c]
theorem min_step {M v t : Nat} (hM : 10 ≤ M) (ht : t < 10) : min (10 * min v M + t) M = min (10 * v + t) M := by omega
theorem cNumL {B : Nat → Int32} {n : Nat} {w : Int32 → HS → Option (Int32 × HS)} : ∀ (d p fu v : Nat) (u : HS), p + d = n → d < fu → LexC B n p u → ∃ u', mX5_demandNumber_L28 w fu (nI (min v 1000000)) u = w (nI (min (numV B d p v) 1000000)) u' ∧ LexC B n (wh B isDg n p) u' ∧ FC [3] u u' := by
  intro d
  induction d with
  | zero =>
    intro p fu v u h1 h2 h
    obtain ⟨z, rfl⟩ : ∃ z, fu = z + 1 := ⟨fu - 1, by omega⟩
    have e : p = n := by omega
    subst e
    refine ⟨u, ?_, by rw [wh_n]; exact h, FC.rf⟩
    rw [mX5_demandNumber_L28.eq_2, h.1, h.2.2.1, if_pos (nI_le (Nat.le_refl _) (by have := h.2.1; omega))]
    rfl
  | succ d ih =>
    intro p fu v u h1 h2 h
    obtain ⟨z, rfl⟩ : ∃ z, fu = z + 1 := ⟨fu - 1, by omega⟩
    have hn := h.2.1
    have hp : p < n := by omega
    rw [mX5_demandNumber_L28.eq_2, h.1, h.2.2.1, if_neg (nI_ge hp (by omega)), cIsAt h (by omega), if_pos hp]
    simp only [ob_q]
    show ∃ u', (if bI (isDg (B p)) = 0 then _ else _) = w (nI (min (if isDg (B p) = true then numV B d (p + 1) (10 * v + dgV (B p)) else v) 1000000)) u' ∧ _
    cases c : isDg (B p) with
    | false =>
      rw [if_pos (show bI false = 0 from rfl), if_neg (by decide), wh_no hp c]
      exact ⟨u, rfl, h, FC.rf⟩
    | true =>
      rw [if_neg (show ¬ bI true = 0 by decide), if_pos rfl, ck_nI (show p < 400 by omega) (by decide)]
      obtain ⟨t, ht, eb, ev⟩ := isDg_v c
      simp only [ob_q, bd_q, h.2.2.2.2 p hp, nI_1, eb]
      have e1 : nI (min v 1000000) * 10 + nI (48 + t) - 48 = nI (10 * min v 1000000 + t) := by
        rw [show (nI (min v 1000000) * 10 : Int32) = nI (min v 1000000 * 10) from pk_mul _ 10, nI_add, show (48 : Int32) = nI 48 from rfl, nI_subN (by omega) (by omega)]
        congr 1; omega
      have e2 : (if nI (10 * min v 1000000 + t) < 1000000 then nI (10 * min v 1000000 + t) else 1000000) = nI (min (10 * v + t) 1000000) := by
        rw [← min_step (by decide) ht]
        by_cases q : 10 * min v 1000000 + t < 1000000
        · rw [if_pos (show nI (10 * min v 1000000 + t) < 1000000 from nI_lt (b := 1000000) q (by decide))]; congr 1; omega
        · rw [if_neg (show ¬ nI (10 * min v 1000000 + t) < 1000000 from nI_nlt (b := 1000000) (by omega) (by omega)), Nat.min_eq_right (by omega)]; rfl
      rw [e1, e2]
      rw [← eb, ev]
      obtain ⟨u', e, l, f⟩ := ih (p + 1) z (10 * v + t) _ (by omega) (by omega) (h.mv (show p + 1 ≤ n by omega))
      rw [wh_y hp c]
      exact ⟨u', e, l, (FC.rf.w (by decide)).tr f⟩

theorem rDig (b : Int32) : mX9_isDigit b = some (bI (isDg b)) := by
  unfold mX9_isDigit isDg
  by_cases d : b < 48
  · rw [if_pos d]; simp [d, bI]
  · rw [if_neg d]
    by_cases e : 57 < b
    · rw [if_pos e]; simp [e, bI]
    · rw [if_neg e]; simp [d, e, bI]
theorem rNumL {B : Nat → Int32} {n : Nat} {w : Int32 → HS → Option (Int32 × HS)} : ∀ (d p fu v : Nat) (u : HS), p + d = n → d < fu → LexR B n p u → ∃ u', mX9_number_L45 w fu (nI (min v 100000)) u = w (nI (min (numV B d p v) 100000)) u' ∧ LexR B n (wh B isDg n p) u' ∧ Fr [] [4] u u' := by
  intro d
  induction d with
  | zero =>
    intro p fu v u h1 h2 h
    obtain ⟨z, rfl⟩ : ∃ z, fu = z + 1 := ⟨fu - 1, by omega⟩
    have e : p = n := by omega
    subst e
    refine ⟨u, ?_, by rw [wh_n]; exact h, Fr.rf⟩
    rw [mX9_number_L45.eq_2, h.2.2.1, rByte h (Nat.le_refl _), if_neg (by omega)]
    simp only [ob_q, rDig]
    rw [show isDg (-1) = false from by decide, if_pos (show bI false = 0 from rfl)]
    rfl
  | succ d ih =>
    intro p fu v u h1 h2 h
    obtain ⟨z, rfl⟩ : ∃ z, fu = z + 1 := ⟨fu - 1, by omega⟩
    have hn := h.2.1
    have hp : p < n := by omega
    rw [mX9_number_L45.eq_2, h.2.2.1, rByte h (by omega), if_pos hp]
    simp only [ob_q, rDig]
    show ∃ u', (if bI (isDg (B p)) = 0 then _ else _) = w (nI (min (if isDg (B p) = true then numV B d (p + 1) (10 * v + dgV (B p)) else v) 100000)) u' ∧ _
    cases c : isDg (B p) with
    | false =>
      rw [if_pos (show bI false = 0 from rfl), if_neg (by decide), wh_no hp c]
      exact ⟨u, rfl, h, Fr.rf⟩
    | true =>
      rw [if_neg (show ¬ bI true = 0 by decide), if_pos rfl]
      obtain ⟨t, ht, eb, ev⟩ := isDg_v c
      simp only [ob_q, bd_q, nI_1, eb]
      have e1 : 10 * nI (min v 100000) + nI (48 + t) - 48 = nI (10 * min v 100000 + t) := by
        rw [Int32.mul_comm, show (nI (min v 100000) * 10 : Int32) = nI (min v 100000 * 10) from pk_mul _ 10, nI_add, show (48 : Int32) = nI 48 from rfl, nI_subN (by omega) (by omega)]
        congr 1; omega
      have e2 : (if nI (10 * min v 100000 + t) ≤ 100000 then some (nI (10 * min v 100000 + t)) else some 100000 : Option Int32) = some (nI (min (10 * v + t) 100000)) := by
        rw [← min_step (M := 100000) (by decide) ht]
        by_cases q : 10 * min v 100000 + t ≤ 100000
        · rw [if_pos (show nI (10 * min v 100000 + t) ≤ 100000 from nI_le (b := 100000) q (by decide))]; congr 2; omega
        · rw [if_neg (show ¬ nI (10 * min v 100000 + t) ≤ 100000 from nI_ge (a := 100000) (by omega) (by omega)), Nat.min_eq_right (by omega)]; rfl
      rw [e1, e2]
      simp only [ob_q]
      rw [← eb, ev]
      obtain ⟨u', e, l, f⟩ := ih (p + 1) z (10 * v + t) _ (by omega) (by omega) (h.mv (show p + 1 ≤ n by omega))
      rw [wh_y hp c]
      exact ⟨u', e, l, (Fr.rf.w9 (by decide)).tr f⟩
