/-! ===== what a law says of names ===== -/
abbrev LT : Type := LV × Nat
def lwT (w : LT) : Nat := w.2
/-- a law's rows, as the reference and as the class have them -/
def LR (u : HS) (l : Nat) (w : LT) : Prop := l < 4 ∧ lwN w.1 ≤ 16 ∧ gI u 76 0 l = nI (lwN w.1) ∧ (∀ k j, k < lwN w.1 → j < 4 → gI u 75 (16 * l + k) j = lwC w.1 k j) ∧ ∀ p, p < lwT w → gI u 73 l p = lwK w.1 p
def LC (u : HS) (i : Nat) (w : LT) : Prop := lwN w.1 ≤ 16 ∧ gI u 1 i 2 = nI (lwN w.1) ∧ (∀ k, k < lwN w.1 → gI u 33 i k = lwC w.1 k 0 ∧ gI u 34 i k = lwC w.1 k 1 ∧ gI u 35 i k = lwC w.1 k 2 ∧ gI u 36 i k = if lwC w.1 k 3 = -1 then lwC w.1 k 2 else lwC w.1 k 3) ∧ ∀ p, p < lwT w → gI u 32 i p = enc (lwK w.1 p)
def LWk (w : LT) (k : Nat) : Prop := ∃ a b e, a ≤ b ∧ b ≤ e ∧ e ≤ lwT w ∧ lwC w.1 k 1 = nI a ∧ lwC w.1 k 2 = nI b ∧ tyR (lwK w.1) (b - a) a [] = some [false] ∧ ((lwC w.1 k 3 = -1 ∧ e = b) ∨ (lwC w.1 k 3 = nI e ∧ tyR (lwK w.1) (e - b) b [] = some [true]))
def LWF (w : LT) : Prop := lwT w ≤ 400 ∧ ∀ k, k < lwN w.1 → LWk w k
def vaS (w : LT) (nm : Nat → Int32) (k : Nat) : Int32 := evS (lwK w.1) nm (lwC w.1 k 1).toNatClampNeg (lwC w.1 k 2).toNatClampNeg
def hoS (w : LT) (nm : Nat → Int32) (k : Nat) : Bool := decide (lwC w.1 k 3 = -1) || decide (evS (lwK w.1) nm (lwC w.1 k 2).toNatClampNeg (lwC w.1 k 3).toNatClampNeg = 1)
def wiS (v lo hi : Int32) : Int32 := if lo ≤ v then (if v ≤ hi then v else hi) else lo
def getF (w : LT) (nm : Nat → Int32) (a : Int32) (k : Nat) : Int32 := if lwC w.1 k 0 = 0 ∧ hoS w nm k = true then a + vaS w nm k else a
def getS (w : LT) (nm : Nat → Int32) : Int32 := wiS ((List.range (lwN w.1)).foldl (getF w nm) 0) 0 1000
def lasF (w : LT) (nm : Nat → Int32) (x lo hi : Int32) (v : Int32) (k : Nat) : Int32 := if lwC w.1 k 0 = x ∧ hoS w nm k = true then wiS (vaS w nm k) lo hi else v
def lasS (w : LT) (nm : Nat → Int32) (x lo hi d : Int32) : Int32 := (List.range (lwN w.1)).foldl (lasF w nm x lo hi) d
theorem rWithin (v lo hi : Int32) : mX9_within v lo hi = some (wiS v lo hi) := by
  unfold mX9_within wiS
  by_cases h : lo ≤ v <;> by_cases h2 : v ≤ hi <;> simp [h, h2]
theorem clampE {v lo hi : Int32} (h : lo ≤ hi) : (if lo < (if v < hi then v else hi) then (if v < hi then v else hi) else lo) = wiS v lo hi := by
  unfold wiS
  by_cases h1 : v < hi
  · rw [if_pos h1]
    by_cases h2 : lo < v
    · rw [if_pos h2, if_pos (Int32.le_of_lt h2), if_pos (Int32.le_of_lt h1)]
    · rw [if_neg h2]
      by_cases h3 : lo ≤ v
      · rw [if_pos h3, if_pos (Int32.le_of_lt h1)]; exact Int32.le_antisymm h3 (Int32.not_lt.mp h2)
      · rw [if_neg h3]
  · rw [if_neg h1, if_pos (show lo ≤ v from Int32.le_trans h (Int32.not_lt.mp h1))]
    have h4 := Int32.not_lt.mp h1
    have e : (if v ≤ hi then v else hi) = hi := by
      by_cases h3 : v ≤ hi
      · rw [if_pos h3]; exact Int32.le_antisymm h3 h4
      · rw [if_neg h3]
    rw [e]
    by_cases h2 : lo < hi
    · rw [if_pos h2]
    · rw [if_neg h2]; exact Int32.le_antisymm h (Int32.not_lt.mp h2)
theorem LR.fr {u v : HS} {l : Nat} {w : LT} {L K : List Nat} (h : LR u l w) (hF : Fr L K u v) (hL : 73 ∉ L ∧ 75 ∉ L ∧ 76 ∉ L) : LR v l w := by
  unfold LR; rw [hF.m1 hL.1 (by decide), hF.m1 hL.2.1 (by decide), hF.m1 hL.2.2 (by decide)]; exact h
theorem LC.fr {u v : HS} {i : Nat} {w : LT} {L K : List Nat} (h : LC u i w) (hF : Fr L K u v) (hL : 1 ∉ L ∧ 32 ∉ L ∧ 33 ∉ L ∧ 34 ∉ L ∧ 35 ∉ L ∧ 36 ∉ L) : LC v i w := by
  unfold LC; rw [hF.m1 hL.1 (by decide), hF.m1 hL.2.1 (by decide), hF.m1 hL.2.2.1 (by decide), hF.m1 hL.2.2.2.1 (by decide), hF.m1 hL.2.2.2.2.1 (by decide), hF.m1 hL.2.2.2.2.2 (by decide)]; exact h
theorem rHolds {u : HS} {l : Nat} {w : LT} {nm : Nat → Int32} (h : LR u l w) (hw : LWF w) (hnm : ∀ j, j < 11 → gI u 79 0 j = nm j) {k : Nat} (hk : k < lwN w.1) : ∃ u', mX9_holds u (nI l) (16 * l + k) = some (bI (hoS w nm k), u') ∧ Fr [78] [] u u' := by
  obtain ⟨h1, h2, h3, h4, h5⟩ := h
  obtain ⟨a, b, e, hab, hbe, he, ea, eb, t1, t2⟩ := hw.2 k hk
  have hT := hw.1
  unfold mX9_holds hoS
  simp only [c4_2, c4_3, ob_q, bd_q, h4 k _ hk (show 3 < 4 by decide), h4 k _ hk (show 2 < 4 by decide)]
  rcases t2 with ⟨q1, q2⟩ | ⟨q1, q2⟩
  · rw [q1, if_pos rfl]
    exact ⟨u, rfl, Fr.rf⟩
  · obtain ⟨u', f1, hF⟩ := rWork (u := u) (l := l) (a := b) (b := e) (code := lwK w.1) (nm := nm) h1 hbe (by omega) hnm (fun p hp1 hp2 => h5 p (by omega)) q2
    rw [q1, if_neg (nI_m1 (by omega)), eb, f1]
    simp only [ob_q, nI_clamp (show b < 2 ^ 31 by omega), nI_clamp (show e < 2 ^ 31 by omega), show decide (nI e = -1) = false from decide_eq_false (nI_m1 (by omega)), Bool.false_or]
    refine ⟨u', ?_, hF⟩
    rcases evS_01 (nm := nm) q2 with q | q <;> rw [q] <;> rfl
theorem rVal {u : HS} {l : Nat} {w : LT} {nm : Nat → Int32} (h : LR u l w) (hw : LWF w) (hnm : ∀ j, j < 11 → gI u 79 0 j = nm j) {k : Nat} (hk : k < lwN w.1) : ∃ u', mX9_work u (nI l) (gI u 75 (16 * l + k) 1) (gI u 75 (16 * l + k) 2) = some (vaS w nm k, u') ∧ Fr [78] [] u u' := by
  obtain ⟨h1, h2, h3, h4, h5⟩ := h
  obtain ⟨a, b, e, hab, hbe, he, ea, eb, t1, t2⟩ := hw.2 k hk
  have hT := hw.1
  obtain ⟨u', f1, hF⟩ := rWork (u := u) (l := l) (a := a) (b := b) (code := lwK w.1) (nm := nm) h1 hab (by omega) hnm (fun p hp1 hp2 => h5 p (by omega)) t1
  refine ⟨u', ?_, hF⟩
  rw [h4 k 1 hk (by decide), h4 k 2 hk (by decide), ea, eb, f1]
  unfold vaS
  rw [ea, eb, nI_clamp (by omega), nI_clamp (by omega)]
theorem rGets {u : HS} {l : Nat} {w : LT} {nm : Nat → Int32} (h : LR u l w) (hw : LWF w) (hnm : ∀ j, j < 11 → gI u 79 0 j = nm j) : ∃ u', mX9_getsNow u (nI l) = some (getS w nm, u') ∧ Fr [78] [] u u' := by
  have hh := h
  obtain ⟨h1, h2, h3, h4, h5⟩ := h
  unfold mX9_getsNow
  simp only [jp_q]
  refine loopR (fun fu (a : Int32 × HS) y => mX9_getsNow_L4 (nI l) (fun x104 u105 => (mX9_within x104 0 1000).bind fun x108 => some (x108, u105)) fu a.1 y a.2) (lwN w.1) 0 (fun k a => a.1 = (List.range k).foldl (getF w nm) 0 ∧ Fr [78] [] u a.2) (fun o => ∃ u', o = some (getS w nm, u') ∧ Fr [78] [] u u') ?_ ?_ (lwN w.1) 0 (0, u) FU (Nat.le_refl _) (by omega) (FU_lt (by omega)) ⟨rfl, Fr.rf⟩
  · intro fu ⟨v, a⟩ k _ hk ⟨hv, hF⟩ ih
    show ∃ u', mX9_getsNow_L4 (nI l) _ (fu + 1) v (nI k) a = _ ∧ _
    obtain ⟨g1, g2, g3, g4, g5⟩ := hh.fr hF (by decide)
    have hnma : ∀ j, j < 11 → gI a 79 0 j = nm j := fun j hj => by rw [hF.m1 (by decide) (by decide)]; exact hnm j hj
    rw [mX9_getsNow_L4.eq_2, ck_nI h1 (by decide)]
    simp only [ob_q, bd_q, jp_q, g3]
    rw [if_neg (nI_ge hk (by omega)), show (16 : Int32) * nI l = nI (16 * l) from pk_mul 16 l, nI_add, ck_nI (show 16 * l + k < 64 by omega) (by decide)]
    simp only [c4_0, c4_1, c4_2, ob_q, g4 k 0 hk (by decide), nI_1]
    have hfold : ∀ r, r = getF w nm v k → r = (List.range (k + 1)).foldl (getF w nm) 0 := by
      intro r hr; rw [List.range_succ, List.foldl_append, hr]; show _ = getF w nm _ k; rw [← hv]
    by_cases c : lwC w.1 k 0 = 0
    · rw [if_pos c]
      obtain ⟨a1, e1, hF1⟩ := rHolds (nm := nm) (hh.fr hF (by decide)) hw hnma hk
      rw [e1]
      simp only [ob_q, bI_0]
      cases q : hoS w nm k with
      | false =>
        simp only [if_true]
        exact ih (v, a1) ⟨hfold v (by unfold getF; rw [if_neg (by rw [q]; simp)]), hF.tr hF1⟩
      | true =>
        simp only [Bool.true_eq_false, if_false]
        have hF2 := hF.tr hF1
        obtain ⟨a2, e2, hF3⟩ := rVal (nm := nm) (hh.fr hF2 (by decide)) hw (fun j hj => by rw [hF1.m1 (by decide) (by decide)]; exact hnma j hj) hk
        rw [e2]
        simp only [ob_q]
        exact ih (_, a2) ⟨hfold _ (by unfold getF; rw [if_pos ⟨c, q⟩]), hF2.tr hF3⟩
    · rw [if_neg c]
      exact ih (v, a) ⟨hfold v (by unfold getF; rw [if_neg (fun q => c q.1)]), hF⟩
  · intro fu ⟨v, a⟩ ⟨hv, hF⟩
    show ∃ u', mX9_getsNow_L4 (nI l) _ (fu + 1) v (nI (lwN w.1)) a = _ ∧ _
    obtain ⟨g1, g2, g3, g4, g5⟩ := hh.fr hF (by decide)
    rw [mX9_getsNow_L4.eq_2, ck_nI h1 (by decide)]
    simp only [ob_q, g3]
    rw [if_pos (nI_le (Nat.le_refl _) (by omega)), rWithin]
    simp only [ob_q]
    refine ⟨a, ?_, hF⟩
    rw [show v = _ from hv]; rfl
theorem rLast {u : HS} {l : Nat} {w : LT} {nm : Nat → Int32} (h : LR u l w) (hw : LWF w) (hnm : ∀ j, j < 11 → gI u 79 0 j = nm j) (x lo hi d : Int32) : ∃ u', mX9_lastOf u (nI l) x lo hi d = some (lasS w nm x lo hi d, u') ∧ Fr [78] [] u u' := by
  have hh := h
  obtain ⟨h1, h2, h3, h4, h5⟩ := h
  unfold mX9_lastOf
  simp only [jp_q]
  refine loopR (fun fu (a : Int32 × HS) y => mX9_lastOf_L7 (nI l) x lo hi (fun x104 u105 => some (x104, u105)) fu a.1 y a.2) (lwN w.1) 0 (fun k a => a.1 = (List.range k).foldl (lasF w nm x lo hi) d ∧ Fr [78] [] u a.2) (fun o => ∃ u', o = some (lasS w nm x lo hi d, u') ∧ Fr [78] [] u u') ?_ ?_ (lwN w.1) 0 (d, u) FU (Nat.le_refl _) (by omega) (FU_lt (by omega)) ⟨rfl, Fr.rf⟩
  · intro fu ⟨v, a⟩ k _ hk ⟨hv, hF⟩ ih
    show ∃ u', mX9_lastOf_L7 (nI l) x lo hi _ (fu + 1) v (nI k) a = _ ∧ _
    obtain ⟨g1, g2, g3, g4, g5⟩ := hh.fr hF (by decide)
    have hnma : ∀ j, j < 11 → gI a 79 0 j = nm j := fun j hj => by rw [hF.m1 (by decide) (by decide)]; exact hnm j hj
    rw [mX9_lastOf_L7.eq_2, ck_nI h1 (by decide)]
    simp only [ob_q, bd_q, jp_q, g3]
    rw [if_neg (nI_ge hk (by omega)), show (16 : Int32) * nI l = nI (16 * l) from pk_mul 16 l, nI_add, ck_nI (show 16 * l + k < 64 by omega) (by decide)]
    simp only [c4_0, c4_1, c4_2, ob_q, g4 k 0 hk (by decide), nI_1]
    have hfold : ∀ r, r = lasF w nm x lo hi v k → r = (List.range (k + 1)).foldl (lasF w nm x lo hi) d := by
      intro r hr; rw [List.range_succ, List.foldl_append, hr]; show _ = lasF w nm x lo hi _ k; rw [← hv]
    by_cases c : lwC w.1 k 0 = x
    · rw [if_pos c]
      obtain ⟨a1, e1, hF1⟩ := rHolds (nm := nm) (hh.fr hF (by decide)) hw hnma hk
      rw [e1]
      simp only [ob_q, bI_0]
      cases q : hoS w nm k with
      | false =>
        simp only [if_true]
        exact ih (v, a1) ⟨hfold v (by unfold lasF; rw [if_neg (by rw [q]; simp)]), hF.tr hF1⟩
      | true =>
        simp only [Bool.true_eq_false, if_false]
        have hF2 := hF.tr hF1
        obtain ⟨a2, e2, hF3⟩ := rVal (nm := nm) (hh.fr hF2 (by decide)) hw (fun j hj => by rw [hF1.m1 (by decide) (by decide)]; exact hnma j hj) hk
        rw [e2]
        simp only [ob_q, rWithin]
        exact ih (wiS (vaS w nm k) lo hi, a2) ⟨hfold (wiS (vaS w nm k) lo hi) (show _ = if _ then _ else _ by rw [if_pos ⟨c, q⟩]), hF2.tr hF3⟩
    · rw [if_neg c]
      exact ih (v, a) ⟨hfold v (by unfold lasF; rw [if_neg (fun q => c q.1)]), hF⟩
  · intro fu ⟨v, a⟩ ⟨hv, hF⟩
    show ∃ u', mX9_lastOf_L7 (nI l) x lo hi _ (fu + 1) v (nI (lwN w.1)) a = _ ∧ _
    obtain ⟨g1, g2, g3, g4, g5⟩ := hh.fr hF (by decide)
    rw [mX9_lastOf_L7.eq_2, ck_nI h1 (by decide)]
    simp only [ob_q, g3]
    rw [if_pos (nI_le (Nat.le_refl _) (by omega))]
    refine ⟨a, ?_, hF⟩
    rw [show v = _ from hv]; rfl
/-! the class -/
theorem cHolds {u : HS} {i : Nat} {w : LT} {nm : Nat → Int32} (h : LC u i w) (hw : LWF w) (hnm : ∀ j, j < 11 → gI u 48 0 j = nm j) {k : Nat} (hk : k < lwN w.1) : ∃ x u', mX4_work u i (gI u 35 i k) (gI u 36 i k) = some (x, u') ∧ (x = 0) = (hoS w nm k = false) ∧ Fr [44] [] u u' := by
  obtain ⟨h2, h3, h4, h5⟩ := h
  obtain ⟨a, b, e, hab, hbe, he, ea, eb, t1, t2⟩ := hw.2 k hk
  obtain ⟨-, -, e3, e4⟩ := h4 k hk
  have hT := hw.1
  unfold hoS
  rw [e3, e4, eb]
  rcases t2 with ⟨q1, q2⟩ | ⟨q1, q2⟩
  · rw [q1, if_pos rfl, cWork0 (by omega)]
    exact ⟨1, u, rfl, by simp, Fr.rf⟩
  · obtain ⟨u', f1, hF⟩ := cWork (u := u) (i := i) (a := b) (b := e) (code := lwK w.1) (nm := nm) hbe (by omega) hnm (fun p hp1 hp2 => h5 p (by omega)) q2
    rw [q1, if_neg (nI_m1 (by omega)), f1]
    refine ⟨_, u', rfl, ?_, hF⟩
    rw [nI_clamp (show b < 2 ^ 31 by omega), nI_clamp (show e < 2 ^ 31 by omega), show decide (nI e = -1) = false from decide_eq_false (nI_m1 (by omega)), Bool.false_or]
    rcases evS_01 (nm := nm) q2 with q | q <;> rw [q] <;> simp
theorem cVal {u : HS} {i : Nat} {w : LT} {nm : Nat → Int32} (h : LC u i w) (hw : LWF w) (hnm : ∀ j, j < 11 → gI u 48 0 j = nm j) {k : Nat} (hk : k < lwN w.1) : ∃ u', mX4_work u i (gI u 34 i k) (gI u 35 i k) = some (vaS w nm k, u') ∧ Fr [44] [] u u' := by
  obtain ⟨h2, h3, h4, h5⟩ := h
  obtain ⟨a, b, e, hab, hbe, he, ea, eb, t1, t2⟩ := hw.2 k hk
  obtain ⟨-, e2, e3, e4⟩ := h4 k hk
  have hT := hw.1
  obtain ⟨u', f1, hF⟩ := cWork (u := u) (i := i) (a := a) (b := b) (code := lwK w.1) (nm := nm) hab (by omega) hnm (fun p hp1 hp2 => h5 p (by omega)) t1
  refine ⟨u', ?_, hF⟩
  rw [e2, e3, ea, eb, f1]
  unfold vaS
  rw [ea, eb, nI_clamp (by omega), nI_clamp (by omega)]
theorem cGets {u : HS} {i : Nat} {w : LT} {nm : Nat → Int32} (h : LC u i w) (hw : LWF w) (hnm : ∀ j, j < 11 → gI u 48 0 j = nm j) : ∃ u', mX4_getsNow u i = some (if gI u 7 0 6 = 0 then 0 else getS w nm, u') ∧ Fr [44] [] u u' := by
  have hh := h
  obtain ⟨h2, h3, h4, h5⟩ := h
  unfold mX4_getsNow
  simp only [jp_q]
  by_cases hz : gI u 7 0 6 = 0
  · rw [if_pos hz]
    refine ⟨u, ?_, Fr.rf⟩
    rw [show FU = 4095 + 1 from rfl, mX4_getsNow_L4.eq_2, if_pos hz, ite_self]
    rfl
  · rw [if_neg hz]
    refine loopR (fun fu (a : Int32 × HS) y => mX4_getsNow_L4 i (fun x104 u105 => bd (if (x104 < 1000) then x104 else 1000) fun x107 => bd (if (0 < x107) then x107 else 0) fun x108 => some (x108, u105)) fu a.1 y a.2) (lwN w.1) 0 (fun k a => a.1 = (List.range k).foldl (getF w nm) 0 ∧ Fr [44] [] u a.2) (fun o => ∃ u', o = some (getS w nm, u') ∧ Fr [44] [] u u') ?_ ?_ (lwN w.1) 0 (0, u) FU (Nat.le_refl _) (by omega) (FU_lt (by omega)) ⟨rfl, Fr.rf⟩
    · intro fu ⟨v, a⟩ k _ hk ⟨hv, hF⟩ ih
      show ∃ u', mX4_getsNow_L4 i _ (fu + 1) v (nI k) a = _ ∧ _
      obtain ⟨g2, g3, g4, g5⟩ := hh.fr hF (by decide)
      obtain ⟨e1, -⟩ := g4 k hk
      have hnma : ∀ j, j < 11 → gI a 48 0 j = nm j := fun j hj => by rw [hF.m1 (by decide) (by decide)]; exact hnm j hj
      rw [mX4_getsNow_L4.eq_2, g3, if_neg (nI_ge hk (by omega)), hF.m1 (show 7 ∉ [44] by decide) (by decide), if_neg hz, ck_nI (show k < 16 by omega) (by decide)]
      simp only [ob_q, bd_q, jp_q, e1, nI_1]
      have hfold : ∀ r, r = getF w nm v k → r = (List.range (k + 1)).foldl (getF w nm) 0 := by
        intro r hr; rw [List.range_succ, List.foldl_append, hr]; show _ = getF w nm _ k; rw [← hv]
      by_cases c : lwC w.1 k 0 = 0
      · rw [if_pos c]
        obtain ⟨y, a1, f1, hy, hF1⟩ := cHolds (nm := nm) (hh.fr hF (by decide)) hw hnma hk
        rw [f1]
        simp only [ob_q, hy]
        cases q : hoS w nm k with
        | false =>
          simp only [if_true]
          exact ih (v, a1) ⟨hfold v (by unfold getF; rw [if_neg (by rw [q]; simp)]), hF.tr hF1⟩
        | true =>
          simp only [Bool.true_eq_false, if_false]
          have hF2 := hF.tr hF1
          obtain ⟨a2, e2, hF3⟩ := cVal (nm := nm) (hh.fr hF2 (by decide)) hw (fun j hj => by rw [hF1.m1 (by decide) (by decide)]; exact hnma j hj) hk
          rw [e2]
          simp only [ob_q]
          exact ih (_, a2) ⟨hfold _ (by unfold getF; rw [if_pos ⟨c, q⟩]), hF2.tr hF3⟩
      · rw [if_neg c]
        exact ih (v, a) ⟨hfold v (by unfold getF; rw [if_neg (fun q => c q.1)]), hF⟩
    · intro fu ⟨v, a⟩ ⟨hv, hF⟩
      show ∃ u', mX4_getsNow_L4 i _ (fu + 1) v (nI (lwN w.1)) a = _ ∧ _
      obtain ⟨g2, g3, g4, g5⟩ := hh.fr hF (by decide)
      rw [mX4_getsNow_L4.eq_2, g3, if_pos (nI_le (Nat.le_refl _) (by omega))]
      simp only [bd_q]
      refine ⟨a, ?_, hF⟩
      rw [clampE (by decide), show v = _ from hv]; rfl
theorem cLast {u : HS} {i : Nat} {w : LT} {nm : Nat → Int32} (h : LC u i w) (hw : LWF w) (hnm : ∀ j, j < 11 → gI u 48 0 j = nm j) (x lo hi d : Int32) (hlh : lo ≤ hi) : ∃ u', mX4_lastOf u i x lo hi d = some (lasS w nm x lo hi d, u') ∧ Fr [44] [] u u' := by
  have hh := h
  obtain ⟨h2, h3, h4, h5⟩ := h
  unfold mX4_lastOf
  simp only [jp_q, bd_q, h3]
  have key : ∀ (k : Nat) (a : HS) (fu : Nat), k ≤ lwN w.1 → k < fu → Fr [44] [] u a → (List.range (lwN w.1)).foldl (lasF w nm x lo hi) d = (List.range k).foldl (lasF w nm x lo hi) d → ∃ u', mX4_lastOf_L8 i x hi lo (fun u104 => some (d, u104)) fu (nI k - 1) a = some (lasS w nm x lo hi d, u') ∧ Fr [44] [] u u' := by
    intro k
    induction k with
    | zero =>
      intro a fu hk hf hF he
      obtain ⟨z, rfl⟩ : ∃ z, fu = z + 1 := ⟨fu - 1, by omega⟩
      rw [mX4_lastOf_L8.eq_2, if_pos (by decide)]
      refine ⟨a, ?_, hF⟩
      unfold lasS
      rw [he]; rfl
    | succ k ih =>
      intro a fu hk hf hF he
      obtain ⟨z, rfl⟩ : ∃ z, fu = z + 1 := ⟨fu - 1, by omega⟩
      obtain ⟨g2, g3, g4, g5⟩ := hh.fr hF (by decide)
      obtain ⟨e1, -⟩ := g4 k (by omega)
      have hnma : ∀ j, j < 11 → gI a 48 0 j = nm j := fun j hj => by rw [hF.m1 (by decide) (by decide)]; exact hnm j hj
      have hpr : nI k + (-1) = nI k - 1 := by rw [Int32.sub_eq_add_neg]
      rw [nI_pred, mX4_lastOf_L8.eq_2, if_neg (nI_pos (by omega)), ck_nI (show k < 16 by omega) (by decide)]
      simp only [ob_q, bd_q, jp_q, e1, hpr]
      rw [List.range_succ, List.foldl_append] at he
      by_cases c : lwC w.1 k 0 = x
      · rw [if_pos c]
        obtain ⟨y, a1, f1, hy, hF1⟩ := cHolds (nm := nm) (hh.fr hF (by decide)) hw hnma (show k < lwN w.1 by omega)
        rw [f1]
        simp only [ob_q, hy]
        cases q : hoS w nm k with
        | false =>
          simp only [if_true]
          exact ih a1 z (by omega) (by omega) (hF.tr hF1) (he.trans (show lasF w nm x lo hi _ k = _ by unfold lasF; rw [if_neg (by rw [q]; simp)]))
        | true =>
          simp only [Bool.true_eq_false, if_false]
          have hF2 := hF.tr hF1
          obtain ⟨a2, e2, hF3⟩ := cVal (nm := nm) (hh.fr hF2 (by decide)) hw (fun j hj => by rw [hF1.m1 (by decide) (by decide)]; exact hnma j hj) (show k < lwN w.1 by omega)
          rw [e2]
          simp only [ob_q]
          refine ⟨a2, ?_, hF2.tr hF3⟩
          rw [clampE hlh]
          unfold lasS
          rw [he]
          show some (wiS (vaS w nm k) lo hi, a2) = some (lasF w nm x lo hi _ k, a2)
          unfold lasF
          rw [if_pos ⟨c, q⟩]
      · rw [if_neg c]
        exact ih a z (by omega) (by omega) hF (he.trans (show lasF w nm x lo hi _ k = _ by unfold lasF; rw [if_neg (fun q => c q.1)]))
  exact key (lwN w.1) u FU (Nat.le_refl _) (FU_lt (by omega)) Fr.rf rfl
