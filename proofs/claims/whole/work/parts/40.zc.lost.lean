/-! gone -/
def igA (f : Nat → Nat → Int32) (s t l : Nat) : Bool := decide (f l 0 = nI s) && decide (f l 1 = nI t) && decide (f l 2 = 0)
theorem igB_A (f : Nat → Nat → Int32) (s t a l : Nat) : igB f s t a l = (igA f s t l && decide (f l (3 + a) ≠ -1)) := rfl
def goB (f : Nat → Nat → Int32) (s t w l : Nat) : Bool := igA f s t l && decide (f l 3 ≠ -1) && decide (f l 4 ≠ -1) && decide (f l 5 ≠ -1) && (if w = 2 then true else if w = 0 then decide (f l 3 = 0) && decide (f l 5 = 1) else decide (f l 3 + f l 4 + f l 5 = 0))
def goF (f : Nat → Nat → Int32) (s t w : Nat) (b : Int32) (l : Nat) : Int32 := if goB f s t w l = true then b + 1 else b
theorem IVc.goC {p : IP} {u : HS} (h : IVc p u) {s t w : Nat} (hw : w < 3) {K : Int32 → Option (Nat × Int32 × HS)} : mX8_gone_L33 u (nI s) (nI t) (nI w) K FU 0 0 = K ((List.range (pN p)).foldl (goF (lkF u) s t w) 0) := by
  have n14 := h.n14
  refine foldP (L := mX8_gone_L33 u (nI s) (nI t) (nI w) K) (w := K) (n := pN p) (by omega) _ ?_ ?_ 0
  · intro fu b k hk
    obtain ⟨-, -, -, hv, -, -⟩ := h.vl k hk
    rw [mX8_gone_L33.eq_2, h.hn, if_neg (nI_ge hk (by omega))]
    unfold mX0_repliedAll
    rw [show mX0_inGroup u 0 (nI k) (nI s) (nI t) 0 = _ from h.igC hk (show 0 < 3 by decide), show mX0_inGroup u 0 (nI k) (nI s) (nI t) 1 = _ from h.igC hk (show 1 < 3 by decide), show mX0_inGroup u 0 (nI k) (nI s) (nI t) 2 = _ from h.igC hk (show 2 < 3 by decide)]
    simp only [igB_A, ob_q, bd_q, jp_q, nI_1, bI_0]
    unfold mX0_isLostTo
    simp only [show mX0_reply u 0 (nI k) 0 = _ from h.rep hk (show 0 < 3 by decide), show mX0_reply u 0 (nI k) 1 = _ from h.rep hk (show 1 < 3 by decide), show mX0_reply u 0 (nI k) 2 = _ from h.rep hk (show 2 < 3 by decide), ob_q, Nat.add_zero, show 3 + 1 = 4 from rfl, show 3 + 2 = 5 from rfl]
    have v3 := hv 0 (by decide)
    have v4 := hv 1 (by decide)
    have v5 := hv 2 (by decide)
    rw [show 3 + 0 = 3 from rfl] at v3
    rw [show 3 + 1 = 4 from rfl] at v4
    rw [show 3 + 2 = 5 from rfl] at v5
    unfold goF goB
    generalize lkF u k 3 = x3 at v3 ⊢
    generalize lkF u k 4 = x4 at v4 ⊢
    generalize lkF u k 5 = x5 at v5 ⊢
    cases igA (lkF u) s t k with
    | false => simp
    | true =>
      rcases v3 with rfl | rfl | rfl <;> rcases v4 with rfl | rfl | rfl <;> rcases v5 with rfl | rfl | rfl <;> (match w, hw with | 0, _ => rfl | 1, _ => rfl | 2, _ => rfl)
  · intro fu b
    rw [mX8_gone_L33.eq_2, h.hn, if_pos (nI_le (Nat.le_refl _) (by omega))]
theorem IVc.goR {p : IP} {u : HS} (h : IVc p u) {s t w : Nat} (hw : w < 3) {K : Int32 → Option (Int32 × HS)} : mX9_gone_L77 u (nI s) (nI t) (nI w) K FU 0 0 = K ((List.range (pN p)).foldl (goF (lkF u) s t w) 0) := by
  have n14 := h.n14
  refine foldP (L := mX9_gone_L77 u (nI s) (nI t) (nI w) K) (w := K) (n := pN p) (by omega) _ ?_ ?_ 0
  · intro fu b k hk
    obtain ⟨l14, ls, lt, l0, -, -, -, lf⟩ := h.lk hk
    obtain ⟨-, -, v2, hv, -, -⟩ := h.vl k hk
    rw [mX9_gone_L77.eq_2, h.rn, if_neg (nI_ge hk (by omega)), h.ofR hk]
    simp only [ck_nI (show k < 15 by omega) (show 15 < 2 ^ 31 by decide), ob_q, bd_q, jp_q, nI_1, bI_0, show ck 8 2 = some 2 from by decide, show ck 8 3 = some 3 from by decide, show ck 8 4 = some 4 from by decide, show ck 8 5 = some 5 from by decide, lf]
    have v3 := hv 0 (by decide)
    have v4 := hv 1 (by decide)
    have v5 := hv 2 (by decide)
    rw [show 3 + 0 = 3 from rfl] at v3
    rw [show 3 + 1 = 4 from rfl] at v4
    rw [show 3 + 2 = 5 from rfl] at v5
    unfold goF goB igA
    generalize lkF u k 2 = x2 at v2 ⊢
    generalize lkF u k 3 = x3 at v3 ⊢
    generalize lkF u k 4 = x4 at v4 ⊢
    generalize lkF u k 5 = x5 at v5 ⊢
    cases (decide (lkF u k 0 = nI s) && decide (lkF u k 1 = nI t)) with
    | false => simp
    | true =>
      rcases v2 with rfl | rfl <;> rcases v3 with rfl | rfl | rfl <;> rcases v4 with rfl | rfl | rfl <;> rcases v5 with rfl | rfl | rfl <;> (match w, hw with | 0, _ => (first | rfl | (show mX9_gone_L77 _ _ _ _ _ _ (b + 0) _ = _; rw [Int32.add_zero]; rfl)) | 1, _ => (first | rfl | (show mX9_gone_L77 _ _ _ _ _ _ (b + 0) _ = _; rw [Int32.add_zero]; rfl)) | 2, _ => (first | rfl | (show mX9_gone_L77 _ _ _ _ _ _ (b + 0) _ = _; rw [Int32.add_zero]; rfl)))
  · intro fu b
    rw [mX9_gone_L77.eq_2, h.rn, if_pos (nI_le (Nat.le_refl _) (by omega))]
/-! lost -/
def loV (p : IP) (u : HS) (l : Nat) : Int32 := if lkF u l 6 = -1 then -1 else if pT p (loT u l) 2 = -1 then -1 else amt (thrS (pC p (loS u l)) (pT p (loT u l) 2) - lkF u l 6)
theorem IVc.lostC {p : IP} {u : HS} (h : IVc p u) {l : Nat} (hl : l < pN p) : mX8_lostBy u (nI l) = some (loV p u l) := by
  have t6 := h.1.1.2.1
  obtain ⟨l14, ls, lt, l0, l1, m0, m1, lf⟩ := h.lk hl
  have s2 := (h.2.2.1 _ ls).2
  obtain ⟨-, r1, -, -, r6, -⟩ := h.row hl
  have hk2 := (h.2.2.2.1 _ lt).2 2 (by decide)
  unfold mX8_lostBy loV
  rw [ck_nI l14 (by decide)]
  simp only [ob_q, bd_q, r1, m1, r6]
  rw [ck_nI (show loT u l < 6 by omega) (by decide)]
  simp only [ob_q, hk2, h.sceneFor hl, cThrows s2]
  by_cases c : pT p (loT u l) 2 = -1
  · rw [if_pos c]
    by_cases d : lkF u l 6 = -1
    · rw [if_pos d]
    · rw [if_neg d, if_pos c]
  · rw [if_neg c]
    by_cases d : lkF u l 6 = -1
    · rw [if_pos d, if_pos d]
    · rw [if_neg d, if_neg d, if_neg c]
      unfold amt
      by_cases e : 0 ≤ thrS (pC p (loS u l)) (pT p (loT u l) 2) - lkF u l 6
      · rw [if_pos e, if_pos e]
      · rw [if_neg e, if_neg e, Int32.zero_sub]
theorem IVc.lostR {p : IP} {u : HS} (h : IVc p u) {l : Nat} (hl : l < pN p) : mX9_lostOf u (nI l) = some (loV p u l) := by
  have t6 := h.1.1.2.1
  obtain ⟨l14, ls, lt, l0, l1, m0, m1, lf⟩ := h.lk hl
  obtain ⟨s1, s2⟩ := h.2.2.1 _ ls
  have hk2 := (h.2.2.2.1 _ lt).1 2
  unfold mX9_lostOf loV
  simp only [ck_nI (show l < 15 by omega) (show 15 < 2 ^ 31 by decide), ob_q, show ck 8 6 = some 6 from by decide, show ck 8 1 = some 1 from by decide, show ck 5 2 = some 2 from by decide, c8_0, l0, l1, ck_nI (show loT u l < 6 by omega) (show 6 < 2 ^ 31 by decide), hk2, rThr s1 s2.1.2.1 (show loT u l < 6 by omega), rAmt, lf]
  split <;> first | rfl | (split <;> rfl)
theorem loV_ht {p : IP} {u : HS} {l : Nat} (h : pT p (loT u l) 2 ≠ -1) : decide (loV p u l ≠ -1) = decide (lkF u l 6 ≠ -1) := by
  unfold loV
  by_cases d : lkF u l 6 = -1
  · rw [if_pos d]; simp [d]
  · rw [if_neg d, if_neg h]
    have : ∀ z : Int32, amt z ≠ -1 := by
      intro z hz
      unfold amt at hz
      by_cases e : 0 ≤ z
      · rw [if_pos e] at hz; rw [hz] at e; revert e; decide
      · rw [if_neg e] at hz
        have : z = 1 := by rw [← Int32.neg_neg (a := z), hz]; rfl
        rw [this] at e; exact e (by decide)
    rw [decide_eq_true (this _), decide_eq_true d]
def htB (f : Nat → Nat → Int32) (s t l : Nat) : Bool := decide (f l 0 = nI s) && decide (f l 1 = nI t) && decide (f l 6 ≠ -1)
theorem IVc.htC {p : IP} {u : HS} (h : IVc p u) {l s t : Nat} (hl : l < pN p) : mX0_hasTallied u 0 (nI l) (nI s) (nI t) = some (bI (htB (lkF u) s t l)) := by
  obtain ⟨l14, -⟩ := h.lk hl
  obtain ⟨r0, r1, -, -, r6, -⟩ := h.row hl
  unfold mX0_hasTallied htB
  simp only [ck_nI l14 (show 14 < 2 ^ 31 by decide), ob_q, r0, r1, r6]
  by_cases c0 : lkF u l 0 = nI s
  · rw [if_pos c0]
    by_cases c1 : lkF u l 1 = nI t
    · rw [if_pos c1]
      by_cases c3 : lkF u l 6 = -1
      · rw [if_pos c3]; simp [c3, bI]
      · rw [if_neg c3]; simp [c0, c1, c3, bI]
    · rw [if_neg c1]; simp [c1, bI]
  · rw [if_neg c0]; simp [c0, bI]
def ltS (p : IP) (u : HS) (s t : Nat) : Int32 := (List.range (pN p)).foldl (fun b l => if htB (lkF u) s t l = true then b + loV p u l else b) 0
def tlS (p : IP) (u : HS) (s t : Nat) : Int32 := (List.range (pN p)).foldl (fun b l => b + bI (htB (lkF u) s t l)) 0
theorem IVc.ltC {p : IP} {u : HS} (h : IVc p u) {s t : Nat} : mX8_lostTogether u (nI s) (nI t) = some (ltS p u s t) := by
  have n14 := h.n14
  unfold mX8_lostTogether
  simp only [jp_q]
  refine foldP (L := mX8_lostTogether_L5 u (nI s) (nI t) (fun x => some x)) (w := fun x => some x) (by omega) _ ?_ ?_ 0
  · intro fu b k hk
    rw [mX8_lostTogether_L5.eq_2, h.hn, if_neg (nI_ge hk (by omega)), h.htC hk]
    simp only [ob_q, bd_q, nI_1, bI_0, h.lostC hk]
    cases htB (lkF u) s t k <;> simp
  · intro fu b
    rw [mX8_lostTogether_L5.eq_2, h.hn, if_pos (nI_le (Nat.le_refl _) (by omega))]
theorem IVc.tlC {p : IP} {u : HS} (h : IVc p u) {s t : Nat} : mX0_talliedOf u 0 (nI s) (nI t) = some (tlS p u s t) := by
  have n14 := h.n14
  unfold mX0_talliedOf
  simp only [jp_q]
  refine foldP (L := mX0_talliedOf_L5 u 0 (nI s) (nI t) (fun x => some x)) (w := fun x => some x) (by omega) _ ?_ ?_ 0
  · intro fu b k hk
    rw [mX0_talliedOf_L5.eq_2, h.hn, if_neg (nI_ge hk (by omega)), h.htC hk]
    simp only [ob_q, bd_q, nI_1, bI_n]
  · intro fu b
    rw [mX0_talliedOf_L5.eq_2, h.hn, if_pos (nI_le (Nat.le_refl _) (by omega))]
def lbF (p : IP) (u : HS) (s t : Nat) (m : Bool) (b : Int32) (l : Nat) : Int32 := if (decide (lkF u l 0 = nI s) && decide (lkF u l 1 = nI t) && decide (loV p u l ≠ -1)) = true then b + (if m = true then 1 else loV p u l) else b
theorem IVc.lbR {p : IP} {u : HS} (h : IVc p u) {s t : Nat} (m : Bool) : mX9_lostBy u (nI s) (nI t) (bI m) = some ((List.range (pN p)).foldl (lbF p u s t m) 0) := by
  have n14 := h.n14
  unfold mX9_lostBy
  simp only [jp_q]
  refine foldP (L := mX9_lostBy_L6 u (nI s) (nI t) (bI m) (fun x => some x)) (w := fun x => some x) (by omega) _ ?_ ?_ 0
  · intro fu b k hk
    rw [mX9_lostBy_L6.eq_2, h.rn, if_neg (nI_ge hk (by omega)), h.ofR hk]
    simp only [ob_q, bd_q, nI_1, bI_0, h.lostR hk]
    unfold lbF
    cases (decide (lkF u k 0 = nI s) && decide (lkF u k 1 = nI t)) with
    | false => simp
    | true =>
      by_cases c : loV p u k = -1
      · simp [c]
      · cases m <;> simp [c]
  · intro fu b
    rw [mX9_lostBy_L6.eq_2, h.rn, if_pos (nI_le (Nat.le_refl _) (by omega))]
theorem IVc.lb0 {p : IP} {u : HS} (h : IVc p u) {s t : Nat} (m : Bool) (ht : t < pNt p) (hk : pT p t 2 = -1) : (List.range (pN p)).foldl (lbF p u s t m) 0 = 0 := by
  have : ∀ k, k ≤ pN p → (List.range k).foldl (lbF p u s t m) 0 = 0 := by
    intro k
    induction k with
    | zero => exact fun _ => rfl
    | succ k ih =>
      intro hk'
      rw [rsucc, ih (by omega)]
      obtain ⟨l14, ls, lt, l0, l1, m0, m1, lf⟩ := h.lk (show k < pN p by omega)
      have t6 := h.1.1.2.1
      unfold lbF
      by_cases c : lkF u k 1 = nI t
      · have e : loT u k = t := (nI_eq (by omega) (by omega)).mp (m1.symm.trans c)
        have : loV p u k = -1 := by unfold loV; rw [e, hk]; simp
        simp [this]
      · simp [c]
  exact this _ (Nat.le_refl _)
theorem foldl_congr {α : Type} {F G : α → Nat → α} {a : α} : ∀ {n : Nat}, (∀ k, k < n → ∀ b, F b k = G b k) → (List.range n).foldl F a = (List.range n).foldl G a := by
  intro n
  induction n with
  | zero => exact fun _ => rfl
  | succ n ih => exact fun h => by rw [rsucc, rsucc, ih (fun k hk => h k (by omega)), h n (by omega)]
theorem IVc.lb1 {p : IP} {u : HS} (h : IVc p u) {s t : Nat} (ht : t < pNt p) (hk : pT p t 2 ≠ -1) : (List.range (pN p)).foldl (lbF p u s t false) 0 = ltS p u s t ∧ (List.range (pN p)).foldl (lbF p u s t true) 0 = tlS p u s t := by
  have e : ∀ k, k < pN p → (decide (lkF u k 0 = nI s) && decide (lkF u k 1 = nI t) && decide (loV p u k ≠ -1)) = htB (lkF u) s t k := by
    intro k hk'
    obtain ⟨l14, ls, lt, l0, l1, m0, m1, lf⟩ := h.lk hk'
    have t6 := h.1.1.2.1
    unfold htB
    by_cases c : lkF u k 1 = nI t
    · have e : loT u k = t := (nI_eq (by omega) (by omega)).mp (m1.symm.trans c)
      rw [loV_ht (by rw [e]; exact hk)]
    · simp [c]
  refine ⟨foldl_congr fun k hk b => ?_, foldl_congr fun k hk b => ?_⟩
  · unfold lbF; rw [e k hk]; simp
  · unfold lbF; rw [e k hk]; cases htB (lkF u) s t k <;> simp [bI]
/-! off -/
def ofB (f : Nat → Nat → Int32) (s t l : Nat) : Bool := igB f s t 0 l && decide (f l 7 ≠ -1)
def ofF (f : Nat → Nat → Int32) (s t : Nat) (b : Int32 × Int32) (l : Nat) : Int32 × Int32 := if ofB f s t l = true then (b.1 + (f l 7 - 100 * f l 3), b.2 + (if f l 7 < 50 then 0 else if f l 3 = 0 then 1 else 0)) else b
theorem IVc.offC {p : IP} {u : HS} (h : IVc p u) {s t : Nat} {K : Int32 → Int32 → Option (Nat × Int32 × HS)} : mX8_off_L36 u (nI s) (nI t) K FU 0 0 0 = K ((List.range (pN p)).foldl (ofF (lkF u) s t) (0, 0)).1 ((List.range (pN p)).foldl (ofF (lkF u) s t) (0, 0)).2 := by
  have n14 := h.n14
  refine foldP (L := fun fu (b : Int32 × Int32) i => mX8_off_L36 u (nI s) (nI t) K fu b.1 b.2 i) (w := fun b => K b.1 b.2) (n := pN p) (by omega) (ofF (lkF u) s t) ?_ ?_ (0, 0)
  · intro fu ⟨x, y⟩ k hk
    obtain ⟨l14, -⟩ := h.lk hk
    obtain ⟨-, -, -, -, -, r7⟩ := h.row hk
    show mX8_off_L36 u (nI s) (nI t) K (fu + 1) x y (nI k) = _
    rw [mX8_off_L36.eq_2, h.hn, if_neg (nI_ge hk (by omega)), show mX0_inGroup u 0 (nI k) (nI s) (nI t) 0 = _ from h.igC hk (show 0 < 3 by decide), show mX0_reply u 0 (nI k) 0 = _ from h.rep hk (show 0 < 3 by decide)]
    simp only [ob_q, bd_q, jp_q, nI_1, bI_0, ck_nI l14 (show 14 < 2 ^ 31 by decide), r7, Nat.add_zero]
    unfold ofF ofB
    cases igB (lkF u) s t 0 k with
    | false => simp
    | true =>
      by_cases c : lkF u k 7 = -1
      · simp [c]
      · by_cases d : lkF u k 7 < 50
        · simp [c, d]
        · by_cases e : lkF u k 3 = 0 <;> simp [c, d, e]
  · intro fu ⟨x, y⟩
    show mX8_off_L36 u (nI s) (nI t) K (fu + 1) x y (nI (pN p)) = _
    rw [mX8_off_L36.eq_2, h.hn, if_pos (nI_le (Nat.le_refl _) (by omega))]
theorem IVc.offR {p : IP} {u : HS} (h : IVc p u) {s t : Nat} {K : Int32 → Int32 → Option (Int32 × HS)} : mX9_off_L80 u (nI s) (nI t) K FU 0 0 0 = K ((List.range (pN p)).foldl (ofF (lkF u) s t) (0, 0)).1 ((List.range (pN p)).foldl (ofF (lkF u) s t) (0, 0)).2 := by
  have n14 := h.n14
  refine foldP (L := fun fu (b : Int32 × Int32) i => mX9_off_L80 u (nI s) (nI t) K fu b.1 b.2 i) (w := fun b => K b.1 b.2) (n := pN p) (by omega) (ofF (lkF u) s t) ?_ ?_ (0, 0)
  · intro fu ⟨x, y⟩ k hk
    obtain ⟨l14, ls, lt, l0, -, -, -, lf⟩ := h.lk hk
    show mX9_off_L80 u (nI s) (nI t) K (fu + 1) x y (nI k) = _
    rw [mX9_off_L80.eq_2, h.rn, if_neg (nI_ge hk (by omega)), show mX9_isInGroup u (nI k) (nI s) (nI t) 0 = _ from h.igR hk (show 0 < 3 by decide)]
    simp only [ob_q, bd_q, jp_q, nI_1, bI_0, ck_nI (show k < 15 by omega) (show 15 < 2 ^ 31 by decide), show ck 8 7 = some 7 from by decide, show ck 8 3 = some 3 from by decide, lf]
    unfold ofF ofB
    cases igB (lkF u) s t 0 k with
    | false => simp
    | true =>
      by_cases c : lkF u k 7 = -1
      · simp [c]
      · by_cases d : lkF u k 7 < 50
        · simp [c, d]
        · by_cases e : lkF u k 3 = 0 <;> simp [c, d, e]
  · intro fu ⟨x, y⟩
    show mX9_off_L80 u (nI s) (nI t) K (fu + 1) x y (nI (pN p)) = _
    rw [mX9_off_L80.eq_2, h.rn, if_pos (nI_le (Nat.le_refl _) (by omega))]
-- gone
set_option maxHeartbeats 2000000 in
theorem s_gone (x1 x2 x3 : Int32) : Step [2, 3, 1] (fun u => mX8_gone u x1 x2 x3) (fun u => mX9_gone u x1 x2 x3) := by
  intro u hI
  have ⟨p, h, hv⟩ := hI
  have hw := w0c h
  have n6 := h.1.1.1
  have t6 := h.1.1.2.1
  have q4 := h.1.1.2.2.1
  have n14 := h.2.2.2.2.2.1.2.1.1.1
  cases b1 : inB x1 (pNs p) with
  | false =>
    refine Step.bad hI (k := 2) (v := 0) (b := 0) (c := 1) ?_ ?_ (by decide)
    · unfold mX8_gone; simp only [bd_q, jp_q, ob_q, on_q, if_true, if_false, Bool.false_eq_true, Bool.true_eq_false, Bool.not_true, Bool.not_false, pr99, pr9, pr8, cReqS h, cReqT h, cReqQ h, cReqL h, cReqB, cReq0, cReq1, cTenthB, cAskB, cFitB, xqz, xq1, xq2, xq3, pl2, pl3, pl4, pl5, pl14, pl40, pl50, pl100, pl999, pe3, pe11, pe30, pe40, pe300, bI_if, bI_0, b1]
    · show mX9_gone u x1 x2 x3 = _
      unfold mX9_gone; simp only [bd_q, jp_q, ob_q, on_q, if_true, if_false, Bool.false_eq_true, Bool.true_eq_false, Bool.not_true, Bool.not_false, ir99, ir9, ir8, w0e, rIsS hw, rIsT hw, rIsQ hw, rIsL hw, rBad w00 _ (show (1 : Int32) ≠ 0 by decide), rBad w00 _ (show (2 : Int32) ≠ 0 by decide), rBad w00 _ (show (3 : Int32) ≠ 0 by decide), rBad1 w00 (show (1 : Int32) ≠ 0 by decide), rBad1 w00 (show (2 : Int32) ≠ 0 by decide), rBad1 w00 (show (3 : Int32) ≠ 0 by decide), rBad0 w00 (show (1 : Int32) ≠ 0 by decide), rBad0 w00 (show (2 : Int32) ≠ 0 by decide), rBad0 w00 (show (3 : Int32) ≠ 0 by decide), e10, in2, in3, in4, in5, in10, in14, in29, in39, in40, in50, in100, in299, in999, bI_nn, bI_0, b1]
  | true =>
  obtain ⟨s, hs, rfl⟩ := inB_t (by omega) b1
  cases b2 : inB x2 (pNt p) with
  | false =>
    refine Step.bad hI (k := 3) (v := 0) (b := 0) (c := 2) ?_ ?_ (by decide)
    · unfold mX8_gone; simp only [bd_q, jp_q, ob_q, on_q, if_true, if_false, Bool.false_eq_true, Bool.true_eq_false, Bool.not_true, Bool.not_false, pr99, pr9, pr8, cReqS h, cReqT h, cReqQ h, cReqL h, cReqB, cReq0, cReq1, cTenthB, cAskB, cFitB, xqz, xq1, xq2, xq3, pl2, pl3, pl4, pl5, pl14, pl40, pl50, pl100, pl999, pe3, pe11, pe30, pe40, pe300, bI_if, bI_0, b1, b2]
    · show mX9_gone u (nI s) x2 x3 = _
      unfold mX9_gone; simp only [bd_q, jp_q, ob_q, on_q, if_true, if_false, Bool.false_eq_true, Bool.true_eq_false, Bool.not_true, Bool.not_false, ir99, ir9, ir8, w0e, rIsS hw, rIsT hw, rIsQ hw, rIsL hw, rBad w00 _ (show (1 : Int32) ≠ 0 by decide), rBad w00 _ (show (2 : Int32) ≠ 0 by decide), rBad w00 _ (show (3 : Int32) ≠ 0 by decide), rBad1 w00 (show (1 : Int32) ≠ 0 by decide), rBad1 w00 (show (2 : Int32) ≠ 0 by decide), rBad1 w00 (show (3 : Int32) ≠ 0 by decide), rBad0 w00 (show (1 : Int32) ≠ 0 by decide), rBad0 w00 (show (2 : Int32) ≠ 0 by decide), rBad0 w00 (show (3 : Int32) ≠ 0 by decide), e10, in2, in3, in4, in5, in10, in14, in29, in39, in40, in50, in100, in299, in999, bI_nn, bI_0, b1, b2]
  | true =>
  obtain ⟨t, ht, rfl⟩ := inB_t (by omega) b2
  cases b3 : inB x3 3 with
  | false =>
    refine Step.bad hI (k := 1) (v := 0) (b := 0) (c := 3) ?_ ?_ (by decide)
    · unfold mX8_gone; simp only [bd_q, jp_q, ob_q, on_q, if_true, if_false, Bool.false_eq_true, Bool.true_eq_false, Bool.not_true, Bool.not_false, pr99, pr9, pr8, cReqS h, cReqT h, cReqQ h, cReqL h, cReqB, cReq0, cReq1, cTenthB, cAskB, cFitB, xqz, xq1, xq2, xq3, pl2, pl3, pl4, pl5, pl14, pl40, pl50, pl100, pl999, pe3, pe11, pe30, pe40, pe300, bI_if, bI_0, b1, b2, b3]
    · show mX9_gone u (nI s) (nI t) x3 = _
      unfold mX9_gone; simp only [bd_q, jp_q, ob_q, on_q, if_true, if_false, Bool.false_eq_true, Bool.true_eq_false, Bool.not_true, Bool.not_false, ir99, ir9, ir8, w0e, rIsS hw, rIsT hw, rIsQ hw, rIsL hw, rBad w00 _ (show (1 : Int32) ≠ 0 by decide), rBad w00 _ (show (2 : Int32) ≠ 0 by decide), rBad w00 _ (show (3 : Int32) ≠ 0 by decide), rBad1 w00 (show (1 : Int32) ≠ 0 by decide), rBad1 w00 (show (2 : Int32) ≠ 0 by decide), rBad1 w00 (show (3 : Int32) ≠ 0 by decide), rBad0 w00 (show (1 : Int32) ≠ 0 by decide), rBad0 w00 (show (2 : Int32) ≠ 0 by decide), rBad0 w00 (show (3 : Int32) ≠ 0 by decide), e10, in2, in3, in4, in5, in10, in14, in29, in39, in40, in50, in100, in299, in999, bI_nn, bI_0, b1, b2, b3]
  | true =>
  obtain ⟨w, hwt, rfl⟩ := inB_t (by decide) b3
  have lw := (QF.w0 (u := u) (c := 0)).lk2
  refine Step.same h hv (v := (List.range (pN p)).foldl (goF (lkF u) s t w) 0) ?_ ?_
  · unfold mX8_gone; simp only [bd_q, jp_q, ob_q, on_q, if_true, if_false, Bool.false_eq_true, Bool.true_eq_false, Bool.not_true, Bool.not_false, pr99, pr9, pr8, cReqS h, cReqT h, cReqQ h, cReqL h, cReqB, cReq0, cReq1, cTenthB, cAskB, cFitB, xqz, xq1, xq2, xq3, pl2, pl3, pl4, pl5, pl14, pl40, pl50, pl100, pl999, pe3, pe11, pe30, pe40, pe300, bI_if, bI_0, b1, b2, b3, kn02, inB_in02, kn02, h.goC hwt]
  · show mX9_gone u (nI s) (nI t) (nI w) = _
    unfold mX9_gone; simp only [bd_q, jp_q, ob_q, on_q, if_true, if_false, Bool.false_eq_true, Bool.true_eq_false, Bool.not_true, Bool.not_false, ir99, ir9, ir8, w0e, rIsS hw, rIsT hw, rIsQ hw, rIsL hw, rBad w00 _ (show (1 : Int32) ≠ 0 by decide), rBad w00 _ (show (2 : Int32) ≠ 0 by decide), rBad w00 _ (show (3 : Int32) ≠ 0 by decide), rBad1 w00 (show (1 : Int32) ≠ 0 by decide), rBad1 w00 (show (2 : Int32) ≠ 0 by decide), rBad1 w00 (show (3 : Int32) ≠ 0 by decide), rBad0 w00 (show (1 : Int32) ≠ 0 by decide), rBad0 w00 (show (2 : Int32) ≠ 0 by decide), rBad0 w00 (show (3 : Int32) ≠ 0 by decide), e10, in2, in3, in4, in5, in10, in14, in29, in39, in40, in50, in100, in299, in999, bI_nn, bI_0, b1, b2, b3, kn02, inB_in02, inB_in02, hw.goR hwt, show lkF (w0 u) = lkF u from lw]
-- lost
set_option maxHeartbeats 2000000 in
theorem s_lost (x1 : Int32) : Step [1] (fun u => mX8_lost u x1) (fun u => mX9_lost u x1) := by
  intro u hI
  have ⟨p, h, hv⟩ := hI
  have hw := w0c h
  have n6 := h.1.1.1
  have t6 := h.1.1.2.1
  have q4 := h.1.1.2.2.1
  have n14 := h.2.2.2.2.2.1.2.1.1.1
  cases b1 : inB x1 (pN p) with
  | false =>
    refine Step.bad hI (k := 1) (v := 0) (b := 0) (c := 1) ?_ ?_ (by decide)
    · unfold mX8_lost; simp only [bd_q, jp_q, ob_q, on_q, if_true, if_false, Bool.false_eq_true, Bool.true_eq_false, Bool.not_true, Bool.not_false, pr99, pr9, pr8, cReqS h, cReqT h, cReqQ h, cReqL h, cReqB, cReq0, cReq1, cTenthB, cAskB, cFitB, xqz, xq1, xq2, xq3, pl2, pl3, pl4, pl5, pl14, pl40, pl50, pl100, pl999, pe3, pe11, pe30, pe40, pe300, bI_if, bI_0, b1]
    · show mX9_lost u x1 = _
      unfold mX9_lost; simp only [bd_q, jp_q, ob_q, on_q, if_true, if_false, Bool.false_eq_true, Bool.true_eq_false, Bool.not_true, Bool.not_false, ir99, ir9, ir8, w0e, rIsS hw, rIsT hw, rIsQ hw, rIsL hw, rBad w00 _ (show (1 : Int32) ≠ 0 by decide), rBad w00 _ (show (2 : Int32) ≠ 0 by decide), rBad w00 _ (show (3 : Int32) ≠ 0 by decide), rBad1 w00 (show (1 : Int32) ≠ 0 by decide), rBad1 w00 (show (2 : Int32) ≠ 0 by decide), rBad1 w00 (show (3 : Int32) ≠ 0 by decide), rBad0 w00 (show (1 : Int32) ≠ 0 by decide), rBad0 w00 (show (2 : Int32) ≠ 0 by decide), rBad0 w00 (show (3 : Int32) ≠ 0 by decide), e10, in2, in3, in4, in5, in10, in14, in29, in39, in40, in50, in100, in299, in999, bI_nn, bI_0, b1]
  | true =>
  obtain ⟨l, hl, rfl⟩ := inB_t (by omega) b1
  have lw := (QF.w0 (u := u) (c := 0)).lo (p := p) 0 l
  have lw2 := (QF.w0 (u := u) (c := 0)).lk2
  have e : loV p (w0 u) l = loV p u l := by unfold loV; rw [show loS (w0 u) l = loS u l from lw.1, show loT (w0 u) l = loT u l from lw.2.1, show lkF (w0 u) = lkF u from lw2]
  refine Step.same h hv (v := loV p u l) ?_ ?_
  · unfold mX8_lost; simp only [bd_q, jp_q, ob_q, on_q, if_true, if_false, Bool.false_eq_true, Bool.true_eq_false, Bool.not_true, Bool.not_false, pr99, pr9, pr8, cReqS h, cReqT h, cReqQ h, cReqL h, cReqB, cReq0, cReq1, cTenthB, cAskB, cFitB, xqz, xq1, xq2, xq3, pl2, pl3, pl4, pl5, pl14, pl40, pl50, pl100, pl999, pe3, pe11, pe30, pe40, pe300, bI_if, bI_0, b1, h.lostC hl]
  · show mX9_lost u (nI l) = _
    unfold mX9_lost; simp only [bd_q, jp_q, ob_q, on_q, if_true, if_false, Bool.false_eq_true, Bool.true_eq_false, Bool.not_true, Bool.not_false, ir99, ir9, ir8, w0e, rIsS hw, rIsT hw, rIsQ hw, rIsL hw, rBad w00 _ (show (1 : Int32) ≠ 0 by decide), rBad w00 _ (show (2 : Int32) ≠ 0 by decide), rBad w00 _ (show (3 : Int32) ≠ 0 by decide), rBad1 w00 (show (1 : Int32) ≠ 0 by decide), rBad1 w00 (show (2 : Int32) ≠ 0 by decide), rBad1 w00 (show (3 : Int32) ≠ 0 by decide), rBad0 w00 (show (1 : Int32) ≠ 0 by decide), rBad0 w00 (show (2 : Int32) ≠ 0 by decide), rBad0 w00 (show (3 : Int32) ≠ 0 by decide), e10, in2, in3, in4, in5, in10, in14, in29, in39, in40, in50, in100, in299, in999, bI_nn, bI_0, b1, hw.lostR hl, e]
-- cost
set_option maxHeartbeats 2000000 in
theorem s_cost (x1 x2 x3 : Int32) : Step [2, 3] (fun u => mX8_cost u x1 x2 x3) (fun u => mX9_cost u x1 x2 x3) := by
  intro u hI
  have ⟨p, h, hv⟩ := hI
  have hw := w0c h
  have n6 := h.1.1.1
  have t6 := h.1.1.2.1
  have q4 := h.1.1.2.2.1
  have n14 := h.2.2.2.2.2.1.2.1.1.1
  cases b1 : inB x1 (pNs p) with
  | false =>
    refine Step.bad hI (k := 2) (v := 0) (b := 0) (c := 1) ?_ ?_ (by decide)
    · unfold mX8_cost; simp only [bd_q, jp_q, ob_q, on_q, if_true, if_false, Bool.false_eq_true, Bool.true_eq_false, Bool.not_true, Bool.not_false, pr99, pr9, pr8, cReqS h, cReqT h, cReqQ h, cReqL h, cReqB, cReq0, cReq1, cTenthB, cAskB, cFitB, xqz, xq1, xq2, xq3, pl2, pl3, pl4, pl5, pl14, pl40, pl50, pl100, pl999, pe3, pe11, pe30, pe40, pe300, bI_if, bI_0, b1]
    · show mX9_cost u x1 x2 x3 = _
      unfold mX9_cost; simp only [bd_q, jp_q, ob_q, on_q, if_true, if_false, Bool.false_eq_true, Bool.true_eq_false, Bool.not_true, Bool.not_false, ir99, ir9, ir8, w0e, rIsS hw, rIsT hw, rIsQ hw, rIsL hw, rBad w00 _ (show (1 : Int32) ≠ 0 by decide), rBad w00 _ (show (2 : Int32) ≠ 0 by decide), rBad w00 _ (show (3 : Int32) ≠ 0 by decide), rBad1 w00 (show (1 : Int32) ≠ 0 by decide), rBad1 w00 (show (2 : Int32) ≠ 0 by decide), rBad1 w00 (show (3 : Int32) ≠ 0 by decide), rBad0 w00 (show (1 : Int32) ≠ 0 by decide), rBad0 w00 (show (2 : Int32) ≠ 0 by decide), rBad0 w00 (show (3 : Int32) ≠ 0 by decide), e10, in2, in3, in4, in5, in10, in14, in29, in39, in40, in50, in100, in299, in999, bI_nn, bI_0, b1]
  | true =>
  obtain ⟨s, hs, rfl⟩ := inB_t (by omega) b1
  cases b2 : inB x2 (pNt p) with
  | false =>
    refine Step.bad hI (k := 3) (v := 0) (b := 0) (c := 2) ?_ ?_ (by decide)
    · unfold mX8_cost; simp only [bd_q, jp_q, ob_q, on_q, if_true, if_false, Bool.false_eq_true, Bool.true_eq_false, Bool.not_true, Bool.not_false, pr99, pr9, pr8, cReqS h, cReqT h, cReqQ h, cReqL h, cReqB, cReq0, cReq1, cTenthB, cAskB, cFitB, xqz, xq1, xq2, xq3, pl2, pl3, pl4, pl5, pl14, pl40, pl50, pl100, pl999, pe3, pe11, pe30, pe40, pe300, bI_if, bI_0, b1, b2]
    · show mX9_cost u (nI s) x2 x3 = _
      unfold mX9_cost; simp only [bd_q, jp_q, ob_q, on_q, if_true, if_false, Bool.false_eq_true, Bool.true_eq_false, Bool.not_true, Bool.not_false, ir99, ir9, ir8, w0e, rIsS hw, rIsT hw, rIsQ hw, rIsL hw, rBad w00 _ (show (1 : Int32) ≠ 0 by decide), rBad w00 _ (show (2 : Int32) ≠ 0 by decide), rBad w00 _ (show (3 : Int32) ≠ 0 by decide), rBad1 w00 (show (1 : Int32) ≠ 0 by decide), rBad1 w00 (show (2 : Int32) ≠ 0 by decide), rBad1 w00 (show (3 : Int32) ≠ 0 by decide), rBad0 w00 (show (1 : Int32) ≠ 0 by decide), rBad0 w00 (show (2 : Int32) ≠ 0 by decide), rBad0 w00 (show (3 : Int32) ≠ 0 by decide), e10, in2, in3, in4, in5, in10, in14, in29, in39, in40, in50, in100, in299, in999, bI_nn, bI_0, b1, b2]
  | true =>
  obtain ⟨t, ht, rfl⟩ := inB_t (by omega) b2
  cases b3 : inB x3 (pNt p) with
  | false =>
    refine Step.bad hI (k := 3) (v := 0) (b := 0) (c := 2) ?_ ?_ (by decide)
    · unfold mX8_cost; simp only [bd_q, jp_q, ob_q, on_q, if_true, if_false, Bool.false_eq_true, Bool.true_eq_false, Bool.not_true, Bool.not_false, pr99, pr9, pr8, cReqS h, cReqT h, cReqQ h, cReqL h, cReqB, cReq0, cReq1, cTenthB, cAskB, cFitB, xqz, xq1, xq2, xq3, pl2, pl3, pl4, pl5, pl14, pl40, pl50, pl100, pl999, pe3, pe11, pe30, pe40, pe300, bI_if, bI_0, b1, b2, b3]
    · show mX9_cost u (nI s) (nI t) x3 = _
      unfold mX9_cost; simp only [bd_q, jp_q, ob_q, on_q, if_true, if_false, Bool.false_eq_true, Bool.true_eq_false, Bool.not_true, Bool.not_false, ir99, ir9, ir8, w0e, rIsS hw, rIsT hw, rIsQ hw, rIsL hw, rBad w00 _ (show (1 : Int32) ≠ 0 by decide), rBad w00 _ (show (2 : Int32) ≠ 0 by decide), rBad w00 _ (show (3 : Int32) ≠ 0 by decide), rBad1 w00 (show (1 : Int32) ≠ 0 by decide), rBad1 w00 (show (2 : Int32) ≠ 0 by decide), rBad1 w00 (show (3 : Int32) ≠ 0 by decide), rBad0 w00 (show (1 : Int32) ≠ 0 by decide), rBad0 w00 (show (2 : Int32) ≠ 0 by decide), rBad0 w00 (show (3 : Int32) ≠ 0 by decide), e10, in2, in3, in4, in5, in10, in14, in29, in39, in40, in50, in100, in299, in999, bI_nn, bI_0, b1, b2, b3]
  | true =>
  obtain ⟨o, ho, rfl⟩ := inB_t (by omega) b3
  have lw2 := (QF.w0 (u := u) (c := 0)).lk2
  have eL : loV p (w0 u) = loV p u := by funext l; have lw := (QF.w0 (u := u) (c := 0)).lo (p := p) 0 l; unfold loV; rw [show loS (w0 u) l = loS u l from lw.1, show loT (w0 u) l = loT u l from lw.2.1, show lkF (w0 u) = lkF u from lw2]
  have eB : ∀ s t m, lbF p (w0 u) s t m = lbF p u s t m := fun s t m => by funext b l; unfold lbF; rw [eL, show lkF (w0 u) = lkF u from lw2]
  have r00 := hw.lbR (s := s) (t := t) false
  have r01 := hw.lbR (s := s) (t := t) true
  have r10 := hw.lbR (s := s) (t := o) false
  have r11 := hw.lbR (s := s) (t := o) true
  rw [eB] at r00 r01 r10 r11
  rw [show bI false = 0 from rfl] at r00 r10
  rw [show bI true = 1 from rfl] at r01 r11
  have t6a : t < 6 := by omega
  have t6b : o < 6 := by omega
  have k1 := (h.2.2.2.1 t ht).2 2 (by decide)
  have k2 := (h.2.2.2.1 o ho).2 2 (by decide)
  have hR : mX9_cost u (nI s) (nI t) (nI o) = some ((List.range (pN p)).foldl (lbF p u s t false) 0 * (List.range (pN p)).foldl (lbF p u s o true) 0 - (List.range (pN p)).foldl (lbF p u s o false) 0 * (List.range (pN p)).foldl (lbF p u s t true) 0, w0 u) := by
    unfold mX9_cost; simp only [bd_q, jp_q, ob_q, on_q, if_true, if_false, Bool.false_eq_true, Bool.true_eq_false, Bool.not_true, Bool.not_false, ir99, ir9, ir8, w0e, rIsS hw, rIsT hw, rIsQ hw, rIsL hw, rBad w00 _ (show (1 : Int32) ≠ 0 by decide), rBad w00 _ (show (2 : Int32) ≠ 0 by decide), rBad w00 _ (show (3 : Int32) ≠ 0 by decide), rBad1 w00 (show (1 : Int32) ≠ 0 by decide), rBad1 w00 (show (2 : Int32) ≠ 0 by decide), rBad1 w00 (show (3 : Int32) ≠ 0 by decide), rBad0 w00 (show (1 : Int32) ≠ 0 by decide), rBad0 w00 (show (2 : Int32) ≠ 0 by decide), rBad0 w00 (show (3 : Int32) ≠ 0 by decide), e10, in2, in3, in4, in5, in10, in14, in29, in39, in40, in50, in100, in299, in999, bI_nn, bI_0, b1, b2, b3, r00, r01, r10, r11]
  by_cases c1 : pT p t 2 = -1
  · rw [h.lb0 false ht c1, h.lb0 true ht c1, Int32.zero_mul, Int32.mul_zero] at hR
    refine Step.same h hv (v := 0 - 0) ?_ hR
    unfold mX8_cost; simp only [bd_q, jp_q, ob_q, on_q, if_true, if_false, Bool.false_eq_true, Bool.true_eq_false, Bool.not_true, Bool.not_false, pr99, pr9, pr8, cReqS h, cReqT h, cReqQ h, cReqL h, cReqB, cReq0, cReq1, cTenthB, cAskB, cFitB, xqz, xq1, xq2, xq3, pl2, pl3, pl4, pl5, pl14, pl40, pl50, pl100, pl999, pe3, pe11, pe30, pe40, pe300, bI_if, bI_0, b1, b2, b3, ck_nI t6a (show 6 < 2 ^ 31 by decide), k1, c1, if_true]; rfl
  · by_cases c2 : pT p o 2 = -1
    · rw [h.lb0 false ho c2, h.lb0 true ho c2, Int32.zero_mul, Int32.mul_zero] at hR
      refine Step.same h hv (v := 0 - 0) ?_ hR
      unfold mX8_cost; simp only [bd_q, jp_q, ob_q, on_q, if_true, if_false, Bool.false_eq_true, Bool.true_eq_false, Bool.not_true, Bool.not_false, pr99, pr9, pr8, cReqS h, cReqT h, cReqQ h, cReqL h, cReqB, cReq0, cReq1, cTenthB, cAskB, cFitB, xqz, xq1, xq2, xq3, pl2, pl3, pl4, pl5, pl14, pl40, pl50, pl100, pl999, pe3, pe11, pe30, pe40, pe300, bI_if, bI_0, b1, b2, b3, ck_nI t6a (show 6 < 2 ^ 31 by decide), ck_nI t6b (show 6 < 2 ^ 31 by decide), k1, k2, c1, c2, if_true, if_false]; rfl
    · rw [(h.lb1 ht c1).1, (h.lb1 ht c1).2, (h.lb1 ho c2).1, (h.lb1 ho c2).2] at hR
      refine Step.same h hv ?_ hR
      unfold mX8_cost; simp only [bd_q, jp_q, ob_q, on_q, if_true, if_false, Bool.false_eq_true, Bool.true_eq_false, Bool.not_true, Bool.not_false, pr99, pr9, pr8, cReqS h, cReqT h, cReqQ h, cReqL h, cReqB, cReq0, cReq1, cTenthB, cAskB, cFitB, xqz, xq1, xq2, xq3, pl2, pl3, pl4, pl5, pl14, pl40, pl50, pl100, pl999, pe3, pe11, pe30, pe40, pe300, bI_if, bI_0, b1, b2, b3, ck_nI t6a (show 6 < 2 ^ 31 by decide), ck_nI t6b (show 6 < 2 ^ 31 by decide), k1, k2, c1, c2, if_false, h.ltC, h.tlC]
-- off
set_option maxHeartbeats 2000000 in
theorem s_off (x1 x2 x3 : Int32) : Step [2, 3, 1] (fun u => mX8_off u x1 x2 x3) (fun u => mX9_off u x1 x2 x3) := by
  intro u hI
  have ⟨p, h, hv⟩ := hI
  have hw := w0c h
  have n6 := h.1.1.1
  have t6 := h.1.1.2.1
  have q4 := h.1.1.2.2.1
  have n14 := h.2.2.2.2.2.1.2.1.1.1
  cases b1 : inB x1 (pNs p) with
  | false =>
    refine Step.bad hI (k := 2) (v := 0) (b := 0) (c := 1) ?_ ?_ (by decide)
    · unfold mX8_off; simp only [bd_q, jp_q, ob_q, on_q, if_true, if_false, Bool.false_eq_true, Bool.true_eq_false, Bool.not_true, Bool.not_false, pr99, pr9, pr8, cReqS h, cReqT h, cReqQ h, cReqL h, cReqB, cReq0, cReq1, cTenthB, cAskB, cFitB, xqz, xq1, xq2, xq3, pl2, pl3, pl4, pl5, pl14, pl40, pl50, pl100, pl999, pe3, pe11, pe30, pe40, pe300, bI_if, bI_0, b1]
    · show mX9_off u x1 x2 x3 = _
      unfold mX9_off; simp only [bd_q, jp_q, ob_q, on_q, if_true, if_false, Bool.false_eq_true, Bool.true_eq_false, Bool.not_true, Bool.not_false, ir99, ir9, ir8, w0e, rIsS hw, rIsT hw, rIsQ hw, rIsL hw, rBad w00 _ (show (1 : Int32) ≠ 0 by decide), rBad w00 _ (show (2 : Int32) ≠ 0 by decide), rBad w00 _ (show (3 : Int32) ≠ 0 by decide), rBad1 w00 (show (1 : Int32) ≠ 0 by decide), rBad1 w00 (show (2 : Int32) ≠ 0 by decide), rBad1 w00 (show (3 : Int32) ≠ 0 by decide), rBad0 w00 (show (1 : Int32) ≠ 0 by decide), rBad0 w00 (show (2 : Int32) ≠ 0 by decide), rBad0 w00 (show (3 : Int32) ≠ 0 by decide), e10, in2, in3, in4, in5, in10, in14, in29, in39, in40, in50, in100, in299, in999, bI_nn, bI_0, b1]
  | true =>
  obtain ⟨s, hs, rfl⟩ := inB_t (by omega) b1
  cases b2 : inB x2 (pNt p) with
  | false =>
    refine Step.bad hI (k := 3) (v := 0) (b := 0) (c := 2) ?_ ?_ (by decide)
    · unfold mX8_off; simp only [bd_q, jp_q, ob_q, on_q, if_true, if_false, Bool.false_eq_true, Bool.true_eq_false, Bool.not_true, Bool.not_false, pr99, pr9, pr8, cReqS h, cReqT h, cReqQ h, cReqL h, cReqB, cReq0, cReq1, cTenthB, cAskB, cFitB, xqz, xq1, xq2, xq3, pl2, pl3, pl4, pl5, pl14, pl40, pl50, pl100, pl999, pe3, pe11, pe30, pe40, pe300, bI_if, bI_0, b1, b2]
    · show mX9_off u (nI s) x2 x3 = _
      unfold mX9_off; simp only [bd_q, jp_q, ob_q, on_q, if_true, if_false, Bool.false_eq_true, Bool.true_eq_false, Bool.not_true, Bool.not_false, ir99, ir9, ir8, w0e, rIsS hw, rIsT hw, rIsQ hw, rIsL hw, rBad w00 _ (show (1 : Int32) ≠ 0 by decide), rBad w00 _ (show (2 : Int32) ≠ 0 by decide), rBad w00 _ (show (3 : Int32) ≠ 0 by decide), rBad1 w00 (show (1 : Int32) ≠ 0 by decide), rBad1 w00 (show (2 : Int32) ≠ 0 by decide), rBad1 w00 (show (3 : Int32) ≠ 0 by decide), rBad0 w00 (show (1 : Int32) ≠ 0 by decide), rBad0 w00 (show (2 : Int32) ≠ 0 by decide), rBad0 w00 (show (3 : Int32) ≠ 0 by decide), e10, in2, in3, in4, in5, in10, in14, in29, in39, in40, in50, in100, in299, in999, bI_nn, bI_0, b1, b2]
  | true =>
  obtain ⟨t, ht, rfl⟩ := inB_t (by omega) b2
  cases b3 : inB x3 2 with
  | false =>
    refine Step.bad hI (k := 1) (v := 0) (b := 0) (c := 3) ?_ ?_ (by decide)
    · unfold mX8_off; simp only [bd_q, jp_q, ob_q, on_q, if_true, if_false, Bool.false_eq_true, Bool.true_eq_false, Bool.not_true, Bool.not_false, pr99, pr9, pr8, cReqS h, cReqT h, cReqQ h, cReqL h, cReqB, cReq0, cReq1, cTenthB, cAskB, cFitB, xqz, xq1, xq2, xq3, pl2, pl3, pl4, pl5, pl14, pl40, pl50, pl100, pl999, pe3, pe11, pe30, pe40, pe300, bI_if, bI_0, b1, b2, b3, kn01, inB_in01]
    · show mX9_off u (nI s) (nI t) x3 = _
      unfold mX9_off; simp only [bd_q, jp_q, ob_q, on_q, if_true, if_false, Bool.false_eq_true, Bool.true_eq_false, Bool.not_true, Bool.not_false, ir99, ir9, ir8, w0e, rIsS hw, rIsT hw, rIsQ hw, rIsL hw, rBad w00 _ (show (1 : Int32) ≠ 0 by decide), rBad w00 _ (show (2 : Int32) ≠ 0 by decide), rBad w00 _ (show (3 : Int32) ≠ 0 by decide), rBad1 w00 (show (1 : Int32) ≠ 0 by decide), rBad1 w00 (show (2 : Int32) ≠ 0 by decide), rBad1 w00 (show (3 : Int32) ≠ 0 by decide), rBad0 w00 (show (1 : Int32) ≠ 0 by decide), rBad0 w00 (show (2 : Int32) ≠ 0 by decide), rBad0 w00 (show (3 : Int32) ≠ 0 by decide), e10, in2, in3, in4, in5, in10, in14, in29, in39, in40, in50, in100, in299, in999, bI_nn, bI_0, b1, b2, b3, kn01, inB_in01]
  | true =>
  obtain ⟨w, hwt, rfl⟩ := inB_t (by decide) b3
  have lw := (QF.w0 (u := u) (c := 0)).lk2
  refine Step.same h hv (v := if nI w = 0 then ((List.range (pN p)).foldl (ofF (lkF u) s t) (0, 0)).1 else ((List.range (pN p)).foldl (ofF (lkF u) s t) (0, 0)).2) ?_ ?_
  · unfold mX8_off; simp only [bd_q, jp_q, ob_q, on_q, if_true, if_false, Bool.false_eq_true, Bool.true_eq_false, Bool.not_true, Bool.not_false, pr99, pr9, pr8, cReqS h, cReqT h, cReqQ h, cReqL h, cReqB, cReq0, cReq1, cTenthB, cAskB, cFitB, xqz, xq1, xq2, xq3, pl2, pl3, pl4, pl5, pl14, pl40, pl50, pl100, pl999, pe3, pe11, pe30, pe40, pe300, bI_if, bI_0, b1, b2, b3, kn01, inB_in01, kn01, h.offC]
    split <;> rfl
  · show mX9_off u (nI s) (nI t) (nI w) = _
    unfold mX9_off; simp only [bd_q, jp_q, ob_q, on_q, if_true, if_false, Bool.false_eq_true, Bool.true_eq_false, Bool.not_true, Bool.not_false, ir99, ir9, ir8, w0e, rIsS hw, rIsT hw, rIsQ hw, rIsL hw, rBad w00 _ (show (1 : Int32) ≠ 0 by decide), rBad w00 _ (show (2 : Int32) ≠ 0 by decide), rBad w00 _ (show (3 : Int32) ≠ 0 by decide), rBad1 w00 (show (1 : Int32) ≠ 0 by decide), rBad1 w00 (show (2 : Int32) ≠ 0 by decide), rBad1 w00 (show (3 : Int32) ≠ 0 by decide), rBad0 w00 (show (1 : Int32) ≠ 0 by decide), rBad0 w00 (show (2 : Int32) ≠ 0 by decide), rBad0 w00 (show (3 : Int32) ≠ 0 by decide), e10, in2, in3, in4, in5, in10, in14, in29, in39, in40, in50, in100, in299, in999, bI_nn, bI_0, b1, b2, b3, kn01, inB_in01, inB_in01, hw.offR, show lkF (w0 u) = lkF u from lw]
    split <;> rfl
