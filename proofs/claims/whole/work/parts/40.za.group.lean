/-! answers of a group -/
theorem foldP {α β : Type} {L : Nat → α → Int32 → β} {w : α → β} {n : Nat} (hn : n < 4000) (F : α → Nat → α)
    (hs : ∀ fu a k, k < n → L (fu + 1) a (nI k) = L fu (F a k) (nI (k + 1)))
    (he : ∀ fu a, L (fu + 1) a (nI n) = w a) (a0 : α) : L FU a0 0 = w ((List.range n).foldl F a0) := by
  refine loopR L n 0 (fun k a => a = (List.range k).foldl F a0) (fun o => o = w ((List.range n).foldl F a0)) ?_ ?_ n 0 a0 FU (Nat.le_refl _) (by omega) (FU_lt (by omega)) rfl
  · intro fu a k _ hk ha ih
    rw [hs fu a k hk]
    exact ih _ (by rw [rsucc, ← ha])
  · intro fu a ha
    rw [he, ha]
def igB (f : Nat → Nat → Int32) (s t a l : Nat) : Bool := decide (f l 0 = nI s) && decide (f l 1 = nI t) && decide (f l 2 = 0) && decide (f l (3 + a) ≠ -1)
def askS (N : Nat) (f : Nat → Nat → Int32) (s t a : Nat) : Int32 := (List.range N).foldl (fun b l => b + bI (igB f s t a l)) 0
def yesS (N : Nat) (f : Nat → Nat → Int32) (s t a : Nat) : Int32 := (List.range N).foldl (fun b l => b + if igB f s t a l = true then f l (3 + a) else 0) 0
theorem IVc.igC {p : IP} {u : HS} (h : IVc p u) {l s t a : Nat} (hl : l < pN p) (ha : a < 3) : mX0_inGroup u 0 (nI l) (nI s) (nI t) (nI a) = some (bI (igB (lkF u) s t a l)) := by
  have n14 := h.n14
  obtain ⟨r0, r1, -⟩ := h.row hl
  unfold mX0_inGroup igB
  rw [ck_nI (show l < 14 by omega) (by decide)]
  simp only [ob_q, r0, r1, h.kno hl, h.rep hl ha, bI_0]
  by_cases c0 : lkF u l 0 = nI s
  · rw [if_pos c0]
    by_cases c1 : lkF u l 1 = nI t
    · rw [if_pos c1]
      by_cases c2 : lkF u l 2 = 0
      · rw [if_pos (by simp [c2])]
        by_cases c3 : lkF u l (3 + a) = -1
        · rw [if_pos c3]; simp [c3, bI]
        · rw [if_neg c3]; simp [c0, c1, c2, c3, bI]
      · rw [if_neg (by simp [c2])]; simp [c2, bI]
    · rw [if_neg c1]; simp [c1, bI]
  · rw [if_neg c0]; simp [c0, bI]
theorem c8n {k : Nat} (hk : k < 8) : ck 8 (nI k) = some k := ck_nI hk (by decide)
theorem IVc.ofR {p : IP} {u : HS} (h : IVc p u) {l s t : Nat} (hl : l < pN p) : mX9_isOf u (nI l) (nI s) (nI t) = some (bI (decide (lkF u l 0 = nI s) && decide (lkF u l 1 = nI t))) := by
  obtain ⟨l14, ls, lt, l0, -, -, -, lf⟩ := h.lk hl
  unfold mX9_isOf
  simp only [ck_nI (show l < 15 by omega) (show 15 < 2 ^ 31 by decide), ob_q, c8_0, show ck 8 1 = some 1 from by decide, lf]
  by_cases c0 : lkF u l 0 = nI s
  · rw [if_pos c0]
    by_cases c1 : lkF u l 1 = nI t
    · rw [if_pos c1]; simp [c0, c1, bI]
    · rw [if_neg c1]; simp [c1, bI]
  · rw [if_neg c0]; simp [c0, bI]
theorem n3a (a : Nat) : (3 + nI a : Int32) = nI (3 + a) := by rw [show (3 : Int32) = nI 3 from rfl, nI_add]
theorem IVc.igR {p : IP} {u : HS} (h : IVc p u) {l s t a : Nat} (hl : l < pN p) (ha : a < 3) : mX9_isInGroup u (nI l) (nI s) (nI t) (nI a) = some (bI (igB (lkF u) s t a l)) := by
  obtain ⟨l14, ls, lt, l0, -, -, -, lf⟩ := h.lk hl
  unfold mX9_isInGroup igB
  rw [h.ofR hl]
  simp only [ck_nI (show l < 15 by omega) (show 15 < 2 ^ 31 by decide), ob_q, show ck 8 2 = some 2 from by decide, n3a, c8n (show 3 + a < 8 by omega), lf, bI_0]
  cases c0 : (decide (lkF u l 0 = nI s) && decide (lkF u l 1 = nI t)) with
  | false => rw [if_pos rfl]; rfl
  | true =>
    rw [if_neg (by decide)]
    by_cases c2 : lkF u l 2 = 0
    · rw [if_pos c2]
      by_cases c3 : lkF u l (3 + a) = -1
      · rw [if_pos c3]; simp [c3, bI]
      · rw [if_neg c3]; simp [c2, c3, bI]
    · rw [if_neg c2]; simp [c2, bI]
theorem IVc.askC {p : IP} {u : HS} (h : IVc p u) {s t a : Nat} (ha : a < 3) : mX0_askedOf u 0 (nI s) (nI t) (nI a) = some (askS (pN p) (lkF u) s t a) := by
  have n14 := h.n14
  unfold mX0_askedOf
  simp only [jp_q]
  refine foldP (L := mX0_askedOf_L6 u 0 (nI s) (nI t) (nI a) (fun x => some x)) (w := fun x => some x) (by omega) _ ?_ ?_ 0
  · intro fu b k hk
    rw [mX0_askedOf_L6.eq_2, h.hn, if_neg (nI_ge hk (by omega)), h.igC hk ha]
    simp only [ob_q, bd_q, nI_1, bI_n]
  · intro fu b
    rw [mX0_askedOf_L6.eq_2, h.hn, if_pos (nI_le (Nat.le_refl _) (by omega))]
theorem IVc.askR {p : IP} {u : HS} (h : IVc p u) {s t a : Nat} (ha : a < 3) : mX9_asked u (nI s) (nI t) (nI a) = some (askS (pN p) (lkF u) s t a) := by
  have n14 := h.n14
  unfold mX9_asked
  simp only [jp_q]
  refine foldP (L := mX9_asked_L6 u (nI s) (nI t) (nI a) (fun x => some x)) (w := fun x => some x) (by omega) _ ?_ ?_ 0
  · intro fu b k hk
    rw [mX9_asked_L6.eq_2, h.rn, if_neg (nI_ge hk (by omega)), h.igR hk ha]
    simp only [ob_q, bd_q, nI_1, bI_n]
  · intro fu b
    rw [mX9_asked_L6.eq_2, h.rn, if_pos (nI_le (Nat.le_refl _) (by omega))]
theorem IVc.yesC {p : IP} {u : HS} (h : IVc p u) {s t a : Nat} (ha : a < 3) : mX0_yesOf u 0 (nI s) (nI t) (nI a) = some (yesS (pN p) (lkF u) s t a) := by
  have n14 := h.n14
  unfold mX0_yesOf
  simp only [jp_q]
  refine foldP (L := mX0_yesOf_L6 u 0 (nI s) (nI t) (nI a) (fun x => some x)) (w := fun x => some x) (by omega) _ ?_ ?_ 0
  · intro fu b k hk
    rw [mX0_yesOf_L6.eq_2, h.hn, if_neg (nI_ge hk (by omega)), h.igC hk ha]
    simp only [ob_q, bd_q, nI_1, bI_0, h.rep hk ha]
    cases igB (lkF u) s t a k <;> simp
  · intro fu b
    rw [mX0_yesOf_L6.eq_2, h.hn, if_pos (nI_le (Nat.le_refl _) (by omega))]
theorem IVc.yesR {p : IP} {u : HS} (h : IVc p u) {s t a : Nat} (ha : a < 3) : mX9_yes u (nI s) (nI t) (nI a) = some (yesS (pN p) (lkF u) s t a) := by
  have n14 := h.n14
  unfold mX9_yes
  simp only [jp_q]
  refine foldP (L := mX9_yes_L6 u (nI s) (nI t) (nI a) (fun x => some x)) (w := fun x => some x) (by omega) _ ?_ ?_ 0
  · intro fu b k hk
    obtain ⟨l14, ls, lt, l0, -, -, -, lf⟩ := h.lk hk
    rw [mX9_yes_L6.eq_2, h.rn, if_neg (nI_ge hk (by omega)), h.igR hk ha]
    simp only [ob_q, bd_q, nI_1, bI_0, ck_nI (show k < 15 by omega) (show 15 < 2 ^ 31 by decide), n3a, c8n (show 3 + a < 8 by omega), lf]
    cases igB (lkF u) s t a k <;> simp
  · intro fu b
    rw [mX9_yes_L6.eq_2, h.rn, if_pos (nI_le (Nat.le_refl _) (by omega))]
/-- how many were asked, how many said yes -/
theorem IVc.ay {p : IP} {u : HS} (h : IVc p u) (s t : Nat) {a : Nat} (ha : a < 3) : ∃ n y, y ≤ n ∧ n ≤ 14 ∧ askS (pN p) (lkF u) s t a = nI n ∧ yesS (pN p) (lkF u) s t a = nI y := by
  have n14 := h.n14
  have hv := h.vl
  unfold askS yesS
  have : ∀ k, k ≤ pN p → ∃ n y, y ≤ n ∧ n ≤ k ∧ (List.range k).foldl (fun b l => b + bI (igB (lkF u) s t a l)) 0 = nI n ∧ (List.range k).foldl (fun b l => b + if igB (lkF u) s t a l = true then lkF u l (3 + a) else 0) 0 = nI y := by
    intro k
    induction k with
    | zero => exact fun _ => ⟨0, 0, Nat.le_refl _, Nat.le_refl _, rfl, rfl⟩
    | succ k ih =>
      intro hk
      obtain ⟨n, y, h1, h2, e1, e2⟩ := ih (by omega)
      rw [rsucc, rsucc, e1, e2]
      cases c : igB (lkF u) s t a k with
      | false => exact ⟨n, y, h1, by omega, by simp [bI], by simp⟩
      | true =>
        rcases (hv k (by omega)).2.2.2.1 a ha with z | z | z
        · unfold igB at c; rw [z] at c; simp at c
        · exact ⟨n + 1, y, by omega, by omega, by show nI n + 1 = _; rw [nI_1], by rw [if_pos rfl, z, Int32.add_zero]⟩
        · exact ⟨n + 1, y + 1, by omega, by omega, by show nI n + 1 = _; rw [nI_1], by rw [if_pos rfl, z, nI_1]⟩
  obtain ⟨n, y, h1, h2, e1, e2⟩ := this (pN p) (Nat.le_refl _)
  exact ⟨n, y, h1, by omega, e1, e2⟩
theorem sq_lt : ∀ y, y ≤ 14 → ∀ k, k ≤ 14 → decide (nI y < (nI k + 1) * (nI k + 1)) = decide (y < (k + 1) * (k + 1)) := by decide
theorem sq_ex : ∀ y, y ≤ 14 → ∃ r, r ≤ 3 ∧ r * r ≤ y ∧ y < (r + 1) * (r + 1) := by decide
theorem root_k {r k y : Nat} (h1 : r * r ≤ y) (hk : k < r) : ¬ y < (k + 1) * (k + 1) := by
  have : (k + 1) * (k + 1) ≤ r * r := Nat.mul_le_mul (by omega) (by omega)
  omega
theorem cRoot {y r : Nat} (hy : y ≤ 14) (hr : r ≤ 3) (h1 : r * r ≤ y) (h2 : y < (r + 1) * (r + 1)) : mX8_root (nI y) = some (nI r) := by
  unfold mX8_root
  simp only [jp_q]
  refine loopR (fun fu (_ : Unit) x => mX8_root_L2 (nI y) (fun x => some x) fu x) r 0 (fun _ _ => True) (fun o => o = some (nI r)) ?_ ?_ r 0 () FU (Nat.le_refl _) (by omega) (FU_lt (by omega)) trivial
  · intro fu _ k _ hk _ ih
    show mX8_root_L2 (nI y) (fun x => some x) (fu + 1) (nI k) = _
    have := sq_lt y hy k (by omega)
    rw [decide_eq_decide] at this
    rw [mX8_root_L2.eq_2, if_neg (fun q => root_k h1 hk (this.mp q)), if_neg (show ¬ (14 : Int32) ≤ nI k from nI_ge (b := 14) (by omega) (by decide))]
    simp only [bd_q, nI_1]
    exact ih () trivial
  · intro fu _ _
    show mX8_root_L2 (nI y) (fun x => some x) (fu + 1) (nI r) = _
    have := sq_lt y hy r (by omega)
    rw [decide_eq_decide] at this
    rw [mX8_root_L2.eq_2, if_pos (this.mpr h2)]
theorem rRoot {y r : Nat} (hy : y ≤ 14) (hr : r ≤ 3) (h1 : r * r ≤ y) (h2 : y < (r + 1) * (r + 1)) : mX9_root (nI y) = some (nI r) := by
  unfold mX9_root
  simp only [jp_q]
  refine loopR (fun fu (_ : Unit) x => mX9_root_L2 (nI y) (fun x => some x) fu x) r 0 (fun _ _ => True) (fun o => o = some (nI r)) ?_ ?_ r 0 () FU (Nat.le_refl _) (by omega) (FU_lt (by omega)) trivial
  · intro fu _ k _ hk _ ih
    show mX9_root_L2 (nI y) (fun x => some x) (fu + 1) (nI k) = _
    have := sq_lt y hy k (by omega)
    rw [decide_eq_decide] at this
    rw [mX9_root_L2.eq_2, if_neg (fun q => root_k h1 hk (this.mp q))]
    simp only [bd_q, nI_1]
    exact ih () trivial
  · intro fu _ _
    show mX9_root_L2 (nI y) (fun x => some x) (fu + 1) (nI r) = _
    have := sq_lt y hy r (by omega)
    rw [decide_eq_decide] at this
    rw [mX9_root_L2.eq_2, if_pos (this.mpr h2)]
theorem inB_in03 (x : Int32) : mX9_in x 0 3 = some (bI (inB x 4)) := by
  rw [inr_ok]
  congr 2
  unfold inR inB
  congr 1
  rw [decide_eq_decide]
  exact Int32.le_iff_toInt_le.trans (by rw [show (nI 4 : Int32) = 4 from rfl, Int32.lt_iff_toInt_lt, show (3 : Int32).toInt = 3 from by decide, show (4 : Int32).toInt = 4 from by decide]; omega)
theorem inB_in01 (x : Int32) : mX9_in x 0 1 = some (bI (inB x 2)) := by
  rw [inr_ok]
  congr 2
  unfold inR inB
  congr 1
  rw [decide_eq_decide]
  exact Int32.le_iff_toInt_le.trans (by rw [show (nI 2 : Int32) = 2 from rfl, Int32.lt_iff_toInt_lt, show (1 : Int32).toInt = 1 from by decide, show (2 : Int32).toInt = 2 from by decide]; omega)
theorem kn03 {α : Type} (x : Int32) (J K : α) : (if x < 0 then J else if (3 : Int32) < x then J else K) = if inB x 4 = true then K else J := by
  have h := inB_in03 x
  unfold mX9_in at h
  by_cases c1 : x < 0
  · rw [if_pos c1] at h; rw [if_pos c1]
    cases c : inB x 4 with
    | false => simp
    | true => rw [c] at h; cases h
  · rw [if_neg c1] at h; rw [if_neg c1]
    by_cases c2 : (3 : Int32) < x
    · rw [if_pos c2] at h; rw [if_pos c2]
      cases c : inB x 4 with
      | false => simp
      | true => rw [c] at h; cases h
    · rw [if_neg c2] at h; rw [if_neg c2]
      cases c : inB x 4 with
      | true => simp
      | false => rw [c] at h; cases h
theorem kn01 {α : Type} (x : Int32) (J K : α) : (if x = 0 then J else if x = 1 then J else K) = if inB x 2 = true then J else K := by
  cases c : inB x 2 with
  | true =>
    obtain ⟨j, hj, rfl⟩ := inB_t (by decide) c
    match j, hj with
    | 0, _ => rfl
    | 1, _ => rfl
  | false =>
    rw [if_neg, if_neg]
    · rfl
    · intro q; rw [q] at c; revert c; decide
    · intro q; rw [q] at c; revert c; decide
theorem more0 (x : Int32) : mX9_more 0 x = some (if 0 < x then x else 0) := by
  rw [rMor]
  unfold mor
  by_cases c : 0 ≤ x
  · rw [if_pos c]
    by_cases d : 0 < x
    · rw [if_pos d]
    · rw [if_neg d, Int32.le_antisymm (Int32.not_lt.mp d) c]
  · rw [if_neg c, if_neg (fun q => c (Int32.le_of_lt q))]
theorem less0 (x y : Int32) : mX9_less y x = some (if x < y then x else y) := by
  rw [rLes]
  unfold les
  by_cases c : x ≤ y
  · rw [if_pos c]
    by_cases d : x < y
    · rw [if_pos d]
    · rw [if_neg d, Int32.le_antisymm c (Int32.not_lt.mp d)]
  · rw [if_neg c, if_neg (fun q => c (Int32.le_of_lt q))]
theorem Step.same {l : List Nat} {cf : Option (Nat × Int32 × HS)} {rf : HS → Option (Int32 × HS)} {p : IP} {u : HS} {v : Int32} (h : IVc p u) (hv : IVs p u) (e1 : cf = some (0, v, u)) (e2 : rf u = some (v, w0 u)) : ∃ k v u1 b u2, cf = some (k, v, u1) ∧ rf u1 = some (b, u2) ∧ gI u2 9 0 0 = kmL l k ∧ (k = 0 → v = b) ∧ (k = 0 ∨ k ∈ l) ∧ IV u2 :=
  Step.ask h e1 e2 QF.rf hv QF.w0 w054 w00
-- share
set_option maxHeartbeats 2000000 in
theorem s_share (x1 x2 x3 x4 : Int32) : Step [2, 3, 1] (fun u => mX8_share u x1 x2 x3 x4) (fun u => mX9_share u x1 x2 x3 x4) := by
  intro u hI
  have ⟨p, h, hv⟩ := hI
  have hw := w0c h
  have n6 := h.1.1.1
  have t6 := h.1.1.2.1
  have q4 := h.1.1.2.2.1
  have n14 := h.2.2.2.2.2.1.2.1.1.1
  cases b1 : inB x1 (pNs p) with
  | false =>
    refine Step.bad hI (k := 2) (v := 0) (b := 0) (c := 1) ?_ ?_ (by decide)
    · unfold mX8_share; simp only [bd_q, jp_q, ob_q, on_q, if_true, if_false, Bool.false_eq_true, Bool.true_eq_false, Bool.not_true, Bool.not_false, pr99, pr9, pr8, cReqS h, cReqT h, cReqQ h, cReqL h, cReqB, cReq0, cReq1, cTenthB, cAskB, cFitB, xqz, xq1, xq2, xq3, pl2, pl3, pl4, pl5, pl14, pl40, pl50, pl100, pl999, pe3, pe11, pe30, pe40, pe300, bI_if, bI_0, b1]
    · show mX9_share u x1 x2 x3 x4 = _
      unfold mX9_share; simp only [bd_q, jp_q, ob_q, on_q, if_true, if_false, Bool.false_eq_true, Bool.true_eq_false, Bool.not_true, Bool.not_false, ir99, ir9, ir8, w0e, rIsS hw, rIsT hw, rIsQ hw, rIsL hw, rBad w00 _ (show (1 : Int32) ≠ 0 by decide), rBad w00 _ (show (2 : Int32) ≠ 0 by decide), rBad w00 _ (show (3 : Int32) ≠ 0 by decide), rBad1 w00 (show (1 : Int32) ≠ 0 by decide), rBad1 w00 (show (2 : Int32) ≠ 0 by decide), rBad1 w00 (show (3 : Int32) ≠ 0 by decide), rBad0 w00 (show (1 : Int32) ≠ 0 by decide), rBad0 w00 (show (2 : Int32) ≠ 0 by decide), rBad0 w00 (show (3 : Int32) ≠ 0 by decide), e10, in2, in3, in4, in5, in10, in14, in29, in39, in40, in50, in100, in299, in999, bI_nn, bI_0, b1]
  | true =>
  obtain ⟨s, hs, rfl⟩ := inB_t (by omega) b1
  cases b2 : inB x2 (pNt p) with
  | false =>
    refine Step.bad hI (k := 3) (v := 0) (b := 0) (c := 2) ?_ ?_ (by decide)
    · unfold mX8_share; simp only [bd_q, jp_q, ob_q, on_q, if_true, if_false, Bool.false_eq_true, Bool.true_eq_false, Bool.not_true, Bool.not_false, pr99, pr9, pr8, cReqS h, cReqT h, cReqQ h, cReqL h, cReqB, cReq0, cReq1, cTenthB, cAskB, cFitB, xqz, xq1, xq2, xq3, pl2, pl3, pl4, pl5, pl14, pl40, pl50, pl100, pl999, pe3, pe11, pe30, pe40, pe300, bI_if, bI_0, b1, b2]
    · show mX9_share u (nI s) x2 x3 x4 = _
      unfold mX9_share; simp only [bd_q, jp_q, ob_q, on_q, if_true, if_false, Bool.false_eq_true, Bool.true_eq_false, Bool.not_true, Bool.not_false, ir99, ir9, ir8, w0e, rIsS hw, rIsT hw, rIsQ hw, rIsL hw, rBad w00 _ (show (1 : Int32) ≠ 0 by decide), rBad w00 _ (show (2 : Int32) ≠ 0 by decide), rBad w00 _ (show (3 : Int32) ≠ 0 by decide), rBad1 w00 (show (1 : Int32) ≠ 0 by decide), rBad1 w00 (show (2 : Int32) ≠ 0 by decide), rBad1 w00 (show (3 : Int32) ≠ 0 by decide), rBad0 w00 (show (1 : Int32) ≠ 0 by decide), rBad0 w00 (show (2 : Int32) ≠ 0 by decide), rBad0 w00 (show (3 : Int32) ≠ 0 by decide), e10, in2, in3, in4, in5, in10, in14, in29, in39, in40, in50, in100, in299, in999, bI_nn, bI_0, b1, b2]
  | true =>
  obtain ⟨t, ht, rfl⟩ := inB_t (by omega) b2
  cases b3 : inB x3 3 with
  | false =>
    refine Step.bad hI (k := 1) (v := 0) (b := 0) (c := 3) ?_ ?_ (by decide)
    · unfold mX8_share; simp only [bd_q, jp_q, ob_q, on_q, if_true, if_false, Bool.false_eq_true, Bool.true_eq_false, Bool.not_true, Bool.not_false, pr99, pr9, pr8, cReqS h, cReqT h, cReqQ h, cReqL h, cReqB, cReq0, cReq1, cTenthB, cAskB, cFitB, xqz, xq1, xq2, xq3, pl2, pl3, pl4, pl5, pl14, pl40, pl50, pl100, pl999, pe3, pe11, pe30, pe40, pe300, bI_if, bI_0, b1, b2, b3]
    · show mX9_share u (nI s) (nI t) x3 x4 = _
      unfold mX9_share; simp only [bd_q, jp_q, ob_q, on_q, if_true, if_false, Bool.false_eq_true, Bool.true_eq_false, Bool.not_true, Bool.not_false, ir99, ir9, ir8, w0e, rIsS hw, rIsT hw, rIsQ hw, rIsL hw, rBad w00 _ (show (1 : Int32) ≠ 0 by decide), rBad w00 _ (show (2 : Int32) ≠ 0 by decide), rBad w00 _ (show (3 : Int32) ≠ 0 by decide), rBad1 w00 (show (1 : Int32) ≠ 0 by decide), rBad1 w00 (show (2 : Int32) ≠ 0 by decide), rBad1 w00 (show (3 : Int32) ≠ 0 by decide), rBad0 w00 (show (1 : Int32) ≠ 0 by decide), rBad0 w00 (show (2 : Int32) ≠ 0 by decide), rBad0 w00 (show (3 : Int32) ≠ 0 by decide), e10, in2, in3, in4, in5, in10, in14, in29, in39, in40, in50, in100, in299, in999, bI_nn, bI_0, b1, b2, b3]
  | true =>
  obtain ⟨a, ha, rfl⟩ := inB_t (by decide) b3
  cases b4 : inB x4 4 with
  | false =>
    refine Step.bad hI (k := 1) (v := 0) (b := 0) (c := 3) ?_ ?_ (by decide)
    · unfold mX8_share; simp only [bd_q, jp_q, ob_q, on_q, if_true, if_false, Bool.false_eq_true, Bool.true_eq_false, Bool.not_true, Bool.not_false, pr99, pr9, pr8, cReqS h, cReqT h, cReqQ h, cReqL h, cReqB, cReq0, cReq1, cTenthB, cAskB, cFitB, xqz, xq1, xq2, xq3, pl2, pl3, pl4, pl5, pl14, pl40, pl50, pl100, pl999, pe3, pe11, pe30, pe40, pe300, bI_if, bI_0, b1, b2, b3, b4, inB_in02]
    · show mX9_share u (nI s) (nI t) (nI a) x4 = _
      unfold mX9_share; simp only [bd_q, jp_q, ob_q, on_q, if_true, if_false, Bool.false_eq_true, Bool.true_eq_false, Bool.not_true, Bool.not_false, ir99, ir9, ir8, w0e, rIsS hw, rIsT hw, rIsQ hw, rIsL hw, rBad w00 _ (show (1 : Int32) ≠ 0 by decide), rBad w00 _ (show (2 : Int32) ≠ 0 by decide), rBad w00 _ (show (3 : Int32) ≠ 0 by decide), rBad1 w00 (show (1 : Int32) ≠ 0 by decide), rBad1 w00 (show (2 : Int32) ≠ 0 by decide), rBad1 w00 (show (3 : Int32) ≠ 0 by decide), rBad0 w00 (show (1 : Int32) ≠ 0 by decide), rBad0 w00 (show (2 : Int32) ≠ 0 by decide), rBad0 w00 (show (3 : Int32) ≠ 0 by decide), e10, in2, in3, in4, in5, in10, in14, in29, in39, in40, in50, in100, in299, in999, bI_nn, bI_0, b1, b2, b3, b4, inB_in02]
  | true =>
  obtain ⟨w, hwt, rfl⟩ := inB_t (by decide) b4
  have lw := (QF.w0 (u := u) (c := 0)).lk2
  obtain ⟨n, y, hy, hn, en, ey⟩ := h.ay s t ha
  obtain ⟨r, hr, r1, r2⟩ := sq_ex y (by omega)
  have a1 := h.askC (s := s) (t := t) ha
  have a2 := h.yesC (s := s) (t := t) ha
  have b1' := hw.askR (s := s) (t := t) ha
  have b2' := hw.yesR (s := s) (t := t) ha
  rw [show lkF (w0 u) = lkF u from lw] at b1' b2'
  rw [en] at a1 b1'
  rw [ey] at a2 b2'
  have c1 := cRoot (by omega) hr r1 r2
  have c2 := rRoot (by omega) hr r1 r2
  refine Step.same h hv (v := if nI w = 0 then nI n else if nI w = 1 then nI y else if nI w = 2 then (if 0 < nI y - (1 + nI r) then nI y - (1 + nI r) else 0) else (if nI y + (1 + nI r) < nI n then nI y + (1 + nI r) else nI n)) ?_ ?_
  · unfold mX8_share; simp only [bd_q, jp_q, ob_q, on_q, if_true, if_false, Bool.false_eq_true, Bool.true_eq_false, Bool.not_true, Bool.not_false, pr99, pr9, pr8, cReqS h, cReqT h, cReqQ h, cReqL h, cReqB, cReq0, cReq1, cTenthB, cAskB, cFitB, xqz, xq1, xq2, xq3, pl2, pl3, pl4, pl5, pl14, pl40, pl50, pl100, pl999, pe3, pe11, pe30, pe40, pe300, bI_if, bI_0, b1, b2, b3, b4, inB_in02, inB_in03, kn03, kn03, a1, a2, c1]
    by_cases d0 : nI w = 0
    · rw [if_pos d0, if_pos d0]
    · rw [if_neg d0, if_neg d0]
      by_cases d1 : nI w = 1
      · rw [if_pos d1, if_pos d1]
      · rw [if_neg d1, if_neg d1]
        by_cases d2 : nI w = 2
        · rw [if_pos d2, if_pos d2]
        · rw [if_neg d2, if_neg d2]
  · show mX9_share u (nI s) (nI t) (nI a) (nI w) = _
    unfold mX9_share; simp only [bd_q, jp_q, ob_q, on_q, if_true, if_false, Bool.false_eq_true, Bool.true_eq_false, Bool.not_true, Bool.not_false, ir99, ir9, ir8, w0e, rIsS hw, rIsT hw, rIsQ hw, rIsL hw, rBad w00 _ (show (1 : Int32) ≠ 0 by decide), rBad w00 _ (show (2 : Int32) ≠ 0 by decide), rBad w00 _ (show (3 : Int32) ≠ 0 by decide), rBad1 w00 (show (1 : Int32) ≠ 0 by decide), rBad1 w00 (show (2 : Int32) ≠ 0 by decide), rBad1 w00 (show (3 : Int32) ≠ 0 by decide), rBad0 w00 (show (1 : Int32) ≠ 0 by decide), rBad0 w00 (show (2 : Int32) ≠ 0 by decide), rBad0 w00 (show (3 : Int32) ≠ 0 by decide), e10, in2, in3, in4, in5, in10, in14, in29, in39, in40, in50, in100, in299, in999, bI_nn, bI_0, b1, b2, b3, b4, inB_in02, inB_in03, kn03, inB_in02, inB_in03, b1', b2', c2, more0, less0]
    by_cases d0 : nI w = 0
    · rw [if_pos d0, if_pos d0]
    · rw [if_neg d0, if_neg d0]
      by_cases d1 : nI w = 1
      · rw [if_pos d1, if_pos d1]
      · rw [if_neg d1, if_neg d1]
        by_cases d2 : nI w = 2
        · rw [if_pos d2, if_pos d2]
        · rw [if_neg d2, if_neg d2]
