/-! ===== the class: crowds, throws ===== -/
theorem and1 (x : Int32) : x &&& 1 = bI (decide (x &&& 1 = 1)) := by
  obtain ⟨j, hj, h⟩ := pk_andE x (m := 1) 1 (by decide)
  rw [h]
  match j, hj with
  | 0, _ => rfl
  | 1, _ => rfl
theorem tI (n : Nat) : n.toInt32 = nI n := nrfl rfl
theorem n300 (t : Nat) : (nI t * 300 : Int32) = nI (t * 300) := pk_mul t 300
theorem cCrowd {u : HS} {i : Nat} {c : SV} (h : SO u i c) (tk : Nat → Int32) {τ : Nat} (hτ : τ < 300) : mX3_crowd u i (nI τ) (tk 0) = some ((List.range (sT c)).foldl (fulF c tk (nI τ)) 0) := by
  obtain ⟨⟨h1, h2, h3, h4⟩, ⟨a0, -⟩, ⟨r1, r2⟩, -, -, -, h6⟩ := h
  unfold mX3_crowd
  simp only [jp_q]
  have e0 : nI τ = nI 0 * 300 + nI τ := by rw [n300, nI_add, Nat.zero_mul, Nat.zero_add]
  rw [show mX3_crowd_L5 u i (tk 0) (fun x103 => some x103) FU 0 (nI τ) = mX3_crowd_L5 u i (tk 0) (fun x103 => some x103) FU 0 (nI 0 * 300 + nI τ) by rw [← e0]]
  refine (loopF0 (L := fun fu a x => mX3_crowd_L5 u i (tk 0) (fun a => some a) fu a (x * 300 + nI τ)) (w := fun a => some a) (fulF c tk (nI τ)) (n := sT c) (o := 0) (FU_lt (by omega)) ?_ ?_ (a := 0) :)
  · intro fu a k hk
    show mX3_crowd_L5 u i (tk 0) _ (fu + 1) a (nI (0 + k) * 300 + nI τ) = mX3_crowd_L5 u i (tk 0) _ fu _ (nI (0 + k + 1) * 300 + nI τ)
    rw [mX3_crowd_L5.eq_2, Nat.zero_add, n300, nI_add, if_neg (nI_pos (by omega)), r1, tI, if_neg (show ¬ nI (300 * sT c) ≤ nI (k * 300 + τ) from nI_ge (by omega) (by omega)), r2, ck_nI (show k * 300 + τ < 300 * sT c by omega) (by omega)]
    obtain ⟨e1, e2⟩ := h6 k τ hk hτ
    simp only [ob_q, bd_q, Nat.mul_comm k 300, e1, e2, cel_m1 h2 hτ, n300]
    rw [show (nI (300 * k + τ) + 300 : Int32) = nI ((k + 1) * 300 + τ) by rw [show (300 : Int32) = nI 300 from rfl, nI_add]; congr 1; omega, nI_add]
    unfold fulF
    cases isT c (nI k) (nI τ) with
    | false => simp only [if_true, ob_q, Bool.false_and, bI, Bool.false_eq_true, if_false, Int32.add_zero]
    | true => simp only [Bool.true_eq_false, if_false, ob_q, Bool.true_and]; rw [← and1]
  · intro fu a
    show mX3_crowd_L5 u i (tk 0) _ (fu + 1) a (nI (0 + sT c) * 300 + nI τ) = _
    rw [mX3_crowd_L5.eq_2, Nat.zero_add, n300, nI_add, if_neg (nI_pos (by omega)), r1, tI, if_pos (show nI (300 * sT c) ≤ nI (sT c * 300 + τ) from nI_le (by omega) (by omega))]
theorem klS_len2 {c : SV} {x : Int32} (h : sN c ≤ 24) : (klS c x).length ≤ 24 := Nat.le_trans klS_le h
theorem klS_jlt {c : SV} {x : Int32} {j q : Nat} (h : (klS c x)[j]? = some q) : j < (klS c x).length := (List.getElem?_eq_some_iff.mp h).1
theorem cThrown {u : HS} {i : Nat} {c : SV} (h : SO u i c) {j q : Nat} (hj : (klS c 2)[j]? = some q) (x : Int32) : mX3_isThrownFrom u i (nI j * 3) x = some (bI (decide (colS c (sC c q 1) (sC c q 3) = x))) := by
  obtain ⟨⟨h1, h2, h3, h4⟩, ⟨a0, -⟩, ⟨r1, r2⟩, -, h5, -, h6⟩ := h
  obtain ⟨e1, e2, e3⟩ := h5 j q hj
  obtain ⟨hk, hk0⟩ := klS_at hj
  have hjl := klS_jlt hj
  have := klS_len2 (x := 2) h3
  obtain ⟨⟨t, ht, f1⟩, -, ⟨a, ha, f3⟩⟩ := h2.k2 hk hk0
  unfold mX3_isThrownFrom
  rw [show (nI j * 3 : Int32) = nI (j * 3) from pk_mul j 3, show (nI (j * 3) + 2 : Int32) = nI (j * 3 + 2) from nI_add _ 2, ck_nI (show j * 3 < 72 by omega) (by decide), ck_nI (show j * 3 + 2 < 72 by omega) (by decide), Nat.mul_comm j 3]
  simp only [ob_q, e1, e3, f1, f3]
  rw [n300, nI_add, r2, ck_nI (show t * 300 + a < 300 * sT c by omega) (by omega)]
  simp only [ob_q, Nat.mul_comm t 300, (h6 t a ht ha).2]
  by_cases q : colS c (nI t) (nI a) = x <;> simp [q, bI]
theorem cntP_k {c : SV} (hc : SWF c) (hT : sT c ≤ 8) {q : Nat} (hk : q < sN c) (h0 : sC c q 0 = 2) (x : Int32) : cntP c x q = decide (colS c (sC c q 1) (sC c q 3) = x) := by
  unfold cntP
  rw [h0]
  by_cases hx : x = -1
  · obtain ⟨⟨t, ht, f1⟩, -, -⟩ := hc.k2 hk h0
    obtain ⟨z, hz, e⟩ := col_in hc ht hT (sC c q 3)
    rw [f1, e, hx]
    simp [nI_m1 (show z < 2 ^ 31 by omega)]
  · simp [hx]
theorem foldl_klS {α : Type} {c : SV} {x : Int32} {f : α → Nat → α} {g : α → Nat → α} (h : ∀ a k, k < sN c → sC c k 0 = x → f a k = g a k) (h' : ∀ a k, k < sN c → sC c k 0 ≠ x → g a k = a) (a : α) : (klS c x).foldl f a = (List.range (sN c)).foldl g a := by
  unfold klS
  have : ∀ (l : List Nat), (∀ k ∈ l, k < sN c) → ∀ a, (l.filter fun k => decide (sC c k 0 = x)).foldl f a = l.foldl g a := by
    intro l
    induction l with
    | nil => intro _ a; rfl
    | cons y l ih =>
      intro hl a
      have hy := hl y List.mem_cons_self
      by_cases hp : sC c y 0 = x
      · rw [List.filter_cons_of_pos (by simp [hp]), List.foldl_cons, List.foldl_cons, h a y hy hp]
        exact ih (fun k hk => hl k (List.mem_cons_of_mem _ hk)) _
      · rw [List.filter_cons_of_neg (by simp [hp]), List.foldl_cons, h' a y hy hp]
        exact ih (fun k hk => hl k (List.mem_cons_of_mem _ hk)) _
  exact this _ (fun k hk => List.mem_range.mp hk) a
theorem cThrows {u : HS} {i : Nat} {c : SV} (h : SO u i c) (x : Int32) : mX3_throwsFrom u i x = some (thrS c x) := by
  have h' := h
  obtain ⟨⟨h1, h2, h3, h4⟩, ⟨a0, -, a5, -⟩, -⟩ := h
  have hlen := klS_len2 (x := 2) h3
  unfold mX3_throwsFrom
  simp only [jp_q]
  refine (loopL (L := fun fu a y => mX3_throwsFrom_L4 u i x (fun a => some a) fu a y) (w := fun a => some a) (klS c 2) (fun a q => a + bI (decide (colS c (sC c q 1) (sC c q 3) = x))) (FU_lt (by omega)) ?_ ?_ (a := 0)).trans ?_
  · intro fu a j q hj
    show mX3_throwsFrom_L4 u i x _ (fu + 1) a (nI j) = mX3_throwsFrom_L4 u i x _ fu _ (nI (j + 1))
    rw [mX3_throwsFrom_L4.eq_2, a5, if_neg (nI_ge (klS_jlt hj) (by omega)), cThrown h' hj]
    simp only [ob_q, bI_n, bd_q, nI_1]
  · intro fu a
    show mX3_throwsFrom_L4 u i x _ (fu + 1) a (nI (klS c 2).length) = _
    rw [mX3_throwsFrom_L4.eq_2, a5, if_pos (nI_le (Nat.le_refl _) (by omega))]
  · unfold thrS
    rw [foldl_klS (g := fun a k => a + bI (cntP c x k)) (fun a k hk h0 => by rw [cntP_k h2 h4 hk h0]) (fun a k hk h0 => by unfold cntP; simp [h0, bI])]
/-! ===== the latest of some events ===== -/
def exO (p : Nat → Bool) (tm : Nat → Int32) (n τ : Nat) : Option Nat := (List.range n).foldl (lastP fun k => p k && decide (tm k = nI τ)) none
def laO (p : Nat → Bool) (tm : Nat → Int32) (n : Nat) (τ : Int32) : Option Nat := (List.range n).foldl (latP tm p τ) none
theorem exO_succ {p : Nat → Bool} {tm : Nat → Int32} {n τ : Nat} : exO p tm (n + 1) τ = lastP (fun k => p k && decide (tm k = nI τ)) (exO p tm n τ) n := by
  unfold exO; rw [List.range_succ, List.foldl_append]; rfl
theorem laO_succ {p : Nat → Bool} {tm : Nat → Int32} {n : Nat} {τ : Int32} : laO p tm (n + 1) τ = latP tm p τ (laO p tm n τ) n := by
  unfold laO; rw [List.range_succ, List.foldl_append]; rfl
theorem laO_lt {p : Nat → Bool} {tm : Nat → Int32} {n : Nat} {τ : Int32} {q : Nat} (h : laO p tm n τ = some q) : q < n ∧ p q = true ∧ tm q ≤ τ := by
  have h1 : q < n := latP_lt (fun k hk => List.mem_range.mp hk) (fun q h => by cases h) q h
  have h2 : p q = true := latP_p (fun q h => by cases h) q h
  refine ⟨h1, h2, ?_⟩
  have : ∀ (l : List Nat) (a : Option Nat), (∀ q, a = some q → tm q ≤ τ) → ∀ q, l.foldl (latP tm p τ) a = some q → tm q ≤ τ := by
    intro l
    induction l with
    | nil => intro a ha q hq; exact ha q hq
    | cons x l ih =>
      intro a ha q hq
      refine ih _ ?_ q hq
      intro q' hq'
      unfold latP at hq'
      split at hq'
      · rename_i hc; cases hq'; simp only [Bool.and_eq_true, decide_eq_true_eq] at hc; exact hc.1.2
      · exact ha _ hq'
  exact this _ none (fun q h => by cases h) q h
theorem exO_lt {p : Nat → Bool} {tm : Nat → Int32} {n τ q : Nat} (h : exO p tm n τ = some q) : q < n ∧ p q = true ∧ tm q = nI τ := by
  have h1 : q < n := lastP_lt (fun k hk => List.mem_range.mp hk) (fun q h => by cases h) q h
  have h2 : (p q && decide (tm q = nI τ)) = true := lastP_p (p := fun k => p k && decide (tm k = nI τ)) (fun q h => by cases h) q h
  simp only [Bool.and_eq_true, decide_eq_true_eq] at h2
  exact ⟨h1, h2.1, h2.2⟩
/-- the latest by a tenth: an event in this tenth, else the latest by the tenth ahead -/
theorem lat_step {p : Nat → Bool} {tm : Nat → Int32} {N : Nat} (htm : ∀ k, k < N → p k = true → ∃ a, a < 300 ∧ tm k = nI a) : ∀ n, n ≤ N → ∀ τ, τ < 300 → laO p tm n (nI (τ + 1)) = (exO p tm n (τ + 1)).or (laO p tm n (nI τ)) := by
  intro n
  induction n with
  | zero => intro _ τ _; rfl
  | succ n ih =>
    intro hn τ hτ
    have IH := ih (by omega) τ hτ
    rw [laO_succ, exO_succ, laO_succ]
    cases hp : p n with
    | false =>
      unfold latP lastP
      simp only [hp, Bool.false_and, Bool.false_eq_true, if_false]
      exact IH
    | true =>
      obtain ⟨a, ha, e⟩ := htm n (by omega) hp
      unfold latP lastP
      simp only [hp, e, Bool.true_and, Bool.and_eq_true, decide_eq_true_eq]
      simp only [nI_leI (show a < 2 ^ 31 by omega) (show τ + 1 < 2 ^ 31 by omega), nI_leI (show a < 2 ^ 31 by omega) (show τ < 2 ^ 31 by omega), nI_eq (show a < 2 ^ 31 by omega) (show τ + 1 < 2 ^ 31 by omega)]
      by_cases c1 : a = τ + 1
      · subst c1
        rw [if_pos rfl, if_pos]
        · rfl
        · refine ⟨Nat.le_refl _, ?_⟩
          cases hl : laO p tm n (nI (τ + 1)) with
          | none => rfl
          | some b => simp only [Option.elim, decide_eq_true_eq]; exact (laO_lt hl).2.2
      · rw [if_neg c1]
        by_cases c2 : a ≤ τ
        · have c3 : a ≤ τ + 1 := by omega
          rw [IH]
          cases hx : exO p tm n (τ + 1) with
          | none =>
            simp only [Option.or, c2, c3, true_and]
          | some b =>
            simp only [Option.or, Option.elim, (exO_lt hx).2.2, decide_eq_true_eq]
            rw [if_neg]
            rintro ⟨-, q⟩
            rw [nI_leI (by omega) (by omega)] at q
            omega
        · rw [if_neg (fun q => by omega), if_neg (fun q => c2 q.1)]
          exact IH
theorem lat_0 {p : Nat → Bool} {tm : Nat → Int32} {N : Nat} (htm : ∀ k, k < N → p k = true → ∃ a, a < 300 ∧ tm k = nI a) : ∀ n, n ≤ N → laO p tm n (nI 0) = exO p tm n 0 := by
  intro n
  induction n with
  | zero => intro _; rfl
  | succ n ih =>
    intro hn
    have IH := ih (by omega)
    rw [laO_succ, exO_succ]
    cases hp : p n with
    | false =>
      unfold latP lastP
      simp only [hp, Bool.false_and, Bool.false_eq_true, if_false]
      exact IH
    | true =>
      obtain ⟨a, ha, e⟩ := htm n (by omega) hp
      unfold latP lastP
      simp only [hp, e, Bool.true_and, Bool.and_eq_true, decide_eq_true_eq]
      simp only [nI_leI (show a < 2 ^ 31 by omega) (show 0 < 2 ^ 31 by omega), nI_eq (show a < 2 ^ 31 by omega) (show 0 < 2 ^ 31 by omega)]
      by_cases c1 : a = 0
      · subst c1
        rw [if_pos rfl, if_pos]
        refine ⟨Nat.le_refl _, ?_⟩
        cases hl : laO p tm n (nI 0) with
        | none => rfl
        | some b => simp only [Option.elim, decide_eq_true_eq]; exact (laO_lt hl).2.2
      · rw [if_neg c1, if_neg (fun q => by omega)]
        exact IH
