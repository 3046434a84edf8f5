/-! words, as the class reads them -/
def wdR (B : Nat → Int32) (p len : Nat) : List Int32 → Nat → Option Nat → Option Nat
  | [], _, _ => none
  | c :: cs, wh', al => if c = 32 then (if al = some len then some wh' else wdR B p len cs (wh' + 1) (some 0)) else wdR B p len cs wh' (al.bind fun a => if a < len ∧ B (p + a) = c then some (a + 1) else none)
theorem cWordL {B : Nat → Int32} {n p i len : Nat} {u : HS} (hi : strOk i) (h : LexC B n p u) (hlen : p + len ≤ n) : ∀ (d k fu wh' : Nat) (al : Option Nat), k + d = (bytC.getD i []).length → d < fu → wh' ≤ k → (∀ a, al = some a → a ≤ k) → mX5_wordIn_L8 i (nI len) u (some (-1)) fu (nI wh') (oI al) (nI k) = some ((wdR B p len ((bytC.getD i []).drop k) wh' al).elim (-1) nI) := by
  have hl := hi.2
  have hn := h.2.1
  intro d
  induction d with
  | zero =>
    intro k fu wh' al h1 h2 h3 h4
    obtain ⟨z, rfl⟩ : ∃ z, fu = z + 1 := ⟨fu - 1, by omega⟩
    rw [mX5_wordIn_L8.eq_2, slen_ok hi, if_pos (nI_le (by omega) (by omega)), List.drop_eq_nil_of_le (by omega)]
    rfl
  | succ d ih =>
    intro k fu wh' al h1 h2 h3 h4
    obtain ⟨z, rfl⟩ : ∃ z, fu = z + 1 := ⟨fu - 1, by omega⟩
    have hk : k < (bytC.getD i []).length := by omega
    rw [mX5_wordIn_L8.eq_2, slen_ok hi, if_neg (nI_ge hk (by omega)), sch_ok hi hk, List.drop_eq_getElem_cons hk]
    simp only [ob_q, bd_q, jp_q, nI_1, getD_get hk]
    generalize (bytC.getD i [])[k] = c
    show _ = some ((if c = 32 then (if al = some len then some wh' else wdR B p len ((bytC.getD i []).drop (k + 1)) (wh' + 1) (some 0)) else wdR B p len ((bytC.getD i []).drop (k + 1)) wh' (al.bind fun a => if a < len ∧ B (p + a) = c then some (a + 1) else none)).elim (-1) nI)
    by_cases c1 : c = 32
    · rw [if_pos c1, if_pos c1]
      by_cases c2 : al = some len
      · rw [if_pos c2, c2, if_pos (show oI (some len) = nI len from rfl)]; rfl
      · have : ¬ oI al = nI len := by
          cases al with
          | none => exact fun q => nI_m1 (n := len) (by omega) q.symm
          | some a => exact fun q => c2 (by rw [(nI_eq (a := a) (b := len) (by have := h4 a rfl; omega) (by omega)).mp q])
        rw [if_neg c2, if_neg this]
        exact ih (k + 1) z (wh' + 1) (some 0) (by omega) (by omega) (by omega) (fun a ha => by injection ha with ha; omega)
    · rw [if_neg c1, if_neg c1]
      cases al with
      | none =>
        rw [show oI none = -1 from rfl, if_pos (by decide)]
        simp only [ob_q]
        exact ih (k + 1) z wh' none (by omega) (by omega) (by omega) (fun a ha => by cases ha)
      | some a =>
        have ha := h4 a rfl
        rw [show oI (some a) = nI a from rfl, if_neg (show ¬ nI a < 0 from nI_pos (by omega))]
        show _ = some ((wdR B p len ((bytC.getD i []).drop (k + 1)) wh' (if a < len ∧ B (p + a) = c then some (a + 1) else none)).elim (-1) nI)
        by_cases c3 : a < len
        · rw [if_neg (nI_ge c3 (by omega)), h.2.2.1, nI_add, ck_nI (show p + a < 400 by omega) (by decide)]
          simp only [ob_q, h.2.2.2.2 (p + a) (by omega), nI_1]
          by_cases c4 : B (p + a) = c
          · rw [if_pos c4, if_pos ⟨c3, c4⟩]
            simp only [ob_q]
            exact ih (k + 1) z wh' (some (a + 1)) (by omega) (by omega) (by omega) (fun b hb => by injection hb with hb; omega)
          · rw [if_neg c4, if_neg (fun q => c4 q.2)]
            simp only [ob_q]
            exact ih (k + 1) z wh' none (by omega) (by omega) (by omega) (fun b hb => by cases hb)
        · rw [if_pos (nI_le (by omega) (by omega)), if_neg (fun q => c3 q.1)]
          simp only [ob_q]
          exact ih (k + 1) z wh' none (by omega) (by omega) (by omega) (fun b hb => by cases hb)
/-- does a word stand at p, as long as the letters there -/
def eqW (B : Nat → Int32) (p len : Nat) (w : List Int32) : Bool := decide (w.length = len) && (List.range w.length).all fun j => decide (B (p + j) = w.getD j 0)
theorem wdR_none {B : Nat → Int32} {p len : Nat} : ∀ (w r : List Int32) (v : Nat), (∀ c ∈ w, c ≠ 32) → wdR B p len (w ++ 32 :: r) v none = wdR B p len r (v + 1) (some 0) := by
  intro w
  induction w with
  | nil => intro r v _; show (if (32 : Int32) = 32 then (if none = some len then some v else wdR B p len r (v + 1) (some 0)) else _) = _; rw [if_pos rfl, if_neg (by simp)]
  | cons c w ih =>
    intro r v hc
    show (if c = 32 then _ else wdR B p len (w ++ 32 :: r) v none) = _
    rw [if_neg (hc c (List.mem_cons_self ..))]
    exact ih r v fun c' h' => hc c' (List.mem_cons_of_mem _ h')
theorem wdR_word {B : Nat → Int32} {p len : Nat} : ∀ (w r : List Int32) (v a : Nat), (∀ c ∈ w, c ≠ 32) → wdR B p len (w ++ 32 :: r) v (some a) = if a + w.length = len ∧ ∀ j, j < w.length → B (p + (a + j)) = w.getD j 0 then some v else wdR B p len r (v + 1) (some 0) := by
  intro w
  induction w with
  | nil =>
    intro r v a _
    show (if (32 : Int32) = 32 then (if some a = some len then some v else wdR B p len r (v + 1) (some 0)) else _) = _
    rw [if_pos rfl]
    by_cases c : a = len
    · rw [if_pos (by rw [c]), if_pos ⟨c, fun j hj => absurd hj (Nat.not_lt_zero j)⟩]
    · rw [if_neg (by simpa using c), if_neg (fun q => c q.1)]
  | cons c w ih =>
    intro r v a hc
    show (if c = 32 then _ else wdR B p len (w ++ 32 :: r) v (if a < len ∧ B (p + a) = c then some (a + 1) else none)) = _
    rw [if_neg (hc c (List.mem_cons_self ..))]
    have hc' : ∀ c' ∈ w, c' ≠ 32 := fun c' h' => hc c' (List.mem_cons_of_mem _ h')
    by_cases d : a < len ∧ B (p + a) = c
    · rw [if_pos d, ih r v (a + 1) hc']
      by_cases e : a + 1 + w.length = len ∧ ∀ j, j < w.length → B (p + (a + 1 + j)) = w.getD j 0
      · rw [if_pos e, if_pos]
        refine ⟨by rw [List.length_cons]; omega, fun j hj => ?_⟩
        cases j with
        | zero => exact d.2
        | succ j =>
          rw [List.length_cons] at hj
          have := e.2 j (by omega)
          rw [show p + (a + (j + 1)) = p + (a + 1 + j) by omega]
          exact this
      · rw [if_neg e, if_neg]
        intro q
        refine e ⟨by have := q.1; rw [List.length_cons] at this; omega, fun j hj => ?_⟩
        have := q.2 (j + 1) (by rw [List.length_cons]; omega)
        rw [show p + (a + 1 + j) = p + (a + (j + 1)) by omega]
        exact this
    · rw [if_neg d, wdR_none w r v hc', if_neg]
      intro q
      refine d ⟨by have := q.1; rw [List.length_cons] at this; omega, ?_⟩
      exact q.2 0 (by rw [List.length_cons]; omega)
theorem wdR_eq {B : Nat → Int32} {p len : Nat} (w r : List Int32) (v : Nat) (hw : ∀ c ∈ w, c ≠ 32) : wdR B p len (w ++ 32 :: r) v (some 0) = if eqW B p len w = true then some v else wdR B p len r (v + 1) (some 0) := by
  rw [wdR_word w r v 0 hw]
  by_cases c : 0 + w.length = len ∧ ∀ j, j < w.length → B (p + (0 + j)) = w.getD j 0
  · rw [if_pos c, if_pos]
    unfold eqW
    rw [decide_eq_true (show w.length = len by omega), Bool.true_and, List.all_eq_true]
    intro j hj
    have := c.2 j (List.mem_range.mp hj)
    rw [Nat.zero_add] at this
    exact decide_eq_true this
  · rw [if_neg c, if_neg]
    intro q
    unfold eqW at q
    rw [Bool.and_eq_true, List.all_eq_true] at q
    refine c ⟨by have := of_decide_eq_true q.1; omega, fun j hj => ?_⟩
    rw [Nat.zero_add]
    exact of_decide_eq_true (q.2 j (List.mem_range.mpr hj))
