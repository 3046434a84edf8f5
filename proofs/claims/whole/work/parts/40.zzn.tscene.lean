/-! the reference: numbers into the row -/
def RN (B : Nat → Int32) (n k m : Nat) (s : PE (List Nat × Nat)) (u0 u : HS) : Prop := RPs B n (psP s) u ∧ Fr [63] [4, 6, 7] u0 u ∧ (∀ i, i ≠ k → gI u 63 i = gI u0 63 i) ∧ (∀ x, x = 0 ∨ m < x → gI u 63 k x = gI u0 63 k x) ∧ ∀ a p, s = .ok (a, p) → a.length = m ∧ ∀ j, j < m → gI u 63 k (j + 1) = nI (a.getD j 0)
theorem RN.z {B : Nat → Int32} {n k p : Nat} {u : HS} (h : RPs B n (.ok p) u) : RN B n k 0 (.ok ([], p)) u u :=
  ⟨h, Fr.rf, fun _ _ => rfl, fun _ _ => rfl, fun a p ha => by injection ha with ha; injection ha with ha _; rw [← ha]; exact ⟨rfl, fun j hj => absurd hj (Nat.not_lt_zero j)⟩⟩
theorem RN.step {B : Nat → Int32} {n k m : Nat} {s : PE (List Nat × Nat)} {u0 u : HS} (h : RN B n k m s u0 u) (f : List Nat → Int32 × Int32 × Int32) (x y no : Int32) (hxy : ∀ a p, s = .ok (a, p) → f a = (x, y, no) ∧ y < nI 100000) : ∃ val u1, mX9_number u x y no = some (val, u1) ∧ RN B n k (m + 1) (stN B n s f) u0 (wI u1 63 k (m + 1) val) := by
  obtain ⟨h1, h2, h3, h4, h5⟩ := h
  obtain ⟨val, u1, e1, f1, c1, v1⟩ := tNumS s f x y no h1 hxy
  have k63 : gI u1 63 = gI u 63 := f1.1 63 (by simp) (by decide)
  refine ⟨val, u1, e1, c1.w (by decide) (by decide), (h2.tr (f1.mo (by simp) (fun _ q => q))).sI (by decide) (by decide), fun i hi => by rw [gI_ri hi, k63, h3 i hi], fun x hx => by rw [gI_k (by omega), k63, h4 x (by omega)], fun b q hb => ?_⟩
  cases s with
  | error e => cases hb
  | ok ap =>
    obtain ⟨a, p⟩ := ap
    obtain ⟨V, hb1, hv, hV⟩ := v1 a p rfl b q hb
    obtain ⟨l1, l2⟩ := h5 a p rfl
    refine ⟨by rw [hb1, List.length_append, l1]; rfl, fun j hj => ?_⟩
    by_cases c : j = m
    · rw [c, gI_eq, hv, hb1, List.getD_eq_getElem?_getD, List.getElem?_append_right (by omega), l1, Nat.sub_self]; rfl
    · rw [gI_k (by omega), k63, l2 j (by omega), hb1, List.getD_eq_getElem?_getD, List.getD_eq_getElem?_getD, List.getElem?_append_left (by omega)]
theorem tReadsWay {B : Nat → Int32} {n k : Nat} {s : PE (List Nat × Nat)} {u0 u : HS} (h : RN B n k 1 s u0 u) : ∃ u', mX9_readsWay u k = some u' ∧ RN B n k 7 (stN B n (stN B n (stN B n (stN B n (stN B n (stN B n s (fun _ => (0, 299, -1))) (fun _ => (0, 39, -1))) (fun _ => (0, 29, -1))) (fun a => (nI (a.getD 1 0), 299, -1))) (fun _ => (0, 39, -1))) (fun _ => (0, 29, -1))) u0 u' := by
  obtain ⟨x2, u2, e2, h2⟩ := h.step (fun _ => (0, 299, -1)) 0 299 (-1) (fun _ _ _ => ⟨rfl, by decide⟩)
  obtain ⟨x3, u3, e3, h3⟩ := h2.step (fun _ => (0, 39, -1)) 0 39 (-1) (fun _ _ _ => ⟨rfl, by decide⟩)
  obtain ⟨x4, u4, e4, h4⟩ := h3.step (fun _ => (0, 29, -1)) 0 29 (-1) (fun _ _ _ => ⟨rfl, by decide⟩)
  obtain ⟨x5, u5, e5, h5⟩ := h4.step (fun a => (nI (a.getD 1 0), 299, -1)) (gI (wI u4 63 k 4 x4) 63 k 2) 299 (-1) (fun a p ha => ⟨by rw [(h4.2.2.2.2 a p ha).2 1 (by decide)], by decide⟩)
  obtain ⟨x6, u6, e6, h6⟩ := h5.step (fun _ => (0, 39, -1)) 0 39 (-1) (fun _ _ _ => ⟨rfl, by decide⟩)
  obtain ⟨x7, u7, e7, h7⟩ := h6.step (fun _ => (0, 29, -1)) 0 29 (-1) (fun _ _ _ => ⟨rfl, by decide⟩)
  refine ⟨_, ?_, h7⟩
  unfold mX9_readsWay
  rw [e2]
  simp only [ob_q, bd_q, show ck 8 2 = some 2 from by decide]
  rw [show (1 + 1 : Nat) = 2 from rfl] at e3
  rw [e3]
  simp only [ob_q, show ck 8 3 = some 3 from by decide]
  rw [show (1 + 1 + 1 : Nat) = 3 from rfl] at e4
  rw [e4]
  simp only [ob_q, show ck 8 4 = some 4 from by decide]
  rw [show (1 + 1 + 1 + 1 : Nat) = 4 from rfl] at e5
  rw [e5]
  simp only [ob_q, show ck 8 5 = some 5 from by decide]
  rw [show (1 + 1 + 1 + 1 + 1 : Nat) = 5 from rfl] at e6
  rw [e6]
  simp only [ob_q, show ck 8 6 = some 6 from by decide]
  rw [show (1 + 1 + 1 + 1 + 1 + 1 : Nat) = 6 from rfl] at e7
  rw [e7]
  simp only [ob_q, show ck 8 7 = some 7 from by decide]
theorem RN.fr9 {B : Nat → Int32} {n k m : Nat} {s : PE (List Nat × Nat)} {u0 u : HS} (h : RN B n k m s u0 u) {j : Nat} (hj : j ≠ 4 ∧ j ≠ 6 ∧ j ≠ 7) : gI u 9 0 j = gI u0 9 0 j := h.2.1.2.1 j (by simp; omega)
/-- the numbers of a clause, the reference -/
theorem tNums {B : Nat → Int32} {n k p T j : Nat} {u : HS} (hj : j < 5) (hT : T ≤ 8) (h : RPs B n (.ok p) u) (h10 : gI u 9 0 10 = nI T) : ∃ u', (if nI j = 0 then ((mX9_number u 0 7 (-1)).bind fun z165 => bd z165.1 fun x166 => bd z165.2 fun u167 =>
  (ck 8 1).bind fun k168 =>
  bd (wI u167 63 k k168 x166) fun u169 =>
  (mX9_number u169 1 9 (-1)).bind fun z170 => bd z170.1 fun x171 => bd z170.2 fun u172 =>
  (ck 8 2).bind fun k173 =>
  bd (wI u172 63 k k173 x171) fun u174 =>
  some u174)
  else ((mX9_number u 0 ((gI u 9 0 10) - 1) (-1)).bind fun z124 => bd z124.1 fun x125 => bd z124.2 fun u126 =>
  (ck 8 1).bind fun k127 =>
  bd (wI u126 63 k k127 x125) fun u128 =>
  ((if (nI j = 1) then ((mX9_readsWay u128 k).bind fun u164 =>
  some u164)
  else (some u128)) : Option HS).bind fun u129 =>
  ((if (nI j = 2) then ((ck 8 1).bind fun k156 =>
  (mX9_number u129 0 ((gI u129 9 0 10) - 1) (gI u129 63 k k156)).bind fun z157 => bd z157.1 fun x158 => bd z157.2 fun u159 =>
  (ck 8 2).bind fun k160 =>
  bd (wI u159 63 k k160 x158) fun u161 =>
  some u161)
  else (some u129)) : Option HS).bind fun u131 =>
  ((if (nI j = 2) then ((mX9_number u131 0 299 (-1)).bind fun z150 => bd z150.1 fun x151 => bd z150.2 fun u152 =>
  (ck 8 3).bind fun k153 =>
  bd (wI u152 63 k k153 x151) fun u154 =>
  some u154)
  else (some u131)) : Option HS).bind fun u133 =>
  ((if (nI j = 4) then ((mX9_number u133 0 299 (-1)).bind fun z144 => bd z144.1 fun x145 => bd z144.2 fun u146 =>
  (ck 8 2).bind fun k147 =>
  bd (wI u146 63 k k147 x145) fun u148 =>
  some u148)
  else (some u133)) : Option HS).bind fun u135 =>
  if (nI j = 4) then ((mX9_number u135 0 7 (-1)).bind fun z138 => bd z138.1 fun x139 => bd z138.2 fun u140 =>
  (ck 8 3).bind fun k141 =>
  bd (wI u140 63 k k141 x139) fun u142 =>
  some u142)
  else (some u135)) : Option HS) = some u' ∧ ∃ m, m < 8 ∧ RN B n k m (scN B n p T j) u u' := by
  have z := RN.z (k := k) h
  have a1 : ck 8 1 = some 1 := by decide
  have a2 : ck 8 2 = some 2 := by decide
  have a3 : ck 8 3 = some 3 := by decide
  match j, hj with
  | 0, _ =>
    obtain ⟨x1, u1, e1, h1⟩ := z.step (fun _ => (0, 7, -1)) 0 7 (-1) (fun _ _ _ => ⟨rfl, by decide⟩)
    obtain ⟨x2, u2, e2, h2⟩ := h1.step (fun _ => (1, 9, -1)) 1 9 (-1) (fun _ _ _ => ⟨rfl, by decide⟩)
    rw [if_pos (show nI 0 = 0 from rfl), e1]
    simp only [ob_q, bd_q, a1, a2]
    rw [show (0 + 1 : Nat) = 1 from rfl] at e2
    rw [e2]
    exact ⟨_, rfl, 2, by decide, h2⟩
  | 1, _ =>
    obtain ⟨x1, u1, e1, h1⟩ := z.step (fun _ => (0, nI T - 1, -1)) 0 (nI T - 1) (-1) (fun _ _ _ => ⟨rfl, T1_lt hT⟩)
    obtain ⟨u2, e2, h2⟩ := tReadsWay h1
    rw [if_neg (show ¬ nI 1 = 0 by decide), h10, e1]
    simp only [ob_q, bd_q, a1, if_pos (show nI 1 = 1 from rfl), if_neg (show ¬ nI 1 = 2 by decide), if_neg (show ¬ nI 1 = 4 by decide)]
    rw [show (0 + 1 : Nat) = 1 from rfl] at e2
    rw [e2]
    exact ⟨_, rfl, 7, by decide, h2⟩
  | 2, _ =>
    obtain ⟨x1, u1, e1, h1⟩ := z.step (fun _ => (0, nI T - 1, -1)) 0 (nI T - 1) (-1) (fun _ _ _ => ⟨rfl, T1_lt hT⟩)
    obtain ⟨x2, u2, e2, h2⟩ := h1.step (fun a => (0, nI T - 1, nI (a.getD 0 0))) 0 (nI T - 1) (gI (wI u1 63 k 1 x1) 63 k 1) (fun a p ha => ⟨by rw [(h1.2.2.2.2 a p ha).2 0 (by decide)], T1_lt hT⟩)
    obtain ⟨x3, u3, e3, h3⟩ := h2.step (fun _ => (0, 299, -1)) 0 299 (-1) (fun _ _ _ => ⟨rfl, by decide⟩)
    have g10 := h1.fr9 (j := 10) (by decide)
    rw [if_neg (show ¬ nI 2 = 0 by decide), h10, e1]
    rw [show (0 + 1 : Nat) = 1 from rfl] at e2 g10
    rw [show (0 + 1 + 1 : Nat) = 2 from rfl] at e3
    simp only [ob_q, bd_q, a1, if_pos (show nI 2 = 2 from rfl), if_neg (show ¬ nI 2 = 1 by decide), if_neg (show ¬ nI 2 = 4 by decide), g10, h10]
    rw [e2]
    simp only [ob_q, a2]
    rw [e3]
    simp only [ob_q, a3]
    exact ⟨_, rfl, 3, by decide, h3⟩
  | 3, _ =>
    obtain ⟨x1, u1, e1, h1⟩ := z.step (fun _ => (0, nI T - 1, -1)) 0 (nI T - 1) (-1) (fun _ _ _ => ⟨rfl, T1_lt hT⟩)
    rw [if_neg (show ¬ nI 3 = 0 by decide), h10, e1]
    simp only [ob_q, bd_q, a1, if_neg (show ¬ nI 3 = 1 by decide), if_neg (show ¬ nI 3 = 2 by decide), if_neg (show ¬ nI 3 = 4 by decide)]
    exact ⟨_, rfl, 1, by decide, h1⟩
  | 4, _ =>
    obtain ⟨x1, u1, e1, h1⟩ := z.step (fun _ => (0, nI T - 1, -1)) 0 (nI T - 1) (-1) (fun _ _ _ => ⟨rfl, T1_lt hT⟩)
    obtain ⟨x2, u2, e2, h2⟩ := h1.step (fun _ => (0, 299, -1)) 0 299 (-1) (fun _ _ _ => ⟨rfl, by decide⟩)
    obtain ⟨x3, u3, e3, h3⟩ := h2.step (fun _ => (0, 7, -1)) 0 7 (-1) (fun _ _ _ => ⟨rfl, by decide⟩)
    rw [if_neg (show ¬ nI 4 = 0 by decide), h10, e1]
    rw [show (0 + 1 : Nat) = 1 from rfl] at e2
    rw [show (0 + 1 + 1 : Nat) = 2 from rfl] at e3
    simp only [ob_q, bd_q, a1, if_pos (show nI 4 = 4 from rfl), if_neg (show ¬ nI 4 = 1 by decide), if_neg (show ¬ nI 4 = 2 by decide)]
    rw [e2]
    simp only [ob_q, a2]
    rw [e3]
    simp only [ob_q, a3]
    exact ⟨_, rfl, 3, by decide, h3⟩
