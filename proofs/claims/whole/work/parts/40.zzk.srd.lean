/-! the class's rows of a scene whose text is being read -/
def SRd (u : HS) (i : Nat) (c : SV) : Prop := (gI u 3 i 0 = nI (sT c) ∧ gI u 3 i 3 = nI (klS c 1).length ∧ gI u 3 i 5 = nI (klS c 2).length ∧ gI u 3 i 7 = nI (klS c 4).length ∧ gI u 3 i 9 = oddS c ∧ gI u 3 i 10 = trnS c ∧ gI u 3 i 11 = endS c) ∧ (∀ t, t < sT c → gI u 37 i t = sH c t 0 ∧ gI u 38 i t = sH c t 1) ∧ (∀ j q, (klS c 1)[j]? = some q → ∀ a, a < 7 → gI u 39 i (7 * j + a) = sC c q (a + 1)) ∧ (∀ j q, (klS c 2)[j]? = some q → ∀ a, a < 3 → gI u 40 i (3 * j + a) = sC c q (a + 1)) ∧ ∀ j q, (klS c 4)[j]? = some q → ∀ a, a < 3 → gI u 41 i (3 * j + a) = sC c q (a + 1)
def SFr (i : Nat) (u v : HS) : Prop := (∀ r, r ≠ 3 → r ≠ 5 → (r < 37 ∨ 41 < r) → gI v r = gI u r) ∧ (∀ r k, (r = 3 ∨ (37 ≤ r ∧ r ≤ 41)) → k ≠ i → gI v r k = gI u r k) ∧ (∀ k, k ∉ [3, 4, 5, 6] → gI v 5 0 k = gI u 5 0 k) ∧ gR v = gR u
theorem SFr.rf {i : Nat} {u : HS} : SFr i u u := ⟨fun _ _ _ _ => rfl, fun _ _ _ _ => rfl, fun _ _ => rfl, rfl⟩
theorem SFr.tr {i : Nat} {u v w : HS} (h : SFr i u v) (h2 : SFr i v w) : SFr i u w := ⟨fun r a b c => (h2.1 r a b c).trans (h.1 r a b c), fun r k a b => (h2.2.1 r k a b).trans (h.2.1 r k a b), fun k a => (h2.2.2.1 k a).trans (h.2.2.1 k a), h2.2.2.2.trans h.2.2.2⟩
theorem FC.sf {i : Nat} {K : List Nat} {u v : HS} (h : FC K u v) (hK : ∀ k, k ∈ K → k ∈ [3, 4, 5, 6]) : SFr i u v := ⟨fun r _ b _ => h.1 r b, fun r k a _ => by rw [h.1 r (by omega)], fun k a => h.2.1 k (fun q => a (hK k q)), h.2.2⟩
theorem NR.sf {B : Nat → Int32} {n r i base m : Nat} {s : PE (List Nat × Nat)} {u0 u : HS} (h : NR B n r i base m s u0 u) (hr : 37 ≤ r ∧ r ≤ 41) : SFr i u0 u := by
  obtain ⟨-, ⟨g1, g2, g3, g4⟩, -, -⟩ := h
  refine ⟨fun r' a b c => g1 r' b (by omega), fun r' k a b => ?_, g3, g4⟩
  by_cases e : r' = r
  · rw [e]; exact g2 k b
  · rw [g1 r' (by omega) e]
theorem SFr.w {i : Nat} {u v : HS} {k : Nat} {x : Int32} (h : SFr i u v) : SFr i u (wI v 3 i k x) := ⟨fun r a b c => (gI_r a).trans (h.1 r a b c), fun r k' a b => by
    by_cases e : r = 3
    · rw [e, gI_ri b]; exact h.2.1 3 k' (Or.inl rfl) b
    · rw [gI_r e]; exact h.2.1 r k' a b, fun k' a => by rw [gI_r (by decide)]; exact h.2.2.1 k' a, h.2.2.2⟩
/-- rows of a kind that grows -/
theorem rows_A {st : Nat → Nat → Int32} {c : SV} {j0 m r i : Nat} {l : List Nat} {u v : HS} {x : Int32} (hx : nI j0 = x) (hl : l.length = m) (h : ∀ j q, (klS c x)[j]? = some q → ∀ a, a < m → gI u r i (m * j + a) = sC c q (a + 1)) (h1 : ∀ k, k < m * (klS c x).length → gI v r i k = gI u r i k) (h2 : ∀ a, a < m → gI v r i (m * (klS c x).length + a) = nI (l.getD a 0)) : ∀ j q, (klS (scA st c j0 l) x)[j]? = some q → ∀ a, a < m → gI v r i (m * j + a) = sC (scA st c j0 l) q (a + 1) := by
  intro j q hq a ha
  rw [klS_A, if_pos hx] at hq
  by_cases e : j < (klS c x).length
  · rw [List.getElem?_append_left e] at hq
    have e2 : m * j + m ≤ m * (klS c x).length := by
      have := Nat.mul_le_mul_left m (show j + 1 ≤ (klS c x).length from e)
      rw [Nat.mul_succ] at this
      exact this
    rw [h1 _ (by omega), h j q hq a ha, scA_o (klS_at hq).1]
  · have e2 : j = (klS c x).length := by
      have := (List.getElem?_eq_some_iff.mp hq).1
      rw [List.length_append] at this
      have : ([sN c] : List Nat).length = 1 := rfl
      omega
    rw [List.getElem?_append_right (by omega), e2, Nat.sub_self] at hq
    have hq' : sN c = q := by simpa using hq
    rw [e2, h2 a ha, ← hq', scA_x (by omega)]
/-- rows of a kind that stays -/
theorem rows_K {st : Nat → Nat → Int32} {c : SV} {j0 m r i : Nat} {l : List Nat} {u v : HS} {x : Int32} (hx : nI j0 ≠ x) (h : ∀ j q, (klS c x)[j]? = some q → ∀ a, a < m → gI u r i (m * j + a) = sC c q (a + 1)) (h1 : gI v r i = gI u r i) : ∀ j q, (klS (scA st c j0 l) x)[j]? = some q → ∀ a, a < m → gI v r i (m * j + a) = sC (scA st c j0 l) q (a + 1) := by
  intro j q hq a ha
  rw [klS_A, if_neg hx, List.append_nil] at hq
  rw [h1, h j q hq a ha, scA_o (klS_at hq).1]
theorem len_A {st : Nat → Nat → Int32} {c : SV} {j : Nat} {a : List Nat} {x : Int32} : (klS (scA st c j a) x).length = (klS c x).length + if nI j = x then 1 else 0 := by
  rw [klS_A, List.length_append]
  split <;> rfl
theorem cReadThing {B : Nat → Int32} {n i T p : Nat} {u : HS} (hp : CPs B n (.ok p) u) (hT : gI u 3 i 0 = nI T) (hT8 : T < 8) : ∃ v, mX3_readThing u i = some (wI v 3 i 0 (nI (T + 1))) ∧ CPs B n (psP (scN B n p T 0)) v ∧ SFr i u v ∧ (gI v 3 = gI u 3 ∧ ∀ r, 39 ≤ r → r ≤ 41 → gI v r = gI u r) ∧ (∀ t, t ≠ T → gI v 37 i t = gI u 37 i t ∧ gI v 38 i t = gI u 38 i t) ∧ ∀ a q, scN B n p T 0 = .ok (a, q) → gI v 37 i T = nI (a.getD 0 0) ∧ gI v 38 i T = nI (a.getD 1 0) := by
  have n8 : ¬ nI T = 8 := fun y => by have := (nI_eq (b := 8) (by omega) (by decide)).mp y; omega
  obtain ⟨x1, u1, e1, f1, c1, v1⟩ := cNumS (.ok ([], p)) (fun _ => (0, 7, -1)) 0 7 hp (fun _ _ _ => ⟨rfl, by decide⟩)
  obtain ⟨x2, u2, e2, f2, c2, v2⟩ := cNumS (stN B n (.ok ([], p)) (fun _ => (0, 7, -1))) (fun _ => (1, 9, -1)) 1 9 (c1.w (r := 37) (i := i) (k := T) (x := x1) (by decide) (by decide)) (fun _ _ _ => ⟨rfl, by decide⟩)
  refine ⟨wI u2 38 i T x2, ?_, c2.w (by decide) (by decide), ⟨fun r a b c => ?_, fun r k a b => ?_, fun k hk => ?_, f2.2.2.trans f1.2.2⟩, ⟨?_, fun r a b => ?_⟩, fun t ht => ⟨?_, ?_⟩, fun a q ha => ?_⟩
  · unfold mX3_readThing
    rw [hT, if_neg n8, e1]
    simp only [ob_q, bd_q]
    rw [ck_nI hT8 (by decide)]
    simp only [ob_q]
    rw [e2]
    simp only [ob_q, gI_r (show 3 ≠ 37 by decide), gI_r (show 3 ≠ 38 by decide), f1.1 3 (by decide), f2.1 3 (by decide), hT, nI_1]
    rw [ck_nI hT8 (by decide)]
    simp only [ob_q]
  · rw [gI_r (by omega), f2.1 r b, gI_r (by omega), f1.1 r b]
  · have e5 : r ≠ 5 := by omega
    by_cases e : r = 38
    · rw [e, gI_ri b, f2.1 38 (by decide), gI_r (by decide), f1.1 38 (by decide)]
    · rw [gI_r e, f2.1 r e5]
      by_cases e' : r = 37
      · rw [e', gI_ri b, f1.1 37 (by decide)]
      · rw [gI_r e', f1.1 r e5]
  · rw [gI_r (by decide), f2.2.1 k hk, gI_r (by decide), f1.2.1 k hk]
  · rw [gI_r (by decide), f2.1 3 (by decide), gI_r (by decide), f1.1 3 (by decide)]
  · rw [gI_r (by omega), f2.1 r (by omega), gI_r (by omega), f1.1 r (by omega)]
  · rw [gI_r (by decide), f2.1 37 (by decide), gI_k ht, f1.1 37 (by decide)]
  · rw [gI_k ht, f2.1 38 (by decide), gI_r (by decide), f1.1 38 (by decide)]
  · have ha' : stN B n (stN B n (.ok ([], p)) (fun _ => (0, 7, -1))) (fun _ => (1, 9, -1)) = .ok (a, q) := ha
    cases h1 : stN B n (.ok ([], p)) (fun _ => (0, 7, -1)) with
    | error e => rw [h1] at ha'; cases ha'
    | ok bq =>
      obtain ⟨b, q1⟩ := bq
      obtain ⟨V1, g1, g2, -, -⟩ := v1 [] p rfl b q1 h1
      obtain ⟨V2, g3, g4, -, -⟩ := v2 b q1 h1 a q ha'
      rw [gI_r (show 37 ≠ 38 by decide), f2.1 37 (by decide), gI_eq, gI_eq, g3, g1, g2, g4]
      exact ⟨rfl, rfl⟩
