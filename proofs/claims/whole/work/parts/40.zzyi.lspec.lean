/-! ===== a law's text ===== -/
abbrev LRo : Type := Nat × Nat × Nat × Option Nat
def rJ (r : LRo) (j : Nat) : Int32 := if j = 0 then nI r.1 else if j = 1 then nI r.2.1 else if j = 2 then nI r.2.2.1 else r.2.2.2.elim (-1) nI
/-- what a clause says behind its word: the place, where the condition's code begins and ends, the code -/
def lcS (B : Nat → Int32) (n p : Nat) (c : List Int32) : PE (Nat × Nat × Option Nat × List Int32) := match gS B n 64 0 0 (.ok (p, c)) with
  | .error e => .error e
  | .ok pc => if wdO 11 B n pc.1 = some 0 then (match gS B n 64 3 0 (.ok (sk B n (wsE B n pc.1), pc.2)) with
      | .error e => .error e
      | .ok qc => .ok (qc.1, pc.2.length, some qc.2.length, qc.2))
    else .ok (pc.1, pc.2.length, none, pc.2)
def lwS (B : Nat → Int32) (n : Nat) : Nat → Nat → List LRo → List Int32 → PE (List LRo × List Int32)
  | 0, _, R, c => .ok (R, c)
  | d + 1, p, R, c => match wdO 10 B n p with
    | none => if p = n then .ok (R, c) else .error (1, p)
    | some j => if R.length < 16 then (match lcS B n (sk B n (wsE B n p)) c with
      | .error e => .error e
      | .ok q => if sgB B n q.1 59 = true then lwS B n d (sk B n (q.1 + 1)) (R ++ [(j, c.length, q.2.1, q.2.2.1)]) q.2.2.2 else .error (1, q.1)) else .error (3, p)
def lwOf (R : List LRo) (c : List Int32) : LT := ((R.length, (fun k j => rJ (R.getD k (0, 0, 0, none)) j), fun p => c.getD p 0), c.length)
theorem tyR_cg {f g : Nat → Int32} : ∀ (d k : Nat) (st : List Bool), (∀ p, k ≤ p → p < k + d → f p = g p) → tyR f d k st = tyR g d k st := by
  intro d
  induction d with
  | zero => intro k st _; rw [tyR.eq_1, tyR.eq_1]
  | succ d ih =>
    intro k st h
    rw [tyR.eq_2, tyR.eq_2, h k (Nat.le_refl _) (by omega)]
    cases tyS (g k) st with
    | none => rw [Option.bind_none, Option.bind_none]
    | some st' => rw [Option.bind_some, Option.bind_some]; exact ih (k + 1) st' fun p h1 h2 => h p (by omega) (by omega)
theorem tyR_L : ∀ (r c : List Int32) (st : List Bool), tyR (fun p => (c ++ r).getD p 0) r.length c.length st = tyL r st := by
  intro r
  induction r with
  | nil => intro c st; rfl
  | cons x r ih =>
    intro c st
    show (tyS ((c ++ x :: r).getD c.length 0) st).bind (tyR (fun p => (c ++ x :: r).getD p 0) r.length (c.length + 1)) = (tyS x st).bind (tyL r)
    have e : (c ++ x :: r).getD c.length 0 = x := by
      rw [List.getD_eq_getElem?_getD, List.getElem?_append_right (Nat.le_refl _), Nat.sub_self]; rfl
    rw [e]
    cases tyS x st with
    | none => rfl
    | some st' =>
      have := ih (c ++ [x]) st'
      rw [List.append_assoc, List.length_append] at this
      exact this
/-- a row that is well typed over some code -/
def rOK (c : List Int32) (r : LRo) : Prop := r.1 < 4 ∧ ∃ e, r.2.1 ≤ r.2.2.1 ∧ r.2.2.1 ≤ e ∧ e ≤ c.length ∧ tyR (fun p => c.getD p 0) (r.2.2.1 - r.2.1) r.2.1 [] = some [false] ∧ ((r.2.2.2 = none ∧ e = r.2.2.1) ∨ (r.2.2.2 = some e ∧ tyR (fun p => c.getD p 0) (e - r.2.2.1) r.2.2.1 [] = some [true]))
theorem getD_app {c r : List Int32} {p : Nat} (h : p < c.length) : (c ++ r).getD p 0 = c.getD p 0 := by
  rw [List.getD_eq_getElem?_getD, List.getD_eq_getElem?_getD, List.getElem?_append_left h]
theorem rOK.app {c : List Int32} {r : LRo} (h : rOK c r) (x : List Int32) : rOK (c ++ x) r := by
  obtain ⟨h0, e, h1, h2, h3, h4, h5⟩ := h
  refine ⟨h0, e, h1, h2, by rw [List.length_append]; omega, ?_, ?_⟩
  · rw [tyR_cg (g := fun p => c.getD p 0) _ _ _ (fun p a b => getD_app (by omega))]; exact h4
  · rcases h5 with q | ⟨q1, q2⟩
    · exact Or.inl q
    · exact Or.inr ⟨q1, by rw [tyR_cg (g := fun p => c.getD p 0) _ _ _ (fun p a b => getD_app (by omega))]; exact q2⟩
theorem lcS_ok {B : Nat → Int32} {n p : Nat} {c : List Int32} {q : Nat × Nat × Option Nat × List Int32} (hp : p ≤ n) (hsk : sk B n p = p) (h : lcS B n p c = .ok q) (j : Nat) (hj : j < 4) : ∃ x, q.2.2.2 = c ++ x ∧ p + x.length ≤ q.1 ∧ q.1 ≤ n ∧ sk B n q.1 = q.1 ∧ rOK q.2.2.2 (j, c.length, q.2.1, q.2.2.1) := by
  unfold lcS at h
  cases hA : gS B n 64 0 0 (.ok (p, c)) with
  | error e => rw [hA] at h; cases h
  | ok pc =>
    rw [hA] at h
    simp only at h
    obtain ⟨r, a1, a2, a3, a4, a5⟩ := gS_ok 64 0 0 (by decide) (by decide) (by decide) p c pc hp hsk hA
    have t1 : tyR (fun z => (c ++ r).getD z 0) ((c ++ r).length - c.length) c.length [] = some [false] := by
      have e : (c ++ r).length - c.length = r.length := by rw [List.length_append]; omega
      rw [e, tyR_L]
      exact a5 [] (by simp)
    by_cases hw : wdO 11 B n pc.1 = some 0
    · rw [if_pos hw] at h
      have w1 := wdO_st hw a3 wr11
      have w2 := (wsE_le (B := B) a3).2
      have l := sk_le (B := B) w2
      cases hB : gS B n 64 3 0 (.ok (sk B n (wsE B n pc.1), pc.2)) with
      | error e => rw [hB] at h; cases h
      | ok qc =>
        rw [hB] at h
        simp only at h
        injection h with h
        obtain ⟨r2, b1, b2, b3, b4, b5⟩ := gS_ok 64 3 0 (by decide) (by decide) (by decide) _ _ qc l.2 (sk_idem w2) hB
        rw [← h]
        refine ⟨r ++ r2, by simp only; rw [b1, a1, List.append_assoc], by simp only [List.length_append]; omega, b3, b4, hj, qc.2.length, ?_, ?_, Nat.le_refl _, ?_, Or.inr ⟨rfl, ?_⟩⟩
        · show c.length ≤ pc.2.length
          rw [a1, List.length_append]; omega
        · show pc.2.length ≤ qc.2.length
          rw [b1, List.length_append]; omega
        · show tyR (fun z => qc.2.getD z 0) (pc.2.length - c.length) c.length [] = some [false]
          rw [tyR_cg (g := fun z => (c ++ r).getD z 0) _ _ _ (fun z q1 q2 => by
            rw [b1, a1]
            exact getD_app (by rw [a1] at q2; omega)), a1]
          exact t1
        · show tyR (fun z => qc.2.getD z 0) (qc.2.length - pc.2.length) pc.2.length [] = some [true]
          have e : qc.2.length - pc.2.length = r2.length := by rw [b1, List.length_append]; omega
          rw [e, b1, tyR_L]
          exact b5 [] (by simp)
    · rw [if_neg hw] at h
      injection h with h
      rw [← h]
      refine ⟨r, a1, a2, a3, a4, hj, pc.2.length, ?_, Nat.le_refl _, Nat.le_refl _, ?_, Or.inl ⟨rfl, rfl⟩⟩
      · show c.length ≤ pc.2.length
        rw [a1, List.length_append]; omega
      · show tyR (fun z => pc.2.getD z 0) (pc.2.length - c.length) c.length [] = some [false]
        rw [a1]
        exact t1
theorem lwS_ok {B : Nat → Int32} {n : Nat} : ∀ (d p : Nat) (R : List LRo) (c : List Int32) (R' : List LRo) (c' : List Int32), p ≤ n → sk B n p = p → c.length ≤ p → R.length ≤ 16 → (∀ r, r ∈ R → rOK c r) → lwS B n d p R c = .ok (R', c') → c'.length ≤ n ∧ R'.length ≤ 16 ∧ ∀ r, r ∈ R' → rOK c' r := by
  intro d
  induction d with
  | zero => intro p R c R' c' hp hsk hc hR hr h; injection h with h; injection h with h1 h2; rw [← h1, ← h2]; exact ⟨by omega, hR, hr⟩
  | succ d ih =>
    intro p R c R' c' hp hsk hc hR hr h
    unfold lwS at h
    cases hw : wdO 10 B n p with
    | none =>
      rw [hw] at h
      simp only at h
      split at h
      · injection h with h; injection h with h1 h2; rw [← h1, ← h2]; exact ⟨by omega, hR, hr⟩
      · cases h
    | some j =>
      rw [hw] at h
      simp only at h
      have hj := wd10_lt hw
      have w1 := wdO_st hw hp wr10
      rw [hsk] at w1
      have w2 := (wsE_le (B := B) hp).2
      have l := sk_le (B := B) w2
      split at h
      · rename_i h16
        cases hS : lcS B n (sk B n (wsE B n p)) c with
        | error e => rw [hS] at h; cases h
        | ok q =>
          rw [hS] at h
          simp only at h
          obtain ⟨x, b1, b2, b3, b4, b5⟩ := lcS_ok l.2 (sk_idem w2) hS j hj
          split at h
          · rename_i hg
            have s1 := sgB_in hg
            rw [b4] at s1
            have l2 := sk_le (B := B) (show q.1 + 1 ≤ n by omega)
            refine ih _ _ _ _ _ l2.2 (sk_idem (by omega)) (by rw [b1, List.length_append]; omega) (by rw [List.length_append]; show R.length + 1 ≤ 16; omega) (fun r hr' => ?_) h
            rw [List.mem_append] at hr'
            rcases hr' with z | z
            · rw [b1]; exact (hr r z).app x
            · rw [List.mem_singleton] at z; rw [z]; exact b5
          · cases h
      · cases h
theorem lwOf_wf {R : List LRo} {c : List Int32} (hc : c.length ≤ 400) (h : ∀ r, r ∈ R → rOK c r) : LWF (lwOf R c) := by
  refine ⟨hc, fun k hk => ?_⟩
  have hk : k < R.length := hk
  have hm : R.getD k (0, 0, 0, none) ∈ R := by
    rw [List.getD_eq_getElem?_getD, List.getElem?_eq_getElem hk, Option.getD_some]
    exact List.getElem_mem hk
  obtain ⟨-, e, h1, h2, h3, h4, h5⟩ := h _ hm
  refine ⟨_, _, e, h1, h2, h3, rfl, rfl, h4, ?_⟩
  rcases h5 with ⟨q1, q2⟩ | ⟨q1, q2⟩
  · refine Or.inl ⟨?_, q2⟩
    show (R.getD k (0, 0, 0, none)).2.2.2.elim (-1) nI = -1
    rw [q1]; rfl
  · refine Or.inr ⟨?_, q2⟩
    show (R.getD k (0, 0, 0, none)).2.2.2.elim (-1) nI = nI e
    rw [q1]; rfl
theorem gS_err {B : Nat → Int32} {n d w o : Nat} (hw : w < 6) (ho : o ≤ 6) (hd : gNd w o ≤ d) {u : HS} {s : LSt} {e : Int32 × Nat} {k : Nat} (h : CLs B n (gR u 0) k s u) (he : gS B n d w o s = .error e) (hn : n ≤ 400) : e.1 ≠ 0 := by
  obtain ⟨u', -, c, -⟩ := cGrp hn d w o hw ho hd k s u h
  rw [he] at c
  exact c.2.1.2.1
