theorem foldl_elim {α : Type} {P : Nat → Bool} {f : Nat → α} {d : α} : ∀ (l : List Nat) (o : Option Nat), l.foldl (fun v k => if P k then f k else v) (o.elim d f) = (l.foldl (lastP P) o).elim d f := by
  intro l
  induction l with
  | nil => intro o; rfl
  | cons x l ih =>
    intro o
    rw [List.foldl_cons, List.foldl_cons]
    unfold lastP
    cases hp : P x with
    | true => simp only [if_true]; exact ih (some x)
    | false => simp only [Bool.false_eq_true, if_false]; exact ih o
theorem held_step {p : Nat → Bool} {tm : Nat → Int32} {N : Nat} (htm : ∀ k, k < N → p k = true → ∃ a, a < 300 ∧ tm k = nI a) {f : Nat → Int32} (hf : ∀ k, k < N → p k = true → f k ≠ -1) {τ : Nat} (hτ : τ < 300) {T H : Int32} (hT : T = (exO p tm N τ).elim (-1) f) (hH : H = if τ = 0 then -1 else (laO p tm N (nI (τ - 1))).elim (-1) f) : (if T = -1 then H else T) = (laO p tm N (nI τ)).elim (-1) f := by
  cases hx : exO p tm N τ with
  | none =>
    rw [hx] at hT
    rw [hT, hH, if_pos (show (none : Option Nat).elim (-1) f = -1 from rfl)]
    by_cases h0 : τ = 0
    · subst h0
      rw [if_pos rfl, lat_0 htm N (Nat.le_refl _), hx]; rfl
    · obtain ⟨z, rfl⟩ : ∃ z, τ = z + 1 := ⟨τ - 1, by omega⟩
      rw [if_neg h0, lat_step htm N (Nat.le_refl _) z (by omega), hx]; rfl
  | some q =>
    rw [hx] at hT
    obtain ⟨h1, h2, -⟩ := exO_lt hx
    rw [hT, if_neg (show ¬ (some q).elim (-1) f = -1 from hf q h1 h2)]
    by_cases h0 : τ = 0
    · subst h0
      rw [lat_0 htm N (Nat.le_refl _), hx]
    · obtain ⟨z, rfl⟩ : ∃ z, τ = z + 1 := ⟨τ - 1, by omega⟩
      rw [lat_step htm N (Nat.le_refl _) z (by omega), hx]; rfl
theorem Fr.m1 {L K : List Nat} {u v : HS} (h : Fr L K u v) {r : Nat} (hr : r ∉ L) (h9 : r ≠ 9) : gI v r = gI u r := h.1 r hr h9
theorem n1le {m k : Nat} (hm : m < 300) (hk : k < m + 1) : ¬ nI m < nI k := nI_nlt (by omega) (by omega)
theorem n300' {k : Nat} (hk : k < 300) : ¬ (300 : Int32) ≤ nI k := nI_ge (b := 300) hk (by decide)
theorem cClear {u : HS} {m : Nat} (hm : m < 300) : ∃ u', mX7_clearLatest u (nI m) = some u' ∧ Fr [47] [] u u' ∧ ∀ τ, τ ≤ m → gI u' 47 0 τ = -1 := by
  unfold mX7_clearLatest
  simp only [jp_q]
  refine loopR (fun fu a x => mX7_clearLatest_L2 (nI m) (fun a => some a) fu x a) (m + 1) 0 (fun k a => Fr [47] [] u a ∧ ∀ τ, τ < k → gI a 47 0 τ = -1) (fun o => ∃ u', o = some u' ∧ Fr [47] [] u u' ∧ ∀ τ, τ ≤ m → gI u' 47 0 τ = -1) ?_ ?_ (m + 1) 0 u FU (Nat.le_refl _) (by omega) (FU_lt (by omega)) ⟨Fr.rf, fun τ h => absurd h (by omega)⟩
  · intro fu a k _ hk ⟨h1, h2⟩ ih
    show ∃ u', mX7_clearLatest_L2 (nI m) (fun a => some a) (fu + 1) (nI k) a = some u' ∧ _
    rw [mX7_clearLatest_L2.eq_2, if_neg (n1le hm hk), if_neg (n300' (by omega)), ck_nI (show k < 300 by omega) (by decide)]
    simp only [ob_q, bd_q, nI_1]
    refine ih _ ⟨h1.sI (by decide) (by decide), fun τ hτ => ?_⟩
    rw [gI_wI]
    by_cases c : τ = k
    · rw [if_pos ⟨rfl, rfl, c⟩]
    · rw [if_neg (fun q => c q.2.2)]; exact h2 τ (by omega)
  · intro fu a ⟨h1, h2⟩
    show ∃ u', mX7_clearLatest_L2 (nI m) (fun a => some a) (fu + 1) (nI (m + 1)) a = some u' ∧ _
    rw [mX7_clearLatest_L2.eq_2, if_pos (nI_lt (by omega) (by omega))]
    exact ⟨a, rfl, h1, fun τ h => h2 τ (by omega)⟩
theorem SO.fr {u v : HS} {i : Nat} {c : SV} {L K : List Nat} (h : SO u i c) (hF : Fr L K u v) (hL : 3 ∉ L ∧ 38 ∉ L ∧ 40 ∉ L ∧ 41 ∉ L ∧ 42 ∉ L ∧ 43 ∉ L) : SO v i c := by
  obtain ⟨l3, l38, l40, l41, l42, l43⟩ := hL
  unfold SO
  rw [hF.m1 l3 (by decide), hF.m1 l38 (by decide), hF.m1 l40 (by decide), hF.m1 l41 (by decide), hF.m1 l42 (by decide), hF.m1 l43 (by decide), hF.2.2.2]
  exact h
theorem cntP_tm {c : SV} (hc : SWF c) {x : Int32} : ∀ k, k < sN c → cntP c x k = true → ∃ a, a < 300 ∧ sC c k 3 = nI a := by
  intro k hk hp
  unfold cntP at hp
  simp only [Bool.and_eq_true, decide_eq_true_eq] at hp
  exact (hc.k2 hk hp.1.1).2.2
theorem cntP_to {c : SV} (hc : SWF c) {x : Int32} : ∀ k, k < sN c → cntP c x k = true → ∃ t, t < sT c ∧ sC c k 2 = nI t := by
  intro k hk hp
  unfold cntP at hp
  simp only [Bool.and_eq_true, decide_eq_true_eq] at hp
  exact (hc.k2 hk hp.1.1).2.1
/-- the throws' table -/
theorem cFollowT {u : HS} {i t : Nat} {c : SV} {x : Int32} {m : Nat} (hm : m < 300) (w : HS → Option HS) (h : SO u i c) (hi : gR u 1 = i) (ht : gR u 2 = t) (hx : gI u 6 t 2 = x) (h0 : ∀ τ, τ ≤ m → gI u 47 0 τ = -1) : ∃ u', mX7_follow_L7 w FU 0 u = w u' ∧ Fr [47] [] u u' ∧ ∀ τ, τ ≤ m → gI u' 47 0 τ = (exO (cntP c x) (fun k => sC c k 3) (sN c) τ).elim (-1) fun k => sC c k 2 := by
  have hS0 := h
  obtain ⟨⟨h1, h2, h3, h4⟩, ⟨a0, -, a5, -⟩, -, -, h5, -⟩ := h
  have hlen := klS_len2 (x := 2) h3
  by_cases hx1 : x = -1
  · refine ⟨u, ?_, Fr.rf, fun τ hτ => ?_⟩
    · rw [show FU = 4095 + 1 from rfl, mX7_follow_L7.eq_2, hi, ht, hx, if_pos hx1, ite_self]
    · rw [h0 τ hτ]
      have e : exO (cntP c x) (fun k => sC c k 3) (sN c) τ = none := by
        cases hq : exO (cntP c x) (fun k => sC c k 3) (sN c) τ with
        | none => rfl
        | some q => have := (exO_lt hq).2.1; unfold cntP at this; simp [hx1] at this
      rw [e]; rfl
  · have key : ∃ u', mX7_follow_L7 w FU (nI 0) u = w u' ∧ Fr [47] [] u u' ∧ ∀ τ, τ ≤ m → gI u' 47 0 τ = (klS c 2).foldl (fun v k => if (cntP c x k && decide (sC c k 3 = nI τ)) = true then sC c k 2 else v) (-1) := by
      refine loopR (fun fu a y => mX7_follow_L7 w fu y a) (klS c 2).length 0 (fun j a => Fr [47] [] u a ∧ ∀ τ, τ ≤ m → gI a 47 0 τ = ((klS c 2).take j).foldl (fun v k => if (cntP c x k && decide (sC c k 3 = nI τ)) = true then sC c k 2 else v) (-1)) (fun o => ∃ u', o = w u' ∧ Fr [47] [] u u' ∧ ∀ τ, τ ≤ m → gI u' 47 0 τ = (klS c 2).foldl (fun v k => if (cntP c x k && decide (sC c k 3 = nI τ)) = true then sC c k 2 else v) (-1)) ?_ ?_ (klS c 2).length 0 u FU (Nat.le_refl _) (by omega) (FU_lt (by omega)) ⟨Fr.rf, fun τ hτ => by rw [h0 τ hτ]; rfl⟩
      · intro fu a j _ hj ⟨hF, hT⟩ ih
        show ∃ u', mX7_follow_L7 w (fu + 1) (nI j) a = w u' ∧ _
        obtain ⟨q, hq⟩ : ∃ q, (klS c 2)[j]? = some q := ⟨_, List.getElem?_eq_getElem hj⟩
        obtain ⟨hk, hk0⟩ := klS_at hq
        obtain ⟨e1, e2, e3⟩ := h5 j q hq
        obtain ⟨⟨t1, ht1, f1⟩, ⟨t2, ht2, f2⟩, ⟨b, hb, f3⟩⟩ := h2.k2 hk hk0
        have hSa : SO a i c := hS0.fr hF (by decide)
        have g3 : gI a 3 = gI u 3 := hF.m1 (by decide) (by decide)
        have g6 : gI a 6 = gI u 6 := hF.m1 (by decide) (by decide)
        have g40 : gI a 40 = gI u 40 := hF.m1 (by decide) (by decide)
        have gr : gR a = gR u := hF.2.2.2
        rw [mX7_follow_L7.eq_2, gr, hi, ht, g3, g6, hx, a5, if_neg (nI_ge hj (by omega)), if_neg hx1]
        simp only [bd_q, cThrown hSa hq, ob_q, bI_0, nI_1]
        have hcp : cntP c x q = decide (colS c (sC c q 1) (sC c q 3) = x) := cntP_k h2 h4 hk hk0 x
        rw [← hcp]
        have htake : (klS c 2).take (j + 1) = (klS c 2).take j ++ [q] := by
          rw [List.take_succ, hq]; rfl
        cases hcq : cntP c x q with
        | false =>
          simp only [if_true, ob_q]
          refine ih a ⟨hF, fun τ hτ => ?_⟩
          rw [htake, List.foldl_append, hT τ hτ]
          simp only [List.foldl_cons, List.foldl_nil, hcq, Bool.false_and, Bool.false_eq_true, if_false]
        | true =>
          have k1 : ck 72 (nI j * 3 + 2) = some (3 * j + 2) := by rw [show (nI j * 3 : Int32) = nI (j * 3) from pk_mul j 3, show (nI (j * 3) + 2 : Int32) = nI (j * 3 + 2) from nI_add _ 2, Nat.mul_comm]; exact ck_nI (by omega) (by decide)
          have k2 : ck 72 (nI j * 3 + 1) = some (3 * j + 1) := by rw [show (nI j * 3 : Int32) = nI (j * 3) from pk_mul j 3, nI_1, Nat.mul_comm]; exact ck_nI (by omega) (by decide)
          simp only [Bool.true_eq_false, if_false, k1, k2, ob_q, g40, e2, e3, f3, ck_nI hb (show 300 < 2 ^ 31 by decide)]
          refine ih _ ⟨hF.sI (by decide) (by decide), fun τ hτ => ?_⟩
          rw [htake, List.foldl_append]
          simp only [List.foldl_cons, List.foldl_nil, hcq, Bool.true_and, decide_eq_true_eq, f3]
          rw [gI_wI]
          by_cases c1 : τ = b
          · rw [if_pos ⟨rfl, rfl, c1⟩, if_pos (by rw [c1])]
          · rw [if_neg (fun q => c1 q.2.2), if_neg (fun q => c1 ((nI_eq (by omega) (by omega)).mp q).symm)]; exact hT τ hτ
      · intro fu a ⟨hF, hT⟩
        show ∃ u', mX7_follow_L7 w (fu + 1) (nI (klS c 2).length) a = w u' ∧ _
        have g3 : gI a 3 = gI u 3 := hF.m1 (by decide) (by decide)
        have gr : gR a = gR u := hF.2.2.2
        rw [mX7_follow_L7.eq_2, gr, hi, g3, a5, if_pos (nI_le (Nat.le_refl _) (by omega))]
        exact ⟨a, rfl, hF, fun τ hτ => by rw [hT τ hτ, List.take_length]⟩
    obtain ⟨u', q1, q2, q3⟩ := key
    refine ⟨u', q1, q2, fun τ hτ => ?_⟩
    rw [q3 τ hτ, foldl_klS (g := fun v k => if (cntP c x k && decide (sC c k 3 = nI τ)) = true then sC c k 2 else v) (fun a k _ _ => rfl) (fun a k _ h0 => by unfold cntP; simp [h0])]
    exact foldl_elim (P := fun k => cntP c x k && decide (sC c k 3 = nI τ)) (f := fun k => sC c k 2) (d := -1) _ none
theorem cFollow {u : HS} {i t : Nat} {c : SV} {x : Int32} {m : Nat} (hm : m < 300) (h : SO u i c) (hi : gR u 1 = i) (ht : gR u 2 = t) (hx : gI u 6 t 2 = x) : ∃ u', mX7_follow u (nI m) = some u' ∧ Fr [46, 47] [] u u' ∧ ∀ τ, τ ≤ m → gI u' 46 0 τ = thrE c x (nI τ) := by
  unfold mX7_follow
  obtain ⟨u1, e1, hF1, h1⟩ := cClear (u := u) hm
  rw [e1]
  simp only [ob_q, jp_q]
  have hS1 : SO u1 i c := h.fr hF1 (by decide)
  have hc := h.1.2.1
  have hT := h.1.2.2.2
  have hF1r : gR u1 = gR u := hF1.2.2.2
  obtain ⟨u2, e2, hF2, h2⟩ := cFollowT (i := i) (t := t) (x := x) hm (fun u105 => mX7_follow_L88 (nI m) (fun u110 => some u110) FU (-1) 0 u105) hS1 (by rw [hF1r]; exact hi) (by rw [hF1r]; exact ht) (by rw [hF1.m1 (by decide) (by decide)]; exact hx) h1
  rw [e2]
  have hS2 : SO u2 i c := hS1.fr hF2 (by decide)
  have hi2 : gR u2 1 = i := by rw [hF2.2.2.2, hF1r]; exact hi
  refine loopR (fun fu (a : Int32 × HS) y => mX7_follow_L88 (nI m) (fun u110 => some u110) fu a.1 y a.2) (m + 1) 0 (fun k a => a.1 = (if k = 0 then -1 else (balO c x (nI (k - 1))).elim (-1) fun q => sC c q 2) ∧ Fr [46] [] u2 a.2 ∧ ∀ τ, τ < k → gI a.2 46 0 τ = thrE c x (nI τ)) (fun o => ∃ u', o = some u' ∧ Fr [46, 47] [] u u' ∧ ∀ τ, τ ≤ m → gI u' 46 0 τ = thrE c x (nI τ)) ?_ ?_ (m + 1) 0 (-1, u2) FU (Nat.le_refl _) (by omega) (FU_lt (by omega)) ⟨rfl, Fr.rf, fun τ h => absurd h (by omega)⟩
  · intro fu ⟨H, a⟩ k _ hk ⟨hH, hFa, hE⟩ ih
    show ∃ u', mX7_follow_L88 (nI m) (fun u110 => some u110) (fu + 1) H (nI k) a = some u' ∧ _
    have hSa : SO a i c := hS2.fr hFa (by decide)
    have g47 : gI a 47 = gI u2 47 := hFa.m1 (by decide) (by decide)
    have hia : gR a 1 = i := by rw [hFa.2.2.2]; exact hi2
    rw [mX7_follow_L88.eq_2, if_neg (n1le hm hk), if_neg (n300' (by omega)), ck_nI (show k < 300 by omega) (by decide)]
    simp only [ob_q, bd_q, nI_1, g47, hia]
    have hst := held_step (p := cntP c x) (tm := fun k => sC c k 3) (N := sN c) (cntP_tm hc) (f := fun q => sC c q 2) (fun q hq hp => by obtain ⟨t, ht, e⟩ := cntP_to hc q hq hp; rw [e]; exact nI_m1 (by omega)) (τ := k) (by omega) (T := gI u2 47 0 k) (H := H) (h2 k (by omega)) hH
    rw [show (if gI u2 47 0 k = -1 then some H else some (gI u2 47 0 k) : Option Int32) = some (if gI u2 47 0 k = -1 then H else gI u2 47 0 k) by split <;> rfl, hst]
    simp only [ob_q]
    have hp : ∃ v, mX3_placeAt a i ((laO (cntP c x) (fun k => sC c k 3) (sN c) (nI k)).elim (-1) fun q => sC c q 2) (nI k) = some v ∧ (if v = -1 then some 2015 else some v : Option Int32) = some (thrE c x (nI k)) := by
      unfold thrE balO
      cases hl : laO (cntP c x) (fun k => sC c k 3) (sN c) (nI k) with
      | none =>
        refine ⟨-1, cPl_m1, ?_⟩
        unfold laO at hl
        rw [hl]; rfl
      | some q =>
        obtain ⟨hq, hp, -⟩ := laO_lt hl
        obtain ⟨t', ht', e⟩ := cntP_to hc q hq hp
        unfold laO at hl
        rw [hl]
        simp only [Option.elim, e]
        refine ⟨_, cPl_in hSa ht' (by omega), ?_⟩
        simp only [cel_m1 hc (show k < 300 by omega)]
        cases hi3 : isT c (nI t') (nI k) with
        | false => rfl
        | true =>
          simp only [Bool.true_eq_false, if_false, if_true]
          unfold cel
          rw [if_pos hi3, Int32.mul_comm]
    obtain ⟨v, p1, p2⟩ := hp
    rw [p1]
    simp only [ob_q]
    rw [p2]
    simp only [ob_q]
    refine ih (_, _) ⟨?_, hFa.sI (by decide) (by decide), fun τ hτ => ?_⟩
    · show (laO (cntP c x) (fun k => sC c k 3) (sN c) (nI k)).elim (-1) (fun q => sC c q 2) = _
      rw [if_neg (by omega), Nat.add_sub_cancel]; rfl
    · show gI (wI a 46 0 k _) 46 0 τ = _
      rw [gI_wI]
      by_cases c1 : τ = k
      · rw [if_pos ⟨rfl, rfl, c1⟩, c1]
      · rw [if_neg (fun q => c1 q.2.2)]; exact hE τ (by omega)
  · intro fu ⟨H, a⟩ ⟨hH, hFa, hE⟩
    show ∃ u', mX7_follow_L88 (nI m) (fun u110 => some u110) (fu + 1) H (nI (m + 1)) a = some u' ∧ _
    rw [mX7_follow_L88.eq_2, if_pos (nI_lt (by omega) (by omega))]
    exact ⟨a, rfl, ((hF1.mo (by decide) (by decide)).tr (hF2.mo (by decide) (by decide))).tr (hFa.mo (by decide) (by decide)), fun τ h => hE τ (by omega)⟩
