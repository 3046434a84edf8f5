/-! who knows, bit by bit -/
theorem bitL (w : Int32) {l : Nat} (hl : l < 14) : (w >>> (nI l &&& 31)) &&& 1 = bI (w.toBitVec.getLsbD l) := by
  have hs : ∀ l, l < 14 → (nI l &&& 31) = nI l := by decide
  have hm : ∀ l, l < 14 → ((nI l).toBitVec.smod (32 : BitVec 32)).toNat = l := by decide
  rw [hs l hl]
  apply Int32.toBitVec_inj.mp
  apply BitVec.eq_of_getLsbD_eq
  intro i hi
  rw [Int32.toBitVec_and, Int32.toBitVec_shiftRight, BitVec.getLsbD_and, BitVec.getLsbD_sshiftRight', hm l hl]
  have h1 : (1 : Int32).toBitVec.getLsbD i = decide (i = 0) := by
    show (1#32).getLsbD i = _
    rw [BitVec.getLsbD_one]; simp
  rw [h1]
  by_cases e : i = 0
  · subst e
    rw [decide_eq_true rfl, Bool.and_true, if_pos (by omega), Nat.add_zero]
    simp only [Nat.not_le.mpr hi, decide_false, Bool.not_false, Bool.true_and]
    cases w.toBitVec.getLsbD l <;> rfl
  · rw [decide_eq_false e, Bool.and_false]
    cases w.toBitVec.getLsbD l
    · show false = (0#32).getLsbD i; simp
    · show false = (1#32).getLsbD i; rw [BitVec.getLsbD_one]; simp [e]
theorem bit1 : ∀ n, n < 14 → ∀ l, l < 14 → ((1 : Int32) <<< (nI n &&& 31)).toBitVec.getLsbD l = decide (l = n) := by decide
theorem bit2 : ∀ n, n < 14 → ∀ l, l < 14 → (((1 : Int32) <<< (nI n &&& 31)) ^^^ (-1)).toBitVec.getLsbD l = decide (l ≠ n) := by decide
theorem bitW (w : Int32) (k : Bool) {n l : Nat} (hn : n < 14) (hl : l < 14) : (((w &&& (((1 : Int32) <<< (nI n &&& 31)) ^^^ (-1))) ||| (if k = true then (1 : Int32) <<< (nI n &&& 31) else 0)) >>> (nI l &&& 31)) &&& 1 = if l = n then bI k else (w >>> (nI l &&& 31)) &&& 1 := by
  rw [bitL _ hl, bitL _ hl, Int32.toBitVec_or, BitVec.getLsbD_or, Int32.toBitVec_and, BitVec.getLsbD_and, bit2 n hn l hl]
  cases k with
  | false =>
    rw [if_neg (by decide), show (0 : Int32).toBitVec.getLsbD l = false from by show (0#32).getLsbD l = false; simp, Bool.or_false]
    by_cases e : l = n
    · rw [if_pos e]; simp [e]
    · rw [if_neg e]; simp [e]
  | true =>
    rw [if_pos rfl, bit1 n hn l hl]
    by_cases e : l = n
    · rw [if_pos e]; simp [e]
    · rw [if_neg e]; simp [e]
/-! what is forgotten -/
theorem cForget (u : HS) {l : Nat} (hl : l < 14) : ∃ u', mX8_forgetStates u (nI l) = some u' ∧ Fr [54] [] u u' ∧ ∀ k, gI u' 54 0 k = if 4 * l ≤ k ∧ k < 4 * l + 4 then -1 else gI u 54 0 k := by
  unfold mX8_forgetStates
  simp only [jp_q]
  refine loopR (fun fu (a : HS) y => mX8_forgetStates_L2 (nI l) (fun u => some u) fu y a) 4 0 (fun j a => Fr [54] [] u a ∧ ∀ k, gI a 54 0 k = if 4 * l ≤ k ∧ k < 4 * l + j then -1 else gI u 54 0 k) (fun o => ∃ u', o = some u' ∧ Fr [54] [] u u' ∧ ∀ k, gI u' 54 0 k = if 4 * l ≤ k ∧ k < 4 * l + 4 then -1 else gI u 54 0 k) ?_ ?_ 4 0 u FU (Nat.le_refl _) (by omega) (FU_lt (by omega)) ⟨Fr.rf, fun k => by rw [if_neg (by omega)]⟩
  · intro fu a j _ hj ⟨h1, h2⟩ ih
    show ∃ u', mX8_forgetStates_L2 (nI l) (fun u => some u) (fu + 1) (nI j) a = some u' ∧ _
    rw [mX8_forgetStates_L2.eq_2, if_neg (show ¬ (4 : Int32) ≤ nI j from nI_ge (b := 4) hj (by decide)), show (nI l * 4 + nI j : Int32) = nI (4 * l + j) from by rw [show (nI l * 4 : Int32) = nI (l * 4) from pk_mul l 4, nI_add, Nat.mul_comm], ck_nI (show 4 * l + j < 200 by omega) (by decide)]
    simp only [ob_q, bd_q, nI_1]
    refine ih _ ⟨h1.sI (by decide) (by decide), fun k => ?_⟩
    by_cases e : k = 4 * l + j
    · rw [e, gI_eq, if_pos (by omega)]
    · rw [gI_k e, h2]
      by_cases c : 4 * l ≤ k ∧ k < 4 * l + j
      · rw [if_pos c, if_pos (by omega)]
      · rw [if_neg c, if_neg (by omega)]
  · intro fu a ⟨h1, h2⟩
    show ∃ u', mX8_forgetStates_L2 (nI l) (fun u => some u) (fu + 1) (nI 4) a = some u' ∧ _
    rw [mX8_forgetStates_L2.eq_2, if_pos (show (4 : Int32) ≤ nI 4 by decide)]
    exact ⟨a, rfl, h1, h2⟩
theorem CF.fr {K : List Nat} {u v w : HS} (h : CF K u v) (hF : Fr [54] [] v w) : CF K u w :=
  ⟨fun r a b c => (hF.1 r (fun q => a (by simp at q; rw [q]; decide)) (fun q => a (by rw [q]; decide))).trans (h.1 r a b c), fun r i a b => by rw [hF.1 r (by simp; omega) (by omega)]; exact h.2.1 r i a b, fun k a => (hF.2.1 k (by simp)).trans (h.2.2.1 k a), fun k a => by rw [hF.2.2.2]; exact h.2.2.2 k a⟩
theorem IVs.forget {p : IP} {u v : HS} (n r b : Nat) (hn : pN p ≤ n) (h : IVs p u) {l0 : Nat} (hl0 : l0 < 14) (h54 : ∀ k, gI v 54 0 k = if 4 * l0 ≤ k ∧ k < 4 * l0 + 4 then -1 else gI u 54 0 k) (hj : ∀ l q, l < pN p → l ≠ l0 → loJ (pS p n r b) v q l = loJ p u q l) : IVs (pS p n r b) v := by
  refine ⟨fun l q hl hq => ?_, fun s t q hs ht hq => ?_⟩
  · rw [h54]
    by_cases e : l = l0
    · exact Or.inl (by rw [if_pos (by omega)])
    · rw [if_neg (by omega)]
      rcases h.1 l q hl hq with z | ⟨z1, z2, z3⟩
      · exact Or.inl z
      · exact Or.inr ⟨Nat.lt_of_lt_of_le z1 hn, z2, by rw [hj l q z1 e]; exact z3⟩
  · rw [h54, if_neg (by omega)]; exact h.2 s t q hs ht hq
/-! one row more -/
theorem latP_in {tm : Nat → Int32} {P : Nat → Bool} {τ : Int32} {a : Option Nat} {m : Nat} (h : ∀ q, a = some q → q < m) (q : Nat) (hq : latP tm P τ a m = some q) : q < m + 1 := by
  unfold latP at hq
  split at hq
  · injection hq with hq; omega
  · have := h q hq; omega
theorem latP_cg {tm tm' : Nat → Int32} {P P' : Nat → Bool} {τ : Int32} {a : Option Nat} {m : Nat} (h : ∀ q, a = some q → q < m) (ht : ∀ k, k ≤ m → tm' k = tm k) (hp : P' m = P m) : latP tm' P' τ a m = latP tm P τ a m := by
  unfold latP
  rw [hp, ht m (Nat.le_refl _)]
  cases a with
  | none => simp only [Option.elim]; exact ite_congr rfl (fun _ => rfl) (fun _ => rfl)
  | some b =>
    have hb := ht b (by have := h b rfl; omega)
    simp only [Option.elim, hb]; exact ite_congr rfl (fun _ => rfl) (fun _ => rfl)
theorem latP_fold {tm tm' : Nat → Int32} {P P' : Nat → Bool} {τ : Int32} {n : Nat} (ht : ∀ k, k < n → tm' k = tm k) (hp : ∀ k, k < n → P' k = P k) : ∀ m, m ≤ n → (List.range m).foldl (latP tm' P' τ) none = (List.range m).foldl (latP tm P τ) none ∧ ∀ q, (List.range m).foldl (latP tm P τ) none = some q → q < m := by
  intro m
  induction m with
  | zero => exact fun _ => ⟨by simp only [List.range_zero, List.foldl_nil], fun q hq => by simp only [List.range_zero, List.foldl_nil] at hq; cases hq⟩
  | succ m ih =>
    intro hm
    obtain ⟨e1, e2⟩ := ih (by omega)
    rw [rsucc, rsucc, e1]
    generalize (List.range m).foldl (latP tm P τ) none = a at e2
    exact ⟨latP_cg e2 (fun k hk => ht k (by omega)) (hp m (by omega)), fun q hq => latP_in e2 q hq⟩
theorem eyeO_congr {ey ey' : Nat → Nat → Int32} {L τ : Int32} {n : Nat} (h : ∀ k, k < n → ∀ j, ey' k j = ey k j) : eyeO ey' n L τ = eyeO ey n L τ ∧ ∀ q, eyeO ey n L τ = some q → q < n := by
  have hp : ∀ k, k < n → (fun k => decide (ey' k 0 = L)) k = (fun k => decide (ey k 0 = L)) k := fun k hk => by
    have := h k hk 0
    show decide (ey' k 0 = L) = decide (ey k 0 = L)
    rw [this]
  have := latP_fold (tm := fun k => ey k 1) (tm' := fun k => ey' k 1) (P := fun k => decide (ey k 0 = L)) (P' := fun k => decide (ey' k 0 = L)) (τ := τ) (fun k hk => h k hk 1) hp n (Nat.le_refl _)
  unfold eyeO
  exact this
theorem eyS_add {ey ey' bl : Nat → Nat → Int32} {L x τ : Int32} {n nb : Nat} {c : SV} (h : ∀ k, k < n → ∀ j, ey' k j = ey k j) (hn : ey' n 0 ≠ L) : eyS ey' (n + 1) bl nb L c x τ = eyS ey n bl nb L c x τ := by
  obtain ⟨e1, e2⟩ := eyeO_congr (L := L) (τ := τ) h
  have e3 : eyeO ey' (n + 1) L τ = eyeO ey n L τ := by
    rw [← e1]
    unfold eyeO
    rw [rsucc]
    generalize (List.range n).foldl (latP (fun k => ey' k 1) (fun k => decide (ey' k 0 = L)) τ) none = a
    unfold latP
    simp only [decide_eq_false hn, Bool.false_and, Bool.false_eq_true, if_false]
  unfold eyS lookS
  rw [e3]
  cases hq : eyeO ey n L τ with
  | none => rfl
  | some q => simp only [Option.elim, h q (e2 q hq)]
theorem shutS_add {bl bl' : Nat → Nat → Int32} {L τ : Int32} {n : Nat} (h : ∀ k, k < n → ∀ j, bl' k j = bl k j) (hn : bl' n 0 ≠ L) : shutS bl' (n + 1) L τ = shutS bl n L τ := by
  unfold shutS
  rw [List.range_succ, List.any_append]
  simp only [List.any_cons, List.any_nil, decide_eq_false hn, Bool.false_and, Bool.or_false]
  rw [Bool.eq_iff_iff, List.any_eq_true, List.any_eq_true]
  constructor
  · rintro ⟨k, hk, hp⟩; exact ⟨k, hk, by simpa only [h k (List.mem_range.mp hk)] using hp⟩
  · rintro ⟨k, hk, hp⟩; exact ⟨k, hk, by simpa only [h k (List.mem_range.mp hk)] using hp⟩
theorem eyS_bl {ey bl bl' : Nat → Nat → Int32} {L x τ : Int32} {nr n : Nat} {c : SV} (h : ∀ k, k < n → ∀ j, bl' k j = bl k j) (hn : bl' n 0 ≠ L) : eyS ey nr bl' (n + 1) L c x τ = eyS ey nr bl n L c x τ := by
  unfold eyS; rw [shutS_add h hn]
