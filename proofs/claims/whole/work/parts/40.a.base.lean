/-! ===== the store's laws ===== -/
/-! the steps of a pure text; their proofs are no plain rfl, so that no proof of simp rests on the kernel's unfolding of a loop -/
theorem nrfl {α : Type} {x y : α} (h : x = y) : x = y := (fun (z : α) (q : z = x) => q.trans h) x rfl
theorem jp_q {F G : Type} (f : F) (g : F → G) : jp f g = g f := nrfl rfl
theorem bd_q {α β : Type} (x : α) (k : α → β) : bd x k = k x := nrfl rfl
theorem ob_q {α β : Type} (x : α) (f : α → Option β) : (some x).bind f = f x := nrfl rfl
theorem on_q {α β : Type} (f : α → Option β) : (none : Option α).bind f = none := nrfl rfl
theorem gI_wI {σ : HS} {r i k r' i' k' : Nat} {v : Int32} : gI (wI σ r i k v) r' i' k' = if r' = r ∧ i' = i ∧ k' = k then v else gI σ r' i' k' := nrfl rfl
theorem gL_wI {σ : HS} {r i k : Nat} {v : Int32} : gL (wI σ r i k v) = gL σ := nrfl rfl
theorem gR_wI {σ : HS} {r i k : Nat} {v : Int32} : gR (wI σ r i k v) = gR σ := nrfl rfl
theorem gI_wL {σ : HS} {r i k : Nat} {v : Int64} : gI (wL σ r i k v) = gI σ := nrfl rfl
theorem gR_wL {σ : HS} {r i k : Nat} {v : Int64} : gR (wL σ r i k v) = gR σ := nrfl rfl
theorem gL_wL {σ : HS} {r i k r' i' k' : Nat} {v : Int64} : gL (wL σ r i k v) r' i' k' = if r' = r ∧ i' = i ∧ k' = k then v else gL σ r' i' k' := nrfl rfl
theorem gI_wR {σ : HS} {k n : Nat} : gI (wR σ k n) = gI σ := nrfl rfl
theorem gL_wR {σ : HS} {k n : Nat} : gL (wR σ k n) = gL σ := nrfl rfl
theorem gI_wA {σ : HS} {r i r' i' k' : Nat} {f : Nat → Int32} : gI (wA σ r i f) r' i' k' = if r' = r ∧ i' = i then f k' else gI σ r' i' k' := nrfl rfl
theorem gL_wA {σ : HS} {r i : Nat} {f : Nat → Int32} : gL (wA σ r i f) = gL σ := nrfl rfl
theorem gR_wA {σ : HS} {r i : Nat} {f : Nat → Int32} : gR (wA σ r i f) = gR σ := nrfl rfl
theorem gI_cpA {σ : HS} {r j i r' i' k' : Nat} : gI (cpA σ r j i) r' i' k' = if r' = r ∧ i' = i then gI σ r j k' else gI σ r' i' k' := nrfl rfl
theorem gL_cpA {σ : HS} {r j i : Nat} : gL (cpA σ r j i) = gL σ := nrfl rfl
theorem gR_cpA {σ : HS} {r j i : Nat} : gR (cpA σ r j i) = gR σ := nrfl rfl
theorem gL_wN {σ : HS} {r i d k : Nat} : gL (wN σ r i d k) = gL σ := nrfl rfl
theorem gI_r {σ : HS} {r i k r' : Nat} {v : Int32} (h : r' ≠ r) : gI (wI σ r i k v) r' = gI σ r' := by
  funext a b; rw [gI_wI, if_neg (fun q => h q.1)]
theorem gI_ri {σ : HS} {r i k i' : Nat} {v : Int32} (h : i' ≠ i) : gI (wI σ r i k v) r i' = gI σ r i' := by
  funext b; rw [gI_wI, if_neg (fun q => h q.2.1)]
theorem gI_k {σ : HS} {r i k k' : Nat} {v : Int32} (h : k' ≠ k) : gI (wI σ r i k v) r i k' = gI σ r i k' := by
  rw [gI_wI, if_neg (fun q => h q.2.2)]
theorem gI_eq {σ : HS} {r i k : Nat} {v : Int32} : gI (wI σ r i k v) r i k = v := by
  rw [gI_wI, if_pos ⟨rfl, rfl, rfl⟩]
theorem ck_nI {n k : Nat} (h : k < n) (hn : n < 2 ^ 31) : ck n (nI k) = some k := by
  unfold ck; rw [nI_clamp (Nat.lt_trans h hn), if_neg (fun q => q.elim (nI_pos (Nat.lt_trans h hn)) (fun z => absurd h (Nat.not_lt.mpr z)))]
theorem ck_of {n k : Nat} {x : Int32} (hx : x = nI k) (h : k < n) (hn : n < 2 ^ 31) : ck n x = some k := by rw [hx]; exact ck_nI h hn
theorem nz_ok {y : Int32} (h : y ≠ 0) : nz y = some () := if_neg h
theorem nzL_ok {y : Int64} (h : y ≠ 0) : nzL y = some () := if_neg h
theorem zb_ok {v : Int32} (h : v = 0 ∨ v = 1) : zb v = some () := if_pos h
theorem nI_m1 {n : Nat} (h : n < 2 ^ 31) : nI n ≠ -1 := by
  intro q
  have h1 := nI_toInt h
  rw [q] at h1
  have : (-1 : Int32).toInt = -1 := rfl
  omega
/-- a bool as the machine has it -/
def bI (b : Bool) : Int32 := if b then 1 else 0
theorem bI_t : bI true = 1 := rfl
theorem bI_f : bI false = 0 := rfl
theorem bI_01 (b : Bool) : bI b = 0 ∨ bI b = 1 := by cases b <;> simp [bI]
theorem zb_bI (b : Bool) : zb (bI b) = some () := zb_ok (bI_01 b)
theorem bI_0 (b : Bool) : (bI b = 0) = (b = false) := by cases b <;> simp [bI]
theorem bI_1 (b : Bool) : (bI b = 1) = (b = true) := by cases b <;> simp [bI]
theorem bI_n (b : Bool) : (if bI b = 0 then some 0 else some 1 : Option Int32) = some (bI b) := by cases b <;> simp [bI]
theorem bI_nn (b : Bool) : (if bI b = 0 then some 1 else some 0 : Option Int32) = some (bI (!b)) := by cases b <;> simp [bI]
/-- an option as the reference has it: -1 for none -/
def oI : Option Nat → Int32
  | none => -1
  | some q => nI q
theorem oI_m1 {o : Option Nat} (h : ∀ q, o = some q → q < 2 ^ 31) : (oI o = -1) = (o = none) := by
  cases o with
  | none => simp [oI]
  | some q => simp [oI, nI_m1 (h q rfl)]
/-! ===== loops ===== -/
/-- a loop up from k to n, fuel enough, an invariant, any claim of what comes of it -/
theorem loopR {α β : Type} (L : Nat → α → Int32 → β) (n lo : Nat) (I : Nat → α → Prop) (R : β → Prop)
    (hs : ∀ fu a k, lo ≤ k → k < n → I k a → (∀ a', I (k + 1) a' → R (L fu a' (nI (k + 1)))) → R (L (fu + 1) a (nI k)))
    (he : ∀ fu a, I n a → R (L (fu + 1) a (nI n))) : ∀ (d k : Nat) (a : α) (fu : Nat), lo ≤ k → k + d = n → d < fu → I k a → R (L fu a (nI k)) := by
  intro d
  induction d with
  | zero =>
    intro k a fu h0 h1 h2 h3
    obtain ⟨z, rfl⟩ : ∃ z, fu = z + 1 := ⟨fu - 1, by omega⟩
    have e : k = n := by omega
    subst e
    exact he z a h3
  | succ d ih =>
    intro k a fu h0 h1 h2 h3
    obtain ⟨z, rfl⟩ : ∃ z, fu = z + 1 := ⟨fu - 1, by omega⟩
    exact hs z a k h0 (by omega) h3 fun a' h' => ih (k + 1) a' z (by omega) (by omega) (by omega) h'
/-- a loop that just adds up -/
theorem loopF {α β : Type} (L : Nat → α → Int32 → β) (w : α → β) (f : α → Nat → α) (n o : Nat)
    (hs : ∀ fu a k, k < n → L (fu + 1) a (nI (o + k)) = L fu (f a k) (nI (o + k + 1)))
    (he : ∀ fu a, L (fu + 1) a (nI (o + n)) = w a) : ∀ (d k : Nat) (a : α) (fu : Nat), k + d = n → d < fu → L fu a (nI (o + k)) = w ((List.range' k d).foldl f a) := by
  intro d
  induction d with
  | zero =>
    intro k a fu h1 h2
    obtain ⟨z, rfl⟩ : ∃ z, fu = z + 1 := ⟨fu - 1, by omega⟩
    have e : k = n := by omega
    subst e
    exact he z a
  | succ d ih =>
    intro k a fu h1 h2
    obtain ⟨z, rfl⟩ : ∃ z, fu = z + 1 := ⟨fu - 1, by omega⟩
    rw [hs z a k (by omega), List.range'_succ, List.foldl_cons]
    exact ih (k + 1) _ z (by omega) (by omega)
theorem loopF0 {α β : Type} {L : Nat → α → Int32 → β} {w : α → β} (f : α → Nat → α) {n o fu : Nat} {a : α} (hn : n < fu)
    (hs : ∀ fu a k, k < n → L (fu + 1) a (nI (o + k)) = L fu (f a k) (nI (o + k + 1)))
    (he : ∀ fu a, L (fu + 1) a (nI (o + n)) = w a) : L fu a (nI o) = w ((List.range n).foldl f a) := by
  have := loopF L w f n o hs he n 0 a fu (by omega) hn
  rw [List.range_eq_range']
  exact this
/-- a loop that leaves at the first that fits -/
theorem loopA {β : Type} (L : Nat → Int32 → β) (no yes : β) (p : Nat → Bool) (n o : Nat)
    (hs : ∀ fu k, k < n → L (fu + 1) (nI (o + k)) = if p k then yes else L fu (nI (o + k + 1)))
    (he : ∀ fu, L (fu + 1) (nI (o + n)) = no) : ∀ (d k : Nat) (fu : Nat), k + d = n → d < fu → L fu (nI (o + k)) = if (List.range' k d).any p then yes else no := by
  intro d
  induction d with
  | zero =>
    intro k fu h1 h2
    obtain ⟨z, rfl⟩ : ∃ z, fu = z + 1 := ⟨fu - 1, by omega⟩
    have e : k = n := by omega
    subst e
    exact he z
  | succ d ih =>
    intro k fu h1 h2
    obtain ⟨z, rfl⟩ : ∃ z, fu = z + 1 := ⟨fu - 1, by omega⟩
    rw [hs z k (by omega), List.range'_succ, List.any_cons]
    cases hp : p k with
    | true => rfl
    | false =>
      simp only [Bool.false_or, Bool.false_eq_true, if_false]
      exact ih (k + 1) z (by omega) (by omega)
theorem loopA0 {β : Type} {L : Nat → Int32 → β} {no yes : β} (p : Nat → Bool) {n o fu : Nat} (hn : n < fu)
    (hs : ∀ fu k, k < n → L (fu + 1) (nI (o + k)) = if p k then yes else L fu (nI (o + k + 1)))
    (he : ∀ fu, L (fu + 1) (nI (o + n)) = no) : L fu (nI o) = if (List.range n).any p then yes else no := by
  have := loopA L no yes p n o hs he n 0 fu (by omega) hn
  rw [List.range_eq_range']
  exact this
theorem FU_lt {n : Nat} (h : n < 4096) : n < FU := h
theorem if_b {α : Type} {c : Prop} {_ : Decidable c} {b : Bool} {x y : α} (h : c ↔ b = true) : (if c then x else y) = if b then x else y := by
  by_cases hc : c
  · rw [if_pos hc, if_pos (h.mp hc)]
  · rw [if_neg hc, if_neg (fun q => hc (h.mpr q))]
/-- adding up, with an invariant of what is carried -/
theorem loopG {α β : Type} (L : Nat → α → Int32 → β) (w : α → β) (f : α → Nat → α) (I : α → Prop) (n o : Nat)
    (hs : ∀ fu a k, k < n → I a → L (fu + 1) a (nI (o + k)) = L fu (f a k) (nI (o + k + 1)))
    (hI : ∀ a k, k < n → I a → I (f a k))
    (he : ∀ fu a, I a → L (fu + 1) a (nI (o + n)) = w a) : ∀ (d k : Nat) (a : α) (fu : Nat), k + d = n → d < fu → I a → L fu a (nI (o + k)) = w ((List.range' k d).foldl f a) := by
  intro d
  induction d with
  | zero =>
    intro k a fu h1 h2 h3
    obtain ⟨z, rfl⟩ : ∃ z, fu = z + 1 := ⟨fu - 1, by omega⟩
    have e : k = n := by omega
    subst e
    exact he z a h3
  | succ d ih =>
    intro k a fu h1 h2 h3
    obtain ⟨z, rfl⟩ : ∃ z, fu = z + 1 := ⟨fu - 1, by omega⟩
    rw [hs z a k (by omega) h3, List.range'_succ, List.foldl_cons]
    exact ih (k + 1) _ z (by omega) (by omega) (hI a k (by omega) h3)
theorem loopG0 {α β : Type} {L : Nat → α → Int32 → β} {w : α → β} (f : α → Nat → α) (I : α → Prop) {n o fu : Nat} {a : α} (hn : n < fu) (h0 : I a)
    (hs : ∀ fu a k, k < n → I a → L (fu + 1) a (nI (o + k)) = L fu (f a k) (nI (o + k + 1)))
    (hI : ∀ a k, k < n → I a → I (f a k))
    (he : ∀ fu a, I a → L (fu + 1) a (nI (o + n)) = w a) : L fu a (nI o) = w ((List.range n).foldl f a) := by
  have := loopG L w f I n o hs hI he n 0 a fu (by omega) hn h0
  rw [List.range_eq_range']
  exact this
/-- a loop that leaves at the first that fits, with its own answer -/
theorem loopV {β : Type} (L : Nat → Int32 → β) (no : β) (yes : Nat → β) (p : Nat → Bool) (n o : Nat)
    (hs : ∀ fu k, k < n → L (fu + 1) (nI (o + k)) = if p k then yes k else L fu (nI (o + k + 1)))
    (he : ∀ fu, L (fu + 1) (nI (o + n)) = no) : ∀ (d k : Nat) (fu : Nat), k + d = n → d < fu → L fu (nI (o + k)) = ((List.range' k d).find? p).elim no yes := by
  intro d
  induction d with
  | zero =>
    intro k fu h1 h2
    obtain ⟨z, rfl⟩ : ∃ z, fu = z + 1 := ⟨fu - 1, by omega⟩
    have e : k = n := by omega
    subst e
    exact he z
  | succ d ih =>
    intro k fu h1 h2
    obtain ⟨z, rfl⟩ : ∃ z, fu = z + 1 := ⟨fu - 1, by omega⟩
    rw [hs z k (by omega), List.range'_succ, List.find?_cons]
    cases hp : p k with
    | true => rfl
    | false =>
      simp only [Bool.false_eq_true, if_false]
      exact ih (k + 1) z (by omega) (by omega)
theorem loopV0 {β : Type} {L : Nat → Int32 → β} {no : β} (yes : Nat → β) (p : Nat → Bool) {n o fu : Nat} (hn : n < fu)
    (hs : ∀ fu k, k < n → L (fu + 1) (nI (o + k)) = if p k then yes k else L fu (nI (o + k + 1)))
    (he : ∀ fu, L (fu + 1) (nI (o + n)) = no) : L fu (nI o) = ((List.range n).find? p).elim no yes := by
  have := loopV L no yes p n o hs he n 0 fu (by omega) hn
  rw [List.range_eq_range']
  exact this
/-- a loop over a list, by places -/
theorem loopL {α β : Type} {L : Nat → α → Int32 → β} {w : α → β} (l : List Nat) (f : α → Nat → α) {fu : Nat} {a : α} (hn : l.length < fu)
    (hs : ∀ fu a j q, l[j]? = some q → L (fu + 1) a (nI j) = L fu (f a q) (nI (j + 1)))
    (he : ∀ fu a, L (fu + 1) a (nI l.length) = w a) : L fu a (nI 0) = w (l.foldl f a) := by
  have : ∀ (d j : Nat) (a : α) (fu : Nat), j + d = l.length → d < fu → L fu a (nI j) = w ((l.drop j).foldl f a) := by
    intro d
    induction d with
    | zero =>
      intro j a fu h1 h2
      obtain ⟨z, rfl⟩ : ∃ z, fu = z + 1 := ⟨fu - 1, by omega⟩
      have e : j = l.length := by omega
      rw [e, he, List.drop_length]; rfl
    | succ d ih =>
      intro j a fu h1 h2
      obtain ⟨z, rfl⟩ : ∃ z, fu = z + 1 := ⟨fu - 1, by omega⟩
      have hj : j < l.length := by omega
      rw [hs z a j l[j] (List.getElem?_eq_getElem hj), List.drop_eq_getElem_cons hj, List.foldl_cons]
      exact ih (j + 1) _ z (by omega) (by omega)
  exact this l.length 0 a fu (by omega) hn
