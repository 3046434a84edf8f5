/-! the static picture -/
def cntL : List Nat := [4, 5, 1, 7, 1, 1, 7, 1, 1, 1, 0, 0, 0, 0, 0, 0, 0, 0, 0, 0, 4, 4, 4, 4, 4, 4, 4, 4, 4, 4, 4, 4, 5, 5, 5, 5, 5, 7, 7, 7, 7, 7, 7, 7, 1, 1, 1, 1, 1, 0, 1, 1, 1, 1, 1, 1, 0, 0, 0, 0, 1, 1, 1, 24, 1, 144, 1, 1, 1, 48, 1, 6, 1, 4, 1, 64, 1, 1, 1, 1, 1, 15, 1, 60, 1, 40, 1, 3, 0, 0, 1, 1]
def lenL : List Nat := [0, 0, 0, 0, 0, 0, 0, 0, 0, 0, 0, 0, 0, 0, 0, 0, 0, 0, 0, 0, 14, 14, 42, 14, 14, 60, 60, 60, 40, 40, 40, 4, 400, 16, 16, 16, 16, 8, 8, 168, 72, 72, 0, 0, 64, 400, 300, 300, 11, 0, 6, 6, 4, 3, 200, 4, 0, 0, 0, 0, 400, 500, 24, 8, 144, 8, 6, 6, 48, 2, 6, 5, 4, 500, 64, 4, 4, 4, 150, 11, 15, 8, 60, 4, 40, 3, 3, 520, 0, 0, 1, 4]
def ftabL : List (List Nat) := [[0, 21, 22, 0, 23, 24, 25, 0, 26, 27, 28, 0, 29, 30, 31, 32, 0], [33, 0, 0, 34, 35, 36, 37], [6, 2], [0, 38, 39, 0, 40, 0, 41, 0, 42, 0, 0, 0, 43, 44], [8, 45, 0, 0, 0, 0], [46, 0, 0, 0, 0, 0, 0], [0, 0, 0, 0, 0], [4, 7, 0, 47, 48, 49, 0, 0, 0, 0], [6, 51, 0, 52, 0, 53, 0, 3, 1, 54, 0, 8, 5, 55, 56], [0, 0, 0, 0, 0, 0, 0, 0, 0, 0, 0, 61, 62, 63, 0, 0, 0, 65, 67, 68, 69, 71, 73, 75, 77, 78, 79, 80, 0, 0, 0, 0, 0, 81, 83, 85, 87, 0, 0, 0, 0, 0, 0]]
def acodeL : List Nat := [0, 0, 0, 0, 0, 0, 0, 0, 0, 0, 0, 0, 0, 0, 0, 0, 0, 0, 0, 0, 0, 0, 0, 0, 0, 0, 0, 0, 0, 0, 0, 0, 0, 0, 0, 0, 0, 0, 0, 0, 0, 0, 0, 0, 0, 0, 0, 0, 0, 0, 5, 8, 3, 2, 0, 1, 0, 0, 0, 0, 0, 0, 65, 0, 67, 0, 0, 0, 71, 0, 73, 0, 75, 0, 77, 0, 0, 0, 0, 0, 83, 0, 85, 0, 87, 0, 89, 0, 0, 0, 1, 1]
def akindL : List Nat := [0, 0, 0, 0, 0, 0, 0, 0, 0, 0, 0, 0, 0, 0, 0, 0, 0, 0, 0, 0, 0, 0, 0, 0, 0, 0, 0, 0, 0, 0, 0, 0, 0, 0, 0, 0, 0, 0, 0, 0, 0, 0, 0, 0, 0, 0, 0, 0, 0, 0, 2, 3, 4, 5, 0, 1, 0, 0, 0, 0, 0, 0, 6, 0, 6, 0, 0, 0, 6, 0, 6, 0, 6, 0, 6, 0, 0, 0, 0, 0, 6, 0, 6, 0, 6, 0, 6, 0, 0, 0, 1, 1]
def cntS (r : Nat) : Nat := cntL.getD r 0
def nfS (r : Nat) : Nat := ([17, 7, 2, 14, 6, 7, 5, 10, 15, 43] : List Nat).getD r 0
def fcode (r k : Nat) : Nat := (ftabL.getD r []).getD k 0
def acode (r : Nat) : Nat := acodeL.getD r 0
def akind (r : Nat) : Nat := akindL.getD r 0
def roff (r : Nat) : Nat := if r = 53 then 1 else 0
def lenS (σ : HS) (r i : Nat) : Nat := if r = 42 then gR σ (3 + i) else if r = 43 then gR σ (10 + i) else lenL.getD r 0
def ridx (σ : HS) (r i k : Nat) : Nat := if r = 2 ∧ k = 1 then gR σ 0 else if r = 7 ∧ k = 0 then gR σ 1 else if r = 7 ∧ k = 1 then gR σ 2 else i
/-- what the law's own array holds: it stands in the addresses (place 92), not in the store, so that no text speaks of it -/
def dL (n : Nat) : Int64 := Int64.ofBitVec (BitVec.ofNat 64 n)
def eL (y : Int64) : Nat := y.toBitVec.toNat
theorem dL_eL (y : Int64) : dL (eL y) = y := by
  unfold dL eL
  rw [BitVec.ofNat_toNat, BitVec.setWidth_eq]
  rfl
def slot (a : Nat → Nat → Nat) (σ : HS) (r i k : Nat) : Value :=
  if r < 10 then (match fcode r k with
    | 0 => .int (gI σ r i k)
    | t + 1 => .ref (a t (ridx σ r i k)))
  else match acode r with
    | 0 => .int (gI σ r i k)
    | 1 => .long (if r = 90 then dL (a 92 k) else gL σ r i k)
    | t + 2 => .ref (a t (k + roff r))
/-- the environment: the first cell that is ours, the classes' numbers, the array classes, the String constants and their bytes -/
abbrev EV : Type := Nat × va_G × (Nat → ClassId) × (Nat → Nat) × (Nat → Nat)
def eB (E : EV) : Nat := E.1
def eD (E : EV) : va_G := E.2.1
def eC (E : EV) : Nat → ClassId := E.2.2.1
def eK (E : EV) : Nat → Nat := E.2.2.2.1
def eV (E : EV) : Nat → Nat := E.2.2.2.2
def AE (E : EV) : Nat → Prop := fun q => eB E ≤ q
def tysE (E : EV) : List (ClassId × FieldType) := [(eC E 0, .int), (eC E 1, .long), (eC E 2, .object RX3), (eC E 3, .object RX6), (eC E 4, .object RX1), (eC E 5, .object RX0), (eC E 6, .array .int)]
def lvS (σ : HS) (r i : Nat) : Prop := i < cntS r ∧ (r = 91 → gR σ 20 = 1)
def cellOK (E : EV) (a : Nat → Nat → Nat) (σ : HS) (H : Heap) (r i : Nat) : Prop :=
  if r < 10 then t_OB (a r i) ((eD E).1 r) (nfS r) ((eD E).2 r) H (slot a σ r i)
  else H[a r i]? = some (arrV (eC E (akind r)) (lenS σ r i) (slot a σ r i))
def Rel (E : EV) (a : Nat → Nat → Nat) (σ : HS) (H : Heap) : Prop :=
  (∀ r i, lvS σ r i → cellOK E a σ H r i) ∧ (∀ r i r' i', lvS σ r i → lvS σ r' i' → a r i = a r' i' → r = r' ∧ i = i') ∧ (∀ r i, lvS σ r i → eB E ≤ a r i) ∧ (gR σ 0 < 5 ∧ gR σ 1 < 7 ∧ gR σ 2 < 7)
theorem lv0 {σ : HS} {r i : Nat} (h : i < cntS r) (h2 : ¬ r = 91) : lvS σ r i := ⟨h, fun q => absurd q h2⟩
theorem cellOK.kept {E : EV} {a : Nat → Nat → Nat} {σ : HS} {H H1 : Heap} {r i : Nat} (h : cellOK E a σ H r i) (hq : H1[a r i]? = H[a r i]?) : cellOK E a σ H1 r i := by
  unfold cellOK at h ⊢
  by_cases hr : r < 10
  · rw [if_pos hr] at h ⊢
    exact h.kept hq
  · rw [if_neg hr] at h ⊢
    rw [hq]
    exact h
theorem cellOK.to {E : EV} {a : Nat → Nat → Nat} {σ σ' : HS} {H : Heap} {r i : Nat} (h : cellOK E a σ H r i) (hs : slot a σ' r i = slot a σ r i) (hl : lenS σ' r i = lenS σ r i) : cellOK E a σ' H r i := by
  unfold cellOK at h ⊢
  rw [hs, hl]
  exact h
/-- a store changes one slot of one cell -/
theorem Rel.put {E : EV} {a : Nat → Nat → Nat} {σ σ' : HS} {H H1 : Heap} {r i : Nat} (h : Rel E a σ H) (hr : gR σ' = gR σ) (hi : lvS σ r i) (hn : cellOK E a σ' H1 r i) (ho : ∀ q, q ≠ a r i → H1[q]? = H[q]?) (hs : ∀ r' i', ¬ (r' = r ∧ i' = i) → slot a σ' r' i' = slot a σ r' i') : Rel E a σ' H1 := by
  have hlv : ∀ r' i', lvS σ' r' i' → lvS σ r' i' := fun r' i' q => ⟨q.1, fun z => by rw [← hr]; exact q.2 z⟩
  refine ⟨fun r' i' hl => ?_, fun r' i' r2 i2 h1 h2 => h.2.1 r' i' r2 i2 (hlv _ _ h1) (hlv _ _ h2), fun r' i' h1 => h.2.2.1 r' i' (hlv _ _ h1), by rw [hr]; exact h.2.2.2⟩
  by_cases hc : r' = r ∧ i' = i
  · obtain ⟨rfl, rfl⟩ := hc
    exact hn
  · have hne : a r' i' ≠ a r i := fun q => hc (h.2.1 r' i' r i (hlv _ _ hl) hi q)
    refine ((h.1 r' i' (hlv _ _ hl)).kept (ho _ hne)).to (hs r' i' hc) ?_
    unfold lenS
    rw [hr]
theorem slot_wI_ne {a : Nat → Nat → Nat} {σ : HS} {r i k r' i' : Nat} {v : Int32} (h : ¬ (r' = r ∧ i' = i)) : slot a (wI σ r i k v) r' i' = slot a σ r' i' := by
  funext j
  have e1 : gI (wI σ r i k v) r' i' j = gI σ r' i' j := by
    show (if r' = r ∧ i' = i ∧ j = k then v else σ.1 r' i' j) = σ.1 r' i' j
    rw [if_neg (fun q => h ⟨q.1, q.2.1⟩)]
  show (if r' < 10 then (match fcode r' j with | 0 => Value.int (gI (wI σ r i k v) r' i' j) | t + 1 => .ref (a t (ridx σ r' i' j))) else _) = (if r' < 10 then _ else _)
  rw [e1]
  rfl
theorem slot_wI_eq {a : Nat → Nat → Nat} {σ : HS} {r i k : Nat} {v : Int32} (h : ∀ σ : HS, slot a σ r i k = .int (gI σ r i k)) : slot a (wI σ r i k v) r i = updV (slot a σ r i) k (.int v) := by
  funext j
  by_cases hj : j = k
  · subst hj
    rw [h]
    show Value.int (if r = r ∧ i = i ∧ j = j then v else σ.1 r i j) = updV (slot a σ r i) j (.int v) j
    rw [if_pos ⟨rfl, rfl, rfl⟩]
    simp [updV]
  · have e1 : gI (wI σ r i k v) r i j = gI σ r i j := by
      show (if r = r ∧ i = i ∧ j = k then v else σ.1 r i j) = σ.1 r i j
      rw [if_neg (fun q => hj q.2.2)]
    have e2 : updV (slot a σ r i) k (.int v) j = slot a σ r i j := by simp [updV, hj]
    rw [e2]
    show (if r < 10 then (match fcode r j with | 0 => Value.int (gI (wI σ r i k v) r i j) | t + 1 => .ref (a t (ridx σ r i j))) else _) = (if r < 10 then _ else _)
    rw [e1]
    rfl
theorem slot_wL_ne {a : Nat → Nat → Nat} {σ : HS} {r i k r' i' : Nat} {v : Int64} (h : ¬ (r' = r ∧ i' = i)) : slot a (wL σ r i k v) r' i' = slot a σ r' i' := by
  funext j
  have e1 : gL (wL σ r i k v) r' i' j = gL σ r' i' j := by
    show (if r' = r ∧ i' = i ∧ j = k then v else σ.2.1 r' i' j) = σ.2.1 r' i' j
    rw [if_neg (fun q => h ⟨q.1, q.2.1⟩)]
  show (if r' < 10 then _ else (match acode r' with | 0 => Value.int (gI σ r' i' j) | 1 => .long (if r' = 90 then dL (a 92 j) else gL (wL σ r i k v) r' i' j) | t + 2 => .ref (a t (j + roff r')))) = (if r' < 10 then _ else _)
  rw [e1]
  rfl
theorem slot_wL_eq {a : Nat → Nat → Nat} {σ : HS} {r i k : Nat} {v : Int64} (h : ∀ σ : HS, slot a σ r i k = .long (gL σ r i k)) : slot a (wL σ r i k v) r i = updV (slot a σ r i) k (.long v) := by
  funext j
  by_cases hj : j = k
  · subst hj
    rw [h]
    show Value.long (if r = r ∧ i = i ∧ j = j then v else σ.2.1 r i j) = updV (slot a σ r i) j (.long v) j
    rw [if_pos ⟨rfl, rfl, rfl⟩]
    simp [updV]
  · have e1 : gL (wL σ r i k v) r i j = gL σ r i j := by
      show (if r = r ∧ i = i ∧ j = k then v else σ.2.1 r i j) = σ.2.1 r i j
      rw [if_neg (fun q => hj q.2.2)]
    have e2 : updV (slot a σ r i) k (.long v) j = slot a σ r i j := by simp [updV, hj]
    rw [e2]
    show (if r < 10 then _ else (match acode r with | 0 => Value.int (gI σ r i j) | 1 => .long (if r = 90 then dL (a 92 j) else gL (wL σ r i k v) r i j) | t + 2 => .ref (a t (j + roff r)))) = (if r < 10 then _ else _)
    rw [e1]
    rfl
/-! the words that every method has: the tables' good ones -/
def GW : List Cond := lw_tbl.filter goodWord
theorem gw_in {w : Cond} (h : w ∈ lw_tbl) (hg : goodWord w = true) : w ∈ GW := List.mem_filter.mpr ⟨h, hg⟩
theorem gw_t {w : Cond} (i : Nat) (h : tables_1[i]? = some w) (hg : goodWord w = true) : w ∈ GW := gw_in (List.mem_append_right _ (List.mem_of_getElem? h)) hg
theorem gw_good {c0 c1 : Cond} (h : c1 ∈ GW) : GoodIn (c0 :: GW) (c1 :: GW) := by
  intro w hw
  have hw : w ∈ GW := (List.mem_cons.mp hw).elim (fun e => by rw [e]; exact h) id
  exact ⟨List.mem_cons_of_mem _ hw, good_of_word (List.mem_filter.mp hw).2⟩
def TTf (r : Nat) : u_T := (vwCl.getD r (RX0, TX0, 0)).2.1
def RRf (r : Nat) : String := (vwCl.getD r (RX0, TX0, 0)).1
theorem vwCl_at : ∀ r, r < 10 → vwCl[r]? = some (RRf r, TTf r, nfS r) := by
  intro r hr
  match r, hr with
  | 0, _ => rfl
  | 1, _ => rfl
  | 2, _ => rfl
  | 3, _ => rfl
  | 4, _ => rfl
  | 5, _ => rfl
  | 6, _ => rfl
  | 7, _ => rfl
  | 8, _ => rfl
  | 9, _ => rfl
