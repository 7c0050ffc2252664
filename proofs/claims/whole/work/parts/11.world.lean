/-! The picture and the machine's heap. -/
def ad (b x : Nat) : Option Nat := match x with
  | 0 => none
  | k + 1 => some (b + k)
def cnv (b : Nat) (cs : Nat → Nat) (v : Value) : Value := match v with
  | .ref x => va_rf (ad b x)
  | .retAddr t => .ref (cs t)
  | v => v
theorem cnv_cat (b : Nat) (cs : Nat → Nat) (v : Value) : (cnv b cs v).category = cat v := by
  cases v with
  | ref x => cases x <;> rfl
  | _ => rfl
theorem cnv_cats (b : Nat) (cs : Nat → Nat) (st : List Value) : ((st.map (cnv b cs)).map fun v => v.category).sum = cats st := by
  unfold cats
  rw [List.map_map]
  congr 1
  apply List.map_congr_left
  intro v _
  exact cnv_cat b cs v
theorem ad_inj {b x y : Nat} (h : ad b x = ad b y) : x = y := by
  cases x <;> cases y <;> simp [ad] at h <;> omega
def fvs (b : Nat) (h : Hp) (k c : Nat) : List Value := (List.range (nf c)).map (fun j => if ft c j = 2 then va_rf (ad b (zA h k j)) else .int (zI h k j))
def ceE (b : Nat) (cy : Nat → ClassId) (h : Hp) (k : Nat) : va_E :=
  if zK h k < 12 then .inr (zK h k, fvs b h k (zK h k))
  else if zK h k = 13 then .inl (cy 13, zN h k, .inr (.inl (zJ h k)))
  else if zK h k < 15 then .inl (cy (zK h k), zN h k, .inl (zI h k))
  else .inl (cy (zK h k), zN h k, .inr (.inr (.inr (.inr (fun j => ad b (zA h k j))))))
def wl (b : Nat) (cy : Nat → ClassId) (h : Hp) : va_W := (List.range (zc h)).map (fun k => (b + k, ceE b cy h (k + 1)))
def tys (cy : Nat → ClassId) : List (ClassId × FieldType) := [(cy 12, .int), (cy 13, .long), (cy 14, .boolean), (cy 15, .object RX0), (cy 16, .object RX4), (cy 17, .object RX5)]
def Ab (b : Nat) : Nat → Prop := fun q => b ≤ q
def HW (D : va_G) (b : Nat) (cy : Nat → ClassId) (h : Hp) (H : Heap) : Prop := va_P D vwCl (wl b cy h) H ∧ ∀ a, (a = 0 ∨ zc h < a) → zK h a = 99
theorem wl_at {b : Nat} {cy : Nat → ClassId} {h : Hp} {k : Nat} (hk : k < zc h) : (wl b cy h)[k]? = some (b + k, ceE b cy h (k + 1)) := by
  unfold wl
  rw [List.getElem?_map, List.getElem?_range hk]
  rfl
theorem wl_len {b : Nat} {cy : Nat → ClassId} {h : Hp} : (wl b cy h).length = zc h := by
  unfold wl
  simp
theorem wl_D {b : Nat} {cy : Nat → ClassId} {h : Hp} : va_D (Ab b) (wl b cy h) := by
  constructor
  · intro i j p q hi hj e
    have h1 : i < zc h := by
      have := (List.getElem?_eq_some_iff.mp hi).1
      rw [wl_len] at this
      exact this
    have h2 : j < zc h := by
      have := (List.getElem?_eq_some_iff.mp hj).1
      rw [wl_len] at this
      exact this
    rw [wl_at h1] at hi
    rw [wl_at h2] at hj
    cases hi
    cases hj
    have e : b + i = b + j := e
    omega
  · intro k q hk
    have h1 : k < zc h := by
      have := (List.getElem?_eq_some_iff.mp hk).1
      rw [wl_len] at this
      exact this
    rw [wl_at h1] at hk
    cases hk
    exact Nat.le_add_right _ _
/-- a live reference is no null: it has a cell -/
theorem HW.live {D : va_G} {b : Nat} {cy : Nat → ClassId} {h : Hp} {H : Heap} (hw : HW D b cy h H) {a : Nat} (hk : zK h a ≠ 99) : ∃ k, a = k + 1 ∧ k < zc h := by
  cases a with
  | zero => exact absurd (hw.2 0 (Or.inl rfl)) hk
  | succ k =>
    refine ⟨k, rfl, ?_⟩
    rcases Nat.lt_or_ge k (zc h) with q | q
    · exact q
    · exact absurd (hw.2 (k + 1) (Or.inr (by omega))) hk
theorem ceE_obj {b : Nat} {cy : Nat → ClassId} {h : Hp} {k c : Nat} (hk : zK h k = c) (hc : c < 12) : ceE b cy h k = .inr (c, fvs b h k c) := by
  unfold ceE
  rw [hk, if_pos hc]
theorem ceE_I {b : Nat} {cy : Nat → ClassId} {h : Hp} {k : Nat} (hk : zK h k = 12) : ceE b cy h k = .inl (cy 12, zN h k, .inl (zI h k)) := by
  unfold ceE
  rw [hk]
  rfl
theorem ceE_J {b : Nat} {cy : Nat → ClassId} {h : Hp} {k : Nat} (hk : zK h k = 13) : ceE b cy h k = .inl (cy 13, zN h k, .inr (.inl (zJ h k))) := by
  unfold ceE
  rw [hk]
  rfl
theorem ceE_Z {b : Nat} {cy : Nat → ClassId} {h : Hp} {k : Nat} (hk : zK h k = 14) : ceE b cy h k = .inl (cy 14, zN h k, .inl (zI h k)) := by
  unfold ceE
  rw [hk]
  rfl
theorem ceE_A {b : Nat} {cy : Nat → ClassId} {h : Hp} {k c : Nat} (hk : zK h k = c) (hc : 15 ≤ c) : ceE b cy h k = .inl (cy c, zN h k, .inr (.inr (.inr (.inr (fun j => ad b (zA h k j)))))) := by
  unfold ceE
  rw [hk, if_neg (by omega), if_neg (by omega), if_neg (by omega)]
/-- one cell is set anew -/
theorem wl_set {b : Nat} {cy : Nat → ClassId} {h h1 : Hp} {k : Nat} {e : va_E} (hz : zc h1 = zc h) (hk : k < zc h) (he : ceE b cy h1 (k + 1) = e) (ho : ∀ j, j ≠ k + 1 → ceE b cy h1 j = ceE b cy h j) : (wl b cy h).set k (b + k, e) = wl b cy h1 := by
  apply List.ext_getElem?
  intro j
  by_cases hj : j < zc h
  · rw [wl_at (h := h1) (by rw [hz]; exact hj)]
    by_cases e1 : j = k
    · subst e1
      rw [List.getElem?_set_self (by rw [wl_len]; exact hj), he]
    · rw [List.getElem?_set_ne (Ne.symm e1), wl_at hj, ho (j + 1) (by omega)]
  · rw [List.getElem?_eq_none (by rw [List.length_set, wl_len]; omega), List.getElem?_eq_none (by rw [wl_len, hz]; omega)]
theorem wl_push {b : Nat} {cy : Nat → ClassId} {h h1 : Hp} {e : va_E} (hz : zc h1 = zc h + 1) (he : ceE b cy h1 (zc h + 1) = e) (ho : ∀ j, j ≠ zc h + 1 → ceE b cy h1 j = ceE b cy h j) : wl b cy h ++ [(b + zc h, e)] = wl b cy h1 := by
  apply List.ext_getElem?
  intro j
  by_cases hj : j < zc h
  · rw [List.getElem?_append_left (by rw [wl_len]; exact hj), wl_at hj, wl_at (h := h1) (by omega), ho (j + 1) (by omega)]
  · rw [List.getElem?_append_right (by rw [wl_len]; omega), wl_len]
    by_cases e1 : j = zc h
    · subst e1
      rw [wl_at (h := h1) (by omega), he]
      simp
    · rw [List.getElem?_eq_none (by simp; omega), List.getElem?_eq_none (by rw [wl_len, hz]; omega)]
theorem fvs_at {b : Nat} {h : Hp} {k c j : Nat} (hj : j < nf c) : (fvs b h k c)[j]? = some (if ft c j = 2 then va_rf (ad b (zA h k j)) else .int (zI h k j)) := by
  unfold fvs
  rw [List.getElem?_map, List.getElem?_range hj]
  rfl
theorem fvs_len {b : Nat} {h : Hp} {k c : Nat} : (fvs b h k c).length = nf c := by
  unfold fvs
  simp
