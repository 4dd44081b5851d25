/-! small sets as bits; the orders of a set by number -/
def zfc (x : Int) : Int := if x ≤ 1 then 1 else if x = 2 then 2 else if x = 3 then 6 else if x = 4 then 24 else if x = 5 then 120 else if x = 6 then 720 else 5040
theorem zfc_1 {x : Int} (h : x ≤ 1) : zfc x = 1 := if_pos h
theorem zfc_s {k : Int} (h1 : 1 ≤ k) (h2 : k ≤ 7) : zfc k = k * zfc (k - 1) ∧ 1 ≤ zfc (k - 1) ∧ zfc (k - 1) ≤ 720 ∧ 1 ≤ zfc k ∧ zfc k ≤ 5040 := by
  rcases (by omega : k = 1 ∨ k = 2 ∨ k = 3 ∨ k = 4 ∨ k = 5 ∨ k = 6 ∨ k = 7) with rfl | rfl | rfl | rfl | rfl | rfl | rfl <;> decide
theorem zlo_1 {a k : Int32} (h : a.toInt = zfc (k.toInt - 1)) (h1 : 2 ≤ k.toInt) (h2 : k.toInt ≤ 7) : (a * k).toInt = zfc k.toInt ∧ 1 ≤ (a * k).toInt ∧ (a * k).toInt ≤ 5040 := by
  have z := zfc_s (show 1 ≤ k.toInt by omega) h2
  have e : a.toInt * k.toInt = zfc k.toInt := by rw [h, z.1, Int.mul_comm]
  have e2 := zmul a k (by rw [e]; omega) (by rw [e]; omega)
  rw [e2, e]
  omega
theorem zlo_x {a k : Int32} {w : Int} (h : a.toInt = zfc (k.toInt - 1)) (h1 : k.toInt ≤ w + 1 ∨ k.toInt = 2) (h2 : w < k.toInt) : a.toInt = zfc w := by
  rw [h]
  rcases (by omega : k.toInt - 1 = w ∨ (k.toInt - 1 ≤ 1 ∧ w ≤ 1)) with e | ⟨e1, e2⟩
  · rw [e]
  · rw [zfc_1 e1, zfc_1 e2]
theorem zlo_d {a b : Int32} {t : Int} (h : a.toInt = zfc t) (hb : b.toInt = t) (h1 : 1 ≤ t) (h2 : t ≤ 7) : (a / b).toInt = zfc (t - 1) ∧ 1 ≤ (a / b).toInt ∧ (a / b).toInt ≤ 720 := by
  have z := zfc_s h1 h2
  obtain ⟨n, hn, e⟩ := zpos (x := b) (by omega)
  subst e
  rw [nI_toInt hn] at hb
  rw [zdiv_p a n (by omega) (by omega) hn, hb, h, z.1, Int.mul_ediv_cancel_left _ (by omega)]
  omega
theorem zlo_n {r a : Int32} {t : Int} (h : a.toInt = zfc (t - 1)) (h0 : 0 ≤ r.toInt) (hr : r.toInt < zfc t) (h1 : 1 ≤ t) (h2 : t ≤ 7) : 0 ≤ (r / a).toInt ∧ (r / a).toInt < t := by
  have z := zfc_s h1 h2
  obtain ⟨n, hn, e⟩ := zpos (x := a) (by omega)
  subst e
  rw [nI_toInt hn] at h
  rw [zdiv_p r n h0 (by omega) hn, h]
  rw [z.1] at hr
  exact ⟨Int.ediv_nonneg h0 (by omega), Int.ediv_lt_of_lt_mul (by omega) hr⟩
def zbt (x w : Int32) : Prop := (x >>> (w &&& 31)) &&& 1 = 1
def zbb (x w : Int32) : Bool := decide ((x >>> (w &&& 31)) &&& 1 = 1)
theorem zbb_t {x w : Int32} (h : zbt x w) : zbb x w = true := decide_eq_true h
theorem zbb_f {x w : Int32} (h : ¬ zbt x w) : zbb x w = false := decide_eq_false h
/-- how many of the highest n of seven bits -/
def zbc (x : Int32) : Nat → Int
  | 0 => 0
  | n + 1 => zbc x n + (if zbb x (nI (6 - n)) then 1 else 0)
/-- how many of the lowest n bits -/
def zlc (x : Int32) : Nat → Int
  | 0 => 0
  | n + 1 => zlc x n + (if zbb x (nI n) then 1 else 0)
theorem zs7 {x : Int32} (h : 0 ≤ x.toInt ∧ x.toInt ≤ 127) : ∃ s : Nat, s < 128 ∧ x = nI s := by
  obtain ⟨j, hj, e⟩ := zpos h.1
  subst e
  rw [nI_toInt hj] at h
  exact ⟨j, by omega, rfl⟩
theorem zs6 {x : Int32} (h : 0 ≤ x.toInt ∧ x.toInt ≤ 6) : ∃ s : Nat, s < 7 ∧ x = nI s := by
  obtain ⟨j, hj, e⟩ := zpos h.1
  subst e
  rw [nI_toInt hj] at h
  exact ⟨j, by omega, rfl⟩
theorem zs_or0 : ∀ s, s < 128 → ∀ w, w < 7 → 0 ≤ (nI s ||| ((1 : Int32) <<< (nI w &&& 31))).toInt ∧ (nI s ||| ((1 : Int32) <<< (nI w &&& 31))).toInt ≤ 127 := by decide +kernel
theorem zs_or {x w : Int32} (hx : 0 ≤ x.toInt ∧ x.toInt ≤ 127) (hw : 0 ≤ w.toInt ∧ w.toInt ≤ 6) : 0 ≤ (x ||| ((1 : Int32) <<< (w &&& 31))).toInt ∧ (x ||| ((1 : Int32) <<< (w &&& 31))).toInt ≤ 127 := by
  obtain ⟨s, hs, rfl⟩ := zs7 hx
  obtain ⟨v, hv, rfl⟩ := zs6 hw
  exact zs_or0 s hs v hv
theorem zs_or00 : ∀ s, s < 128 → 0 ≤ (nI s ||| 0).toInt ∧ (nI s ||| 0).toInt ≤ 127 := by decide +kernel
theorem zs_orz {x : Int32} (hx : 0 ≤ x.toInt ∧ x.toInt ≤ 127) : 0 ≤ (x ||| 0).toInt ∧ (x ||| 0).toInt ≤ 127 := by
  obtain ⟨s, hs, rfl⟩ := zs7 hx
  exact zs_or00 s hs
theorem zbc_clr0 : ∀ s, s < 128 → ∀ w, w < 7 → zbc (nI s) 7 - 1 ≤ zbc (nI s &&& (((1 : Int32) <<< (nI w &&& 31)) ^^^ (-1))) 7 ∧ 0 ≤ (nI s &&& (((1 : Int32) <<< (nI w &&& 31)) ^^^ (-1))).toInt ∧ (nI s &&& (((1 : Int32) <<< (nI w &&& 31)) ^^^ (-1))).toInt ≤ 127 := by decide +kernel
theorem zbc_clr {x w : Int32} (hx : 0 ≤ x.toInt ∧ x.toInt ≤ 127) (hw : 0 ≤ w.toInt ∧ w.toInt ≤ 6) : zbc x 7 - 1 ≤ zbc (x &&& (((1 : Int32) <<< (w &&& 31)) ^^^ (-1))) 7 ∧ 0 ≤ (x &&& (((1 : Int32) <<< (w &&& 31)) ^^^ (-1))).toInt ∧ (x &&& (((1 : Int32) <<< (w &&& 31)) ^^^ (-1))).toInt ≤ 127 := by
  obtain ⟨s, hs, rfl⟩ := zs7 hx
  obtain ⟨v, hv, rfl⟩ := zs6 hw
  exact zbc_clr0 s hs v hv
theorem zlc_le0 : ∀ s, s < 128 → ∀ k, k < 8 → zlc (nI s) k ≤ zbc (nI s) 7 := by decide +kernel
theorem zlc_le {x : Int32} (hx : 0 ≤ x.toInt ∧ x.toInt ≤ 127) {k : Nat} (hk : k ≤ 7) : zlc x k ≤ zbc x 7 := by
  obtain ⟨s, hs, rfl⟩ := zs7 hx
  exact zlc_le0 s hs k (by omega)
theorem zbc_s {x w n w' n' : Int32} (h0 : 0 ≤ n.toInt) (h : n.toInt < zbc x (7 - w.toInt).toNat) (hw : 0 ≤ w.toInt) (hw' : w'.toInt = w.toInt + 1) (h1 : zbt x w → n'.toInt = n.toInt - 1) (h2 : ¬ zbt x w → n'.toInt = n.toInt) : n'.toInt < zbc x (7 - w'.toInt).toNat := by
  obtain ⟨k, hk⟩ : ∃ k, (7 - w.toInt).toNat = k := ⟨_, rfl⟩
  rw [hk] at h
  cases k with
  | zero => have : zbc x 0 = 0 := rfl; omega
  | succ k =>
    have e : (7 - w'.toInt).toNat = k := by omega
    have e2 : nI (6 - k) = w := by
      rw [zi_eq, nI_toInt (by omega)]
      omega
    rw [e]
    have h : n.toInt < zbc x k + (if zbb x (nI (6 - k)) then 1 else 0) := h
    rw [e2] at h
    by_cases c : zbt x w
    · rw [zbb_t c, if_pos rfl] at h
      have := h1 c
      omega
    · rw [zbb_f c] at h
      have := h2 c
      simp at h
      omega
theorem zbc_in {x w n : Int32} (h0 : 0 ≤ n.toInt) (h : n.toInt < zbc x (7 - w.toInt).toNat) : w.toInt ≤ 6 := by
  apply Int.not_lt.mp
  intro u
  have e : (7 - w.toInt).toNat = 0 := by omega
  rw [e] at h
  have : zbc x 0 = 0 := rfl
  omega
theorem zbc_0 {x n : Int32} (h : n.toInt < zbc x 7) : n.toInt < zbc x (7 - Int32.toInt 0).toNat := by
  have e : (7 - Int32.toInt 0).toNat = 7 := by decide
  rw [e]
  exact h
theorem zlc_s {x w w' v v' : Int32} (h : v.toInt ≤ zlc x w.toNatClampNeg) (hw : 0 ≤ w.toInt) (hw' : w'.toInt = w.toInt + 1) (h1 : zbt x w → v'.toInt = v.toInt + 1) (h2 : ¬ zbt x w → v'.toInt = v.toInt) : v'.toInt ≤ zlc x w'.toNatClampNeg := by
  have e1 := ztn w hw
  have e2 := ztn w' (by omega)
  have e3 : w'.toNatClampNeg = w.toNatClampNeg + 1 := by omega
  have e4 : nI w.toNatClampNeg = w := by
    rw [zi_eq, nI_toInt (by have := zbnd w; omega)]
    omega
  rw [e3]
  show _ ≤ zlc x w.toNatClampNeg + (if zbb x (nI w.toNatClampNeg) then 1 else 0)
  rw [e4]
  by_cases c : zbt x w
  · rw [zbb_t c, if_pos rfl]
    have := h1 c
    omega
  · rw [zbb_f c]
    have := h2 c
    simp
    omega
