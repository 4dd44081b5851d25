/-! roles and ranges of the memory's places; the memory is in order -/
def pvrL2 : List Nat := [8, 100, 101, 0, 102, 1, 4, 103, 6, 6, 104, 105, 106, 107, 108, 2, 2, 2, 2, 2, 2, 2, 2, 2, 109, 109, 109, 109, 109, 109, 109, 109, 109, 110, 110, 110, 110, 110, 110, 110, 110, 110, 111, 111, 111, 111, 111, 111, 111, 111, 111, 112, 112, 112, 112, 112, 112, 112, 112, 112, 3, 3, 3, 3, 3, 3, 3, 113, 113, 113, 113, 113, 113, 113, 3, 3, 3, 3, 3, 3, 3, 113, 113, 113, 113, 113, 113, 113, 7, 7, 7, 7, 7, 7, 114, 114, 114, 114, 114, 114, 5, 5, 5, 5, 5, 5, 5, 5, 115, 116, 117, 118, 119, 120, 121, 122, 123, 124, 125, 126, 127, 128, 129, 130, 9, 131, 132, 133, 134, 135, 136, 137, 138, 139, 140, 141, 142, 143, 144, 145, 146, 147, 148, 149, 150, 151, 152, 153, 154, 155, 156, 157, 158, 159, 160, 161, 162, 163, 164, 165, 166, 167, 168, 169, 170, 171, 172, 173]
def pvrl (q : Nat) : Nat := pvrL2.getD q 99
def pvaL : List (Int × Int) := [((-2147483648), 2147483647), ((-2147483648), 2147483647), ((-2147483648), 2147483647), ((-2147483648), 2147483647), (0, 1000), ((-2147483648), 2147483647), ((-2147483648), 2147483647), (0, 127), ((-2147483648), 2147483647), ((-2147483648), 2147483647), ((-2147483648), 2147483647), ((-2147483648), 2147483647), (0, 1000000), (0, 700000), (0, 1), ((-2147483648), 2147483647), ((-2147483648), 2147483647), ((-2147483648), 2147483647), ((-2147483648), 2147483647), ((-2147483648), 2147483647), ((-2147483648), 2147483647), ((-2147483648), 2147483647), ((-2147483648), 2147483647), ((-2147483648), 2147483647), ((-99), 99), ((-99), 99), ((-99), 99), ((-99), 99), ((-99), 99), ((-99), 99), ((-99), 99), ((-99), 99), ((-99), 99), (0, 100), (0, 100), (0, 100), (0, 100), (0, 100), (0, 100), (0, 100), (0, 100), (0, 100), ((-3), 2099), ((-3), 2099), ((-3), 2099), ((-3), 2099), ((-3), 2099), ((-3), 2099), ((-3), 2099), ((-3), 2099), ((-3), 2099), ((-2147483648), 2147483647), ((-2147483648), 2147483647), ((-2147483648), 2147483647), ((-2147483648), 2147483647), ((-2147483648), 2147483647), ((-2147483648), 2147483647), ((-2147483648), 2147483647), ((-2147483648), 2147483647), ((-2147483648), 2147483647), ((-2147483648), 2147483647), ((-2147483648), 2147483647), ((-2147483648), 2147483647), ((-2147483648), 2147483647), ((-2147483648), 2147483647), ((-2147483648), 2147483647), ((-2147483648), 2147483647), (0, 9), (0, 9), (0, 9), (0, 9), (0, 9), (0, 9), (0, 9), ((-2147483648), 2147483647), ((-2147483648), 2147483647), ((-2147483648), 2147483647), ((-2147483648), 2147483647), ((-2147483648), 2147483647), ((-2147483648), 2147483647), ((-2147483648), 2147483647), (0, 9), (0, 9), (0, 9), (0, 9), (0, 9), (0, 9), (0, 9), ((-2147483648), 2147483647), ((-2147483648), 2147483647), ((-2147483648), 2147483647), ((-2147483648), 2147483647), ((-2147483648), 2147483647), ((-2147483648), 2147483647), ((-2147483648), 2147483647), ((-2147483648), 2147483647), ((-2147483648), 2147483647), ((-2147483648), 2147483647), ((-2147483648), 2147483647), ((-2147483648), 2147483647), ((-2147483648), 2147483647), ((-2147483648), 2147483647), ((-2147483648), 2147483647), ((-2147483648), 2147483647), ((-2147483648), 2147483647), ((-2147483648), 2147483647), ((-2147483648), 2147483647), ((-2147483648), 2147483647), (0, 6), (0, 6), (0, 6), (0, 6), (0, 6), (0, 6), (0, 6), (0, 6), (0, 9999), (0, 9999), (0, 9999), (0, 9999), (0, 9999), (0, 9999), (0, 9999), (0, 9999), ((-2147483648), 2147483647), (0, 6), (0, 9), (0, 3), (0, 4), (0, 9), (0, 9), (0, 1), (0, 127), (0, 10), (0, 3), (0, 99), (0, 600), (0, 600), ((-128), 5999), (0, 127), (0, 127), (0, 1), (0, 6000), ((-1), 99999), (0, 6), (0, 6), (0, 6), (0, 6), (0, 9999), (0, 6), (0, 9999), (0, 6), (0, 9), (0, 3), (0, 4), (0, 9), (0, 9), (0, 6), (0, 6), (0, 9999), (0, 6), (0, 9999), (0, 1), ((-2147483648), 2147483647), ((-1), 4), (0, 60), ((-2147483648), 2147483647), ((-2147483648), 2147483647)]
def pvat (q : Nat) : Int × Int := pvaL.getD q (-2147483648, 2147483647)
def pvcL : List (List (Int × Int)) := [[((-2147483648), 2147483647), (0, 1000000), ((-2147483648), 2147483647), ((-2147483648), 2147483647), ((-2147483648), 2147483647)], [((-2147483648), 2147483647), (0, 3), (0, 108), ((-2147483648), 2147483647), ((-2147483648), 2147483647), ((-2147483648), 2147483647), ((-2147483648), 2147483647), ((-2147483648), 2147483647), ((-2147483648), 2147483647)], [(0, 99), (0, 99), (0, 10), ((-2147483648), 2147483647), ((-2147483648), 2147483647), (0, 100), ((-2147483648), 2147483647), ((-2147483648), 2147483647)], [(0, 6), (0, 9), (0, 3), (0, 4), (0, 9), (0, 1), ((-2147483648), 2147483647)], [((-2147483648), 2147483647), (0, 100), ((-1), 100), ((-1), 127), (15, 23)], [((-2147483648), 2147483647), ((-2147483648), 2147483647), ((-2147483648), 2147483647)], [((-2147483648), 2147483647), (0, 7), (0, 99), (0, 3), (0, 9999), ((-2147483648), 2147483647), (0, 3), (0, 4), (15, 23), ((-2147483648), 2147483647), ((-2147483648), 2147483647), ((-2147483648), 2147483647)], [((-1), 4), (0, 60), ((-2147483648), 2147483647)], [((-2147483648), 2147483647), (0, 6), ((-2147483648), 2147483647), ((-2147483648), 2147483647), ((-2147483648), 2147483647), (0, 1), ((-2147483648), 2147483647), ((-2147483648), 2147483647), ((-2147483648), 2147483647)], [(0, 7), (0, 9999), (0, 999999), (0, 108), (0, 4), (0, 3), (0, 4), ((-2147483648), 2147483647), ((-2147483648), 2147483647), ((-2147483648), 2147483647), ((-2147483648), 2147483647), ((-2147483648), 2147483647), ((-2147483648), 2147483647), ((-2147483648), 2147483647), (0, 6), ((-1), 5), (0, 100), (0, 100), (0, 99), ((-2147483648), 2147483647), ((-2147483648), 2147483647), ((-2147483648), 2147483647), ((-2147483648), 2147483647), ((-2147483648), 2147483647), ((-2147483648), 2147483647), ((-2147483648), 2147483647), ((-2147483648), 2147483647), (0, 600), (0, 101), ((-2147483648), 2147483647), ((-2147483648), 2147483647), ((-2147483648), 2147483647), (0, 99), ((-2147483648), 2147483647), ((-2147483648), 2147483647), (0, 7), ((-2147483648), 2147483647), (0, 7), ((-2147483648), 2147483647), ((-2147483648), 2147483647), (0, 6), ((-2147483648), 2147483647), ((-2147483648), 2147483647), (0, 8), ((-2147483648), 2147483647), ((-2147483648), 2147483647), (0, 1), ((-1), 5), (0, 7), (0, 9999), (0, 999999), (0, 108), (0, 4), (0, 3), (0, 4), (0, 7), (0, 6), (0, 8), ((-2147483648), 2147483647), ((-2147483648), 2147483647), ((-2147483648), 2147483647), ((-2147483648), 2147483647), ((-2147483648), 2147483647), ((-2147483648), 2147483647), ((-2147483648), 2147483647), ((-2147483648), 2147483647), ((-2147483648), 2147483647), ((-2147483648), 2147483647), ((-2147483648), 2147483647), ((-2147483648), 2147483647), (0, 1000000), ((-2147483648), 2147483647), ((-2147483648), 2147483647), ((-2147483648), 2147483647), ((-2147483648), 2147483647), ((-2147483648), 2147483647)]]
def pvct (ci k : Nat) : Int × Int := (pvcL.getD ci []).getD k (-2147483648, 2147483647)
def pvrg (q k : Nat) : Int × Int := if pvkl q = 5 then (if k = 0 then (0, (pvln (q + 8) : Int)) else (-2147483648, 2147483647)) else if pvkl q < 20 then pvct (pvkl q) k else pvat q
def pvOk (M : pvM) : Prop := ∀ q k, (pvrg q k).1 ≤ (M.1 q k).toInt ∧ (M.1 q k).toInt ≤ (pvrg q k).2
theorem pvok_r {M : pvM} (h : pvOk M) (q k : Nat) {lo hi : Int} (e : pvrg q k = (lo, hi)) : lo ≤ (M.1 q k).toInt ∧ (M.1 q k).toInt ≤ hi := by
  have := h q k
  rw [e] at this
  exact this
theorem pvu_s {M X : pvM} {q k : Nat} {x : Int32} (e : X = pvu M q k x) : X.1 q k = x := by
  subst e
  unfold pvu
  rw [pvr_q]
  simp [upd]
theorem pvu_n {M X : pvM} {q k : Nat} {x : Int32} (e : X = pvu M q k x) (a b : Nat) (h : a ≠ q ∨ b ≠ k) : X.1 a b = M.1 a b := by
  subst e
  unfold pvu
  by_cases ha : a = q
  · subst ha
    rw [pvr_q]
    simp [upd]
    intro hb
    rcases h with h | h
    · exact absurd rfl h
    · exact absurd hb h
  · rw [(pvr_o M q _ a ha).1]
theorem pvok_u {M X : pvM} {q k : Nat} {x : Int32} (e : X = pvu M q k x) (h : pvOk M) (hx : (pvrg q k).1 ≤ x.toInt ∧ x.toInt ≤ (pvrg q k).2) : pvOk X := by
  intro a b
  by_cases hab : a = q ∧ b = k
  · obtain ⟨rfl, rfl⟩ := hab
    rw [pvu_s e]
    exact hx
  · rw [pvu_n e a b (by omega)]
    exact h a b
theorem pvok_u2 {M X : pvM} {q k : Nat} {x : Int32} {lo hi : Int} (e : X = pvu M q k x) (h : pvOk M) (hr : pvrg q k = (lo, hi)) (hx : lo ≤ x.toInt ∧ x.toInt ≤ hi) : pvOk X := pvok_u e h (by rw [hr]; exact hx)
theorem pvok_w {M X : pvM} {q k : Nat} {x : Int64} (e : X = pvw M q k x) (h : pvOk M) : pvOk X := by
  subst e
  exact h
theorem pvok_rL {M X : pvM} {q : Nat} {f : Nat → Int64} (e : X = pvrL M q f) (h : pvOk M) : pvOk X := by
  subst e
  exact h
theorem pvok_rr {M X : pvM} {q : Nat} {f : Nat → Int32} {lo hi : Int} (e : X = pvr M q f) (h : pvOk M) (hr : ∀ k, pvrg q k = (lo, hi)) (hx : ∀ k, lo ≤ (f k).toInt ∧ (f k).toInt ≤ hi) : pvOk X := by
  subst e
  intro a b
  by_cases ha : a = q
  · subst ha
    rw [pvr_q, hr]
    exact hx b
  · rw [(pvr_o M q f a ha).1]
    exact h a b
/-- a frame: what a footprint leaves out is as it was -/
def pvFr (fp : Nat → Nat → Bool) (M X : pvM) : Prop := ∀ q k, fp q k = false → X.1 q k = M.1 q k
theorem pvfr_0 {fp : Nat → Nat → Bool} {M : pvM} : pvFr fp M M := fun _ _ _ => rfl
theorem pvfr_u {fp : Nat → Nat → Bool} {M X Y : pvM} {q k : Nat} {x : Int32} (e : Y = pvu X q k x) (h : pvFr fp M X) (hf : fp q k = true) : pvFr fp M Y := fun a b hab => by
  rw [pvu_n e a b ?_]
  · exact h a b hab
  · by_cases ha : a = q
    · right
      intro hb
      subst ha; subst hb
      rw [hf] at hab
      cases hab
    · exact Or.inl ha
theorem pvfr_w {fp : Nat → Nat → Bool} {M X Y : pvM} {q k : Nat} {x : Int64} (e : Y = pvw X q k x) (h : pvFr fp M X) : pvFr fp M Y := by
  subst e
  exact h
theorem pvfr_rL {fp : Nat → Nat → Bool} {M X Y : pvM} {q : Nat} {f : Nat → Int64} (e : Y = pvrL X q f) (h : pvFr fp M X) : pvFr fp M Y := by
  subst e
  exact h
theorem pvfr_rr {fp : Nat → Nat → Bool} {M X Y : pvM} {q : Nat} {f : Nat → Int32} (e : Y = pvr X q f) (h : pvFr fp M X) (hf : ∀ k, fp q k = true) : pvFr fp M Y := fun a b hab => by
  subst e
  by_cases ha : a = q
  · subst ha
    rw [hf] at hab
    cases hab
  · rw [(pvr_o X q f a ha).1]
    exact h a b hab
theorem pvfr_t {f1 fp : Nat → Nat → Bool} {M X Y : pvM} (h1 : pvFr f1 X Y) (h : pvFr fp M X) (hs : ∀ a b, f1 a b = true → fp a b = true) : pvFr fp M Y := fun a b hab => by
  rw [h1 a b ?_]
  · exact h a b hab
  · cases e : f1 a b with
    | false => rfl
    | true => rw [hs a b e] at hab; cases hab
theorem pvrg_o {q c : Nat} (k : Nat) (h : pvkl q = c) (h5 : c ≠ 5) (h20 : c < 20) : pvrg q k = pvct c k := by
  unfold pvrg
  rw [h, if_neg h5, if_pos h20]
theorem pvrg_a {q : Nat} (k : Nat) (h : 20 ≤ pvkl q) : pvrg q k = pvat q := by
  unfold pvrg
  rw [if_neg (by omega), if_neg (by omega)]
theorem pvowr_2 {q : Nat} (h : pvkl q = 2) : pvrl q = 2 := (by decide +kernel : ∀ q, q < pvNP → pvkl q = 2 → pvrl q = 2) q (pvkl_lt h (by decide)) h
theorem pvow_2_9 {q : Nat} (h : pvkl q = 2) : pvkl (q + 9) = 20 ∧ pvln (q + 9) = 10 ∧ pvrl (q + 9) = 109 ∧ pvat (q + 9) = ((-99), 99) := (by decide +kernel : ∀ q, q < pvNP → pvkl q = 2 → pvkl (q + 9) = 20 ∧ pvln (q + 9) = 10 ∧ pvrl (q + 9) = 109 ∧ pvat (q + 9) = ((-99), 99)) q (pvkl_lt h (by decide)) h
theorem pvow_2_18 {q : Nat} (h : pvkl q = 2) : pvkl (q + 18) = 20 ∧ pvln (q + 18) = 10 ∧ pvrl (q + 18) = 110 ∧ pvat (q + 18) = (0, 100) := (by decide +kernel : ∀ q, q < pvNP → pvkl q = 2 → pvkl (q + 18) = 20 ∧ pvln (q + 18) = 10 ∧ pvrl (q + 18) = 110 ∧ pvat (q + 18) = (0, 100)) q (pvkl_lt h (by decide)) h
theorem pvow_2_27 {q : Nat} (h : pvkl q = 2) : pvkl (q + 27) = 20 ∧ pvln (q + 27) = 100 ∧ pvrl (q + 27) = 111 ∧ pvat (q + 27) = ((-3), 2099) := (by decide +kernel : ∀ q, q < pvNP → pvkl q = 2 → pvkl (q + 27) = 20 ∧ pvln (q + 27) = 100 ∧ pvrl (q + 27) = 111 ∧ pvat (q + 27) = ((-3), 2099)) q (pvkl_lt h (by decide)) h
theorem pvow_2_36 {q : Nat} (h : pvkl q = 2) : pvkl (q + 36) = 20 ∧ pvln (q + 36) = 6 ∧ pvrl (q + 36) = 112 ∧ pvat (q + 36) = ((-2147483648), 2147483647) := (by decide +kernel : ∀ q, q < pvNP → pvkl q = 2 → pvkl (q + 36) = 20 ∧ pvln (q + 36) = 6 ∧ pvrl (q + 36) = 112 ∧ pvat (q + 36) = ((-2147483648), 2147483647)) q (pvkl_lt h (by decide)) h
theorem pvowr_3 {q : Nat} (h : pvkl q = 3) : pvrl q = 3 := (by decide +kernel : ∀ q, q < pvNP → pvkl q = 3 → pvrl q = 3) q (pvkl_lt h (by decide)) h
theorem pvow_3_7 {q : Nat} (h : pvkl q = 3) : pvkl (q + 7) = 20 ∧ pvln (q + 7) = 4 ∧ pvrl (q + 7) = 113 ∧ pvat (q + 7) = (0, 9) := (by decide +kernel : ∀ q, q < pvNP → pvkl q = 3 → pvkl (q + 7) = 20 ∧ pvln (q + 7) = 4 ∧ pvrl (q + 7) = 113 ∧ pvat (q + 7) = (0, 9)) q (pvkl_lt h (by decide)) h
theorem pvowr_7 {q : Nat} (h : pvkl q = 7) : pvrl q = 7 := (by decide +kernel : ∀ q, q < pvNP → pvkl q = 7 → pvrl q = 7) q (pvkl_lt h (by decide)) h
theorem pvow_7_6 {q : Nat} (h : pvkl q = 7) : pvkl (q + 6) = 21 ∧ pvln (q + 6) = 60 ∧ pvrl (q + 6) = 114 ∧ pvat (q + 6) = ((-2147483648), 2147483647) := (by decide +kernel : ∀ q, q < pvNP → pvkl q = 7 → pvkl (q + 6) = 21 ∧ pvln (q + 6) = 60 ∧ pvrl (q + 6) = 114 ∧ pvat (q + 6) = ((-2147483648), 2147483647)) q (pvkl_lt h (by decide)) h
theorem pvelz_1 : ∀ i, i < 6 → pvkl (pvbs 1 + i) = 2 := by decide +kernel
theorem pvel_1 {q : Nat} {i : Int32} (hi : vp_in i 6) (e : q = pvbs 1 + i.toNatClampNeg) : pvkl q = 2 := by
  subst e
  exact pvelz_1 _ (Nat.not_le.mp fun u => hi (Or.inr u))
theorem pvelz_2 : ∀ i, i < 6 → pvkl (pvbs 2 + i) = 7 := by decide +kernel
theorem pvel_2 {q : Nat} {i : Int32} (hi : vp_in i 6) (e : q = pvbs 2 + i.toNatClampNeg) : pvkl q = 7 := by
  subst e
  exact pvelz_2 _ (Nat.not_le.mp fun u => hi (Or.inr u))
theorem pvelz_10 : ∀ i, i < 7 → pvkl (pvbs 10 + i) = 3 := by decide +kernel
theorem pvel_10 {q : Nat} {i : Int32} (hi : vp_in i 7) (e : q = pvbs 10 + i.toNatClampNeg) : pvkl q = 3 := by
  subst e
  exact pvelz_10 _ (Nat.not_le.mp fun u => hi (Or.inr u))
theorem pvelz_11 : ∀ i, i < 7 → pvkl (pvbs 11 + i) = 3 := by decide +kernel
theorem pvel_11 {q : Nat} {i : Int32} (hi : vp_in i 7) (e : q = pvbs 11 + i.toNatClampNeg) : pvkl q = 3 := by
  subst e
  exact pvelz_11 _ (Nat.not_le.mp fun u => hi (Or.inr u))
theorem pvhp_k0 : ∀ i, i < 9 → pvkl (15 + i) = 2 := by decide +kernel
theorem pvhp_k {q : Nat} {x : Int32} (h : 15 ≤ x.toInt ∧ x.toInt ≤ 23) (e : q = pvhp x) : pvkl q = 2 := by
  have h1 : (pvhp x : Int) = x.toInt := by
    unfold pvhp
    exact ztn x (by omega)
  have h2 := pvhp_k0 (q - 15) (by omega)
  rwa [show 15 + (q - 15) = q by omega] at h2
theorem pvhp_r0 : ∀ q, q < pvNP → pvkl q = 2 → 15 ≤ q ∧ q ≤ 23 := by decide +kernel
theorem pvhp_r {q : Nat} (h : pvkl q = 2) : 15 ≤ (nI q).toInt ∧ (nI q).toInt ≤ 23 := by
  have h1 := pvhp_r0 q (pvkl_lt h (by decide)) h
  rw [nI_toInt (by omega)]
  omega
