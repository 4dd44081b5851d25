/-! an F of the class's reader -/
def zOn9 (d k : Nat) (M Y : pvM) : Prop := zRq Y ∧ zKh M Y ∧ zOn d k (zs9 M) (zP9 M) (zP9 Y)
theorem zOn9_0 {d : Nat} {M : pvM} (hs : zRs M) (h : d ≤ 4) : zOn9 d 0 M M := ⟨hs.1, zKh_r M, zOn_0 h⟩
theorem zOn9_b {d k : Nat} {x : Int32} {M Y X : pvM} (h : zOn9 d k M Y) (hk : d + k < 4) (b : zRb (zTsg 33) (some (pvI x)) Y X) (c : ¬ x = 0) : zOn9 d (k + 1) M X := by
  obtain ⟨h1, h2, h3⟩ := h
  obtain ⟨a1, a2, a3⟩ := zRb_y b c
  obtain ⟨e1, e2⟩ := zTsg_y a3
  rw [zKh_s h2] at e1
  exact ⟨a1, zKh_t h2 a2, by rw [e2]; exact zOn_s h3 hk e1⟩
/-- and then no more -/
def zOm9 (d k : Nat) (M Y : pvM) : Prop := zOn9 d k M Y ∧ (d + k < 4 → ¬ zs9 M (zP9 Y) = 33)
theorem zOm9_n {d k : Nat} {x : Int32} {M Y X : pvM} (h : zOn9 d k M Y) (b : zRb (zTsg 33) (some (pvI x)) Y X) (c : x = 0) : zOm9 d k M X := by
  obtain ⟨h1, h2, h3⟩ := h
  obtain ⟨a1, a2, a3⟩ := zRb_n b c
  obtain ⟨e1, e2⟩ := zTsg_n a3
  rw [zKh_s h2] at e1
  exact ⟨⟨a1, zKh_t h2 a2, by rw [e2]; exact h3⟩, fun _ => by rw [e2]; exact e1⟩
theorem zOm9_f {d k : Nat} {M Y : pvM} (h : zOn9 d k M Y) (hk : ¬ d + k < 4) : zOm9 d k M Y := ⟨h, fun z => absurd z hk⟩
theorem zOm9_p {d k : Nat} {x : Int32} {M Y X : pvM} (h : zOm9 d k M Y) (b : zRb (zTsg 40) (some (pvI x)) Y X) (c : x = 0) : zOm9 d k M X ∧ (d + k < 4 → ¬ zs9 M (zP9 X) = 40) := by
  obtain ⟨⟨h1, h2, h3⟩, h5⟩ := h
  obtain ⟨a1, a2, a3⟩ := zRb_n b c
  obtain ⟨e1, e2⟩ := zTsg_n a3
  rw [zKh_s h2] at e1
  exact ⟨⟨⟨a1, zKh_t h2 a2, by rw [e2]; exact h3⟩, fun z => by rw [e2]; exact h5 z⟩, fun _ => by rw [e2]; exact e1⟩
/-- what is read ahead of its ! -/
def zOu (d k : Nat) (x : Int32) (M X : pvM) : Prop := (x = 0 ∧ zRq X ∧ zHx M X ∧ ∀ L : List Int32, zTO d (zs9 M) (zP9 M) false (zP9 X) L) ∨ (x = 1 ∧ ∃ L : List Int32, zAc M X L ∧ zP9 M + L.length + k ≤ zP9 X ∧ zTO d (zs9 M) (zP9 M) true (zP9 X) (L ++ (if k % 2 = 1 then [-1] else [])))
theorem zOt9 {d k : Nat} {x : Int32} {M Y X : pvM} (hs : zRs M) (h : zOm9 d k M Y) (hp : d + k < 4 → ¬ zs9 M (zP9 Y) = 40) (b : zRc zTt (some (pvI x)) Y X) (hx : x = 0 ∨ x = 1) : zOu d k x M X := by
  obtain ⟨⟨h1, h2, h3⟩, h5⟩ := h
  rcases hx with rfl | rfl
  · obtain ⟨a1, a2, L, a3, -⟩ := zRc_n b rfl
    rw [zKh_s h2] at a3
    exact Or.inl ⟨rfl, a1, zHx_t (zHx_k h2) a2, fun L => zO_f h3 (fun z => ⟨h5 z, hp z⟩) a3 L⟩
  · obtain ⟨a1, a2, L, a4, a3, a5⟩ := zRc_y b (by decide)
    have a5 := a5 rfl
    rw [zKh_s h2] at a3 a5
    have l := (zk_sem a3 (Nat.le_refl 1)).2
    have p := h3.1
    subst a5
    refine Or.inr ⟨rfl, _, zAc_c hs (zAc_k hs (zAc_0 hs) h1 h2 (by omega)) a1 a2 a4 (by show zP9 Y + 1 ≤ _; omega), ?_, ?_⟩
    · show zP9 M + 1 + k ≤ _
      omega
    · exact zO_t h3 a3
/-- a parenthesis is open -/
def zOp9 (d k : Nat) (M Y : pvM) : Prop := zRq Y ∧ zKh M Y ∧ zOp d k (zs9 M) (zP9 M) (zP9 Y)
theorem zOp9_y {d k : Nat} {x : Int32} {M Y X : pvM} (h : zOm9 d k M Y) (hk : d + k < 4) (b : zRb (zTsg 40) (some (pvI x)) Y X) (c : ¬ x = 0) : zOp9 d k M X := by
  obtain ⟨⟨h1, h2, h3⟩, h5⟩ := h
  obtain ⟨a1, a2, a3⟩ := zRb_y b c
  obtain ⟨e1, e2⟩ := zTsg_y a3
  rw [zKh_s h2] at e1
  exact ⟨a1, zKh_t h2 a2, by rw [e2]; exact zOp_i h3 hk e1⟩
theorem zOp9_n {d k n : Nat} {x : Int32} {M Y X : pvM} (h : zOp9 d k M Y) (hn : n = d + k + 1) (b : zRc (zTA n) (some (pvI x)) Y X) (c : x = 0) : zOu d k 0 M X := by
  obtain ⟨h1, h2, h3⟩ := h
  obtain ⟨a1, a2, L, a3⟩ := zRc_n b c
  rw [zKh_s h2] at a3
  exact Or.inl ⟨rfl, a1, zHx_t (zHx_k h2) a2, fun L => zO_pf h3 hn a3 L⟩
theorem zTA_l {d p q : Nat} {σ : Nat → Int32} {L : List Int32} (h : zTA d σ p true q L) : p + L.length ≤ q := by
  unfold zTA at h
  rw [if_pos rfl] at h
  exact h.2.1
theorem zTL_l {d p q : Nat} {σ : Nat → Int32} {L : List Int32} (h : zTT d σ p true q L) : p + L.length ≤ q := by
  unfold zTT at h
  rw [if_pos rfl] at h
  exact h.2.1
theorem zTO_l {d p q : Nat} {σ : Nat → Int32} {L : List Int32} (h : zTO d σ p true q L) : p + L.length ≤ q := by
  unfold zTO at h
  rw [if_pos rfl] at h
  exact h.2.1
theorem zOp9_c {d k n : Nat} {x y : Int32} {M Y Z X : pvM} (hs : zRs M) (h : zOp9 d k M Y) (hn : n = d + k + 1) (b : zRc (zTA n) (some (pvI x)) Y Z) (c : ¬ x = 0) (b2 : zRb (zTsg 41) (some (pvI y)) Z X) : (y = 0 → zOu d k 0 M X) ∧ (¬ y = 0 → zOu d k 1 M X) := by
  obtain ⟨h1, h2, h3⟩ := h
  obtain ⟨a1, a2, L, a4, a3⟩ := zRc_y b c
  have sz : zs9 Z = zs9 M := (zHx_s a2).trans (zKh_s h2)
  rw [zKh_s h2] at a3
  have l := zTA_l a3
  have p := h3.1
  refine ⟨fun e => ?_, fun e => ?_⟩
  · obtain ⟨c1, c2, c3⟩ := zRb_n b2 e
    obtain ⟨e1, e2⟩ := zTsg_n c3
    rw [sz] at e1
    exact Or.inl ⟨rfl, c1, zHx_t (zHx_t (zHx_k h2) a2) (zHx_k c2), fun L2 => by rw [e2]; exact zO_pn h3 hn a3 e1 L2⟩
  · obtain ⟨c1, c2, c3⟩ := zRb_y b2 e
    obtain ⟨e1, e2⟩ := zTsg_y c3
    rw [sz] at e1
    refine Or.inr ⟨rfl, L, zAc_k hs (zAc_c hs (zAc_k hs (zAc_0 hs) h1 h2 (by omega)) a1 a2 a4 l) c1 c2 (by omega), by omega, ?_⟩
    rw [e2]
    exact zO_py h3 hn a3 e1
theorem zOe_e {d k : Nat} {x : Int32} {M X : pvM} (h : zOu d k x M X) (hk : k % 2 = 0) : zRc (zTO d) (some (pvI x)) M X := by
  rcases h with ⟨rfl, h1, h2, h3⟩ | ⟨rfl, L, h1, h2, h3⟩
  · exact ⟨h1, h2, false, [], rfl, fun z => absurd z (by decide), h3 []⟩
  · rw [if_neg (by omega), List.append_nil] at h3
    exact ⟨h1.1, h1.2.1, true, L, rfl, fun _ => h1.2.2.1, h3⟩
theorem zOe_o {d k q : Nat} {x : Int32} {M Y X : pvM} (hs : zRs M) (h : zOu d k x M Y) (hk : k % 2 = 1) (e : q = zq9 Y) (d1 : zSs q (-1) Y X) : zRc (zTO d) (some (pvI x)) M X := by
  rcases h with ⟨rfl, h1, h2, h3⟩ | ⟨rfl, L, h1, h2, h3⟩
  · obtain ⟨x1, x2, x3⟩ := zSs_x (by rw [zHx_q h2]; exact hs.2.1) e d1
    obtain ⟨r1, r2⟩ := zRq_s h1 x1 x2 x3
    exact ⟨r1, zHx_t h2 x1, false, [], rfl, fun z => absurd z (by decide), by rw [r2]; exact h3 []⟩
  · obtain ⟨g1, g2⟩ := zAc_s hs h1 e d1 (by omega)
    rw [if_pos hk] at h3
    exact ⟨g1.1, g1.2.1, true, _, rfl, fun _ => g1.2.2.1, by rw [g2]; exact h3⟩
/-! a T -/
def zLT9 (d n : Nat) (M Y : pvM) : Prop := ∃ L : List Int32, zAc M Y L ∧ zLT d n (zs9 M) (zP9 M) (zP9 Y) L
theorem zLT9_0 {d : Nat} {M : pvM} (hs : zRs M) : zLT9 d (Int32.toNatClampNeg 0) M M := ⟨[], zAc_0 hs, Or.inl ⟨rfl, rfl, rfl⟩⟩
theorem zLT9_n {d n n' : Nat} {M X : pvM} (e : n' = n) (h : zLT9 d n M X) : zLT9 d n' M X := e ▸ h
theorem zLT9_x {d n : Nat} {M Y : pvM} (h : zLT9 d n M Y) (hn : 100 ≤ n) : False := by
  obtain ⟨L, a, b⟩ := h
  have h1 := (zLT_b b).1
  have h2 := zP9_i a.1
  have h3 := a.1.1
  omega
theorem zLT9_rs {d n : Nat} {M Y : pvM} (hs : zRs M) (h : zLT9 d n M Y) : zRs Y := by
  obtain ⟨L, a, b⟩ := h
  exact zAc_rs hs a
def zLO9 (d n : Nat) (M Y : pvM) : Prop := ∃ L : List Int32, zAc M Y L ∧ zLO d n (zs9 M) (zP9 M) (zP9 Y) L
theorem zT9_f {d n : Nat} {x : Int32} {M Y X : pvM} (h : zLT9 d n M Y) (b : zRc (zTO d) (some (pvI x)) Y X) (c : x = 0) : zRc (zTT d) (some (pvI 0)) M X := by
  obtain ⟨L, a, h⟩ := h
  obtain ⟨a1, a2, L1, a3⟩ := zRc_n b c
  rw [zHx_s a.2.1] at a3
  exact ⟨a1, zHx_t a.2.1 a2, false, [], rfl, fun z => absurd z (by decide), zT_f h a3 []⟩
theorem zT9_o {d n : Nat} {x : Int32} {M Y X : pvM} (hs : zRs M) (h : zLT9 d n M Y) (b : zRc (zTO d) (some (pvI x)) Y X) (c : ¬ x = 0) (hn : n = 0) : zLO9 d n M X := by
  obtain ⟨L, a, h⟩ := h
  obtain ⟨a1, a2, L1, a4, a3⟩ := zRc_y b c
  have l := zTO_l a3
  rw [zHx_s a.2.1] at a3
  have k := zT_o h a3
  rw [if_pos hn] at k
  have e : L = [] := by
    rcases h with ⟨_, _, z⟩ | ⟨z, _⟩
    · exact z
    · omega
  subst e
  exact ⟨L1, zAc_c hs a a1 a2 a4 l, k⟩
theorem zT9_p {d n q : Nat} {x : Int32} {M Y Z X : pvM} (hs : zRs M) (h : zLT9 d n M Y) (b : zRc (zTO d) (some (pvI x)) Y Z) (c : ¬ x = 0) (hn : 0 < n) (e : q = zq9 Z) (d1 : zSs q (-2) Z X) : zLO9 d n M X := by
  obtain ⟨L, a, h⟩ := h
  obtain ⟨a1, a2, L1, a4, a3⟩ := zRc_y b c
  have l := zTO_l a3
  rw [zHx_s a.2.1] at a3
  have k := zT_o h a3
  rw [if_neg (by omega)] at k
  have hb := (zLT_b h).2.2 hn
  obtain ⟨g1, g2⟩ := zAc_s hs (zAc_c hs a a1 a2 a4 l) e d1 (by rw [List.length_append]; omega)
  exact ⟨_, g1, by rw [g2]; exact k⟩
theorem zT9_e {d n : Nat} {y : Int32} {M Y X : pvM} (hs : zRs M) (h : zLO9 d n M Y) (b : zRb (zTsg 38) (some (pvI y)) Y X) (c : y = 0) : zRc (zTT d) (some (pvI 1)) M X := by
  obtain ⟨L, a, h⟩ := h
  obtain ⟨a1, a2, a3⟩ := zRb_n b c
  obtain ⟨e1, e2⟩ := zTsg_n a3
  rw [zHx_s a.2.1] at e1
  have g := zAc_k hs a a1 a2 (by omega)
  exact ⟨a1, g.2.1, true, L, rfl, fun _ => g.2.2.1, by rw [e2]; exact zT_e h e1⟩
theorem zT9_s {d n : Nat} {y : Int32} {M Y X : pvM} (hs : zRs M) (h : zLO9 d n M Y) (b : zRb (zTsg 38) (some (pvI y)) Y X) (c : ¬ y = 0) : zLT9 d (n + 1) M X := by
  obtain ⟨L, a, h⟩ := h
  obtain ⟨a1, a2, a3⟩ := zRb_y b c
  obtain ⟨e1, e2⟩ := zTsg_y a3
  rw [zHx_s a.2.1] at e1
  exact ⟨L, zAc_k hs a a1 a2 (by omega), by rw [e2]; exact zT_s h e1⟩
/-! an E -/
def zLA9 (d n : Nat) (M Y : pvM) : Prop := ∃ L : List Int32, zAc M Y L ∧ zMA d n (zs9 M) (zP9 M) (zP9 Y) L
theorem zLA9_0 {d : Nat} {M : pvM} (hs : zRs M) : zLA9 d (Int32.toNatClampNeg 0) M M := ⟨[], zAc_0 hs, Or.inl ⟨rfl, rfl, rfl⟩⟩
theorem zLA9_n {d n n' : Nat} {M X : pvM} (e : n' = n) (h : zLA9 d n M X) : zLA9 d n' M X := e ▸ h
theorem zLA9_x {d n : Nat} {M Y : pvM} (h : zLA9 d n M Y) (hn : 100 ≤ n) : False := by
  obtain ⟨L, a, b⟩ := h
  have h1 := (zMA_b b).1
  have h2 := zP9_i a.1
  have h3 := a.1.1
  omega
theorem zLA9_rs {d n : Nat} {M Y : pvM} (hs : zRs M) (h : zLA9 d n M Y) : zRs Y := by
  obtain ⟨L, a, b⟩ := h
  exact zAc_rs hs a
def zLB9 (d n : Nat) (M Y : pvM) : Prop := ∃ L : List Int32, zAc M Y L ∧ zMB d n (zs9 M) (zP9 M) (zP9 Y) L
theorem zA9_f {d n : Nat} {x : Int32} {M Y X : pvM} (h : zLA9 d n M Y) (b : zRc (zTT d) (some (pvI x)) Y X) (c : x = 0) : zRc (zTA d) (some (pvI 0)) M X := by
  obtain ⟨L, a, h⟩ := h
  obtain ⟨a1, a2, L1, a3⟩ := zRc_n b c
  rw [zHx_s a.2.1] at a3
  exact ⟨a1, zHx_t a.2.1 a2, false, [], rfl, fun z => absurd z (by decide), zA_f h a3 []⟩
theorem zA9_o {d n : Nat} {x : Int32} {M Y X : pvM} (hs : zRs M) (h : zLA9 d n M Y) (b : zRc (zTT d) (some (pvI x)) Y X) (c : ¬ x = 0) (hn : n = 0) : zLB9 d n M X := by
  obtain ⟨L, a, h⟩ := h
  obtain ⟨a1, a2, L1, a4, a3⟩ := zRc_y b c
  have l := zTL_l a3
  rw [zHx_s a.2.1] at a3
  have k := zA_o h a3
  rw [if_pos hn] at k
  have e : L = [] := by
    rcases h with ⟨_, _, z⟩ | ⟨z, _⟩
    · exact z
    · omega
  subst e
  exact ⟨L1, zAc_c hs a a1 a2 a4 l, k⟩
theorem zA9_p {d n q : Nat} {x : Int32} {M Y Z X : pvM} (hs : zRs M) (h : zLA9 d n M Y) (b : zRc (zTT d) (some (pvI x)) Y Z) (c : ¬ x = 0) (hn : 0 < n) (e : q = zq9 Z) (d1 : zSs q (-3) Z X) : zLB9 d n M X := by
  obtain ⟨L, a, h⟩ := h
  obtain ⟨a1, a2, L1, a4, a3⟩ := zRc_y b c
  have l := zTL_l a3
  rw [zHx_s a.2.1] at a3
  have k := zA_o h a3
  rw [if_neg (by omega)] at k
  have hb := (zMA_b h).2.2 hn
  obtain ⟨g1, g2⟩ := zAc_s hs (zAc_c hs a a1 a2 a4 l) e d1 (by rw [List.length_append]; omega)
  exact ⟨_, g1, by rw [g2]; exact k⟩
theorem zA9_e {d n : Nat} {y : Int32} {M Y X : pvM} (hs : zRs M) (h : zLB9 d n M Y) (b : zRb (zTsg 124) (some (pvI y)) Y X) (c : y = 0) : zRc (zTA d) (some (pvI 1)) M X := by
  obtain ⟨L, a, h⟩ := h
  obtain ⟨a1, a2, a3⟩ := zRb_n b c
  obtain ⟨e1, e2⟩ := zTsg_n a3
  rw [zHx_s a.2.1] at e1
  have g := zAc_k hs a a1 a2 (by omega)
  exact ⟨a1, g.2.1, true, L, rfl, fun _ => g.2.2.1, by rw [e2]; exact zA_e h e1⟩
theorem zA9_s {d n : Nat} {y : Int32} {M Y X : pvM} (hs : zRs M) (h : zLB9 d n M Y) (b : zRb (zTsg 124) (some (pvI y)) Y X) (c : ¬ y = 0) : zLA9 d (n + 1) M X := by
  obtain ⟨L, a, h⟩ := h
  obtain ⟨a1, a2, a3⟩ := zRb_y b c
  obtain ⟨e1, e2⟩ := zTsg_y a3
  rw [zHx_s a.2.1] at e1
  exact ⟨L, zAc_k hs a a1 a2 (by omega), by rw [e2]; exact zA_s h e1⟩
