/-! the simulation -/
theorem pvNJ {j pc : Nat} {o : pvO} (h : (pc, o) ∈ pvdom j) : j < pvynL.length := by
  apply Nat.not_le.mp
  intro u
  have e : pvdom j = [] := by
    unfold pvdom
    rw [List.getD_eq_getElem?_getD, List.getElem?_eq_none (by exact u)]
    rfl
  rw [e] at h
  cases h
/-- a run gives what is wanted of its state -/
def pvSim (n : Nat) : Prop := ∀ (j d : Nat) (S : pvS) (r : Option pvV) (M' : pvM), pvEv n j d S r M' → ∀ (p : Program) (l : Launch) (e : Env) (s : State) (m : MethodId) (args : Array Value) (below : List Frame) (meth : Method) (c : Code) (A : Nat → Prop) (D : va_G) (y : Nat → ClassId) (ad : Nat → Nat), pvCx j p s m args meth c A D y ad →
  pvG p l e (pvrm j d) s m args below meth c (MQ below (pvQ D y ad (pvkd j) r M' A) args s 0 0 A) (pvml j) D y ad A S
theorem pv_con1 {n : Nat} (ih : pvSim n) {j d : Nat} {as : List pvV} {M : pvM} {r : Option pvV} {M' : pvM} (hj : j < pvynL.length) (hl : (pvsl as).length ≤ pvml j) (h : pvEv n j d (0, pvent (pvml j) as, [], M) r M') (l : Launch) (D : va_G) (y : Nat → ClassId) (ad : Nat → Nat) (had : pvadE y ad) :
    zM l D y (pvyn j) (Cond.code (pvyn j) (pvcc j) (pvml j) (pvrt j) :: zT) (pvrm j d) (as.map (pvt ad)) (mkW y ad M) (pvQ D y ad (pvkd j) r M') := by
  refine zent (cc := pvcc j) (maxL := pvml j) (ret := pvrt j) (pvpn j hj) (by rw [pvlgs]; exact hl) ?_
  intro p e s m below meth c A H locs ls hx hb hml hr ht hown hlocks hin hA hK hE hS hW hl
  have hl2 : lv_has ls (pvml j) (pvlv ad 0 (pvent (pvml j) as)) := by
    unfold pvent
    rw [pvlv_ent]
    exact hl
  exact ih j d _ r M' h p l e s m _ below meth c A D y ad ⟨hx, hb, hml, hr, ht, by rw [pvoC j hj]; exact hown, hlocks, hA, hK, hE, had⟩ H locs ls hW hS hl2
theorem pvW_ids {y : Nat → ClassId} {ad : Nat → Nat} {M : pvM} : (List.range pvNP).map (fun i => (mkW y ad M)[i]?) = (mkW y ad M).map some := by
  have h := zrange (mkW y ad M)
  rwa [pvW_len] at h
theorem pvcatl (ad : Nat → Nat) {st : List pvV} (h : st.length ≤ 4) : ((st.map (pvt ad)).map fun v => v.category).sum ≤ 8 := by
  have := pvcs ad st
  omega
section PV
variable {p : Program} {l : Launch} {e : Env} {s : State} {m : MethodId} {args : Array Value} {below : List Frame} {meth : Method} {c : Code} {Q : State → Prop} {D : va_G} {y : Nat → ClassId} {ad : Nat → Nat} {A : Nat → Prop}
theorem pvL_call {n j d : Nat} {S : pvS} {a b cx dd nx : Nat} {v : Int32} (ih : pvSim n) (hc : pvCx j p s m args meth c A D y ad) (hk : pvchk j S.1 (80, a, b, cx, dd, v, nx) = true) {r1 : Option pvV} {M1 : pvM}
    (h1 : (S.2.2.1.drop cx).length ≤ 4) (h2 : cx ≤ S.2.2.1.length) (h3 : dd % 2 = 1 → pvrcv b (S.2.2.1.take cx).reverse) (h4 : dd / 2 ≤ d) (h5 : (pvsl (S.2.2.1.take cx).reverse).length ≤ pvml b)
    (h6 : pvEv n b (d - dd / 2) (0, pvent (pvml b) (S.2.2.1.take cx).reverse, [], S.2.2.2) r1 M1) (k : pvG p l e (pvrm j d) s m args below meth c Q (pvml j) D y ad A (nx, S.2.1, pvpush r1 (S.2.2.1.drop cx), M1)) : pvG p l e (pvrm j d) s m args below meth c Q (pvml j) D y ad A S := by
  obtain ⟨hx, hb, hml, hr, hts, hown, hlocks, hA, hK, hE, had⟩ := hc
  obtain ⟨pc, lo, st, M⟩ := S
  intro H locs ls hW hS hl
  simp only [pvchk, pvdec, Bool.and_eq_true, Bool.or_eq_true, decide_eq_true_eq] at hk
  obtain ⟨⟨⟨⟨⟨⟨⟨hdg, hnx⟩, hca⟩, hcc⟩, hf⟩, hlo⟩, hci⟩, hbj⟩ := hk
  subst hnx
  obtain ⟨g1, g2, g3, g4, g5⟩ := pvCa_ok _ hca
  have hM := pv_con1 ih hbj h5 h6 l D y ad had
  have hR1 : (pvrm b (d - dd / 2)).frames + 1 ≤ (pvrm j d).frames := by
    have h8 : (d - dd / 2) * 3 + dd / 2 * 3 = d * 3 := by omega
    show pvfr b + (d - dd / 2) * 3 + 1 ≤ pvfr j + d * 3
    have hf : pvfr b + 1 ≤ pvfr j + dd / 2 * 3 := hf
    omega
  have hR2 : 8 + (pvml b + 11) + (pvrm b (d - dd / 2)).locals ≤ (pvrm j d).locals := by
    have h8 : (d - dd / 2) * 67 + dd / 2 * 67 = d * 67 := by omega
    show 8 + (pvml b + 11) + (pvlc b + (d - dd / 2) * 67) ≤ pvlc j + d * 67
    have hlo : 8 + (pvml b + 11) + pvlc b ≤ pvlc j + dd / 2 * 67 := hlo
    omega
  have hst : st.map (pvt ad) = ((st.take cx).reverse.map (pvt ad)).reverse ++ (st.drop cx).map (pvt ad) := by
    rw [← List.map_reverse, List.reverse_reverse, ← List.map_append, List.take_append_drop]
  have hroom := pvcatl ad h1
  have hS0 : CallFix p m c (pvcc j) (pvml j) s args zT (pvcn (pvo j)) := ⟨hx, hb, hml, hown, hts⟩
  have hlen0 : (st.take cx).reverse.length = cx := by
    rw [List.length_reverse, List.length_take]
    exact Nat.min_eq_left h2
  have key : ∀ st0 : List Value, st0 = st.map (pvt ad) → va_Run p l e (pvrm j d) s m args below meth c H locs 0 0 0 0 (F0 m pc ls st0) ((st.drop cx).map (pvt ad)) (pvQ D y ad (pvkd b) r1 M1 (va_A (mkW y ad M) H.size) ((st.take cx).reverse.map (pvt ad)).toArray) (va_A (mkW y ad M) H.size) := by
    intro st0 hst0
    subst hst0
    by_cases hv : dd % 2 = 1
    · rw [if_pos hv] at g5 hdg
      have hrc := h3 hv
      cases has : (st.take cx).reverse with
      | nil => rw [has] at hrc; exact hrc.elim
      | cons v0 As =>
        rcases v0 with _ | _ | q
        · have hrc : pvrcv b (st.take cx).reverse := hrc
          rw [has] at hrc; exact (hrc : False).elim
        · have hrc : pvrcv b (st.take cx).reverse := hrc
          rw [has] at hrc; exact (hrc : False).elim
        · have hrc : pvrcv b (st.take cx).reverse := hrc
          rw [has] at hrc
          have hq : pvkl q = pvci b := hrc
          have hM : zM l D y (pvyn b) (Cond.code (pvyn b) (pvcc b) (pvml b) (pvrt b) :: zT) (pvrm b (d - dd / 2)) ((st.take cx).reverse.map (pvt ad)) (mkW y ad M) (pvQ D y ad (pvkd b) r1 M1) := hM
          rw [has] at hM hst hlen0
          have hc20 : pvci b < 20 := by
            rcases hci with h | h
            · omega
            · exact h
          have hcc2 := pvcC b hbj hc20
          cases hcq : vwCl[pvci b]? with
          | none => rw [hcq] at hcc2; cases hcc2
          | some cq =>
            rw [hcq] at hcc2
            have hCn : cq.1 = (pvyn b).cls := Option.some.inj hcc2
            exact zrunV (As := As.map (pvt ad)) (rest := (st.drop cx).map (pvt ad)) hS0 hM (cwV (cx - dd % 2) hts (zgV g1 g5.1 g5.2 g3 g2) rfl rfl rfl ⟨rfl, g4⟩ ⟨hR1, hR2⟩) hK hE hS hA hW (List.range pvNP) (znd _ List.nodup_range) pvW_ids q (pvW_at hq (by omega) (pvce_o hq hc20)) hcq hCn (by rw [List.length_map]; simp only [List.length_cons] at hlen0; omega) hl.1 (by rw [hst, List.map_cons, List.reverse_cons, List.append_assoc]; rfl) hroom hdg (Nat.zero_le _) (Nat.zero_le _)
    · rw [if_neg hv] at g5 hdg
      exact zrunS (As := (st.take cx).reverse.map (pvt ad)) (rest := (st.drop cx).map (pvt ad)) hS0 hM (va_cwS (cx - dd % 2) hts (zgS g1 g5 g3 g2) rfl rfl rfl g4 ⟨hR1, hR2⟩) hK hE hS hA hW (List.range pvNP) (znd _ List.nodup_range) pvW_ids (by rw [List.length_map]; omega) hl.1 hst hroom hdg (Nat.zero_le _) (Nat.zero_le _)
  have key := key _ rfl
  revert key
  match hkd : pvkd b with
  | 0 =>
    intro key
    exact zgo_v (wr := []) key hS hA hW (List.range pvNP) [] pvW_ids rfl rfl rfl (fun u H1 locs1 hw hW1 hS1 => by
      have hw : r1 = none := hw
      subst hw
      exact k H1 locs1 ls hW1 hS1 hl)
  | 1 =>
    intro key
    exact zgo_i (wr := []) key hS hA hW (List.range pvNP) [] pvW_ids rfl rfl rfl (fun r u H1 locs1 hw hW1 hS1 => by
      have hw : r1 = some (pvI r) := hw
      subst hw
      exact k H1 locs1 ls hW1 hS1 hl)
  | 2 =>
    intro key
    exact zgo_l (wr := []) key hS hA hW (List.range pvNP) [] pvW_ids rfl rfl rfl (fun r u H1 locs1 hw hW1 hS1 => by
      have hw : r1 = some (pvJ r) := hw
      subst hw
      exact k H1 locs1 ls hW1 hS1 hl)
  | _ + 3 =>
    intro key
    exact zgo_r (wr := []) key hS hA hW (List.range pvNP) [] pvW_ids rfl rfl rfl (fun r u H1 locs1 hw hW1 hS1 => by
      obtain ⟨q, hw, hq⟩ := hw
      subst hw
      subst hq
      exact k H1 locs1 ls hW1 hS1 hl)
theorem pvL_ret {j d : Nat} {S : pvS} {a b cx dd nx : Nat} {v : Int32} {r : Option pvV} {M' : pvM} (hc : pvCx j p s m args meth c A D y ad) (hk : pvchk j S.1 (90, a, b, cx, dd, v, nx) = true) (h : pvret b S r M') :
    pvG p l e (pvrm j d) s m args below meth c (MQ below (pvQ D y ad (pvkd j) r M' A) args s 0 0 A) (pvml j) D y ad A S := by
  obtain ⟨hx, hb, hml, hr, hts, hown, hlocks, hA, hK, hE, had⟩ := hc
  obtain ⟨pc, lo, st, M⟩ := S
  intro H locs ls hW hS hl
  simp only [pvchk, pvdec, pvrk, Bool.and_eq_true, Bool.or_eq_true, decide_eq_true_eq] at hk
  obtain ⟨hdg, hk⟩ := hk
  rcases hk with (((⟨⟨rfl, e1⟩, e2⟩ | ⟨⟨rfl, e1⟩, e2⟩) | ⟨⟨rfl, e1⟩, e2⟩) | ⟨⟨rfl, e1⟩, e2⟩) | ⟨⟨rfl, e1⟩, e2⟩
  · rcases st with _ | ⟨x, st⟩
    · obtain ⟨rfl, rfl⟩ := h
      rw [e2]
      rw [e1] at hr
      exact zret_v (S := Unit) hx hb hr hlocks hS () rfl hW (Nat.le_refl _) (Nat.le_refl _) hdg
    · exact (h : False).elim
  · rcases st with _ | ⟨x | _ | _, _ | ⟨_, _⟩⟩
    case cons.inl.nil =>
      obtain ⟨rfl, rfl⟩ := h
      rw [e2]
      rw [e1] at hr
      exact zret_i (S := Unit) hx hb hr hlocks hS () rfl hW (Nat.le_refl _) (Nat.le_refl _) hdg
    all_goals exact (h : False).elim
  · rcases st with _ | ⟨x | _ | _, _ | ⟨_, _⟩⟩
    case cons.inl.nil =>
      obtain ⟨h01, rfl, rfl⟩ := h
      rw [e2]
      rw [e1] at hr
      exact zret_z (S := Unit) hx hb hr hlocks hS () (by rcases h01 with rfl | rfl <;> rfl) rfl hW (Nat.le_refl _) (Nat.le_refl _) hdg
    all_goals exact (h : False).elim
  · rcases st with _ | ⟨_ | x | _, _ | ⟨_, _⟩⟩
    case cons.inr.inl.nil =>
      obtain ⟨rfl, rfl⟩ := h
      rw [e2]
      rw [e1] at hr
      exact zret_l (S := Unit) hx hb hr hlocks hS () rfl hW (Nat.le_refl _) (Nat.le_refl _) hdg
    all_goals exact (h : False).elim
  · rcases st with _ | ⟨_ | _ | q, _ | ⟨_, _⟩⟩
    case cons.inr.inr.nil =>
      obtain ⟨rfl, rfl⟩ := h
      rw [e2]
      cases hrt : pvrt j with
      | none => rw [hrt] at e1; cases e1
      | some ty =>
        rw [hrt] at e1 hr
        cases ty
        case object C => exact zret_r (S := Unit) hx hb hr hlocks hS () ⟨q, rfl, rfl⟩ hW (Nat.le_refl _) (Nat.le_refl _) hdg
        all_goals cases e1
    all_goals exact (h : False).elim
end PV
