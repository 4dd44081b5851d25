/-! Strings, and the whole -/
theorem pvsx_cases {a b : Nat} (h : (a, b) ∈ pvSx) : (a = 48 ∧ b = 1) ∨ (a = 114 ∧ b = 3) ∨ (a = 108 ∧ b = 0) ∨ (a = 110 ∧ b = 2) := by
  simp only [pvSx, List.mem_cons, Prod.mk.injEq, List.not_mem_nil, or_false] at h
  exact h
section PV
variable {p : Program} {l : Launch} {e : Env} {s : State} {m : MethodId} {args : Array Value} {below : List Frame} {meth : Method} {c : Code} {Q : State → Prop} {D : va_G} {y : Nat → ClassId} {ad : Nat → Nat} {A : Nat → Prop}
theorem pvL_sx {j d : Nat} {S : pvS} {a b cx dd nx : Nat} {v : Int32} (hc : pvCx j p s m args meth c A D y ad) (hk : pvchk j S.1 (81, a, b, cx, dd, v, nx) = true)
    (k : pvsx b nx S (fun S' => pvG p l e (pvrm j d) s m args below meth c Q (pvml j) D y ad A S')) : pvG p l e (pvrm j d) s m args below meth c Q (pvml j) D y ad A S := by
  obtain ⟨hx, hb, hml, hr, hts, hown, hlocks, hA, hK, hE, had⟩ := hc
  obtain ⟨pc, lo, st, M⟩ := S
  intro H locs ls hW hS hl
  simp only [pvchk, pvdec, Bool.and_eq_true, decide_eq_true_eq] at hk
  obtain ⟨⟨⟨⟨⟨hdg, hnx⟩, ho⟩, hab⟩, hf⟩, hlo⟩ := hk
  subst hnx
  rw [ho] at hown
  have hS0 : CallFix p m c (pvcc j) (pvml j) s args zT RX5 := ⟨hx, hb, hml, hown, hts⟩
  have hR1 : pvrmX.frames + 1 ≤ (pvrm j d).frames := by
    show 12 + 1 ≤ pvfr j + d * 3
    omega
  have hR2 : ∀ n, n ≤ 2 → 8 + (n + 11) + pvrmX.locals ≤ (pvrm j d).locals := by
    intro n hn
    show 8 + (n + 11) + 370 ≤ pvlc j + d * 67
    omega
  rcases pvsx_cases hab with ⟨rfl, rfl⟩ | ⟨rfl, rfl⟩ | ⟨rfl, rfl⟩ | ⟨rfl, rfl⟩
  · rcases st with _ | ⟨_ | _ | q, r⟩
    case cons.inr.inr =>
      obtain ⟨q1, q2, h1, k⟩ := k
      have hroom := pvcatl ad h1
      have hq : y (10 + (q - 1010)) = ad q := by
        rw [← had, show 1000 + (10 + (q - 1010)) = q by omega]
      refine zgo0_i (zrunVS (As := []) (rest := r.map (pvt ad)) hS0 (pvX1 l D y (q - 1010) (by omega)) (cwV 0 hts (zgV zm_485 zm_486 zm_487 zm_488 zm_489) rfl rfl rfl (by decide +kernel) ⟨hR1, hR2 1 (by decide)⟩) hK hE hS hA hW [] rfl rfl (q - 1010) (by omega) rfl rfl hl.1 (by rw [hq]; rfl) hroom hdg (Nat.zero_le _) (Nat.zero_le _)) hS hA hW (fun r1 u H1 locs1 hw hW1 hS1 => ?_)
      have hw : r1 = if zsl.getD (q - 1010) 0 = 0 then 1 else 0 := hw
      refine ztop (congrArg Value.int hw) ?_
      exact k H1 locs1 ls hW1 hS1 hl
    all_goals exact (k : False).elim
  · rcases st with _ | ⟨x | _ | _, _ | ⟨_ | _ | q, r⟩⟩
    case cons.inl.cons.inr.inr =>
      obtain ⟨q1, q2, h1, x0, x1, k⟩ := k
      have hroom := pvcatl ad h1
      have hq : y (10 + (q - 1010)) = ad q := by
        rw [← had, show 1000 + (10 + (q - 1010)) = q by omega]
      refine zgo0_i (zrunVS (As := [.int x]) (rest := r.map (pvt ad)) hS0 (pvX3 l D y (q - 1010) (by omega) x x0 x1) (cwV 1 hts (zgV zm_574 zm_575 zm_576 zm_488 zm_577) rfl rfl rfl (by decide +kernel) ⟨hR1, hR2 2 (by decide)⟩) hK hE hS hA hW [] rfl rfl (q - 1010) (by omega) rfl rfl hl.1 (by rw [hq]; rfl) hroom hdg (Nat.zero_le _) (Nat.zero_le _)) hS hA hW (fun r1 u H1 locs1 hw hW1 hS1 => ?_)
      have hw : r1 = pvixF x (zsb.getD (q - 1010) []) 0 := hw
      refine ztop (congrArg Value.int hw) ?_
      exact k H1 locs1 ls hW1 hS1 hl
    all_goals exact (k : False).elim
  · rcases st with _ | ⟨_ | _ | q, r⟩
    case cons.inr.inr =>
      obtain ⟨q1, q2, h1, k⟩ := k
      have hroom := pvcatl ad h1
      have hq : y (10 + (q - 1010)) = ad q := by
        rw [← had, show 1000 + (10 + (q - 1010)) = q by omega]
      refine zgo0_i (zrunVS (As := []) (rest := r.map (pvt ad)) hS0 (pvX0 l D y (q - 1010) (by omega)) (cwV 0 hts (zgV zm_495 zm_496 zm_497 zm_488 zm_498) rfl rfl rfl (by decide +kernel) ⟨hR1, hR2 1 (by decide)⟩) hK hE hS hA hW [] rfl rfl (q - 1010) (by omega) rfl rfl hl.1 (by rw [hq]; rfl) hroom hdg (Nat.zero_le _) (Nat.zero_le _)) hS hA hW (fun r1 u H1 locs1 hw hW1 hS1 => ?_)
      have hw : r1 = nI (zsl.getD (q - 1010) 0) := hw
      refine ztop (congrArg Value.int hw) ?_
      exact k H1 locs1 ls hW1 hS1 hl
    all_goals exact (k : False).elim
  · rcases st with _ | ⟨x | _ | _, _ | ⟨_ | _ | q, r⟩⟩
    case cons.inl.cons.inr.inr =>
      obtain ⟨q1, q2, h1, hin, k⟩ := k
      have hroom := pvcatl ad h1
      have hq : y (10 + (q - 1010)) = ad q := by
        rw [← had, show 1000 + (10 + (q - 1010)) = q by omega]
      refine zgo0_i (zrunVS (As := [.int x]) (rest := r.map (pvt ad)) hS0 (pvX2 l D y (q - 1010) (by omega) x hin) (cwV 1 hts (zgV zm_505 zm_506 zm_507 zm_488 zm_508) rfl rfl rfl (by decide +kernel) ⟨hR1, hR2 2 (by decide)⟩) hK hE hS hA hW [] rfl rfl (q - 1010) (by omega) rfl rfl hl.1 (by rw [hq]; rfl) hroom hdg (Nat.zero_le _) (Nat.zero_le _)) hS hA hW (fun r1 u H1 locs1 hw hW1 hS1 => ?_)
      have hw : r1 = (zsb.getD (q - 1010) []).getD x.toNatClampNeg 0 := hw
      refine ztop (congrArg Value.int hw) ?_
      exact k H1 locs1 ls hW1 hS1 hl
    all_goals exact (k : False).elim
end PV
theorem pvsx_imp {b nx : Nat} {S : pvS} {F G : pvS → Prop} (h : pvsx b nx S F) (hi : ∀ S', F S' → G S') : pvsx b nx S G := by
  obtain ⟨pc, lo, st, M⟩ := S
  match b with
  | 0 =>
    rcases st with _ | ⟨_ | _ | q, r⟩
    case cons.inr.inr => exact ⟨h.1, h.2.1, h.2.2.1, hi _ h.2.2.2⟩
    all_goals exact (h : False).elim
  | 1 =>
    rcases st with _ | ⟨_ | _ | q, r⟩
    case cons.inr.inr => exact ⟨h.1, h.2.1, h.2.2.1, hi _ h.2.2.2⟩
    all_goals exact (h : False).elim
  | 2 =>
    rcases st with _ | ⟨x | _ | _, _ | ⟨_ | _ | q, r⟩⟩
    case cons.inl.cons.inr.inr => exact ⟨h.1, h.2.1, h.2.2.1, h.2.2.2.1, hi _ h.2.2.2.2⟩
    all_goals exact (h : False).elim
  | 3 =>
    rcases st with _ | ⟨x | _ | _, _ | ⟨_ | _ | q, r⟩⟩
    case cons.inl.cons.inr.inr => exact ⟨h.1, h.2.1, h.2.2.1, h.2.2.2.1, h.2.2.2.2.1, hi _ h.2.2.2.2.2⟩
    all_goals exact (h : False).elim
  | b + 4 => exact (h : False).elim
theorem pv_sim (htab : pvTab) : ∀ n, pvSim n
  | 0 => fun _ _ _ _ _ h => h.elim
  | n + 1 => fun j d S r M' h p l e s m args below meth c A D y ad hc => by
    have ih := pv_sim htab n
    obtain ⟨op, a, b, cx, dd, v, nx, ho⟩ : ∃ op a b cx dd v nx, pvlook (pvdom j) S.1 = (op, a, b, cx, dd, v, nx) := ⟨_, _, _, _, _, _, _, rfl⟩
    have hk : op < 99 → pvchk j S.1 (op, a, b, cx, dd, v, nx) = true := by
      intro hop
      have h1 := pvlook_mem (pvdom j) S.1 (by rw [ho]; exact hop)
      rw [ho] at h1
      exact htab j S.1 _ h1
    rcases pvE h ho with ⟨h1, h2, h3⟩ | ⟨rfl, h1⟩ | ⟨rfl, h1⟩ | ⟨rfl, h1⟩ | ⟨rfl, r1, M1, g1, g2, g3, g4, g5, g6, g7⟩ | ⟨rfl, h1⟩ | ⟨rfl, h1⟩
    · exact pvL_plain hc (hk (by omega)) h1 h2 (ih j d _ r M' h3 p l e s m args below meth c A D y ad hc)
    · have hk := hk (by decide)
      simp only [pvchk, pvdec, Bool.and_eq_true, decide_eq_true_eq] at hk
      exact pvL_if hc.1 hc.2.1 hk.1 hk.2 (pvif_imp h1 fun S' hS' => ih j d _ r M' hS' p l e s m args below meth c A D y ad hc)
    · have hk := hk (by decide)
      simp only [pvchk, pvdec, Bool.and_eq_true, decide_eq_true_eq] at hk
      exact pvL_ic hc.1 hc.2.1 hk.1 hk.2 (pvic_imp h1 fun S' hS' => ih j d _ r M' hS' p l e s m args below meth c A D y ad hc)
    · exact pvL_sw hc.1 hc.2.1 (hk (by decide)) (pvsw_imp h1 fun S' hS' => ih j d _ r M' hS' p l e s m args below meth c A D y ad hc)
    · exact pvL_call ih hc (hk (by decide)) g1 g2 g3 g4 g5 g6 (ih j d _ r M' g7 p l e s m args below meth c A D y ad hc)
    · exact pvL_sx hc (hk (by decide)) (pvsx_imp h1 fun S' hS' => ih j d _ r M' hS' p l e s m args below meth c A D y ad hc)
    · exact pvL_ret hc (hk (by decide)) h1
/-- a run of a method gives its contract -/
theorem pv_con (htab : pvTab) {n j d : Nat} {as : List pvV} {M : pvM} {r : Option pvV} {M' : pvM} (hj : j < pvynL.length) (hl : (pvsl as).length ≤ pvml j) (h : pvEv n j d (0, pvent (pvml j) as, [], M) r M') (l : Launch) (D : va_G) (y : Nat → ClassId) (ad : Nat → Nat) (had : pvadE y ad) :
    zM l D y (pvyn j) (Cond.code (pvyn j) (pvcc j) (pvml j) (pvrt j) :: zT) (pvrm j d) (as.map (pvt ad)) (mkW y ad M) (pvQ D y ad (pvkd j) r M') := pv_con1 (pv_sim htab n) hj hl h l D y ad had
