/-! the answers agree, one method after the other -/
theorem fpv_dt {n r r' : Nat} {A A' : Mt} {p p' : Nat → Int} (hA : eqn n A A') (h : fpv n A r p) (h' : fpv n A' r' p') : r' = r ∧ ∀ i, i < r → p' i = p i := PV.dt (h.1.tA hA) h'.1
section PCG
variable {r : Nat} {p p' : Nat → Int}
theorem Sp_fe (h : ∀ i, i < r → p' i = p i) : Sp p' r = Sp p r := funext fun q => propext (Sp_cg h q)
theorem Sq_fe (h : ∀ i, i < r → p' i = p i) : Sq p' r = Sq p r := funext fun q => propext (Sq_cg h q)
theorem hs_tr (h : ∀ i, i < r → p' i = p i) (σ : Int → Int → Int) : hs σ (tr p') r = hs σ (tr p) r := hs_cg (fun j hj => tr_cg h hj)
theorem zM_tr (h : ∀ i, i < r → p' i = p i) (D : Int) (bo : Prop) : zM r D (tr p') bo = zM r D (tr p) bo := funext fun q => zM_cg (fun j hj => tr_cg h hj) q
theorem trx_fe (h : ∀ i, i < r → p' i = p i) (c : Int) : trx p' r c = trx p r c := by
  funext i
  unfold trx
  by_cases hi : i < r
  · rw [if_pos hi, if_pos hi, tr_cg h hi]
  · rw [if_neg hi, if_neg hi]
theorem mnM_fe (h : ∀ i, i < r → p' i = p i) : mnM p' r = mnM p r := by
  funext q
  unfold mnM
  rw [Sq_fe h, hs_tr h]
end PCG
theorem pl0_nat {q : Int} (h : pl0 q) : ∃ k : Nat, q = k ∧ (k = 0 ∨ 1 < k) := by
  rcases h with h | ⟨h1, h2⟩
  · exact ⟨0, h, Or.inl rfl⟩
  · have := h2.1
    exact ⟨q.toNat, by omega, Or.inr (by omega)⟩
theorem tr_tsf {p : Nat → Int} {r : Nat} (h : pB p r) : tsf (tr p) r := fun _ hi => tr_sq h hi
/-- a prime that is in no class divides no term -/
theorem nd_tr {p : Nat → Int} {r q : Nat} (h : pB p r) (hq : prm q) (hn : ¬ Sq p r q) : q ≠ 2 ∧ (∀ i, i < r → ¬ (q : Int) ∣ tr p i) ∧ ¬ (q : Int) ∣ sf (bef p r) := by
  have h0 : ∀ i, i < r → ¬ q ∣ (sf (p i)).natAbs := fun i hi z => hn (Or.inr ⟨i, hi, hq, z⟩)
  have hb : ∀ i, i ≤ r → ¬ q ∣ (sf (bef p i)).natAbs := fun i hi z => by
    cases i with
    | zero =>
      rw [show bef p 0 = 1 from rfl, sf_1] at z
      have h9 := Nat.le_of_dvd (by decide) z
      have h8 := hq.1
      simp at h9
      omega
    | succ i => exact h0 i hi z
  refine ⟨fun z => hn (Or.inl z), fun i hi z => ?_, fun z => hb r (Nat.le_refl r) (nd_abs.mp z)⟩
  have z1 := Nat.dvd_trans (nd_abs.mp z) (pr_dv (b := sf (bef p i)) (sf_ne (h i hi).1))
  rcases prm_mul hq z1 with z2 | z2
  · exact h0 i hi z2
  · exact hb i (by omega) z2
theorem Sp_prm {p : Nat → Int} {r q : Nat} (h : Sp p r q) : prm q := by
  rcases h with rfl | ⟨i, -, h, -⟩
  · exact ⟨by decide, fun e h1 h2 => by omega⟩
  · exact h
theorem Sq_prm {p : Nat → Int} {r q : Nat} (h : Sq p r q) : prm q := by
  rcases h with rfl | ⟨i, -, h, -⟩
  · exact ⟨by decide, fun e h1 h2 => by omega⟩
  · exact h
theorem hs_out {p : Nat → Int} {r q : Nat} (h : pB p r) (hq : prm q) (hn : ¬ Sq p r q) : hs (fun a b => syM a b q) (tr p) r = 1 := hs_un hq.1 (nd_tr h hq hn).1 (nd_tr h hq hn).2.1
theorem ag_about {n : Nat} {A A' : Mt} {z z' w : Int} (hA : eqn n A A') (h : ∃ r p, fpv n A r p ∧ z = abv n r p w) (h' : ∃ r p, fpv n A' r p ∧ z' = abv n r p w) : z = z' := by
  obtain ⟨r, p, h1, h2⟩ := h
  obtain ⟨r', p', g1, g2⟩ := h'
  obtain ⟨rfl, e⟩ := fpv_dt hA h1 g1
  rw [h2, g2]
  unfold abv
  rw [ps_cg e, ng_cg e, bef_cg e]
theorem ag_hasse {n : Nat} {A A' : Mt} {z z' q : Int} (hq : pl0 q) (hA : eqn n A A') (h : ∃ r p, fpv n A r p ∧ z = hs (fun a b => sy a b q) (tr p) r) (h' : ∃ r p, fpv n A' r p ∧ z' = hs (fun a b => syM a b q) (tr p) r) : z = z' := by
  obtain ⟨k, rfl, hk⟩ := pl0_nat hq
  obtain ⟨r, p, h1, h2⟩ := h
  obtain ⟨r', p', g1, g2⟩ := h'
  obtain ⟨rfl, e⟩ := fpv_dt hA h1 g1
  rw [h2, g2, hs_tr e, hs_sf (tr_tsf h1.2.1) hk]
theorem ag_iso {n : Nat} {A A' : Mt} {z z' : Prop} {q : Int} (hq : pl0 q) (hA : eqn n A A') (h : ∃ r p, fpv n A r p ∧ z = zr n r (sf (bef p r)) (tr p) (ps p r) (ng p r) q) (h' : ∃ r p, fpv n A' r p ∧ (z' ↔ (r < n ∨ zM r (sf (bef p r)) (tr p) (0 < ps p r ∧ 0 < ng p r) q))) : z ↔ z' := by
  obtain ⟨k, rfl, hk⟩ := pl0_nat hq
  obtain ⟨r, p, h1, h2⟩ := h
  obtain ⟨r', p', g1, g2⟩ := h'
  obtain ⟨rfl, e⟩ := fpv_dt hA h1 g1
  rw [bef_cg e, ps_cg e, ng_cg e, zM_tr e] at g2
  rw [h2, g2]
  exact zr_zM (tr_tsf h1.2.1) (ds_sq h1.2.1) hk
theorem ag_obst {n : Nat} {A A' : Mt} {z z' : Int} (hn : 1 ≤ n) (hA : eqn n A A') (h : ∃ r p, fpv n A r p ∧ lpz (Sp p r) (zr n r (sf (bef p r)) (tr p) (ps p r) (ng p r)) r (sf (bef p r)) z) (h' : ∃ r p, fpv n A' r p ∧ obM n r p z') : z = z' := by
  obtain ⟨r, p, h1, h2⟩ := h
  obtain ⟨r', p', g1, g2⟩ := h'
  obtain ⟨rfl, e⟩ := fpv_dt hA h1 g1
  unfold obM at g2
  rw [bef_cg e, ps_cg e, ng_cg e, zM_tr e, Sq_fe e] at g2
  have hpB := h1.2.1
  rcases Nat.lt_or_ge r' n with hlt | hge
  · rw [g2.1 hlt]
    exact h2.2.1 (Or.inl hlt) (fun q _ => Or.inl hlt)
  · have hrn : r' = n := Nat.le_antisymm h1.2.2 hge
    have g3 := g2.2 (by omega)
    subst hrn
    exact ob_ag (tr_tsf hpB) (ds_sq hpB) (ds_ne hpB) (fun q hq => Sq_Sp hpB hq) (fun q hq => Sp_prm hq) (fun q hq hs => nd_tr hpB (Sp_prm hq) hs) (fun q hq hd => by
      cases r' with
      | zero => omega
      | succ k => exact Or.inr ⟨k, by omega, hq, hd⟩) hn h2 g3
theorem zM_bo {r : Nat} {D : Int} {t : Nat → Int} {bo bo' : Prop} (h : bo ↔ bo') : zM r D t bo = zM r D t bo' := by rw [propext h]
theorem ag_takes {n : Nat} {A A' : Mt} {v : Int} {z z' : Prop} (hv : v ≠ 0) (hA : eqn n A A') (h : ∃ r p, fpv n A r p ∧ tkC r p v z) (h' : ∃ r p, fpv n A' r p ∧ tkM n r p (sf (-v)) z') : z ↔ z' := by
  obtain ⟨r, p, h1, h2⟩ := h
  obtain ⟨r', p', g1, g2⟩ := h'
  obtain ⟨rfl, e⟩ := fpv_dt hA h1 g1
  have hpB := h1.2.1
  have hv0 : -v ≠ 0 := by omega
  unfold tkM box at g2
  rw [bef_cg e, ps_cg e, ng_cg e, trx_fe e, Sq_fe e] at g2
  by_cases hr : r' = 0
  · exact ⟨fun q => absurd q (h2.1 hr), fun q => absurd q (g2.1 hr)⟩
  · obtain ⟨w, w1, w2⟩ := h2.2 hr
    obtain ⟨w', y1, y2⟩ := g2.2 hr
    have hbx : ((0 < ps p r' ∧ 0 < ng p r') ∨ (0 < ps p r' ∧ sf (-v) < 0) ∨ (0 < ng p r' ∧ 0 < sf (-v))) ↔ (0 < ps p r' + (if 0 < sf (-v) then 1 else 0) ∧ 0 < ng p r' + (if 0 < sf (-v) then 0 else 1)) := by
      have a1 := ps_bd p r'
      have a2 := ng_ps p r'
      have a3 := sf_ne hv0
      by_cases hs : 0 < sf (-v)
      · rw [if_pos hs, if_pos hs]; omega
      · rw [if_neg hs, if_neg hs]; omega
    rw [zM_bo hbx] at y1
    have htx : tsf (trx p r' (sf (-v))) (r' + 1) := fun i hi => by
      unfold trx
      by_cases hir : i < r'
      · rw [if_pos hir]; exact tr_sq hpB hir
      · rw [if_neg hir]; exact sf_sq hv0
    have hww : w = w' := by
      refine ob_ag htx (pr_sq (ds_ne hpB) (ds_sq hpB) (sf_sq hv0)) (pr_ne (ds_ne hpB) (sf_ne hv0)) (fun q hq => ?_) (fun q hq => ?_) (fun q hq hs => ?_) (fun q hq hd => ?_) (by omega) w1 y1
      · rcases hq with hq | hq
        · exact Or.inl (Sq_Sp hpB hq)
        · exact Or.inr ⟨hq.1, Nat.dvd_trans hq.2 (sf_dv hv0)⟩
      · rcases hq with hq | hq
        · exact Sp_prm hq
        · exact hq.1
      · have hqp : prm q := by
          rcases hq with hq | hq
          · exact Sp_prm hq
          · exact hq.1
        obtain ⟨x1, x2, x3⟩ := nd_tr hpB hqp (fun z => hs (Or.inl z))
        have x4 : ¬ q ∣ (sf (-v)).natAbs := fun z => hs (Or.inr ⟨hqp, z⟩)
        refine ⟨x1, fun i hi => ?_, fun z => ?_⟩
        · unfold trx
          by_cases hir : i < r'
          · rw [if_pos hir]; exact x2 i hir
          · rw [if_neg hir]; exact fun z => x4 (nd_abs.mp z)
        · rcases prm_mul hqp (Nat.dvd_trans (nd_abs.mp z) (pr_dv (ds_ne hpB))) with z2 | z2
          · exact x3 (nd_abs.mpr z2)
          · exact x4 z2
      · rcases prm_mul hq (Nat.dvd_trans hd (pr_dv (ds_ne hpB))) with z2 | z2
        · cases r' with
          | zero => omega
          | succ k => exact Or.inl (Or.inr ⟨k, by omega, hq, z2⟩)
        · exact Or.inr ⟨hq, z2⟩
    subst hww
    rw [w2, y2]
    constructor
    · intro q; rw [q]; decide
    · intro q
      -- an obstacle is a place or -1
      rcases Classical.em (zM (r' + 1) (pr (sf (bef p r')) (sf (-v))) (trx p r' (sf (-v))) (0 < ps p r' + (if 0 < sf (-v) then 1 else 0) ∧ 0 < ng p r' + (if 0 < sf (-v) then 0 else 1)) 0) with z0 | z0
      · by_cases hR2 : r' + 1 = 2
        · by_cases hm : pr (sf (bef p r')) (sf (-v)) = -1
          · exact y1.2.1 z0 hR2 hm
          · obtain ⟨x, x1, -⟩ := y1.2.2.1 z0 hR2 hm
            omega
        · by_cases hall : ∀ q : Nat, Sx (Sq p r') (sf (-v)) q → zM (r' + 1) (pr (sf (bef p r')) (sf (-v))) (trx p r' (sf (-v))) (0 < ps p r' + (if 0 < sf (-v) then 1 else 0) ∧ 0 < ng p r' + (if 0 < sf (-v) then 0 else 1)) q
          · exact y1.2.2.2.1 z0 hR2 hall
          · obtain ⟨q1, hq1⟩ := Classical.not_forall.mp hall
            obtain ⟨q0, ⟨g1, g2⟩, g3⟩ := least (S := fun q => Sx (Sq p r') (sf (-v)) q ∧ ¬ zM (r' + 1) (pr (sf (bef p r')) (sf (-v))) (trx p r' (sf (-v))) (0 < ps p r' + (if 0 < sf (-v) then 1 else 0) ∧ 0 < ng p r' + (if 0 < sf (-v) then 0 else 1)) q) q1 ⟨Classical.byContradiction fun z => hq1 (fun y => absurd y z), fun z => hq1 (fun _ => z)⟩
            have := y1.2.2.2.2 z0 hR2 q0 g1 g2 (fun m hm hlt => Classical.byContradiction fun z => g3 m hlt ⟨hm, z⟩)
            omega
      · have := y1.1 z0
        omega
theorem mnC_mnM {p : Nat → Int} {r : Nat} (h : pB p r) : mnC p r = mnM p r := by
  funext q
  unfold mnC mnM
  refine propext ⟨fun ⟨a1, a2⟩ => ?_, fun ⟨a1, a2⟩ => ?_⟩
  · rw [hs_sf (tr_tsf h) (Or.inr (Sp_prm a1).1)] at a2
    refine ⟨Classical.byContradiction fun z => ?_, a2⟩
    rw [hs_out h (Sp_prm a1) z] at a2
    omega
  · exact ⟨Sq_Sp h a1, by rw [hs_sf (tr_tsf h) (Or.inr (Sq_prm a1).1)]; exact a2⟩
theorem SL_cnt {c : Nat} {a : Nat → Int} {T : Nat → Prop} (h : SL c a T) : ∀ i, i ≤ c → met T c a i i ∧ (i < c → ∃ q : Nat, a i = q ∧ T q ∧ cnt T q = i) := by
  intro i
  induction i with
  | zero =>
    intro hi
    have m0 := met_0 h (fun q hq => hq)
    refine ⟨m0, fun h0 => ?_⟩
    obtain ⟨q, q1, q2⟩ := h.2.1 0 h0
    exact ⟨q, q1, q2, (met_s h (fun q hq => hq) m0 h0 q1).1⟩
  | succ i ih =>
    intro hi
    obtain ⟨m1, m2⟩ := ih (by omega)
    obtain ⟨q, q1, q2, q3⟩ := m2 (by omega)
    have m3 := (met_s h (fun q hq => hq) m1 (by omega) q1).2
    rw [bi_t q2] at m3
    have m4 : met T c a (i + 1) ((i + 1 : Nat) : Int) := m3
    refine ⟨m4, fun h0 => ?_⟩
    obtain ⟨q', p1, p2⟩ := h.2.1 (i + 1) h0
    exact ⟨q', p1, p2, (met_s h (fun q hq => hq) m4 h0 p1).1⟩
theorem nth_SL {c : Nat} {a : Nat → Int} {T : Nat → Prop} {k z : Int} (h : SL c a T) (hn : nth T k z) : (0 ≤ k ∧ k < c → z = a k.toNat ∧ z ≠ -1) ∧ (¬ (0 ≤ k ∧ k < c) → z = -1) := by
  constructor
  · intro hk
    obtain ⟨q, q1, q2, q3⟩ := (SL_cnt h k.toNat (by omega)).2 (by omega)
    have hkk : ((k.toNat : Nat) : Int) = k := by omega
    rw [hkk] at q3
    rcases hn with ⟨q', p1, p2, p3⟩ | ⟨-, p2⟩
    · have : q' = q := cnt_uniq p1 q2 (p2.trans q3.symm)
      rw [p3, this, q1]
      exact ⟨rfl, by omega⟩
    · exact absurd q3 (p2 q q2)
  · intro hk
    rcases hn with ⟨q', p1, p2, p3⟩ | ⟨p1, -⟩
    · exfalso
      obtain ⟨i, i1, i2⟩ := h.2.2 q' p1
      obtain ⟨q, q1, q2, q3⟩ := (SL_cnt h i (by omega)).2 i1
      have : q = q' := by omega
      rw [this, p2] at q3
      omega
    · exact p1
theorem ag_sign {n : Nat} {A A' : Mt} {z k : Int} {c9 : Nat} {a : Nat → Int} {r r' : Nat} {p p' : Nat → Int} (hA : eqn n A A') (h1 : fpv n A r p) (h2 : nth (mnC p r) k z) (g1 : fpv n A' r' p') (g2 : SL c9 a (mnM p' r')) : (0 ≤ k ∧ k < c9 → z = a k.toNat ∧ z ≠ -1) ∧ (¬ (0 ≤ k ∧ k < c9) → z = -1) := by
  obtain ⟨rfl, e⟩ := fpv_dt hA h1 g1
  rw [mnM_fe e] at g2
  rw [mnC_mnM h1.2.1] at h2
  exact nth_SL g2 h2
