/-! ===== loading, drift, correction: the class; all of them: the other ===== -/
theorem sp_loaC {G : Mm} {B : Nat} {Z : Zst} {T K k : Int} {Q : dp_Ps} (h : SysC G B Z) (hz : ZI Z T K) (ik : inR k)
    (hq : ∀ G', SysC G' B (zLoa Z k).2 → FR B 218 G G' → Q (jI (zLoa Z k).1) G') : Sp 61 3 [vR 7 B, vI (jI k)] G Q := by
  have hm := hz.1.1
  have hs := hm.1
  unfold SI at hs
  obtain ⟨v, hc, hR⟩ := h.2.2.1.get
  have e7 : v 0 4 = Z.1.1 4 := hR.1.2.1 4 (by decide) (by decide)
  unfold zLoa at hq
  apply vcX7_setLoading
  refine sp_within ik (inR_s (by omega) (by omega)) (inR_s (by omega) (by omega)) (fun t0 t1 => ⟨fun z => absurd z (by decide), fun _ => ?_⟩) (fun z => ⟨fun _ => ?_, fun z => absurd rfl z⟩)
  · rw [if_neg (by omega)] at hq
    rw [h.1.1, hc.f, e7, jI_inj ⟨by omega, by omega⟩ ik]
    refine ⟨fun q => ?_, fun q => ?_⟩
    · rw [if_pos q] at hq; exact hq G h FR.rf
    · rw [if_neg q] at hq
      rw [h.1.2.2.2.1]
      refine sp_recC h (fun G1 k1 k2 => ?_)
      rw [k1.1.1]
      rintro _ rfl
      have kf : FR (B + 1) 30 G1 (wI G1 (B + 1) 4 (jI k)) := FR.wI (by omega)
      exact hq _ (k1.main kf (KC.mk ((hc.off k2 (by omega)).wf 4 k) (rep_sc hR hm.2.1 (by decide) (by decide)) hm.2.1)) ((k2.sub (by omega) (by omega)).tr (kf.sub (by omega) (by omega)))
  · rw [if_pos (by omega)] at hq; exact hq G h FR.rf
theorem sp_driC {G : Mm} {B : Nat} {Z : Zst} {T K k : Int} {Q : dp_Ps} (h : SysC G B Z) (hz : ZI Z T K) (ik : inR k)
    (hq : ∀ G', SysC G' B (zDri Z k).2 → FR B 218 G G' → Q (jI (zDri Z k).1) G') : Sp 62 3 [vR 7 B, vI (jI k)] G Q := by
  have hm := hz.1.1
  have hs := hm.1
  unfold SI at hs
  obtain ⟨v, hc, hR⟩ := h.2.2.1.get
  have e7 : v 0 2 = Z.1.1 2 := hR.1.2.1 2 (by decide) (by decide)
  unfold zDri at hq
  apply vcX7_setDrift
  refine sp_within ik (inR_s (by omega) (by omega)) (inR_s (by omega) (by omega)) (fun t0 t1 => ⟨fun z => absurd z (by decide), fun _ => ?_⟩) (fun z => ⟨fun _ => ?_, fun z => absurd rfl z⟩)
  · rw [jI_inj ik (inR_s (by omega) (by omega)), jI_inj ik (inR_s (by omega) (by omega))]
    refine ⟨fun z => ?_, fun z1 => ⟨fun z => ?_, fun z2 => ?_⟩⟩
    · rw [if_pos (Or.inr (Or.inl z))] at hq; exact hq G h FR.rf
    · rw [if_pos (Or.inr (Or.inr z))] at hq; exact hq G h FR.rf
    rw [if_neg (by omega)] at hq
    rw [h.1.1, hc.f, e7, jI_inj ⟨by omega, by omega⟩ ik]
    refine ⟨fun q => ?_, fun q => ?_⟩
    · rw [if_pos q] at hq; exact hq G h FR.rf
    · rw [if_neg q] at hq
      rw [h.1.2.2.2.1]
      refine sp_recC h (fun G1 k1 k2 => ?_)
      rw [k1.1.1]
      rintro _ rfl
      have kf : FR (B + 1) 30 G1 (wI G1 (B + 1) 2 (jI k)) := FR.wI (by omega)
      exact hq _ (k1.main kf (KC.mk ((hc.off k2 (by omega)).wf 2 k) (rep_sc hR hm.2.1 (by decide) (by decide)) hm.2.1)) ((k2.sub (by omega) (by omega)).tr (kf.sub (by omega) (by omega)))
  · rw [if_pos (by omega)] at hq; exact hq G h FR.rf
theorem sp_corC {G : Mm} {B : Nat} {Z : Zst} {T K k : Int} {Q : dp_Ps} (h : SysC G B Z) (hz : ZI Z T K) (hT : 99999 ≤ T) (ik : inR k)
    (hq : ∀ G', SysC G' B (zCor Z k).2 → FR B 218 G G' → Q (jI (zCor Z k).1) G') : Sp 63 3 [vR 7 B, vI (jI k)] G Q := by
  have hm := hz.1.1
  have hs := hm.1
  unfold SI at hs
  obtain ⟨v, hc, hR⟩ := h.2.2.1.get
  have e0 : v 0 0 = Z.1.1 0 := hR.1.2.1 0 (by decide) (by decide)
  unfold zCor at hq
  apply vcX7_correct
  refine sp_within ik (inR_s (by omega) (by omega)) (inR_s (by omega) (by omega)) (fun t0 t1 => ⟨fun z => absurd z (by decide), fun _ => ?_⟩) (fun z => ⟨fun _ => ?_, fun z => absurd rfl z⟩)
  · rw [if_neg (by omega)] at hq
    rw [h.1.1, hc.f, e0, jI_add]
    refine sp_within ⟨by omega, by omega⟩ (inR_s (by omega) (by omega)) ⟨by omega, by omega⟩ (fun t2 t3 => ⟨fun z => absurd z (by decide), fun _ => ?_⟩) (fun z => ⟨fun _ => ?_, fun z => absurd rfl z⟩)
    · rw [if_neg (by omega)] at hq
      rw [jI_inj ik (inR_s (by omega) (by omega))]
      refine ⟨fun q => ?_, fun q => ?_⟩
      · rw [if_pos q] at hq; exact hq G h FR.rf
      · rw [if_neg q] at hq
        rw [h.1.2.2.2.1, h.1.1]
        refine sp_recC h (fun G1 k1 k2 => ?_)
        rw [k1.1.1]
        rintro _ rfl
        rw [wI_2, k1.1.1]
        have hI := mNum_MI (k := 0) (x := Z.1.1 0 + k) hm (by omega)
        refine sp_share ((hc.off k2 (by omega)).wf 0 (Z.1.1 0 + k)) (rep_sc hR hm.2.1 (by decide) (by decide)) hI (fun G2 v2' M2 k3 k4 k5 k6 k7 => ?_)
        have e : mSh (mNum Z.1 0 (Z.1.1 0 + k)) = M2 := mSh_eq k5
        rw [e] at hq
        have kf : FR (B + 1) 30 G1 G2 := (FR.wI (by omega)).tr k4
        exact hq G2 (k1.main kf (KC.mk k3 k6 k7.2.1)) ((k2.sub (by omega) (by omega)).tr (kf.sub (by omega) (by omega)))
    · rw [if_pos z] at hq; exact hq G h FR.rf
  · rw [if_pos z] at hq; exact hq G h FR.rf
