/-! ===== set: both ===== -/
theorem mSh_k {M : Ms} {T K : Int} (h : MI M T K) {k : Nat} (h1 : k ≠ 12) (h2 : k ≠ 13) : (mSh M).1 k = M.1 k := shr_k (mSh_sp h) h1 h2
theorem mSh_MI {M : Ms} {T K : Int} (h : MI M T K) : MI (mSh M) T K := shr_MI h (mSh_sp h)
theorem mSh_st {M : Ms} {T K : Int} (h : MI M T K) : stk (mSh M) := by
  obtain ⟨_, -, hs⟩ := mSh_sp h
  exact hs
theorem mAdd_GI {M : Ms} {T K t p r : Int} (h : GI M T K) (hl : M.2.1.length + 1 ≤ 20) (he : M.1 6 + 1 ≤ 500) (ht : 0 ≤ t ∧ t ≤ T + 100000) (hp : 0 ≤ p ∧ p ≤ 9999) (hr : 0 ≤ r ∧ r ≤ 3) : GI (mAdd M t p r) T K := by
  have hI := mIns_MI (t := t) (p := p) (r := r) h.1 hl he ht hp hr
  refine ⟨mSh_MI hI, mSh_st hI, ?_⟩
  have e : (mAdd M t p r).1 0 = (mIns M t p r).1 0 := mSh_k hI (by decide) (by decide)
  have e2 : (mIns M t p r).1 0 = M.1 0 := by
    show aU M.1 6 (M.1 6 + 1) 0 = _
    rw [aU_n (by decide)]
  rw [e, e2]; exact h.2.2
theorem zSet_ZI {Z : Zst} {T K t p r : Int} (h : ZI Z T K) : ZI (zSet Z t p r).2 T K := by
  have hs := h.1.1.1
  unfold SI at hs
  unfold zSet
  split
  · exact h
  · split
    · exact h
    · split
      · exact h
      · next h1 h2 h3 => exact h.rec (mAdd_GI h.1 (by omega) (by omega) (by omega) (by omega) (by omega))
theorem sp_setC {G : Mm} {B : Nat} {Z : Zst} {T K t p r : Int} {Q : dp_Ps} (h : SysC G B Z) (hz : ZI Z T K) (it : inR t) (ip : inR p) (ir : inR r)
    (hq : ∀ G', SysC G' B (zSet Z t p r).2 → FR B 218 G G' → Q (jI (zSet Z t p r).1) G') : Sp 55 4 [vR 7 B, vI (jI t), vI (jI p), vI (jI r)] G Q := by
  have hm := hz.1.1
  have hs := hm.1
  have hl := hm.2.1
  unfold SI at hs
  obtain ⟨v, hc, hR⟩ := h.2.2.1.get
  have e0 : v 0 0 = Z.1.1 0 := hR.1.2.1 0 (by decide) (by decide)
  have e6 : v 0 6 = Z.1.1 6 := hR.1.2.1 6 (by decide) (by decide)
  unfold zSet at hq
  have bad : (¬ (0 ≤ t ∧ t ≤ 99999) ∨ ¬ (0 ≤ p ∧ p ≤ 9999) ∨ ¬ (0 ≤ r ∧ r ≤ 3)) → Q (jI (-1002)) G := by
    intro z
    rw [if_pos z] at hq
    exact hq G h FR.rf
  have i0 : inR 0 := inR_s (by omega) (by omega)
  apply vcX7_set
  refine sp_within it i0 ⟨by omega, by omega⟩ (fun t0 t1 => ⟨fun z => absurd z (by decide), fun _ => ?_⟩) (fun z => ⟨fun _ => bad (Or.inl z), fun z => absurd rfl z⟩)
  refine sp_within ip i0 ⟨by omega, by omega⟩ (fun p0 p1 => ⟨fun z => absurd z (by decide), fun _ => ?_⟩) (fun z => ⟨fun _ => bad (Or.inr (Or.inl z)), fun z => absurd rfl z⟩)
  refine sp_within ir i0 ⟨by omega, by omega⟩ (fun r0 r1 => ⟨fun z => absurd z (by decide), fun _ => ?_⟩) (fun z => ⟨fun _ => bad (Or.inr (Or.inr z)), fun z => absurd rfl z⟩)
  rw [if_neg (by omega)] at hq
  rw [h.1.1, hc.f, e0, jI_le ⟨by omega, by omega⟩ it]
  refine ⟨fun q => ?_, fun q => ?_⟩
  · rw [if_neg (by omega)] at hq
    refine sp_hasRoom hc hR.1.1 hl (by omega) (by omega) (fun hr => ⟨fun z => absurd z (by decide), fun _ => ?_⟩) (fun hr => ⟨fun _ => ?_, fun z => absurd rfl z⟩)
    · rw [if_neg (by omega)] at hq
      rw [h.1.2.2.2.1, h.1.1]
      refine sp_recC h (fun G1 k1 k2 => ?_)
      obtain ⟨v1, hc1, hR1⟩ := k1.2.2.1.get
      have hg := mAdd_GI (t := t) (p := p) (r := r) hz.1 (by omega) (by omega) (by omega) (by omega) (by omega)
      rw [k1.1.1]
      refine sp_addA (M := Z.1) hc1 hR1 hm (by omega) (by omega) (by omega) (by omega) (by omega) (fun G2 v2' k3 k4 k5 k6 k7 => ?_)
      exact hq G2 (k1.main k4 (KC.mk k3 k5 hg.1.2.1)) ((k2.sub (by omega) (by omega)).tr (k4.sub (by omega) (by omega)))
    · rw [if_pos (by omega)] at hq
      exact hq G h FR.rf
  · rw [if_pos (by omega)] at hq
    exact hq G h FR.rf
theorem KR.get {G : Mm} {a : Nat} {M : Ms} (h : KR G a (some M)) : ∃ f, RV G a f ∧ RepR f M := (h M rfl).1
