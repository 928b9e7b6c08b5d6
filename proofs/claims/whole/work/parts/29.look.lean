/-! ===== the other class: looking ===== -/
theorem sp_first {G : Mm} {a : Nat} {f : Ar} {M : Ms} {T K x : Int} {Q : dp_Ps} (hV : RV G a f) (h2 : f 2 = (M.2.1.length : Int)) (hR : RA f M.2.1) (hB : BI M T K) (hx : inR x)
    (h0 : (∀ b, b ∈ M.2.1 → b 4 ≠ x) → Q (jI (-1005)) G) (h1 : ∀ i : Nat, i < M.2.1.length → fstA M.2.1 x (rA f i) → Q (jI (i : Int)) G) : Sp 87 4 [vR 16 a, vI (jI x)] G Q := by
  have hl := hB.2.1
  have i5 : inR (-1005) := inR_s (by omega) (by omega)
  have hs := hB.1
  unfold SI at hs
  apply vcX8_firstOf
  have loop : ∀ k i : Nat, ∀ w : Int, k = M.2.1.length - i → i ≤ M.2.1.length → ((w = -1005 ∧ ∀ j, j < i → f (14 + 7 * j + 4) ≠ x) ∨ (∃ u : Nat, w = (u : Int) ∧ u < i ∧ f (14 + 7 * u + 4) = x ∧ ∀ j, j < i → f (14 + 7 * j + 4) = x → j = u ∨ bef (rA f u) (rA f j))) → Wp 87 6 [some (vR 16 a), some (vI (jI x)), some (vI (jI w)), some (vI (jI (i : Int)))] [] G Q := by
    intro k
    induction k with
    | zero =>
      intro i w hk hi hw
      apply vcX8_firstOf_6
      rw [hV, h2, jI_le (inR_n (by omega)) (inR_n (by omega))]
      refine ⟨fun _ => ?_, fun q => absurd (show (M.2.1.length : Int) ≤ (i : Int) by omega) q⟩
      rcases hw with ⟨hw, hno⟩ | ⟨u, hw, hu, hu4, hb⟩
      · rw [hw]
        refine h0 (fun b hb => ?_)
        obtain ⟨j, hj, rfl⟩ := hR.mem.mp hb
        rw [rA_k (by decide)]
        exact hno j (by omega)
      · rw [hw]
        refine h1 u (by omega) ⟨hR.at (by omega), by rw [rA_k (by decide)]; exact hu4, fun b hb2 h4 => ?_⟩
        obtain ⟨j, hj, rfl⟩ := hR.mem.mp hb2
        rw [rA_k (by decide)] at h4
        rcases hb j (by omega) h4 with g | g
        · rw [g]; exact Or.inl rfl
        · exact Or.inr g
    | succ k ih =>
      intro i w hk hi
      have hi1 : i < M.2.1.length := by omega
      have hk1 : k = M.2.1.length - (i + 1) := by omega
      have hle : ¬ (M.2.1.length : Int) ≤ (i : Int) := by omega
      intro hw
      have vi := hB.v hR hi1
      apply vcX8_firstOf_6
      rw [hV, h2, jI_le (inR_n (by omega)) (inR_n (by omega))]
      refine ⟨fun q => absurd q hle, fun _ => ?_⟩
      refine sp_of (k := 4) hV (by omega) (by decide) ?_
      have i4 : inR (f (14 + 7 * i + 4)) := ⟨by omega, by omega⟩
      rw [jI_inj i4 hx, jI_add, show ((i : Int) + 1) = ((i + 1 : Nat) : Int) by omega]
      refine ⟨fun q4 => ?_, fun q4 => ?_⟩
      · rcases hw with ⟨hw, hno⟩ | ⟨u, hw, hu, hu4, hb⟩
        · refine ⟨fun _ => ?_, fun q => absurd (by rw [hw]) q⟩
          refine ih (i + 1) (i : Int) hk1 hi1 (Or.inr ⟨i, rfl, by omega, q4, fun j hj hj4 => ?_⟩)
          rcases (show j < i ∨ j = i by omega) with g | g
          · exact absurd hj4 (hno j g)
          · exact Or.inl g
        · have iw : inR w := by rw [hw]; exact inR_n (by omega)
          rw [jI_inj iw i5]
          have hw5 : ¬ w = -1005 := by omega
          refine ⟨fun q => absurd q hw5, fun _ => ?_⟩
          rw [hw]
          have hul : u < M.2.1.length := by omega
          refine sp_ahead hV hR hB hi1 hul (fun hbf => ⟨fun q => absurd q (by decide), fun _ => ?_⟩) (fun hbf => ⟨fun _ => ?_, fun q => absurd rfl q⟩)
          · refine ih (i + 1) (i : Int) hk1 hi1 (Or.inr ⟨i, rfl, by omega, q4, fun j hj hj4 => ?_⟩)
            rcases (show j < i ∨ j = i by omega) with g | g
            · rcases hb j g hj4 with g2 | g2
              · rw [g2]; exact Or.inr hbf
              · exact Or.inr (bef_tr hbf g2)
            · exact Or.inl g
          · refine ih (i + 1) (u : Int) hk1 hi1 (Or.inr ⟨u, rfl, by omega, hu4, fun j hj hj4 => ?_⟩)
            rcases (show j < i ∨ j = i by omega) with g | g
            · exact hb j g hj4
            · right
              have hne : rA f u 0 ≠ rA f j 0 := by
                have e1 : rA f u 0 = f (14 + 7 * u) := rA_k (k := 0) (by decide)
                have e2 : rA f j 0 = f (14 + 7 * j) := rA_k (k := 0) (by decide)
                have := hR.2 u j (by omega) (by omega)
                omega
              rcases bef_or hne with g2 | g2
              · exact g2
              · rw [g] at g2; exact absurd g2 hbf
      · refine ih (i + 1) w hk1 hi1 ?_
        rcases hw with ⟨hw, hno⟩ | ⟨u, hw, hu, hu4, hb⟩
        · refine Or.inl ⟨hw, fun j hj => ?_⟩
          rcases (show j < i ∨ j = i by omega) with g | g
          · exact hno j g
          · rw [g]; exact q4
        · refine Or.inr ⟨u, hw, by omega, hu4, fun j hj hj4 => ?_⟩
          rcases (show j < i ∨ j = i by omega) with g | g
          · exact hb j g hj4
          · rw [g] at hj4; exact absurd hj4 q4
  exact loop M.2.1.length 0 (-1005) rfl (by omega) (Or.inl ⟨rfl, fun j hj => by omega⟩)
theorem sp_max {G : Mm} {a : Nat} {f : Ar} {M : Ms} {T K c x : Int} {Q : dp_Ps} (hV : RV G a f) (h2 : f 2 = (M.2.1.length : Int)) (hR : RA f M.2.1) (hB : BI M T K) (hc : inR c) (hx : 0 ≤ x ∧ x ≤ 100100000)
    (h : ∀ m : Int, (0 ≤ m ∧ m ≤ 100100000) → x ≤ m → (∀ b, b ∈ M.2.1 → b 4 = c → b 1 ≤ m) → (m = x ∨ ∃ b, b ∈ M.2.1 ∧ b 4 = c ∧ b 1 = m) → Q (jI m) G) : Sp 91 7 [vR 16 a, vI (jI c), vI (jI x), vI (jI 1)] G Q := by
  have hl := hB.2.1
  have hs := hB.1
  unfold SI at hs
  apply vcX8_extreme
  have loop : ∀ k i : Nat, ∀ (m : Int) (w6 : Option Vl), k = M.2.1.length - i → i ≤ M.2.1.length → (0 ≤ m ∧ m ≤ 100100000) → x ≤ m → (∀ j, j < i → f (14 + 7 * j + 4) = c → f (14 + 7 * j + 1) ≤ m) → (m = x ∨ ∃ b, b ∈ M.2.1 ∧ b 4 = c ∧ b 1 = m) → Wp 91 6 [some (vR 16 a), some (vI (jI c)), some (vI (jI x)), some (vI (jI 1)), some (vI (jI m)), some (vI (jI (i : Int))), w6] [] G Q := by
    intro k
    induction k with
    | zero =>
      intro i m w6 hk hi hm0 hm hall
      have hile : (M.2.1.length : Int) ≤ (i : Int) := by omega
      have hilt : ∀ j, j < M.2.1.length → j < i := fun j hj => by omega
      intro hex
      apply vcX8_extreme_6
      rw [hV, h2, jI_le (inR_n (by omega)) (inR_n (by omega))]
      refine ⟨fun _ => h m hm0 hm (fun b hb h4 => ?_) hex, fun q => absurd hile q⟩
      obtain ⟨j, hj, rfl⟩ := hR.mem.mp hb
      rw [rA_k (by decide)] at h4 ⊢
      exact hall j (hilt j hj) h4
    | succ k ih =>
      intro i m w6 hk hi
      have hi1 : i < M.2.1.length := by omega
      have hk1 : k = M.2.1.length - (i + 1) := by omega
      have hle : ¬ (M.2.1.length : Int) ≤ (i : Int) := by omega
      have vi := hB.v hR hi1
      intro hm0 hm hall hex
      apply vcX8_extreme_6
      rw [hV, h2, jI_le (inR_n (by omega)) (inR_n (by omega))]
      refine ⟨fun q => absurd q hle, fun _ => ?_⟩
      refine sp_of (k := 1) hV (by omega) (by decide) ?_
      refine sp_of (k := 4) hV (by omega) (by decide) ?_
      have i4 : inR (f (14 + 7 * i + 4)) := ⟨by clear hex hall; omega, by clear hex hall; omega⟩
      have i1 : inR (f (14 + 7 * i + 1)) := ⟨by clear hex hall; omega, by clear hex hall; omega⟩
      have im : inR m := ⟨by clear hex hall; omega, by clear hex hall; omega⟩
      rw [jI_inj i4 hc, jI_add, show ((i : Int) + 1) = ((i + 1 : Nat) : Int) by omega, jI_le i1 im]
      refine ⟨fun q4 => ?_, fun q4 => ?_⟩
      · skip
        refine ⟨fun q5 => ⟨fun q => absurd q (by decide), fun _ => ?_⟩, fun q5 => ⟨fun _ => ?_, fun q => absurd rfl q⟩⟩
        · refine ih (i + 1) m _ hk1 hi1 hm0 hm (fun j hj h4 => ?_) hex
          rcases (show j < i ∨ j = i by omega) with g | g
          · exact hall j g h4
          · rw [g]; exact q5
        · refine ih (i + 1) _ _ hk1 hi1 ⟨by omega, by omega⟩ (by omega) (fun j hj h4 => ?_) (Or.inr ⟨_, hR.at hi1, by rw [rA_k (by decide)]; exact q4, rA_k (by decide)⟩)
          rcases (show j < i ∨ j = i by omega) with g | g
          · have := hall j g h4; omega
          · rw [g]; exact Int.le_refl _
      · refine ih (i + 1) m _ hk1 hi1 hm0 hm (fun j hj h4 => ?_) hex
        rcases (show j < i ∨ j = i by omega) with g | g
        · exact hall j g h4
        · rw [g] at h4; exact absurd h4 q4
  exact loop M.2.1.length 0 x none rfl (by omega) hx (Int.le_refl _) (fun j hj => by omega) (Or.inl rfl)
theorem sp_min {G : Mm} {a : Nat} {f : Ar} {M : Ms} {T K c x : Int} {Q : dp_Ps} (hV : RV G a f) (h2 : f 2 = (M.2.1.length : Int)) (hR : RA f M.2.1) (hB : BI M T K) (hc : inR c) (hx : 0 ≤ x ∧ x ≤ 100100000)
    (h : ∀ m : Int, (0 ≤ m ∧ m ≤ 100100000) → m ≤ x → (∀ b, b ∈ M.2.1 → b 4 = c → m ≤ b 1) → (m = x ∨ ∃ b, b ∈ M.2.1 ∧ b 4 = c ∧ b 1 = m) → Q (jI m) G) : Sp 91 7 [vR 16 a, vI (jI c), vI (jI x), vI (jI 0)] G Q := by
  have hl := hB.2.1
  have hs := hB.1
  unfold SI at hs
  apply vcX8_extreme
  have loop : ∀ k i : Nat, ∀ (m : Int) (w6 : Option Vl), k = M.2.1.length - i → i ≤ M.2.1.length → (0 ≤ m ∧ m ≤ 100100000) → m ≤ x → (∀ j, j < i → f (14 + 7 * j + 4) = c → m ≤ f (14 + 7 * j + 1)) → (m = x ∨ ∃ b, b ∈ M.2.1 ∧ b 4 = c ∧ b 1 = m) → Wp 91 6 [some (vR 16 a), some (vI (jI c)), some (vI (jI x)), some (vI (jI 0)), some (vI (jI m)), some (vI (jI (i : Int))), w6] [] G Q := by
    intro k
    induction k with
    | zero =>
      intro i m w6 hk hi hm0 hm hall
      have hile : (M.2.1.length : Int) ≤ (i : Int) := by omega
      have hilt : ∀ j, j < M.2.1.length → j < i := fun j hj => by omega
      intro hex
      apply vcX8_extreme_6
      rw [hV, h2, jI_le (inR_n (by omega)) (inR_n (by omega))]
      refine ⟨fun _ => h m hm0 hm (fun b hb h4 => ?_) hex, fun q => absurd hile q⟩
      obtain ⟨j, hj, rfl⟩ := hR.mem.mp hb
      rw [rA_k (by decide)] at h4 ⊢
      exact hall j (hilt j hj) h4
    | succ k ih =>
      intro i m w6 hk hi
      have hi1 : i < M.2.1.length := by omega
      have hk1 : k = M.2.1.length - (i + 1) := by omega
      have hle : ¬ (M.2.1.length : Int) ≤ (i : Int) := by omega
      have vi := hB.v hR hi1
      intro hm0 hm hall hex
      apply vcX8_extreme_6
      rw [hV, h2, jI_le (inR_n (by omega)) (inR_n (by omega))]
      refine ⟨fun q => absurd q hle, fun _ => ?_⟩
      refine sp_of (k := 1) hV (by omega) (by decide) ?_
      refine sp_of (k := 4) hV (by omega) (by decide) ?_
      have i4 : inR (f (14 + 7 * i + 4)) := ⟨by clear hex hall; omega, by clear hex hall; omega⟩
      have i1 : inR (f (14 + 7 * i + 1)) := ⟨by clear hex hall; omega, by clear hex hall; omega⟩
      have im : inR m := ⟨by clear hex hall; omega, by clear hex hall; omega⟩
      rw [jI_inj i4 hc, jI_add, show ((i : Int) + 1) = ((i + 1 : Nat) : Int) by omega, jI_le i1 im]
      refine ⟨fun q4 => ?_, fun q4 => ?_⟩
      · skip
        refine ⟨fun q5 => ⟨fun _ => ?_, fun q => absurd rfl q⟩, fun q5 => ⟨fun q => absurd q (by decide), fun _ => ?_⟩⟩
        · refine ih (i + 1) _ _ hk1 hi1 ⟨by omega, by omega⟩ (by omega) (fun j hj h4 => ?_) (Or.inr ⟨_, hR.at hi1, by rw [rA_k (by decide)]; exact q4, rA_k (by decide)⟩)
          rcases (show j < i ∨ j = i by omega) with g | g
          · have := hall j g h4; omega
          · rw [g]; exact Int.le_refl _
        · refine ih (i + 1) m _ hk1 hi1 hm0 hm (fun j hj h4 => ?_) hex
          rcases (show j < i ∨ j = i by omega) with g | g
          · exact hall j g h4
          · rw [g]; omega
      · refine ih (i + 1) m _ hk1 hi1 hm0 hm (fun j hj h4 => ?_) hex
        rcases (show j < i ∨ j = i by omega) with g | g
        · exact hall j g h4
        · rw [g] at h4; exact absurd h4 q4
  exact loop M.2.1.length 0 x none rfl (by omega) hx (Int.le_refl _) (fun j hj => by omega) (Or.inl rfl)
