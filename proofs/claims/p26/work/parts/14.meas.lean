/-! ===== sharing out comes to an end, soon ===== -/
def wide (M : Ms) (c : Nat) : Prop := ∃ a, a ∈ M.2.1 ∧ ∃ b, b ∈ M.2.1 ∧ a 4 = c ∧ b 4 = c ∧ M.1 3 < a 1 - b 1
def bh (M : Ms) (b : Ar) : Prop := ∃ u, u ∈ M.2.1 ∧ u 4 = -1005 ∧ (u 0 = b 0 ∨ bef u b)
noncomputable def wid (M : Ms) : Nat := (List.range 4).countP (fun c => pB (wide M c))
noncomputable def bhn (M : Ms) : Nat := M.2.1.countP (fun b => pB (bh M b))
noncomputable def mu (M : Ms) : Nat := 21 * wid M + bhn M
theorem cnt_le {α : Type} {p q : α → Bool} : ∀ (l : List α), (∀ x, x ∈ l → p x = true → q x = true) → l.countP p ≤ l.countP q := fun l h => List.countP_mono_left h
theorem cnt_lt {α : Type} {p q : α → Bool} : ∀ (l : List α), (∀ x, x ∈ l → p x = true → q x = true) → (∃ x, x ∈ l ∧ p x = false ∧ q x = true) → l.countP p < l.countP q
  | [], _, h => by obtain ⟨x, hx, -⟩ := h; cases hx
  | y :: l, h, he => by
    obtain ⟨x, hx, h1, h2⟩ := he
    have hl := cnt_le l (fun z hz => h z (List.mem_cons_of_mem _ hz))
    rw [List.countP_cons, List.countP_cons]
    rcases List.mem_cons.mp hx with rfl | hx
    · rw [h1, h2]
      simp only [if_true, Bool.false_eq_true, if_false]
      omega
    · have ih := cnt_lt l (fun z hz => h z (List.mem_cons_of_mem _ hz)) ⟨x, hx, h1, h2⟩
      by_cases hy : p y = true
      · rw [hy, h y List.mem_cons_self hy]
        simp only [if_true]
        omega
      · have hy : p y = false := by simpa using hy
        rw [hy]
        simp only [Bool.false_eq_true, if_false]
        omega
theorem pB_f {p : Prop} : pB p = false ↔ ¬ p := by unfold pB; exact @decide_eq_false_iff_not p (Classical.propDecidable p)
theorem mu_le (M : Ms) (h : M.2.1.length ≤ 20) : mu M ≤ 104 := by
  have h1 : wid M ≤ 4 := by unfold wid; exact List.countP_le_length
  have h2 : bhn M ≤ 20 := Nat.le_trans (by unfold bhn; exact List.countP_le_length) h
  unfold mu
  omega
theorem bhn_lt {M M' : Ms} {a : Ar} {f : Ar → Ar} (hn : NI M.2.1) (ha : fstA M.2.1 (-1005) a) (hM : M'.2.1 = M.2.1.map f) (hf : ∀ b k, k ≠ 4 → f b k = b k) (hU : ∀ d, d ∈ M.2.1 → (f d) 4 = -1005 → (d 4 = -1005 ∧ d ≠ a) ∨ bef a d) : bhn M' < bhn M := by
  have f0 : ∀ b, f b 0 = b 0 := fun b => hf b 0 (by decide)
  have fb : ∀ b d, bef (f b) (f d) → bef b d := by
    intro b d h
    unfold bef at h ⊢
    rw [hf b 1 (by decide), hf d 1 (by decide), hf b 3 (by decide), hf d 3 (by decide), f0, f0] at h
    exact h
  have h1 : ∀ d, d ∈ M.2.1 → (f d) 4 = -1005 → (d 4 = -1005 ∨ bef a d) ∧ bef a d := by
    intro d hd h
    rcases hU d hd h with ⟨g1, g2⟩ | g
    · rcases ha.2.2 d hd g1 with g | g
      · exact absurd g g2
      · exact ⟨Or.inl g1, g⟩
    · exact ⟨Or.inr g, g⟩
  unfold bhn
  rw [hM, List.countP_map]
  refine cnt_lt _ (fun b hb h => ?_) ⟨a, ha.1, ?_, pB_t.mpr ⟨a, ha.1, ha.2.1, Or.inl rfl⟩⟩
  · obtain ⟨u, hu, hu4, hub⟩ := pB_t.mp h
    rw [hM] at hu
    obtain ⟨d, hd, rfl⟩ := List.mem_map.mp hu
    have hbd := (h1 d hd hu4).2
    refine pB_t.mpr ⟨a, ha.1, ha.2.1, Or.inr ?_⟩
    rcases hub with hub | hub
    · rw [f0, f0] at hub
      rw [← hn.inj hd hb hub]; exact hbd
    · exact bef_tr hbd (fb _ _ hub)
  · refine pB_f.mpr ?_
    rintro ⟨u, hu, hu4, hub⟩
    rw [hM] at hu
    obtain ⟨d, hd, rfl⟩ := List.mem_map.mp hu
    have hbd := (h1 d hd hu4).2
    rcases hub with hub | hub
    · rw [f0, f0] at hub
      rw [hn.inj hd ha.1 hub] at hbd
      exact bef_ir hbd
    · exact bef_as hbd (fb _ _ hub)
theorem wid_le {M M' : Ms} (h : ∀ c, c < 4 → wide M' c → wide M c) : wid M' ≤ wid M := cnt_le _ (fun c hc q => pB_t.mpr (h c (List.mem_range.mp hc) (pB_t.mp q)))
theorem wid_lt {M M' : Ms} (h : ∀ c, c < 4 → wide M' c → wide M c) {c : Nat} (hc : c < 4) (h1 : wide M c) (h2 : ¬ wide M' c) : wid M' < wid M := cnt_lt _ (fun c hc q => pB_t.mpr (h c (List.mem_range.mp hc) (pB_t.mp q))) ⟨c, List.mem_range.mpr hc, pB_f.mpr h2, pB_t.mpr h1⟩
theorem turn_mu {M M' : Ms} {T K : Int} (h : MI M T K) (t : turn M M') : mu M' < mu M := by
  have hMI' := turn_MI h t
  obtain ⟨hs, hl, hn, hA, hC⟩ := h
  obtain ⟨a, ha, t⟩ := t
  have haL := ha.1
  have ha4 := ha.2.1
  have hw0 : 0 ≤ M.1 3 := hs.2.2.2.1.1
  have h7 : M.1 7 ≤ 4 := hs.2.2.2.2.2.2.1.2
  rcases t with ⟨c, c1, c2, c3, rfl⟩ | ⟨c, c1, c2, c3, c4, rfl⟩ | ⟨c, c1, c2, c3, c4, c5, c6, rfl⟩
  · have hb := bhn_lt (M' := (M.1, asg M.2.1 a c, cU M.2.2.1 c (max (M.2.2.1 c 0) (a 1)) (M.2.2.1 c 1), M.2.2.2)) hn ha rfl (fun b k hk => asg0 b k hk) (fun d hd hd4 => by
      by_cases he : d 0 = a 0
      · rw [if_pos he, aU_s] at hd4; omega
      · rw [if_neg he] at hd4
        exact Or.inl ⟨hd4, fun q => he (by rw [q])⟩)
    have hwd : wid (M.1, asg M.2.1 a c, cU M.2.2.1 c (max (M.2.2.1 c 0) (a 1)) (M.2.2.1 c 1), M.2.2.2) ≤ wid M := by
      refine wid_le (fun d hd q => ?_)
      obtain ⟨x, hx, y, hy, hx4, hy4, hxy⟩ := q
      obtain ⟨e, he, hke, h4e⟩ := asg_in hx
      obtain ⟨f, hf, hkf, h4f⟩ := asg_in hy
      rw [hke 1 (by decide), hkf 1 (by decide)] at hxy
      have hxy : M.1 3 < e 1 - f 1 := hxy
      rcases h4e with ⟨g1, g2⟩ | ⟨g1, g2⟩
      · have : e = a := hn.inj he haL g1
        subst this
        rw [g2, aU_s] at hx4
        have hdc : c = d := by omega
        subst hdc
        rcases h4f with ⟨k1, k2⟩ | ⟨k1, k2⟩
        · have : f = e := hn.inj hf haL k1
          subst this; omega
        · rw [k2] at hy4
          have := (c2.2.1 f hf hy4).2
          omega
      · rw [g2] at hx4
        rcases h4f with ⟨k1, k2⟩ | ⟨k1, k2⟩
        · have : f = a := hn.inj hf haL k1
          subst this
          rw [k2, aU_s] at hy4
          have hdc : c = d := by omega
          subst hdc
          have := ((hC c hd).1 ⟨e, he, hx4⟩).1 e he hx4
          have := c2.2.2
          omega
        · rw [k2] at hy4
          exact ⟨e, he, f, hf, hx4, hy4, hxy⟩
    unfold mu; omega
  · have hb := bhn_lt (M' := (aU M.1 12 (M.1 12 + 1), asg M.2.1 a c, cU M.2.2.1 c (a 1) (M.1 4), M.2.2.2)) hn ha rfl (fun b k hk => asg0 b k hk) (fun d hd hd4 => by
      by_cases he : d 0 = a 0
      · rw [if_pos he, aU_s] at hd4; omega
      · rw [if_neg he] at hd4
        exact Or.inl ⟨hd4, fun q => he (by rw [q])⟩)
    have hwd : wid (aU M.1 12 (M.1 12 + 1), asg M.2.1 a c, cU M.2.2.1 c (a 1) (M.1 4), M.2.2.2) ≤ wid M := by
      refine wid_le (fun d hd q => ?_)
      obtain ⟨x, hx, y, hy, hx4, hy4, hxy⟩ := q
      obtain ⟨e, he, hke, h4e⟩ := asg_in hx
      obtain ⟨f, hf, hkf, h4f⟩ := asg_in hy
      rw [hke 1 (by decide), hkf 1 (by decide)] at hxy
      have hxy : aU M.1 12 (M.1 12 + 1) 3 < e 1 - f 1 := hxy
      rw [aU_n (by decide)] at hxy
      have hno := fun z hz => CI_none (hC c (by omega)) hA c3 z hz
      rcases h4e with ⟨g1, g2⟩ | ⟨g1, g2⟩
      · have : e = a := hn.inj he haL g1
        subst this
        rw [g2, aU_s] at hx4
        have hdc : c = d := by omega
        subst hdc
        rcases h4f with ⟨k1, k2⟩ | ⟨k1, k2⟩
        · have : f = e := hn.inj hf haL k1
          subst this; omega
        · rw [k2] at hy4
          exact absurd hy4 (hno f hf)
      · rw [g2] at hx4
        rcases h4f with ⟨k1, k2⟩ | ⟨k1, k2⟩
        · have : f = a := hn.inj hf haL k1
          subst this
          rw [k2, aU_s] at hy4
          have hdc : c = d := by omega
          subst hdc
          exact absurd hx4 (hno e he)
        · rw [k2] at hy4
          exact ⟨e, he, f, hf, hx4, hy4, hxy⟩
    unfold mu; omega
  · have hL : ∀ x, x ∈ asg (uns M.2.1 c) a c → ∃ e, e ∈ M.2.1 ∧ (∀ k, k ≠ 4 → x k = e k) ∧ ((e = a ∧ x 4 = c) ∨ (e ≠ a ∧ e 4 ≠ c ∧ x 4 = e 4) ∨ (e 4 = c ∧ x 4 = -1005)) := by
      intro x hx
      obtain ⟨y, hy, hky, h4y⟩ := asg_in hx
      obtain ⟨e, he, hke, h4e⟩ := uns_in hy
      refine ⟨e, he, fun k hk => by rw [hky k hk, hke k hk], ?_⟩
      rcases h4y with ⟨g1, g2⟩ | ⟨g1, g2⟩
      · rw [hke 0 (by decide)] at g1
        exact Or.inl ⟨hn.inj he haL g1, by rw [g2, aU_s]⟩
      · rcases h4e with ⟨k1, k2⟩ | ⟨k1, k2⟩
        · exact Or.inr (Or.inr ⟨k1, by rw [g2, k2, aU_s]⟩)
        · refine Or.inr (Or.inl ⟨fun q => g1 ?_, k1, by rw [g2, k2]⟩)
          rw [hke 0 (by decide), q]
    have hnw : ¬ wide (aU (aU M.1 12 (M.1 12 + 1)) 13 (M.1 13 + 1), asg (uns M.2.1 c) a c, cU M.2.2.1 c (a 1) (M.1 4), M.2.2.2) c := by
      rintro ⟨x, hx, y, hy, hx4, hy4, hxy⟩
      have hxy : aU (aU M.1 12 (M.1 12 + 1)) 13 (M.1 13 + 1) 3 < x 1 - y 1 := hxy
      rw [aU_n (by decide), aU_n (by decide)] at hxy
      obtain ⟨e, he, hke, h4e⟩ := hL x hx
      obtain ⟨f, hf, hkf, h4f⟩ := hL y hy
      rw [hke 1 (by decide), hkf 1 (by decide)] at hxy
      have e1 : e = a := by
        rcases h4e with ⟨g, -⟩ | ⟨-, g1, g2⟩ | ⟨-, g⟩
        · exact g
        · rw [g2] at hx4; exact absurd hx4 g1
        · omega
      have f1 : f = a := by
        rcases h4f with ⟨g, -⟩ | ⟨-, g1, g2⟩ | ⟨-, g⟩
        · exact g
        · rw [g2] at hy4; exact absurd hy4 g1
        · omega
      rw [e1, f1] at hxy
      omega
    have hwl : ∀ d, d < 4 → wide (aU (aU M.1 12 (M.1 12 + 1)) 13 (M.1 13 + 1), asg (uns M.2.1 c) a c, cU M.2.2.1 c (a 1) (M.1 4), M.2.2.2) d → wide M d := by
      intro d hd q
      by_cases hdc : d = c
      · rw [hdc] at q; exact absurd q hnw
      · obtain ⟨x, hx, y, hy, hx4, hy4, hxy⟩ := q
        have hxy : aU (aU M.1 12 (M.1 12 + 1)) 13 (M.1 13 + 1) 3 < x 1 - y 1 := hxy
        rw [aU_n (by decide), aU_n (by decide)] at hxy
        obtain ⟨e, he, hke, h4e⟩ := hL x hx
        obtain ⟨f, hf, hkf, h4f⟩ := hL y hy
        rw [hke 1 (by decide), hkf 1 (by decide)] at hxy
        have e1 : e 4 = d := by
          rcases h4e with ⟨-, g⟩ | ⟨-, -, g2⟩ | ⟨-, g⟩
          · omega
          · rw [← g2]; exact hx4
          · omega
        have f1 : f 4 = d := by
          rcases h4f with ⟨-, g⟩ | ⟨-, -, g2⟩ | ⟨-, g⟩
          · omega
          · rw [← g2]; exact hy4
          · omega
        exact ⟨e, he, f, hf, e1, f1, hxy⟩
    by_cases hwc : wide M c
    · have h1 := wid_lt hwl (c := c) (by omega) hwc hnw
      have h2 : bhn (aU (aU M.1 12 (M.1 12 + 1)) 13 (M.1 13 + 1), asg (uns M.2.1 c) a c, cU M.2.2.1 c (a 1) (M.1 4), M.2.2.2) ≤ 20 := Nat.le_trans (by unfold bhn; exact List.countP_le_length) hMI'.2.1
      unfold mu; omega
    · have h1 := wid_le hwl
      have hcn : M.2.2.1 c 0 ≠ -1005 := c3 c c1
      have hcc := (hC c (by omega)).1 (CI_has (hC c (by omega)) hcn)
      obtain ⟨g1, ⟨z, hz, hz4, hz1⟩, -⟩ := hcc
      -- those sent off are behind a
      have hbeh : ∀ d, d ∈ M.2.1 → d 4 = c → bef a d := by
        intro d hd hd4
        have hnj : ¬ jnb M (a 1) c := c2 c c1
        have key : M.1 3 < M.2.2.1 c 0 - a 1 := by
          refine Classical.byContradiction (fun q => hnj ⟨hcn, fun x hx hx4 => ?_, by omega⟩)
          have w1 : ¬ M.1 3 < z 1 - x 1 := fun q2 => hwc ⟨z, hz, x, hx, hz4, hx4, q2⟩
          omega
        have w1 : ¬ M.1 3 < z 1 - d 1 := fun q2 => hwc ⟨z, hz, d, hd, hz4, hd4, q2⟩
        unfold bef
        omega
      have hb := bhn_lt (M' := (aU (aU M.1 12 (M.1 12 + 1)) 13 (M.1 13 + 1), asg (uns M.2.1 c) a c, cU M.2.2.1 c (a 1) (M.1 4), M.2.2.2)) (f := fun b => (fun b => if b 0 = a 0 then aU b 4 c else b) ((fun b => if b 4 = (c : Int) then aU b 4 (-1005) else b) b)) hn ha (by show asg (uns M.2.1 c) a c = _; unfold asg uns; rw [List.map_map]; rfl)
        (fun b k hk => by dsimp only; rw [asg0 _ k hk, uns0 b k hk])
        (fun d hd hd4 => by
          dsimp only at hd4
          rw [uns0 d 0 (by decide)] at hd4
          by_cases he : d 0 = a 0
          · rw [if_pos he, aU_s] at hd4; omega
          · rw [if_neg he] at hd4
            by_cases hdc : d 4 = c
            · exact Or.inr (hbeh d hd hdc)
            · rw [if_neg hdc] at hd4
              exact Or.inl ⟨hd4, fun q => he (by rw [q])⟩)
      unfold mu; omega

