/-! ===== keep, restore, undo, type, clearText: the other ===== -/
theorem sp_typR {G : Mm} {A : Nat} {Z : Zst} {c : Int} {Q : dp_Ps} (h : SysR G A Z) (hc : 0 ≤ c ∧ c ≤ 65535)
    (hq : ∀ G', SysR G' A (zTyp Z c).2 → FR A 7 G G' → Q (jI (zTyp Z c).1) G') : Sp 120 2 [vR 8 A, vI (jI c)] G Q := by
  obtain ⟨h1, h2, h3, h4, ⟨p1, p2, p3, p4⟩, ⟨t1, t2, t3, t4⟩⟩ := id h
  unfold zTyp at hq
  apply vcX8_type
  rw [t2, jI_inj (inR_n (by omega)) (inR_s (by omega) (by omega)), t1.1, jI_cln (by omega)]
  refine ⟨fun q => ?_, fun q => ⟨jI_in (by omega) (by omega) (by omega), nar_c hc, ?_⟩⟩
  · rw [if_pos (by omega)] at hq; exact hq G h FR.rf
  · rw [if_neg (by omega)] at hq
    rintro _ rfl
    rw [wI_n (by omega), t2, jI_add]
    rintro _ rfl
    rw [wI_s]
    refine hq _ ⟨h1, by rw [wI_n (by omega), wI_n (by omega)]; exact h2, h3.fr (by funext k; rw [wI_n (by omega), wI_n (by omega)]), h4.fr (by funext k; rw [wI_n (by omega), wI_n (by omega)]), ⟨p1, by rw [wI_n (by omega), wI_n (by omega)]; exact p2, p3, fun i M hi => ?_⟩, ⟨t1, by rw [wI_s]; rfl, by show Z.2.2.2.2 + 1 ≤ 60; omega, fun i hi => ?_⟩⟩ ((FR.wI (by omega)).tr (FR.wI (by omega)))
    · obtain ⟨⟨f, g1, g2⟩, g3⟩ := p4 i M hi
      exact ⟨⟨f, fun k hk => by rw [wI_n (by omega), wI_n (by omega)]; exact g1 k hk, g2⟩, g3⟩
    · have hi : i < Z.2.2.2.2 + 1 := hi
      show (wI (wI G (A + 5) Z.2.2.2.2 (jI c)) A 7 _).1 (A + 5) i = jI (if i = Z.2.2.2.2 then c else Z.2.2.2.1 i) ∧ 0 ≤ (if i = Z.2.2.2.2 then c else Z.2.2.2.1 i) ∧ (if i = Z.2.2.2.2 then c else Z.2.2.2.1 i) ≤ 65535
      rw [wI_n (by omega)]
      by_cases hin : i = Z.2.2.2.2
      · rw [hin, wI_s, if_pos rfl]; exact ⟨rfl, hc⟩
      · rw [wI_n (by omega), if_neg hin]; exact t4 i (by omega)
theorem sp_clrR {G : Mm} {A : Nat} {Z : Zst} {Q : dp_Ps} (h : SysR G A Z)
    (hq : ∀ G', SysR G' A (zClr Z).2 → FR A 7 G G' → Q (jI (zClr Z).1) G') : Sp 121 2 [vR 8 A] G Q := by
  obtain ⟨h1, h2, h3, h4, ⟨p1, p2, p3, p4⟩, ⟨t1, t2, t3, t4⟩⟩ := id h
  apply vcX8_clearText
  rw [t2]
  rintro _ rfl
  refine hq _ ⟨h1, by rw [wI_n (by omega)]; exact h2, h3.fr (by funext k; rw [wI_n (by omega)]), h4.fr (by funext k; rw [wI_n (by omega)]), ⟨p1, by rw [wI_n (by omega)]; exact p2, p3, fun i M hi => ?_⟩, ⟨t1, wI_s _ _ _ _, by show 0 ≤ 60; omega, fun i hi => by have hi : i < 0 := hi; omega⟩⟩ (FR.wI (by omega))
  obtain ⟨⟨f, g1, g2⟩, g3⟩ := p4 i M hi
  exact ⟨⟨f, fun k hk => by rw [wI_n (by omega)]; exact g1 k hk, g2⟩, g3⟩
theorem sp_undR {G : Mm} {A : Nat} {Z : Zst} {Q : dp_Ps} (h : SysR G A Z)
    (hq : ∀ G', SysR G' A (zUnd Z).2 → FR A 7 G G' → Q (jI (zUnd Z).1) G') : Sp 127 1 [vR 8 A] G Q := by
  obtain ⟨h1, h2, h3, h4, h5, ⟨t1, t2, t3, t4⟩⟩ := id h
  unfold zUnd at hq
  by_cases hH : Z.2.2.1 = []
  · rw [hH] at hq
    have := hq G
    dsimp only [List.getLast?] at this
    have p3 := h5.2.1
    apply vcX8_undo
    rw [p3, hH]
    exact ⟨fun _ => this h FR.rf, fun z => absurd rfl z⟩
  · obtain ⟨L, N, hL⟩ : ∃ L N, Z.2.2.1 = L ++ [N] := ⟨Z.2.2.1.dropLast, Z.2.2.1.getLast hH, (List.dropLast_concat_getLast hH).symm⟩
    rw [hL] at hq h5
    rw [List.getLast?_append, List.dropLast_concat] at hq
    have hq : ∀ G', SysR G' A (N, Z.2.1, L, Z.2.2.2) → FR A 7 G G' → Q (jI (L.length : Int)) G' := hq
    refine sp_rtakeBack h1.1 h5 (fun G1 k1 k2 k3 k4 => ?_)
    have hr : ∀ q, q ≠ A + 1 → q ≠ A → G1.1 q = G.1 q := fun q g1 g2 => by funext k; exact k4 q k g1 (by omega)
    rw [k2.2.1]
    refine hq G1 ⟨by rw [k3]; exact h1, by rw [k4 A 5 (by omega) (by omega)]; exact h2, k1, h4.fr (hr _ (by omega) (by omega)), k2, ⟨by rw [k3]; exact t1, by rw [k4 A 7 (by omega) (by omega)]; exact t2, t3, fun i hi => by rw [hr _ (by omega) (by omega)]; exact t4 i hi⟩⟩ (fun q hq => ⟨hr q (by omega) (by omega), by rw [k3]⟩)
theorem sp_keeR {G : Mm} {A : Nat} {Z : Zst} {T K : Int} {Q : dp_Ps} (h : SysR G A Z) (hz : ZI Z T K)
    (hq : ∀ G', SysR G' A (zKee Z).2 → FR A 7 G G' → Q (jI (zKee Z).1) G') : Sp 128 1 [vR 8 A] G Q := by
  obtain ⟨h1, h2, h3, h4, ⟨p1, p2, p3, p4⟩, ⟨t1, t2, t3, t4⟩⟩ := id h
  obtain ⟨f, hV, hR⟩ := h3.get
  apply vcX8_keep
  rw [h1.1, h1.2.2]
  refine sp_lay_16_16 (x1 := 0) (x3 := 0) (by omega) (by omega) (by omega) (fun G1 hl => ?_)
  obtain ⟨hO, hd, ho⟩ := hl
  rintro _ rfl
  have hr : ∀ q, q ≠ A + 4 → q ≠ A → (wI G1 A 5 (jI 1)).1 q = G.1 q := fun q g1 g2 => by funext k; rw [wI_n (by omega), hO.2 q g1]
  have hA : ∀ k, k ≠ 5 → (wI G1 A 5 (jI 1)).1 A k = G.1 A k := fun k hk => by rw [wI_n (by omega), hO.2 A (by omega)]
  have e2 : (wI G1 A 5 (jI 1)).2 = G.2 := hO.1
  have e0 : (wI G1 A 5 (jI 1)).1 (A + 1) 0 = jI (Z.1.1 0) := by rw [hr _ (by omega) (by omega), hV 0, hR.1.2 0 (by decide) (by decide)]; rfl
  rw [e2, h1.1, e0]
  refine hq _ ⟨by rw [e2]; exact h1, by rw [wI_s]; rfl, h3.fr (hr _ (by omega) (by omega)), h3.lay (fun k hk => ?_), ⟨by rw [e2]; exact p1, by rw [hA 3 (by omega)]; exact p2, p3, fun i M hi => ?_⟩, ⟨by rw [e2]; exact t1, by rw [hA 7 (by omega)]; exact t2, t3, fun i hi => by rw [hr _ (by omega) (by omega)]; exact t4 i hi⟩⟩ (fun q hq => ⟨hr q (by omega) (by omega), by rw [e2]⟩)
  · have := hd k hk
    rw [Nat.zero_add] at this
    rw [wI_n (by omega)]; exact this
  · obtain ⟨⟨f, g1, g2⟩, g3⟩ := p4 i M hi
    exact ⟨⟨f, fun k hk => by rw [hr (A + 3) (by omega) (by omega)]; exact g1 k hk, g2⟩, g3⟩
theorem sp_resR {G : Mm} {A : Nat} {Z : Zst} {Q : dp_Ps} (h : SysR G A Z)
    (hq : ∀ G', SysR G' A (zRes Z).2 → FR A 7 G G' → Q (jI (zRes Z).1) G') : Sp 129 1 [vR 8 A] G Q := by
  unfold zRes at hq
  apply vcX8_restore
  rw [h.2.1]
  cases hf : Z.2.1 with
  | none =>
    rw [hf] at hq
    exact ⟨fun _ => hq G h FR.rf, fun z => absurd rfl z⟩
  | some M =>
    rw [hf] at hq
    refine ⟨fun z => absurd z (show ¬ jI 1 = jI 0 by decide), fun _ => ?_⟩
    refine sp_recR h (fun G1 k1 k2 => ?_)
    obtain ⟨g1, g2, g3, g4, g5⟩ := id k1
    have g4' : KR G1 (A + 4) (some M) := by rw [← hf]; exact g4
    rw [g1.1, g1.2.2]
    refine sp_lay_16_16 (x1 := 0) (x3 := 0) (by omega) (by omega) (by omega) (fun G2 hl => ?_)
    obtain ⟨hO, hd, ho⟩ := hl
    have k3 : KR G2 (A + 1) (some M) := g4'.lay (fun k hk => by
      have := hd k hk
      rw [Nat.zero_add] at this
      exact this)
    have k5 := k1.main hO k3
    obtain ⟨f, hV, hR⟩ := k3.get
    rw [k5.1.1, hV 0, hR.1.2 0 (by decide) (by decide)]
    have k6 : SysR G2 A (M, some M, push Z.2.2.1 Z.1, Z.2.2.2) := by
      have := k5
      dsimp only at this
      rw [hf] at this
      exact this
    exact hq G2 k6 (k2.FR.tr (hO.FR (by omega)))
