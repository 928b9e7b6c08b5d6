/-! ===== the other class as a whole: its rows, its past ===== -/
theorem RepR.cpy {f w : Ar} {M : Ms} (h : RepR f M) (hl : M.2.1.length ≤ 20) (hl8 : M.2.2.2.length ≤ 8) (hw : ∀ k, k < 195 → w k = f k) : RepR w M := by
  obtain ⟨⟨s2, s0⟩, hA, hc, hl2, hlg⟩ := h
  refine ⟨⟨by rw [hw 2 (by omega)]; exact s2, fun m hm hm2 => by rw [hw m (by omega)]; exact s0 m hm hm2⟩, hA.eq (fun q h1 h2 => hw q (by omega)), fun c hc4 => by rw [hw _ (by omega), hw _ (by omega)]; exact hc c hc4, by rw [hw 194 (by omega)]; exact hl2, fun j e he q hq => ?_⟩
  have := log_lt he
  rw [hw _ (by omega)]
  exact hlg j e he q hq
theorem log_lt' {α : Type} {g : List α} {j : Nat} {e : α} (h : g[j]? = some e) : j < g.length := by
  rcases Nat.lt_or_ge j g.length with q | q
  · exact q
  · rw [List.getElem?_eq_none q] at h; cases h
/-- row a2 has, from x3 on, what row a0 has from x1 on -/
def LayP (G G' : Mm) (a0 x1 a2 x3 : Nat) : Prop := RO G G' a2 ∧ (∀ k, k < 195 → G'.1 a2 (x3 + k) = G.1 a0 (x1 + k)) ∧ ∀ q, q < x3 ∨ x3 + 195 ≤ q → G'.1 a2 q = G.1 a2 q
theorem sp_lay_16_16 {G : Mm} {a0 x1 a2 x3 : Nat} {Q : dp_Ps} (hne : a0 ≠ a2) (h1 : x1 + 195 ≤ 195) (h3 : x3 + 195 ≤ 195) (h : ∀ G', LayP G G' a0 x1 a2 x3 → Q (jI 0) G') : Sp 81 5 [vR 16 a0, vI (jI (x1 : Int)), vR 16 a2, vI (jI (x3 : Int))] G Q := by
  apply vcX8_lays_16_16
  have loop : ∀ m k : Nat, ∀ G1 : Mm, m = 195 - k → k ≤ 195 → RO G G1 a2 → (∀ q, q < k → G1.1 a2 (x3 + q) = G.1 a0 (x1 + q)) → (∀ q, q < x3 ∨ x3 + 195 ≤ q → G1.1 a2 q = G.1 a2 q) →
      Wp 81 3 [some (vR 16 a0), some (vI (jI (x1 : Int))), some (vR 16 a2), some (vI (jI (x3 : Int))), some (vI (jI (k : Int)))] [] G1 Q := by
    intro m
    induction m with
    | zero =>
      intro k G1 hm hk hO hd ho
      apply vcX8_lays_3_16_16
      rw [jI_le (inR_s (by omega) (by omega)) (inR_n (by omega))]
      exact ⟨fun _ => h G1 ⟨hO, fun q hq => hd q (by omega), ho⟩, fun q => by omega⟩
    | succ m ih =>
      intro k G1 hm hk hO hd ho
      apply vcX8_lays_3_16_16
      rw [jI_le (inR_s (by omega) (by omega)) (inR_n (by omega))]
      simp only [jI_add]
      refine ⟨fun q => by omega, fun _ => ⟨jI_in (by omega) (by omega) (by omega), jI_in (by omega) (by omega) (by omega), ?_⟩⟩
      rintro _ rfl
      have c1 : (jI ((x1 : Int) + (k : Int))).toNatClampNeg = x1 + k := by rw [jI_cl (by omega) (by omega)]; omega
      have c3 : (jI ((x3 : Int) + (k : Int))).toNatClampNeg = x3 + k := by rw [jI_cl (by omega) (by omega)]; omega
      rw [c1, c3, hO.2 a0 hne, show ((k : Int) + 1) = ((k + 1 : Nat) : Int) by omega]
      refine ih (k + 1) _ (by omega) (by omega) (hO.tr RO.wr) (fun q hq => ?_) (fun q hq => ?_)
      · by_cases hqk : q = k
        · rw [hqk, wI_s]
        · rw [wI_n (by omega)]; exact hd q (by omega)
      · rw [wI_n (by omega)]; exact ho q hq
  exact loop 195 0 G (by omega) (by omega) RO.rf (fun q hq => by omega) (fun _ _ => rfl)
theorem sp_lay_16_17 {G : Mm} {a0 x1 a2 x3 : Nat} {Q : dp_Ps} (hne : a0 ≠ a2) (h1 : x1 + 195 ≤ 195) (h3 : x3 + 195 ≤ 780) (h : ∀ G', LayP G G' a0 x1 a2 x3 → Q (jI 0) G') : Sp 81 5 [vR 16 a0, vI (jI (x1 : Int)), vR 17 a2, vI (jI (x3 : Int))] G Q := by
  apply vcX8_lays_16_17
  have loop : ∀ m k : Nat, ∀ G1 : Mm, m = 195 - k → k ≤ 195 → RO G G1 a2 → (∀ q, q < k → G1.1 a2 (x3 + q) = G.1 a0 (x1 + q)) → (∀ q, q < x3 ∨ x3 + 195 ≤ q → G1.1 a2 q = G.1 a2 q) →
      Wp 81 3 [some (vR 16 a0), some (vI (jI (x1 : Int))), some (vR 17 a2), some (vI (jI (x3 : Int))), some (vI (jI (k : Int)))] [] G1 Q := by
    intro m
    induction m with
    | zero =>
      intro k G1 hm hk hO hd ho
      apply vcX8_lays_3_16_17
      rw [jI_le (inR_s (by omega) (by omega)) (inR_n (by omega))]
      exact ⟨fun _ => h G1 ⟨hO, fun q hq => hd q (by omega), ho⟩, fun q => by omega⟩
    | succ m ih =>
      intro k G1 hm hk hO hd ho
      apply vcX8_lays_3_16_17
      rw [jI_le (inR_s (by omega) (by omega)) (inR_n (by omega))]
      simp only [jI_add]
      refine ⟨fun q => by omega, fun _ => ⟨jI_in (by omega) (by omega) (by omega), jI_in (by omega) (by omega) (by omega), ?_⟩⟩
      rintro _ rfl
      have c1 : (jI ((x1 : Int) + (k : Int))).toNatClampNeg = x1 + k := by rw [jI_cl (by omega) (by omega)]; omega
      have c3 : (jI ((x3 : Int) + (k : Int))).toNatClampNeg = x3 + k := by rw [jI_cl (by omega) (by omega)]; omega
      rw [c1, c3, hO.2 a0 hne, show ((k : Int) + 1) = ((k + 1 : Nat) : Int) by omega]
      refine ih (k + 1) _ (by omega) (by omega) (hO.tr RO.wr) (fun q hq => ?_) (fun q hq => ?_)
      · by_cases hqk : q = k
        · rw [hqk, wI_s]
        · rw [wI_n (by omega)]; exact hd q (by omega)
      · rw [wI_n (by omega)]; exact ho q hq
  exact loop 195 0 G (by omega) (by omega) RO.rf (fun q hq => by omega) (fun _ _ => rfl)
theorem sp_lay_17_16 {G : Mm} {a0 x1 a2 x3 : Nat} {Q : dp_Ps} (hne : a0 ≠ a2) (h1 : x1 + 195 ≤ 780) (h3 : x3 + 195 ≤ 195) (h : ∀ G', LayP G G' a0 x1 a2 x3 → Q (jI 0) G') : Sp 81 5 [vR 17 a0, vI (jI (x1 : Int)), vR 16 a2, vI (jI (x3 : Int))] G Q := by
  apply vcX8_lays_17_16
  have loop : ∀ m k : Nat, ∀ G1 : Mm, m = 195 - k → k ≤ 195 → RO G G1 a2 → (∀ q, q < k → G1.1 a2 (x3 + q) = G.1 a0 (x1 + q)) → (∀ q, q < x3 ∨ x3 + 195 ≤ q → G1.1 a2 q = G.1 a2 q) →
      Wp 81 3 [some (vR 17 a0), some (vI (jI (x1 : Int))), some (vR 16 a2), some (vI (jI (x3 : Int))), some (vI (jI (k : Int)))] [] G1 Q := by
    intro m
    induction m with
    | zero =>
      intro k G1 hm hk hO hd ho
      apply vcX8_lays_3_17_16
      rw [jI_le (inR_s (by omega) (by omega)) (inR_n (by omega))]
      exact ⟨fun _ => h G1 ⟨hO, fun q hq => hd q (by omega), ho⟩, fun q => by omega⟩
    | succ m ih =>
      intro k G1 hm hk hO hd ho
      apply vcX8_lays_3_17_16
      rw [jI_le (inR_s (by omega) (by omega)) (inR_n (by omega))]
      simp only [jI_add]
      refine ⟨fun q => by omega, fun _ => ⟨jI_in (by omega) (by omega) (by omega), jI_in (by omega) (by omega) (by omega), ?_⟩⟩
      rintro _ rfl
      have c1 : (jI ((x1 : Int) + (k : Int))).toNatClampNeg = x1 + k := by rw [jI_cl (by omega) (by omega)]; omega
      have c3 : (jI ((x3 : Int) + (k : Int))).toNatClampNeg = x3 + k := by rw [jI_cl (by omega) (by omega)]; omega
      rw [c1, c3, hO.2 a0 hne, show ((k : Int) + 1) = ((k + 1 : Nat) : Int) by omega]
      refine ih (k + 1) _ (by omega) (by omega) (hO.tr RO.wr) (fun q hq => ?_) (fun q hq => ?_)
      · by_cases hqk : q = k
        · rw [hqk, wI_s]
        · rw [wI_n (by omega)]; exact hd q (by omega)
      · rw [wI_n (by omega)]; exact ho q hq
  exact loop 195 0 G (by omega) (by omega) RO.rf (fun q hq => by omega) (fun _ _ => rfl)
/-- a row that stands for a state -/
def KR (G : Mm) (a : Nat) (o : Option Ms) : Prop := ∀ M, o = some M → (∃ f, RV G a f ∧ RepR f M) ∧ M.2.1.length ≤ 20 ∧ M.2.2.2.length ≤ 8
theorem RV.row {G : Mm} {a : Nat} : RV G a (fun k => (G.1 a k).toInt) := fun k => (jI_of _).symm
theorem KR.fr {G G' : Mm} {a : Nat} {o : Option Ms} (h : KR G a o) (hf : G'.1 a = G.1 a) : KR G' a o := by
  intro M hM
  obtain ⟨⟨f, h1, h2⟩, h3⟩ := h M hM
  exact ⟨⟨f, fun k => by rw [hf]; exact h1 k, h2⟩, h3⟩
theorem KR.mk {G : Mm} {a : Nat} {f : Ar} {M : Ms} {T K : Int} (h1 : RV G a f) (h2 : RepR f M) (hB : BI M T K) : KR G a (some M) := fun N q => by rw [← Option.some.inj q]; exact ⟨⟨f, h1, h2⟩, hB.2.1, hB.l8⟩
/-- what is laid stands for the same -/
theorem KR.lay {G G' : Mm} {a0 a2 : Nat} {M : Ms} (h : KR G a0 (some M)) (hl : ∀ k, k < 195 → G'.1 a2 k = G.1 a0 k) : KR G' a2 (some M) := by
  intro N q
  have q := Option.some.inj q
  subst q
  obtain ⟨⟨f, h1, h2⟩, h3, h4⟩ := h M rfl
  refine ⟨⟨fun k => if k < 195 then f k else (G'.1 a2 k).toInt, fun k => ?_, h2.cpy h3 h4 (fun k hk => if_pos hk)⟩, h3, h4⟩
  show G'.1 a2 k = jI (if k < 195 then f k else (G'.1 a2 k).toInt)
  by_cases hk : k < 195
  · rw [if_pos hk, hl k hk, h1 k]
  · rw [if_neg hk, jI_of]
/-- the past: the oldest first -/
def HR (G : Mm) (A : Nat) (H : List Ms) : Prop := G.2 A 2 = A + 3 ∧ G.1 A 3 = jI (H.length : Int) ∧ H.length ≤ 4 ∧ ∀ (i : Nat) (N : Ms), H[i]? = some N → (∃ f : Ar, (∀ k, k < 195 → G.1 (A + 3) (195 * i + k) = jI (f k)) ∧ RepR f N) ∧ N.2.1.length ≤ 20 ∧ N.2.2.2.length ≤ 8
/-- only the past and its length have changed -/
def RZ (G G' : Mm) (A : Nat) : Prop := G'.2 = G.2 ∧ ∀ q k, q ≠ A + 3 → ¬ (q = A ∧ k = 3) → G'.1 q k = G.1 q k
theorem RZ.rf {G : Mm} {A : Nat} : RZ G G A := ⟨rfl, fun _ _ _ _ => rfl⟩
theorem RZ.tr {G G1 G2 : Mm} {A : Nat} (h : RZ G G1 A) (h' : RZ G1 G2 A) : RZ G G2 A := ⟨h'.1.trans h.1, fun q k h1 h2 => (h'.2 q k h1 h2).trans (h.2 q k h1 h2)⟩
theorem RO.z {G G' : Mm} {A : Nat} (h : RO G G' (A + 3)) : RZ G G' A := ⟨h.1, fun q k h1 _ => by rw [h.2 q h1]⟩
theorem RZ.w3 {G : Mm} {A : Nat} {x : Int32} : RZ G (wI G A 3 x) A := ⟨rfl, fun q k _ h2 => wI_n h2⟩
/-- laid at the end -/
theorem sp_rlay {G : Mm} {A i : Nat} {H : List Ms} {N : Ms} {Q : dp_Ps} (h0 : G.2 A 0 = A + 1) (hH : HR G A H) (hN : KR G (A + 1) (some N)) (hi : H.length = i) (hi4 : i < 4)
    (h : ∀ G', HR G' A (H ++ [N]) → RZ G G' A → Q (jI 0) G') : Sp 81 5 [vR 16 (G.2 A 0), vI (jI 0), vR 17 (G.2 A 2), vI (jI 195 * G.1 A 3)] G (fun _ G3 => ∀ G5 : Mm, G5 = wI G3 A 3 (G3.1 A 3 + jI 1) → Q (jI 0) G5) := by
  obtain ⟨h2, h3, h4, h5⟩ := hH
  rw [h0, h2, h3, hi, jI_mul, show (195 : Int) * (i : Int) = ((195 * i : Nat) : Int) by omega]
  refine sp_lay_16_17 (x1 := 0) (by omega) (by omega) (by omega) (fun G2 hl => ?_)
  rintro _ rfl
  obtain ⟨hO, hd, ho⟩ := hl
  have e3 : G2.1 A 3 = jI (i : Int) := by rw [hO.2 A (by omega), h3, hi]
  rw [e3, jI_add]
  refine h _ ⟨?_, ?_, by rw [List.length_append, hi]; show i + 1 ≤ 4; omega, fun j M hj => ?_⟩ (hO.z.tr RZ.w3)
  · show G2.2 A 2 = _; rw [hO.1]; exact h2
  · rw [wI_s, List.length_append, hi]; rfl
  · by_cases hji : j = i
    · subst hji
      rw [List.getElem?_append_right (by omega), hi, Nat.sub_self] at hj
      have hj : N = M := Option.some.inj hj
      subst hj
      obtain ⟨⟨f, g1, g2⟩, g3⟩ := hN N rfl
      refine ⟨⟨f, fun k hk => ?_, g2⟩, g3⟩
      rw [wI_n (by omega), hd k hk, Nat.zero_add]
      exact g1 k
    · have hjl := log_lt' hj
      rw [List.length_append, hi] at hjl
      have hjl : j < i + 1 := hjl
      rw [List.getElem?_append_left (by omega)] at hj
      obtain ⟨⟨f, g1, g2⟩, g3⟩ := h5 j M hj
      refine ⟨⟨f, fun k hk => ?_, g2⟩, g3⟩
      rw [wI_n (by omega), ho _ (by omega)]
      exact g1 k hk
theorem sp_records {G : Mm} {A : Nat} {H : List Ms} {N : Ms} {Q : dp_Ps} (h0 : G.2 A 0 = A + 1) (hH : HR G A H) (hN : KR G (A + 1) (some N))
    (h : ∀ G', HR G' A (push H N) → RZ G G' A → Q (jI 0) G') : Sp 82 2 [vR 8 A] G Q := by
  have hH' := hH
  obtain ⟨h2, h3, h4, h5⟩ := hH'
  apply vcX8_records
  rw [h3, jI_inj (inR_n (by omega)) (inR_s (by omega) (by omega))]
  refine ⟨fun q => ?_, fun q => ?_⟩
  · have hl : H.length = 4 := by omega
    have hp : push H N = H.tail ++ [N] := by unfold push; rw [if_pos hl]
    rw [hp] at h
    have loop : ∀ m x : Nat, ∀ G1 : Mm, m = 585 - x → x ≤ 585 → RO G G1 (A + 3) → (∀ q, q < 780 → G1.1 (A + 3) q = if q < x then G.1 (A + 3) (q + 195) else G.1 (A + 3) q) → Wp 82 10 [some (vR 8 A), some (vI (jI (x : Int)))] [] G1 Q := by
      intro m
      induction m with
      | zero =>
        intro x G1 hm hx hO hd
        have e3 : G1.1 A 3 = jI (4 : Int) := by rw [hO.2 A (by omega), h3, hl]; rfl
        apply vcX8_records_10
        rw [jI_le (inR_s (by omega) (by omega)) (inR_n (by omega))]
        refine ⟨fun _ => ?_, fun q => by omega⟩
        rintro _ rfl
        rw [e3, jI_sub]
        have k3 : HR (wI G1 A 3 (jI (4 - 1))) A H.tail := by
          refine ⟨by show G1.2 A 2 = _; rw [hO.1]; exact h2, by rw [wI_s, List.length_tail, hl]; rfl, by rw [List.length_tail]; omega, fun i M hi => ?_⟩
          rw [List.getElem?_tail] at hi
          have hil := log_lt' hi
          obtain ⟨⟨f, g1, g2⟩, g3⟩ := h5 (i + 1) M hi
          refine ⟨⟨f, fun k hk => ?_, g2⟩, g3⟩
          rw [wI_n (by omega), hd _ (by omega), if_pos (by omega), show 195 * i + k + 195 = 195 * (i + 1) + k by omega]
          exact g1 k hk
        refine sp_rlay (i := 3) (by show G1.2 A 0 = _; rw [hO.1]; exact h0) k3 (hN.fr (by funext k; rw [wI_n (by omega), hO.2 _ (by omega)])) (by rw [List.length_tail, hl]) (by omega) (fun G5 k5 k6 => ?_)
        exact h G5 k5 (hO.z.tr (RZ.w3.tr k6))
      | succ m ih =>
        intro x G1 hm hx hO hd
        apply vcX8_records_10
        rw [jI_le (inR_s (by omega) (by omega)) (inR_n (by omega)), hO.1, h2]
        simp only [jI_add]
        refine ⟨fun q => by omega, fun _ => ⟨jI_in (by omega) (by omega) (by omega), jI_in (by omega) (by omega) (by omega), ?_⟩⟩
        rintro _ rfl
        have c1 : (jI ((x : Int) + 195)).toNatClampNeg = x + 195 := by rw [jI_cl (by omega) (by omega)]; omega
        rw [c1, jI_cln (by omega), hd (x + 195) (by omega), if_neg (by omega), show ((x : Int) + 1) = ((x + 1 : Nat) : Int) by omega]
        refine ih (x + 1) _ (by omega) (by omega) (hO.tr RO.wr) (fun q hq => ?_)
        by_cases hqx : q = x
        · rw [hqx, wI_s, if_pos (by omega)]
        · rw [wI_n (by omega), hd q hq]
          by_cases hq2 : q < x
          · rw [if_pos hq2, if_pos (by omega)]
          · rw [if_neg hq2, if_neg (by omega)]
    exact loop 585 0 G (by omega) (by omega) RO.rf (fun q hq => by rw [if_neg (by omega)])
  · have hl : ¬ H.length = 4 := by omega
    have hp : push H N = H ++ [N] := by unfold push; rw [if_neg hl]
    rw [hp] at h
    rw [← h3]
    exact sp_rlay h0 hH hN rfl (by omega) h
theorem sp_rtakeBack {G : Mm} {A : Nat} {L : List Ms} {N : Ms} {Q : dp_Ps} (h0 : G.2 A 0 = A + 1) (hH : HR G A (L ++ [N]))
    (h : ∀ G', KR G' (A + 1) (some N) → HR G' A L → G'.2 = G.2 → (∀ q k, q ≠ A + 1 → ¬ (q = A ∧ k = 3) → G'.1 q k = G.1 q k) → Q (G'.1 A 3) G') : Sp 127 1 [vR 8 A] G Q := by
  obtain ⟨h2, h3, h4, h5⟩ := hH
  rw [List.length_append] at h3 h4
  have h4 : L.length + 1 ≤ 4 := h4
  have h3 : G.1 A 3 = jI ((L.length + 1 : Nat) : Int) := h3
  apply vcX8_undo
  rw [h3, jI_inj (inR_n (by omega)) (inR_s (by omega) (by omega))]
  refine ⟨fun q => by omega, fun _ => ?_⟩
  rintro _ rfl
  rw [jI_sub, show (((L.length + 1 : Nat) : Int) - 1) = (L.length : Int) by omega, wI_s, wI_2, h0, h2, jI_mul, show (195 : Int) * (L.length : Int) = ((195 * L.length : Nat) : Int) by omega]
  refine sp_lay_17_16 (x3 := 0) (by omega) (by omega) (by omega) (fun G2 hl => ?_)
  obtain ⟨hO, hd, ho⟩ := hl
  have hN := h5 L.length N (by rw [List.getElem?_append_right (Nat.le_refl _), Nat.sub_self]; rfl)
  obtain ⟨⟨f, g1, g2⟩, g3, g4⟩ := hN
  refine h G2 (fun M hM => ?_) ⟨?_, ?_, by omega, fun i M hi => ?_⟩ hO.1 (fun q k hq hq2 => by rw [hO.2 q hq, wI_n hq2])
  · have hM := Option.some.inj hM
    subst hM
    refine ⟨⟨fun k => if k < 195 then f k else (G2.1 (A + 1) k).toInt, fun k => ?_, g2.cpy g3 g4 (fun k hk => if_pos hk)⟩, g3, g4⟩
    show G2.1 (A + 1) k = jI (if k < 195 then f k else (G2.1 (A + 1) k).toInt)
    by_cases hk : k < 195
    · have := hd k hk
      rw [Nat.zero_add] at this
      rw [if_pos hk, this, wI_n (by omega)]
      exact g1 k hk
    · rw [if_neg hk, jI_of]
  · rw [hO.1]; exact h2
  · rw [hO.2 A (by omega), wI_s]
  · have hil := log_lt' hi
    obtain ⟨⟨f', g1', g2'⟩, g3'⟩ := h5 i M (by rw [List.getElem?_append_left hil]; exact hi)
    refine ⟨⟨f', fun k hk => ?_, g2'⟩, g3'⟩
    rw [hO.2 _ (by omega), wI_n (by omega)]
    exact g1' k hk
