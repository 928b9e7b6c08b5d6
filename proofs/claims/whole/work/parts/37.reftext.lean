/-! ===== the other class reads the list ===== -/
def TR (G : Mm) (A : Nat) (t : Nat → Int) (n : Nat) : Prop := (G.2 A 6 = A + 5 ∧ G.2 A 9 = A + 6) ∧ G.1 A 7 = jI (n : Int) ∧ n ≤ 60 ∧ ∀ i, i < n → G.1 (A + 5) i = jI (t i) ∧ 0 ≤ t i ∧ t i ≤ 65535
/-- only the place of reading and what is told have changed -/
def YN (G G' : Mm) (A p : Nat) : Prop := G'.2 = G.2 ∧ (∀ q k, q ≠ A + 6 → ¬ (q = A ∧ k = 8) → G'.1 q k = G.1 q k) ∧ G'.1 A 8 = jI (p : Int)
theorem YN.rf {G : Mm} {A p : Nat} (h : G.1 A 8 = jI (p : Int)) : YN G G A p := ⟨rfl, fun _ _ _ _ => rfl, h⟩
theorem YN.tr {G G1 G2 : Mm} {A p q : Nat} (h : YN G G1 A p) (h' : YN G1 G2 A q) : YN G G2 A q := ⟨h'.1.trans h.1, fun r k h1 h2 => (h'.2.1 r k h1 h2).trans (h.2.1 r k h1 h2), h'.2.2⟩
theorem YN.w8 {G : Mm} {A p : Nat} : YN G (wI G A 8 (jI (p : Int))) A p := ⟨rfl, fun q k _ h => wI_n h, wI_s _ _ _ _⟩
theorem YN.w6 {G : Mm} {A p k : Nat} {x : Int32} (h : G.1 A 8 = jI (p : Int)) : YN G (wI G (A + 6) k x) A p := ⟨rfl, fun q k h1 _ => wI_n (fun z => h1 z.1), by rw [wI_n (by omega)]; exact h⟩
theorem TR.yn {G G' : Mm} {A n p : Nat} {t : Nat → Int} (h : TR G A t n) (hx : YN G G' A p) : TR G' A t n := by
  obtain ⟨h1, h2, h3, h4⟩ := h
  refine ⟨by rw [hx.1]; exact h1, by rw [hx.2.1 A 7 (by omega) (by omega)]; exact h2, h3, fun i hi => ?_⟩
  rw [hx.2.1 (A + 5) i (by omega) (by omega)]
  exact h4 i hi
theorem sp_sees {G : Mm} {A n p : Nat} {t : Nat → Int} {lo hi : Int} {Q : dp_Ps} (hT : TR G A t n) (hp : G.1 A 8 = jI (p : Int)) (hpn : p ≤ n) (hlo : inR lo) (hhi : inR hi)
    (h1 : p < n → lo ≤ t p → t p ≤ hi → Q (jI 1) G) (h0 : ¬ (p < n ∧ lo ≤ t p ∧ t p ≤ hi) → Q (jI 0) G) : Sp 122 3 [vR 8 A, vI (jI lo), vI (jI hi)] G Q := by
  obtain ⟨⟨r6, r9⟩, g7, hn, g⟩ := hT
  apply vcX8_sees
  rw [hp, g7, jI_le (inR_n (by omega)) (inR_n (by omega)), r6, jI_cln (by omega)]
  refine ⟨fun q => h0 (by omega), fun q => ⟨jI_in (by omega) (by omega) (by omega), ?_⟩⟩
  obtain ⟨k1, k2, k3⟩ := g p (by omega)
  rw [k1]
  apply vcX8_in
  rw [jI_lt ⟨by omega, by omega⟩ hlo, jI_lt hhi ⟨by omega, by omega⟩]
  exact ⟨fun q2 => ⟨fun _ => h0 (by omega), fun z => absurd rfl z⟩, fun q2 => ⟨fun q3 => ⟨fun _ => h0 (by omega), fun z => absurd rfl z⟩, fun q3 => ⟨fun z => absurd z (by decide), fun _ => h1 (by omega) (by omega) (by omega)⟩⟩⟩
theorem sp_takes {G : Mm} {A n p : Nat} {t : Nat → Int} {c : Int} {Q : dp_Ps} (hT : TR G A t n) (hp : G.1 A 8 = jI (p : Int)) (hpn : p ≤ n) (hc : inR c)
    (h1 : sg t n c p → ∀ G', YN G G' A (p + 1) → G'.1 (A + 6) = G.1 (A + 6) → Q (jI 1) G') (h0 : ¬ sg t n c p → ∀ G', YN G G' A p → G'.1 (A + 6) = G.1 (A + 6) → Q (jI 0) G') : Sp 123 3 [vR 8 A, vI (jI c)] G Q := by
  have e : ∀ x : Int32, (wI G A 8 x).1 (A + 6) = G.1 (A + 6) := fun x => by funext k; exact wI_n (by omega)
  apply vcX8_takes
  refine sp_sees hT hp hpn hc hc (fun q1 q2 q3 => ⟨fun z => absurd z (by decide), fun _ => ?_⟩) (fun q => ⟨fun _ => ?_, fun z => absurd rfl z⟩)
  · rintro _ rfl
    rw [hp, jI_add]
    exact ⟨Or.inr rfl, h1 ⟨q1, by omega⟩ _ YN.w8 (e _)⟩
  · rintro _ rfl
    rw [hp, jI_add, Int.add_zero]
    exact ⟨Or.inl rfl, h0 (fun z => q ⟨z.1, by have := z.2; omega, by have := z.2; omega⟩) _ YN.w8 (e _)⟩
theorem sp_isNum {G : Mm} {A n p cnt i : Nat} {t : Nat → Int} {lo hi : Int} {Q : dp_Ps} (hT : TR G A t n) (hp : G.1 A 8 = jI (p : Int)) (hpn : p ≤ n) (hc : G.1 A 10 = jI (cnt : Int)) (hc31 : cnt ≤ 31) (hi2 : i ≤ 2) (hlo : 0 ≤ lo ∧ lo ≤ 9) (hhi : lo ≤ hi ∧ hi ≤ 99999)
    (h0 : (pNum t n lo hi p).2 = -1 → (pNum t n lo hi p).1 = p → Q (jI 0) G) (h1 : (pNum t n lo hi p).2 ≠ -1 → ∀ G', YN G G' A (pNum t n lo hi p).1 → (∀ k, k ≠ 3 * cnt + i → G'.1 (A + 6) k = G.1 (A + 6) k) → G'.1 (A + 6) (3 * cnt + i) = jI (pNum t n lo hi p).2 → Q (jI 1) G') :
    Sp 124 5 [vR 8 A, vI (jI (i : Int)), vI (jI lo), vI (jI hi)] G Q := by
  have hd := dg_b t n p
  have hn60 := hT.2.2.1
  have hb := pNum_b (t := t) (n := n) (lo := lo) (hi := hi) hpn
  have hdg : ∀ q, dg t n q ≠ -1 ↔ (q < n ∧ 48 ≤ t q ∧ t q ≤ 57) := by
    intro q
    unfold dg
    constructor
    · intro z
      refine Classical.byContradiction (fun z2 => ?_)
      rw [if_neg z2] at z
      exact z rfl
    · intro z
      rw [if_pos z]; omega
  have hdv : ∀ q, (q < n ∧ 48 ≤ t q ∧ t q ≤ 57) → dg t n q = t q - 48 := by
    intro q z
    unfold dg
    rw [if_pos z]
  have fail : (dg t n p = -1 ∨ dg t n p < lo ∨ hi < dg t n p) → Q (jI 0) G := by
    intro z
    have e : pNum t n lo hi p = (p, -1) := by unfold pNum; rw [if_pos z]
    exact h0 (by rw [e]) (by rw [e])
  have go : ¬ (dg t n p = -1 ∨ dg t n p < lo ∨ hi < dg t n p) → vp_in (G.1 A 8) 60 ∧ (∀ G6 : Mm, G6 = wI G A 8 (G.1 A 8 + jI 1) → Wp 124 52 [some (vR 8 A), some (vI (jI (i : Int))), some (vI (jI lo)), some (vI (jI hi)), some (vI (G.1 (G.2 A 6) (G.1 A 8).toNatClampNeg - jI 48))] [] G6 Q) := by
    intro z
    have e : pNum t n lo hi p = pNl t n hi (n - (p + 1)) (p + 1) (dg t n p) := by unfold pNum; rw [if_neg z]
    rw [e] at h1
    have hz := (hdg p).mp (by omega)
    rw [hp, hT.1.1, jI_cln (by omega), (hT.2.2.2 p hz.1).1, jI_sub, jI_add, ← hdv p hz]
    refine ⟨jI_in (by omega) (by omega) (by omega), ?_⟩
    have loop : ∀ k : Nat, ∀ (p1 : Nat) (x : Int) (G1 : Mm), k = n - p1 → p1 ≤ n → YN G G1 A p1 → G1.1 (A + 6) = G.1 (A + 6) → 0 ≤ x → x ≤ hi → pNl t n hi k p1 x = pNl t n hi (n - (p + 1)) (p + 1) (dg t n p) →
        Wp 124 52 [some (vR 8 A), some (vI (jI (i : Int))), some (vI (jI lo)), some (vI (jI hi)), some (vI (jI x))] [] G1 Q := by
      intro k
      induction k with
      | zero =>
        intro p1 x G1 hk hp1 hy h6 hx0 hxh he
        have hT1 := hT.yn hy
        have e10 : G1.1 A 10 = jI (cnt : Int) := by rw [hy.2.1 A 10 (by omega) (by omega)]; exact hc
        rw [← he] at h1
        have c0 : (jI ((3 : Int) * (cnt : Int) + (i : Int))).toNatClampNeg = 3 * cnt + i := by rw [jI_cl (by omega) (by omega)]; omega
        have store : vp_in (jI ((3 : Int) * (cnt : Int) + (i : Int))) 96 ∧ (∀ G2 : Mm, G2 = wI G1 (A + 6) (3 * cnt + i) (jI x) → Q (jI 1) G2) := by
          refine ⟨jI_in (by omega) (by omega) (by omega), ?_⟩
          rintro _ rfl
          exact h1 (by show x ≠ -1; omega) _ (hy.tr (YN.w6 hy.2.2)) (fun k hk => by rw [wI_n (by omega), h6]) (wI_s _ _ _ _)
        apply vcX8_isNumber_52
        rw [e10, hT1.1.2]
        simp only [jI_mul, jI_add]
        rw [c0, jI_le ⟨by omega, by omega⟩ (inR_s (by omega) (by omega))]
        refine ⟨fun _ => store, fun _ => ?_⟩
        refine sp_sees hT1 hy.2.2 hp1 (inR_s (by omega) (by omega)) (inR_s (by omega) (by omega)) (fun q1 _ _ => by omega) (fun _ => ⟨fun _ => ?_, fun z => absurd rfl z⟩)
        rw [e10, hT1.1.2]
        simp only [jI_mul, jI_add]
        rw [c0]
        exact store
      | succ k ih =>
        intro p1 x G1 hk hp1 hy h6 hx0 hxh he
        have hT1 := hT.yn hy
        have e10 : G1.1 A 10 = jI (cnt : Int) := by rw [hy.2.1 A 10 (by omega) (by omega)]; exact hc
        rw [← he] at h1
        rw [pNl_s] at h1 he
        have c0 : (jI ((3 : Int) * (cnt : Int) + (i : Int))).toNatClampNeg = 3 * cnt + i := by rw [jI_cl (by omega) (by omega)]; omega
        have store : (x ≤ 0 ∨ dg t n p1 = -1 ∨ hi < 10 * x + dg t n p1) → vp_in (jI ((3 : Int) * (cnt : Int) + (i : Int))) 96 ∧ (∀ G2 : Mm, G2 = wI G1 (A + 6) (3 * cnt + i) (jI x) → Q (jI 1) G2) := by
          intro z
          rw [if_pos z] at h1
          refine ⟨jI_in (by omega) (by omega) (by omega), ?_⟩
          rintro _ rfl
          exact h1 (by show x ≠ -1; omega) _ (hy.tr (YN.w6 hy.2.2)) (fun k hk => by rw [wI_n (by omega), h6]) (wI_s _ _ _ _)
        apply vcX8_isNumber_52
        rw [e10, hT1.1.2]
        simp only [jI_mul, jI_add]
        rw [c0, jI_le ⟨by omega, by omega⟩ (inR_s (by omega) (by omega))]
        refine ⟨fun q => store (Or.inl q), fun q => ?_⟩
        refine sp_sees hT1 hy.2.2 hp1 (inR_s (by omega) (by omega)) (inR_s (by omega) (by omega)) (fun q1 q2 q3 => ⟨fun z => absurd z (by decide), fun _ => ?_⟩) (fun q1 => ⟨fun _ => ?_, fun z => absurd rfl z⟩)
        · have hdp := hdv p1 ⟨q1, q2, q3⟩
          rw [e10, hy.2.2, hT1.1.1, hT1.1.2, jI_cln (by omega), (hT1.2.2.2 p1 q1).1]
          simp only [jI_mul, jI_add, jI_sub]
          rw [c0, show (10 : Int) * x + t p1 - 48 = 10 * x + dg t n p1 by omega, jI_lt ⟨by omega, by omega⟩ ⟨by omega, by omega⟩]
          refine ⟨jI_in (by omega) (by omega) (by omega), fun q4 => store (Or.inr (Or.inr q4)), fun q4 => ⟨jI_in (by omega) (by omega) (by omega), ?_⟩⟩
          rintro _ rfl
          rw [if_neg (by omega)] at he
          exact ih (p1 + 1) _ _ (by omega) (by omega) (hy.tr YN.w8) (by rw [← h6]; funext r; exact wI_n (by omega)) (by omega) (by omega) he
        · rw [e10, hT1.1.2]
          simp only [jI_mul, jI_add]
          rw [c0]
          refine store (Or.inr (Or.inl ?_))
          refine Classical.byContradiction (fun z => q1 ((hdg p1).mp z))
    rintro _ rfl
    exact loop _ (p + 1) _ _ rfl (by omega) YN.w8 (by funext r; exact wI_n (by omega)) (by omega) (by omega) rfl
  apply vcX8_isNumber
  simp only [jI_add]
  rw [jI_le (inR_s (by omega) (by omega)) ⟨by omega, by omega⟩]
  refine ⟨fun q9 => ?_, fun q9 => ?_⟩
  · refine sp_sees hT hp hpn ⟨by omega, by omega⟩ ⟨by omega, by omega⟩ (fun q1 q2 q3 => ⟨fun z => absurd z (by decide), fun _ => ?_⟩) (fun q => ⟨fun _ => fail ?_, fun z => absurd rfl z⟩)
    · have := hdv p ⟨q1, by omega, by omega⟩
      have hg := go (by omega)
      exact hg
    · by_cases z : dg t n p = -1
      · exact Or.inl z
      · have z2 := (hdg p).mp z
        have z3 := hdv p z2
        omega
  · refine sp_sees hT hp hpn ⟨by omega, by omega⟩ ⟨by omega, by omega⟩ (fun q1 q2 q3 => ⟨fun z => absurd z (by decide), fun _ => ?_⟩) (fun q => ⟨fun _ => fail ?_, fun z => absurd rfl z⟩)
    · have := hdv p ⟨q1, by omega, by omega⟩
      have hg := go (by omega)
      exact hg
    · by_cases z : dg t n p = -1
      · exact Or.inl z
      · have z2 := (hdg p).mp z
        have z3 := hdv p z2
        omega
