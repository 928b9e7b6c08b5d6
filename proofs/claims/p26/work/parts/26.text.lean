/-! ===== the text: its alarms, as both read them; the class ===== -/
def dg (t : Nat → Int) (n p : Nat) : Int := if p < n ∧ 48 ≤ t p ∧ t p ≤ 57 then t p - 48 else -1
def pNl (t : Nat → Int) (n : Nat) (hi : Int) : Nat → Nat → Int → Nat × Int
  | 0, p, x => (p, x)
  | k + 1, p, x => if x ≤ 0 ∨ dg t n p = -1 ∨ hi < 10 * x + dg t n p then (p, x) else pNl t n hi k (p + 1) (10 * x + dg t n p)
def pNum (t : Nat → Int) (n : Nat) (lo hi : Int) (p : Nat) : Nat × Int := if dg t n p = -1 ∨ dg t n p < lo ∨ hi < dg t n p then (p, -1) else pNl t n hi (n - (p + 1)) (p + 1) (dg t n p)
abbrev sg (t : Nat → Int) (n : Nat) (c : Int) (p : Nat) : Prop := p < n ∧ t p = c
def tr3 (x y z : Int) : Ar := fun k => if k = 0 then x else if k = 1 then y else z
def pPer (t : Nat → Int) (n p : Nat) : Nat × Int := if sg t n 47 p then pNum t n 1 9999 (p + 1) else (p, 0)
def pRnk (t : Nat → Int) (n p : Nat) : Nat × Int := if sg t n 33 p then pNum t n 1 3 (p + 1) else (p, 0)
/-- an alarm from place p: where it stops, and the alarm -/
def pAl (t : Nat → Int) (n p : Nat) : Nat × Option Ar :=
  if (pNum t n 0 99999 p).2 = -1 then ((pNum t n 0 99999 p).1, none)
  else if (pPer t n (pNum t n 0 99999 p).1).2 = -1 then ((pPer t n (pNum t n 0 99999 p).1).1, none)
  else if (pRnk t n (pPer t n (pNum t n 0 99999 p).1).1).2 = -1 then ((pRnk t n (pPer t n (pNum t n 0 99999 p).1).1).1, none)
  else ((pRnk t n (pPer t n (pNum t n 0 99999 p).1).1).1, some (tr3 (pNum t n 0 99999 p).2 (pPer t n (pNum t n 0 99999 p).1).2 (pRnk t n (pPer t n (pNum t n 0 99999 p).1).1).2))
/-- the list: -1 or the place of the fault, and the alarms before it -/
def pLs (t : Nat → Int) (n : Nat) : Nat → Nat → List Ar → Int × List Ar
  | 0, p, L => ((p : Int), L)
  | k + 1, p, L => match (pAl t n p).2 with
    | none => (((pAl t n p).1 : Int), L)
    | some e => if sg t n 59 (pAl t n p).1 then pLs t n k ((pAl t n p).1 + 1) (L ++ [e]) else if (pAl t n p).1 = n then (-1, L ++ [e]) else (((pAl t n p).1 : Int), L ++ [e])
theorem dg_b (t : Nat → Int) (n p : Nat) : -1 ≤ dg t n p ∧ dg t n p ≤ 9 ∧ (dg t n p ≠ -1 → 0 ≤ dg t n p ∧ p < n) := by
  unfold dg
  split
  · next h => exact ⟨by omega, by omega, fun _ => ⟨by omega, h.1⟩⟩
  · exact ⟨by omega, by omega, fun q => absurd rfl q⟩
theorem pNl_s {t : Nat → Int} {n k p : Nat} {hi x : Int} : pNl t n hi (k + 1) p x = if x ≤ 0 ∨ dg t n p = -1 ∨ hi < 10 * x + dg t n p then (p, x) else pNl t n hi k (p + 1) (10 * x + dg t n p) := rfl
theorem pNl_b {t : Nat → Int} {n : Nat} {lo hi : Int} : ∀ (k p : Nat) (x : Int), p ≤ n → lo ≤ x → 0 ≤ x → x ≤ hi → p ≤ (pNl t n hi k p x).1 ∧ (pNl t n hi k p x).1 ≤ n ∧ lo ≤ (pNl t n hi k p x).2 ∧ 0 ≤ (pNl t n hi k p x).2 ∧ (pNl t n hi k p x).2 ≤ hi
  | 0, p, x, h1, h2, h3, h4 => ⟨Nat.le_refl _, h1, h2, h3, h4⟩
  | k + 1, p, x, h1, h2, h3, h4 => by
    unfold pNl
    split
    · exact ⟨Nat.le_refl _, h1, h2, h3, h4⟩
    · next h =>
      have hd := dg_b t n p
      have := pNl_b (t := t) (n := n) (lo := lo) (hi := hi) k (p + 1) (10 * x + dg t n p) (by omega) (by omega) (by omega) (by omega)
      omega
theorem pNum_b {t : Nat → Int} {n : Nat} {lo hi : Int} {p : Nat} (hp : p ≤ n) : ((pNum t n lo hi p).2 = -1 ∧ (pNum t n lo hi p).1 = p) ∨ (p < (pNum t n lo hi p).1 ∧ (pNum t n lo hi p).1 ≤ n ∧ lo ≤ (pNum t n lo hi p).2 ∧ 0 ≤ (pNum t n lo hi p).2 ∧ (pNum t n lo hi p).2 ≤ hi) := by
  unfold pNum
  split
  · exact Or.inl ⟨rfl, rfl⟩
  · have hd := dg_b t n p
    have := pNl_b (t := t) (n := n) (lo := lo) (hi := hi) (n - (p + 1)) (p + 1) (dg t n p) (by omega) (by omega) (by omega) (by omega)
    exact Or.inr (by omega)
theorem pPer_b {t : Nat → Int} {n p : Nat} (hp : p ≤ n) : p ≤ (pPer t n p).1 ∧ (pPer t n p).1 ≤ n ∧ ((pPer t n p).2 = -1 ∨ (0 ≤ (pPer t n p).2 ∧ (pPer t n p).2 ≤ 9999)) := by
  unfold pPer
  split
  · next h =>
    have h1 := h.1
    have := pNum_b (t := t) (n := n) (lo := 1) (hi := 9999) (p := p + 1) (by omega)
    omega
  · exact ⟨Nat.le_refl _, hp, Or.inr ⟨Int.le_refl 0, by show (0 : Int) ≤ _; omega⟩⟩
theorem pRnk_b {t : Nat → Int} {n p : Nat} (hp : p ≤ n) : p ≤ (pRnk t n p).1 ∧ (pRnk t n p).1 ≤ n ∧ ((pRnk t n p).2 = -1 ∨ (0 ≤ (pRnk t n p).2 ∧ (pRnk t n p).2 ≤ 3)) := by
  unfold pRnk
  split
  · next h =>
    have h1 := h.1
    have := pNum_b (t := t) (n := n) (lo := 1) (hi := 3) (p := p + 1) (by omega)
    omega
  · exact ⟨Nat.le_refl _, hp, Or.inr ⟨Int.le_refl 0, by show (0 : Int) ≤ _; omega⟩⟩
/-- an alarm that can be set by its time, period and rank -/
def aOK (e : Ar) : Prop := (0 ≤ e 0 ∧ e 0 ≤ 99999) ∧ (0 ≤ e 1 ∧ e 1 ≤ 9999) ∧ (0 ≤ e 2 ∧ e 2 ≤ 3)
theorem pAl_b {t : Nat → Int} {n p : Nat} (hp : p ≤ n) : p ≤ (pAl t n p).1 ∧ (pAl t n p).1 ≤ n ∧ ∀ e, (pAl t n p).2 = some e → p < (pAl t n p).1 ∧ aOK e := by
  have h1 := pNum_b (t := t) (n := n) (lo := 0) (hi := 99999) hp
  have h2 := pPer_b (t := t) (n := n) (p := (pNum t n 0 99999 p).1) (by omega)
  have h3 := pRnk_b (t := t) (n := n) (p := (pPer t n (pNum t n 0 99999 p).1).1) (by omega)
  unfold pAl
  split
  · exact ⟨by show p ≤ _; omega, by show _ ≤ n; omega, fun e q => by cases q⟩
  · split
    · exact ⟨by show p ≤ _; omega, by show _ ≤ n; omega, fun e q => by cases q⟩
    · split
      · exact ⟨by show p ≤ _; omega, by show _ ≤ n; omega, fun e q => by cases q⟩
      · refine ⟨by show p ≤ _; omega, by show _ ≤ n; omega, fun e q => ⟨by show p < _; omega, ?_⟩⟩
        rw [← Option.some.inj q]
        refine ⟨⟨?_, ?_⟩, ⟨?_, ?_⟩, ⟨?_, ?_⟩⟩
        · show 0 ≤ (pNum t n 0 99999 p).2; omega
        · show (pNum t n 0 99999 p).2 ≤ _; omega
        · show 0 ≤ (pPer t n (pNum t n 0 99999 p).1).2; omega
        · show (pPer t n (pNum t n 0 99999 p).1).2 ≤ _; omega
        · show 0 ≤ (pRnk t n (pPer t n (pNum t n 0 99999 p).1).1).2; omega
        · show (pRnk t n (pPer t n (pNum t n 0 99999 p).1).1).2 ≤ _; omega
-- the class's text object, at a
def TX (G : Mm) (a : Nat) (t : Nat → Int) (n : Nat) : Prop := (G.2 a 0 = a + 1 ∧ G.2 a 2 = a + 2 ∧ G.2 a 3 = a + 3 ∧ G.2 a 4 = a + 4) ∧ G.1 a 1 = jI (n : Int) ∧ n ≤ 60 ∧ ∀ i, i < n → G.1 (a + 1) i = jI (t i) ∧ 0 ≤ t i ∧ t i ≤ 65535
/-- only the place of reading has changed -/
def XP (G G' : Mm) (a p : Nat) : Prop := G'.2 = G.2 ∧ (∀ q k, ¬ (q = a ∧ k = 6) → G'.1 q k = G.1 q k) ∧ G'.1 a 6 = jI (p : Int)
theorem XP.rf {G : Mm} {a p : Nat} (h : G.1 a 6 = jI (p : Int)) : XP G G a p := ⟨rfl, fun _ _ _ => rfl, h⟩
theorem XP.tr {G G1 G2 : Mm} {a p q : Nat} (h : XP G G1 a p) (h' : XP G1 G2 a q) : XP G G2 a q := ⟨h'.1.trans h.1, fun r k hk => (h'.2.1 r k hk).trans (h.2.1 r k hk), h'.2.2⟩
theorem XP.wr {G : Mm} {a p : Nat} : XP G (wI G a 6 (jI (p : Int))) a p := ⟨rfl, fun q k h => wI_n h, wI_s _ _ _ _⟩
theorem TX.xp {G G' : Mm} {a n p : Nat} {t : Nat → Int} (h : TX G a t n) (hx : XP G G' a p) : TX G' a t n := by
  obtain ⟨h1, h2, h3, h4⟩ := h
  refine ⟨by rw [hx.1]; exact h1, by rw [hx.2.1 a 1 (by omega)]; exact h2, h3, fun i hi => ?_⟩
  rw [hx.2.1 (a + 1) i (by omega)]
  exact h4 i hi
theorem sp_digit {G : Mm} {a n p : Nat} {t : Nat → Int} {Q : dp_Ps} (hT : TX G a t n) (hp : G.1 a 6 = jI (p : Int)) (hpn : p ≤ n) (h : Q (jI (dg t n p)) G) : Sp 10 2 [vR 1 a] G Q := by
  obtain ⟨⟨h0, -⟩, h1, h2, h3⟩ := hT
  apply vcX1_digitHere
  rw [hp, h1, h0, jI_le (inR_n (by omega)) (inR_n (by omega)), jI_lt (inR_n (by omega)) (inR_s (by omega) (by omega)), jI_cln (by omega)]
  unfold dg at h
  refine ⟨fun q => ?_, fun q => ⟨fun q2 => ⟨jI_in (by omega) (by omega) (by omega), ?_⟩, fun q2 => by omega⟩⟩
  · rw [if_neg (by omega)] at h; exact h
  · obtain ⟨k1, k2, k3⟩ := h3 p (by omega)
    rw [k1, jI_lt ⟨by omega, by omega⟩ (inR_s (by omega) (by omega)), jI_lt (inR_s (by omega) (by omega)) ⟨by omega, by omega⟩, jI_sub]
    refine ⟨fun q3 => ?_, fun q3 => ⟨fun q4 => ?_, fun q4 => ?_⟩⟩
    · rw [if_neg (by omega)] at h; exact h
    · rw [if_neg (by omega)] at h; exact h
    · rw [if_pos ⟨by omega, by omega, by omega⟩] at h; exact h
theorem sp_sign {G : Mm} {a n p : Nat} {t : Nat → Int} {c : Int} {Q : dp_Ps} (hT : TX G a t n) (hp : G.1 a 6 = jI (p : Int)) (hpn : p ≤ n) (hc : inR c) (h1 : sg t n c p → ∀ G', XP G G' a (p + 1) → Q (jI 1) G') (h0 : ¬ sg t n c p → Q (jI 0) G) : Sp 8 2 [vR 1 a, vI (jI c)] G Q := by
  obtain ⟨⟨g0, -⟩, g1, g2, g3⟩ := hT
  apply vcX1_readSign
  rw [hp, g1, g0, jI_le (inR_n (by omega)) (inR_n (by omega)), jI_le (inR_s (by omega) (by omega)) (inR_n (by omega)), jI_cln (by omega), jI_add]
  refine ⟨fun q => h0 (fun z => by have := z.1; omega), fun q => ⟨fun q2 => by omega, fun q2 => ⟨jI_in (by omega) (by omega) (by omega), ?_⟩⟩⟩
  obtain ⟨k1, k2, k3⟩ := g3 p (by omega)
  rw [k1, jI_inj ⟨by omega, by omega⟩ hc]
  refine ⟨fun q3 => ?_, fun q3 => h0 (fun z => q3 z.2)⟩
  rintro _ rfl
  exact h1 ⟨by omega, q3⟩ _ XP.wr
theorem sp_num {G : Mm} {a n p : Nat} {t : Nat → Int} {lo hi : Int} {Q : dp_Ps} (hT : TX G a t n) (hp : G.1 a 6 = jI (p : Int)) (hpn : p ≤ n) (hlo : 0 ≤ lo ∧ lo ≤ 9) (hhi : 0 ≤ hi ∧ hi ≤ 99999) (h : ∀ G', XP G G' a (pNum t n lo hi p).1 → Q (jI (pNum t n lo hi p).2) G') : Sp 9 5 [vR 1 a, vI (jI lo), vI (jI hi)] G Q := by
  have hd := dg_b t n p
  have i1 : inR (-1) := inR_s (by omega) (by omega)
  have il : inR lo := ⟨by omega, by omega⟩
  have ih' : inR hi := ⟨by omega, by omega⟩
  have id : inR (dg t n p) := ⟨by omega, by omega⟩
  apply vcX1_readNumber
  refine sp_digit hT hp hpn ?_
  rw [jI_inj id i1, jI_lt id il, jI_le id ih', hp, jI_add]
  unfold pNum at h
  refine ⟨fun q => ?_, fun q => ⟨fun q2 => ?_, fun q2 => ⟨fun q3 => ?_, fun q3 => ?_⟩⟩⟩
  · rw [if_pos (Or.inl q)] at h; exact h G (XP.rf hp)
  · rw [if_pos (Or.inr (Or.inl q2))] at h; exact h G (XP.rf hp)
  · rw [if_neg (by omega)] at h
    have loop : ∀ k : Nat, ∀ (p1 : Nat) (x : Int) (G1 : Mm) (w4 : Option Vl), k = n - p1 → p1 ≤ n → XP G G1 a p1 → 0 ≤ x → x ≤ hi → pNl t n hi k p1 x = pNl t n hi (n - (p + 1)) (p + 1) (dg t n p) →
        Wp 9 32 [some (vR 1 a), some (vI (jI lo)), some (vI (jI hi)), some (vI (jI x)), w4] [] G1 Q := by
      intro k
      induction k with
      | zero =>
        intro p1 x G1 w4 hk hp1 hx hx0 hxh he
        have e1 : G1.1 a 1 = jI (n : Int) := by rw [hx.2.1 a 1 (by omega)]; exact hT.2.1
        rw [← he] at h
        have hq : Q (jI x) G1 := h G1 hx
        apply vcX1_readNumber_32
        rw [jI_le ⟨by omega, by omega⟩ (inR_s (by omega) (by omega)), e1, hx.2.2, jI_le (inR_n (by have := hT.2.2.1; omega)) (inR_n (by have := hT.2.2.1; omega))]
        exact ⟨fun _ => hq, fun _ => ⟨fun _ => hq, fun q => by omega⟩⟩
      | succ k ihk =>
        intro p1 x G1 w4 hk hp1 hx hx0 hxh he
        have e1 : G1.1 a 1 = jI (n : Int) := by rw [hx.2.1 a 1 (by omega)]; exact hT.2.1
        have hn60 := hT.2.2.1
        have hd1 := dg_b t n p1
        rw [← he] at h
        rw [pNl_s] at h he
        apply vcX1_readNumber_32
        rw [jI_le ⟨by omega, by omega⟩ (inR_s (by omega) (by omega)), e1, hx.2.2, jI_le (inR_n (by omega)) (inR_n (by omega))]
        refine ⟨fun q => ?_, fun q => ⟨fun q2 => by omega, fun q2 => ?_⟩⟩
        · rw [if_pos (Or.inl q)] at h; exact h G1 hx
        · refine sp_digit (hT.xp hx) hx.2.2 hp1 ?_
          rw [jI_inj ⟨by omega, by omega⟩ i1, jI_mul, jI_add, jI_le ⟨by omega, by omega⟩ ih', hx.2.2, jI_add, show x * 10 + dg t n p1 = 10 * x + dg t n p1 by omega]
          refine ⟨fun q3 => ?_, fun q3 => ⟨fun q4 => ?_, fun q4 => ?_⟩⟩
          · rw [if_pos (Or.inr (Or.inl q3))] at h; exact h G1 hx
          · rintro _ rfl
            rw [if_neg (by omega)] at he
            exact ihk (p1 + 1) (10 * x + dg t n p1) _ _ (by omega) (by omega) (hx.tr XP.wr) (by omega) q4 he
          · rw [if_pos (Or.inr (Or.inr (by omega)))] at h; exact h G1 hx
    rintro _ rfl
    exact loop (n - (p + 1)) (p + 1) (dg t n p) _ none rfl (by have := hd.2.2 q; omega) XP.wr (by have := hd.2.2 q; omega) q3 rfl
  · rw [if_pos (Or.inr (Or.inr (by omega)))] at h; exact h G (XP.rf hp)

