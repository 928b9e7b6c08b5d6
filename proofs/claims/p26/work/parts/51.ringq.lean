/-! ===== ring (what the log tells): both ===== -/
def zRng (Z : Zst) (x y : Int) : Int := if x < 0 ∨ ¬ (0 ≤ y ∧ y ≤ 3) then -1002 else match Z.1.2.2.2[x.toNat]? with
  | none => -1005
  | some e => e y.toNat
theorem sp_rngC {G : Mm} {B : Nat} {Z : Zst} {T K x y : Int} {Q : dp_Ps} (h : SysC G B Z) (hz : ZI Z T K) (ix : inR x) (iy : inR y) (hq : Q (jI (zRng Z x y)) G) : Sp 76 3 [vR 7 B, vI (jI x), vI (jI y)] G Q := by
  have hm := hz.1.1
  have hs := hm.1
  unfold SI at hs
  obtain ⟨v, hc, hR⟩ := h.2.2.1.get
  have e14 : v 28 1 = Z.1.1 14 := hR.1.2.2.2
  unfold zRng at hq
  apply vcX7_ring
  rw [h.1.1, hc.r11]
  refine sp_tell hc ⟨by omega, by omega⟩ ix iy (fun q => ?_) (fun q => ?_) (fun q => ?_)
  · rw [if_pos (by omega)] at hq; exact hq
  · rw [if_neg (by omega), List.getElem?_eq_none (by omega)] at hq; exact hq
  · have hlt : x.toNat < Z.1.2.2.2.length := by omega
    rw [if_neg (by omega), List.getElem?_eq_getElem hlt] at hq
    have := hR.2.2.2.2 x.toNat _ (List.getElem?_eq_getElem hlt) y.toNat (by omega)
    rw [show ((x.toNat : Nat) : Int) = x by omega] at this
    rw [this]
    exact hq
