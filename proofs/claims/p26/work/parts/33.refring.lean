/-! ===== the other class: alarms ring ===== -/
def lgP (f w : Ar) (x1 x2 x3 : Int) : Prop := (∀ q, q < 162 ∨ 194 < q → w q = f q) ∧ (∀ j, 4 ≤ j → j < 32 → w (162 + j) = f (158 + j)) ∧ w 162 = x1 ∧ w 163 = f 0 ∧ w 164 = x2 ∧ w 165 = x3 ∧ w 194 = min 8 (f 194 + 1)
/-- the log's part of the state -/
theorem RepR.lg {f w : Ar} {M : Ms} {e : Ar} {x1 x2 x3 : Int} (h : RepR f M) (hl : M.2.1.length ≤ 20) (hl8 : M.2.2.2.length ≤ 8) (hw : lgP f w x1 x2 x3) (h0 : e 0 = x1) (h1 : e 1 = f 0) (h2 : e 2 = x2) (h3 : e 3 = x3) : RepR w (M.1, M.2.1, M.2.2.1, (e :: M.2.2.2).take 8) := by
  obtain ⟨⟨s2, s0⟩, hR, hc, hl2, hlg⟩ := h
  obtain ⟨wo, wj, w0, w1, w2, w3, w4⟩ := hw
  refine ⟨⟨by rw [wo 2 (by omega)]; exact s2, fun m hm hm2 => by rw [wo m (by omega)]; exact s0 m hm hm2⟩, hR.eq (fun k k1 k2 => wo k (by have : k < 14 + 7 * M.2.1.length := k2; omega)), fun c hc4 => by rw [wo _ (by omega), wo _ (by omega)]; exact hc c hc4, ?_, fun j x hx q hq => ?_⟩
  · rw [w4, hl2]
    show _ = (((e :: M.2.2.2).take 8).length : Int)
    rw [List.length_take, List.length_cons]
    omega
  · have hx : ((e :: M.2.2.2).take 8)[j]? = some x := hx
    rw [List.getElem?_take] at hx
    by_cases hj8 : j < 8
    · rw [if_pos hj8] at hx
      cases j with
      | zero =>
        have hx : e = x := Option.some.inj hx
        rw [← hx]
        rcases (show q = 0 ∨ q = 1 ∨ q = 2 ∨ q = 3 by omega) with rfl | rfl | rfl | rfl
        · rw [h0]; exact w0
        · rw [h1]; exact w1
        · rw [h2]; exact w2
        · rw [h3]; exact w3
      | succ j =>
        have hx : M.2.2.2[j]? = some x := hx
        rw [show 162 + 4 * (j + 1) + q = 162 + (4 * j + 4 + q) by omega, wj _ (by omega) (by omega), show 158 + (4 * j + 4 + q) = 162 + 4 * j + q by omega]
        exact hlg j x hx q hq
    · rw [if_neg hj8] at hx; cases hx
theorem RepR.s1 {f : Ar} {M : Ms} {s : Nat → Int} (h : RepR f M) (hs : ∀ k, k < 14 → s k = M.1 k) : RepR f (s, M.2) := by
  obtain ⟨⟨s2, s0⟩, hR⟩ := h
  refine ⟨⟨s2, fun m hm hm2 => ?_⟩, hR⟩
  show f m = s (hix m)
  have hb : hix m < 14 := by
    have : ∀ m, m < 14 → hix m < 14 := by decide
    exact this m hm
  rw [hs _ hb]
  exact s0 m hm hm2
theorem mR1_cnc {M : Ms} {a : Ar} (hn : NI M.2.1) (ha : a ∈ M.2.1) (h4 : a 4 ≠ -1005) : cnc (mR1 M a).2.1 + 1 = cnc M.2.1 := by
  show cnc (if a 2 = 0 then M.2.1.filter (fun b => decide (b 0 ≠ a 0)) else M.2.1.map (fun b => if b 0 = a 0 then rung b (M.1 0 - a 1) else b)) + 1 = _
  split
  · exact cnc_rem hn ha h4
  · exact cnc_map hn ha h4
theorem dv_lt {s p k : Int} (hp : 0 < p) : (k + 1) * p ≤ s ↔ k < s / p := by
  rw [show (k < s / p) ↔ (k + 1 ≤ s / p) by omega]
  exact (Int.le_ediv_iff_mul_le hp).symm
