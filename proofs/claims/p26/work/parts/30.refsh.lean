/-! ===== the other class: sharing out ===== -/
theorem RA.map {f f' : Ar} {L : List Ar} {g : Ar → Ar} (h : RA f L) (hg : ∀ i, i < L.length → rA f' i = g (rA f i)) (h0 : ∀ i, i < L.length → f' (14 + 7 * i) = f (14 + 7 * i)) : RA f' (L.map g) := by
  refine ⟨?_, fun i j hij hj => ?_⟩
  · have e : (List.range (L.map g).length).map (rA f') = ((List.range L.length).map (rA f)).map g := by
      rw [List.length_map, List.map_map]
      apply List.map_congr_left
      intro i hi
      exact hg i (List.mem_range.mp hi)
    rw [e]
    exact h.1.map g
  · rw [List.length_map] at hj
    rw [h0 i (by omega), h0 j hj]
    exact h.2 i j hij hj
theorem rA_eq {f f' : Ar} {i : Nat} (h : ∀ k, k < 7 → f' (14 + 7 * i + k) = f (14 + 7 * i + k)) : rA f' i = rA f i := by
  funext k
  unfold rA rc7
  by_cases hk : k < 7
  · rw [if_pos hk, if_pos hk]; exact h k hk
  · rw [if_neg hk, if_neg hk]
theorem rA_aU {f : Ar} {i k : Nat} {x : Int} (hk : k < 7) : rA (aU f (14 + 7 * i + k) x) i = aU (rA f i) k x := by
  funext j
  by_cases hj : j = k
  · rw [hj, aU_s, rA_k hk, aU_s]
  · rw [aU_n hj]
    unfold rA rc7
    by_cases hj7 : j < 7
    · rw [if_pos hj7, if_pos hj7]
      exact aU_n (by omega)
    · rw [if_neg hj7, if_neg hj7]
theorem rA_aUo {f : Ar} {i j k : Nat} {x : Int} (hk : k < 7) (hij : j ≠ i) : rA (aU f (14 + 7 * i + k) x) j = rA f j := rA_eq (fun q hq => aU_n (by omega))
theorem RA.inj {f : Ar} {L : List Ar} (h : RA f L) {i j : Nat} (hi : i < L.length) (hj : j < L.length) (he : rA f i 0 = rA f j 0) : i = j := by
  have e1 : rA f i 0 = f (14 + 7 * i) := rA_k (k := 0) (by decide)
  have e2 : rA f j 0 = f (14 + 7 * j) := rA_k (k := 0) (by decide)
  rcases (show i < j ∨ i = j ∨ j < i by omega) with q | q | q
  · have := h.2 i j q hj; omega
  · exact q
  · have := h.2 j i q hi; omega
/-- one alarm's number changes -/
theorem RA.set {f : Ar} {L : List Ar} (h : RA f L) {i k : Nat} {x : Int} (hi : i < L.length) (hk : k < 7) (hk0 : k ≠ 0) : RA (aU f (14 + 7 * i + k) x) (L.map (fun b => if b 0 = rA f i 0 then aU b k x else b)) := by
  refine h.map (fun j hj => ?_) (fun j hj => aU_n (by omega))
  by_cases hji : j = i
  · rw [hji, if_pos rfl, rA_aU hk]
  · rw [if_neg (fun q => hji (h.inj hj hi q)), rA_aUo hk hji]
theorem RA.eq {f f' : Ar} {L : List Ar} (h : RA f L) (hf : ∀ k, 14 ≤ k → k < 14 + 7 * L.length → f' k = f k) : RA f' L := by
  have := h.map (f' := f') (g := id) (fun i hi => rA_eq (fun k hk => hf _ (by omega) (by omega))) (fun i hi => hf _ (by omega) (by omega))
  rw [List.map_id] at this
  exact this
theorem log_lt {g : List Ar} {j : Nat} {e : Ar} (h : g[j]? = some e) : j < g.length := by
  rcases Nat.lt_or_ge j g.length with q | q
  · exact q
  · rw [List.getElem?_eq_none q] at h; cases h
theorem RepR.al {f f' : Ar} {M : Ms} {L : List Ar} (h : RepR f M) (hf : ∀ k, k < 14 ∨ 154 ≤ k → f' k = f k) (hA : RA f' L) (hl : L.length = M.2.1.length) : RepR f' (M.1, L, M.2.2.1, M.2.2.2) := by
  obtain ⟨⟨s2, s0⟩, hR, hc, hl2, hlg⟩ := h
  refine ⟨⟨by rw [hf 2 (by omega), s2]; show _ = (L.length : Int); rw [hl], fun m hm hm2 => by rw [hf m (by omega)]; exact s0 m hm hm2⟩, hA, fun c hc4 => ?_, by rw [hf 194 (by omega)]; exact hl2, fun j e he q hq => by rw [hf _ (by omega)]; exact hlg j e he q hq⟩
  rw [hf _ (by omega), hf _ (by omega)]
  exact hc c hc4
theorem RepR.cm {f : Ar} {M : Ms} {c : Nat} {x y : Int} (h : RepR f M) (hc4 : c < 4) (hl : M.2.1.length ≤ 20) (hl8 : M.2.2.2.length ≤ 8) : RepR (aU (aU f (154 + 2 * c) x) (154 + 2 * c + 1) y) (M.1, M.2.1, cU M.2.2.1 c x y, M.2.2.2) := by
  obtain ⟨⟨s2, s0⟩, hR, hc, hl2, hlg⟩ := h
  have hf : ∀ k, k ≠ 154 + 2 * c → k ≠ 154 + 2 * c + 1 → aU (aU f (154 + 2 * c) x) (154 + 2 * c + 1) y k = f k := fun k h1 h2 => by rw [aU_n h2, aU_n h1]
  refine ⟨⟨by rw [hf 2 (by omega) (by omega)]; exact s2, fun m hm hm2 => by rw [hf m (by omega) (by omega)]; exact s0 m hm hm2⟩, hR.eq (fun k h1 h2 => hf k (by have : k < 14 + 7 * M.2.1.length := h2; omega) (by have : k < 14 + 7 * M.2.1.length := h2; omega)), fun d hd => ?_, by rw [hf 194 (by omega) (by omega)]; exact hl2, fun j e he q hq => ?_⟩
  · show _ = cU _ c x y d 0 ∧ _ = cU _ c x y d 1
    by_cases hdc : d = c
    · subst hdc
      rw [cU_s0, cU_s1, aU_n (by omega), aU_s, aU_s]; exact ⟨rfl, rfl⟩
    · rw [cU_n hdc, hf _ (by omega) (by omega), hf _ (by omega) (by omega)]
      exact hc d hd
  · have hj := log_lt he
    have hj : j < M.2.2.2.length := hj
    rw [hf _ (by omega) (by omega)]
    exact hlg j e he q hq
theorem RepR.hd {f : Ar} {M : Ms} {k : Nat} {x : Int} (h : RepR f M) (hk : k < 14) (hk2 : k ≠ 2) : RepR (aU f k x) (aU M.1 (hix k) x, M.2) := by
  obtain ⟨⟨s2, s0⟩, hR, hc, hl2, hlg⟩ := h
  refine ⟨⟨by rw [aU_n (fun q => hk2 q.symm)]; exact s2, fun m hm hm2 => ?_⟩, hR.eq (fun q h1 h2 => aU_n (by omega)), fun d hd => ?_, by rw [aU_n (by omega)]; exact hl2, fun j e he q hq => ?_⟩
  · show _ = aU M.1 (hix k) x (hix m)
    by_cases hmk : m = k
    · rw [hmk, aU_s, aU_s]
    · rw [aU_n hmk, aU_n (fun q => hmk (hix_inj m hm k hk hm2 hk2 q))]
      exact s0 m hm hm2
  · rw [aU_n (by omega), aU_n (by omega)]
    exact hc d hd
  · rw [aU_n (by omega)]
    exact hlg j e he q hq
theorem BI.l8 {M : Ms} {T K : Int} (h : BI M T K) : M.2.2.2.length ≤ 8 := by
  have hs := h.1
  unfold SI at hs
  omega
-- whether comparer c can take an alarm for x
