/-! ===== a new object, in a method of the law ===== -/
theorem lk_new {p : Program} {l : Launch} {e : Env} {R : Room} {s : State} {m : MethodId} {args : Array Value} {below : List Frame} {meth : Method} {c : Code} {H : Heap} {locs : List Loc} {cells slots : Nat} {Qw : State → Prop} {cc : ByteArray} {nL : Nat} {rt : Option FieldType} {pc : Nat} {ls : Array Slot} {rest : List Value} {D : va_G} {aC : Nat → Nat} {B : Nat} {A0 : Nat → Prop} {H0 : Heap}
    (C_ : lk_C D aC cc nL rt p s m args meth c) (hf : 5 ≤ R.frames ∧ 304 ≤ R.locals) (hB : H.size = B) (hS : va_S A0 H0 H locs) (hA : ∀ q, B ≤ q → A0 q) (hcells : cells + 218 ≤ R.cells) (hslots : slots + 1933 ≤ R.slots) (hsz : ls.size = nL) (hrm : ((Value.ref B :: rest).map fun v => v.category).sum ≤ 8) (hdg : decode cc pc = .ok (.new 14, 3)) (hdg2 : decode cc (pc + 3) = .ok (.dup, 1)) (hdg3 : decode cc (pc + 4) = .ok (.invokespecial 81, 3))
    (kk : ∀ (H1 : Heap) (locs1 : List Loc), oB D aC B Z0 H1 → H1.size = B + 218 → (∀ q : Nat, q < B → H1[q]? = H[q]?) → va_S A0 H0 H1 locs1 → W p l e R s m args below meth c H1 locs1 (cells + 218) (slots + 1933) Qw (F0 m (pc + 7) ls (.ref B :: rest))) : W p l e R s m args below meth c H locs cells slots Qw (F0 m pc ls rest) := by
  obtain ⟨hexec, hb, -, hml, hown, hts, -, hV⟩ := C_
  have hKn := hV.1.1 7 (RX7, TX7, 6) rfl
  refine W.newcK hexec hb hown (hts _ wl_67) (hts _ wl_68) (hts _ wl_57) rfl hdg (Nat.le_trans (by omega) hcells) (Nat.le_trans (by omega) hslots) hKn.2.1 hB fun H1 kC hkC e1 z1 o1 => ?_
  have hz1 : H1.size = H.size + 1 := by rw [z1, hB]
  have ho : ∀ q : Nat, q < H.size → H1[q]? = H[q]? := fun q hq => o1 q (by rw [← hB]; exact hq)
  have hx : va_at D vwCl (B, .inr (7, [.null, .null, .null, .null, .null, .int 0])) H1 := ⟨_, rfl, (u_born tyX7 hts dp_in7 hKn hkC e1 tyX7_ok).to (fun j hj => by rcases (show j = 0 ∨ j = 1 ∨ j = 2 ∨ j = 3 ∨ j = 4 ∨ j = 5 by omega) with rfl | rfl | rfl | rfl | rfl | rfl <;> rfl)⟩
  have hS1 : va_S A0 H0 H1 locs := ⟨Nat.le_trans hS.1 (by omega), fun x h1 h2 => (ho x (Nat.lt_of_lt_of_le h1 hS.1)).trans (hS.2.1 x h1 h2), hS.2.2⟩
  have hW1 : cx_W D B 1 (fun _ => .inr (7, [.null, .null, .null, .null, .null, .int 0])) H1 := ⟨by rw [z1], fun a h1 h2 => by rw [show a = B by omega]; exact hx⟩
  have hM := ct_X7 (l := l) (D := D) (aC := aC) (h0 := B) (nw := B + 218) (kd := kdo B) (fun i _ => kdo_at B i) (by omega)
  refine lv_dup hexec hb hdg2 rfl ?_
  refine va_callv (A1 := fun q => B ≤ q) (va_runI (As := []) (rest := .ref B :: rest) ⟨hexec, hb, hml, hown, hts⟩ hM (cwI 0 hts (cWs_good wl_71 rfl) rfl rfl rfl (hts _ wl_57) (hts _ wl_69) (hts _ wl_70) rfl ⟨by decide, by decide, by decide +kernel⟩ ⟨Nat.le_trans (Nat.le_of_ble_eq_true rfl) hf.1, Nat.le_trans (Nat.le_of_ble_eq_true rfl) hf.2⟩) ⟨fun a U g mk q => ⟨q.1, q.2.1, va_K.moved (u := U) (U := U.calling g mk a) (Vm.Alike.refl U.vm) q.2.2.1, dp_N_same (s := U) (U := U.calling g mk a) rfl q.2.2.2.1, va_AO.moved (u := U) (U := U.calling g mk a) (Vm.Alike.refl U.vm) q.2.2.2.2.1, va_AO.moved (u := U) (U := U.calling g mk a) (Vm.Alike.refl U.vm) q.2.2.2.2.2.1, va_AO.moved (u := U) (U := U.calling g mk a) (Vm.Alike.refl U.vm) q.2.2.2.2.2.2⟩, fun U hU hWm => ⟨rfl, by rw [hU]; exact hW1, cx_V_warm hWm hV⟩⟩ rfl rfl hsz rfl (lv_room hrm) hdg3 ⟨Nat.le_trans (by omega) hcells, Nat.le_trans (by omega) hslots⟩) hS1 (fun q _ h => hA q h) (fun q h => hA q h) (fun u t H2 locs2 ht hvm hw2 hB2 hz2 hk2 hS2 => ?_)
  have hB2 : cx_W D B 218 (fin0 aC (kdo B) (B + 218)) t.heap := hB2
  rw [ht] at hB2
  refine kk H2 locs2 ⟨_, LA_P hB2, ini_WT B, ini_SysC B⟩ hB2.1 (fun q hq => ?_) hS2
  rw [hk2 q (by omega) (show ¬ B ≤ q by omega)]
  exact ho q (by omega)
