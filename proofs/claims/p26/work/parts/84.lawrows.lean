/-! ===== the law's rows: its runs, part, drawn, its array; what its loop keeps ===== -/
theorem oB.lt {D : va_G} {aC : Nat → Nat} {B : Nat} {Z : Zst} {H : Heap} (h : oB D aC B Z H) {q : Nat} (hq : q ∈ LA B) : q < H.size := by
  obtain ⟨G, hP, -, -⟩ := h
  obtain ⟨q0, hq0⟩ := va_pl_get (X := []) (f := dp_ce aC (kdo B) G) hq
  rw [List.nil_append] at hq0
  exact (hP q0 _ hq0).lt
theorem oB.kept {D : va_G} {aC : Nat → Nat} {B : Nat} {Z : Zst} {H H1 : Heap} (h : oB D aC B Z H) (hk : ∀ q, q ∈ LA B → H1[q]? = H[q]?) : oB D aC B Z H1 := by
  obtain ⟨G, hP, hw, hC⟩ := h
  exact ⟨G, fun i q hq => cx_at (hP i q hq) (hk q.1 ((LA_D (B := B) (f := dp_ce aC (kdo B) G)).2 i q hq)), hw, hC⟩
def wasE (cA : ClassId) (a N : Nat) (f : Nat → Int64) (H : Heap) : Prop := H[a]? = some (vp_cell cA (N, .inr (.inl f)))
theorem wasE_lt {cA : ClassId} {a N : Nat} {f : Nat → Int64} {H : Heap} (h : wasE cA a N f H) : a < H.size := (Array.getElem?_eq_some_iff.mp h).1
theorem wasE_stab {cA : ClassId} {a B N : Nat} {f : Nat → Int64} (ha : a ∉ LA B) : stab (wasE cA a N f) B := fun H H1 h _ hk => by
  show H1[a]? = _
  rw [hk a (wasE_lt h) ha]
  exact h
section LWR
variable {p : Program} {l : Launch} {e : Env} {R : Room} {s : State} {m : MethodId} {args : Array Value} {below : List Frame} {meth : Method} {c : Code} {H : Heap} {locs : List Loc} {cells slots : Nat} {Qw : State → Prop} {cc : ByteArray} {nL : Nat} {rt : Option FieldType} {pc : Nat} {ls : Array Slot} {rest : List Value} {D : va_G} {aC : Nat → Nat} {B : Nat} {Z : Zst} {j : Nat} {A0 : Nat → Prop} {E : Heap → Prop} {H0 : Heap}
theorem lk_wst (C_ : lk_C D aC cc nL rt p s m args meth c) {cA : ClassId} {a N : Nat} {f : Nat → Int64} (hN : N ≤ 1000) (hArr : ArrOfT s cA .long) (ha : a ∉ LA B) (hA : A0 a) (hI : oI D aC B A0 (wasE cA a N f) H0 H locs Z j) {i : Nat} (hi : i < N) {x : Int64} (hd : decode cc pc = .ok (.lastore, 1))
    (kk : ∀ (H1 : Heap) (locs1 : List Loc), oI D aC B A0 (wasE cA a N (vp_updL f i x)) H0 H1 locs1 Z j → W p l e R s m args below meth c H1 locs1 cells slots Qw (F0 m (pc + 1) ls rest)) : W p l e R s m args below meth c H locs cells slots Qw (F0 m pc ls (.long x :: .int (jI (i : Int)) :: .ref a :: rest)) := by
  obtain ⟨hO, hS, hz, hE, hEs, hLA⟩ := hI
  refine W.last C_.1 C_.2.1 hE (hArr N (fun j => .long (f j))) (fun q => by cases q) (by show ¬ (_ < 0 ∨ (arrV _ _ _).slots.size ≤ _); rw [arrV_size]; exact jI_in (n := N) (by omega) (by omega) (by omega)) rfl rfl hd fun H1 e z oq => ?_
  refine kk H1 _ ⟨hO.kept (fun q hq => oq q (fun h => ha (h ▸ hq))), hS.put z oq hA, hz, ?_, wasE_stab ha, hLA⟩
  show H1[a]? = some (vp_cell _ _)
  rw [e, jI_cln (by omega)]
  rw [vp_cell_l, vp_cell_l, arrV_store]
  congr 2
  funext q
  by_cases hq : q = i
  · subst hq
    simp [updV, vp_updL]
  · simp [updV, vp_updL, hq]
theorem lk_wld (C_ : lk_C D aC cc nL rt p s m args meth c) {cA : ClassId} {a N : Nat} {f : Nat → Int64} (hN : N ≤ 1000) (hArr : ArrOfT s cA .long) (hI : oI D aC B A0 (wasE cA a N f) H0 H locs Z j) {i : Nat} (hi : i < N) (hd : decode cc pc = .ok (.laload, 1))
    (kk : W p l e R s m args below meth c H locs cells slots Qw (F0 m (pc + 1) ls (.long (f i) :: rest))) : W p l e R s m args below meth c H locs cells slots Qw (F0 m pc ls (.int (jI (i : Int)) :: .ref a :: rest)) := by
  refine W.lald (v := .long (f i)) C_.1 C_.2.1 hI.2.2.2.1 (hArr N (fun j => .long (f j))) (fun q => by cases q) (by show ¬ (_ < 0 ∨ (arrV _ _ _).slots.size ≤ _); rw [arrV_size]; exact jI_in (n := N) (by omega) (by omega) (by omega)) (by show (arrV _ _ _).slots[_]? = _; rw [jI_cln (by omega), arrV_read _ _ hi]) rfl rfl hd kk
theorem lk_part (C_ : lk_C D aC cc nL rt p s m args meth c) (hf : 2 ≤ R.frames ∧ 61 ≤ R.locals) (hcs : cells ≤ R.cells ∧ slots ≤ R.slots) (hI : oI D aC B A0 E H0 H locs Z j) {v : Int32} {n : Int} (h0 : 0 < n) (h1 : n < 2147483648) (hls : ls.size = nL) (hrm : (rest.map fun v => v.category).sum ≤ 8) (hd : decode cc pc = .ok (.invokestatic 169, 3))
    (kk : ∀ (r : Int) (H1 : Heap) (locs1 : List Loc), 0 ≤ r → r < n → oI D aC B A0 E H0 H1 locs1 Z j → W p l e R s m args below meth c H1 locs1 cells slots Qw (F0 m (pc + 3) ls (.int (jI r) :: rest))) : W p l e R s m args below meth c H locs cells slots Qw (F0 m pc ls (.int (jI n) :: .int v :: rest)) := by
  obtain ⟨hO, hS, hz, hE, hEs, hLA⟩ := hI
  refine va_calli (lk_stat (n := 2) (As := [.int v, .int (jI n)]) (rest := rest) (P := fun _ => True) C_ (met_part h0 h1) trivial wl_564 wl_565 wl_566 rfl rfl rfl ⟨rfl, by decide, by decide, by decide +kernel⟩ ⟨Nat.le_trans (Nat.le_of_ble_eq_true rfl) hf.1, Nat.le_trans (Nat.le_of_ble_eq_true rfl) hf.2⟩ rfl hls hrm hd hcs) hS (fun q _ h => h.elim) (fun q h => h.elim) (fun x u t H1 locs1 ht hvm hp hB hz1 hk1 hS1 => ?_)
  obtain ⟨r, r0, r1, rfl⟩ := hp
  exact kk r H1 locs1 r0 r1 ⟨hO.kept (fun q hq => hk1 q (hO.lt hq) (fun h => h)), hS1, hz, hEs H H1 hE hz1 (fun q hq _ => hk1 q hq (fun h => h)), hEs, hLA⟩
theorem lk_drawn (C_ : lk_C D aC cc nL rt p s m args meth c) (hf : 2 ≤ R.frames ∧ 61 ≤ R.locals) (hcs : cells ≤ R.cells ∧ slots ≤ R.slots) {b L k : Nat} {xs : Nat → Int32} (hX : va_X b L xs s s.heap) (hbl : b < s.heap.size) (hL : L ≤ 260) (hk : k ≤ 1000) (hI : oI D aC B (fun q => s.heap.size ≤ q) E s.heap H locs Z j) (hls : ls.size = nL) (hrm : (rest.map fun v => v.category).sum ≤ 8) (hd : decode cc pc = .ok (.invokestatic 165, 3))
    (kk : ∀ (x : Int32) (H1 : Heap) (locs1 : List Loc), oI D aC B (fun q => s.heap.size ≤ q) E s.heap H1 locs1 Z j → W p l e R s m args below meth c H1 locs1 cells slots Qw (F0 m (pc + 3) ls (.int x :: rest))) : W p l e R s m args below meth c H locs cells slots Qw (F0 m pc ls (.int (jI (k : Int)) :: .ref b :: rest)) := by
  obtain ⟨hO, hS, hz, hE, hEs, hLA⟩ := hI
  obtain ⟨hx, hb, -, hml4, hown, hts, -, hV⟩ := C_
  have hXH : va_X b L xs s H := hX.kept (hS.2.1 b hbl (show ¬ s.heap.size ≤ b by omega))
  have hbH : b < H.size := Nat.lt_of_lt_of_le hbl hS.1
  refine va_calli (va_runS (As := [.ref b, .int (jI (k : Int))]) (rest := rest) ⟨hx, hb, hml4, hown, hts⟩ (met_drawn (l := l) (D := D) (aC := aC) (xs := xs) hL hk) (cwS 2 hts ?_ rfl rfl rfl ⟨rfl, by decide, by decide, by decide +kernel⟩ ⟨Nat.le_trans (Nat.le_of_ble_eq_true rfl) hf.1, Nat.le_trans (Nat.le_of_ble_eq_true rfl) hf.2⟩) ⟨fun a U g mk q => ⟨q.1, ⟨va_X.moved (u := U) (U := U.calling g mk a) (Vm.Alike.refl U.vm) q.2.1.1, q.2.1.2⟩, va_K.moved (u := U) (U := U.calling g mk a) (Vm.Alike.refl U.vm) q.2.2.1, dp_N_same (s := U) (U := U.calling g mk a) rfl q.2.2.2.1, va_AO.moved (u := U) (U := U.calling g mk a) (Vm.Alike.refl U.vm) q.2.2.2.2.1, va_AO.moved (u := U) (U := U.calling g mk a) (Vm.Alike.refl U.vm) q.2.2.2.2.2.1, va_AO.moved (u := U) (U := U.calling g mk a) (Vm.Alike.refl U.vm) q.2.2.2.2.2.2⟩, fun U hU hW => ⟨rfl, ⟨by rw [hU]; exact va_X.moved hW.alike hXH, by rw [hU]; exact hbH⟩, cx_V_warm hW hV⟩⟩ rfl rfl hls rfl (lv_room hrm) hd hcs) hS (fun q _ h => h.elim) (fun q h => h.elim) (fun x u t H1 locs1 ht hvm hp hB hz1 hk1 hS1 => ?_)
  · refine dp_wsIn ?_ (lWs_good wl_570 rfl)
    intro w hw
    simp only [List.mem_cons, List.mem_nil_iff, or_false] at hw
    rcases hw with rfl | rfl | rfl
    · exact dp_good _ wl_568
    · exact dp_good _ wl_569
    · exact dp_good _ wl_56
  · exact kk x H1 locs1 ⟨hO.kept (fun q hq => hk1 q (hO.lt hq) (fun h => h)), hS1, hz, hEs H H1 hE hz1 (fun q hq _ => hk1 q hq (fun h => h)), hEs, hLA⟩
/-- a run of calls on an object of its own -/
theorem lk_run0 (C_ : lk_C D aC cc nL rt p s m args meth c) {y : MethodName} {bytes : ByteArray} {maxL mc ms idx f : Nat} (hM : ∀ B, Met l y (lWs y bytes maxL (some .boolean)) (rmL f mc ms) (va_Pc [] (fun U => U.heap.size = B ∧ cx_V D aC U)) (qI (fun x => x = jI 1) (fun _ => True) (fun q => B ≤ q)) mc ms (fun q => B ≤ q))
    (h1 : Cond.methodLink R_law idx y ∈ lw_tb2) (h2 : Cond.static y ∈ lw_tb2) (h5 : Cond.code y bytes maxL (some .boolean) ∈ lw_tb2) (hg : goodWord (Cond.code y bytes maxL (some .boolean)) = true)
    (hd0 : y.cls = R_law ∧ y.cls ≠ "java/lang/invoke/MethodHandle" ∧ y.cls ≠ "java/lang/invoke/VarHandle" ∧ (parseMethodDescriptor y.desc).map (fun d => d.parameters.length) = some 0) (hR : f + 1 ≤ R.frames ∧ 8 + (maxL + 11) + 40 * f ≤ R.locals)
    (hS : va_S A0 H0 H locs) (hA : ∀ q, H.size ≤ q → A0 q) (hcs : cells + mc ≤ R.cells ∧ slots + ms ≤ R.slots) (hls : ls.size = nL) (hrm : (rest.map fun v => v.category).sum ≤ 8) (hd : decode cc pc = .ok (.invokestatic idx, 3))
    (kk : ∀ (H1 : Heap) (locs1 : List Loc), H.size ≤ H1.size → va_S A0 H0 H1 locs1 → W p l e R s m args below meth c H1 locs1 (cells + mc) (slots + ms) Qw (F0 m (pc + 3) ls (.int (jI 1) :: rest))) : W p l e R s m args below meth c H locs cells slots Qw (F0 m pc ls rest) := by
  refine va_calli (lk_stat (n := 0) (As := []) (rest := rest) (P := fun H1 => H1.size = H.size) C_ (hM H.size) rfl h1 h2 h5 hg rfl rfl hd0 hR rfl hls hrm hd hcs) hS (fun q _ h => hA q h) (fun q h => hA q h) (fun r u t H1 locs1 ht hvm hp hB hz1 hk1 hS1 => ?_)
  have hp : r = jI 1 := hp
  subst hp
  exact kk H1 locs1 hz1 hS1
end LWR
-- what the law's loop keeps
noncomputable def snM (M : Ms) : Int64 := sn (M, none, [], fun _ => 0, 0)
theorem sn_M {Z : Zst} : sn Z = snM Z.1 := sn_d rfl
/-- the n-th act's state is Q (n + 1); Q 0 is the first state of all -/
def LInv (M1 : Ms) (Z : Zst) (Q : Nat → Ms) (f : Nat → Int64) (acts : Nat) : Prop := Z.1 = Q (acts + 1) ∧ Z.2.1 = some M1 ∧ Q 1 = M1 ∧ Z.2.2.1 = win Q (acts + 1) (min 4 (acts + 1)) ∧ drO Z ∧ ∀ i, i < acts → f i = snM (Q (i + 1))
theorem LInv.seen {M1 : Ms} {Z : Zst} {Q : Nat → Ms} {f : Nat → Int64} {acts : Nat} (h : LInv M1 Z Q f acts) : ∀ i, i < acts + 1 → vp_updL f acts (sn Z) i = snM (Q (i + 1)) := by
  intro i hi
  unfold vp_updL
  by_cases hc : i = acts
  · rw [if_pos hc, sn_M, h.1, hc]
  · rw [if_neg hc]; exact h.2.2.2.2.2 i (by omega)
theorem LInv.stay {M1 : Ms} {Z : Zst} {Q : Nat → Ms} {f : Nat → Int64} {acts : Nat} (h : LInv M1 Z Q f acts) : LInv M1 Z Q (vp_updL f acts (sn Z)) acts :=
  ⟨h.1, h.2.1, h.2.2.1, h.2.2.2.1, h.2.2.2.2.1, fun i hi => h.seen i (by omega)⟩
theorem LInv.step {M1 : Ms} {Z Z1 : Zst} {Q : Nat → Ms} {f : Nat → Int64} {acts : Nat} {a : Int} (h : LInv M1 Z Q f acts) (ha : 0 ≤ a) (hok : actOK Z a Z1) : LInv M1 Z1 (fun i => if i = acts + 2 then Z1.1 else Q i) (vp_updL f acts (sn Z)) (acts + 1) := by
  obtain ⟨-, hc⟩ := hok
  rcases hc with ⟨hc, -⟩ | ⟨-, h1, h2, h3⟩
  · omega
  have e : ∀ i, i < acts + 2 → (fun i => if i = acts + 2 then Z1.1 else Q i) i = Q i := fun i hi => if_neg (by omega)
  refine ⟨(if_pos rfl).symm, by rw [h1]; exact h.2.1, by rw [e 1 (by omega)]; exact h.2.2.1, ?_, ⟨h3, fun M hM => h.2.2.2.2.1.2 M (by rw [← h1]; exact hM)⟩, fun i hi => ?_⟩
  · rw [h2, h.2.2.2.1, h.1, win_push]
    exact (win_c _ _ (by omega) (fun i hi => e i (by omega))).symm
  · rw [e (i + 1) (by omega)]
    exact h.seen i hi
