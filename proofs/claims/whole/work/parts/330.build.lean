/-! BUILDING THE WORLD: constructors, at addresses told by the heap's size. fi: what each address holds in the end; ws: cells still under construction. -/
def Bx (G : Geo) (fi : Nat → va_E) (B : Nat) (ws : va_W) (n : Nat) (H : Heap) : Prop :=
  H.size = n ∧ B ≤ n ∧ va_P G.1 vwCl ws H ∧ va_D (fun q => B ≤ q) ws ∧ ∀ a, B ≤ a → a < n → (∀ (k : Nat) (q : Nat × va_E), ws[k]? = some q → q.1 ≠ a) → va_at G.1 vwCl (a, fi a) H
abbrev Bd (B : Nat) : Nat → Prop := fun q => B ≤ q
theorem Bx.set {G : Geo} {fi : Nat → va_E} {B : Nat} {ws : va_W} {n q0 a : Nat} {e0 e : va_E} {H H1 : Heap} (h : Bx G fi B ws n H) (he0 : ws[q0]? = some (a, e0)) (hz : H1.size = H.size) (he : va_at G.1 vwCl (a, e) H1) (oq : ∀ q : Nat, q ≠ a → H1[q]? = H[q]?) : Bx G fi B (ws.set q0 (a, e)) n H1 := by
  have hl := (List.getElem?_eq_some_iff.mp he0).1
  refine ⟨hz.trans h.1, h.2.1, h.2.2.1.set h.2.2.2.1 he0 he oq, h.2.2.2.1.set he0, fun x h1 h2 h3 => ?_⟩
  have hxa : a ≠ x := h3 q0 (a, e) (List.getElem?_set_self hl)
  refine (h.2.2.2.2 x h1 h2 (fun k q hk => ?_)).kept (oq x (Ne.symm hxa))
  by_cases hkq : k = q0
  · subst hkq
    rw [he0] at hk
    cases hk
    exact hxa
  · exact h3 k q (by rw [List.getElem?_set_ne (Ne.symm hkq)]; exact hk)
theorem Bx.push {G : Geo} {fi : Nat → va_E} {B : Nat} {ws : va_W} {n : Nat} {e : va_E} {H H1 : Heap} (h : Bx G fi B ws n H) (hz : H1.size = n + 1) (he : va_at G.1 vwCl (n, e) H1) (oq : ∀ q : Nat, q < n → H1[q]? = H[q]?) : Bx G fi B (ws ++ [(n, e)]) (n + 1) H1 := by
  have hn := h.1
  refine ⟨hz, Nat.le_succ_of_le h.2.1, (h.2.2.1.kept (fun k q hk => oq q.1 (by rw [← hn]; exact (h.2.2.1 k q hk).lt))).app (fun k q hk => ?_), h.2.2.2.1.push h.2.2.1 hn.symm h.2.1, fun x h1 h2 h3 => ?_⟩
  · have hz9 : k < 1 := (List.getElem?_eq_some_iff.mp hk).1
    rw [show k = 0 by omega] at hk
    cases hk
    exact he
  · have hxn : n ≠ x := h3 ws.length (n, e) (by simp)
    have hlt : x < n := by omega
    refine (h.2.2.2.2 x h1 hlt (fun k q hk => h3 k q ?_)).kept (oq x hlt)
    rw [List.getElem?_append_left (List.getElem?_eq_some_iff.mp hk).1]
    exact hk
theorem Bx.drop {G : Geo} {fi : Nat → va_E} {B : Nat} {ws : va_W} {n a : Nat} {e : va_E} {H : Heap} (h : Bx G fi B (ws ++ [(a, e)]) n H) (he : va_at G.1 vwCl (a, e) H → va_at G.1 vwCl (a, fi a) H) : Bx G fi B ws n H := by
  have hlast : (ws ++ [(a, e)])[ws.length]? = some (a, e) := by simp
  refine ⟨h.1, h.2.1, va_P_l h.2.2.1, ⟨fun i j p q hi hj hpq => ?_, fun k q hk => ?_⟩, fun x h1 h2 h3 => ?_⟩
  · exact h.2.2.2.1.1 i j p q (by rw [List.getElem?_append_left (List.getElem?_eq_some_iff.mp hi).1]; exact hi) (by rw [List.getElem?_append_left (List.getElem?_eq_some_iff.mp hj).1]; exact hj) hpq
  · exact h.2.2.2.1.2 k q (by rw [List.getElem?_append_left (List.getElem?_eq_some_iff.mp hk).1]; exact hk)
  · by_cases hx : x = a
    · subst hx
      exact he (h.2.2.1 _ _ hlast)
    · refine h.2.2.2.2 x h1 h2 (fun k q hk => ?_)
      by_cases hl : k < ws.length
      · rw [List.getElem?_append_left hl] at hk
        exact h3 k q hk
      · rw [List.getElem?_append_right (by omega)] at hk
        have hz9 : k - ws.length < 1 := (List.getElem?_eq_some_iff.mp hk).1
        rw [show k - ws.length = 0 by omega] at hk
        cases hk
        exact Ne.symm hx
/-- behind a constructor's call: its object and all that it made hold what they hold in the end -/
theorem Bx.call {G : Geo} {fi : Nat → va_E} {B : Nat} {ws : va_W} {n k : Nat} {e : va_E} {H H1 : Heap} (h : Bx G fi B (ws ++ [(n, e)]) (n + 1) H) (hz : H1.size = n + 1 + k) (hat : ∀ a, n ≤ a → a < n + 1 + k → va_at G.1 vwCl (a, fi a) H1) (oq : ∀ q : Nat, q < n → H1[q]? = H[q]?) : Bx G fi B ws (n + 1 + k) H1 := by
  have hlast : (ws ++ [(n, e)])[ws.length]? = some (n, e) := by simp
  have hup : ∀ {k : Nat} {q : Nat × va_E}, ws[k]? = some q → (ws ++ [(n, e)])[k]? = some q := fun hk => by rw [List.getElem?_append_left (List.getElem?_eq_some_iff.mp hk).1]; exact hk
  have hlt : ∀ {k : Nat} {q : Nat × va_E}, ws[k]? = some q → q.1 < n := fun {k q} hk => by
    have h1 := (h.2.2.1 _ _ (hup hk)).lt
    rw [h.1] at h1
    have h2 : q.1 ≠ n := fun hq => by
      have := h.2.2.2.1.1 _ _ q (n, e) (hup hk) hlast hq
      have := (List.getElem?_eq_some_iff.mp hk).1
      omega
    omega
  refine ⟨hz, by have := h.2.1; omega, fun k q hk => (h.2.2.1 _ _ (hup hk)).kept (oq q.1 (hlt hk)), ⟨fun i j p q hi hj hpq => h.2.2.2.1.1 i j p q (hup hi) (hup hj) hpq, fun k q hk => h.2.2.2.1.2 k q (hup hk)⟩, fun x h1 h2 h3 => ?_⟩
  by_cases hx : n ≤ x
  · exact hat x hx h2
  · have hxn : x < n := by omega
    refine (h.2.2.2.2 x h1 (by omega) (fun k q hk => ?_)).kept (oq x hxn)
    by_cases hl : k < ws.length
    · rw [List.getElem?_append_left hl] at hk
      exact h3 k q hk
    · rw [List.getElem?_append_right (by omega)] at hk
      have hz9 : k - ws.length < 1 := (List.getElem?_eq_some_iff.mp hk).1
      rw [show k - ws.length = 0 by omega] at hk
      cases hk
      show n ≠ x
      omega
theorem Bx.all {G : Geo} {fi : Nat → va_E} {B n : Nat} {H : Heap} (h : Bx G fi B [] n H) : ∀ a, B ≤ a → a < n → va_at G.1 vwCl (a, fi a) H := fun a h1 h2 => h.2.2.2.2 a h1 h2 (fun k q hk => by simp at hk)
theorem vp_cell_c {cA : ClassId} {n : Nat} {f g : Nat → Int32} (h : ∀ j, j < n → f j = g j) : vp_cell cA (n, .inl f) = vp_cell cA (n, .inl g) := by
  rw [vp_cell_i, vp_cell_i]
  unfold arrV
  congr 1
  apply Array.ext
  · simp
  · intro j h1 h2
    simp at h1
    simp [h j h1]
theorem vp_cell_cq {cA : ClassId} {n : Nat} {f g : Nat → Option Nat} (h : ∀ j, j < n → f j = g j) : vp_cell cA (n, .inr (.inr (.inr (.inr f)))) = vp_cell cA (n, .inr (.inr (.inr (.inr g)))) := by
  rw [vp_cell_q, vp_cell_q]
  unfold arrV
  congr 1
  apply Array.ext
  · simp
  · intro j h1 h2
    simp at h1
    simp [h j h1]
section BR
variable {p : Program} {l : Launch} {e : Env} {R : Room} {s : State} {m : MethodId} {args : Array Value} {below : List Frame} {meth : Method} {c : Code} {H : Heap} {locs : List Loc} {cells slots : Nat} {Q : State → Prop} {cc : ByteArray} {pc : Nat} {ls : Array Slot} {rest : List Value} {G : Geo} {fi : Nat → va_E} {B n a : Nat} {ws : va_W} {H0 : Heap}
theorem bw_putF {own C : String} {T : u_T} {N ci index : Nat} (hx : p.tables.exec = Jvm.exec) (hb : c.code = cc) (htg : ∀ w ∈ wsG, w.before args s = true) (hin : ∀ w ∈ u_ws C T N, w ∈ wsG) (ty0 : Nat → FieldType) (hty : ∀ k, k < N → parseFieldDescriptor (T k).2.2.1 = some (ty0 k)) (hnm : ∀ a, a < N → ∀ b, b < N → a ≠ b → (T a).2.1 ≠ (T b).2.1) (hown : s.vm.findClass own = some m.cls) (hK : Kt G s) (hX : Bx G fi B ws n H) (hS : va_S (Bd B) H0 H locs) (q0 : Nat) {fs : List Value} (he : ws[q0]? = some (a, .inr (ci, fs))) (hc : vwCl[ci]? = some (C, T, N)) (k : Nat) (hk : k < N) (hlink : (Cond.fieldLink own index (T k).1 (T k).2.1 (T k).2.2.1).before args s = true) (hfin : (T k).2.2.2 = true) (hin2 : meth.name = "<init>") (hdecl : (T k).1 = own) {ty : FieldType} {v : Value} (hd : parseFieldDescriptor (T k).2.2.1 = some ty) (hn : narrow ty v = v) (hfit : fits ty v = true) (hl : k < fs.length)
    (hdg : decode cc pc = .ok (.putfield index, 3)) (kk : ∀ (H1 : Heap) (locs1 : List Loc), Bx G fi B (ws.set q0 (a, .inr (ci, fs.set k v))) n H1 → va_S (Bd B) H0 H1 locs1 → W p l e R s m args below meth c H1 locs1 cells slots Q (F0 m (pc + 3) ls rest)) : W p l e R s m args below meth c H locs cells slots Q (F0 m pc ls (v :: .ref a :: rest)) := by
  have hap := va_apart (own := own) htg hin ty0 hty hnm hK.1 hc
  obtain ⟨r, h1, cell, q1, q2, q3, q4⟩ := hX.2.2.1 q0 _ he
  have hr : r = (C, T, N) := Option.some.inj (h1.symm.trans hc)
  subst hr
  obtain ⟨hS9, hfc, kC, hkC, hkind⟩ := hK.1.1 ci _ hc
  obtain ⟨cf, kf, fi9, f, hi, hsl⟩ := hS9 k hk
  have hlay := htg _ (hin _ (u_in_lay hk))
  unfold u_lay at hlay
  rw [if_pos hfin] at hlay
  have hst := (u_facts hfc hkC (u_lays htg hin hk) hi).1
  have hcf : m.cls = cf := by
    obtain ⟨_, _, c', _, _, _, -, -, hf', -, -, -, hown2, -⟩ := Cond.laysFinal_spec hlay
    have e1 : c' = cf := by have := hi.symm.trans hf'; simp at this; exact this.1.symm
    rw [hdecl] at hown2
    rw [← e1]; exact Option.some.inj (hown.symm.trans hown2)
  have h6 := u_fits hfc hkC hkind (Or.inr hlay) hi hd hn hfit
  refine W.putFinK hx hb hown hlink hi hst hcf hin2 (by rw [q2]; exact h6) q1 q3 (by rw [hsl]; exact k2_hasslot (q4 k hk)) rfl rfl hdg fun H' e1 e2 e3 => ?_
  rw [hsl] at e1 ⊢
  exact kk H' _ (hX.set he e2 ⟨_, hc, t_OB.to (V := updV (vp_V fs) k v) ⟨_, e1, q2, q3, t_set q4 hap hk v⟩ (fun j _ => vp_updV_set hl v j)⟩ e3) (hS.put e2 e3 (hX.2.2.2.1.2 q0 _ he))
theorem bw_put {own C : String} {T : u_T} {N ci index : Nat} (hx : p.tables.exec = Jvm.exec) (hb : c.code = cc) (htg : ∀ w ∈ wsG, w.before args s = true) (hin : ∀ w ∈ u_ws C T N, w ∈ wsG) (ty0 : Nat → FieldType) (hty : ∀ k, k < N → parseFieldDescriptor (T k).2.2.1 = some (ty0 k)) (hnm : ∀ a, a < N → ∀ b, b < N → a ≠ b → (T a).2.1 ≠ (T b).2.1) (hown : s.vm.findClass own = some m.cls) (hK : Kt G s) (hX : Bx G fi B ws n H) (hS : va_S (Bd B) H0 H locs) (q0 : Nat) {fs : List Value} (he : ws[q0]? = some (a, .inr (ci, fs))) (hc : vwCl[ci]? = some (C, T, N)) (k : Nat) (hk : k < N) (hlink : (Cond.fieldLink own index (T k).1 (T k).2.1 (T k).2.2.1).before args s = true) (hfin : (T k).2.2.2 = false) {ty : FieldType} {v : Value} (hd : parseFieldDescriptor (T k).2.2.1 = some ty) (hn : narrow ty v = v) (hfit : fits ty v = true) (hl : k < fs.length)
    (hdg : decode cc pc = .ok (.putfield index, 3)) (kk : ∀ (H1 : Heap) (locs1 : List Loc), Bx G fi B (ws.set q0 (a, .inr (ci, fs.set k v))) n H1 → va_S (Bd B) H0 H1 locs1 → W p l e R s m args below meth c H1 locs1 cells slots Q (F0 m (pc + 3) ls rest)) : W p l e R s m args below meth c H locs cells slots Q (F0 m pc ls (v :: .ref a :: rest)) := by
  have hap := va_apart (own := own) htg hin ty0 hty hnm hK.1 hc
  obtain ⟨r, h1, cell, q1, q2, q3, q4⟩ := hX.2.2.1 q0 _ he
  have hr : r = (C, T, N) := Option.some.inj (h1.symm.trans hc)
  subst hr
  obtain ⟨hS9, hfc, kC, hkC, hkind⟩ := hK.1.1 ci _ hc
  obtain ⟨cf, kf, fi9, f, hi, hsl⟩ := hS9 k hk
  have hlay := htg _ (hin _ (u_in_lay hk))
  unfold u_lay at hlay
  rw [if_neg (by rw [hfin]; decide)] at hlay
  have hst := (u_facts hfc hkC (u_lays htg hin hk) hi).1
  have h6 := u_store hfc hkC hkind hlay hi hd hn hfit
  refine W.putK hx hb (f := f) ⟨hown, hlink, ⟨_, _, _, hi⟩, hst⟩ (by rw [q2]; exact h6) q1 q3 (by rw [hsl]; exact k2_hasslot (q4 k hk)) rfl rfl hdg fun H' e1 e2 e3 => ?_
  rw [hsl] at e1 ⊢
  exact kk H' _ (hX.set he e2 ⟨_, hc, t_OB.to (V := updV (vp_V fs) k v) ⟨_, e1, q2, q3, t_set q4 hap hk v⟩ (fun j _ => vp_updV_set hl v j)⟩ e3) (hS.put e2 e3 (hX.2.2.2.1.2 q0 _ he))
theorem bw_get {own C : String} {T : u_T} {N ci index : Nat} (hx : p.tables.exec = Jvm.exec) (hb : c.code = cc) (htg : ∀ w ∈ wsG, w.before args s = true) (hin : ∀ w ∈ u_ws C T N, w ∈ wsG) (hown : s.vm.findClass own = some m.cls) (hK : Kt G s) (hX : Bx G fi B ws n H) (q0 : Nat) {fs : List Value} (he : ws[q0]? = some (a, .inr (ci, fs))) (hc : vwCl[ci]? = some (C, T, N)) (k : Nat) (hk : k < N) (hlink : (Cond.fieldLink own index (T k).1 (T k).2.1 (T k).2.2.1).before args s = true) {v : Value} (hv : fs[k]? = some v) (hdg : decode cc pc = .ok (.getfield index, 3)) (kk : W p l e R s m args below meth c H locs cells slots Q (F0 m (pc + 3) ls (v :: rest))) : W p l e R s m args below meth c H locs cells slots Q (F0 m pc ls (.ref a :: rest)) :=
  va_get hx hb htg hin hown hK.1 hX.2.2.1 q0 he hc k hk hlink (fun _ h9 => h9) hv hdg kk
theorem bw_iast (hx : p.tables.exec = Jvm.exec) (hb : c.code = cc) (hK : Kt G s) (hX : Bx G fi B ws n H) (hS : va_S (Bd B) H0 H locs) (q0 : Nat) {N : Nat} {f : Nat → Int32} (ha : ws[q0]? = some (a, .inl (gT G 0, N, .inl f))) {i x : Int32} (hin : vp_in i N) (hdg : decode cc pc = .ok (.iastore, 1))
    (kk : ∀ (H1 : Heap) (locs1 : List Loc), Bx G fi B (ws.set q0 (a, .inl (gT G 0, N, .inl (upd f i.toNatClampNeg x)))) n H1 → va_S (Bd B) H0 H1 locs1 → W p l e R s m args below meth c H1 locs1 cells slots Q (F0 m (pc + 1) ls rest)) : W p l e R s m args below meth c H locs cells slots Q (F0 m pc ls (.int x :: .int i :: .ref a :: rest)) := by
  refine W.iast hx hb (hX.2.2.1 q0 _ ha) ((hK.1.2 0 _ rfl).1 N (fun j => .int (f j))) (fun q => by cases q) (by show ¬ (i < 0 ∨ (arrV _ _ _).slots.size ≤ _); rw [arrV_size]; exact hin) rfl rfl hdg fun H1 e z oq => ?_
  refine kk H1 _ (hX.set ha z ?_ oq) (hS.put z oq (hX.2.2.2.1.2 q0 _ ha))
  show H1[a]? = some (vp_cell _ _)
  rw [e]
  rw [vp_cell_i, vp_cell_i, arrV_store]
  congr 2
  funext q
  by_cases hq : q = i.toNatClampNeg
  · subst hq
    simp [updV, upd]
  · simp [updV, upd, hq]
theorem bw_aast (hx : p.tables.exec = Jvm.exec) (hb : c.code = cc) (hK : Kt G s) (hX : Bx G fi B ws n H) (hS : va_S (Bd B) H0 H locs) (q0 t0 ci : Nat) {r : vw_C} {N v : Nat} {vs : List Value} {f : Nat → Option Nat} (ha : ws[q0]? = some (a, .inl (gT G t0, N, .inr (.inr (.inr (.inr f)))))) (ht : (tyL G)[t0]? = some (gT G t0, .object r.1)) (hv : va_at G.1 vwCl (v, .inr (ci, vs)) H) (hc : vwCl[ci]? = some r) {i : Int32} (hin : vp_in i N) (hdg : decode cc pc = .ok (.aastore, 1))
    (kk : ∀ (H1 : Heap) (locs1 : List Loc), Bx G fi B (ws.set q0 (a, .inl (gT G t0, N, .inr (.inr (.inr (.inr (va_up f i.toNatClampNeg (some v)))))))) n H1 → va_S (Bd B) H0 H1 locs1 → W p l e R s m args below meth c H1 locs1 cells slots Q (F0 m (pc + 1) ls rest)) : W p l e R s m args below meth c H locs cells slots Q (F0 m pc ls (.ref v :: .int i :: .ref a :: rest)) := by
  have hlt : i.toNatClampNeg < N := Nat.not_le.mp fun q => hin (Or.inr q)
  have h0 : ¬ i < 0 := fun q => hin (Or.inl q)
  obtain ⟨r', hr', cellV, g1, g2, g3, -⟩ := hv
  have hcls := (hK.1.1 ci r hc).2
  obtain ⟨kA, comp, k1, k2, k3, -⟩ := (hK.1.2 t0 _ ht).2
  have hcomp : comp = G.1.1 ci := Option.some.inj (k3.symm.trans hcls.1)
  subst hcomp
  obtain ⟨kC, hkC, -⟩ := hcls.2
  refine W.aast hx hb (hX.2.2.1 q0 _ ha) (fun q h => by cases h) (fun h => by cases h) k1 k2 rfl hkC ⟨h0, by show _ < (arrV _ _ _).slots.size; rw [arrV_size]; exact hlt⟩ g1 (fun q h => by rw [g3] at h; cases h) (by rw [g2]; exact hkC) (by rw [g2]; exact va_assign hcls) rfl rfl hdg fun H1 e z oq => ?_
  refine kk H1 _ (hX.set ha z ?_ oq) (hS.put z oq (hX.2.2.2.1.2 q0 _ ha))
  show H1[a]? = some (vp_cell _ _)
  rw [e]
  rw [vp_cell_q, vp_cell_q, arrV_store]
  congr 2
  funext q
  by_cases hq : q = i.toNatClampNeg
  · subst hq
    simp [updV, va_up, va_rf]
  · simp [updV, va_up, hq]
theorem bw_new {own C : String} {T : u_T} {N ci index : Nat} (hx : p.tables.exec = Jvm.exec) (hb : c.code = cc) (htg : ∀ w ∈ wsG, w.before args s = true) (hin : ∀ w ∈ u_ws C T N, w ∈ wsG) (ty : Nat → FieldType) (hty : ∀ k, k < N → parseFieldDescriptor (T k).2.2.1 = some (ty k)) (hown : s.vm.findClass own = some m.cls) (hcl : (Cond.classLink own index C).before args s = true) (hinst : (Cond.instantiable C N).before args s = true) (hini : (Cond.initialized C).before args s = true) (hK : Kt G s) (hX : Bx G fi B ws n H) (hS : va_S (Bd B) H0 H locs) (hc : vwCl[ci]? = some (C, T, N)) {fs : List Value} (hfs : ∀ j, j < N → defaultValue (ty j) = vp_V fs j) (hcells : cells + 1 ≤ R.cells) (hslots : slots + N ≤ R.slots) (hdg : decode cc pc = .ok (.new index, 3))
    (kk : ∀ H1 : Heap, Bx G fi B (ws ++ [(n, .inr (ci, fs))]) (n + 1) H1 → va_S (Bd B) H0 H1 locs → W p l e R s m args below meth c H1 locs (cells + 1) (slots + N) Q (F0 m (pc + 3) ls (.ref n :: rest))) : W p l e R s m args below meth c H locs cells slots Q (F0 m pc ls rest) := by
  have hKn := hK.1.1 ci _ hc
  have hn := hX.1
  refine W.newcK hx hb hown hcl hinst hini rfl hdg hcells hslots hKn.2.1 hn fun H1 kC hkC e1 z1 o1 => ?_
  refine kk H1 (hX.push z1 ⟨_, hc, (u_born ty htg hin hKn hkC e1 hty).to hfs⟩ o1) ⟨Nat.le_trans hS.1 (by omega), fun x h1 h2 => (o1 x (by have := hS.1; omega)).trans (hS.2.1 x h1 h2), hS.2.2⟩
theorem bw_newa {N : Nat} {k : Int32} (hx : p.tables.exec = Jvm.exec) (hb : c.code = cc) (harr : (Cond.arrayClass .int).before args s = true) (hK : Kt G s) (hX : Bx G fi B ws n H) (hS : va_S (Bd B) H0 H locs) (hk : ¬ k < 0) (hN : k.toNatClampNeg = N) (hbytes : N * 4 ≤ 536870912) (hcells : cells + 1 ≤ R.cells) (hslots : slots + N ≤ R.slots) (hdg : decode cc pc = .ok (.newarray .int, 2))
    (kk : ∀ H1 : Heap, Bx G fi B (ws ++ [(n, .inl (gT G 0, N, .inl (fun _ => 0)))]) (n + 1) H1 → va_S (Bd B) H0 H1 locs → W p l e R s m args below meth c H1 locs (cells + 1) (slots + N) Q (F0 m (pc + 2) ls (.ref n :: rest))) : W p l e R s m args below meth c H locs cells slots Q (F0 m pc ls (.int k :: rest)) := by
  refine va_newaK (atype := .int) hx hb harr rfl hdg rfl hk hN hbytes hcells hslots hX.1 fun H1 cA e1 z1 o1 hAr hNm => ?_
  have hcA : cA = gT G 0 := Option.some.inj (hNm.symm.trans (hK.1.2 0 _ rfl).2)
  subst hcA
  exact kk H1 (hX.push z1 e1 o1) ⟨Nat.le_trans hS.1 (by have := hX.1; omega), fun x h1 h2 => (o1 x (by have := hS.1; have := hX.1; omega)).trans (hS.2.1 x h1 h2), hS.2.2⟩
theorem bw_newc {N : Nat} {k : Int32} (hx : p.tables.exec = Jvm.exec) (hb : c.code = cc) (harr : (Cond.arrayClass .char).before args s = true) (hK : Kt G s) (hX : Bx G fi B ws n H) (hS : va_S (Bd B) H0 H locs) (hk : ¬ k < 0) (hN : k.toNatClampNeg = N) (hbytes : N * 2 ≤ 536870912) (hcells : cells + 1 ≤ R.cells) (hslots : slots + N ≤ R.slots) (hdg : decode cc pc = .ok (.newarray .char, 2))
    (kk : ∀ H1 : Heap, Bx G fi B (ws ++ [(n, .inl (gT G 1, N, .inl (fun _ => 0)))]) (n + 1) H1 → va_S (Bd B) H0 H1 locs → W p l e R s m args below meth c H1 locs (cells + 1) (slots + N) Q (F0 m (pc + 2) ls (.ref n :: rest))) : W p l e R s m args below meth c H locs cells slots Q (F0 m pc ls (.int k :: rest)) := by
  refine va_newaK (atype := .char) hx hb harr rfl hdg rfl hk hN hbytes hcells hslots hX.1 fun H1 cA e1 z1 o1 hAr hNm => ?_
  have hcA : cA = gT G 1 := Option.some.inj (hNm.symm.trans (hK.1.2 1 _ rfl).2)
  subst hcA
  exact kk H1 (hX.push z1 e1 o1) ⟨Nat.le_trans hS.1 (by have := hX.1; omega), fun x h1 h2 => (o1 x (by have := hS.1; have := hX.1; omega)).trans (hS.2.1 x h1 h2), hS.2.2⟩
theorem bw_newq {own C : String} {index t0 N : Nat} {k : Int32} (hx : p.tables.exec = Jvm.exec) (hb : c.code = cc) (hown : s.vm.findClass own = some m.cls) (hclink : (Cond.classLink own index C).before args s = true) (hover : va_AO C s) (hK : Kt G s) (ht : (tyL G)[t0]? = some (gT G t0, .object C)) (hX : Bx G fi B ws n H) (hS : va_S (Bd B) H0 H locs) (hk : ¬ k < 0) (hN : k.toNatClampNeg = N) (hbytes : N * 4 ≤ 536870912) (hcells : cells + 1 ≤ R.cells) (hslots : slots + N ≤ R.slots) (hdg : decode cc pc = .ok (.anewarray index, 3))
    (kk : ∀ H1 : Heap, Bx G fi B (ws ++ [(n, .inl (gT G t0, N, .inr (.inr (.inr (.inr (fun _ => none))))))]) (n + 1) H1 → va_S (Bd B) H0 H1 locs → W p l e R s m args below meth c H1 locs (cells + 1) (slots + N) Q (F0 m (pc + 3) ls (.ref n :: rest))) : W p l e R s m args below meth c H locs cells slots Q (F0 m pc ls (.int k :: rest)) := by
  subst hN
  have hn := hX.1
  refine W.anew hx hb hown hclink (va_AO.use hover) rfl hdg rfl hk hbytes hcells hslots fun cA kA comp f1 f2 f3 f4 => ?_
  obtain ⟨kA9, comp9, g1, g2, g3, g4⟩ := (hK.1.2 t0 _ ht).2
  have hcA : cA = gT G t0 := Option.some.inj (f1.symm.trans g4)
  subst hcA
  generalize hH1 : H.push ({ cls := gT G t0, slots := Array.replicate k.toNatClampNeg .null, vm := .none } : Cell) = H1
  have z1 : H1.size = n + 1 := by rw [← hH1, Array.size_push, hn]
  have e1 : H1[n]? = some (arrV (gT G t0) k.toNatClampNeg (fun _ => .null)) := by rw [← hH1, ← hn, Array.getElem?_push_size, ← arrV_new]
  have o1 : ∀ q : Nat, q < n → H1[q]? = H[q]? := fun q hq => by rw [← hH1, Array.getElem?_push, if_neg (by omega)]
  have kk9 := kk H1 (hX.push z1 (by show H1[n]? = some (vp_cell _ _); rw [vp_cell_q]; exact e1) o1) ⟨Nat.le_trans hS.1 (by omega), fun x h1 h2 => (o1 x (by have := hS.1; omega)).trans (hS.2.1 x h1 h2), hS.2.2⟩
  rw [← hn] at kk9
  exact kk9
end BR
