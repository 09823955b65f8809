/-! THE LAW'S WRAPPERS: out[0] := the answer, or the number of the catch -/
abbrev gW (G : Geo) (oJ oD : Nat) : Nat → Prop := fun q => gF G q ∨ q = oJ ∨ q = oD
abbrev Ow (G : Geo) (oJ oD : Nat) : Prop := ¬ gF G oJ ∧ ¬ gF G oD ∧ oJ ≠ oD
def oW (G : Geo) (oJ oD : Nat) (fj : Nat → Int64) (fd : Nat → UInt64) : va_W := [(oJ, .inl (gT G 7, (1, .inr (.inl fj)))), (oD, .inl (gT G 8, (1, .inr (.inr (.inr (.inl fd))))))]
abbrev Oh (G : Geo) (oJ oD : Nat) (vj : Int64) (vd : UInt64) (H : Heap) : Prop := ∃ (fj : Nat → Int64) (fd : Nat → UInt64), fj 0 = vj ∧ fd 0 = vd ∧ va_P G.1 vwCl (oW G oJ oD fj fd) H
theorem Oh.lt {G : Geo} {oJ oD : Nat} {vj : Int64} {vd : UInt64} {H : Heap} (h : Oh G oJ oD vj vd H) : oJ < H.size ∧ oD < H.size := by
  obtain ⟨fj, fd, -, -, hP⟩ := h
  exact ⟨(hP 0 _ rfl).lt, (hP 1 _ rfl).lt⟩
theorem Oh.kept {G : Geo} {oJ oD : Nat} {vj : Int64} {vd : UInt64} {H H1 : Heap} (h : Oh G oJ oD vj vd H) (hJ : H1[oJ]? = H[oJ]?) (hD : H1[oD]? = H[oD]?) : Oh G oJ oD vj vd H1 := by
  obtain ⟨fj, fd, e1, e2, hP⟩ := h
  refine ⟨fj, fd, e1, e2, hP.kept (fun k q hk => ?_)⟩
  match k, hk with
  | 0, hk => cases hk; exact hJ
  | 1, hk => cases hk; exact hD
  | k + 2, hk => simp [oW] at hk
theorem Oh.call {G : Geo} {oJ oD : Nat} {vj : Int64} {vd : UInt64} {H0 H : Heap} {locs : List Loc} (h : Oh G oJ oD vj vd H0) (hw : Ow G oJ oD) (hS : va_S (gF G) H0 H locs) : Oh G oJ oD vj vd H :=
  h.kept (hS.2.1 oJ h.lt.1 hw.1) (hS.2.1 oD h.lt.2 hw.2.1)
theorem va_S.mono9 {A B : Nat → Prop} {H0 H : Heap} {locs : List Loc} (h : va_S A H0 H locs) (hAB : ∀ q, A q → B q) : va_S B H0 H locs := ⟨h.1, fun q h1 h2 => h.2.1 q h1 (fun z => h2 (hAB q z)), fun l hl => hAB _ (h.2.2 l hl)⟩
theorem va_P_l {D : va_G} {cl : List vw_C} {w1 w2 : va_W} {H : Heap} (h : va_P D cl (w1 ++ w2) H) : va_P D cl w1 H := fun k q hk => h k q (by rw [List.getElem?_append_left (List.getElem?_eq_some_iff.mp hk).1]; exact hk)
theorem va_P_r {D : va_G} {cl : List vw_C} {w1 w2 : va_W} {H : Heap} (h : va_P D cl (w1 ++ w2) H) : va_P D cl w2 H := fun k q hk => h (w1.length + k) q (by rw [List.getElem?_append_right (by omega)]; simpa using hk)
theorem Wz_D {G : Geo} {x y : Mem} {oJ oD : Nat} {fj : Nat → Int64} {fd : Nat → UInt64} {H : Heap} (hW : Wh G x y H) (hw : Ow G oJ oD) : va_D (gW G oJ oD) (wl G x y ++ oW G oJ oD fj fd) := by
  refine va_D.app (hW.2.weaken fun _ _ _ h => Or.inl h) ⟨fun i j p q hi hj hpq => ?_, fun k q hk => ?_⟩ (fun i j p q hi hj hpq => ?_)
  · match i, j, hi, hj with
    | 0, 0, _, _ => rfl
    | 1, 1, _, _ => rfl
    | 0, 1, hi, hj => cases hi; cases hj; exact absurd hpq hw.2.2
    | 1, 0, hi, hj => cases hi; cases hj; exact absurd hpq.symm hw.2.2
    | i + 2, _, hi, _ => simp [oW] at hi
    | 0, j + 2, _, hj => simp [oW] at hj
    | 1, j + 2, _, hj => simp [oW] at hj
  · match k, hk with
    | 0, hk => cases hk; exact Or.inr (Or.inl rfl)
    | 1, hk => cases hk; exact Or.inr (Or.inr rfl)
    | k + 2, hk => simp [oW] at hk
  · have h1 := hW.2.2 i p hi
    match j, hj with
    | 0, hj => cases hj; exact hw.1 (by have h2 : p.1 = oJ := hpq; rw [← h2]; exact h1)
    | 1, hj => cases hj; exact hw.2.1 (by have h2 : p.1 = oD := hpq; rw [← h2]; exact h1)
    | j + 2, hj => simp [oW] at hj
abbrev Pz (G : Geo) (x y : Mem) (oJ oD : Nat) (vj : Int64) (vd : UInt64) (av : List Value) : Array Value → State → Prop := va_Pc av (fun U => Kt G U ∧ Xt U ∧ Zt G U U.heap ∧ (∀ q, U.heap.size ≤ q → gF G q) ∧ Wh G x y U.heap ∧ Oh G oJ oD vj vd U.heap)
abbrev Qz (G : Geo) (x y : Mem) (oJ oD : Nat) (vj : Int64) (vd : UInt64) (k : Int32) : Array Value → State → Outcome → State → Prop := va_Qi (fun u (_ : Unit) => u = k) (fun _ t => Wh G x y t.heap ∧ Oh G oJ oD vj vd t.heap) (gW G oJ oD)
section WR
variable {p : Program} {l : Launch} {e : Env} {R : Room} {s : State} {m : MethodId} {args : Array Value} {below : List Frame} {meth : Method} {c : Code} {H : Heap} {locs : List Loc} {cells slots : Nat} {Q : State → Prop} {cc : ByteArray} {pc : Nat} {ls : Array Slot} {rest : List Value} {G : Geo} {x y : Mem} {H0 : Heap} {oJ oD : Nat} {vj : Int64} {vd : UInt64}
theorem rt_w {v : Int32} {k n : Nat} (hx : p.tables.exec = Jvm.exec) (hb : c.code = cc) (hr : meth.sig.returnType = some .int) (hlocks : meth.locks = false) (hW : Wh G x y H) (hO : Oh G oJ oD vj vd H) (hS : va_S (gW G oJ oD) s.heap H locs) (hdg : decode cc pc = .ok (.ireturn, 1)) : W p l e R s m args below meth c H locs k n (MQ below (Qz G x y oJ oD vj vd v) args s k n (gW G oJ oD)) (F0 m pc ls [.int v]) :=
  W.iret hx hb hr (fun t ht hW9 => ⟨⟨v, (), rfl, rfl, by show Wh G x y t.heap ∧ Oh G oJ oD vj vd t.heap; rw [ht]; exact ⟨hW, hO⟩⟩, hS.F ht⟩) hS.2.2 hdg
theorem ow_J (hx : p.tables.exec = Jvm.exec) (hb : c.code = cc) (hK : Kt G s) (hW : Wh G x y H) (hO : Oh G oJ oD vj vd H) (hw : Ow G oJ oD) (hS : va_S (gW G oJ oD) H0 H locs) {v : Int64} (hdg : decode cc pc = .ok (.lastore, 1)) (kk : ∀ (H1 : Heap) (locs1 : List Loc), Wh G x y H1 → Oh G oJ oD v vd H1 → va_S (gW G oJ oD) H0 H1 locs1 → W p l e R s m args below meth c H1 locs1 cells slots Q (F0 m (pc + 1) ls rest)) : W p l e R s m args below meth c H locs cells slots Q (F0 m pc ls (.long v :: .int 0 :: .ref oJ :: rest)) := by
  obtain ⟨fj, fd, e1, e2, hP⟩ := hO
  have he : (wl G x y ++ oW G oJ oD fj fd)[(wl G x y).length]? = some (oJ, .inl (gT G 7, (1, .inr (.inl fj)))) := by simp [oW]
  refine va_last hx hb hK.1 (hW.1.app hP) (Wz_D hW hw) hS (wl G x y).length 7 he rfl (inR_in (by decide)) hdg (fun H1 locs1 hP1 hD1 hS1 => ?_)
  rw [List.set_append_right _ _ (Nat.le_refl _), Nat.sub_self] at hP1
  exact kk H1 locs1 ⟨va_P_l hP1, hW.2⟩ ⟨vp_updL fj 0 v, fd, rfl, e2, va_P_r hP1⟩ hS1
theorem ow_D (hx : p.tables.exec = Jvm.exec) (hb : c.code = cc) (hK : Kt G s) (hW : Wh G x y H) (hO : Oh G oJ oD vj vd H) (hw : Ow G oJ oD) (hS : va_S (gW G oJ oD) H0 H locs) {v : UInt64} (hdg : decode cc pc = .ok (.dastore, 1)) (kk : ∀ (H1 : Heap) (locs1 : List Loc), Wh G x y H1 → Oh G oJ oD vj v H1 → va_S (gW G oJ oD) H0 H1 locs1 → W p l e R s m args below meth c H1 locs1 cells slots Q (F0 m (pc + 1) ls rest)) : W p l e R s m args below meth c H locs cells slots Q (F0 m pc ls (.double v :: .int 0 :: .ref oD :: rest)) := by
  obtain ⟨fj, fd, e1, e2, hP⟩ := hO
  have he : (wl G x y ++ oW G oJ oD fj fd)[(wl G x y).length + 1]? = some (oD, .inl (gT G 8, (1, .inr (.inr (.inr (.inl fd)))))) := by
    rw [List.getElem?_append_right (by omega)]
    simp [oW]
  refine va_dast hx hb hK.1 (hW.1.app hP) (Wz_D hW hw) hS ((wl G x y).length + 1) 8 he rfl (inR_in (by decide)) hdg (fun H1 locs1 hP1 hD1 hS1 => ?_)
  rw [List.set_append_right _ _ (Nat.le_add_right _ _), Nat.add_sub_cancel_left] at hP1
  exact kk H1 locs1 ⟨va_P_l hP1, hW.2⟩ ⟨fj, vf_upd fd 0 v, e1, rfl, va_P_r hP1⟩ hS1
theorem ol_J (hx : p.tables.exec = Jvm.exec) (hb : c.code = cc) (hK : Kt G s) (hO : Oh G oJ oD vj vd H) (hdg : decode cc pc = .ok (.laload, 1)) (kk : W p l e R s m args below meth c H locs cells slots Q (F0 m (pc + 1) ls (.long vj :: rest))) : W p l e R s m args below meth c H locs cells slots Q (F0 m pc ls (.int 0 :: .ref oJ :: rest)) := by
  obtain ⟨fj, fd, e1, e2, hP⟩ := hO
  subst e1
  exact va_lald hx hb hK.1 hP 0 7 rfl rfl (inR_in (by decide)) hdg kk
theorem ol_D (hx : p.tables.exec = Jvm.exec) (hb : c.code = cc) (hK : Kt G s) (hO : Oh G oJ oD vj vd H) (hdg : decode cc pc = .ok (.daload, 1)) (kk : W p l e R s m args below meth c H locs cells slots Q (F0 m (pc + 1) ls (.double vd :: rest))) : W p l e R s m args below meth c H locs cells slots Q (F0 m pc ls (.int 0 :: .ref oD :: rest)) := by
  obtain ⟨fj, fd, e1, e2, hP⟩ := hO
  subst e2
  exact va_dald hx hb hK.1 hP 1 8 rfl rfl (inR_in (by decide)) hdg kk
end WR
def kO_setInterlock (cd : Nat) : Int32 := if cd = 1 then 1 else if cd = 2 then 2 else if cd = 3 then 3 else 0
abbrev WSL_setInterlock : List Cond := .codeWith yL_setInterlock cL_setInterlock 6 (some .int) [(0, 19, 22, 13), (0, 19, 26, 15), (0, 19, 30, 17)] :: wsG
abbrev RML_setInterlock : Room := { frames := 8, cells := 3, slots := 18, locals := 133 }
set_option maxHeartbeats 4000000 in
set_option maxRecDepth 100000 in
theorem cL_w_setInterlock (l : Launch) (hst : l.stackTraces = false) (G : Geo) (x y : Mem) (oJ oD : Nat) (hw : Ow G oJ oD) (vj : Int64) (vd : UInt64) (p0 : Int32) (p1 : Int32) (p2 : Int32) {cd : Nat} {v : Int32} {z : Mem} (h : m_X11_setInterlock p0 p1 p2 x = some (cd, v, z)) (hcd : cd = 0 ∨ cd = 1 ∨ cd = 2 ∨ cd = 3) : Met l yL_setInterlock WSL_setInterlock RML_setInterlock (Pz G x y oJ oD vj vd [.ref (gA G 14 0 0), .int p0, .int p1, .int p2, .ref oJ]) (Qz G z y oJ oD (if cd = 0 then (if v = 0 then 0 else 1 : Int64) else vj) vd (kO_setInterlock cd)) 3 18 (gW G oJ oD) := by
  refine va_MetW (cc := cL_setInterlock) (maxL := 6) (ret := some .int) (hh := [(0, 19, 22, 13), (0, 19, 26, 15), (0, 19, 30, 17)]) (by decide) rfl ?_
  intro p e s m args below meth c s₁ B hml hv9
  obtain ⟨rfl, hK, hXt, hZ, hA, hW, hO⟩ := hv9
  have hx := B.exec
  have hb := B.bytes
  have hr := B.returns
  have hts := atoms_spec (ws := WSL_setInterlock) B.pre
  have htg : ∀ w ∈ wsG, w.before _ s = true := fun w h => hts w (List.mem_cons_of_mem _ h)
  have hown : s.vm.findClass RL = some m.cls := findClass_of_methodNamed B.named
  have hlocks := B.notSynchronized
  have htb := vx_table (x := yL_law) B (hts _ List.mem_cons_self)
  have hS : va_S (gF G) s.heap s.heap [] := va_S.rf
  have hl := lv_entry ([.ref (gA G 14 0 0), .int p0, .int p1, .int p2, .ref oJ]) (n := 6) (Nat.le_of_ble_eq_true rfl)
  rw [lg_entry_eq]
  generalize (lg_sl ([.ref (gA G 14 0 0), .int p0, .int p1, .int p2, .ref oJ]) ++ List.replicate (6 - (lg_sl ([.ref (gA G 14 0 0), .int p0, .int p1, .int p2, .ref oJ])).length) Slot.unset).toArray = ls at hl ⊢
  have hl : lv_has ls 6 [(0, .ref (gA G 14 0 0)), (1, .int p0), (2, .int p1), (3, .int p2), (4, .ref oJ)] := hl
  refine lv_aload hx hb dL_setInterlock_0 (lv_at hl 4 rfl) ?_
  refine lv_iconst (v := (0 : Int32)) hx hb dL_setInterlock_2 (by decide) ?_
  refine lv_aload_n hx hb dL_setInterlock_3 rfl (lv_at hl 0 rfl) ?_
  refine lv_iload_n hx hb dL_setInterlock_4 rfl (lv_at hl 1 rfl) ?_
  refine lv_iload_n hx hb dL_setInterlock_5 rfl (lv_at hl 2 rfl) ?_
  refine lv_iload_n hx hb dL_setInterlock_6 rfl (lv_at hl 3 rfl) ?_
  refine kx_X11_setInterlock hx hb hml hown htg hst hXt hZ hA hK hW hS h q186 hl.1 (Nat.le_of_ble_eq_true rfl) (Nat.le_of_ble_eq_true rfl) (Nat.le_of_ble_eq_true rfl) ⟨Nat.le_of_ble_eq_true rfl, Nat.le_of_ble_eq_true rfl⟩ dL_setInterlock_7 (fun hc ce q9 H locs hW hS e1 e2 e3 => ?_) (fun h0 H locs hW hS => ?_)
  · have hO := hO.call hw hS
    have hS := hS.mono9 (B := gW G oJ oD) (fun _ h => Or.inl h)
    rcases hcd with rfl | rfl | rfl | rfl
    · exact absurd rfl hc
    · refine vx_catch (E := exN 1) hown [] ⟨0, 19, 22, 13⟩ [⟨0, 19, 26, 15⟩, ⟨0, 19, 30, 17⟩] htb (fun z hz => ?_) (by decide) (by decide) (htg _ q183) (va_Nw.use rfl (hXt.1 _ (by decide +kernel))) e1 e2 e3 ?_
      · simp only [List.mem_cons, List.not_mem_nil, or_false] at hz
      · refine lv_astore (lv' := [(5, .ref q9), (0, .ref (gA G 14 0 0)), (1, .int p0), (2, .int p1), (3, .int p2), (4, .ref oJ)]) hx hb dL_setInterlock_22 hl (by decide) rfl (fun ls hl => ?_)
        refine lv_iconst (v := (1 : Int32)) hx hb dL_setInterlock_24 (by decide) ?_
        exact rt_w hx hb hr hlocks hW hO hS dL_setInterlock_25
    · refine vx_catch (E := exN 2) hown [⟨0, 19, 22, 13⟩] ⟨0, 19, 26, 15⟩ [⟨0, 19, 30, 17⟩] htb (fun z hz => ?_) (by decide) (by decide) (htg _ q184) (va_Nw.use rfl (hXt.1 _ (by decide +kernel))) e1 e2 e3 ?_
      · simp only [List.mem_cons, List.not_mem_nil, or_false] at hz
        rcases hz with rfl
        · exact Or.inr ⟨by decide, "java/lang/IndexOutOfBoundsException", htg _ q183, hXt.2.2 (exN 2, "java/lang/IndexOutOfBoundsException") (by decide +kernel)⟩
      · refine lv_astore (lv' := [(5, .ref q9), (0, .ref (gA G 14 0 0)), (1, .int p0), (2, .int p1), (3, .int p2), (4, .ref oJ)]) hx hb dL_setInterlock_26 hl (by decide) rfl (fun ls hl => ?_)
        refine lv_iconst (v := (2 : Int32)) hx hb dL_setInterlock_28 (by decide) ?_
        exact rt_w hx hb hr hlocks hW hO hS dL_setInterlock_29
    · refine vx_catch (E := exN 3) hown [⟨0, 19, 22, 13⟩, ⟨0, 19, 26, 15⟩] ⟨0, 19, 30, 17⟩ [] htb (fun z hz => ?_) (by decide) (by decide) (htg _ q185) (va_Nw.use rfl (hXt.1 _ (by decide +kernel))) e1 e2 e3 ?_
      · simp only [List.mem_cons, List.not_mem_nil, or_false] at hz
        rcases hz with rfl | rfl
        · exact Or.inr ⟨by decide, "java/lang/IndexOutOfBoundsException", htg _ q183, hXt.2.2 (exN 3, "java/lang/IndexOutOfBoundsException") (by decide +kernel)⟩
        · exact Or.inr ⟨by decide, "java/lang/IllegalArgumentException", htg _ q184, hXt.2.2 (exN 3, "java/lang/IllegalArgumentException") (by decide +kernel)⟩
      · refine lv_astore (lv' := [(5, .ref q9), (0, .ref (gA G 14 0 0)), (1, .int p0), (2, .int p1), (3, .int p2), (4, .ref oJ)]) hx hb dL_setInterlock_30 hl (by decide) rfl (fun ls hl => ?_)
        refine lv_iconst (v := (3 : Int32)) hx hb dL_setInterlock_32 (by decide) ?_
        exact rt_w hx hb hr hlocks hW hO hS dL_setInterlock_33
  · subst h0
    have hO := hO.call hw hS
    have hS := hS.mono9 (B := gW G oJ oD) (fun _ h => Or.inl h)
    refine lv_if_eq (tgt := 17) hx hb dL_setInterlock_10 (by decide) (fun c9 => ?_) (fun c9 => ?_)
    · rw [if_pos c9]
      refine lv_lconst (v := (0 : Int64)) hx hb dL_setInterlock_17 (by decide) ?_
      refine ow_J hx hb hK hW hO hw hS dL_setInterlock_18 (fun H locs hW hO hS => ?_)
      refine lv_goto (tgt := 34) hx hb dL_setInterlock_19 (by decide) ?_
      refine lv_iconst (v := (0 : Int32)) hx hb dL_setInterlock_34 (by decide) ?_
      exact rt_w hx hb hr hlocks hW hO hS dL_setInterlock_35
    · rw [if_neg c9]
      refine lv_lconst (v := (1 : Int64)) hx hb dL_setInterlock_13 (by decide) ?_
      refine lv_goto (tgt := 18) hx hb dL_setInterlock_14 (by decide) ?_
      refine ow_J hx hb hK hW hO hw hS dL_setInterlock_18 (fun H locs hW hO hS => ?_)
      refine lv_goto (tgt := 34) hx hb dL_setInterlock_19 (by decide) ?_
      refine lv_iconst (v := (0 : Int32)) hx hb dL_setInterlock_34 (by decide) ?_
      exact rt_w hx hb hr hlocks hW hO hS dL_setInterlock_35
set_option maxHeartbeats 4000000 in
theorem kw_setInterlock {p : Program} {l : Launch} {e : Env} {R : Room} {s : State} {m : MethodId} {args : Array Value} {below : List Frame} {meth : Method} {c : Code} {H : Heap} {locs : List Loc} {cells slots : Nat} {Q : State → Prop} {cc : ByteArray} {pc nL idx : Nat} {ls : Array Slot} {rest : List Value} {G : Geo} {x y : Mem} {oJ oD : Nat} {vj : Int64} {vd : UInt64} {A0 : Nat → Prop} {p0 : Int32} {p1 : Int32} {p2 : Int32} {cd : Nat} {v : Int32} {z : Mem} (hx : p.tables.exec = Jvm.exec) (hb : c.code = cc) (hml : c.maxLocals = nL) (hown : s.vm.findClass RL = some m.cls) (htg : ∀ w ∈ wsG, w.before args s = true) (hst : l.stackTraces = false) (hXt : Xt s) (hZ : Zt G s H) (hA : ∀ q, H.size ≤ q → gF G q) (hK : Kt G s) (hW : Wh G x y H) (hO : Oh G oJ oD vj vd H) (hw : Ow G oJ oD) (hS : va_S A0 s.heap H locs) (hA0 : ∀ q, gW G oJ oD q → A0 q) (h : m_X11_setInterlock p0 p1 p2 x = some (cd, v, z)) (hcd : cd = 0 ∨ cd = 1 ∨ cd = 2 ∨ cd = 3) (hlk : Cond.methodLink RL idx yL_setInterlock ∈ wsG) (hn : ls.size = nL) (hr : (rest.map fun v => v.category).sum ≤ 8) (hR1 : 8 + 1 ≤ R.frames) (hR2 : 8 + (6 + 11) + 133 ≤ R.locals) (hf : cells + 3 ≤ R.cells ∧ slots + 18 ≤ R.slots) (hdg : decode cc pc = .ok (.invokestatic idx, 3)) (kk : ∀ (H1 : Heap) (locs1 : List Loc), Wh G z y H1 → Oh G oJ oD (if cd = 0 then (if v = 0 then 0 else 1 : Int64) else vj) vd H1 → va_S A0 s.heap H1 locs1 → (∀ q : Nat, q < H.size → ¬ gW G oJ oD q → H1[q]? = H[q]?) → H.size ≤ H1.size → W p l e R s m args below meth c H1 locs1 (cells + 3) (slots + 18) Q (F0 m (pc + 3) ls (.int (kO_setInterlock cd) :: rest))) : W p l e R s m args below meth c H locs cells slots Q (F0 m pc ls (.ref oJ :: .int p2 :: .int p1 :: .int p0 :: .ref (gA G 14 0 0) :: rest)) := by
  refine va_calli (vx_runSW (As := [.ref (gA G 14 0 0), .int p0, .int p1, .int p2, .ref oJ]) (rest := rest) ⟨hx, hb, hml, hown, htg⟩ (cL_w_setInterlock l hst G x y oJ oD hw vj vd p0 p1 p2 h hcd) (vx_cwSW 5 htg (gd_S hlk q180 q181 q182) rfl rfl rfl (by decide +kernel) ⟨hR1, hR2⟩) ⟨fun a U g mk q => ⟨q.1, q.2.1.calling, q.2.2.1.calling, q.2.2.2.1.calling, q.2.2.2.2.1, q.2.2.2.2.2.1, q.2.2.2.2.2.2⟩, fun U hU hW9 => ⟨rfl, hK.warm hW9, hXt.warm hW9, by rw [hU]; exact hZ.moved hW9.alike, by rw [hU]; exact hA, by rw [hU]; exact hW, by rw [hU]; exact hO⟩⟩ rfl rfl hn rfl (lv_room hr) hdg hf) hS (fun q _ h9 => hA0 q h9) (fun q h9 => hA0 q h9) ?_
  intro r9 u t H1 locs1 ht hvm hw9 hB hz1 hk1 hS1
  obtain ⟨hB1, hB2⟩ := hB
  replace hB1 : Wh G z y t.heap := hB1
  rw [ht] at hB1 hB2
  replace hw9 : r9 = kO_setInterlock cd := hw9
  subst hw9
  exact kk H1 locs1 hB1 hB2 hS1 hk1 hz1
def kO_setReach (cd : Nat) : Int32 := if cd = 1 then 1 else if cd = 2 then 2 else 0
abbrev WSL_setReach : List Cond := .codeWith yL_setReach cL_setReach 5 (some .int) [(0, 10, 13, 13), (0, 10, 17, 15)] :: wsG
abbrev RML_setReach : Room := { frames := 8, cells := 3, slots := 18, locals := 135 }
set_option maxHeartbeats 4000000 in
set_option maxRecDepth 100000 in
theorem cL_w_setReach (l : Launch) (hst : l.stackTraces = false) (G : Geo) (x y : Mem) (oJ oD : Nat) (hw : Ow G oJ oD) (vj : Int64) (vd : UInt64) (p0 : Int32) (p1 : Int32) {cd : Nat} {v : Int32} {z : Mem} (h : m_X11_setReach p0 p1 x = some (cd, v, z)) (hcd : cd = 0 ∨ cd = 1 ∨ cd = 2) : Met l yL_setReach WSL_setReach RML_setReach (Pz G x y oJ oD vj vd [.ref (gA G 14 0 0), .int p0, .int p1, .ref oJ]) (Qz G z y oJ oD (if cd = 0 then v.toInt64 else vj) vd (kO_setReach cd)) 3 18 (gW G oJ oD) := by
  refine va_MetW (cc := cL_setReach) (maxL := 5) (ret := some .int) (hh := [(0, 10, 13, 13), (0, 10, 17, 15)]) (by decide) rfl ?_
  intro p e s m args below meth c s₁ B hml hv9
  obtain ⟨rfl, hK, hXt, hZ, hA, hW, hO⟩ := hv9
  have hx := B.exec
  have hb := B.bytes
  have hr := B.returns
  have hts := atoms_spec (ws := WSL_setReach) B.pre
  have htg : ∀ w ∈ wsG, w.before _ s = true := fun w h => hts w (List.mem_cons_of_mem _ h)
  have hown : s.vm.findClass RL = some m.cls := findClass_of_methodNamed B.named
  have hlocks := B.notSynchronized
  have htb := vx_table (x := yL_law) B (hts _ List.mem_cons_self)
  have hS : va_S (gF G) s.heap s.heap [] := va_S.rf
  have hl := lv_entry ([.ref (gA G 14 0 0), .int p0, .int p1, .ref oJ]) (n := 5) (Nat.le_of_ble_eq_true rfl)
  rw [lg_entry_eq]
  generalize (lg_sl ([.ref (gA G 14 0 0), .int p0, .int p1, .ref oJ]) ++ List.replicate (5 - (lg_sl ([.ref (gA G 14 0 0), .int p0, .int p1, .ref oJ])).length) Slot.unset).toArray = ls at hl ⊢
  have hl : lv_has ls 5 [(0, .ref (gA G 14 0 0)), (1, .int p0), (2, .int p1), (3, .ref oJ)] := hl
  refine lv_aload_n hx hb dL_setReach_0 rfl (lv_at hl 3 rfl) ?_
  refine lv_iconst (v := (0 : Int32)) hx hb dL_setReach_1 (by decide) ?_
  refine lv_aload_n hx hb dL_setReach_2 rfl (lv_at hl 0 rfl) ?_
  refine lv_iload_n hx hb dL_setReach_3 rfl (lv_at hl 1 rfl) ?_
  refine lv_iload_n hx hb dL_setReach_4 rfl (lv_at hl 2 rfl) ?_
  refine kx_X11_setReach hx hb hml hown htg hst hXt hZ hA hK hW hS h q387 hl.1 (Nat.le_of_ble_eq_true rfl) (Nat.le_of_ble_eq_true rfl) (Nat.le_of_ble_eq_true rfl) ⟨Nat.le_of_ble_eq_true rfl, Nat.le_of_ble_eq_true rfl⟩ dL_setReach_5 (fun hc ce q9 H locs hW hS e1 e2 e3 => ?_) (fun h0 H locs hW hS => ?_)
  · have hO := hO.call hw hS
    have hS := hS.mono9 (B := gW G oJ oD) (fun _ h => Or.inl h)
    rcases hcd with rfl | rfl | rfl
    · exact absurd rfl hc
    · refine vx_catch (E := exN 1) hown [] ⟨0, 10, 13, 13⟩ [⟨0, 10, 17, 15⟩] htb (fun z hz => ?_) (by decide) (by decide) (htg _ q183) (va_Nw.use rfl (hXt.1 _ (by decide +kernel))) e1 e2 e3 ?_
      · simp only [List.mem_cons, List.not_mem_nil, or_false] at hz
      · refine lv_astore (lv' := [(4, .ref q9), (0, .ref (gA G 14 0 0)), (1, .int p0), (2, .int p1), (3, .ref oJ)]) hx hb dL_setReach_13 hl (by decide) rfl (fun ls hl => ?_)
        refine lv_iconst (v := (1 : Int32)) hx hb dL_setReach_15 (by decide) ?_
        exact rt_w hx hb hr hlocks hW hO hS dL_setReach_16
    · refine vx_catch (E := exN 2) hown [⟨0, 10, 13, 13⟩] ⟨0, 10, 17, 15⟩ [] htb (fun z hz => ?_) (by decide) (by decide) (htg _ q184) (va_Nw.use rfl (hXt.1 _ (by decide +kernel))) e1 e2 e3 ?_
      · simp only [List.mem_cons, List.not_mem_nil, or_false] at hz
        rcases hz with rfl
        · exact Or.inr ⟨by decide, "java/lang/IndexOutOfBoundsException", htg _ q183, hXt.2.2 (exN 2, "java/lang/IndexOutOfBoundsException") (by decide +kernel)⟩
      · refine lv_astore (lv' := [(4, .ref q9), (0, .ref (gA G 14 0 0)), (1, .int p0), (2, .int p1), (3, .ref oJ)]) hx hb dL_setReach_17 hl (by decide) rfl (fun ls hl => ?_)
        refine lv_iconst (v := (2 : Int32)) hx hb dL_setReach_19 (by decide) ?_
        exact rt_w hx hb hr hlocks hW hO hS dL_setReach_20
  · subst h0
    have hO := hO.call hw hS
    have hS := hS.mono9 (B := gW G oJ oD) (fun _ h => Or.inl h)
    refine lv_i2l (v := v.toInt64) hx hb dL_setReach_8 rfl ?_
    refine ow_J hx hb hK hW hO hw hS dL_setReach_9 (fun H locs hW hO hS => ?_)
    refine lv_goto (tgt := 21) hx hb dL_setReach_10 (by decide) ?_
    refine lv_iconst (v := (0 : Int32)) hx hb dL_setReach_21 (by decide) ?_
    exact rt_w hx hb hr hlocks hW hO hS dL_setReach_22
set_option maxHeartbeats 4000000 in
theorem kw_setReach {p : Program} {l : Launch} {e : Env} {R : Room} {s : State} {m : MethodId} {args : Array Value} {below : List Frame} {meth : Method} {c : Code} {H : Heap} {locs : List Loc} {cells slots : Nat} {Q : State → Prop} {cc : ByteArray} {pc nL idx : Nat} {ls : Array Slot} {rest : List Value} {G : Geo} {x y : Mem} {oJ oD : Nat} {vj : Int64} {vd : UInt64} {A0 : Nat → Prop} {p0 : Int32} {p1 : Int32} {cd : Nat} {v : Int32} {z : Mem} (hx : p.tables.exec = Jvm.exec) (hb : c.code = cc) (hml : c.maxLocals = nL) (hown : s.vm.findClass RL = some m.cls) (htg : ∀ w ∈ wsG, w.before args s = true) (hst : l.stackTraces = false) (hXt : Xt s) (hZ : Zt G s H) (hA : ∀ q, H.size ≤ q → gF G q) (hK : Kt G s) (hW : Wh G x y H) (hO : Oh G oJ oD vj vd H) (hw : Ow G oJ oD) (hS : va_S A0 s.heap H locs) (hA0 : ∀ q, gW G oJ oD q → A0 q) (h : m_X11_setReach p0 p1 x = some (cd, v, z)) (hcd : cd = 0 ∨ cd = 1 ∨ cd = 2) (hlk : Cond.methodLink RL idx yL_setReach ∈ wsG) (hn : ls.size = nL) (hr : (rest.map fun v => v.category).sum ≤ 8) (hR1 : 8 + 1 ≤ R.frames) (hR2 : 8 + (5 + 11) + 135 ≤ R.locals) (hf : cells + 3 ≤ R.cells ∧ slots + 18 ≤ R.slots) (hdg : decode cc pc = .ok (.invokestatic idx, 3)) (kk : ∀ (H1 : Heap) (locs1 : List Loc), Wh G z y H1 → Oh G oJ oD (if cd = 0 then v.toInt64 else vj) vd H1 → va_S A0 s.heap H1 locs1 → (∀ q : Nat, q < H.size → ¬ gW G oJ oD q → H1[q]? = H[q]?) → H.size ≤ H1.size → W p l e R s m args below meth c H1 locs1 (cells + 3) (slots + 18) Q (F0 m (pc + 3) ls (.int (kO_setReach cd) :: rest))) : W p l e R s m args below meth c H locs cells slots Q (F0 m pc ls (.ref oJ :: .int p1 :: .int p0 :: .ref (gA G 14 0 0) :: rest)) := by
  refine va_calli (vx_runSW (As := [.ref (gA G 14 0 0), .int p0, .int p1, .ref oJ]) (rest := rest) ⟨hx, hb, hml, hown, htg⟩ (cL_w_setReach l hst G x y oJ oD hw vj vd p0 p1 h hcd) (vx_cwSW 4 htg (gd_S hlk q385 q181 q386) rfl rfl rfl (by decide +kernel) ⟨hR1, hR2⟩) ⟨fun a U g mk q => ⟨q.1, q.2.1.calling, q.2.2.1.calling, q.2.2.2.1.calling, q.2.2.2.2.1, q.2.2.2.2.2.1, q.2.2.2.2.2.2⟩, fun U hU hW9 => ⟨rfl, hK.warm hW9, hXt.warm hW9, by rw [hU]; exact hZ.moved hW9.alike, by rw [hU]; exact hA, by rw [hU]; exact hW, by rw [hU]; exact hO⟩⟩ rfl rfl hn rfl (lv_room hr) hdg hf) hS (fun q _ h9 => hA0 q h9) (fun q h9 => hA0 q h9) ?_
  intro r9 u t H1 locs1 ht hvm hw9 hB hz1 hk1 hS1
  obtain ⟨hB1, hB2⟩ := hB
  replace hB1 : Wh G z y t.heap := hB1
  rw [ht] at hB1 hB2
  replace hw9 : r9 = kO_setReach cd := hw9
  subst hw9
  exact kk H1 locs1 hB1 hB2 hS1 hk1 hz1
def kO_setCapacity (cd : Nat) : Int32 := if cd = 1 then 1 else if cd = 2 then 2 else if cd = 3 then 3 else 0
abbrev WSL_setCapacity : List Cond := .codeWith yL_setCapacity cL_setCapacity 5 (some .int) [(0, 10, 13, 13), (0, 10, 17, 15), (0, 10, 21, 17)] :: wsG
abbrev RML_setCapacity : Room := { frames := 8, cells := 3, slots := 18, locals := 134 }
set_option maxHeartbeats 4000000 in
set_option maxRecDepth 100000 in
theorem cL_w_setCapacity (l : Launch) (hst : l.stackTraces = false) (G : Geo) (x y : Mem) (oJ oD : Nat) (hw : Ow G oJ oD) (vj : Int64) (vd : UInt64) (p0 : Int32) (p1 : Int32) {cd : Nat} {v : Int32} {z : Mem} (h : m_X11_setCapacity p0 p1 x = some (cd, v, z)) (hcd : cd = 0 ∨ cd = 1 ∨ cd = 2 ∨ cd = 3) : Met l yL_setCapacity WSL_setCapacity RML_setCapacity (Pz G x y oJ oD vj vd [.ref (gA G 14 0 0), .int p0, .int p1, .ref oJ]) (Qz G z y oJ oD (if cd = 0 then v.toInt64 else vj) vd (kO_setCapacity cd)) 3 18 (gW G oJ oD) := by
  refine va_MetW (cc := cL_setCapacity) (maxL := 5) (ret := some .int) (hh := [(0, 10, 13, 13), (0, 10, 17, 15), (0, 10, 21, 17)]) (by decide) rfl ?_
  intro p e s m args below meth c s₁ B hml hv9
  obtain ⟨rfl, hK, hXt, hZ, hA, hW, hO⟩ := hv9
  have hx := B.exec
  have hb := B.bytes
  have hr := B.returns
  have hts := atoms_spec (ws := WSL_setCapacity) B.pre
  have htg : ∀ w ∈ wsG, w.before _ s = true := fun w h => hts w (List.mem_cons_of_mem _ h)
  have hown : s.vm.findClass RL = some m.cls := findClass_of_methodNamed B.named
  have hlocks := B.notSynchronized
  have htb := vx_table (x := yL_law) B (hts _ List.mem_cons_self)
  have hS : va_S (gF G) s.heap s.heap [] := va_S.rf
  have hl := lv_entry ([.ref (gA G 14 0 0), .int p0, .int p1, .ref oJ]) (n := 5) (Nat.le_of_ble_eq_true rfl)
  rw [lg_entry_eq]
  generalize (lg_sl ([.ref (gA G 14 0 0), .int p0, .int p1, .ref oJ]) ++ List.replicate (5 - (lg_sl ([.ref (gA G 14 0 0), .int p0, .int p1, .ref oJ])).length) Slot.unset).toArray = ls at hl ⊢
  have hl : lv_has ls 5 [(0, .ref (gA G 14 0 0)), (1, .int p0), (2, .int p1), (3, .ref oJ)] := hl
  refine lv_aload_n hx hb dL_setCapacity_0 rfl (lv_at hl 3 rfl) ?_
  refine lv_iconst (v := (0 : Int32)) hx hb dL_setCapacity_1 (by decide) ?_
  refine lv_aload_n hx hb dL_setCapacity_2 rfl (lv_at hl 0 rfl) ?_
  refine lv_iload_n hx hb dL_setCapacity_3 rfl (lv_at hl 1 rfl) ?_
  refine lv_iload_n hx hb dL_setCapacity_4 rfl (lv_at hl 2 rfl) ?_
  refine kx_X11_setCapacity hx hb hml hown htg hst hXt hZ hA hK hW hS h q414 hl.1 (Nat.le_of_ble_eq_true rfl) (Nat.le_of_ble_eq_true rfl) (Nat.le_of_ble_eq_true rfl) ⟨Nat.le_of_ble_eq_true rfl, Nat.le_of_ble_eq_true rfl⟩ dL_setCapacity_5 (fun hc ce q9 H locs hW hS e1 e2 e3 => ?_) (fun h0 H locs hW hS => ?_)
  · have hO := hO.call hw hS
    have hS := hS.mono9 (B := gW G oJ oD) (fun _ h => Or.inl h)
    rcases hcd with rfl | rfl | rfl | rfl
    · exact absurd rfl hc
    · refine vx_catch (E := exN 1) hown [] ⟨0, 10, 13, 13⟩ [⟨0, 10, 17, 15⟩, ⟨0, 10, 21, 17⟩] htb (fun z hz => ?_) (by decide) (by decide) (htg _ q183) (va_Nw.use rfl (hXt.1 _ (by decide +kernel))) e1 e2 e3 ?_
      · simp only [List.mem_cons, List.not_mem_nil, or_false] at hz
      · refine lv_astore (lv' := [(4, .ref q9), (0, .ref (gA G 14 0 0)), (1, .int p0), (2, .int p1), (3, .ref oJ)]) hx hb dL_setCapacity_13 hl (by decide) rfl (fun ls hl => ?_)
        refine lv_iconst (v := (1 : Int32)) hx hb dL_setCapacity_15 (by decide) ?_
        exact rt_w hx hb hr hlocks hW hO hS dL_setCapacity_16
    · refine vx_catch (E := exN 2) hown [⟨0, 10, 13, 13⟩] ⟨0, 10, 17, 15⟩ [⟨0, 10, 21, 17⟩] htb (fun z hz => ?_) (by decide) (by decide) (htg _ q184) (va_Nw.use rfl (hXt.1 _ (by decide +kernel))) e1 e2 e3 ?_
      · simp only [List.mem_cons, List.not_mem_nil, or_false] at hz
        rcases hz with rfl
        · exact Or.inr ⟨by decide, "java/lang/IndexOutOfBoundsException", htg _ q183, hXt.2.2 (exN 2, "java/lang/IndexOutOfBoundsException") (by decide +kernel)⟩
      · refine lv_astore (lv' := [(4, .ref q9), (0, .ref (gA G 14 0 0)), (1, .int p0), (2, .int p1), (3, .ref oJ)]) hx hb dL_setCapacity_17 hl (by decide) rfl (fun ls hl => ?_)
        refine lv_iconst (v := (2 : Int32)) hx hb dL_setCapacity_19 (by decide) ?_
        exact rt_w hx hb hr hlocks hW hO hS dL_setCapacity_20
    · refine vx_catch (E := exN 3) hown [⟨0, 10, 13, 13⟩, ⟨0, 10, 17, 15⟩] ⟨0, 10, 21, 17⟩ [] htb (fun z hz => ?_) (by decide) (by decide) (htg _ q185) (va_Nw.use rfl (hXt.1 _ (by decide +kernel))) e1 e2 e3 ?_
      · simp only [List.mem_cons, List.not_mem_nil, or_false] at hz
        rcases hz with rfl | rfl
        · exact Or.inr ⟨by decide, "java/lang/IndexOutOfBoundsException", htg _ q183, hXt.2.2 (exN 3, "java/lang/IndexOutOfBoundsException") (by decide +kernel)⟩
        · exact Or.inr ⟨by decide, "java/lang/IllegalArgumentException", htg _ q184, hXt.2.2 (exN 3, "java/lang/IllegalArgumentException") (by decide +kernel)⟩
      · refine lv_astore (lv' := [(4, .ref q9), (0, .ref (gA G 14 0 0)), (1, .int p0), (2, .int p1), (3, .ref oJ)]) hx hb dL_setCapacity_21 hl (by decide) rfl (fun ls hl => ?_)
        refine lv_iconst (v := (3 : Int32)) hx hb dL_setCapacity_23 (by decide) ?_
        exact rt_w hx hb hr hlocks hW hO hS dL_setCapacity_24
  · subst h0
    have hO := hO.call hw hS
    have hS := hS.mono9 (B := gW G oJ oD) (fun _ h => Or.inl h)
    refine lv_i2l (v := v.toInt64) hx hb dL_setCapacity_8 rfl ?_
    refine ow_J hx hb hK hW hO hw hS dL_setCapacity_9 (fun H locs hW hO hS => ?_)
    refine lv_goto (tgt := 25) hx hb dL_setCapacity_10 (by decide) ?_
    refine lv_iconst (v := (0 : Int32)) hx hb dL_setCapacity_25 (by decide) ?_
    exact rt_w hx hb hr hlocks hW hO hS dL_setCapacity_26
set_option maxHeartbeats 4000000 in
theorem kw_setCapacity {p : Program} {l : Launch} {e : Env} {R : Room} {s : State} {m : MethodId} {args : Array Value} {below : List Frame} {meth : Method} {c : Code} {H : Heap} {locs : List Loc} {cells slots : Nat} {Q : State → Prop} {cc : ByteArray} {pc nL idx : Nat} {ls : Array Slot} {rest : List Value} {G : Geo} {x y : Mem} {oJ oD : Nat} {vj : Int64} {vd : UInt64} {A0 : Nat → Prop} {p0 : Int32} {p1 : Int32} {cd : Nat} {v : Int32} {z : Mem} (hx : p.tables.exec = Jvm.exec) (hb : c.code = cc) (hml : c.maxLocals = nL) (hown : s.vm.findClass RL = some m.cls) (htg : ∀ w ∈ wsG, w.before args s = true) (hst : l.stackTraces = false) (hXt : Xt s) (hZ : Zt G s H) (hA : ∀ q, H.size ≤ q → gF G q) (hK : Kt G s) (hW : Wh G x y H) (hO : Oh G oJ oD vj vd H) (hw : Ow G oJ oD) (hS : va_S A0 s.heap H locs) (hA0 : ∀ q, gW G oJ oD q → A0 q) (h : m_X11_setCapacity p0 p1 x = some (cd, v, z)) (hcd : cd = 0 ∨ cd = 1 ∨ cd = 2 ∨ cd = 3) (hlk : Cond.methodLink RL idx yL_setCapacity ∈ wsG) (hn : ls.size = nL) (hr : (rest.map fun v => v.category).sum ≤ 8) (hR1 : 8 + 1 ≤ R.frames) (hR2 : 8 + (5 + 11) + 134 ≤ R.locals) (hf : cells + 3 ≤ R.cells ∧ slots + 18 ≤ R.slots) (hdg : decode cc pc = .ok (.invokestatic idx, 3)) (kk : ∀ (H1 : Heap) (locs1 : List Loc), Wh G z y H1 → Oh G oJ oD (if cd = 0 then v.toInt64 else vj) vd H1 → va_S A0 s.heap H1 locs1 → (∀ q : Nat, q < H.size → ¬ gW G oJ oD q → H1[q]? = H[q]?) → H.size ≤ H1.size → W p l e R s m args below meth c H1 locs1 (cells + 3) (slots + 18) Q (F0 m (pc + 3) ls (.int (kO_setCapacity cd) :: rest))) : W p l e R s m args below meth c H locs cells slots Q (F0 m pc ls (.ref oJ :: .int p1 :: .int p0 :: .ref (gA G 14 0 0) :: rest)) := by
  refine va_calli (vx_runSW (As := [.ref (gA G 14 0 0), .int p0, .int p1, .ref oJ]) (rest := rest) ⟨hx, hb, hml, hown, htg⟩ (cL_w_setCapacity l hst G x y oJ oD hw vj vd p0 p1 h hcd) (vx_cwSW 4 htg (gd_S hlk q412 q181 q413) rfl rfl rfl (by decide +kernel) ⟨hR1, hR2⟩) ⟨fun a U g mk q => ⟨q.1, q.2.1.calling, q.2.2.1.calling, q.2.2.2.1.calling, q.2.2.2.2.1, q.2.2.2.2.2.1, q.2.2.2.2.2.2⟩, fun U hU hW9 => ⟨rfl, hK.warm hW9, hXt.warm hW9, by rw [hU]; exact hZ.moved hW9.alike, by rw [hU]; exact hA, by rw [hU]; exact hW, by rw [hU]; exact hO⟩⟩ rfl rfl hn rfl (lv_room hr) hdg hf) hS (fun q _ h9 => hA0 q h9) (fun q h9 => hA0 q h9) ?_
  intro r9 u t H1 locs1 ht hvm hw9 hB hz1 hk1 hS1
  obtain ⟨hB1, hB2⟩ := hB
  replace hB1 : Wh G z y t.heap := hB1
  rw [ht] at hB1 hB2
  replace hw9 : r9 = kO_setCapacity cd := hw9
  subst hw9
  exact kk H1 locs1 hB1 hB2 hS1 hk1 hz1
def kO_supply (cd : Nat) : Int32 := if cd = 1 then 1 else if cd = 3 then 2 else 0
abbrev WSL_supply : List Cond := .codeWith yL_supply cL_supply 4 (some .int) [(0, 9, 12, 13), (0, 9, 15, 17)] :: wsG
abbrev RML_supply : Room := { frames := 8, cells := 3, slots := 18, locals := 133 }
set_option maxHeartbeats 4000000 in
set_option maxRecDepth 100000 in
theorem cL_w_supply (l : Launch) (hst : l.stackTraces = false) (G : Geo) (x y : Mem) (oJ oD : Nat) (hw : Ow G oJ oD) (vj : Int64) (vd : UInt64) (p0 : Int32) {cd : Nat} {v : Int32} {z : Mem} (h : m_X11_supply p0 x = some (cd, v, z)) (hcd : cd = 0 ∨ cd = 1 ∨ cd = 3) : Met l yL_supply WSL_supply RML_supply (Pz G x y oJ oD vj vd [.ref (gA G 14 0 0), .int p0, .ref oJ]) (Qz G z y oJ oD (if cd = 0 then v.toInt64 else vj) vd (kO_supply cd)) 3 18 (gW G oJ oD) := by
  refine va_MetW (cc := cL_supply) (maxL := 4) (ret := some .int) (hh := [(0, 9, 12, 13), (0, 9, 15, 17)]) (by decide) rfl ?_
  intro p e s m args below meth c s₁ B hml hv9
  obtain ⟨rfl, hK, hXt, hZ, hA, hW, hO⟩ := hv9
  have hx := B.exec
  have hb := B.bytes
  have hr := B.returns
  have hts := atoms_spec (ws := WSL_supply) B.pre
  have htg : ∀ w ∈ wsG, w.before _ s = true := fun w h => hts w (List.mem_cons_of_mem _ h)
  have hown : s.vm.findClass RL = some m.cls := findClass_of_methodNamed B.named
  have hlocks := B.notSynchronized
  have htb := vx_table (x := yL_law) B (hts _ List.mem_cons_self)
  have hS : va_S (gF G) s.heap s.heap [] := va_S.rf
  have hl := lv_entry ([.ref (gA G 14 0 0), .int p0, .ref oJ]) (n := 4) (Nat.le_of_ble_eq_true rfl)
  rw [lg_entry_eq]
  generalize (lg_sl ([.ref (gA G 14 0 0), .int p0, .ref oJ]) ++ List.replicate (4 - (lg_sl ([.ref (gA G 14 0 0), .int p0, .ref oJ])).length) Slot.unset).toArray = ls at hl ⊢
  have hl : lv_has ls 4 [(0, .ref (gA G 14 0 0)), (1, .int p0), (2, .ref oJ)] := hl
  refine lv_aload_n hx hb dL_supply_0 rfl (lv_at hl 2 rfl) ?_
  refine lv_iconst (v := (0 : Int32)) hx hb dL_supply_1 (by decide) ?_
  refine lv_aload_n hx hb dL_supply_2 rfl (lv_at hl 0 rfl) ?_
  refine lv_iload_n hx hb dL_supply_3 rfl (lv_at hl 1 rfl) ?_
  refine kx_X11_supply hx hb hml hown htg hst hXt hZ hA hK hW hS h q437 hl.1 (Nat.le_of_ble_eq_true rfl) (Nat.le_of_ble_eq_true rfl) (Nat.le_of_ble_eq_true rfl) ⟨Nat.le_of_ble_eq_true rfl, Nat.le_of_ble_eq_true rfl⟩ dL_supply_4 (fun hc ce q9 H locs hW hS e1 e2 e3 => ?_) (fun h0 H locs hW hS => ?_)
  · have hO := hO.call hw hS
    have hS := hS.mono9 (B := gW G oJ oD) (fun _ h => Or.inl h)
    rcases hcd with rfl | rfl | rfl
    · exact absurd rfl hc
    · refine vx_catch (E := exN 1) hown [] ⟨0, 9, 12, 13⟩ [⟨0, 9, 15, 17⟩] htb (fun z hz => ?_) (by decide) (by decide) (htg _ q183) (va_Nw.use rfl (hXt.1 _ (by decide +kernel))) e1 e2 e3 ?_
      · simp only [List.mem_cons, List.not_mem_nil, or_false] at hz
      · refine lv_astore_n (lv' := [(3, .ref q9), (0, .ref (gA G 14 0 0)), (1, .int p0), (2, .ref oJ)]) hx hb dL_supply_12 rfl hl (by decide) rfl (fun ls hl => ?_)
        refine lv_iconst (v := (1 : Int32)) hx hb dL_supply_13 (by decide) ?_
        exact rt_w hx hb hr hlocks hW hO hS dL_supply_14
    · refine vx_catch (E := exN 3) hown [⟨0, 9, 12, 13⟩] ⟨0, 9, 15, 17⟩ [] htb (fun z hz => ?_) (by decide) (by decide) (htg _ q185) (va_Nw.use rfl (hXt.1 _ (by decide +kernel))) e1 e2 e3 ?_
      · simp only [List.mem_cons, List.not_mem_nil, or_false] at hz
        rcases hz with rfl
        · exact Or.inr ⟨by decide, "java/lang/IndexOutOfBoundsException", htg _ q183, hXt.2.2 (exN 3, "java/lang/IndexOutOfBoundsException") (by decide +kernel)⟩
      · refine lv_astore_n (lv' := [(3, .ref q9), (0, .ref (gA G 14 0 0)), (1, .int p0), (2, .ref oJ)]) hx hb dL_supply_15 rfl hl (by decide) rfl (fun ls hl => ?_)
        refine lv_iconst (v := (2 : Int32)) hx hb dL_supply_16 (by decide) ?_
        exact rt_w hx hb hr hlocks hW hO hS dL_supply_17
  · subst h0
    have hO := hO.call hw hS
    have hS := hS.mono9 (B := gW G oJ oD) (fun _ h => Or.inl h)
    refine lv_i2l (v := v.toInt64) hx hb dL_supply_7 rfl ?_
    refine ow_J hx hb hK hW hO hw hS dL_supply_8 (fun H locs hW hO hS => ?_)
    refine lv_goto (tgt := 18) hx hb dL_supply_9 (by decide) ?_
    refine lv_iconst (v := (0 : Int32)) hx hb dL_supply_18 (by decide) ?_
    exact rt_w hx hb hr hlocks hW hO hS dL_supply_19
set_option maxHeartbeats 4000000 in
theorem kw_supply {p : Program} {l : Launch} {e : Env} {R : Room} {s : State} {m : MethodId} {args : Array Value} {below : List Frame} {meth : Method} {c : Code} {H : Heap} {locs : List Loc} {cells slots : Nat} {Q : State → Prop} {cc : ByteArray} {pc nL idx : Nat} {ls : Array Slot} {rest : List Value} {G : Geo} {x y : Mem} {oJ oD : Nat} {vj : Int64} {vd : UInt64} {A0 : Nat → Prop} {p0 : Int32} {cd : Nat} {v : Int32} {z : Mem} (hx : p.tables.exec = Jvm.exec) (hb : c.code = cc) (hml : c.maxLocals = nL) (hown : s.vm.findClass RL = some m.cls) (htg : ∀ w ∈ wsG, w.before args s = true) (hst : l.stackTraces = false) (hXt : Xt s) (hZ : Zt G s H) (hA : ∀ q, H.size ≤ q → gF G q) (hK : Kt G s) (hW : Wh G x y H) (hO : Oh G oJ oD vj vd H) (hw : Ow G oJ oD) (hS : va_S A0 s.heap H locs) (hA0 : ∀ q, gW G oJ oD q → A0 q) (h : m_X11_supply p0 x = some (cd, v, z)) (hcd : cd = 0 ∨ cd = 1 ∨ cd = 3) (hlk : Cond.methodLink RL idx yL_supply ∈ wsG) (hn : ls.size = nL) (hr : (rest.map fun v => v.category).sum ≤ 8) (hR1 : 8 + 1 ≤ R.frames) (hR2 : 8 + (4 + 11) + 133 ≤ R.locals) (hf : cells + 3 ≤ R.cells ∧ slots + 18 ≤ R.slots) (hdg : decode cc pc = .ok (.invokestatic idx, 3)) (kk : ∀ (H1 : Heap) (locs1 : List Loc), Wh G z y H1 → Oh G oJ oD (if cd = 0 then v.toInt64 else vj) vd H1 → va_S A0 s.heap H1 locs1 → (∀ q : Nat, q < H.size → ¬ gW G oJ oD q → H1[q]? = H[q]?) → H.size ≤ H1.size → W p l e R s m args below meth c H1 locs1 (cells + 3) (slots + 18) Q (F0 m (pc + 3) ls (.int (kO_supply cd) :: rest))) : W p l e R s m args below meth c H locs cells slots Q (F0 m pc ls (.ref oJ :: .int p0 :: .ref (gA G 14 0 0) :: rest)) := by
  refine va_calli (vx_runSW (As := [.ref (gA G 14 0 0), .int p0, .ref oJ]) (rest := rest) ⟨hx, hb, hml, hown, htg⟩ (cL_w_supply l hst G x y oJ oD hw vj vd p0 h hcd) (vx_cwSW 3 htg (gd_S hlk q435 q181 q436) rfl rfl rfl (by decide +kernel) ⟨hR1, hR2⟩) ⟨fun a U g mk q => ⟨q.1, q.2.1.calling, q.2.2.1.calling, q.2.2.2.1.calling, q.2.2.2.2.1, q.2.2.2.2.2.1, q.2.2.2.2.2.2⟩, fun U hU hW9 => ⟨rfl, hK.warm hW9, hXt.warm hW9, by rw [hU]; exact hZ.moved hW9.alike, by rw [hU]; exact hA, by rw [hU]; exact hW, by rw [hU]; exact hO⟩⟩ rfl rfl hn rfl (lv_room hr) hdg hf) hS (fun q _ h9 => hA0 q h9) (fun q h9 => hA0 q h9) ?_
  intro r9 u t H1 locs1 ht hvm hw9 hB hz1 hk1 hS1
  obtain ⟨hB1, hB2⟩ := hB
  replace hB1 : Wh G z y t.heap := hB1
  rw [ht] at hB1 hB2
  replace hw9 : r9 = kO_supply cd := hw9
  subst hw9
  exact kk H1 locs1 hB1 hB2 hS1 hk1 hz1
def kO_zone (cd : Nat) : Int32 := if cd = 1 then 1 else if cd = 2 then 2 else 0
abbrev WSL_zone : List Cond := .codeWith yL_zone cL_zone 5 (some .int) [(0, 10, 13, 13), (0, 10, 17, 15)] :: wsG
abbrev RML_zone : Room := { frames := 8, cells := 3, slots := 18, locals := 133 }
set_option maxHeartbeats 4000000 in
set_option maxRecDepth 100000 in
theorem cL_w_zone (l : Launch) (hst : l.stackTraces = false) (G : Geo) (x y : Mem) (oJ oD : Nat) (hw : Ow G oJ oD) (vj : Int64) (vd : UInt64) (p0 : Int32) (p1 : Int32) {cd : Nat} {v : Int32} {z : Mem} (h : m_X11_zone p0 p1 x = some (cd, v, z)) (hcd : cd = 0 ∨ cd = 1 ∨ cd = 2) : Met l yL_zone WSL_zone RML_zone (Pz G x y oJ oD vj vd [.ref (gA G 14 0 0), .int p0, .int p1, .ref oJ]) (Qz G z y oJ oD (if cd = 0 then v.toInt64 else vj) vd (kO_zone cd)) 3 18 (gW G oJ oD) := by
  refine va_MetW (cc := cL_zone) (maxL := 5) (ret := some .int) (hh := [(0, 10, 13, 13), (0, 10, 17, 15)]) (by decide) rfl ?_
  intro p e s m args below meth c s₁ B hml hv9
  obtain ⟨rfl, hK, hXt, hZ, hA, hW, hO⟩ := hv9
  have hx := B.exec
  have hb := B.bytes
  have hr := B.returns
  have hts := atoms_spec (ws := WSL_zone) B.pre
  have htg : ∀ w ∈ wsG, w.before _ s = true := fun w h => hts w (List.mem_cons_of_mem _ h)
  have hown : s.vm.findClass RL = some m.cls := findClass_of_methodNamed B.named
  have hlocks := B.notSynchronized
  have htb := vx_table (x := yL_law) B (hts _ List.mem_cons_self)
  have hS : va_S (gF G) s.heap s.heap [] := va_S.rf
  have hl := lv_entry ([.ref (gA G 14 0 0), .int p0, .int p1, .ref oJ]) (n := 5) (Nat.le_of_ble_eq_true rfl)
  rw [lg_entry_eq]
  generalize (lg_sl ([.ref (gA G 14 0 0), .int p0, .int p1, .ref oJ]) ++ List.replicate (5 - (lg_sl ([.ref (gA G 14 0 0), .int p0, .int p1, .ref oJ])).length) Slot.unset).toArray = ls at hl ⊢
  have hl : lv_has ls 5 [(0, .ref (gA G 14 0 0)), (1, .int p0), (2, .int p1), (3, .ref oJ)] := hl
  refine lv_aload_n hx hb dL_zone_0 rfl (lv_at hl 3 rfl) ?_
  refine lv_iconst (v := (0 : Int32)) hx hb dL_zone_1 (by decide) ?_
  refine lv_aload_n hx hb dL_zone_2 rfl (lv_at hl 0 rfl) ?_
  refine lv_iload_n hx hb dL_zone_3 rfl (lv_at hl 1 rfl) ?_
  refine lv_iload_n hx hb dL_zone_4 rfl (lv_at hl 2 rfl) ?_
  refine kx_X11_zone hx hb hml hown htg hst hXt hZ hA hK hW hS h q464 hl.1 (Nat.le_of_ble_eq_true rfl) (Nat.le_of_ble_eq_true rfl) (Nat.le_of_ble_eq_true rfl) ⟨Nat.le_of_ble_eq_true rfl, Nat.le_of_ble_eq_true rfl⟩ dL_zone_5 (fun hc ce q9 H locs hW hS e1 e2 e3 => ?_) (fun h0 H locs hW hS => ?_)
  · have hO := hO.call hw hS
    have hS := hS.mono9 (B := gW G oJ oD) (fun _ h => Or.inl h)
    rcases hcd with rfl | rfl | rfl
    · exact absurd rfl hc
    · refine vx_catch (E := exN 1) hown [] ⟨0, 10, 13, 13⟩ [⟨0, 10, 17, 15⟩] htb (fun z hz => ?_) (by decide) (by decide) (htg _ q183) (va_Nw.use rfl (hXt.1 _ (by decide +kernel))) e1 e2 e3 ?_
      · simp only [List.mem_cons, List.not_mem_nil, or_false] at hz
      · refine lv_astore (lv' := [(4, .ref q9), (0, .ref (gA G 14 0 0)), (1, .int p0), (2, .int p1), (3, .ref oJ)]) hx hb dL_zone_13 hl (by decide) rfl (fun ls hl => ?_)
        refine lv_iconst (v := (1 : Int32)) hx hb dL_zone_15 (by decide) ?_
        exact rt_w hx hb hr hlocks hW hO hS dL_zone_16
    · refine vx_catch (E := exN 2) hown [⟨0, 10, 13, 13⟩] ⟨0, 10, 17, 15⟩ [] htb (fun z hz => ?_) (by decide) (by decide) (htg _ q184) (va_Nw.use rfl (hXt.1 _ (by decide +kernel))) e1 e2 e3 ?_
      · simp only [List.mem_cons, List.not_mem_nil, or_false] at hz
        rcases hz with rfl
        · exact Or.inr ⟨by decide, "java/lang/IndexOutOfBoundsException", htg _ q183, hXt.2.2 (exN 2, "java/lang/IndexOutOfBoundsException") (by decide +kernel)⟩
      · refine lv_astore (lv' := [(4, .ref q9), (0, .ref (gA G 14 0 0)), (1, .int p0), (2, .int p1), (3, .ref oJ)]) hx hb dL_zone_17 hl (by decide) rfl (fun ls hl => ?_)
        refine lv_iconst (v := (2 : Int32)) hx hb dL_zone_19 (by decide) ?_
        exact rt_w hx hb hr hlocks hW hO hS dL_zone_20
  · subst h0
    have hO := hO.call hw hS
    have hS := hS.mono9 (B := gW G oJ oD) (fun _ h => Or.inl h)
    refine lv_i2l (v := v.toInt64) hx hb dL_zone_8 rfl ?_
    refine ow_J hx hb hK hW hO hw hS dL_zone_9 (fun H locs hW hO hS => ?_)
    refine lv_goto (tgt := 21) hx hb dL_zone_10 (by decide) ?_
    refine lv_iconst (v := (0 : Int32)) hx hb dL_zone_21 (by decide) ?_
    exact rt_w hx hb hr hlocks hW hO hS dL_zone_22
set_option maxHeartbeats 4000000 in
theorem kw_zone {p : Program} {l : Launch} {e : Env} {R : Room} {s : State} {m : MethodId} {args : Array Value} {below : List Frame} {meth : Method} {c : Code} {H : Heap} {locs : List Loc} {cells slots : Nat} {Q : State → Prop} {cc : ByteArray} {pc nL idx : Nat} {ls : Array Slot} {rest : List Value} {G : Geo} {x y : Mem} {oJ oD : Nat} {vj : Int64} {vd : UInt64} {A0 : Nat → Prop} {p0 : Int32} {p1 : Int32} {cd : Nat} {v : Int32} {z : Mem} (hx : p.tables.exec = Jvm.exec) (hb : c.code = cc) (hml : c.maxLocals = nL) (hown : s.vm.findClass RL = some m.cls) (htg : ∀ w ∈ wsG, w.before args s = true) (hst : l.stackTraces = false) (hXt : Xt s) (hZ : Zt G s H) (hA : ∀ q, H.size ≤ q → gF G q) (hK : Kt G s) (hW : Wh G x y H) (hO : Oh G oJ oD vj vd H) (hw : Ow G oJ oD) (hS : va_S A0 s.heap H locs) (hA0 : ∀ q, gW G oJ oD q → A0 q) (h : m_X11_zone p0 p1 x = some (cd, v, z)) (hcd : cd = 0 ∨ cd = 1 ∨ cd = 2) (hlk : Cond.methodLink RL idx yL_zone ∈ wsG) (hn : ls.size = nL) (hr : (rest.map fun v => v.category).sum ≤ 8) (hR1 : 8 + 1 ≤ R.frames) (hR2 : 8 + (5 + 11) + 133 ≤ R.locals) (hf : cells + 3 ≤ R.cells ∧ slots + 18 ≤ R.slots) (hdg : decode cc pc = .ok (.invokestatic idx, 3)) (kk : ∀ (H1 : Heap) (locs1 : List Loc), Wh G z y H1 → Oh G oJ oD (if cd = 0 then v.toInt64 else vj) vd H1 → va_S A0 s.heap H1 locs1 → (∀ q : Nat, q < H.size → ¬ gW G oJ oD q → H1[q]? = H[q]?) → H.size ≤ H1.size → W p l e R s m args below meth c H1 locs1 (cells + 3) (slots + 18) Q (F0 m (pc + 3) ls (.int (kO_zone cd) :: rest))) : W p l e R s m args below meth c H locs cells slots Q (F0 m pc ls (.ref oJ :: .int p1 :: .int p0 :: .ref (gA G 14 0 0) :: rest)) := by
  refine va_calli (vx_runSW (As := [.ref (gA G 14 0 0), .int p0, .int p1, .ref oJ]) (rest := rest) ⟨hx, hb, hml, hown, htg⟩ (cL_w_zone l hst G x y oJ oD hw vj vd p0 p1 h hcd) (vx_cwSW 4 htg (gd_S hlk q462 q181 q463) rfl rfl rfl (by decide +kernel) ⟨hR1, hR2⟩) ⟨fun a U g mk q => ⟨q.1, q.2.1.calling, q.2.2.1.calling, q.2.2.2.1.calling, q.2.2.2.2.1, q.2.2.2.2.2.1, q.2.2.2.2.2.2⟩, fun U hU hW9 => ⟨rfl, hK.warm hW9, hXt.warm hW9, by rw [hU]; exact hZ.moved hW9.alike, by rw [hU]; exact hA, by rw [hU]; exact hW, by rw [hU]; exact hO⟩⟩ rfl rfl hn rfl (lv_room hr) hdg hf) hS (fun q _ h9 => hA0 q h9) (fun q h9 => hA0 q h9) ?_
  intro r9 u t H1 locs1 ht hvm hw9 hB hz1 hk1 hS1
  obtain ⟨hB1, hB2⟩ := hB
  replace hB1 : Wh G z y t.heap := hB1
  rw [ht] at hB1 hB2
  replace hw9 : r9 = kO_zone cd := hw9
  subst hw9
  exact kk H1 locs1 hB1 hB2 hS1 hk1 hz1
def kO_buffer (cd : Nat) : Int32 := if cd = 1 then 1 else if cd = 2 then 2 else 0
abbrev WSL_buffer : List Cond := .codeWith yL_buffer cL_buffer 5 (some .int) [(0, 10, 13, 13), (0, 10, 17, 15)] :: wsG
abbrev RML_buffer : Room := { frames := 8, cells := 3, slots := 18, locals := 133 }
set_option maxHeartbeats 4000000 in
set_option maxRecDepth 100000 in
theorem cL_w_buffer (l : Launch) (hst : l.stackTraces = false) (G : Geo) (x y : Mem) (oJ oD : Nat) (hw : Ow G oJ oD) (vj : Int64) (vd : UInt64) (p0 : Int32) (p1 : Int32) {cd : Nat} {v : Int32} {z : Mem} (h : m_X11_buffer p0 p1 x = some (cd, v, z)) (hcd : cd = 0 ∨ cd = 1 ∨ cd = 2) : Met l yL_buffer WSL_buffer RML_buffer (Pz G x y oJ oD vj vd [.ref (gA G 14 0 0), .int p0, .int p1, .ref oJ]) (Qz G z y oJ oD (if cd = 0 then v.toInt64 else vj) vd (kO_buffer cd)) 3 18 (gW G oJ oD) := by
  refine va_MetW (cc := cL_buffer) (maxL := 5) (ret := some .int) (hh := [(0, 10, 13, 13), (0, 10, 17, 15)]) (by decide) rfl ?_
  intro p e s m args below meth c s₁ B hml hv9
  obtain ⟨rfl, hK, hXt, hZ, hA, hW, hO⟩ := hv9
  have hx := B.exec
  have hb := B.bytes
  have hr := B.returns
  have hts := atoms_spec (ws := WSL_buffer) B.pre
  have htg : ∀ w ∈ wsG, w.before _ s = true := fun w h => hts w (List.mem_cons_of_mem _ h)
  have hown : s.vm.findClass RL = some m.cls := findClass_of_methodNamed B.named
  have hlocks := B.notSynchronized
  have htb := vx_table (x := yL_law) B (hts _ List.mem_cons_self)
  have hS : va_S (gF G) s.heap s.heap [] := va_S.rf
  have hl := lv_entry ([.ref (gA G 14 0 0), .int p0, .int p1, .ref oJ]) (n := 5) (Nat.le_of_ble_eq_true rfl)
  rw [lg_entry_eq]
  generalize (lg_sl ([.ref (gA G 14 0 0), .int p0, .int p1, .ref oJ]) ++ List.replicate (5 - (lg_sl ([.ref (gA G 14 0 0), .int p0, .int p1, .ref oJ])).length) Slot.unset).toArray = ls at hl ⊢
  have hl : lv_has ls 5 [(0, .ref (gA G 14 0 0)), (1, .int p0), (2, .int p1), (3, .ref oJ)] := hl
  refine lv_aload_n hx hb dL_buffer_0 rfl (lv_at hl 3 rfl) ?_
  refine lv_iconst (v := (0 : Int32)) hx hb dL_buffer_1 (by decide) ?_
  refine lv_aload_n hx hb dL_buffer_2 rfl (lv_at hl 0 rfl) ?_
  refine lv_iload_n hx hb dL_buffer_3 rfl (lv_at hl 1 rfl) ?_
  refine lv_iload_n hx hb dL_buffer_4 rfl (lv_at hl 2 rfl) ?_
  refine kx_X11_buffer hx hb hml hown htg hst hXt hZ hA hK hW hS h q497 hl.1 (Nat.le_of_ble_eq_true rfl) (Nat.le_of_ble_eq_true rfl) (Nat.le_of_ble_eq_true rfl) ⟨Nat.le_of_ble_eq_true rfl, Nat.le_of_ble_eq_true rfl⟩ dL_buffer_5 (fun hc ce q9 H locs hW hS e1 e2 e3 => ?_) (fun h0 H locs hW hS => ?_)
  · have hO := hO.call hw hS
    have hS := hS.mono9 (B := gW G oJ oD) (fun _ h => Or.inl h)
    rcases hcd with rfl | rfl | rfl
    · exact absurd rfl hc
    · refine vx_catch (E := exN 1) hown [] ⟨0, 10, 13, 13⟩ [⟨0, 10, 17, 15⟩] htb (fun z hz => ?_) (by decide) (by decide) (htg _ q183) (va_Nw.use rfl (hXt.1 _ (by decide +kernel))) e1 e2 e3 ?_
      · simp only [List.mem_cons, List.not_mem_nil, or_false] at hz
      · refine lv_astore (lv' := [(4, .ref q9), (0, .ref (gA G 14 0 0)), (1, .int p0), (2, .int p1), (3, .ref oJ)]) hx hb dL_buffer_13 hl (by decide) rfl (fun ls hl => ?_)
        refine lv_iconst (v := (1 : Int32)) hx hb dL_buffer_15 (by decide) ?_
        exact rt_w hx hb hr hlocks hW hO hS dL_buffer_16
    · refine vx_catch (E := exN 2) hown [⟨0, 10, 13, 13⟩] ⟨0, 10, 17, 15⟩ [] htb (fun z hz => ?_) (by decide) (by decide) (htg _ q184) (va_Nw.use rfl (hXt.1 _ (by decide +kernel))) e1 e2 e3 ?_
      · simp only [List.mem_cons, List.not_mem_nil, or_false] at hz
        rcases hz with rfl
        · exact Or.inr ⟨by decide, "java/lang/IndexOutOfBoundsException", htg _ q183, hXt.2.2 (exN 2, "java/lang/IndexOutOfBoundsException") (by decide +kernel)⟩
      · refine lv_astore (lv' := [(4, .ref q9), (0, .ref (gA G 14 0 0)), (1, .int p0), (2, .int p1), (3, .ref oJ)]) hx hb dL_buffer_17 hl (by decide) rfl (fun ls hl => ?_)
        refine lv_iconst (v := (2 : Int32)) hx hb dL_buffer_19 (by decide) ?_
        exact rt_w hx hb hr hlocks hW hO hS dL_buffer_20
  · subst h0
    have hO := hO.call hw hS
    have hS := hS.mono9 (B := gW G oJ oD) (fun _ h => Or.inl h)
    refine lv_i2l (v := v.toInt64) hx hb dL_buffer_8 rfl ?_
    refine ow_J hx hb hK hW hO hw hS dL_buffer_9 (fun H locs hW hO hS => ?_)
    refine lv_goto (tgt := 21) hx hb dL_buffer_10 (by decide) ?_
    refine lv_iconst (v := (0 : Int32)) hx hb dL_buffer_21 (by decide) ?_
    exact rt_w hx hb hr hlocks hW hO hS dL_buffer_22
set_option maxHeartbeats 4000000 in
theorem kw_buffer {p : Program} {l : Launch} {e : Env} {R : Room} {s : State} {m : MethodId} {args : Array Value} {below : List Frame} {meth : Method} {c : Code} {H : Heap} {locs : List Loc} {cells slots : Nat} {Q : State → Prop} {cc : ByteArray} {pc nL idx : Nat} {ls : Array Slot} {rest : List Value} {G : Geo} {x y : Mem} {oJ oD : Nat} {vj : Int64} {vd : UInt64} {A0 : Nat → Prop} {p0 : Int32} {p1 : Int32} {cd : Nat} {v : Int32} {z : Mem} (hx : p.tables.exec = Jvm.exec) (hb : c.code = cc) (hml : c.maxLocals = nL) (hown : s.vm.findClass RL = some m.cls) (htg : ∀ w ∈ wsG, w.before args s = true) (hst : l.stackTraces = false) (hXt : Xt s) (hZ : Zt G s H) (hA : ∀ q, H.size ≤ q → gF G q) (hK : Kt G s) (hW : Wh G x y H) (hO : Oh G oJ oD vj vd H) (hw : Ow G oJ oD) (hS : va_S A0 s.heap H locs) (hA0 : ∀ q, gW G oJ oD q → A0 q) (h : m_X11_buffer p0 p1 x = some (cd, v, z)) (hcd : cd = 0 ∨ cd = 1 ∨ cd = 2) (hlk : Cond.methodLink RL idx yL_buffer ∈ wsG) (hn : ls.size = nL) (hr : (rest.map fun v => v.category).sum ≤ 8) (hR1 : 8 + 1 ≤ R.frames) (hR2 : 8 + (5 + 11) + 133 ≤ R.locals) (hf : cells + 3 ≤ R.cells ∧ slots + 18 ≤ R.slots) (hdg : decode cc pc = .ok (.invokestatic idx, 3)) (kk : ∀ (H1 : Heap) (locs1 : List Loc), Wh G z y H1 → Oh G oJ oD (if cd = 0 then v.toInt64 else vj) vd H1 → va_S A0 s.heap H1 locs1 → (∀ q : Nat, q < H.size → ¬ gW G oJ oD q → H1[q]? = H[q]?) → H.size ≤ H1.size → W p l e R s m args below meth c H1 locs1 (cells + 3) (slots + 18) Q (F0 m (pc + 3) ls (.int (kO_buffer cd) :: rest))) : W p l e R s m args below meth c H locs cells slots Q (F0 m pc ls (.ref oJ :: .int p1 :: .int p0 :: .ref (gA G 14 0 0) :: rest)) := by
  refine va_calli (vx_runSW (As := [.ref (gA G 14 0 0), .int p0, .int p1, .ref oJ]) (rest := rest) ⟨hx, hb, hml, hown, htg⟩ (cL_w_buffer l hst G x y oJ oD hw vj vd p0 p1 h hcd) (vx_cwSW 4 htg (gd_S hlk q495 q181 q496) rfl rfl rfl (by decide +kernel) ⟨hR1, hR2⟩) ⟨fun a U g mk q => ⟨q.1, q.2.1.calling, q.2.2.1.calling, q.2.2.2.1.calling, q.2.2.2.2.1, q.2.2.2.2.2.1, q.2.2.2.2.2.2⟩, fun U hU hW9 => ⟨rfl, hK.warm hW9, hXt.warm hW9, by rw [hU]; exact hZ.moved hW9.alike, by rw [hU]; exact hA, by rw [hU]; exact hW, by rw [hU]; exact hO⟩⟩ rfl rfl hn rfl (lv_room hr) hdg hf) hS (fun q _ h9 => hA0 q h9) (fun q h9 => hA0 q h9) ?_
  intro r9 u t H1 locs1 ht hvm hw9 hB hz1 hk1 hS1
  obtain ⟨hB1, hB2⟩ := hB
  replace hB1 : Wh G z y t.heap := hB1
  rw [ht] at hB1 hB2
  replace hw9 : r9 = kO_buffer cd := hw9
  subst hw9
  exact kk H1 locs1 hB1 hB2 hS1 hk1 hz1
def kO_part (cd : Nat) : Int32 := if cd = 1 then 1 else if cd = 5 then 2 else 0
abbrev WSL_part : List Cond := .codeWith yL_part cL_part 5 (some .int) [(0, 10, 13, 13), (0, 10, 17, 39)] :: wsG
abbrev RML_part : Room := { frames := 8, cells := 3, slots := 18, locals := 133 }
set_option maxHeartbeats 4000000 in
set_option maxRecDepth 100000 in
theorem cL_w_part (l : Launch) (hst : l.stackTraces = false) (G : Geo) (x y : Mem) (oJ oD : Nat) (hw : Ow G oJ oD) (vj : Int64) (vd : UInt64) (p0 : Int32) (p1 : Int32) {cd : Nat} {v : Int32} {z : Mem} (h : m_X11_part p0 p1 x = some (cd, v, z)) (hcd : cd = 0 ∨ cd = 1 ∨ cd = 5) : Met l yL_part WSL_part RML_part (Pz G x y oJ oD vj vd [.ref (gA G 14 0 0), .int p0, .int p1, .ref oJ]) (Qz G z y oJ oD (if cd = 0 then v.toInt64 else vj) vd (kO_part cd)) 3 18 (gW G oJ oD) := by
  refine va_MetW (cc := cL_part) (maxL := 5) (ret := some .int) (hh := [(0, 10, 13, 13), (0, 10, 17, 39)]) (by decide) rfl ?_
  intro p e s m args below meth c s₁ B hml hv9
  obtain ⟨rfl, hK, hXt, hZ, hA, hW, hO⟩ := hv9
  have hx := B.exec
  have hb := B.bytes
  have hr := B.returns
  have hts := atoms_spec (ws := WSL_part) B.pre
  have htg : ∀ w ∈ wsG, w.before _ s = true := fun w h => hts w (List.mem_cons_of_mem _ h)
  have hown : s.vm.findClass RL = some m.cls := findClass_of_methodNamed B.named
  have hlocks := B.notSynchronized
  have htb := vx_table (x := yL_law) B (hts _ List.mem_cons_self)
  have hS : va_S (gF G) s.heap s.heap [] := va_S.rf
  have hl := lv_entry ([.ref (gA G 14 0 0), .int p0, .int p1, .ref oJ]) (n := 5) (Nat.le_of_ble_eq_true rfl)
  rw [lg_entry_eq]
  generalize (lg_sl ([.ref (gA G 14 0 0), .int p0, .int p1, .ref oJ]) ++ List.replicate (5 - (lg_sl ([.ref (gA G 14 0 0), .int p0, .int p1, .ref oJ])).length) Slot.unset).toArray = ls at hl ⊢
  have hl : lv_has ls 5 [(0, .ref (gA G 14 0 0)), (1, .int p0), (2, .int p1), (3, .ref oJ)] := hl
  refine lv_aload_n hx hb dL_part_0 rfl (lv_at hl 3 rfl) ?_
  refine lv_iconst (v := (0 : Int32)) hx hb dL_part_1 (by decide) ?_
  refine lv_aload_n hx hb dL_part_2 rfl (lv_at hl 0 rfl) ?_
  refine lv_iload_n hx hb dL_part_3 rfl (lv_at hl 1 rfl) ?_
  refine lv_iload_n hx hb dL_part_4 rfl (lv_at hl 2 rfl) ?_
  refine kx_X11_part hx hb hml hown htg hst hXt hZ hA hK hW hS h q513 hl.1 (Nat.le_of_ble_eq_true rfl) (Nat.le_of_ble_eq_true rfl) (Nat.le_of_ble_eq_true rfl) ⟨Nat.le_of_ble_eq_true rfl, Nat.le_of_ble_eq_true rfl⟩ dL_part_5 (fun hc ce q9 H locs hW hS e1 e2 e3 => ?_) (fun h0 H locs hW hS => ?_)
  · have hO := hO.call hw hS
    have hS := hS.mono9 (B := gW G oJ oD) (fun _ h => Or.inl h)
    rcases hcd with rfl | rfl | rfl
    · exact absurd rfl hc
    · refine vx_catch (E := exN 1) hown [] ⟨0, 10, 13, 13⟩ [⟨0, 10, 17, 39⟩] htb (fun z hz => ?_) (by decide) (by decide) (htg _ q183) (va_Nw.use rfl (hXt.1 _ (by decide +kernel))) e1 e2 e3 ?_
      · simp only [List.mem_cons, List.not_mem_nil, or_false] at hz
      · refine lv_astore (lv' := [(4, .ref q9), (0, .ref (gA G 14 0 0)), (1, .int p0), (2, .int p1), (3, .ref oJ)]) hx hb dL_part_13 hl (by decide) rfl (fun ls hl => ?_)
        refine lv_iconst (v := (1 : Int32)) hx hb dL_part_15 (by decide) ?_
        exact rt_w hx hb hr hlocks hW hO hS dL_part_16
    · refine vx_catch (E := exN 5) hown [⟨0, 10, 13, 13⟩] ⟨0, 10, 17, 39⟩ [] htb (fun z hz => ?_) (by decide) (by decide) (htg _ q512) (va_Nw.use rfl (hXt.1 _ (by decide +kernel))) e1 e2 e3 ?_
      · simp only [List.mem_cons, List.not_mem_nil, or_false] at hz
        rcases hz with rfl
        · exact Or.inr ⟨by decide, "java/lang/IndexOutOfBoundsException", htg _ q183, hXt.2.2 (exN 5, "java/lang/IndexOutOfBoundsException") (by decide +kernel)⟩
      · refine lv_astore (lv' := [(4, .ref q9), (0, .ref (gA G 14 0 0)), (1, .int p0), (2, .int p1), (3, .ref oJ)]) hx hb dL_part_17 hl (by decide) rfl (fun ls hl => ?_)
        refine lv_iconst (v := (2 : Int32)) hx hb dL_part_19 (by decide) ?_
        exact rt_w hx hb hr hlocks hW hO hS dL_part_20
  · subst h0
    have hO := hO.call hw hS
    have hS := hS.mono9 (B := gW G oJ oD) (fun _ h => Or.inl h)
    refine lv_i2l (v := v.toInt64) hx hb dL_part_8 rfl ?_
    refine ow_J hx hb hK hW hO hw hS dL_part_9 (fun H locs hW hO hS => ?_)
    refine lv_goto (tgt := 21) hx hb dL_part_10 (by decide) ?_
    refine lv_iconst (v := (0 : Int32)) hx hb dL_part_21 (by decide) ?_
    exact rt_w hx hb hr hlocks hW hO hS dL_part_22
set_option maxHeartbeats 4000000 in
theorem kw_part {p : Program} {l : Launch} {e : Env} {R : Room} {s : State} {m : MethodId} {args : Array Value} {below : List Frame} {meth : Method} {c : Code} {H : Heap} {locs : List Loc} {cells slots : Nat} {Q : State → Prop} {cc : ByteArray} {pc nL idx : Nat} {ls : Array Slot} {rest : List Value} {G : Geo} {x y : Mem} {oJ oD : Nat} {vj : Int64} {vd : UInt64} {A0 : Nat → Prop} {p0 : Int32} {p1 : Int32} {cd : Nat} {v : Int32} {z : Mem} (hx : p.tables.exec = Jvm.exec) (hb : c.code = cc) (hml : c.maxLocals = nL) (hown : s.vm.findClass RL = some m.cls) (htg : ∀ w ∈ wsG, w.before args s = true) (hst : l.stackTraces = false) (hXt : Xt s) (hZ : Zt G s H) (hA : ∀ q, H.size ≤ q → gF G q) (hK : Kt G s) (hW : Wh G x y H) (hO : Oh G oJ oD vj vd H) (hw : Ow G oJ oD) (hS : va_S A0 s.heap H locs) (hA0 : ∀ q, gW G oJ oD q → A0 q) (h : m_X11_part p0 p1 x = some (cd, v, z)) (hcd : cd = 0 ∨ cd = 1 ∨ cd = 5) (hlk : Cond.methodLink RL idx yL_part ∈ wsG) (hn : ls.size = nL) (hr : (rest.map fun v => v.category).sum ≤ 8) (hR1 : 8 + 1 ≤ R.frames) (hR2 : 8 + (5 + 11) + 133 ≤ R.locals) (hf : cells + 3 ≤ R.cells ∧ slots + 18 ≤ R.slots) (hdg : decode cc pc = .ok (.invokestatic idx, 3)) (kk : ∀ (H1 : Heap) (locs1 : List Loc), Wh G z y H1 → Oh G oJ oD (if cd = 0 then v.toInt64 else vj) vd H1 → va_S A0 s.heap H1 locs1 → (∀ q : Nat, q < H.size → ¬ gW G oJ oD q → H1[q]? = H[q]?) → H.size ≤ H1.size → W p l e R s m args below meth c H1 locs1 (cells + 3) (slots + 18) Q (F0 m (pc + 3) ls (.int (kO_part cd) :: rest))) : W p l e R s m args below meth c H locs cells slots Q (F0 m pc ls (.ref oJ :: .int p1 :: .int p0 :: .ref (gA G 14 0 0) :: rest)) := by
  refine va_calli (vx_runSW (As := [.ref (gA G 14 0 0), .int p0, .int p1, .ref oJ]) (rest := rest) ⟨hx, hb, hml, hown, htg⟩ (cL_w_part l hst G x y oJ oD hw vj vd p0 p1 h hcd) (vx_cwSW 4 htg (gd_S hlk q510 q181 q511) rfl rfl rfl (by decide +kernel) ⟨hR1, hR2⟩) ⟨fun a U g mk q => ⟨q.1, q.2.1.calling, q.2.2.1.calling, q.2.2.2.1.calling, q.2.2.2.2.1, q.2.2.2.2.2.1, q.2.2.2.2.2.2⟩, fun U hU hW9 => ⟨rfl, hK.warm hW9, hXt.warm hW9, by rw [hU]; exact hZ.moved hW9.alike, by rw [hU]; exact hA, by rw [hU]; exact hW, by rw [hU]; exact hO⟩⟩ rfl rfl hn rfl (lv_room hr) hdg hf) hS (fun q _ h9 => hA0 q h9) (fun q h9 => hA0 q h9) ?_
  intro r9 u t H1 locs1 ht hvm hw9 hB hz1 hk1 hS1
  obtain ⟨hB1, hB2⟩ := hB
  replace hB1 : Wh G z y t.heap := hB1
  rw [ht] at hB1 hB2
  replace hw9 : r9 = kO_part cd := hw9
  subst hw9
  exact kk H1 locs1 hB1 hB2 hS1 hk1 hz1
def kO_give (cd : Nat) : Int32 := if cd = 1 then 1 else if cd = 2 then 2 else if cd = 4 then 3 else if cd = 3 then 4 else 0
abbrev WSL_give : List Cond := .codeWith yL_give cL_give 9 (some .int) [(0, 18, 21, 13), (0, 18, 25, 15), (0, 18, 29, 45), (0, 18, 33, 17)] :: wsG
abbrev RML_give : Room := { frames := 8, cells := 3, slots := 18, locals := 136 }
set_option maxHeartbeats 4000000 in
set_option maxRecDepth 100000 in
theorem cL_w_give (l : Launch) (hst : l.stackTraces = false) (G : Geo) (x y : Mem) (oJ oD : Nat) (hw : Ow G oJ oD) (vj : Int64) (vd : UInt64) (p0 : Int32) (p1 : Int32) (p2 : Int32) (p3 : Int32) (p4 : Int32) (p5 : Int32) {cd : Nat} {v : Int32} {z : Mem} (h : m_X11_give p0 p1 p2 p3 p4 p5 x = some (cd, v, z)) (hcd : cd = 0 ∨ cd = 1 ∨ cd = 2 ∨ cd = 4 ∨ cd = 3) : Met l yL_give WSL_give RML_give (Pz G x y oJ oD vj vd [.ref (gA G 14 0 0), .int p0, .int p1, .int p2, .int p3, .int p4, .int p5, .ref oJ]) (Qz G z y oJ oD (if cd = 0 then v.toInt64 else vj) vd (kO_give cd)) 3 18 (gW G oJ oD) := by
  refine va_MetW (cc := cL_give) (maxL := 9) (ret := some .int) (hh := [(0, 18, 21, 13), (0, 18, 25, 15), (0, 18, 29, 45), (0, 18, 33, 17)]) (by decide) rfl ?_
  intro p e s m args below meth c s₁ B hml hv9
  obtain ⟨rfl, hK, hXt, hZ, hA, hW, hO⟩ := hv9
  have hx := B.exec
  have hb := B.bytes
  have hr := B.returns
  have hts := atoms_spec (ws := WSL_give) B.pre
  have htg : ∀ w ∈ wsG, w.before _ s = true := fun w h => hts w (List.mem_cons_of_mem _ h)
  have hown : s.vm.findClass RL = some m.cls := findClass_of_methodNamed B.named
  have hlocks := B.notSynchronized
  have htb := vx_table (x := yL_law) B (hts _ List.mem_cons_self)
  have hS : va_S (gF G) s.heap s.heap [] := va_S.rf
  have hl := lv_entry ([.ref (gA G 14 0 0), .int p0, .int p1, .int p2, .int p3, .int p4, .int p5, .ref oJ]) (n := 9) (Nat.le_of_ble_eq_true rfl)
  rw [lg_entry_eq]
  generalize (lg_sl ([.ref (gA G 14 0 0), .int p0, .int p1, .int p2, .int p3, .int p4, .int p5, .ref oJ]) ++ List.replicate (9 - (lg_sl ([.ref (gA G 14 0 0), .int p0, .int p1, .int p2, .int p3, .int p4, .int p5, .ref oJ])).length) Slot.unset).toArray = ls at hl ⊢
  have hl : lv_has ls 9 [(0, .ref (gA G 14 0 0)), (1, .int p0), (2, .int p1), (3, .int p2), (4, .int p3), (5, .int p4), (6, .int p5), (7, .ref oJ)] := hl
  refine lv_aload hx hb dL_give_0 (lv_at hl 7 rfl) ?_
  refine lv_iconst (v := (0 : Int32)) hx hb dL_give_2 (by decide) ?_
  refine lv_aload_n hx hb dL_give_3 rfl (lv_at hl 0 rfl) ?_
  refine lv_iload_n hx hb dL_give_4 rfl (lv_at hl 1 rfl) ?_
  refine lv_iload_n hx hb dL_give_5 rfl (lv_at hl 2 rfl) ?_
  refine lv_iload_n hx hb dL_give_6 rfl (lv_at hl 3 rfl) ?_
  refine lv_iload hx hb dL_give_7 (lv_at hl 4 rfl) ?_
  refine lv_iload hx hb dL_give_9 (lv_at hl 5 rfl) ?_
  refine lv_iload hx hb dL_give_11 (lv_at hl 6 rfl) ?_
  refine kx_X11_give hx hb hml hown htg hst hXt hZ hA hK hW hS h q532 hl.1 (Nat.le_of_ble_eq_true rfl) (Nat.le_of_ble_eq_true rfl) (Nat.le_of_ble_eq_true rfl) ⟨Nat.le_of_ble_eq_true rfl, Nat.le_of_ble_eq_true rfl⟩ dL_give_13 (fun hc ce q9 H locs hW hS e1 e2 e3 => ?_) (fun h0 H locs hW hS => ?_)
  · have hO := hO.call hw hS
    have hS := hS.mono9 (B := gW G oJ oD) (fun _ h => Or.inl h)
    rcases hcd with rfl | rfl | rfl | rfl | rfl
    · exact absurd rfl hc
    · refine vx_catch (E := exN 1) hown [] ⟨0, 18, 21, 13⟩ [⟨0, 18, 25, 15⟩, ⟨0, 18, 29, 45⟩, ⟨0, 18, 33, 17⟩] htb (fun z hz => ?_) (by decide) (by decide) (htg _ q183) (va_Nw.use rfl (hXt.1 _ (by decide +kernel))) e1 e2 e3 ?_
      · simp only [List.mem_cons, List.not_mem_nil, or_false] at hz
      · refine lv_astore (lv' := [(8, .ref q9), (0, .ref (gA G 14 0 0)), (1, .int p0), (2, .int p1), (3, .int p2), (4, .int p3), (5, .int p4), (6, .int p5), (7, .ref oJ)]) hx hb dL_give_21 hl (by decide) rfl (fun ls hl => ?_)
        refine lv_iconst (v := (1 : Int32)) hx hb dL_give_23 (by decide) ?_
        exact rt_w hx hb hr hlocks hW hO hS dL_give_24
    · refine vx_catch (E := exN 2) hown [⟨0, 18, 21, 13⟩] ⟨0, 18, 25, 15⟩ [⟨0, 18, 29, 45⟩, ⟨0, 18, 33, 17⟩] htb (fun z hz => ?_) (by decide) (by decide) (htg _ q184) (va_Nw.use rfl (hXt.1 _ (by decide +kernel))) e1 e2 e3 ?_
      · simp only [List.mem_cons, List.not_mem_nil, or_false] at hz
        rcases hz with rfl
        · exact Or.inr ⟨by decide, "java/lang/IndexOutOfBoundsException", htg _ q183, hXt.2.2 (exN 2, "java/lang/IndexOutOfBoundsException") (by decide +kernel)⟩
      · refine lv_astore (lv' := [(8, .ref q9), (0, .ref (gA G 14 0 0)), (1, .int p0), (2, .int p1), (3, .int p2), (4, .int p3), (5, .int p4), (6, .int p5), (7, .ref oJ)]) hx hb dL_give_25 hl (by decide) rfl (fun ls hl => ?_)
        refine lv_iconst (v := (2 : Int32)) hx hb dL_give_27 (by decide) ?_
        exact rt_w hx hb hr hlocks hW hO hS dL_give_28
    · refine vx_catch (E := exN 4) hown [⟨0, 18, 21, 13⟩, ⟨0, 18, 25, 15⟩] ⟨0, 18, 29, 45⟩ [⟨0, 18, 33, 17⟩] htb (fun z hz => ?_) (by decide) (by decide) (htg _ q531) (va_Nw.use rfl (hXt.1 _ (by decide +kernel))) e1 e2 e3 ?_
      · simp only [List.mem_cons, List.not_mem_nil, or_false] at hz
        rcases hz with rfl | rfl
        · exact Or.inr ⟨by decide, "java/lang/IndexOutOfBoundsException", htg _ q183, hXt.2.2 (exN 4, "java/lang/IndexOutOfBoundsException") (by decide +kernel)⟩
        · exact Or.inr ⟨by decide, "java/lang/IllegalArgumentException", htg _ q184, hXt.2.2 (exN 4, "java/lang/IllegalArgumentException") (by decide +kernel)⟩
      · refine lv_astore (lv' := [(8, .ref q9), (0, .ref (gA G 14 0 0)), (1, .int p0), (2, .int p1), (3, .int p2), (4, .int p3), (5, .int p4), (6, .int p5), (7, .ref oJ)]) hx hb dL_give_29 hl (by decide) rfl (fun ls hl => ?_)
        refine lv_iconst (v := (3 : Int32)) hx hb dL_give_31 (by decide) ?_
        exact rt_w hx hb hr hlocks hW hO hS dL_give_32
    · refine vx_catch (E := exN 3) hown [⟨0, 18, 21, 13⟩, ⟨0, 18, 25, 15⟩, ⟨0, 18, 29, 45⟩] ⟨0, 18, 33, 17⟩ [] htb (fun z hz => ?_) (by decide) (by decide) (htg _ q185) (va_Nw.use rfl (hXt.1 _ (by decide +kernel))) e1 e2 e3 ?_
      · simp only [List.mem_cons, List.not_mem_nil, or_false] at hz
        rcases hz with rfl | rfl | rfl
        · exact Or.inr ⟨by decide, "java/lang/IndexOutOfBoundsException", htg _ q183, hXt.2.2 (exN 3, "java/lang/IndexOutOfBoundsException") (by decide +kernel)⟩
        · exact Or.inr ⟨by decide, "java/lang/IllegalArgumentException", htg _ q184, hXt.2.2 (exN 3, "java/lang/IllegalArgumentException") (by decide +kernel)⟩
        · exact Or.inr ⟨by decide, "java/lang/UnsupportedOperationException", htg _ q531, hXt.2.2 (exN 3, "java/lang/UnsupportedOperationException") (by decide +kernel)⟩
      · refine lv_astore (lv' := [(8, .ref q9), (0, .ref (gA G 14 0 0)), (1, .int p0), (2, .int p1), (3, .int p2), (4, .int p3), (5, .int p4), (6, .int p5), (7, .ref oJ)]) hx hb dL_give_33 hl (by decide) rfl (fun ls hl => ?_)
        refine lv_iconst (v := (4 : Int32)) hx hb dL_give_35 (by decide) ?_
        exact rt_w hx hb hr hlocks hW hO hS dL_give_36
  · subst h0
    have hO := hO.call hw hS
    have hS := hS.mono9 (B := gW G oJ oD) (fun _ h => Or.inl h)
    refine lv_i2l (v := v.toInt64) hx hb dL_give_16 rfl ?_
    refine ow_J hx hb hK hW hO hw hS dL_give_17 (fun H locs hW hO hS => ?_)
    refine lv_goto (tgt := 37) hx hb dL_give_18 (by decide) ?_
    refine lv_iconst (v := (0 : Int32)) hx hb dL_give_37 (by decide) ?_
    exact rt_w hx hb hr hlocks hW hO hS dL_give_38
set_option maxHeartbeats 4000000 in
theorem kw_give {p : Program} {l : Launch} {e : Env} {R : Room} {s : State} {m : MethodId} {args : Array Value} {below : List Frame} {meth : Method} {c : Code} {H : Heap} {locs : List Loc} {cells slots : Nat} {Q : State → Prop} {cc : ByteArray} {pc nL idx : Nat} {ls : Array Slot} {rest : List Value} {G : Geo} {x y : Mem} {oJ oD : Nat} {vj : Int64} {vd : UInt64} {A0 : Nat → Prop} {p0 : Int32} {p1 : Int32} {p2 : Int32} {p3 : Int32} {p4 : Int32} {p5 : Int32} {cd : Nat} {v : Int32} {z : Mem} (hx : p.tables.exec = Jvm.exec) (hb : c.code = cc) (hml : c.maxLocals = nL) (hown : s.vm.findClass RL = some m.cls) (htg : ∀ w ∈ wsG, w.before args s = true) (hst : l.stackTraces = false) (hXt : Xt s) (hZ : Zt G s H) (hA : ∀ q, H.size ≤ q → gF G q) (hK : Kt G s) (hW : Wh G x y H) (hO : Oh G oJ oD vj vd H) (hw : Ow G oJ oD) (hS : va_S A0 s.heap H locs) (hA0 : ∀ q, gW G oJ oD q → A0 q) (h : m_X11_give p0 p1 p2 p3 p4 p5 x = some (cd, v, z)) (hcd : cd = 0 ∨ cd = 1 ∨ cd = 2 ∨ cd = 4 ∨ cd = 3) (hlk : Cond.methodLink RL idx yL_give ∈ wsG) (hn : ls.size = nL) (hr : (rest.map fun v => v.category).sum ≤ 8) (hR1 : 8 + 1 ≤ R.frames) (hR2 : 8 + (9 + 11) + 136 ≤ R.locals) (hf : cells + 3 ≤ R.cells ∧ slots + 18 ≤ R.slots) (hdg : decode cc pc = .ok (.invokestatic idx, 3)) (kk : ∀ (H1 : Heap) (locs1 : List Loc), Wh G z y H1 → Oh G oJ oD (if cd = 0 then v.toInt64 else vj) vd H1 → va_S A0 s.heap H1 locs1 → (∀ q : Nat, q < H.size → ¬ gW G oJ oD q → H1[q]? = H[q]?) → H.size ≤ H1.size → W p l e R s m args below meth c H1 locs1 (cells + 3) (slots + 18) Q (F0 m (pc + 3) ls (.int (kO_give cd) :: rest))) : W p l e R s m args below meth c H locs cells slots Q (F0 m pc ls (.ref oJ :: .int p5 :: .int p4 :: .int p3 :: .int p2 :: .int p1 :: .int p0 :: .ref (gA G 14 0 0) :: rest)) := by
  refine va_calli (vx_runSW (As := [.ref (gA G 14 0 0), .int p0, .int p1, .int p2, .int p3, .int p4, .int p5, .ref oJ]) (rest := rest) ⟨hx, hb, hml, hown, htg⟩ (cL_w_give l hst G x y oJ oD hw vj vd p0 p1 p2 p3 p4 p5 h hcd) (vx_cwSW 8 htg (gd_S hlk q529 q181 q530) rfl rfl rfl (by decide +kernel) ⟨hR1, hR2⟩) ⟨fun a U g mk q => ⟨q.1, q.2.1.calling, q.2.2.1.calling, q.2.2.2.1.calling, q.2.2.2.2.1, q.2.2.2.2.2.1, q.2.2.2.2.2.2⟩, fun U hU hW9 => ⟨rfl, hK.warm hW9, hXt.warm hW9, by rw [hU]; exact hZ.moved hW9.alike, by rw [hU]; exact hA, by rw [hU]; exact hW, by rw [hU]; exact hO⟩⟩ rfl rfl hn rfl (lv_room hr) hdg hf) hS (fun q _ h9 => hA0 q h9) (fun q h9 => hA0 q h9) ?_
  intro r9 u t H1 locs1 ht hvm hw9 hB hz1 hk1 hS1
  obtain ⟨hB1, hB2⟩ := hB
  replace hB1 : Wh G z y t.heap := hB1
  rw [ht] at hB1 hB2
  replace hw9 : r9 = kO_give cd := hw9
  subst hw9
  exact kk H1 locs1 hB1 hB2 hS1 hk1 hz1
def kO_withdraw (cd : Nat) : Int32 := if cd = 1 then 1 else if cd = 5 then 2 else 0
abbrev WSL_withdraw : List Cond := .codeWith yL_withdraw cL_withdraw 4 (some .int) [(0, 9, 12, 13), (0, 9, 15, 39)] :: wsG
abbrev RML_withdraw : Room := { frames := 8, cells := 3, slots := 18, locals := 131 }
set_option maxHeartbeats 4000000 in
set_option maxRecDepth 100000 in
theorem cL_w_withdraw (l : Launch) (hst : l.stackTraces = false) (G : Geo) (x y : Mem) (oJ oD : Nat) (hw : Ow G oJ oD) (vj : Int64) (vd : UInt64) (p0 : Int32) {cd : Nat} {v : Int32} {z : Mem} (h : m_X11_withdraw p0 x = some (cd, v, z)) (hcd : cd = 0 ∨ cd = 1 ∨ cd = 5) : Met l yL_withdraw WSL_withdraw RML_withdraw (Pz G x y oJ oD vj vd [.ref (gA G 14 0 0), .int p0, .ref oJ]) (Qz G z y oJ oD (if cd = 0 then v.toInt64 else vj) vd (kO_withdraw cd)) 3 18 (gW G oJ oD) := by
  refine va_MetW (cc := cL_withdraw) (maxL := 4) (ret := some .int) (hh := [(0, 9, 12, 13), (0, 9, 15, 39)]) (by decide) rfl ?_
  intro p e s m args below meth c s₁ B hml hv9
  obtain ⟨rfl, hK, hXt, hZ, hA, hW, hO⟩ := hv9
  have hx := B.exec
  have hb := B.bytes
  have hr := B.returns
  have hts := atoms_spec (ws := WSL_withdraw) B.pre
  have htg : ∀ w ∈ wsG, w.before _ s = true := fun w h => hts w (List.mem_cons_of_mem _ h)
  have hown : s.vm.findClass RL = some m.cls := findClass_of_methodNamed B.named
  have hlocks := B.notSynchronized
  have htb := vx_table (x := yL_law) B (hts _ List.mem_cons_self)
  have hS : va_S (gF G) s.heap s.heap [] := va_S.rf
  have hl := lv_entry ([.ref (gA G 14 0 0), .int p0, .ref oJ]) (n := 4) (Nat.le_of_ble_eq_true rfl)
  rw [lg_entry_eq]
  generalize (lg_sl ([.ref (gA G 14 0 0), .int p0, .ref oJ]) ++ List.replicate (4 - (lg_sl ([.ref (gA G 14 0 0), .int p0, .ref oJ])).length) Slot.unset).toArray = ls at hl ⊢
  have hl : lv_has ls 4 [(0, .ref (gA G 14 0 0)), (1, .int p0), (2, .ref oJ)] := hl
  refine lv_aload_n hx hb dL_withdraw_0 rfl (lv_at hl 2 rfl) ?_
  refine lv_iconst (v := (0 : Int32)) hx hb dL_withdraw_1 (by decide) ?_
  refine lv_aload_n hx hb dL_withdraw_2 rfl (lv_at hl 0 rfl) ?_
  refine lv_iload_n hx hb dL_withdraw_3 rfl (lv_at hl 1 rfl) ?_
  refine kx_X11_withdraw hx hb hml hown htg hst hXt hZ hA hK hW hS h q586 hl.1 (Nat.le_of_ble_eq_true rfl) (Nat.le_of_ble_eq_true rfl) (Nat.le_of_ble_eq_true rfl) ⟨Nat.le_of_ble_eq_true rfl, Nat.le_of_ble_eq_true rfl⟩ dL_withdraw_4 (fun hc ce q9 H locs hW hS e1 e2 e3 => ?_) (fun h0 H locs hW hS => ?_)
  · have hO := hO.call hw hS
    have hS := hS.mono9 (B := gW G oJ oD) (fun _ h => Or.inl h)
    rcases hcd with rfl | rfl | rfl
    · exact absurd rfl hc
    · refine vx_catch (E := exN 1) hown [] ⟨0, 9, 12, 13⟩ [⟨0, 9, 15, 39⟩] htb (fun z hz => ?_) (by decide) (by decide) (htg _ q183) (va_Nw.use rfl (hXt.1 _ (by decide +kernel))) e1 e2 e3 ?_
      · simp only [List.mem_cons, List.not_mem_nil, or_false] at hz
      · refine lv_astore_n (lv' := [(3, .ref q9), (0, .ref (gA G 14 0 0)), (1, .int p0), (2, .ref oJ)]) hx hb dL_withdraw_12 rfl hl (by decide) rfl (fun ls hl => ?_)
        refine lv_iconst (v := (1 : Int32)) hx hb dL_withdraw_13 (by decide) ?_
        exact rt_w hx hb hr hlocks hW hO hS dL_withdraw_14
    · refine vx_catch (E := exN 5) hown [⟨0, 9, 12, 13⟩] ⟨0, 9, 15, 39⟩ [] htb (fun z hz => ?_) (by decide) (by decide) (htg _ q512) (va_Nw.use rfl (hXt.1 _ (by decide +kernel))) e1 e2 e3 ?_
      · simp only [List.mem_cons, List.not_mem_nil, or_false] at hz
        rcases hz with rfl
        · exact Or.inr ⟨by decide, "java/lang/IndexOutOfBoundsException", htg _ q183, hXt.2.2 (exN 5, "java/lang/IndexOutOfBoundsException") (by decide +kernel)⟩
      · refine lv_astore_n (lv' := [(3, .ref q9), (0, .ref (gA G 14 0 0)), (1, .int p0), (2, .ref oJ)]) hx hb dL_withdraw_15 rfl hl (by decide) rfl (fun ls hl => ?_)
        refine lv_iconst (v := (2 : Int32)) hx hb dL_withdraw_16 (by decide) ?_
        exact rt_w hx hb hr hlocks hW hO hS dL_withdraw_17
  · subst h0
    have hO := hO.call hw hS
    have hS := hS.mono9 (B := gW G oJ oD) (fun _ h => Or.inl h)
    refine lv_i2l (v := v.toInt64) hx hb dL_withdraw_7 rfl ?_
    refine ow_J hx hb hK hW hO hw hS dL_withdraw_8 (fun H locs hW hO hS => ?_)
    refine lv_goto (tgt := 18) hx hb dL_withdraw_9 (by decide) ?_
    refine lv_iconst (v := (0 : Int32)) hx hb dL_withdraw_18 (by decide) ?_
    exact rt_w hx hb hr hlocks hW hO hS dL_withdraw_19
set_option maxHeartbeats 4000000 in
theorem kw_withdraw {p : Program} {l : Launch} {e : Env} {R : Room} {s : State} {m : MethodId} {args : Array Value} {below : List Frame} {meth : Method} {c : Code} {H : Heap} {locs : List Loc} {cells slots : Nat} {Q : State → Prop} {cc : ByteArray} {pc nL idx : Nat} {ls : Array Slot} {rest : List Value} {G : Geo} {x y : Mem} {oJ oD : Nat} {vj : Int64} {vd : UInt64} {A0 : Nat → Prop} {p0 : Int32} {cd : Nat} {v : Int32} {z : Mem} (hx : p.tables.exec = Jvm.exec) (hb : c.code = cc) (hml : c.maxLocals = nL) (hown : s.vm.findClass RL = some m.cls) (htg : ∀ w ∈ wsG, w.before args s = true) (hst : l.stackTraces = false) (hXt : Xt s) (hZ : Zt G s H) (hA : ∀ q, H.size ≤ q → gF G q) (hK : Kt G s) (hW : Wh G x y H) (hO : Oh G oJ oD vj vd H) (hw : Ow G oJ oD) (hS : va_S A0 s.heap H locs) (hA0 : ∀ q, gW G oJ oD q → A0 q) (h : m_X11_withdraw p0 x = some (cd, v, z)) (hcd : cd = 0 ∨ cd = 1 ∨ cd = 5) (hlk : Cond.methodLink RL idx yL_withdraw ∈ wsG) (hn : ls.size = nL) (hr : (rest.map fun v => v.category).sum ≤ 8) (hR1 : 8 + 1 ≤ R.frames) (hR2 : 8 + (4 + 11) + 131 ≤ R.locals) (hf : cells + 3 ≤ R.cells ∧ slots + 18 ≤ R.slots) (hdg : decode cc pc = .ok (.invokestatic idx, 3)) (kk : ∀ (H1 : Heap) (locs1 : List Loc), Wh G z y H1 → Oh G oJ oD (if cd = 0 then v.toInt64 else vj) vd H1 → va_S A0 s.heap H1 locs1 → (∀ q : Nat, q < H.size → ¬ gW G oJ oD q → H1[q]? = H[q]?) → H.size ≤ H1.size → W p l e R s m args below meth c H1 locs1 (cells + 3) (slots + 18) Q (F0 m (pc + 3) ls (.int (kO_withdraw cd) :: rest))) : W p l e R s m args below meth c H locs cells slots Q (F0 m pc ls (.ref oJ :: .int p0 :: .ref (gA G 14 0 0) :: rest)) := by
  refine va_calli (vx_runSW (As := [.ref (gA G 14 0 0), .int p0, .ref oJ]) (rest := rest) ⟨hx, hb, hml, hown, htg⟩ (cL_w_withdraw l hst G x y oJ oD hw vj vd p0 h hcd) (vx_cwSW 3 htg (gd_S hlk q584 q181 q585) rfl rfl rfl (by decide +kernel) ⟨hR1, hR2⟩) ⟨fun a U g mk q => ⟨q.1, q.2.1.calling, q.2.2.1.calling, q.2.2.2.1.calling, q.2.2.2.2.1, q.2.2.2.2.2.1, q.2.2.2.2.2.2⟩, fun U hU hW9 => ⟨rfl, hK.warm hW9, hXt.warm hW9, by rw [hU]; exact hZ.moved hW9.alike, by rw [hU]; exact hA, by rw [hU]; exact hW, by rw [hU]; exact hO⟩⟩ rfl rfl hn rfl (lv_room hr) hdg hf) hS (fun q _ h9 => hA0 q h9) (fun q h9 => hA0 q h9) ?_
  intro r9 u t H1 locs1 ht hvm hw9 hB hz1 hk1 hS1
  obtain ⟨hB1, hB2⟩ := hB
  replace hB1 : Wh G z y t.heap := hB1
  rw [ht] at hB1 hB2
  replace hw9 : r9 = kO_withdraw cd := hw9
  subst hw9
  exact kk H1 locs1 hB1 hB2 hS1 hk1 hz1
def kO_job (cd : Nat) : Int32 := if cd = 1 then 1 else if cd = 2 then 2 else 0
abbrev WSL_job : List Cond := .codeWith yL_job cL_job 5 (some .int) [(0, 10, 13, 13), (0, 10, 17, 15)] :: wsG
abbrev RML_job : Room := { frames := 8, cells := 3, slots := 18, locals := 133 }
set_option maxHeartbeats 4000000 in
set_option maxRecDepth 100000 in
theorem cL_w_job (l : Launch) (hst : l.stackTraces = false) (G : Geo) (x y : Mem) (oJ oD : Nat) (hw : Ow G oJ oD) (vj : Int64) (vd : UInt64) (p0 : Int32) (p1 : Int32) {cd : Nat} {v : Int32} {z : Mem} (h : m_X11_job p0 p1 x = some (cd, v, z)) (hcd : cd = 0 ∨ cd = 1 ∨ cd = 2) : Met l yL_job WSL_job RML_job (Pz G x y oJ oD vj vd [.ref (gA G 14 0 0), .int p0, .int p1, .ref oJ]) (Qz G z y oJ oD (if cd = 0 then v.toInt64 else vj) vd (kO_job cd)) 3 18 (gW G oJ oD) := by
  refine va_MetW (cc := cL_job) (maxL := 5) (ret := some .int) (hh := [(0, 10, 13, 13), (0, 10, 17, 15)]) (by decide) rfl ?_
  intro p e s m args below meth c s₁ B hml hv9
  obtain ⟨rfl, hK, hXt, hZ, hA, hW, hO⟩ := hv9
  have hx := B.exec
  have hb := B.bytes
  have hr := B.returns
  have hts := atoms_spec (ws := WSL_job) B.pre
  have htg : ∀ w ∈ wsG, w.before _ s = true := fun w h => hts w (List.mem_cons_of_mem _ h)
  have hown : s.vm.findClass RL = some m.cls := findClass_of_methodNamed B.named
  have hlocks := B.notSynchronized
  have htb := vx_table (x := yL_law) B (hts _ List.mem_cons_self)
  have hS : va_S (gF G) s.heap s.heap [] := va_S.rf
  have hl := lv_entry ([.ref (gA G 14 0 0), .int p0, .int p1, .ref oJ]) (n := 5) (Nat.le_of_ble_eq_true rfl)
  rw [lg_entry_eq]
  generalize (lg_sl ([.ref (gA G 14 0 0), .int p0, .int p1, .ref oJ]) ++ List.replicate (5 - (lg_sl ([.ref (gA G 14 0 0), .int p0, .int p1, .ref oJ])).length) Slot.unset).toArray = ls at hl ⊢
  have hl : lv_has ls 5 [(0, .ref (gA G 14 0 0)), (1, .int p0), (2, .int p1), (3, .ref oJ)] := hl
  refine lv_aload_n hx hb dL_job_0 rfl (lv_at hl 3 rfl) ?_
  refine lv_iconst (v := (0 : Int32)) hx hb dL_job_1 (by decide) ?_
  refine lv_aload_n hx hb dL_job_2 rfl (lv_at hl 0 rfl) ?_
  refine lv_iload_n hx hb dL_job_3 rfl (lv_at hl 1 rfl) ?_
  refine lv_iload_n hx hb dL_job_4 rfl (lv_at hl 2 rfl) ?_
  refine kx_X11_job hx hb hml hown htg hst hXt hZ hA hK hW hS h q610 hl.1 (Nat.le_of_ble_eq_true rfl) (Nat.le_of_ble_eq_true rfl) (Nat.le_of_ble_eq_true rfl) ⟨Nat.le_of_ble_eq_true rfl, Nat.le_of_ble_eq_true rfl⟩ dL_job_5 (fun hc ce q9 H locs hW hS e1 e2 e3 => ?_) (fun h0 H locs hW hS => ?_)
  · have hO := hO.call hw hS
    have hS := hS.mono9 (B := gW G oJ oD) (fun _ h => Or.inl h)
    rcases hcd with rfl | rfl | rfl
    · exact absurd rfl hc
    · refine vx_catch (E := exN 1) hown [] ⟨0, 10, 13, 13⟩ [⟨0, 10, 17, 15⟩] htb (fun z hz => ?_) (by decide) (by decide) (htg _ q183) (va_Nw.use rfl (hXt.1 _ (by decide +kernel))) e1 e2 e3 ?_
      · simp only [List.mem_cons, List.not_mem_nil, or_false] at hz
      · refine lv_astore (lv' := [(4, .ref q9), (0, .ref (gA G 14 0 0)), (1, .int p0), (2, .int p1), (3, .ref oJ)]) hx hb dL_job_13 hl (by decide) rfl (fun ls hl => ?_)
        refine lv_iconst (v := (1 : Int32)) hx hb dL_job_15 (by decide) ?_
        exact rt_w hx hb hr hlocks hW hO hS dL_job_16
    · refine vx_catch (E := exN 2) hown [⟨0, 10, 13, 13⟩] ⟨0, 10, 17, 15⟩ [] htb (fun z hz => ?_) (by decide) (by decide) (htg _ q184) (va_Nw.use rfl (hXt.1 _ (by decide +kernel))) e1 e2 e3 ?_
      · simp only [List.mem_cons, List.not_mem_nil, or_false] at hz
        rcases hz with rfl
        · exact Or.inr ⟨by decide, "java/lang/IndexOutOfBoundsException", htg _ q183, hXt.2.2 (exN 2, "java/lang/IndexOutOfBoundsException") (by decide +kernel)⟩
      · refine lv_astore (lv' := [(4, .ref q9), (0, .ref (gA G 14 0 0)), (1, .int p0), (2, .int p1), (3, .ref oJ)]) hx hb dL_job_17 hl (by decide) rfl (fun ls hl => ?_)
        refine lv_iconst (v := (2 : Int32)) hx hb dL_job_19 (by decide) ?_
        exact rt_w hx hb hr hlocks hW hO hS dL_job_20
  · subst h0
    have hO := hO.call hw hS
    have hS := hS.mono9 (B := gW G oJ oD) (fun _ h => Or.inl h)
    refine lv_i2l (v := v.toInt64) hx hb dL_job_8 rfl ?_
    refine ow_J hx hb hK hW hO hw hS dL_job_9 (fun H locs hW hO hS => ?_)
    refine lv_goto (tgt := 21) hx hb dL_job_10 (by decide) ?_
    refine lv_iconst (v := (0 : Int32)) hx hb dL_job_21 (by decide) ?_
    exact rt_w hx hb hr hlocks hW hO hS dL_job_22
set_option maxHeartbeats 4000000 in
theorem kw_job {p : Program} {l : Launch} {e : Env} {R : Room} {s : State} {m : MethodId} {args : Array Value} {below : List Frame} {meth : Method} {c : Code} {H : Heap} {locs : List Loc} {cells slots : Nat} {Q : State → Prop} {cc : ByteArray} {pc nL idx : Nat} {ls : Array Slot} {rest : List Value} {G : Geo} {x y : Mem} {oJ oD : Nat} {vj : Int64} {vd : UInt64} {A0 : Nat → Prop} {p0 : Int32} {p1 : Int32} {cd : Nat} {v : Int32} {z : Mem} (hx : p.tables.exec = Jvm.exec) (hb : c.code = cc) (hml : c.maxLocals = nL) (hown : s.vm.findClass RL = some m.cls) (htg : ∀ w ∈ wsG, w.before args s = true) (hst : l.stackTraces = false) (hXt : Xt s) (hZ : Zt G s H) (hA : ∀ q, H.size ≤ q → gF G q) (hK : Kt G s) (hW : Wh G x y H) (hO : Oh G oJ oD vj vd H) (hw : Ow G oJ oD) (hS : va_S A0 s.heap H locs) (hA0 : ∀ q, gW G oJ oD q → A0 q) (h : m_X11_job p0 p1 x = some (cd, v, z)) (hcd : cd = 0 ∨ cd = 1 ∨ cd = 2) (hlk : Cond.methodLink RL idx yL_job ∈ wsG) (hn : ls.size = nL) (hr : (rest.map fun v => v.category).sum ≤ 8) (hR1 : 8 + 1 ≤ R.frames) (hR2 : 8 + (5 + 11) + 133 ≤ R.locals) (hf : cells + 3 ≤ R.cells ∧ slots + 18 ≤ R.slots) (hdg : decode cc pc = .ok (.invokestatic idx, 3)) (kk : ∀ (H1 : Heap) (locs1 : List Loc), Wh G z y H1 → Oh G oJ oD (if cd = 0 then v.toInt64 else vj) vd H1 → va_S A0 s.heap H1 locs1 → (∀ q : Nat, q < H.size → ¬ gW G oJ oD q → H1[q]? = H[q]?) → H.size ≤ H1.size → W p l e R s m args below meth c H1 locs1 (cells + 3) (slots + 18) Q (F0 m (pc + 3) ls (.int (kO_job cd) :: rest))) : W p l e R s m args below meth c H locs cells slots Q (F0 m pc ls (.ref oJ :: .int p1 :: .int p0 :: .ref (gA G 14 0 0) :: rest)) := by
  refine va_calli (vx_runSW (As := [.ref (gA G 14 0 0), .int p0, .int p1, .ref oJ]) (rest := rest) ⟨hx, hb, hml, hown, htg⟩ (cL_w_job l hst G x y oJ oD hw vj vd p0 p1 h hcd) (vx_cwSW 4 htg (gd_S hlk q608 q181 q609) rfl rfl rfl (by decide +kernel) ⟨hR1, hR2⟩) ⟨fun a U g mk q => ⟨q.1, q.2.1.calling, q.2.2.1.calling, q.2.2.2.1.calling, q.2.2.2.2.1, q.2.2.2.2.2.1, q.2.2.2.2.2.2⟩, fun U hU hW9 => ⟨rfl, hK.warm hW9, hXt.warm hW9, by rw [hU]; exact hZ.moved hW9.alike, by rw [hU]; exact hA, by rw [hU]; exact hW, by rw [hU]; exact hO⟩⟩ rfl rfl hn rfl (lv_room hr) hdg hf) hS (fun q _ h9 => hA0 q h9) (fun q h9 => hA0 q h9) ?_
  intro r9 u t H1 locs1 ht hvm hw9 hB hz1 hk1 hS1
  obtain ⟨hB1, hB2⟩ := hB
  replace hB1 : Wh G z y t.heap := hB1
  rw [ht] at hB1 hB2
  replace hw9 : r9 = kO_job cd := hw9
  subst hw9
  exact kk H1 locs1 hB1 hB2 hS1 hk1 hz1
def kO_arm (cd : Nat) : Int32 := if cd = 1 then 1 else if cd = 2 then 2 else 0
abbrev WSL_arm : List Cond := .codeWith yL_arm cL_arm 5 (some .int) [(0, 10, 13, 13), (0, 10, 17, 15)] :: wsG
abbrev RML_arm : Room := { frames := 8, cells := 3, slots := 18, locals := 133 }
set_option maxHeartbeats 4000000 in
set_option maxRecDepth 100000 in
theorem cL_w_arm (l : Launch) (hst : l.stackTraces = false) (G : Geo) (x y : Mem) (oJ oD : Nat) (hw : Ow G oJ oD) (vj : Int64) (vd : UInt64) (p0 : Int32) (p1 : Int32) {cd : Nat} {v : Int32} {z : Mem} (h : m_X11_arm p0 p1 x = some (cd, v, z)) (hcd : cd = 0 ∨ cd = 1 ∨ cd = 2) : Met l yL_arm WSL_arm RML_arm (Pz G x y oJ oD vj vd [.ref (gA G 14 0 0), .int p0, .int p1, .ref oJ]) (Qz G z y oJ oD (if cd = 0 then v.toInt64 else vj) vd (kO_arm cd)) 3 18 (gW G oJ oD) := by
  refine va_MetW (cc := cL_arm) (maxL := 5) (ret := some .int) (hh := [(0, 10, 13, 13), (0, 10, 17, 15)]) (by decide) rfl ?_
  intro p e s m args below meth c s₁ B hml hv9
  obtain ⟨rfl, hK, hXt, hZ, hA, hW, hO⟩ := hv9
  have hx := B.exec
  have hb := B.bytes
  have hr := B.returns
  have hts := atoms_spec (ws := WSL_arm) B.pre
  have htg : ∀ w ∈ wsG, w.before _ s = true := fun w h => hts w (List.mem_cons_of_mem _ h)
  have hown : s.vm.findClass RL = some m.cls := findClass_of_methodNamed B.named
  have hlocks := B.notSynchronized
  have htb := vx_table (x := yL_law) B (hts _ List.mem_cons_self)
  have hS : va_S (gF G) s.heap s.heap [] := va_S.rf
  have hl := lv_entry ([.ref (gA G 14 0 0), .int p0, .int p1, .ref oJ]) (n := 5) (Nat.le_of_ble_eq_true rfl)
  rw [lg_entry_eq]
  generalize (lg_sl ([.ref (gA G 14 0 0), .int p0, .int p1, .ref oJ]) ++ List.replicate (5 - (lg_sl ([.ref (gA G 14 0 0), .int p0, .int p1, .ref oJ])).length) Slot.unset).toArray = ls at hl ⊢
  have hl : lv_has ls 5 [(0, .ref (gA G 14 0 0)), (1, .int p0), (2, .int p1), (3, .ref oJ)] := hl
  refine lv_aload_n hx hb dL_arm_0 rfl (lv_at hl 3 rfl) ?_
  refine lv_iconst (v := (0 : Int32)) hx hb dL_arm_1 (by decide) ?_
  refine lv_aload_n hx hb dL_arm_2 rfl (lv_at hl 0 rfl) ?_
  refine lv_iload_n hx hb dL_arm_3 rfl (lv_at hl 1 rfl) ?_
  refine lv_iload_n hx hb dL_arm_4 rfl (lv_at hl 2 rfl) ?_
  refine kx_X11_arm hx hb hml hown htg hst hXt hZ hA hK hW hS h q635 hl.1 (Nat.le_of_ble_eq_true rfl) (Nat.le_of_ble_eq_true rfl) (Nat.le_of_ble_eq_true rfl) ⟨Nat.le_of_ble_eq_true rfl, Nat.le_of_ble_eq_true rfl⟩ dL_arm_5 (fun hc ce q9 H locs hW hS e1 e2 e3 => ?_) (fun h0 H locs hW hS => ?_)
  · have hO := hO.call hw hS
    have hS := hS.mono9 (B := gW G oJ oD) (fun _ h => Or.inl h)
    rcases hcd with rfl | rfl | rfl
    · exact absurd rfl hc
    · refine vx_catch (E := exN 1) hown [] ⟨0, 10, 13, 13⟩ [⟨0, 10, 17, 15⟩] htb (fun z hz => ?_) (by decide) (by decide) (htg _ q183) (va_Nw.use rfl (hXt.1 _ (by decide +kernel))) e1 e2 e3 ?_
      · simp only [List.mem_cons, List.not_mem_nil, or_false] at hz
      · refine lv_astore (lv' := [(4, .ref q9), (0, .ref (gA G 14 0 0)), (1, .int p0), (2, .int p1), (3, .ref oJ)]) hx hb dL_arm_13 hl (by decide) rfl (fun ls hl => ?_)
        refine lv_iconst (v := (1 : Int32)) hx hb dL_arm_15 (by decide) ?_
        exact rt_w hx hb hr hlocks hW hO hS dL_arm_16
    · refine vx_catch (E := exN 2) hown [⟨0, 10, 13, 13⟩] ⟨0, 10, 17, 15⟩ [] htb (fun z hz => ?_) (by decide) (by decide) (htg _ q184) (va_Nw.use rfl (hXt.1 _ (by decide +kernel))) e1 e2 e3 ?_
      · simp only [List.mem_cons, List.not_mem_nil, or_false] at hz
        rcases hz with rfl
        · exact Or.inr ⟨by decide, "java/lang/IndexOutOfBoundsException", htg _ q183, hXt.2.2 (exN 2, "java/lang/IndexOutOfBoundsException") (by decide +kernel)⟩
      · refine lv_astore (lv' := [(4, .ref q9), (0, .ref (gA G 14 0 0)), (1, .int p0), (2, .int p1), (3, .ref oJ)]) hx hb dL_arm_17 hl (by decide) rfl (fun ls hl => ?_)
        refine lv_iconst (v := (2 : Int32)) hx hb dL_arm_19 (by decide) ?_
        exact rt_w hx hb hr hlocks hW hO hS dL_arm_20
  · subst h0
    have hO := hO.call hw hS
    have hS := hS.mono9 (B := gW G oJ oD) (fun _ h => Or.inl h)
    refine lv_i2l (v := v.toInt64) hx hb dL_arm_8 rfl ?_
    refine ow_J hx hb hK hW hO hw hS dL_arm_9 (fun H locs hW hO hS => ?_)
    refine lv_goto (tgt := 21) hx hb dL_arm_10 (by decide) ?_
    refine lv_iconst (v := (0 : Int32)) hx hb dL_arm_21 (by decide) ?_
    exact rt_w hx hb hr hlocks hW hO hS dL_arm_22
set_option maxHeartbeats 4000000 in
theorem kw_arm {p : Program} {l : Launch} {e : Env} {R : Room} {s : State} {m : MethodId} {args : Array Value} {below : List Frame} {meth : Method} {c : Code} {H : Heap} {locs : List Loc} {cells slots : Nat} {Q : State → Prop} {cc : ByteArray} {pc nL idx : Nat} {ls : Array Slot} {rest : List Value} {G : Geo} {x y : Mem} {oJ oD : Nat} {vj : Int64} {vd : UInt64} {A0 : Nat → Prop} {p0 : Int32} {p1 : Int32} {cd : Nat} {v : Int32} {z : Mem} (hx : p.tables.exec = Jvm.exec) (hb : c.code = cc) (hml : c.maxLocals = nL) (hown : s.vm.findClass RL = some m.cls) (htg : ∀ w ∈ wsG, w.before args s = true) (hst : l.stackTraces = false) (hXt : Xt s) (hZ : Zt G s H) (hA : ∀ q, H.size ≤ q → gF G q) (hK : Kt G s) (hW : Wh G x y H) (hO : Oh G oJ oD vj vd H) (hw : Ow G oJ oD) (hS : va_S A0 s.heap H locs) (hA0 : ∀ q, gW G oJ oD q → A0 q) (h : m_X11_arm p0 p1 x = some (cd, v, z)) (hcd : cd = 0 ∨ cd = 1 ∨ cd = 2) (hlk : Cond.methodLink RL idx yL_arm ∈ wsG) (hn : ls.size = nL) (hr : (rest.map fun v => v.category).sum ≤ 8) (hR1 : 8 + 1 ≤ R.frames) (hR2 : 8 + (5 + 11) + 133 ≤ R.locals) (hf : cells + 3 ≤ R.cells ∧ slots + 18 ≤ R.slots) (hdg : decode cc pc = .ok (.invokestatic idx, 3)) (kk : ∀ (H1 : Heap) (locs1 : List Loc), Wh G z y H1 → Oh G oJ oD (if cd = 0 then v.toInt64 else vj) vd H1 → va_S A0 s.heap H1 locs1 → (∀ q : Nat, q < H.size → ¬ gW G oJ oD q → H1[q]? = H[q]?) → H.size ≤ H1.size → W p l e R s m args below meth c H1 locs1 (cells + 3) (slots + 18) Q (F0 m (pc + 3) ls (.int (kO_arm cd) :: rest))) : W p l e R s m args below meth c H locs cells slots Q (F0 m pc ls (.ref oJ :: .int p1 :: .int p0 :: .ref (gA G 14 0 0) :: rest)) := by
  refine va_calli (vx_runSW (As := [.ref (gA G 14 0 0), .int p0, .int p1, .ref oJ]) (rest := rest) ⟨hx, hb, hml, hown, htg⟩ (cL_w_arm l hst G x y oJ oD hw vj vd p0 p1 h hcd) (vx_cwSW 4 htg (gd_S hlk q633 q181 q634) rfl rfl rfl (by decide +kernel) ⟨hR1, hR2⟩) ⟨fun a U g mk q => ⟨q.1, q.2.1.calling, q.2.2.1.calling, q.2.2.2.1.calling, q.2.2.2.2.1, q.2.2.2.2.2.1, q.2.2.2.2.2.2⟩, fun U hU hW9 => ⟨rfl, hK.warm hW9, hXt.warm hW9, by rw [hU]; exact hZ.moved hW9.alike, by rw [hU]; exact hA, by rw [hU]; exact hW, by rw [hU]; exact hO⟩⟩ rfl rfl hn rfl (lv_room hr) hdg hf) hS (fun q _ h9 => hA0 q h9) (fun q h9 => hA0 q h9) ?_
  intro r9 u t H1 locs1 ht hvm hw9 hB hz1 hk1 hS1
  obtain ⟨hB1, hB2⟩ := hB
  replace hB1 : Wh G z y t.heap := hB1
  rw [ht] at hB1 hB2
  replace hw9 : r9 = kO_arm cd := hw9
  subst hw9
  exact kk H1 locs1 hB1 hB2 hS1 hk1 hz1
def kO_waiting (cd : Nat) : Int32 := if cd = 1 then 1 else 0
abbrev WSL_waiting : List Cond := .codeWith yL_waiting cL_waiting 5 (some .int) [(0, 10, 13, 13)] :: wsG
abbrev RML_waiting : Room := { frames := 8, cells := 3, slots := 18, locals := 133 }
set_option maxHeartbeats 4000000 in
set_option maxRecDepth 100000 in
theorem cL_w_waiting (l : Launch) (hst : l.stackTraces = false) (G : Geo) (x y : Mem) (oJ oD : Nat) (hw : Ow G oJ oD) (vj : Int64) (vd : UInt64) (p0 : Int32) (p1 : Int32) {cd : Nat} {v : Int32} {z : Mem} (h : m_X11_waiting p0 p1 x = some (cd, v, z)) (hcd : cd = 0 ∨ cd = 1) : Met l yL_waiting WSL_waiting RML_waiting (Pz G x y oJ oD vj vd [.ref (gA G 14 0 0), .int p0, .int p1, .ref oJ]) (Qz G z y oJ oD (if cd = 0 then v.toInt64 else vj) vd (kO_waiting cd)) 3 18 (gW G oJ oD) := by
  refine va_MetW (cc := cL_waiting) (maxL := 5) (ret := some .int) (hh := [(0, 10, 13, 13)]) (by decide) rfl ?_
  intro p e s m args below meth c s₁ B hml hv9
  obtain ⟨rfl, hK, hXt, hZ, hA, hW, hO⟩ := hv9
  have hx := B.exec
  have hb := B.bytes
  have hr := B.returns
  have hts := atoms_spec (ws := WSL_waiting) B.pre
  have htg : ∀ w ∈ wsG, w.before _ s = true := fun w h => hts w (List.mem_cons_of_mem _ h)
  have hown : s.vm.findClass RL = some m.cls := findClass_of_methodNamed B.named
  have hlocks := B.notSynchronized
  have htb := vx_table (x := yL_law) B (hts _ List.mem_cons_self)
  have hS : va_S (gF G) s.heap s.heap [] := va_S.rf
  have hl := lv_entry ([.ref (gA G 14 0 0), .int p0, .int p1, .ref oJ]) (n := 5) (Nat.le_of_ble_eq_true rfl)
  rw [lg_entry_eq]
  generalize (lg_sl ([.ref (gA G 14 0 0), .int p0, .int p1, .ref oJ]) ++ List.replicate (5 - (lg_sl ([.ref (gA G 14 0 0), .int p0, .int p1, .ref oJ])).length) Slot.unset).toArray = ls at hl ⊢
  have hl : lv_has ls 5 [(0, .ref (gA G 14 0 0)), (1, .int p0), (2, .int p1), (3, .ref oJ)] := hl
  refine lv_aload_n hx hb dL_waiting_0 rfl (lv_at hl 3 rfl) ?_
  refine lv_iconst (v := (0 : Int32)) hx hb dL_waiting_1 (by decide) ?_
  refine lv_aload_n hx hb dL_waiting_2 rfl (lv_at hl 0 rfl) ?_
  refine lv_iload_n hx hb dL_waiting_3 rfl (lv_at hl 1 rfl) ?_
  refine lv_iload_n hx hb dL_waiting_4 rfl (lv_at hl 2 rfl) ?_
  refine kx_X11_waiting hx hb hml hown htg hst hXt hZ hA hK hW hS h q662 hl.1 (Nat.le_of_ble_eq_true rfl) (Nat.le_of_ble_eq_true rfl) (Nat.le_of_ble_eq_true rfl) ⟨Nat.le_of_ble_eq_true rfl, Nat.le_of_ble_eq_true rfl⟩ dL_waiting_5 (fun hc ce q9 H locs hW hS e1 e2 e3 => ?_) (fun h0 H locs hW hS => ?_)
  · have hO := hO.call hw hS
    have hS := hS.mono9 (B := gW G oJ oD) (fun _ h => Or.inl h)
    rcases hcd with rfl | rfl
    · exact absurd rfl hc
    · refine vx_catch (E := exN 1) hown [] ⟨0, 10, 13, 13⟩ [] htb (fun z hz => ?_) (by decide) (by decide) (htg _ q183) (va_Nw.use rfl (hXt.1 _ (by decide +kernel))) e1 e2 e3 ?_
      · simp only [List.mem_cons, List.not_mem_nil, or_false] at hz
      · refine lv_astore (lv' := [(4, .ref q9), (0, .ref (gA G 14 0 0)), (1, .int p0), (2, .int p1), (3, .ref oJ)]) hx hb dL_waiting_13 hl (by decide) rfl (fun ls hl => ?_)
        refine lv_iconst (v := (1 : Int32)) hx hb dL_waiting_15 (by decide) ?_
        exact rt_w hx hb hr hlocks hW hO hS dL_waiting_16
  · subst h0
    have hO := hO.call hw hS
    have hS := hS.mono9 (B := gW G oJ oD) (fun _ h => Or.inl h)
    refine lv_i2l (v := v.toInt64) hx hb dL_waiting_8 rfl ?_
    refine ow_J hx hb hK hW hO hw hS dL_waiting_9 (fun H locs hW hO hS => ?_)
    refine lv_goto (tgt := 17) hx hb dL_waiting_10 (by decide) ?_
    refine lv_iconst (v := (0 : Int32)) hx hb dL_waiting_17 (by decide) ?_
    exact rt_w hx hb hr hlocks hW hO hS dL_waiting_18
set_option maxHeartbeats 4000000 in
theorem kw_waiting {p : Program} {l : Launch} {e : Env} {R : Room} {s : State} {m : MethodId} {args : Array Value} {below : List Frame} {meth : Method} {c : Code} {H : Heap} {locs : List Loc} {cells slots : Nat} {Q : State → Prop} {cc : ByteArray} {pc nL idx : Nat} {ls : Array Slot} {rest : List Value} {G : Geo} {x y : Mem} {oJ oD : Nat} {vj : Int64} {vd : UInt64} {A0 : Nat → Prop} {p0 : Int32} {p1 : Int32} {cd : Nat} {v : Int32} {z : Mem} (hx : p.tables.exec = Jvm.exec) (hb : c.code = cc) (hml : c.maxLocals = nL) (hown : s.vm.findClass RL = some m.cls) (htg : ∀ w ∈ wsG, w.before args s = true) (hst : l.stackTraces = false) (hXt : Xt s) (hZ : Zt G s H) (hA : ∀ q, H.size ≤ q → gF G q) (hK : Kt G s) (hW : Wh G x y H) (hO : Oh G oJ oD vj vd H) (hw : Ow G oJ oD) (hS : va_S A0 s.heap H locs) (hA0 : ∀ q, gW G oJ oD q → A0 q) (h : m_X11_waiting p0 p1 x = some (cd, v, z)) (hcd : cd = 0 ∨ cd = 1) (hlk : Cond.methodLink RL idx yL_waiting ∈ wsG) (hn : ls.size = nL) (hr : (rest.map fun v => v.category).sum ≤ 8) (hR1 : 8 + 1 ≤ R.frames) (hR2 : 8 + (5 + 11) + 133 ≤ R.locals) (hf : cells + 3 ≤ R.cells ∧ slots + 18 ≤ R.slots) (hdg : decode cc pc = .ok (.invokestatic idx, 3)) (kk : ∀ (H1 : Heap) (locs1 : List Loc), Wh G z y H1 → Oh G oJ oD (if cd = 0 then v.toInt64 else vj) vd H1 → va_S A0 s.heap H1 locs1 → (∀ q : Nat, q < H.size → ¬ gW G oJ oD q → H1[q]? = H[q]?) → H.size ≤ H1.size → W p l e R s m args below meth c H1 locs1 (cells + 3) (slots + 18) Q (F0 m (pc + 3) ls (.int (kO_waiting cd) :: rest))) : W p l e R s m args below meth c H locs cells slots Q (F0 m pc ls (.ref oJ :: .int p1 :: .int p0 :: .ref (gA G 14 0 0) :: rest)) := by
  refine va_calli (vx_runSW (As := [.ref (gA G 14 0 0), .int p0, .int p1, .ref oJ]) (rest := rest) ⟨hx, hb, hml, hown, htg⟩ (cL_w_waiting l hst G x y oJ oD hw vj vd p0 p1 h hcd) (vx_cwSW 4 htg (gd_S hlk q660 q181 q661) rfl rfl rfl (by decide +kernel) ⟨hR1, hR2⟩) ⟨fun a U g mk q => ⟨q.1, q.2.1.calling, q.2.2.1.calling, q.2.2.2.1.calling, q.2.2.2.2.1, q.2.2.2.2.2.1, q.2.2.2.2.2.2⟩, fun U hU hW9 => ⟨rfl, hK.warm hW9, hXt.warm hW9, by rw [hU]; exact hZ.moved hW9.alike, by rw [hU]; exact hA, by rw [hU]; exact hW, by rw [hU]; exact hO⟩⟩ rfl rfl hn rfl (lv_room hr) hdg hf) hS (fun q _ h9 => hA0 q h9) (fun q h9 => hA0 q h9) ?_
  intro r9 u t H1 locs1 ht hvm hw9 hB hz1 hk1 hS1
  obtain ⟨hB1, hB2⟩ := hB
  replace hB1 : Wh G z y t.heap := hB1
  rw [ht] at hB1 hB2
  replace hw9 : r9 = kO_waiting cd := hw9
  subst hw9
  exact kk H1 locs1 hB1 hB2 hS1 hk1 hz1
def kO_tick (cd : Nat) : Int32 := if cd = 2 then 1 else 0
abbrev WSL_tick : List Cond := .codeWith yL_tick cL_tick 4 (some .int) [(0, 9, 12, 15)] :: wsG
abbrev RML_tick : Room := { frames := 7, cells := 3, slots := 18, locals := 144 }
set_option maxHeartbeats 4000000 in
set_option maxRecDepth 100000 in
theorem cL_w_tick (l : Launch) (hst : l.stackTraces = false) (G : Geo) (x y : Mem) (oJ oD : Nat) (hw : Ow G oJ oD) (vj : Int64) (vd : UInt64) (p0 : Int32) {cd : Nat} {v : Int32} {z : Mem} (h : m_X11_tick p0 x = some (cd, v, z)) (hcd : cd = 0 ∨ cd = 2) : Met l yL_tick WSL_tick RML_tick (Pz G x y oJ oD vj vd [.ref (gA G 14 0 0), .int p0, .ref oJ]) (Qz G z y oJ oD (if cd = 0 then v.toInt64 else vj) vd (kO_tick cd)) 3 18 (gW G oJ oD) := by
  refine va_MetW (cc := cL_tick) (maxL := 4) (ret := some .int) (hh := [(0, 9, 12, 15)]) (by decide) rfl ?_
  intro p e s m args below meth c s₁ B hml hv9
  obtain ⟨rfl, hK, hXt, hZ, hA, hW, hO⟩ := hv9
  have hx := B.exec
  have hb := B.bytes
  have hr := B.returns
  have hts := atoms_spec (ws := WSL_tick) B.pre
  have htg : ∀ w ∈ wsG, w.before _ s = true := fun w h => hts w (List.mem_cons_of_mem _ h)
  have hown : s.vm.findClass RL = some m.cls := findClass_of_methodNamed B.named
  have hlocks := B.notSynchronized
  have htb := vx_table (x := yL_law) B (hts _ List.mem_cons_self)
  have hS : va_S (gF G) s.heap s.heap [] := va_S.rf
  have hl := lv_entry ([.ref (gA G 14 0 0), .int p0, .ref oJ]) (n := 4) (Nat.le_of_ble_eq_true rfl)
  rw [lg_entry_eq]
  generalize (lg_sl ([.ref (gA G 14 0 0), .int p0, .ref oJ]) ++ List.replicate (4 - (lg_sl ([.ref (gA G 14 0 0), .int p0, .ref oJ])).length) Slot.unset).toArray = ls at hl ⊢
  have hl : lv_has ls 4 [(0, .ref (gA G 14 0 0)), (1, .int p0), (2, .ref oJ)] := hl
  refine lv_aload_n hx hb dL_tick_0 rfl (lv_at hl 2 rfl) ?_
  refine lv_iconst (v := (0 : Int32)) hx hb dL_tick_1 (by decide) ?_
  refine lv_aload_n hx hb dL_tick_2 rfl (lv_at hl 0 rfl) ?_
  refine lv_iload_n hx hb dL_tick_3 rfl (lv_at hl 1 rfl) ?_
  refine kx_X11_tick hx hb hml hown htg hst hXt hZ hA hK hW hS h q674 hl.1 (Nat.le_of_ble_eq_true rfl) (Nat.le_of_ble_eq_true rfl) (Nat.le_of_ble_eq_true rfl) ⟨Nat.le_of_ble_eq_true rfl, Nat.le_of_ble_eq_true rfl⟩ dL_tick_4 (fun hc ce q9 H locs hW hS e1 e2 e3 => ?_) (fun h0 H locs hW hS => ?_)
  · have hO := hO.call hw hS
    have hS := hS.mono9 (B := gW G oJ oD) (fun _ h => Or.inl h)
    rcases hcd with rfl | rfl
    · exact absurd rfl hc
    · refine vx_catch (E := exN 2) hown [] ⟨0, 9, 12, 15⟩ [] htb (fun z hz => ?_) (by decide) (by decide) (htg _ q184) (va_Nw.use rfl (hXt.1 _ (by decide +kernel))) e1 e2 e3 ?_
      · simp only [List.mem_cons, List.not_mem_nil, or_false] at hz
      · refine lv_astore_n (lv' := [(3, .ref q9), (0, .ref (gA G 14 0 0)), (1, .int p0), (2, .ref oJ)]) hx hb dL_tick_12 rfl hl (by decide) rfl (fun ls hl => ?_)
        refine lv_iconst (v := (1 : Int32)) hx hb dL_tick_13 (by decide) ?_
        exact rt_w hx hb hr hlocks hW hO hS dL_tick_14
  · subst h0
    have hO := hO.call hw hS
    have hS := hS.mono9 (B := gW G oJ oD) (fun _ h => Or.inl h)
    refine lv_i2l (v := v.toInt64) hx hb dL_tick_7 rfl ?_
    refine ow_J hx hb hK hW hO hw hS dL_tick_8 (fun H locs hW hO hS => ?_)
    refine lv_goto (tgt := 15) hx hb dL_tick_9 (by decide) ?_
    refine lv_iconst (v := (0 : Int32)) hx hb dL_tick_15 (by decide) ?_
    exact rt_w hx hb hr hlocks hW hO hS dL_tick_16
set_option maxHeartbeats 4000000 in
theorem kw_tick {p : Program} {l : Launch} {e : Env} {R : Room} {s : State} {m : MethodId} {args : Array Value} {below : List Frame} {meth : Method} {c : Code} {H : Heap} {locs : List Loc} {cells slots : Nat} {Q : State → Prop} {cc : ByteArray} {pc nL idx : Nat} {ls : Array Slot} {rest : List Value} {G : Geo} {x y : Mem} {oJ oD : Nat} {vj : Int64} {vd : UInt64} {A0 : Nat → Prop} {p0 : Int32} {cd : Nat} {v : Int32} {z : Mem} (hx : p.tables.exec = Jvm.exec) (hb : c.code = cc) (hml : c.maxLocals = nL) (hown : s.vm.findClass RL = some m.cls) (htg : ∀ w ∈ wsG, w.before args s = true) (hst : l.stackTraces = false) (hXt : Xt s) (hZ : Zt G s H) (hA : ∀ q, H.size ≤ q → gF G q) (hK : Kt G s) (hW : Wh G x y H) (hO : Oh G oJ oD vj vd H) (hw : Ow G oJ oD) (hS : va_S A0 s.heap H locs) (hA0 : ∀ q, gW G oJ oD q → A0 q) (h : m_X11_tick p0 x = some (cd, v, z)) (hcd : cd = 0 ∨ cd = 2) (hlk : Cond.methodLink RL idx yL_tick ∈ wsG) (hn : ls.size = nL) (hr : (rest.map fun v => v.category).sum ≤ 8) (hR1 : 7 + 1 ≤ R.frames) (hR2 : 8 + (4 + 11) + 144 ≤ R.locals) (hf : cells + 3 ≤ R.cells ∧ slots + 18 ≤ R.slots) (hdg : decode cc pc = .ok (.invokestatic idx, 3)) (kk : ∀ (H1 : Heap) (locs1 : List Loc), Wh G z y H1 → Oh G oJ oD (if cd = 0 then v.toInt64 else vj) vd H1 → va_S A0 s.heap H1 locs1 → (∀ q : Nat, q < H.size → ¬ gW G oJ oD q → H1[q]? = H[q]?) → H.size ≤ H1.size → W p l e R s m args below meth c H1 locs1 (cells + 3) (slots + 18) Q (F0 m (pc + 3) ls (.int (kO_tick cd) :: rest))) : W p l e R s m args below meth c H locs cells slots Q (F0 m pc ls (.ref oJ :: .int p0 :: .ref (gA G 14 0 0) :: rest)) := by
  refine va_calli (vx_runSW (As := [.ref (gA G 14 0 0), .int p0, .ref oJ]) (rest := rest) ⟨hx, hb, hml, hown, htg⟩ (cL_w_tick l hst G x y oJ oD hw vj vd p0 h hcd) (vx_cwSW 3 htg (gd_S hlk q672 q181 q673) rfl rfl rfl (by decide +kernel) ⟨hR1, hR2⟩) ⟨fun a U g mk q => ⟨q.1, q.2.1.calling, q.2.2.1.calling, q.2.2.2.1.calling, q.2.2.2.2.1, q.2.2.2.2.2.1, q.2.2.2.2.2.2⟩, fun U hU hW9 => ⟨rfl, hK.warm hW9, hXt.warm hW9, by rw [hU]; exact hZ.moved hW9.alike, by rw [hU]; exact hA, by rw [hU]; exact hW, by rw [hU]; exact hO⟩⟩ rfl rfl hn rfl (lv_room hr) hdg hf) hS (fun q _ h9 => hA0 q h9) (fun q h9 => hA0 q h9) ?_
  intro r9 u t H1 locs1 ht hvm hw9 hB hz1 hk1 hS1
  obtain ⟨hB1, hB2⟩ := hB
  replace hB1 : Wh G z y t.heap := hB1
  rw [ht] at hB1 hB2
  replace hw9 : r9 = kO_tick cd := hw9
  subst hw9
  exact kk H1 locs1 hB1 hB2 hS1 hk1 hz1
def kO_reason (cd : Nat) : Int32 := if cd = 1 then 1 else if cd = 5 then 2 else 0
abbrev WSL_reason : List Cond := .codeWith yL_reason cL_reason 5 (some .int) [(0, 10, 13, 13), (0, 10, 17, 39)] :: wsG
abbrev RML_reason : Room := { frames := 8, cells := 3, slots := 18, locals := 133 }
set_option maxHeartbeats 4000000 in
set_option maxRecDepth 100000 in
theorem cL_w_reason (l : Launch) (hst : l.stackTraces = false) (G : Geo) (x y : Mem) (oJ oD : Nat) (hw : Ow G oJ oD) (vj : Int64) (vd : UInt64) (p0 : Int32) (p1 : Int32) {cd : Nat} {v : Int32} {z : Mem} (h : m_X11_reason p0 p1 x = some (cd, v, z)) (hcd : cd = 0 ∨ cd = 1 ∨ cd = 5) : Met l yL_reason WSL_reason RML_reason (Pz G x y oJ oD vj vd [.ref (gA G 14 0 0), .int p0, .int p1, .ref oJ]) (Qz G z y oJ oD (if cd = 0 then v.toInt64 else vj) vd (kO_reason cd)) 3 18 (gW G oJ oD) := by
  refine va_MetW (cc := cL_reason) (maxL := 5) (ret := some .int) (hh := [(0, 10, 13, 13), (0, 10, 17, 39)]) (by decide) rfl ?_
  intro p e s m args below meth c s₁ B hml hv9
  obtain ⟨rfl, hK, hXt, hZ, hA, hW, hO⟩ := hv9
  have hx := B.exec
  have hb := B.bytes
  have hr := B.returns
  have hts := atoms_spec (ws := WSL_reason) B.pre
  have htg : ∀ w ∈ wsG, w.before _ s = true := fun w h => hts w (List.mem_cons_of_mem _ h)
  have hown : s.vm.findClass RL = some m.cls := findClass_of_methodNamed B.named
  have hlocks := B.notSynchronized
  have htb := vx_table (x := yL_law) B (hts _ List.mem_cons_self)
  have hS : va_S (gF G) s.heap s.heap [] := va_S.rf
  have hl := lv_entry ([.ref (gA G 14 0 0), .int p0, .int p1, .ref oJ]) (n := 5) (Nat.le_of_ble_eq_true rfl)
  rw [lg_entry_eq]
  generalize (lg_sl ([.ref (gA G 14 0 0), .int p0, .int p1, .ref oJ]) ++ List.replicate (5 - (lg_sl ([.ref (gA G 14 0 0), .int p0, .int p1, .ref oJ])).length) Slot.unset).toArray = ls at hl ⊢
  have hl : lv_has ls 5 [(0, .ref (gA G 14 0 0)), (1, .int p0), (2, .int p1), (3, .ref oJ)] := hl
  refine lv_aload_n hx hb dL_reason_0 rfl (lv_at hl 3 rfl) ?_
  refine lv_iconst (v := (0 : Int32)) hx hb dL_reason_1 (by decide) ?_
  refine lv_aload_n hx hb dL_reason_2 rfl (lv_at hl 0 rfl) ?_
  refine lv_iload_n hx hb dL_reason_3 rfl (lv_at hl 1 rfl) ?_
  refine lv_iload_n hx hb dL_reason_4 rfl (lv_at hl 2 rfl) ?_
  refine kx_X11_reason hx hb hml hown htg hst hXt hZ hA hK hW hS h q910 hl.1 (Nat.le_of_ble_eq_true rfl) (Nat.le_of_ble_eq_true rfl) (Nat.le_of_ble_eq_true rfl) ⟨Nat.le_of_ble_eq_true rfl, Nat.le_of_ble_eq_true rfl⟩ dL_reason_5 (fun hc ce q9 H locs hW hS e1 e2 e3 => ?_) (fun h0 H locs hW hS => ?_)
  · have hO := hO.call hw hS
    have hS := hS.mono9 (B := gW G oJ oD) (fun _ h => Or.inl h)
    rcases hcd with rfl | rfl | rfl
    · exact absurd rfl hc
    · refine vx_catch (E := exN 1) hown [] ⟨0, 10, 13, 13⟩ [⟨0, 10, 17, 39⟩] htb (fun z hz => ?_) (by decide) (by decide) (htg _ q183) (va_Nw.use rfl (hXt.1 _ (by decide +kernel))) e1 e2 e3 ?_
      · simp only [List.mem_cons, List.not_mem_nil, or_false] at hz
      · refine lv_astore (lv' := [(4, .ref q9), (0, .ref (gA G 14 0 0)), (1, .int p0), (2, .int p1), (3, .ref oJ)]) hx hb dL_reason_13 hl (by decide) rfl (fun ls hl => ?_)
        refine lv_iconst (v := (1 : Int32)) hx hb dL_reason_15 (by decide) ?_
        exact rt_w hx hb hr hlocks hW hO hS dL_reason_16
    · refine vx_catch (E := exN 5) hown [⟨0, 10, 13, 13⟩] ⟨0, 10, 17, 39⟩ [] htb (fun z hz => ?_) (by decide) (by decide) (htg _ q512) (va_Nw.use rfl (hXt.1 _ (by decide +kernel))) e1 e2 e3 ?_
      · simp only [List.mem_cons, List.not_mem_nil, or_false] at hz
        rcases hz with rfl
        · exact Or.inr ⟨by decide, "java/lang/IndexOutOfBoundsException", htg _ q183, hXt.2.2 (exN 5, "java/lang/IndexOutOfBoundsException") (by decide +kernel)⟩
      · refine lv_astore (lv' := [(4, .ref q9), (0, .ref (gA G 14 0 0)), (1, .int p0), (2, .int p1), (3, .ref oJ)]) hx hb dL_reason_17 hl (by decide) rfl (fun ls hl => ?_)
        refine lv_iconst (v := (2 : Int32)) hx hb dL_reason_19 (by decide) ?_
        exact rt_w hx hb hr hlocks hW hO hS dL_reason_20
  · subst h0
    have hO := hO.call hw hS
    have hS := hS.mono9 (B := gW G oJ oD) (fun _ h => Or.inl h)
    refine lv_i2l (v := v.toInt64) hx hb dL_reason_8 rfl ?_
    refine ow_J hx hb hK hW hO hw hS dL_reason_9 (fun H locs hW hO hS => ?_)
    refine lv_goto (tgt := 21) hx hb dL_reason_10 (by decide) ?_
    refine lv_iconst (v := (0 : Int32)) hx hb dL_reason_21 (by decide) ?_
    exact rt_w hx hb hr hlocks hW hO hS dL_reason_22
set_option maxHeartbeats 4000000 in
theorem kw_reason {p : Program} {l : Launch} {e : Env} {R : Room} {s : State} {m : MethodId} {args : Array Value} {below : List Frame} {meth : Method} {c : Code} {H : Heap} {locs : List Loc} {cells slots : Nat} {Q : State → Prop} {cc : ByteArray} {pc nL idx : Nat} {ls : Array Slot} {rest : List Value} {G : Geo} {x y : Mem} {oJ oD : Nat} {vj : Int64} {vd : UInt64} {A0 : Nat → Prop} {p0 : Int32} {p1 : Int32} {cd : Nat} {v : Int32} {z : Mem} (hx : p.tables.exec = Jvm.exec) (hb : c.code = cc) (hml : c.maxLocals = nL) (hown : s.vm.findClass RL = some m.cls) (htg : ∀ w ∈ wsG, w.before args s = true) (hst : l.stackTraces = false) (hXt : Xt s) (hZ : Zt G s H) (hA : ∀ q, H.size ≤ q → gF G q) (hK : Kt G s) (hW : Wh G x y H) (hO : Oh G oJ oD vj vd H) (hw : Ow G oJ oD) (hS : va_S A0 s.heap H locs) (hA0 : ∀ q, gW G oJ oD q → A0 q) (h : m_X11_reason p0 p1 x = some (cd, v, z)) (hcd : cd = 0 ∨ cd = 1 ∨ cd = 5) (hlk : Cond.methodLink RL idx yL_reason ∈ wsG) (hn : ls.size = nL) (hr : (rest.map fun v => v.category).sum ≤ 8) (hR1 : 8 + 1 ≤ R.frames) (hR2 : 8 + (5 + 11) + 133 ≤ R.locals) (hf : cells + 3 ≤ R.cells ∧ slots + 18 ≤ R.slots) (hdg : decode cc pc = .ok (.invokestatic idx, 3)) (kk : ∀ (H1 : Heap) (locs1 : List Loc), Wh G z y H1 → Oh G oJ oD (if cd = 0 then v.toInt64 else vj) vd H1 → va_S A0 s.heap H1 locs1 → (∀ q : Nat, q < H.size → ¬ gW G oJ oD q → H1[q]? = H[q]?) → H.size ≤ H1.size → W p l e R s m args below meth c H1 locs1 (cells + 3) (slots + 18) Q (F0 m (pc + 3) ls (.int (kO_reason cd) :: rest))) : W p l e R s m args below meth c H locs cells slots Q (F0 m pc ls (.ref oJ :: .int p1 :: .int p0 :: .ref (gA G 14 0 0) :: rest)) := by
  refine va_calli (vx_runSW (As := [.ref (gA G 14 0 0), .int p0, .int p1, .ref oJ]) (rest := rest) ⟨hx, hb, hml, hown, htg⟩ (cL_w_reason l hst G x y oJ oD hw vj vd p0 p1 h hcd) (vx_cwSW 4 htg (gd_S hlk q908 q181 q909) rfl rfl rfl (by decide +kernel) ⟨hR1, hR2⟩) ⟨fun a U g mk q => ⟨q.1, q.2.1.calling, q.2.2.1.calling, q.2.2.2.1.calling, q.2.2.2.2.1, q.2.2.2.2.2.1, q.2.2.2.2.2.2⟩, fun U hU hW9 => ⟨rfl, hK.warm hW9, hXt.warm hW9, by rw [hU]; exact hZ.moved hW9.alike, by rw [hU]; exact hA, by rw [hU]; exact hW, by rw [hU]; exact hO⟩⟩ rfl rfl hn rfl (lv_room hr) hdg hf) hS (fun q _ h9 => hA0 q h9) (fun q h9 => hA0 q h9) ?_
  intro r9 u t H1 locs1 ht hvm hw9 hB hz1 hk1 hS1
  obtain ⟨hB1, hB2⟩ := hB
  replace hB1 : Wh G z y t.heap := hB1
  rw [ht] at hB1 hB2
  replace hw9 : r9 = kO_reason cd := hw9
  subst hw9
  exact kk H1 locs1 hB1 hB2 hS1 hk1 hz1
def kO_wouldBe (cd : Nat) : Int32 := if cd = 1 then 1 else if cd = 5 then 2 else 0
abbrev WSL_wouldBe : List Cond := .codeWith yL_wouldBe cL_wouldBe 4 (some .int) [(0, 9, 12, 13), (0, 9, 15, 39)] :: wsG
abbrev RML_wouldBe : Room := { frames := 8, cells := 3, slots := 18, locals := 132 }
set_option maxHeartbeats 4000000 in
set_option maxRecDepth 100000 in
theorem cL_w_wouldBe (l : Launch) (hst : l.stackTraces = false) (G : Geo) (x y : Mem) (oJ oD : Nat) (hw : Ow G oJ oD) (vj : Int64) (vd : UInt64) (p0 : Int32) {cd : Nat} {v : Int32} {z : Mem} (h : m_X11_wouldBe p0 x = some (cd, v, z)) (hcd : cd = 0 ∨ cd = 1 ∨ cd = 5) : Met l yL_wouldBe WSL_wouldBe RML_wouldBe (Pz G x y oJ oD vj vd [.ref (gA G 14 0 0), .int p0, .ref oJ]) (Qz G z y oJ oD (if cd = 0 then v.toInt64 else vj) vd (kO_wouldBe cd)) 3 18 (gW G oJ oD) := by
  refine va_MetW (cc := cL_wouldBe) (maxL := 4) (ret := some .int) (hh := [(0, 9, 12, 13), (0, 9, 15, 39)]) (by decide) rfl ?_
  intro p e s m args below meth c s₁ B hml hv9
  obtain ⟨rfl, hK, hXt, hZ, hA, hW, hO⟩ := hv9
  have hx := B.exec
  have hb := B.bytes
  have hr := B.returns
  have hts := atoms_spec (ws := WSL_wouldBe) B.pre
  have htg : ∀ w ∈ wsG, w.before _ s = true := fun w h => hts w (List.mem_cons_of_mem _ h)
  have hown : s.vm.findClass RL = some m.cls := findClass_of_methodNamed B.named
  have hlocks := B.notSynchronized
  have htb := vx_table (x := yL_law) B (hts _ List.mem_cons_self)
  have hS : va_S (gF G) s.heap s.heap [] := va_S.rf
  have hl := lv_entry ([.ref (gA G 14 0 0), .int p0, .ref oJ]) (n := 4) (Nat.le_of_ble_eq_true rfl)
  rw [lg_entry_eq]
  generalize (lg_sl ([.ref (gA G 14 0 0), .int p0, .ref oJ]) ++ List.replicate (4 - (lg_sl ([.ref (gA G 14 0 0), .int p0, .ref oJ])).length) Slot.unset).toArray = ls at hl ⊢
  have hl : lv_has ls 4 [(0, .ref (gA G 14 0 0)), (1, .int p0), (2, .ref oJ)] := hl
  refine lv_aload_n hx hb dL_wouldBe_0 rfl (lv_at hl 2 rfl) ?_
  refine lv_iconst (v := (0 : Int32)) hx hb dL_wouldBe_1 (by decide) ?_
  refine lv_aload_n hx hb dL_wouldBe_2 rfl (lv_at hl 0 rfl) ?_
  refine lv_iload_n hx hb dL_wouldBe_3 rfl (lv_at hl 1 rfl) ?_
  refine kx_X11_wouldBe hx hb hml hown htg hst hXt hZ hA hK hW hS h q924 hl.1 (Nat.le_of_ble_eq_true rfl) (Nat.le_of_ble_eq_true rfl) (Nat.le_of_ble_eq_true rfl) ⟨Nat.le_of_ble_eq_true rfl, Nat.le_of_ble_eq_true rfl⟩ dL_wouldBe_4 (fun hc ce q9 H locs hW hS e1 e2 e3 => ?_) (fun h0 H locs hW hS => ?_)
  · have hO := hO.call hw hS
    have hS := hS.mono9 (B := gW G oJ oD) (fun _ h => Or.inl h)
    rcases hcd with rfl | rfl | rfl
    · exact absurd rfl hc
    · refine vx_catch (E := exN 1) hown [] ⟨0, 9, 12, 13⟩ [⟨0, 9, 15, 39⟩] htb (fun z hz => ?_) (by decide) (by decide) (htg _ q183) (va_Nw.use rfl (hXt.1 _ (by decide +kernel))) e1 e2 e3 ?_
      · simp only [List.mem_cons, List.not_mem_nil, or_false] at hz
      · refine lv_astore_n (lv' := [(3, .ref q9), (0, .ref (gA G 14 0 0)), (1, .int p0), (2, .ref oJ)]) hx hb dL_wouldBe_12 rfl hl (by decide) rfl (fun ls hl => ?_)
        refine lv_iconst (v := (1 : Int32)) hx hb dL_wouldBe_13 (by decide) ?_
        exact rt_w hx hb hr hlocks hW hO hS dL_wouldBe_14
    · refine vx_catch (E := exN 5) hown [⟨0, 9, 12, 13⟩] ⟨0, 9, 15, 39⟩ [] htb (fun z hz => ?_) (by decide) (by decide) (htg _ q512) (va_Nw.use rfl (hXt.1 _ (by decide +kernel))) e1 e2 e3 ?_
      · simp only [List.mem_cons, List.not_mem_nil, or_false] at hz
        rcases hz with rfl
        · exact Or.inr ⟨by decide, "java/lang/IndexOutOfBoundsException", htg _ q183, hXt.2.2 (exN 5, "java/lang/IndexOutOfBoundsException") (by decide +kernel)⟩
      · refine lv_astore_n (lv' := [(3, .ref q9), (0, .ref (gA G 14 0 0)), (1, .int p0), (2, .ref oJ)]) hx hb dL_wouldBe_15 rfl hl (by decide) rfl (fun ls hl => ?_)
        refine lv_iconst (v := (2 : Int32)) hx hb dL_wouldBe_16 (by decide) ?_
        exact rt_w hx hb hr hlocks hW hO hS dL_wouldBe_17
  · subst h0
    have hO := hO.call hw hS
    have hS := hS.mono9 (B := gW G oJ oD) (fun _ h => Or.inl h)
    refine lv_i2l (v := v.toInt64) hx hb dL_wouldBe_7 rfl ?_
    refine ow_J hx hb hK hW hO hw hS dL_wouldBe_8 (fun H locs hW hO hS => ?_)
    refine lv_goto (tgt := 18) hx hb dL_wouldBe_9 (by decide) ?_
    refine lv_iconst (v := (0 : Int32)) hx hb dL_wouldBe_18 (by decide) ?_
    exact rt_w hx hb hr hlocks hW hO hS dL_wouldBe_19
set_option maxHeartbeats 4000000 in
theorem kw_wouldBe {p : Program} {l : Launch} {e : Env} {R : Room} {s : State} {m : MethodId} {args : Array Value} {below : List Frame} {meth : Method} {c : Code} {H : Heap} {locs : List Loc} {cells slots : Nat} {Q : State → Prop} {cc : ByteArray} {pc nL idx : Nat} {ls : Array Slot} {rest : List Value} {G : Geo} {x y : Mem} {oJ oD : Nat} {vj : Int64} {vd : UInt64} {A0 : Nat → Prop} {p0 : Int32} {cd : Nat} {v : Int32} {z : Mem} (hx : p.tables.exec = Jvm.exec) (hb : c.code = cc) (hml : c.maxLocals = nL) (hown : s.vm.findClass RL = some m.cls) (htg : ∀ w ∈ wsG, w.before args s = true) (hst : l.stackTraces = false) (hXt : Xt s) (hZ : Zt G s H) (hA : ∀ q, H.size ≤ q → gF G q) (hK : Kt G s) (hW : Wh G x y H) (hO : Oh G oJ oD vj vd H) (hw : Ow G oJ oD) (hS : va_S A0 s.heap H locs) (hA0 : ∀ q, gW G oJ oD q → A0 q) (h : m_X11_wouldBe p0 x = some (cd, v, z)) (hcd : cd = 0 ∨ cd = 1 ∨ cd = 5) (hlk : Cond.methodLink RL idx yL_wouldBe ∈ wsG) (hn : ls.size = nL) (hr : (rest.map fun v => v.category).sum ≤ 8) (hR1 : 8 + 1 ≤ R.frames) (hR2 : 8 + (4 + 11) + 132 ≤ R.locals) (hf : cells + 3 ≤ R.cells ∧ slots + 18 ≤ R.slots) (hdg : decode cc pc = .ok (.invokestatic idx, 3)) (kk : ∀ (H1 : Heap) (locs1 : List Loc), Wh G z y H1 → Oh G oJ oD (if cd = 0 then v.toInt64 else vj) vd H1 → va_S A0 s.heap H1 locs1 → (∀ q : Nat, q < H.size → ¬ gW G oJ oD q → H1[q]? = H[q]?) → H.size ≤ H1.size → W p l e R s m args below meth c H1 locs1 (cells + 3) (slots + 18) Q (F0 m (pc + 3) ls (.int (kO_wouldBe cd) :: rest))) : W p l e R s m args below meth c H locs cells slots Q (F0 m pc ls (.ref oJ :: .int p0 :: .ref (gA G 14 0 0) :: rest)) := by
  refine va_calli (vx_runSW (As := [.ref (gA G 14 0 0), .int p0, .ref oJ]) (rest := rest) ⟨hx, hb, hml, hown, htg⟩ (cL_w_wouldBe l hst G x y oJ oD hw vj vd p0 h hcd) (vx_cwSW 3 htg (gd_S hlk q922 q181 q923) rfl rfl rfl (by decide +kernel) ⟨hR1, hR2⟩) ⟨fun a U g mk q => ⟨q.1, q.2.1.calling, q.2.2.1.calling, q.2.2.2.1.calling, q.2.2.2.2.1, q.2.2.2.2.2.1, q.2.2.2.2.2.2⟩, fun U hU hW9 => ⟨rfl, hK.warm hW9, hXt.warm hW9, by rw [hU]; exact hZ.moved hW9.alike, by rw [hU]; exact hA, by rw [hU]; exact hW, by rw [hU]; exact hO⟩⟩ rfl rfl hn rfl (lv_room hr) hdg hf) hS (fun q _ h9 => hA0 q h9) (fun q h9 => hA0 q h9) ?_
  intro r9 u t H1 locs1 ht hvm hw9 hB hz1 hk1 hS1
  obtain ⟨hB1, hB2⟩ := hB
  replace hB1 : Wh G z y t.heap := hB1
  rw [ht] at hB1 hB2
  replace hw9 : r9 = kO_wouldBe cd := hw9
  subst hw9
  exact kk H1 locs1 hB1 hB2 hS1 hk1 hz1
def kO_endsAfter (cd : Nat) : Int32 := if cd = 1 then 1 else if cd = 5 then 2 else 0
abbrev WSL_endsAfter : List Cond := .codeWith yL_endsAfter cL_endsAfter 4 (some .int) [(0, 9, 12, 13), (0, 9, 15, 39)] :: wsG
abbrev RML_endsAfter : Room := { frames := 8, cells := 3, slots := 18, locals := 144 }
set_option maxHeartbeats 4000000 in
set_option maxRecDepth 100000 in
theorem cL_w_endsAfter (l : Launch) (hst : l.stackTraces = false) (G : Geo) (x y : Mem) (oJ oD : Nat) (hw : Ow G oJ oD) (vj : Int64) (vd : UInt64) (p0 : Int32) {cd : Nat} {v : Int32} {z : Mem} (h : m_X11_endsAfter p0 x = some (cd, v, z)) (hcd : cd = 0 ∨ cd = 1 ∨ cd = 5) : Met l yL_endsAfter WSL_endsAfter RML_endsAfter (Pz G x y oJ oD vj vd [.ref (gA G 14 0 0), .int p0, .ref oJ]) (Qz G z y oJ oD (if cd = 0 then v.toInt64 else vj) vd (kO_endsAfter cd)) 3 18 (gW G oJ oD) := by
  refine va_MetW (cc := cL_endsAfter) (maxL := 4) (ret := some .int) (hh := [(0, 9, 12, 13), (0, 9, 15, 39)]) (by decide) rfl ?_
  intro p e s m args below meth c s₁ B hml hv9
  obtain ⟨rfl, hK, hXt, hZ, hA, hW, hO⟩ := hv9
  have hx := B.exec
  have hb := B.bytes
  have hr := B.returns
  have hts := atoms_spec (ws := WSL_endsAfter) B.pre
  have htg : ∀ w ∈ wsG, w.before _ s = true := fun w h => hts w (List.mem_cons_of_mem _ h)
  have hown : s.vm.findClass RL = some m.cls := findClass_of_methodNamed B.named
  have hlocks := B.notSynchronized
  have htb := vx_table (x := yL_law) B (hts _ List.mem_cons_self)
  have hS : va_S (gF G) s.heap s.heap [] := va_S.rf
  have hl := lv_entry ([.ref (gA G 14 0 0), .int p0, .ref oJ]) (n := 4) (Nat.le_of_ble_eq_true rfl)
  rw [lg_entry_eq]
  generalize (lg_sl ([.ref (gA G 14 0 0), .int p0, .ref oJ]) ++ List.replicate (4 - (lg_sl ([.ref (gA G 14 0 0), .int p0, .ref oJ])).length) Slot.unset).toArray = ls at hl ⊢
  have hl : lv_has ls 4 [(0, .ref (gA G 14 0 0)), (1, .int p0), (2, .ref oJ)] := hl
  refine lv_aload_n hx hb dL_endsAfter_0 rfl (lv_at hl 2 rfl) ?_
  refine lv_iconst (v := (0 : Int32)) hx hb dL_endsAfter_1 (by decide) ?_
  refine lv_aload_n hx hb dL_endsAfter_2 rfl (lv_at hl 0 rfl) ?_
  refine lv_iload_n hx hb dL_endsAfter_3 rfl (lv_at hl 1 rfl) ?_
  refine kx_X11_endsAfter hx hb hml hown htg hst hXt hZ hA hK hW hS h q938 hl.1 (Nat.le_of_ble_eq_true rfl) (Nat.le_of_ble_eq_true rfl) (Nat.le_of_ble_eq_true rfl) ⟨Nat.le_of_ble_eq_true rfl, Nat.le_of_ble_eq_true rfl⟩ dL_endsAfter_4 (fun hc ce q9 H locs hW hS e1 e2 e3 => ?_) (fun h0 H locs hW hS => ?_)
  · have hO := hO.call hw hS
    have hS := hS.mono9 (B := gW G oJ oD) (fun _ h => Or.inl h)
    rcases hcd with rfl | rfl | rfl
    · exact absurd rfl hc
    · refine vx_catch (E := exN 1) hown [] ⟨0, 9, 12, 13⟩ [⟨0, 9, 15, 39⟩] htb (fun z hz => ?_) (by decide) (by decide) (htg _ q183) (va_Nw.use rfl (hXt.1 _ (by decide +kernel))) e1 e2 e3 ?_
      · simp only [List.mem_cons, List.not_mem_nil, or_false] at hz
      · refine lv_astore_n (lv' := [(3, .ref q9), (0, .ref (gA G 14 0 0)), (1, .int p0), (2, .ref oJ)]) hx hb dL_endsAfter_12 rfl hl (by decide) rfl (fun ls hl => ?_)
        refine lv_iconst (v := (1 : Int32)) hx hb dL_endsAfter_13 (by decide) ?_
        exact rt_w hx hb hr hlocks hW hO hS dL_endsAfter_14
    · refine vx_catch (E := exN 5) hown [⟨0, 9, 12, 13⟩] ⟨0, 9, 15, 39⟩ [] htb (fun z hz => ?_) (by decide) (by decide) (htg _ q512) (va_Nw.use rfl (hXt.1 _ (by decide +kernel))) e1 e2 e3 ?_
      · simp only [List.mem_cons, List.not_mem_nil, or_false] at hz
        rcases hz with rfl
        · exact Or.inr ⟨by decide, "java/lang/IndexOutOfBoundsException", htg _ q183, hXt.2.2 (exN 5, "java/lang/IndexOutOfBoundsException") (by decide +kernel)⟩
      · refine lv_astore_n (lv' := [(3, .ref q9), (0, .ref (gA G 14 0 0)), (1, .int p0), (2, .ref oJ)]) hx hb dL_endsAfter_15 rfl hl (by decide) rfl (fun ls hl => ?_)
        refine lv_iconst (v := (2 : Int32)) hx hb dL_endsAfter_16 (by decide) ?_
        exact rt_w hx hb hr hlocks hW hO hS dL_endsAfter_17
  · subst h0
    have hO := hO.call hw hS
    have hS := hS.mono9 (B := gW G oJ oD) (fun _ h => Or.inl h)
    refine lv_i2l (v := v.toInt64) hx hb dL_endsAfter_7 rfl ?_
    refine ow_J hx hb hK hW hO hw hS dL_endsAfter_8 (fun H locs hW hO hS => ?_)
    refine lv_goto (tgt := 18) hx hb dL_endsAfter_9 (by decide) ?_
    refine lv_iconst (v := (0 : Int32)) hx hb dL_endsAfter_18 (by decide) ?_
    exact rt_w hx hb hr hlocks hW hO hS dL_endsAfter_19
set_option maxHeartbeats 4000000 in
theorem kw_endsAfter {p : Program} {l : Launch} {e : Env} {R : Room} {s : State} {m : MethodId} {args : Array Value} {below : List Frame} {meth : Method} {c : Code} {H : Heap} {locs : List Loc} {cells slots : Nat} {Q : State → Prop} {cc : ByteArray} {pc nL idx : Nat} {ls : Array Slot} {rest : List Value} {G : Geo} {x y : Mem} {oJ oD : Nat} {vj : Int64} {vd : UInt64} {A0 : Nat → Prop} {p0 : Int32} {cd : Nat} {v : Int32} {z : Mem} (hx : p.tables.exec = Jvm.exec) (hb : c.code = cc) (hml : c.maxLocals = nL) (hown : s.vm.findClass RL = some m.cls) (htg : ∀ w ∈ wsG, w.before args s = true) (hst : l.stackTraces = false) (hXt : Xt s) (hZ : Zt G s H) (hA : ∀ q, H.size ≤ q → gF G q) (hK : Kt G s) (hW : Wh G x y H) (hO : Oh G oJ oD vj vd H) (hw : Ow G oJ oD) (hS : va_S A0 s.heap H locs) (hA0 : ∀ q, gW G oJ oD q → A0 q) (h : m_X11_endsAfter p0 x = some (cd, v, z)) (hcd : cd = 0 ∨ cd = 1 ∨ cd = 5) (hlk : Cond.methodLink RL idx yL_endsAfter ∈ wsG) (hn : ls.size = nL) (hr : (rest.map fun v => v.category).sum ≤ 8) (hR1 : 8 + 1 ≤ R.frames) (hR2 : 8 + (4 + 11) + 144 ≤ R.locals) (hf : cells + 3 ≤ R.cells ∧ slots + 18 ≤ R.slots) (hdg : decode cc pc = .ok (.invokestatic idx, 3)) (kk : ∀ (H1 : Heap) (locs1 : List Loc), Wh G z y H1 → Oh G oJ oD (if cd = 0 then v.toInt64 else vj) vd H1 → va_S A0 s.heap H1 locs1 → (∀ q : Nat, q < H.size → ¬ gW G oJ oD q → H1[q]? = H[q]?) → H.size ≤ H1.size → W p l e R s m args below meth c H1 locs1 (cells + 3) (slots + 18) Q (F0 m (pc + 3) ls (.int (kO_endsAfter cd) :: rest))) : W p l e R s m args below meth c H locs cells slots Q (F0 m pc ls (.ref oJ :: .int p0 :: .ref (gA G 14 0 0) :: rest)) := by
  refine va_calli (vx_runSW (As := [.ref (gA G 14 0 0), .int p0, .ref oJ]) (rest := rest) ⟨hx, hb, hml, hown, htg⟩ (cL_w_endsAfter l hst G x y oJ oD hw vj vd p0 h hcd) (vx_cwSW 3 htg (gd_S hlk q936 q181 q937) rfl rfl rfl (by decide +kernel) ⟨hR1, hR2⟩) ⟨fun a U g mk q => ⟨q.1, q.2.1.calling, q.2.2.1.calling, q.2.2.2.1.calling, q.2.2.2.2.1, q.2.2.2.2.2.1, q.2.2.2.2.2.2⟩, fun U hU hW9 => ⟨rfl, hK.warm hW9, hXt.warm hW9, by rw [hU]; exact hZ.moved hW9.alike, by rw [hU]; exact hA, by rw [hU]; exact hW, by rw [hU]; exact hO⟩⟩ rfl rfl hn rfl (lv_room hr) hdg hf) hS (fun q _ h9 => hA0 q h9) (fun q h9 => hA0 q h9) ?_
  intro r9 u t H1 locs1 ht hvm hw9 hB hz1 hk1 hS1
  obtain ⟨hB1, hB2⟩ := hB
  replace hB1 : Wh G z y t.heap := hB1
  rw [ht] at hB1 hB2
  replace hw9 : r9 = kO_endsAfter cd := hw9
  subst hw9
  exact kk H1 locs1 hB1 hB2 hS1 hk1 hz1
def kO_idleAfter (cd : Nat) : Int32 := if cd = 5 then 1 else 0
abbrev WSL_idleAfter : List Cond := .codeWith yL_idleAfter cL_idleAfter 3 (some .int) [(0, 8, 11, 39)] :: wsG
abbrev RML_idleAfter : Room := { frames := 7, cells := 3, slots := 18, locals := 142 }
set_option maxHeartbeats 4000000 in
set_option maxRecDepth 100000 in
theorem cL_w_idleAfter (l : Launch) (hst : l.stackTraces = false) (G : Geo) (x y : Mem) (oJ oD : Nat) (hw : Ow G oJ oD) (vj : Int64) (vd : UInt64) {cd : Nat} {v : Int32} {z : Mem} (h : m_X11_idleAfter x = some (cd, v, z)) (hcd : cd = 0 ∨ cd = 5) : Met l yL_idleAfter WSL_idleAfter RML_idleAfter (Pz G x y oJ oD vj vd [.ref (gA G 14 0 0), .ref oJ]) (Qz G z y oJ oD (if cd = 0 then v.toInt64 else vj) vd (kO_idleAfter cd)) 3 18 (gW G oJ oD) := by
  refine va_MetW (cc := cL_idleAfter) (maxL := 3) (ret := some .int) (hh := [(0, 8, 11, 39)]) (by decide) rfl ?_
  intro p e s m args below meth c s₁ B hml hv9
  obtain ⟨rfl, hK, hXt, hZ, hA, hW, hO⟩ := hv9
  have hx := B.exec
  have hb := B.bytes
  have hr := B.returns
  have hts := atoms_spec (ws := WSL_idleAfter) B.pre
  have htg : ∀ w ∈ wsG, w.before _ s = true := fun w h => hts w (List.mem_cons_of_mem _ h)
  have hown : s.vm.findClass RL = some m.cls := findClass_of_methodNamed B.named
  have hlocks := B.notSynchronized
  have htb := vx_table (x := yL_law) B (hts _ List.mem_cons_self)
  have hS : va_S (gF G) s.heap s.heap [] := va_S.rf
  have hl := lv_entry ([.ref (gA G 14 0 0), .ref oJ]) (n := 3) (Nat.le_of_ble_eq_true rfl)
  rw [lg_entry_eq]
  generalize (lg_sl ([.ref (gA G 14 0 0), .ref oJ]) ++ List.replicate (3 - (lg_sl ([.ref (gA G 14 0 0), .ref oJ])).length) Slot.unset).toArray = ls at hl ⊢
  have hl : lv_has ls 3 [(0, .ref (gA G 14 0 0)), (1, .ref oJ)] := hl
  refine lv_aload_n hx hb dL_idleAfter_0 rfl (lv_at hl 1 rfl) ?_
  refine lv_iconst (v := (0 : Int32)) hx hb dL_idleAfter_1 (by decide) ?_
  refine lv_aload_n hx hb dL_idleAfter_2 rfl (lv_at hl 0 rfl) ?_
  refine kx_X11_idleAfter hx hb hml hown htg hst hXt hZ hA hK hW hS h q959 hl.1 (Nat.le_of_ble_eq_true rfl) (Nat.le_of_ble_eq_true rfl) (Nat.le_of_ble_eq_true rfl) ⟨Nat.le_of_ble_eq_true rfl, Nat.le_of_ble_eq_true rfl⟩ dL_idleAfter_3 (fun hc ce q9 H locs hW hS e1 e2 e3 => ?_) (fun h0 H locs hW hS => ?_)
  · have hO := hO.call hw hS
    have hS := hS.mono9 (B := gW G oJ oD) (fun _ h => Or.inl h)
    rcases hcd with rfl | rfl
    · exact absurd rfl hc
    · refine vx_catch (E := exN 5) hown [] ⟨0, 8, 11, 39⟩ [] htb (fun z hz => ?_) (by decide) (by decide) (htg _ q512) (va_Nw.use rfl (hXt.1 _ (by decide +kernel))) e1 e2 e3 ?_
      · simp only [List.mem_cons, List.not_mem_nil, or_false] at hz
      · refine lv_astore_n (lv' := [(2, .ref q9), (0, .ref (gA G 14 0 0)), (1, .ref oJ)]) hx hb dL_idleAfter_11 rfl hl (by decide) rfl (fun ls hl => ?_)
        refine lv_iconst (v := (1 : Int32)) hx hb dL_idleAfter_12 (by decide) ?_
        exact rt_w hx hb hr hlocks hW hO hS dL_idleAfter_13
  · subst h0
    have hO := hO.call hw hS
    have hS := hS.mono9 (B := gW G oJ oD) (fun _ h => Or.inl h)
    refine lv_i2l (v := v.toInt64) hx hb dL_idleAfter_6 rfl ?_
    refine ow_J hx hb hK hW hO hw hS dL_idleAfter_7 (fun H locs hW hO hS => ?_)
    refine lv_goto (tgt := 14) hx hb dL_idleAfter_8 (by decide) ?_
    refine lv_iconst (v := (0 : Int32)) hx hb dL_idleAfter_14 (by decide) ?_
    exact rt_w hx hb hr hlocks hW hO hS dL_idleAfter_15
set_option maxHeartbeats 4000000 in
theorem kw_idleAfter {p : Program} {l : Launch} {e : Env} {R : Room} {s : State} {m : MethodId} {args : Array Value} {below : List Frame} {meth : Method} {c : Code} {H : Heap} {locs : List Loc} {cells slots : Nat} {Q : State → Prop} {cc : ByteArray} {pc nL idx : Nat} {ls : Array Slot} {rest : List Value} {G : Geo} {x y : Mem} {oJ oD : Nat} {vj : Int64} {vd : UInt64} {A0 : Nat → Prop} {cd : Nat} {v : Int32} {z : Mem} (hx : p.tables.exec = Jvm.exec) (hb : c.code = cc) (hml : c.maxLocals = nL) (hown : s.vm.findClass RL = some m.cls) (htg : ∀ w ∈ wsG, w.before args s = true) (hst : l.stackTraces = false) (hXt : Xt s) (hZ : Zt G s H) (hA : ∀ q, H.size ≤ q → gF G q) (hK : Kt G s) (hW : Wh G x y H) (hO : Oh G oJ oD vj vd H) (hw : Ow G oJ oD) (hS : va_S A0 s.heap H locs) (hA0 : ∀ q, gW G oJ oD q → A0 q) (h : m_X11_idleAfter x = some (cd, v, z)) (hcd : cd = 0 ∨ cd = 5) (hlk : Cond.methodLink RL idx yL_idleAfter ∈ wsG) (hn : ls.size = nL) (hr : (rest.map fun v => v.category).sum ≤ 8) (hR1 : 7 + 1 ≤ R.frames) (hR2 : 8 + (3 + 11) + 142 ≤ R.locals) (hf : cells + 3 ≤ R.cells ∧ slots + 18 ≤ R.slots) (hdg : decode cc pc = .ok (.invokestatic idx, 3)) (kk : ∀ (H1 : Heap) (locs1 : List Loc), Wh G z y H1 → Oh G oJ oD (if cd = 0 then v.toInt64 else vj) vd H1 → va_S A0 s.heap H1 locs1 → (∀ q : Nat, q < H.size → ¬ gW G oJ oD q → H1[q]? = H[q]?) → H.size ≤ H1.size → W p l e R s m args below meth c H1 locs1 (cells + 3) (slots + 18) Q (F0 m (pc + 3) ls (.int (kO_idleAfter cd) :: rest))) : W p l e R s m args below meth c H locs cells slots Q (F0 m pc ls (.ref oJ :: .ref (gA G 14 0 0) :: rest)) := by
  refine va_calli (vx_runSW (As := [.ref (gA G 14 0 0), .ref oJ]) (rest := rest) ⟨hx, hb, hml, hown, htg⟩ (cL_w_idleAfter l hst G x y oJ oD hw vj vd h hcd) (vx_cwSW 2 htg (gd_S hlk q957 q181 q958) rfl rfl rfl (by decide +kernel) ⟨hR1, hR2⟩) ⟨fun a U g mk q => ⟨q.1, q.2.1.calling, q.2.2.1.calling, q.2.2.2.1.calling, q.2.2.2.2.1, q.2.2.2.2.2.1, q.2.2.2.2.2.2⟩, fun U hU hW9 => ⟨rfl, hK.warm hW9, hXt.warm hW9, by rw [hU]; exact hZ.moved hW9.alike, by rw [hU]; exact hA, by rw [hU]; exact hW, by rw [hU]; exact hO⟩⟩ rfl rfl hn rfl (lv_room hr) hdg hf) hS (fun q _ h9 => hA0 q h9) (fun q h9 => hA0 q h9) ?_
  intro r9 u t H1 locs1 ht hvm hw9 hB hz1 hk1 hS1
  obtain ⟨hB1, hB2⟩ := hB
  replace hB1 : Wh G z y t.heap := hB1
  rw [ht] at hB1 hB2
  replace hw9 : r9 = kO_idleAfter cd := hw9
  subst hw9
  exact kk H1 locs1 hB1 hB2 hS1 hk1 hz1
def kO_entry (cd : Nat) : Int32 := if cd = 1 then 1 else if cd = 2 then 2 else 0
abbrev WSL_entry : List Cond := .codeWith yL_entry cL_entry 5 (some .int) [(0, 10, 13, 13), (0, 10, 17, 15)] :: wsG
abbrev RML_entry : Room := { frames := 8, cells := 3, slots := 18, locals := 133 }
set_option maxHeartbeats 4000000 in
set_option maxRecDepth 100000 in
theorem cL_w_entry (l : Launch) (hst : l.stackTraces = false) (G : Geo) (x y : Mem) (oJ oD : Nat) (hw : Ow G oJ oD) (vj : Int64) (vd : UInt64) (p0 : Int32) (p1 : Int32) {cd : Nat} {v : Int32} {z : Mem} (h : m_X11_entry p0 p1 x = some (cd, v, z)) (hcd : cd = 0 ∨ cd = 1 ∨ cd = 2) : Met l yL_entry WSL_entry RML_entry (Pz G x y oJ oD vj vd [.ref (gA G 14 0 0), .int p0, .int p1, .ref oJ]) (Qz G z y oJ oD (if cd = 0 then v.toInt64 else vj) vd (kO_entry cd)) 3 18 (gW G oJ oD) := by
  refine va_MetW (cc := cL_entry) (maxL := 5) (ret := some .int) (hh := [(0, 10, 13, 13), (0, 10, 17, 15)]) (by decide) rfl ?_
  intro p e s m args below meth c s₁ B hml hv9
  obtain ⟨rfl, hK, hXt, hZ, hA, hW, hO⟩ := hv9
  have hx := B.exec
  have hb := B.bytes
  have hr := B.returns
  have hts := atoms_spec (ws := WSL_entry) B.pre
  have htg : ∀ w ∈ wsG, w.before _ s = true := fun w h => hts w (List.mem_cons_of_mem _ h)
  have hown : s.vm.findClass RL = some m.cls := findClass_of_methodNamed B.named
  have hlocks := B.notSynchronized
  have htb := vx_table (x := yL_law) B (hts _ List.mem_cons_self)
  have hS : va_S (gF G) s.heap s.heap [] := va_S.rf
  have hl := lv_entry ([.ref (gA G 14 0 0), .int p0, .int p1, .ref oJ]) (n := 5) (Nat.le_of_ble_eq_true rfl)
  rw [lg_entry_eq]
  generalize (lg_sl ([.ref (gA G 14 0 0), .int p0, .int p1, .ref oJ]) ++ List.replicate (5 - (lg_sl ([.ref (gA G 14 0 0), .int p0, .int p1, .ref oJ])).length) Slot.unset).toArray = ls at hl ⊢
  have hl : lv_has ls 5 [(0, .ref (gA G 14 0 0)), (1, .int p0), (2, .int p1), (3, .ref oJ)] := hl
  refine lv_aload_n hx hb dL_entry_0 rfl (lv_at hl 3 rfl) ?_
  refine lv_iconst (v := (0 : Int32)) hx hb dL_entry_1 (by decide) ?_
  refine lv_aload_n hx hb dL_entry_2 rfl (lv_at hl 0 rfl) ?_
  refine lv_iload_n hx hb dL_entry_3 rfl (lv_at hl 1 rfl) ?_
  refine lv_iload_n hx hb dL_entry_4 rfl (lv_at hl 2 rfl) ?_
  refine kx_X11_entry hx hb hml hown htg hst hXt hZ hA hK hW hS h q986 hl.1 (Nat.le_of_ble_eq_true rfl) (Nat.le_of_ble_eq_true rfl) (Nat.le_of_ble_eq_true rfl) ⟨Nat.le_of_ble_eq_true rfl, Nat.le_of_ble_eq_true rfl⟩ dL_entry_5 (fun hc ce q9 H locs hW hS e1 e2 e3 => ?_) (fun h0 H locs hW hS => ?_)
  · have hO := hO.call hw hS
    have hS := hS.mono9 (B := gW G oJ oD) (fun _ h => Or.inl h)
    rcases hcd with rfl | rfl | rfl
    · exact absurd rfl hc
    · refine vx_catch (E := exN 1) hown [] ⟨0, 10, 13, 13⟩ [⟨0, 10, 17, 15⟩] htb (fun z hz => ?_) (by decide) (by decide) (htg _ q183) (va_Nw.use rfl (hXt.1 _ (by decide +kernel))) e1 e2 e3 ?_
      · simp only [List.mem_cons, List.not_mem_nil, or_false] at hz
      · refine lv_astore (lv' := [(4, .ref q9), (0, .ref (gA G 14 0 0)), (1, .int p0), (2, .int p1), (3, .ref oJ)]) hx hb dL_entry_13 hl (by decide) rfl (fun ls hl => ?_)
        refine lv_iconst (v := (1 : Int32)) hx hb dL_entry_15 (by decide) ?_
        exact rt_w hx hb hr hlocks hW hO hS dL_entry_16
    · refine vx_catch (E := exN 2) hown [⟨0, 10, 13, 13⟩] ⟨0, 10, 17, 15⟩ [] htb (fun z hz => ?_) (by decide) (by decide) (htg _ q184) (va_Nw.use rfl (hXt.1 _ (by decide +kernel))) e1 e2 e3 ?_
      · simp only [List.mem_cons, List.not_mem_nil, or_false] at hz
        rcases hz with rfl
        · exact Or.inr ⟨by decide, "java/lang/IndexOutOfBoundsException", htg _ q183, hXt.2.2 (exN 2, "java/lang/IndexOutOfBoundsException") (by decide +kernel)⟩
      · refine lv_astore (lv' := [(4, .ref q9), (0, .ref (gA G 14 0 0)), (1, .int p0), (2, .int p1), (3, .ref oJ)]) hx hb dL_entry_17 hl (by decide) rfl (fun ls hl => ?_)
        refine lv_iconst (v := (2 : Int32)) hx hb dL_entry_19 (by decide) ?_
        exact rt_w hx hb hr hlocks hW hO hS dL_entry_20
  · subst h0
    have hO := hO.call hw hS
    have hS := hS.mono9 (B := gW G oJ oD) (fun _ h => Or.inl h)
    refine lv_i2l (v := v.toInt64) hx hb dL_entry_8 rfl ?_
    refine ow_J hx hb hK hW hO hw hS dL_entry_9 (fun H locs hW hO hS => ?_)
    refine lv_goto (tgt := 21) hx hb dL_entry_10 (by decide) ?_
    refine lv_iconst (v := (0 : Int32)) hx hb dL_entry_21 (by decide) ?_
    exact rt_w hx hb hr hlocks hW hO hS dL_entry_22
set_option maxHeartbeats 4000000 in
theorem kw_entry {p : Program} {l : Launch} {e : Env} {R : Room} {s : State} {m : MethodId} {args : Array Value} {below : List Frame} {meth : Method} {c : Code} {H : Heap} {locs : List Loc} {cells slots : Nat} {Q : State → Prop} {cc : ByteArray} {pc nL idx : Nat} {ls : Array Slot} {rest : List Value} {G : Geo} {x y : Mem} {oJ oD : Nat} {vj : Int64} {vd : UInt64} {A0 : Nat → Prop} {p0 : Int32} {p1 : Int32} {cd : Nat} {v : Int32} {z : Mem} (hx : p.tables.exec = Jvm.exec) (hb : c.code = cc) (hml : c.maxLocals = nL) (hown : s.vm.findClass RL = some m.cls) (htg : ∀ w ∈ wsG, w.before args s = true) (hst : l.stackTraces = false) (hXt : Xt s) (hZ : Zt G s H) (hA : ∀ q, H.size ≤ q → gF G q) (hK : Kt G s) (hW : Wh G x y H) (hO : Oh G oJ oD vj vd H) (hw : Ow G oJ oD) (hS : va_S A0 s.heap H locs) (hA0 : ∀ q, gW G oJ oD q → A0 q) (h : m_X11_entry p0 p1 x = some (cd, v, z)) (hcd : cd = 0 ∨ cd = 1 ∨ cd = 2) (hlk : Cond.methodLink RL idx yL_entry ∈ wsG) (hn : ls.size = nL) (hr : (rest.map fun v => v.category).sum ≤ 8) (hR1 : 8 + 1 ≤ R.frames) (hR2 : 8 + (5 + 11) + 133 ≤ R.locals) (hf : cells + 3 ≤ R.cells ∧ slots + 18 ≤ R.slots) (hdg : decode cc pc = .ok (.invokestatic idx, 3)) (kk : ∀ (H1 : Heap) (locs1 : List Loc), Wh G z y H1 → Oh G oJ oD (if cd = 0 then v.toInt64 else vj) vd H1 → va_S A0 s.heap H1 locs1 → (∀ q : Nat, q < H.size → ¬ gW G oJ oD q → H1[q]? = H[q]?) → H.size ≤ H1.size → W p l e R s m args below meth c H1 locs1 (cells + 3) (slots + 18) Q (F0 m (pc + 3) ls (.int (kO_entry cd) :: rest))) : W p l e R s m args below meth c H locs cells slots Q (F0 m pc ls (.ref oJ :: .int p1 :: .int p0 :: .ref (gA G 14 0 0) :: rest)) := by
  refine va_calli (vx_runSW (As := [.ref (gA G 14 0 0), .int p0, .int p1, .ref oJ]) (rest := rest) ⟨hx, hb, hml, hown, htg⟩ (cL_w_entry l hst G x y oJ oD hw vj vd p0 p1 h hcd) (vx_cwSW 4 htg (gd_S hlk q984 q181 q985) rfl rfl rfl (by decide +kernel) ⟨hR1, hR2⟩) ⟨fun a U g mk q => ⟨q.1, q.2.1.calling, q.2.2.1.calling, q.2.2.2.1.calling, q.2.2.2.2.1, q.2.2.2.2.2.1, q.2.2.2.2.2.2⟩, fun U hU hW9 => ⟨rfl, hK.warm hW9, hXt.warm hW9, by rw [hU]; exact hZ.moved hW9.alike, by rw [hU]; exact hA, by rw [hU]; exact hW, by rw [hU]; exact hO⟩⟩ rfl rfl hn rfl (lv_room hr) hdg hf) hS (fun q _ h9 => hA0 q h9) (fun q h9 => hA0 q h9) ?_
  intro r9 u t H1 locs1 ht hvm hw9 hB hz1 hk1 hS1
  obtain ⟨hB1, hB2⟩ := hB
  replace hB1 : Wh G z y t.heap := hB1
  rw [ht] at hB1 hB2
  replace hw9 : r9 = kO_entry cd := hw9
  subst hw9
  exact kk H1 locs1 hB1 hB2 hS1 hk1 hz1
def kO_account (cd : Nat) : Int32 := if cd = 2 then 1 else 0
abbrev WSL_account : List Cond := .codeWith yL_account cL_account 4 (some .int) [(0, 9, 12, 15)] :: wsG
abbrev RML_account : Room := { frames := 8, cells := 3, slots := 18, locals := 132 }
set_option maxHeartbeats 4000000 in
set_option maxRecDepth 100000 in
theorem cL_w_account (l : Launch) (hst : l.stackTraces = false) (G : Geo) (x y : Mem) (oJ oD : Nat) (hw : Ow G oJ oD) (vj : Int64) (vd : UInt64) (p0 : Int32) {cd : Nat} {v : Int32} {z : Mem} (h : m_X11_account p0 x = some (cd, v, z)) (hcd : cd = 0 ∨ cd = 2) : Met l yL_account WSL_account RML_account (Pz G x y oJ oD vj vd [.ref (gA G 14 0 0), .int p0, .ref oJ]) (Qz G z y oJ oD (if cd = 0 then v.toInt64 else vj) vd (kO_account cd)) 3 18 (gW G oJ oD) := by
  refine va_MetW (cc := cL_account) (maxL := 4) (ret := some .int) (hh := [(0, 9, 12, 15)]) (by decide) rfl ?_
  intro p e s m args below meth c s₁ B hml hv9
  obtain ⟨rfl, hK, hXt, hZ, hA, hW, hO⟩ := hv9
  have hx := B.exec
  have hb := B.bytes
  have hr := B.returns
  have hts := atoms_spec (ws := WSL_account) B.pre
  have htg : ∀ w ∈ wsG, w.before _ s = true := fun w h => hts w (List.mem_cons_of_mem _ h)
  have hown : s.vm.findClass RL = some m.cls := findClass_of_methodNamed B.named
  have hlocks := B.notSynchronized
  have htb := vx_table (x := yL_law) B (hts _ List.mem_cons_self)
  have hS : va_S (gF G) s.heap s.heap [] := va_S.rf
  have hl := lv_entry ([.ref (gA G 14 0 0), .int p0, .ref oJ]) (n := 4) (Nat.le_of_ble_eq_true rfl)
  rw [lg_entry_eq]
  generalize (lg_sl ([.ref (gA G 14 0 0), .int p0, .ref oJ]) ++ List.replicate (4 - (lg_sl ([.ref (gA G 14 0 0), .int p0, .ref oJ])).length) Slot.unset).toArray = ls at hl ⊢
  have hl : lv_has ls 4 [(0, .ref (gA G 14 0 0)), (1, .int p0), (2, .ref oJ)] := hl
  refine lv_aload_n hx hb dL_account_0 rfl (lv_at hl 2 rfl) ?_
  refine lv_iconst (v := (0 : Int32)) hx hb dL_account_1 (by decide) ?_
  refine lv_aload_n hx hb dL_account_2 rfl (lv_at hl 0 rfl) ?_
  refine lv_iload_n hx hb dL_account_3 rfl (lv_at hl 1 rfl) ?_
  refine kx_X11_account hx hb hml hown htg hst hXt hZ hA hK hW hS h q1007 hl.1 (Nat.le_of_ble_eq_true rfl) (Nat.le_of_ble_eq_true rfl) (Nat.le_of_ble_eq_true rfl) ⟨Nat.le_of_ble_eq_true rfl, Nat.le_of_ble_eq_true rfl⟩ dL_account_4 (fun hc ce q9 H locs hW hS e1 e2 e3 => ?_) (fun h0 H locs hW hS => ?_)
  · have hO := hO.call hw hS
    have hS := hS.mono9 (B := gW G oJ oD) (fun _ h => Or.inl h)
    rcases hcd with rfl | rfl
    · exact absurd rfl hc
    · refine vx_catch (E := exN 2) hown [] ⟨0, 9, 12, 15⟩ [] htb (fun z hz => ?_) (by decide) (by decide) (htg _ q184) (va_Nw.use rfl (hXt.1 _ (by decide +kernel))) e1 e2 e3 ?_
      · simp only [List.mem_cons, List.not_mem_nil, or_false] at hz
      · refine lv_astore_n (lv' := [(3, .ref q9), (0, .ref (gA G 14 0 0)), (1, .int p0), (2, .ref oJ)]) hx hb dL_account_12 rfl hl (by decide) rfl (fun ls hl => ?_)
        refine lv_iconst (v := (1 : Int32)) hx hb dL_account_13 (by decide) ?_
        exact rt_w hx hb hr hlocks hW hO hS dL_account_14
  · subst h0
    have hO := hO.call hw hS
    have hS := hS.mono9 (B := gW G oJ oD) (fun _ h => Or.inl h)
    refine lv_i2l (v := v.toInt64) hx hb dL_account_7 rfl ?_
    refine ow_J hx hb hK hW hO hw hS dL_account_8 (fun H locs hW hO hS => ?_)
    refine lv_goto (tgt := 15) hx hb dL_account_9 (by decide) ?_
    refine lv_iconst (v := (0 : Int32)) hx hb dL_account_15 (by decide) ?_
    exact rt_w hx hb hr hlocks hW hO hS dL_account_16
set_option maxHeartbeats 4000000 in
theorem kw_account {p : Program} {l : Launch} {e : Env} {R : Room} {s : State} {m : MethodId} {args : Array Value} {below : List Frame} {meth : Method} {c : Code} {H : Heap} {locs : List Loc} {cells slots : Nat} {Q : State → Prop} {cc : ByteArray} {pc nL idx : Nat} {ls : Array Slot} {rest : List Value} {G : Geo} {x y : Mem} {oJ oD : Nat} {vj : Int64} {vd : UInt64} {A0 : Nat → Prop} {p0 : Int32} {cd : Nat} {v : Int32} {z : Mem} (hx : p.tables.exec = Jvm.exec) (hb : c.code = cc) (hml : c.maxLocals = nL) (hown : s.vm.findClass RL = some m.cls) (htg : ∀ w ∈ wsG, w.before args s = true) (hst : l.stackTraces = false) (hXt : Xt s) (hZ : Zt G s H) (hA : ∀ q, H.size ≤ q → gF G q) (hK : Kt G s) (hW : Wh G x y H) (hO : Oh G oJ oD vj vd H) (hw : Ow G oJ oD) (hS : va_S A0 s.heap H locs) (hA0 : ∀ q, gW G oJ oD q → A0 q) (h : m_X11_account p0 x = some (cd, v, z)) (hcd : cd = 0 ∨ cd = 2) (hlk : Cond.methodLink RL idx yL_account ∈ wsG) (hn : ls.size = nL) (hr : (rest.map fun v => v.category).sum ≤ 8) (hR1 : 8 + 1 ≤ R.frames) (hR2 : 8 + (4 + 11) + 132 ≤ R.locals) (hf : cells + 3 ≤ R.cells ∧ slots + 18 ≤ R.slots) (hdg : decode cc pc = .ok (.invokestatic idx, 3)) (kk : ∀ (H1 : Heap) (locs1 : List Loc), Wh G z y H1 → Oh G oJ oD (if cd = 0 then v.toInt64 else vj) vd H1 → va_S A0 s.heap H1 locs1 → (∀ q : Nat, q < H.size → ¬ gW G oJ oD q → H1[q]? = H[q]?) → H.size ≤ H1.size → W p l e R s m args below meth c H1 locs1 (cells + 3) (slots + 18) Q (F0 m (pc + 3) ls (.int (kO_account cd) :: rest))) : W p l e R s m args below meth c H locs cells slots Q (F0 m pc ls (.ref oJ :: .int p0 :: .ref (gA G 14 0 0) :: rest)) := by
  refine va_calli (vx_runSW (As := [.ref (gA G 14 0 0), .int p0, .ref oJ]) (rest := rest) ⟨hx, hb, hml, hown, htg⟩ (cL_w_account l hst G x y oJ oD hw vj vd p0 h hcd) (vx_cwSW 3 htg (gd_S hlk q1005 q181 q1006) rfl rfl rfl (by decide +kernel) ⟨hR1, hR2⟩) ⟨fun a U g mk q => ⟨q.1, q.2.1.calling, q.2.2.1.calling, q.2.2.2.1.calling, q.2.2.2.2.1, q.2.2.2.2.2.1, q.2.2.2.2.2.2⟩, fun U hU hW9 => ⟨rfl, hK.warm hW9, hXt.warm hW9, by rw [hU]; exact hZ.moved hW9.alike, by rw [hU]; exact hA, by rw [hU]; exact hW, by rw [hU]; exact hO⟩⟩ rfl rfl hn rfl (lv_room hr) hdg hf) hS (fun q _ h9 => hA0 q h9) (fun q h9 => hA0 q h9) ?_
  intro r9 u t H1 locs1 ht hvm hw9 hB hz1 hk1 hS1
  obtain ⟨hB1, hB2⟩ := hB
  replace hB1 : Wh G z y t.heap := hB1
  rw [ht] at hB1 hB2
  replace hw9 : r9 = kO_account cd := hw9
  subst hw9
  exact kk H1 locs1 hB1 hB2 hS1 hk1 hz1
def kO_use (cd : Nat) : Int32 := if cd = 1 then 1 else if cd = 6 then 2 else 0
abbrev WSL_use : List Cond := .codeWith yL_use cL_use 4 (some .int) [(0, 9, 12, 13), (0, 9, 15, 86)] :: wsG
abbrev RML_use : Room := { frames := 8, cells := 3, slots := 18, locals := 131 }
set_option maxHeartbeats 4000000 in
set_option maxRecDepth 100000 in
theorem cL_w_use (l : Launch) (hst : l.stackTraces = false) (G : Geo) (x y : Mem) (oJ oD : Nat) (hw : Ow G oJ oD) (vj : Int64) (vd : UInt64) (p0 : Int32) {cd : Nat} {v : UInt32} {z : Mem} (h : m_X11_use p0 x = some (cd, v, z)) (hcd : cd = 0 ∨ cd = 1 ∨ cd = 6) (hnn : cd = 0 → nn64 (FP.f2d v) = true) : Met l yL_use WSL_use RML_use (Pz G x y oJ oD vj vd [.ref (gA G 14 0 0), .int p0, .ref oD]) (Qz G z y oJ oD vj (if cd = 0 then (FP.f2d v) else vd) (kO_use cd)) 3 18 (gW G oJ oD) := by
  refine va_MetW (cc := cL_use) (maxL := 4) (ret := some .int) (hh := [(0, 9, 12, 13), (0, 9, 15, 86)]) (by decide) rfl ?_
  intro p e s m args below meth c s₁ B hml hv9
  obtain ⟨rfl, hK, hXt, hZ, hA, hW, hO⟩ := hv9
  have hx := B.exec
  have hb := B.bytes
  have hr := B.returns
  have hts := atoms_spec (ws := WSL_use) B.pre
  have htg : ∀ w ∈ wsG, w.before _ s = true := fun w h => hts w (List.mem_cons_of_mem _ h)
  have hown : s.vm.findClass RL = some m.cls := findClass_of_methodNamed B.named
  have hlocks := B.notSynchronized
  have htb := vx_table (x := yL_law) B (hts _ List.mem_cons_self)
  have hS : va_S (gF G) s.heap s.heap [] := va_S.rf
  have hl := lv_entry ([.ref (gA G 14 0 0), .int p0, .ref oD]) (n := 4) (Nat.le_of_ble_eq_true rfl)
  rw [lg_entry_eq]
  generalize (lg_sl ([.ref (gA G 14 0 0), .int p0, .ref oD]) ++ List.replicate (4 - (lg_sl ([.ref (gA G 14 0 0), .int p0, .ref oD])).length) Slot.unset).toArray = ls at hl ⊢
  have hl : lv_has ls 4 [(0, .ref (gA G 14 0 0)), (1, .int p0), (2, .ref oD)] := hl
  refine lv_aload_n hx hb dL_use_0 rfl (lv_at hl 2 rfl) ?_
  refine lv_iconst (v := (0 : Int32)) hx hb dL_use_1 (by decide) ?_
  refine lv_aload_n hx hb dL_use_2 rfl (lv_at hl 0 rfl) ?_
  refine lv_iload_n hx hb dL_use_3 rfl (lv_at hl 1 rfl) ?_
  refine kx_X11_use hx hb hml hown htg hst hXt hZ hA hK hW hS h q1041 hl.1 (Nat.le_of_ble_eq_true rfl) (Nat.le_of_ble_eq_true rfl) (Nat.le_of_ble_eq_true rfl) ⟨Nat.le_of_ble_eq_true rfl, Nat.le_of_ble_eq_true rfl⟩ dL_use_4 (fun hc ce q9 H locs hW hS e1 e2 e3 => ?_) (fun h0 H locs hW hS => ?_)
  · have hO := hO.call hw hS
    have hS := hS.mono9 (B := gW G oJ oD) (fun _ h => Or.inl h)
    rcases hcd with rfl | rfl | rfl
    · exact absurd rfl hc
    · refine vx_catch (E := exN 1) hown [] ⟨0, 9, 12, 13⟩ [⟨0, 9, 15, 86⟩] htb (fun z hz => ?_) (by decide) (by decide) (htg _ q183) (va_Nw.use rfl (hXt.1 _ (by decide +kernel))) e1 e2 e3 ?_
      · simp only [List.mem_cons, List.not_mem_nil, or_false] at hz
      · refine lv_astore_n (lv' := [(3, .ref q9), (0, .ref (gA G 14 0 0)), (1, .int p0), (2, .ref oD)]) hx hb dL_use_12 rfl hl (by decide) rfl (fun ls hl => ?_)
        refine lv_iconst (v := (1 : Int32)) hx hb dL_use_13 (by decide) ?_
        exact rt_w hx hb hr hlocks hW hO hS dL_use_14
    · refine vx_catch (E := exN 6) hown [⟨0, 9, 12, 13⟩] ⟨0, 9, 15, 86⟩ [] htb (fun z hz => ?_) (by decide) (by decide) (htg _ q1040) (va_Nw.use rfl (hXt.1 _ (by decide +kernel))) e1 e2 e3 ?_
      · simp only [List.mem_cons, List.not_mem_nil, or_false] at hz
        rcases hz with rfl
        · exact Or.inr ⟨by decide, "java/lang/IndexOutOfBoundsException", htg _ q183, hXt.2.2 (exN 6, "java/lang/IndexOutOfBoundsException") (by decide +kernel)⟩
      · refine lv_astore_n (lv' := [(3, .ref q9), (0, .ref (gA G 14 0 0)), (1, .int p0), (2, .ref oD)]) hx hb dL_use_15 rfl hl (by decide) rfl (fun ls hl => ?_)
        refine lv_iconst (v := (2 : Int32)) hx hb dL_use_16 (by decide) ?_
        exact rt_w hx hb hr hlocks hW hO hS dL_use_17
  · subst h0
    have hO := hO.call hw hS
    have hS := hS.mono9 (B := gW G oJ oD) (fun _ h => Or.inl h)
    refine lv_f2d hx hb dL_use_7 (nn64_ok (hnn rfl)) ?_
    refine ow_D hx hb hK hW hO hw hS dL_use_8 (fun H locs hW hO hS => ?_)
    refine lv_goto (tgt := 18) hx hb dL_use_9 (by decide) ?_
    refine lv_iconst (v := (0 : Int32)) hx hb dL_use_18 (by decide) ?_
    exact rt_w hx hb hr hlocks hW hO hS dL_use_19
set_option maxHeartbeats 4000000 in
theorem kw_use {p : Program} {l : Launch} {e : Env} {R : Room} {s : State} {m : MethodId} {args : Array Value} {below : List Frame} {meth : Method} {c : Code} {H : Heap} {locs : List Loc} {cells slots : Nat} {Q : State → Prop} {cc : ByteArray} {pc nL idx : Nat} {ls : Array Slot} {rest : List Value} {G : Geo} {x y : Mem} {oJ oD : Nat} {vj : Int64} {vd : UInt64} {A0 : Nat → Prop} {p0 : Int32} {cd : Nat} {v : UInt32} {z : Mem} (hx : p.tables.exec = Jvm.exec) (hb : c.code = cc) (hml : c.maxLocals = nL) (hown : s.vm.findClass RL = some m.cls) (htg : ∀ w ∈ wsG, w.before args s = true) (hst : l.stackTraces = false) (hXt : Xt s) (hZ : Zt G s H) (hA : ∀ q, H.size ≤ q → gF G q) (hK : Kt G s) (hW : Wh G x y H) (hO : Oh G oJ oD vj vd H) (hw : Ow G oJ oD) (hS : va_S A0 s.heap H locs) (hA0 : ∀ q, gW G oJ oD q → A0 q) (h : m_X11_use p0 x = some (cd, v, z)) (hcd : cd = 0 ∨ cd = 1 ∨ cd = 6) (hnn : cd = 0 → nn64 (FP.f2d v) = true) (hlk : Cond.methodLink RL idx yL_use ∈ wsG) (hn : ls.size = nL) (hr : (rest.map fun v => v.category).sum ≤ 8) (hR1 : 8 + 1 ≤ R.frames) (hR2 : 8 + (4 + 11) + 131 ≤ R.locals) (hf : cells + 3 ≤ R.cells ∧ slots + 18 ≤ R.slots) (hdg : decode cc pc = .ok (.invokestatic idx, 3)) (kk : ∀ (H1 : Heap) (locs1 : List Loc), Wh G z y H1 → Oh G oJ oD vj (if cd = 0 then (FP.f2d v) else vd) H1 → va_S A0 s.heap H1 locs1 → (∀ q : Nat, q < H.size → ¬ gW G oJ oD q → H1[q]? = H[q]?) → H.size ≤ H1.size → W p l e R s m args below meth c H1 locs1 (cells + 3) (slots + 18) Q (F0 m (pc + 3) ls (.int (kO_use cd) :: rest))) : W p l e R s m args below meth c H locs cells slots Q (F0 m pc ls (.ref oD :: .int p0 :: .ref (gA G 14 0 0) :: rest)) := by
  refine va_calli (vx_runSW (As := [.ref (gA G 14 0 0), .int p0, .ref oD]) (rest := rest) ⟨hx, hb, hml, hown, htg⟩ (cL_w_use l hst G x y oJ oD hw vj vd p0 h hcd hnn) (vx_cwSW 3 htg (gd_S hlk q1038 q181 q1039) rfl rfl rfl (by decide +kernel) ⟨hR1, hR2⟩) ⟨fun a U g mk q => ⟨q.1, q.2.1.calling, q.2.2.1.calling, q.2.2.2.1.calling, q.2.2.2.2.1, q.2.2.2.2.2.1, q.2.2.2.2.2.2⟩, fun U hU hW9 => ⟨rfl, hK.warm hW9, hXt.warm hW9, by rw [hU]; exact hZ.moved hW9.alike, by rw [hU]; exact hA, by rw [hU]; exact hW, by rw [hU]; exact hO⟩⟩ rfl rfl hn rfl (lv_room hr) hdg hf) hS (fun q _ h9 => hA0 q h9) (fun q h9 => hA0 q h9) ?_
  intro r9 u t H1 locs1 ht hvm hw9 hB hz1 hk1 hS1
  obtain ⟨hB1, hB2⟩ := hB
  replace hB1 : Wh G z y t.heap := hB1
  rw [ht] at hB1 hB2
  replace hw9 : r9 = kO_use cd := hw9
  subst hw9
  exact kk H1 locs1 hB1 hB2 hS1 hk1 hz1
def kO_meanDuration (cd : Nat) : Int32 := if cd = 6 then 1 else 0
abbrev WSL_meanDuration : List Cond := .codeWith yL_meanDuration cL_meanDuration 3 (some .int) [(0, 7, 10, 86)] :: wsG
abbrev RML_meanDuration : Room := { frames := 7, cells := 3, slots := 18, locals := 110 }
set_option maxHeartbeats 4000000 in
set_option maxRecDepth 100000 in
theorem cL_w_meanDuration (l : Launch) (hst : l.stackTraces = false) (G : Geo) (x y : Mem) (oJ oD : Nat) (hw : Ow G oJ oD) (vj : Int64) (vd : UInt64) {cd : Nat} {v : UInt64} {z : Mem} (h : m_X11_meanDuration x = some (cd, v, z)) (hcd : cd = 0 ∨ cd = 6) : Met l yL_meanDuration WSL_meanDuration RML_meanDuration (Pz G x y oJ oD vj vd [.ref (gA G 14 0 0), .ref oD]) (Qz G z y oJ oD vj (if cd = 0 then v else vd) (kO_meanDuration cd)) 3 18 (gW G oJ oD) := by
  refine va_MetW (cc := cL_meanDuration) (maxL := 3) (ret := some .int) (hh := [(0, 7, 10, 86)]) (by decide) rfl ?_
  intro p e s m args below meth c s₁ B hml hv9
  obtain ⟨rfl, hK, hXt, hZ, hA, hW, hO⟩ := hv9
  have hx := B.exec
  have hb := B.bytes
  have hr := B.returns
  have hts := atoms_spec (ws := WSL_meanDuration) B.pre
  have htg : ∀ w ∈ wsG, w.before _ s = true := fun w h => hts w (List.mem_cons_of_mem _ h)
  have hown : s.vm.findClass RL = some m.cls := findClass_of_methodNamed B.named
  have hlocks := B.notSynchronized
  have htb := vx_table (x := yL_law) B (hts _ List.mem_cons_self)
  have hS : va_S (gF G) s.heap s.heap [] := va_S.rf
  have hl := lv_entry ([.ref (gA G 14 0 0), .ref oD]) (n := 3) (Nat.le_of_ble_eq_true rfl)
  rw [lg_entry_eq]
  generalize (lg_sl ([.ref (gA G 14 0 0), .ref oD]) ++ List.replicate (3 - (lg_sl ([.ref (gA G 14 0 0), .ref oD])).length) Slot.unset).toArray = ls at hl ⊢
  have hl : lv_has ls 3 [(0, .ref (gA G 14 0 0)), (1, .ref oD)] := hl
  refine lv_aload_n hx hb dL_meanDuration_0 rfl (lv_at hl 1 rfl) ?_
  refine lv_iconst (v := (0 : Int32)) hx hb dL_meanDuration_1 (by decide) ?_
  refine lv_aload_n hx hb dL_meanDuration_2 rfl (lv_at hl 0 rfl) ?_
  refine kx_X11_meanDuration hx hb hml hown htg hst hXt hZ hA hK hW hS h q1056 hl.1 (Nat.le_of_ble_eq_true rfl) (Nat.le_of_ble_eq_true rfl) (Nat.le_of_ble_eq_true rfl) ⟨Nat.le_of_ble_eq_true rfl, Nat.le_of_ble_eq_true rfl⟩ dL_meanDuration_3 (fun hc ce q9 H locs hW hS e1 e2 e3 => ?_) (fun h0 H locs hW hS => ?_)
  · have hO := hO.call hw hS
    have hS := hS.mono9 (B := gW G oJ oD) (fun _ h => Or.inl h)
    rcases hcd with rfl | rfl
    · exact absurd rfl hc
    · refine vx_catch (E := exN 6) hown [] ⟨0, 7, 10, 86⟩ [] htb (fun z hz => ?_) (by decide) (by decide) (htg _ q1040) (va_Nw.use rfl (hXt.1 _ (by decide +kernel))) e1 e2 e3 ?_
      · simp only [List.mem_cons, List.not_mem_nil, or_false] at hz
      · refine lv_astore_n (lv' := [(2, .ref q9), (0, .ref (gA G 14 0 0)), (1, .ref oD)]) hx hb dL_meanDuration_10 rfl hl (by decide) rfl (fun ls hl => ?_)
        refine lv_iconst (v := (1 : Int32)) hx hb dL_meanDuration_11 (by decide) ?_
        exact rt_w hx hb hr hlocks hW hO hS dL_meanDuration_12
  · subst h0
    have hO := hO.call hw hS
    have hS := hS.mono9 (B := gW G oJ oD) (fun _ h => Or.inl h)
    refine ow_D hx hb hK hW hO hw hS dL_meanDuration_6 (fun H locs hW hO hS => ?_)
    refine lv_goto (tgt := 13) hx hb dL_meanDuration_7 (by decide) ?_
    refine lv_iconst (v := (0 : Int32)) hx hb dL_meanDuration_13 (by decide) ?_
    exact rt_w hx hb hr hlocks hW hO hS dL_meanDuration_14
set_option maxHeartbeats 4000000 in
theorem kw_meanDuration {p : Program} {l : Launch} {e : Env} {R : Room} {s : State} {m : MethodId} {args : Array Value} {below : List Frame} {meth : Method} {c : Code} {H : Heap} {locs : List Loc} {cells slots : Nat} {Q : State → Prop} {cc : ByteArray} {pc nL idx : Nat} {ls : Array Slot} {rest : List Value} {G : Geo} {x y : Mem} {oJ oD : Nat} {vj : Int64} {vd : UInt64} {A0 : Nat → Prop} {cd : Nat} {v : UInt64} {z : Mem} (hx : p.tables.exec = Jvm.exec) (hb : c.code = cc) (hml : c.maxLocals = nL) (hown : s.vm.findClass RL = some m.cls) (htg : ∀ w ∈ wsG, w.before args s = true) (hst : l.stackTraces = false) (hXt : Xt s) (hZ : Zt G s H) (hA : ∀ q, H.size ≤ q → gF G q) (hK : Kt G s) (hW : Wh G x y H) (hO : Oh G oJ oD vj vd H) (hw : Ow G oJ oD) (hS : va_S A0 s.heap H locs) (hA0 : ∀ q, gW G oJ oD q → A0 q) (h : m_X11_meanDuration x = some (cd, v, z)) (hcd : cd = 0 ∨ cd = 6) (hlk : Cond.methodLink RL idx yL_meanDuration ∈ wsG) (hn : ls.size = nL) (hr : (rest.map fun v => v.category).sum ≤ 8) (hR1 : 7 + 1 ≤ R.frames) (hR2 : 8 + (3 + 11) + 110 ≤ R.locals) (hf : cells + 3 ≤ R.cells ∧ slots + 18 ≤ R.slots) (hdg : decode cc pc = .ok (.invokestatic idx, 3)) (kk : ∀ (H1 : Heap) (locs1 : List Loc), Wh G z y H1 → Oh G oJ oD vj (if cd = 0 then v else vd) H1 → va_S A0 s.heap H1 locs1 → (∀ q : Nat, q < H.size → ¬ gW G oJ oD q → H1[q]? = H[q]?) → H.size ≤ H1.size → W p l e R s m args below meth c H1 locs1 (cells + 3) (slots + 18) Q (F0 m (pc + 3) ls (.int (kO_meanDuration cd) :: rest))) : W p l e R s m args below meth c H locs cells slots Q (F0 m pc ls (.ref oD :: .ref (gA G 14 0 0) :: rest)) := by
  refine va_calli (vx_runSW (As := [.ref (gA G 14 0 0), .ref oD]) (rest := rest) ⟨hx, hb, hml, hown, htg⟩ (cL_w_meanDuration l hst G x y oJ oD hw vj vd h hcd) (vx_cwSW 2 htg (gd_S hlk q1054 q181 q1055) rfl rfl rfl (by decide +kernel) ⟨hR1, hR2⟩) ⟨fun a U g mk q => ⟨q.1, q.2.1.calling, q.2.2.1.calling, q.2.2.2.1.calling, q.2.2.2.2.1, q.2.2.2.2.2.1, q.2.2.2.2.2.2⟩, fun U hU hW9 => ⟨rfl, hK.warm hW9, hXt.warm hW9, by rw [hU]; exact hZ.moved hW9.alike, by rw [hU]; exact hA, by rw [hU]; exact hW, by rw [hU]; exact hO⟩⟩ rfl rfl hn rfl (lv_room hr) hdg hf) hS (fun q _ h9 => hA0 q h9) (fun q h9 => hA0 q h9) ?_
  intro r9 u t H1 locs1 ht hvm hw9 hB hz1 hk1 hS1
  obtain ⟨hB1, hB2⟩ := hB
  replace hB1 : Wh G z y t.heap := hB1
  rw [ht] at hB1 hB2
  replace hw9 : r9 = kO_meanDuration cd := hw9
  subst hw9
  exact kk H1 locs1 hB1 hB2 hS1 hk1 hz1
def kO_feed (cd : Nat) : Int32 := if cd = 3 then 1 else 0
abbrev WSL_feed : List Cond := .codeWith yL_feed cL_feed 4 (some .int) [(0, 9, 12, 17)] :: wsG
abbrev RML_feed : Room := { frames := 7, cells := 3, slots := 18, locals := 111 }
set_option maxHeartbeats 4000000 in
set_option maxRecDepth 100000 in
theorem cL_w_feed (l : Launch) (hst : l.stackTraces = false) (G : Geo) (x y : Mem) (oJ oD : Nat) (hw : Ow G oJ oD) (vj : Int64) (vd : UInt64) (p0 : Int32) {cd : Nat} {v : Int32} {z : Mem} (h : m_X11_feed p0 x = some (cd, v, z)) (hcd : cd = 0 ∨ cd = 3) : Met l yL_feed WSL_feed RML_feed (Pz G x y oJ oD vj vd [.ref (gA G 14 0 0), .int p0, .ref oJ]) (Qz G z y oJ oD (if cd = 0 then v.toInt64 else vj) vd (kO_feed cd)) 3 18 (gW G oJ oD) := by
  refine va_MetW (cc := cL_feed) (maxL := 4) (ret := some .int) (hh := [(0, 9, 12, 17)]) (by decide) rfl ?_
  intro p e s m args below meth c s₁ B hml hv9
  obtain ⟨rfl, hK, hXt, hZ, hA, hW, hO⟩ := hv9
  have hx := B.exec
  have hb := B.bytes
  have hr := B.returns
  have hts := atoms_spec (ws := WSL_feed) B.pre
  have htg : ∀ w ∈ wsG, w.before _ s = true := fun w h => hts w (List.mem_cons_of_mem _ h)
  have hown : s.vm.findClass RL = some m.cls := findClass_of_methodNamed B.named
  have hlocks := B.notSynchronized
  have htb := vx_table (x := yL_law) B (hts _ List.mem_cons_self)
  have hS : va_S (gF G) s.heap s.heap [] := va_S.rf
  have hl := lv_entry ([.ref (gA G 14 0 0), .int p0, .ref oJ]) (n := 4) (Nat.le_of_ble_eq_true rfl)
  rw [lg_entry_eq]
  generalize (lg_sl ([.ref (gA G 14 0 0), .int p0, .ref oJ]) ++ List.replicate (4 - (lg_sl ([.ref (gA G 14 0 0), .int p0, .ref oJ])).length) Slot.unset).toArray = ls at hl ⊢
  have hl : lv_has ls 4 [(0, .ref (gA G 14 0 0)), (1, .int p0), (2, .ref oJ)] := hl
  refine lv_aload_n hx hb dL_feed_0 rfl (lv_at hl 2 rfl) ?_
  refine lv_iconst (v := (0 : Int32)) hx hb dL_feed_1 (by decide) ?_
  refine lv_aload_n hx hb dL_feed_2 rfl (lv_at hl 0 rfl) ?_
  refine lv_iload_n hx hb dL_feed_3 rfl (lv_at hl 1 rfl) ?_
  refine kx_X11_feed hx hb hml hown htg hst hXt hZ hA hK hW hS h q1068 hl.1 (Nat.le_of_ble_eq_true rfl) (Nat.le_of_ble_eq_true rfl) (Nat.le_of_ble_eq_true rfl) ⟨Nat.le_of_ble_eq_true rfl, Nat.le_of_ble_eq_true rfl⟩ dL_feed_4 (fun hc ce q9 H locs hW hS e1 e2 e3 => ?_) (fun h0 H locs hW hS => ?_)
  · have hO := hO.call hw hS
    have hS := hS.mono9 (B := gW G oJ oD) (fun _ h => Or.inl h)
    rcases hcd with rfl | rfl
    · exact absurd rfl hc
    · refine vx_catch (E := exN 3) hown [] ⟨0, 9, 12, 17⟩ [] htb (fun z hz => ?_) (by decide) (by decide) (htg _ q185) (va_Nw.use rfl (hXt.1 _ (by decide +kernel))) e1 e2 e3 ?_
      · simp only [List.mem_cons, List.not_mem_nil, or_false] at hz
      · refine lv_astore_n (lv' := [(3, .ref q9), (0, .ref (gA G 14 0 0)), (1, .int p0), (2, .ref oJ)]) hx hb dL_feed_12 rfl hl (by decide) rfl (fun ls hl => ?_)
        refine lv_iconst (v := (1 : Int32)) hx hb dL_feed_13 (by decide) ?_
        exact rt_w hx hb hr hlocks hW hO hS dL_feed_14
  · subst h0
    have hO := hO.call hw hS
    have hS := hS.mono9 (B := gW G oJ oD) (fun _ h => Or.inl h)
    refine lv_i2l (v := v.toInt64) hx hb dL_feed_7 rfl ?_
    refine ow_J hx hb hK hW hO hw hS dL_feed_8 (fun H locs hW hO hS => ?_)
    refine lv_goto (tgt := 15) hx hb dL_feed_9 (by decide) ?_
    refine lv_iconst (v := (0 : Int32)) hx hb dL_feed_15 (by decide) ?_
    exact rt_w hx hb hr hlocks hW hO hS dL_feed_16
set_option maxHeartbeats 4000000 in
theorem kw_feed {p : Program} {l : Launch} {e : Env} {R : Room} {s : State} {m : MethodId} {args : Array Value} {below : List Frame} {meth : Method} {c : Code} {H : Heap} {locs : List Loc} {cells slots : Nat} {Q : State → Prop} {cc : ByteArray} {pc nL idx : Nat} {ls : Array Slot} {rest : List Value} {G : Geo} {x y : Mem} {oJ oD : Nat} {vj : Int64} {vd : UInt64} {A0 : Nat → Prop} {p0 : Int32} {cd : Nat} {v : Int32} {z : Mem} (hx : p.tables.exec = Jvm.exec) (hb : c.code = cc) (hml : c.maxLocals = nL) (hown : s.vm.findClass RL = some m.cls) (htg : ∀ w ∈ wsG, w.before args s = true) (hst : l.stackTraces = false) (hXt : Xt s) (hZ : Zt G s H) (hA : ∀ q, H.size ≤ q → gF G q) (hK : Kt G s) (hW : Wh G x y H) (hO : Oh G oJ oD vj vd H) (hw : Ow G oJ oD) (hS : va_S A0 s.heap H locs) (hA0 : ∀ q, gW G oJ oD q → A0 q) (h : m_X11_feed p0 x = some (cd, v, z)) (hcd : cd = 0 ∨ cd = 3) (hlk : Cond.methodLink RL idx yL_feed ∈ wsG) (hn : ls.size = nL) (hr : (rest.map fun v => v.category).sum ≤ 8) (hR1 : 7 + 1 ≤ R.frames) (hR2 : 8 + (4 + 11) + 111 ≤ R.locals) (hf : cells + 3 ≤ R.cells ∧ slots + 18 ≤ R.slots) (hdg : decode cc pc = .ok (.invokestatic idx, 3)) (kk : ∀ (H1 : Heap) (locs1 : List Loc), Wh G z y H1 → Oh G oJ oD (if cd = 0 then v.toInt64 else vj) vd H1 → va_S A0 s.heap H1 locs1 → (∀ q : Nat, q < H.size → ¬ gW G oJ oD q → H1[q]? = H[q]?) → H.size ≤ H1.size → W p l e R s m args below meth c H1 locs1 (cells + 3) (slots + 18) Q (F0 m (pc + 3) ls (.int (kO_feed cd) :: rest))) : W p l e R s m args below meth c H locs cells slots Q (F0 m pc ls (.ref oJ :: .int p0 :: .ref (gA G 14 0 0) :: rest)) := by
  refine va_calli (vx_runSW (As := [.ref (gA G 14 0 0), .int p0, .ref oJ]) (rest := rest) ⟨hx, hb, hml, hown, htg⟩ (cL_w_feed l hst G x y oJ oD hw vj vd p0 h hcd) (vx_cwSW 3 htg (gd_S hlk q1066 q181 q1067) rfl rfl rfl (by decide +kernel) ⟨hR1, hR2⟩) ⟨fun a U g mk q => ⟨q.1, q.2.1.calling, q.2.2.1.calling, q.2.2.2.1.calling, q.2.2.2.2.1, q.2.2.2.2.2.1, q.2.2.2.2.2.2⟩, fun U hU hW9 => ⟨rfl, hK.warm hW9, hXt.warm hW9, by rw [hU]; exact hZ.moved hW9.alike, by rw [hU]; exact hA, by rw [hU]; exact hW, by rw [hU]; exact hO⟩⟩ rfl rfl hn rfl (lv_room hr) hdg hf) hS (fun q _ h9 => hA0 q h9) (fun q h9 => hA0 q h9) ?_
  intro r9 u t H1 locs1 ht hvm hw9 hB hz1 hk1 hS1
  obtain ⟨hB1, hB2⟩ := hB
  replace hB1 : Wh G z y t.heap := hB1
  rw [ht] at hB1 hB2
  replace hw9 : r9 = kO_feed cd := hw9
  subst hw9
  exact kk H1 locs1 hB1 hB2 hS1 hk1 hz1
def kO_perform (cd : Nat) : Int32 := if cd = 4 then 1 else 0
abbrev WSL_perform : List Cond := .codeWith yL_perform cL_perform 3 (some .int) [(0, 8, 11, 45)] :: wsG
abbrev RML_perform : Room := { frames := 7, cells := 3, slots := 18, locals := 165 }
set_option maxHeartbeats 4000000 in
set_option maxRecDepth 100000 in
theorem cL_w_perform (l : Launch) (hst : l.stackTraces = false) (G : Geo) (x y : Mem) (oJ oD : Nat) (hw : Ow G oJ oD) (vj : Int64) (vd : UInt64) {cd : Nat} {v : Int32} {z : Mem} (h : m_X11_perform x = some (cd, v, z)) (hcd : cd = 0 ∨ cd = 4) : Met l yL_perform WSL_perform RML_perform (Pz G x y oJ oD vj vd [.ref (gA G 14 0 0), .ref oJ]) (Qz G z y oJ oD (if cd = 0 then v.toInt64 else vj) vd (kO_perform cd)) 3 18 (gW G oJ oD) := by
  refine va_MetW (cc := cL_perform) (maxL := 3) (ret := some .int) (hh := [(0, 8, 11, 45)]) (by decide) rfl ?_
  intro p e s m args below meth c s₁ B hml hv9
  obtain ⟨rfl, hK, hXt, hZ, hA, hW, hO⟩ := hv9
  have hx := B.exec
  have hb := B.bytes
  have hr := B.returns
  have hts := atoms_spec (ws := WSL_perform) B.pre
  have htg : ∀ w ∈ wsG, w.before _ s = true := fun w h => hts w (List.mem_cons_of_mem _ h)
  have hown : s.vm.findClass RL = some m.cls := findClass_of_methodNamed B.named
  have hlocks := B.notSynchronized
  have htb := vx_table (x := yL_law) B (hts _ List.mem_cons_self)
  have hS : va_S (gF G) s.heap s.heap [] := va_S.rf
  have hl := lv_entry ([.ref (gA G 14 0 0), .ref oJ]) (n := 3) (Nat.le_of_ble_eq_true rfl)
  rw [lg_entry_eq]
  generalize (lg_sl ([.ref (gA G 14 0 0), .ref oJ]) ++ List.replicate (3 - (lg_sl ([.ref (gA G 14 0 0), .ref oJ])).length) Slot.unset).toArray = ls at hl ⊢
  have hl : lv_has ls 3 [(0, .ref (gA G 14 0 0)), (1, .ref oJ)] := hl
  refine lv_aload_n hx hb dL_perform_0 rfl (lv_at hl 1 rfl) ?_
  refine lv_iconst (v := (0 : Int32)) hx hb dL_perform_1 (by decide) ?_
  refine lv_aload_n hx hb dL_perform_2 rfl (lv_at hl 0 rfl) ?_
  refine kx_X11_perform hx hb hml hown htg hst hXt hZ hA hK hW hS h q1089 hl.1 (Nat.le_of_ble_eq_true rfl) (Nat.le_of_ble_eq_true rfl) (Nat.le_of_ble_eq_true rfl) ⟨Nat.le_of_ble_eq_true rfl, Nat.le_of_ble_eq_true rfl⟩ dL_perform_3 (fun hc ce q9 H locs hW hS e1 e2 e3 => ?_) (fun h0 H locs hW hS => ?_)
  · have hO := hO.call hw hS
    have hS := hS.mono9 (B := gW G oJ oD) (fun _ h => Or.inl h)
    rcases hcd with rfl | rfl
    · exact absurd rfl hc
    · refine vx_catch (E := exN 4) hown [] ⟨0, 8, 11, 45⟩ [] htb (fun z hz => ?_) (by decide) (by decide) (htg _ q531) (va_Nw.use rfl (hXt.1 _ (by decide +kernel))) e1 e2 e3 ?_
      · simp only [List.mem_cons, List.not_mem_nil, or_false] at hz
      · refine lv_astore_n (lv' := [(2, .ref q9), (0, .ref (gA G 14 0 0)), (1, .ref oJ)]) hx hb dL_perform_11 rfl hl (by decide) rfl (fun ls hl => ?_)
        refine lv_iconst (v := (1 : Int32)) hx hb dL_perform_12 (by decide) ?_
        exact rt_w hx hb hr hlocks hW hO hS dL_perform_13
  · subst h0
    have hO := hO.call hw hS
    have hS := hS.mono9 (B := gW G oJ oD) (fun _ h => Or.inl h)
    refine lv_i2l (v := v.toInt64) hx hb dL_perform_6 rfl ?_
    refine ow_J hx hb hK hW hO hw hS dL_perform_7 (fun H locs hW hO hS => ?_)
    refine lv_goto (tgt := 14) hx hb dL_perform_8 (by decide) ?_
    refine lv_iconst (v := (0 : Int32)) hx hb dL_perform_14 (by decide) ?_
    exact rt_w hx hb hr hlocks hW hO hS dL_perform_15
set_option maxHeartbeats 4000000 in
theorem kw_perform {p : Program} {l : Launch} {e : Env} {R : Room} {s : State} {m : MethodId} {args : Array Value} {below : List Frame} {meth : Method} {c : Code} {H : Heap} {locs : List Loc} {cells slots : Nat} {Q : State → Prop} {cc : ByteArray} {pc nL idx : Nat} {ls : Array Slot} {rest : List Value} {G : Geo} {x y : Mem} {oJ oD : Nat} {vj : Int64} {vd : UInt64} {A0 : Nat → Prop} {cd : Nat} {v : Int32} {z : Mem} (hx : p.tables.exec = Jvm.exec) (hb : c.code = cc) (hml : c.maxLocals = nL) (hown : s.vm.findClass RL = some m.cls) (htg : ∀ w ∈ wsG, w.before args s = true) (hst : l.stackTraces = false) (hXt : Xt s) (hZ : Zt G s H) (hA : ∀ q, H.size ≤ q → gF G q) (hK : Kt G s) (hW : Wh G x y H) (hO : Oh G oJ oD vj vd H) (hw : Ow G oJ oD) (hS : va_S A0 s.heap H locs) (hA0 : ∀ q, gW G oJ oD q → A0 q) (h : m_X11_perform x = some (cd, v, z)) (hcd : cd = 0 ∨ cd = 4) (hlk : Cond.methodLink RL idx yL_perform ∈ wsG) (hn : ls.size = nL) (hr : (rest.map fun v => v.category).sum ≤ 8) (hR1 : 7 + 1 ≤ R.frames) (hR2 : 8 + (3 + 11) + 165 ≤ R.locals) (hf : cells + 3 ≤ R.cells ∧ slots + 18 ≤ R.slots) (hdg : decode cc pc = .ok (.invokestatic idx, 3)) (kk : ∀ (H1 : Heap) (locs1 : List Loc), Wh G z y H1 → Oh G oJ oD (if cd = 0 then v.toInt64 else vj) vd H1 → va_S A0 s.heap H1 locs1 → (∀ q : Nat, q < H.size → ¬ gW G oJ oD q → H1[q]? = H[q]?) → H.size ≤ H1.size → W p l e R s m args below meth c H1 locs1 (cells + 3) (slots + 18) Q (F0 m (pc + 3) ls (.int (kO_perform cd) :: rest))) : W p l e R s m args below meth c H locs cells slots Q (F0 m pc ls (.ref oJ :: .ref (gA G 14 0 0) :: rest)) := by
  refine va_calli (vx_runSW (As := [.ref (gA G 14 0 0), .ref oJ]) (rest := rest) ⟨hx, hb, hml, hown, htg⟩ (cL_w_perform l hst G x y oJ oD hw vj vd h hcd) (vx_cwSW 2 htg (gd_S hlk q1087 q181 q1088) rfl rfl rfl (by decide +kernel) ⟨hR1, hR2⟩) ⟨fun a U g mk q => ⟨q.1, q.2.1.calling, q.2.2.1.calling, q.2.2.2.1.calling, q.2.2.2.2.1, q.2.2.2.2.2.1, q.2.2.2.2.2.2⟩, fun U hU hW9 => ⟨rfl, hK.warm hW9, hXt.warm hW9, by rw [hU]; exact hZ.moved hW9.alike, by rw [hU]; exact hA, by rw [hU]; exact hW, by rw [hU]; exact hO⟩⟩ rfl rfl hn rfl (lv_room hr) hdg hf) hS (fun q _ h9 => hA0 q h9) (fun q h9 => hA0 q h9) ?_
  intro r9 u t H1 locs1 ht hvm hw9 hB hz1 hk1 hS1
  obtain ⟨hB1, hB2⟩ := hB
  replace hB1 : Wh G z y t.heap := hB1
  rw [ht] at hB1 hB2
  replace hw9 : r9 = kO_perform cd := hw9
  subst hw9
  exact kk H1 locs1 hB1 hB2 hS1 hk1 hz1
def kO_undo (cd : Nat) : Int32 := if cd = 3 then 1 else 0
abbrev WSL_undo : List Cond := .codeWith yL_undo cL_undo 3 (some .int) [(0, 8, 11, 17)] :: wsG
abbrev RML_undo : Room := { frames := 7, cells := 3, slots := 18, locals := 110 }
set_option maxHeartbeats 4000000 in
set_option maxRecDepth 100000 in
theorem cL_w_undo (l : Launch) (hst : l.stackTraces = false) (G : Geo) (x y : Mem) (oJ oD : Nat) (hw : Ow G oJ oD) (vj : Int64) (vd : UInt64) {cd : Nat} {v : Int32} {z : Mem} (h : m_X11_undo x = some (cd, v, z)) (hcd : cd = 0 ∨ cd = 3) : Met l yL_undo WSL_undo RML_undo (Pz G x y oJ oD vj vd [.ref (gA G 14 0 0), .ref oJ]) (Qz G z y oJ oD (if cd = 0 then v.toInt64 else vj) vd (kO_undo cd)) 3 18 (gW G oJ oD) := by
  refine va_MetW (cc := cL_undo) (maxL := 3) (ret := some .int) (hh := [(0, 8, 11, 17)]) (by decide) rfl ?_
  intro p e s m args below meth c s₁ B hml hv9
  obtain ⟨rfl, hK, hXt, hZ, hA, hW, hO⟩ := hv9
  have hx := B.exec
  have hb := B.bytes
  have hr := B.returns
  have hts := atoms_spec (ws := WSL_undo) B.pre
  have htg : ∀ w ∈ wsG, w.before _ s = true := fun w h => hts w (List.mem_cons_of_mem _ h)
  have hown : s.vm.findClass RL = some m.cls := findClass_of_methodNamed B.named
  have hlocks := B.notSynchronized
  have htb := vx_table (x := yL_law) B (hts _ List.mem_cons_self)
  have hS : va_S (gF G) s.heap s.heap [] := va_S.rf
  have hl := lv_entry ([.ref (gA G 14 0 0), .ref oJ]) (n := 3) (Nat.le_of_ble_eq_true rfl)
  rw [lg_entry_eq]
  generalize (lg_sl ([.ref (gA G 14 0 0), .ref oJ]) ++ List.replicate (3 - (lg_sl ([.ref (gA G 14 0 0), .ref oJ])).length) Slot.unset).toArray = ls at hl ⊢
  have hl : lv_has ls 3 [(0, .ref (gA G 14 0 0)), (1, .ref oJ)] := hl
  refine lv_aload_n hx hb dL_undo_0 rfl (lv_at hl 1 rfl) ?_
  refine lv_iconst (v := (0 : Int32)) hx hb dL_undo_1 (by decide) ?_
  refine lv_aload_n hx hb dL_undo_2 rfl (lv_at hl 0 rfl) ?_
  refine kx_X11_undo hx hb hml hown htg hst hXt hZ hA hK hW hS h q1218 hl.1 (Nat.le_of_ble_eq_true rfl) (Nat.le_of_ble_eq_true rfl) (Nat.le_of_ble_eq_true rfl) ⟨Nat.le_of_ble_eq_true rfl, Nat.le_of_ble_eq_true rfl⟩ dL_undo_3 (fun hc ce q9 H locs hW hS e1 e2 e3 => ?_) (fun h0 H locs hW hS => ?_)
  · have hO := hO.call hw hS
    have hS := hS.mono9 (B := gW G oJ oD) (fun _ h => Or.inl h)
    rcases hcd with rfl | rfl
    · exact absurd rfl hc
    · refine vx_catch (E := exN 3) hown [] ⟨0, 8, 11, 17⟩ [] htb (fun z hz => ?_) (by decide) (by decide) (htg _ q185) (va_Nw.use rfl (hXt.1 _ (by decide +kernel))) e1 e2 e3 ?_
      · simp only [List.mem_cons, List.not_mem_nil, or_false] at hz
      · refine lv_astore_n (lv' := [(2, .ref q9), (0, .ref (gA G 14 0 0)), (1, .ref oJ)]) hx hb dL_undo_11 rfl hl (by decide) rfl (fun ls hl => ?_)
        refine lv_iconst (v := (1 : Int32)) hx hb dL_undo_12 (by decide) ?_
        exact rt_w hx hb hr hlocks hW hO hS dL_undo_13
  · subst h0
    have hO := hO.call hw hS
    have hS := hS.mono9 (B := gW G oJ oD) (fun _ h => Or.inl h)
    refine lv_i2l (v := v.toInt64) hx hb dL_undo_6 rfl ?_
    refine ow_J hx hb hK hW hO hw hS dL_undo_7 (fun H locs hW hO hS => ?_)
    refine lv_goto (tgt := 14) hx hb dL_undo_8 (by decide) ?_
    refine lv_iconst (v := (0 : Int32)) hx hb dL_undo_14 (by decide) ?_
    exact rt_w hx hb hr hlocks hW hO hS dL_undo_15
set_option maxHeartbeats 4000000 in
theorem kw_undo {p : Program} {l : Launch} {e : Env} {R : Room} {s : State} {m : MethodId} {args : Array Value} {below : List Frame} {meth : Method} {c : Code} {H : Heap} {locs : List Loc} {cells slots : Nat} {Q : State → Prop} {cc : ByteArray} {pc nL idx : Nat} {ls : Array Slot} {rest : List Value} {G : Geo} {x y : Mem} {oJ oD : Nat} {vj : Int64} {vd : UInt64} {A0 : Nat → Prop} {cd : Nat} {v : Int32} {z : Mem} (hx : p.tables.exec = Jvm.exec) (hb : c.code = cc) (hml : c.maxLocals = nL) (hown : s.vm.findClass RL = some m.cls) (htg : ∀ w ∈ wsG, w.before args s = true) (hst : l.stackTraces = false) (hXt : Xt s) (hZ : Zt G s H) (hA : ∀ q, H.size ≤ q → gF G q) (hK : Kt G s) (hW : Wh G x y H) (hO : Oh G oJ oD vj vd H) (hw : Ow G oJ oD) (hS : va_S A0 s.heap H locs) (hA0 : ∀ q, gW G oJ oD q → A0 q) (h : m_X11_undo x = some (cd, v, z)) (hcd : cd = 0 ∨ cd = 3) (hlk : Cond.methodLink RL idx yL_undo ∈ wsG) (hn : ls.size = nL) (hr : (rest.map fun v => v.category).sum ≤ 8) (hR1 : 7 + 1 ≤ R.frames) (hR2 : 8 + (3 + 11) + 110 ≤ R.locals) (hf : cells + 3 ≤ R.cells ∧ slots + 18 ≤ R.slots) (hdg : decode cc pc = .ok (.invokestatic idx, 3)) (kk : ∀ (H1 : Heap) (locs1 : List Loc), Wh G z y H1 → Oh G oJ oD (if cd = 0 then v.toInt64 else vj) vd H1 → va_S A0 s.heap H1 locs1 → (∀ q : Nat, q < H.size → ¬ gW G oJ oD q → H1[q]? = H[q]?) → H.size ≤ H1.size → W p l e R s m args below meth c H1 locs1 (cells + 3) (slots + 18) Q (F0 m (pc + 3) ls (.int (kO_undo cd) :: rest))) : W p l e R s m args below meth c H locs cells slots Q (F0 m pc ls (.ref oJ :: .ref (gA G 14 0 0) :: rest)) := by
  refine va_calli (vx_runSW (As := [.ref (gA G 14 0 0), .ref oJ]) (rest := rest) ⟨hx, hb, hml, hown, htg⟩ (cL_w_undo l hst G x y oJ oD hw vj vd h hcd) (vx_cwSW 2 htg (gd_S hlk q1216 q181 q1217) rfl rfl rfl (by decide +kernel) ⟨hR1, hR2⟩) ⟨fun a U g mk q => ⟨q.1, q.2.1.calling, q.2.2.1.calling, q.2.2.2.1.calling, q.2.2.2.2.1, q.2.2.2.2.2.1, q.2.2.2.2.2.2⟩, fun U hU hW9 => ⟨rfl, hK.warm hW9, hXt.warm hW9, by rw [hU]; exact hZ.moved hW9.alike, by rw [hU]; exact hA, by rw [hU]; exact hW, by rw [hU]; exact hO⟩⟩ rfl rfl hn rfl (lv_room hr) hdg hf) hS (fun q _ h9 => hA0 q h9) (fun q h9 => hA0 q h9) ?_
  intro r9 u t H1 locs1 ht hvm hw9 hB hz1 hk1 hS1
  obtain ⟨hB1, hB2⟩ := hB
  replace hB1 : Wh G z y t.heap := hB1
  rw [ht] at hB1 hB2
  replace hw9 : r9 = kO_undo cd := hw9
  subst hw9
  exact kk H1 locs1 hB1 hB2 hS1 hk1 hz1
def kO_restore (cd : Nat) : Int32 := if cd = 3 then 1 else 0
abbrev WSL_restore : List Cond := .codeWith yL_restore cL_restore 3 (some .int) [(0, 8, 11, 17)] :: wsG
abbrev RML_restore : Room := { frames := 7, cells := 3, slots := 18, locals := 110 }
set_option maxHeartbeats 4000000 in
set_option maxRecDepth 100000 in
theorem cL_w_restore (l : Launch) (hst : l.stackTraces = false) (G : Geo) (x y : Mem) (oJ oD : Nat) (hw : Ow G oJ oD) (vj : Int64) (vd : UInt64) {cd : Nat} {v : Int32} {z : Mem} (h : m_X11_restore x = some (cd, v, z)) (hcd : cd = 0 ∨ cd = 3) : Met l yL_restore WSL_restore RML_restore (Pz G x y oJ oD vj vd [.ref (gA G 14 0 0), .ref oJ]) (Qz G z y oJ oD (if cd = 0 then v.toInt64 else vj) vd (kO_restore cd)) 3 18 (gW G oJ oD) := by
  refine va_MetW (cc := cL_restore) (maxL := 3) (ret := some .int) (hh := [(0, 8, 11, 17)]) (by decide) rfl ?_
  intro p e s m args below meth c s₁ B hml hv9
  obtain ⟨rfl, hK, hXt, hZ, hA, hW, hO⟩ := hv9
  have hx := B.exec
  have hb := B.bytes
  have hr := B.returns
  have hts := atoms_spec (ws := WSL_restore) B.pre
  have htg : ∀ w ∈ wsG, w.before _ s = true := fun w h => hts w (List.mem_cons_of_mem _ h)
  have hown : s.vm.findClass RL = some m.cls := findClass_of_methodNamed B.named
  have hlocks := B.notSynchronized
  have htb := vx_table (x := yL_law) B (hts _ List.mem_cons_self)
  have hS : va_S (gF G) s.heap s.heap [] := va_S.rf
  have hl := lv_entry ([.ref (gA G 14 0 0), .ref oJ]) (n := 3) (Nat.le_of_ble_eq_true rfl)
  rw [lg_entry_eq]
  generalize (lg_sl ([.ref (gA G 14 0 0), .ref oJ]) ++ List.replicate (3 - (lg_sl ([.ref (gA G 14 0 0), .ref oJ])).length) Slot.unset).toArray = ls at hl ⊢
  have hl : lv_has ls 3 [(0, .ref (gA G 14 0 0)), (1, .ref oJ)] := hl
  refine lv_aload_n hx hb dL_restore_0 rfl (lv_at hl 1 rfl) ?_
  refine lv_iconst (v := (0 : Int32)) hx hb dL_restore_1 (by decide) ?_
  refine lv_aload_n hx hb dL_restore_2 rfl (lv_at hl 0 rfl) ?_
  refine kx_X11_restore hx hb hml hown htg hst hXt hZ hA hK hW hS h q1243 hl.1 (Nat.le_of_ble_eq_true rfl) (Nat.le_of_ble_eq_true rfl) (Nat.le_of_ble_eq_true rfl) ⟨Nat.le_of_ble_eq_true rfl, Nat.le_of_ble_eq_true rfl⟩ dL_restore_3 (fun hc ce q9 H locs hW hS e1 e2 e3 => ?_) (fun h0 H locs hW hS => ?_)
  · have hO := hO.call hw hS
    have hS := hS.mono9 (B := gW G oJ oD) (fun _ h => Or.inl h)
    rcases hcd with rfl | rfl
    · exact absurd rfl hc
    · refine vx_catch (E := exN 3) hown [] ⟨0, 8, 11, 17⟩ [] htb (fun z hz => ?_) (by decide) (by decide) (htg _ q185) (va_Nw.use rfl (hXt.1 _ (by decide +kernel))) e1 e2 e3 ?_
      · simp only [List.mem_cons, List.not_mem_nil, or_false] at hz
      · refine lv_astore_n (lv' := [(2, .ref q9), (0, .ref (gA G 14 0 0)), (1, .ref oJ)]) hx hb dL_restore_11 rfl hl (by decide) rfl (fun ls hl => ?_)
        refine lv_iconst (v := (1 : Int32)) hx hb dL_restore_12 (by decide) ?_
        exact rt_w hx hb hr hlocks hW hO hS dL_restore_13
  · subst h0
    have hO := hO.call hw hS
    have hS := hS.mono9 (B := gW G oJ oD) (fun _ h => Or.inl h)
    refine lv_i2l (v := v.toInt64) hx hb dL_restore_6 rfl ?_
    refine ow_J hx hb hK hW hO hw hS dL_restore_7 (fun H locs hW hO hS => ?_)
    refine lv_goto (tgt := 14) hx hb dL_restore_8 (by decide) ?_
    refine lv_iconst (v := (0 : Int32)) hx hb dL_restore_14 (by decide) ?_
    exact rt_w hx hb hr hlocks hW hO hS dL_restore_15
set_option maxHeartbeats 4000000 in
theorem kw_restore {p : Program} {l : Launch} {e : Env} {R : Room} {s : State} {m : MethodId} {args : Array Value} {below : List Frame} {meth : Method} {c : Code} {H : Heap} {locs : List Loc} {cells slots : Nat} {Q : State → Prop} {cc : ByteArray} {pc nL idx : Nat} {ls : Array Slot} {rest : List Value} {G : Geo} {x y : Mem} {oJ oD : Nat} {vj : Int64} {vd : UInt64} {A0 : Nat → Prop} {cd : Nat} {v : Int32} {z : Mem} (hx : p.tables.exec = Jvm.exec) (hb : c.code = cc) (hml : c.maxLocals = nL) (hown : s.vm.findClass RL = some m.cls) (htg : ∀ w ∈ wsG, w.before args s = true) (hst : l.stackTraces = false) (hXt : Xt s) (hZ : Zt G s H) (hA : ∀ q, H.size ≤ q → gF G q) (hK : Kt G s) (hW : Wh G x y H) (hO : Oh G oJ oD vj vd H) (hw : Ow G oJ oD) (hS : va_S A0 s.heap H locs) (hA0 : ∀ q, gW G oJ oD q → A0 q) (h : m_X11_restore x = some (cd, v, z)) (hcd : cd = 0 ∨ cd = 3) (hlk : Cond.methodLink RL idx yL_restore ∈ wsG) (hn : ls.size = nL) (hr : (rest.map fun v => v.category).sum ≤ 8) (hR1 : 7 + 1 ≤ R.frames) (hR2 : 8 + (3 + 11) + 110 ≤ R.locals) (hf : cells + 3 ≤ R.cells ∧ slots + 18 ≤ R.slots) (hdg : decode cc pc = .ok (.invokestatic idx, 3)) (kk : ∀ (H1 : Heap) (locs1 : List Loc), Wh G z y H1 → Oh G oJ oD (if cd = 0 then v.toInt64 else vj) vd H1 → va_S A0 s.heap H1 locs1 → (∀ q : Nat, q < H.size → ¬ gW G oJ oD q → H1[q]? = H[q]?) → H.size ≤ H1.size → W p l e R s m args below meth c H1 locs1 (cells + 3) (slots + 18) Q (F0 m (pc + 3) ls (.int (kO_restore cd) :: rest))) : W p l e R s m args below meth c H locs cells slots Q (F0 m pc ls (.ref oJ :: .ref (gA G 14 0 0) :: rest)) := by
  refine va_calli (vx_runSW (As := [.ref (gA G 14 0 0), .ref oJ]) (rest := rest) ⟨hx, hb, hml, hown, htg⟩ (cL_w_restore l hst G x y oJ oD hw vj vd h hcd) (vx_cwSW 2 htg (gd_S hlk q1241 q181 q1242) rfl rfl rfl (by decide +kernel) ⟨hR1, hR2⟩) ⟨fun a U g mk q => ⟨q.1, q.2.1.calling, q.2.2.1.calling, q.2.2.2.1.calling, q.2.2.2.2.1, q.2.2.2.2.2.1, q.2.2.2.2.2.2⟩, fun U hU hW9 => ⟨rfl, hK.warm hW9, hXt.warm hW9, by rw [hU]; exact hZ.moved hW9.alike, by rw [hU]; exact hA, by rw [hU]; exact hW, by rw [hU]; exact hO⟩⟩ rfl rfl hn rfl (lv_room hr) hdg hf) hS (fun q _ h9 => hA0 q h9) (fun q h9 => hA0 q h9) ?_
  intro r9 u t H1 locs1 ht hvm hw9 hB hz1 hk1 hS1
  obtain ⟨hB1, hB2⟩ := hB
  replace hB1 : Wh G z y t.heap := hB1
  rw [ht] at hB1 hB2
  replace hw9 : r9 = kO_restore cd := hw9
  subst hw9
  exact kk H1 locs1 hB1 hB2 hS1 hk1 hz1
