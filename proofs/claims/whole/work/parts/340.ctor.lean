/-! CONSTRUCTORS: what each address holds behind them (fi), straight walks -/
def aoW : List String := [RX0, RX9, RX5, RX1, RX2]
abbrev Ao (s : State) : Prop := ∀ C ∈ aoW, va_AO C s
theorem Bx.start {G : Geo} {fi : Nat → va_E} {h0 : Nat} {e : va_E} {H : Heap} (hz : H.size = h0 + 1) (hP : va_P G.1 vwCl [(h0, e)] H) : Bx G fi h0 [(h0, e)] (h0 + 1) H := ⟨hz, Nat.le_succ _, hP, ⟨fun i j p q hi hj _ => by have h1 := (List.getElem?_eq_some_iff.mp hi).1; have h2 := (List.getElem?_eq_some_iff.mp hj).1; simp at h1 h2; omega, fun k q hk => by have h1 := (List.getElem?_eq_some_iff.mp hk).1; simp at h1; subst h1; cases hk; exact Nat.le_refl _⟩, fun a h1 h2 h3 => absurd (show h0 = a by omega) (h3 0 _ rfl)⟩
theorem Bx.at_ {G : Geo} {fi : Nat → va_E} {B n a : Nat} {ws : va_W} {H : Heap} (h : Bx G fi B ws n H) (h1 : B ≤ a) (h2 : a < n) (h3 : ∀ (k : Nat) (q : Nat × va_E), ws[k]? = some q → q.1 ≠ a) : va_at G.1 vwCl (a, fi a) H := h.2.2.2.2 a h1 h2 h3
theorem df0 : ∀ j, j < 14 → defaultValue (tyX0 j) = vp_V [.int 0, .int 0, .int 0, .int 0, .int 0, .int 0, .int 0, .int 0, .int 0, .int 0, .int 0, .int 0, .int 0, .null] j := by decide +kernel
theorem df1 : ∀ j, j < 15 → defaultValue (tyX1 j) = vp_V [.int 0, .int 0, .int 0, .int 0, .int 0, .int 0, .int 0, .null, .null, .null, .null, .null, .null, .null, .null] j := by decide +kernel
theorem df2 : ∀ j, j < 10 → defaultValue (tyX2 j) = vp_V [.int 0, .int 0, .int 0, .int 0, .int 0, .int 0, .int 0, .int 0, .int 0, .int 0] j := by decide +kernel
theorem df3 : ∀ j, j < 7 → defaultValue (tyX3 j) = vp_V [.int 0, .null, .int 0, .int 0, .int 0, .null, .null] j := by decide +kernel
theorem df4 : ∀ j, j < 4 → defaultValue (tyX4 j) = vp_V [.int 0, .int 0, .null, .null] j := by decide +kernel
theorem df5 : ∀ j, j < 10 → defaultValue (tyX5 j) = vp_V [.int 0, .int 0, .int 0, .int 0, .int 0, .int 0, .int 0, .int 0, .int 0, .int 0] j := by decide +kernel
theorem df6 : ∀ j, j < 4 → defaultValue (tyX6 j) = vp_V [.int 0, .int 0, .null, .null] j := by decide +kernel
theorem df7 : ∀ j, j < 2 → defaultValue (tyX7 j) = vp_V [.int 0, .null] j := by decide +kernel
theorem df8 : ∀ j, j < 2 → defaultValue (tyX8 j) = vp_V [.null, .null] j := by decide +kernel
theorem df9 : ∀ j, j < 7 → defaultValue (tyX9 j) = vp_V [.int 0, .int 0, .int 0, .int 0, .int 0, .int 0, .null] j := by decide +kernel
theorem df10 : ∀ j, j < 3 → defaultValue (tyX10 j) = vp_V [.int 0, .null, .null] j := by decide +kernel
theorem df11 : ∀ j, j < 7 → defaultValue (tyX11 j) = vp_V [.null, .null, .null, .int 0, .null, .null, .null] j := by decide +kernel
theorem df12 : ∀ j, j < 63 → defaultValue (tyX12 j) = vp_V [.int 0, .null, .null, .null, .null, .null, .null, .null, .null, .null, .null, .null, .null, .null, .null, .null, .null, .null, .null, .null, .null, .null, .null, .null, .null, .null, .null, .null, .null, .null, .null, .null, .null, .int 0, .int 0, .int 0, .int 0, .int 0, .int 0, .int 0, .int 0, .null, .null, .null, .int 0, .int 0, .int 0, .null, .null, .null, .null, .int 0, .int 0, .int 0, .int 0, .null, .null, .null, .null, .int 0, .int 0, .int 0, .int 0] j := by decide +kernel
def FX_0 (G : Geo) (fi : Nat → va_E) (h0 : Nat) (p1 : Int32) : Prop := fi h0 = .inr (2, [.int p1, .int (255 : Int32), .int (0 : Int32), .int (-1 : Int32), .int 0, .int 0, .int 0, .int 0, .int 0, .int 0, .int 0, .int 0, .int 0, .ref (h0 + 1)]) ∧ fi (h0 + 1) = .inl (gT G 0, 30, .inl (fun _ => 0))
theorem FXo_0 {G : Geo} {fi : Nat → va_E} {h0 : Nat} {p1 : Int32} (h : FX_0 G fi h0 p1) : fi h0 = .inr (2, [.int p1, .int (255 : Int32), .int (0 : Int32), .int (-1 : Int32), .int 0, .int 0, .int 0, .int 0, .int 0, .int 0, .int 0, .int 0, .int 0, .ref (h0 + 1)]) := h.1
abbrev WSB_X0 : List Cond := .code yX0_init cX0_init 2 none :: wsG
abbrev RMB_X0 : Room := { frames := 1, cells := 1, slots := 30, locals := 12 }
set_option maxHeartbeats 40000000 in
set_option maxRecDepth 100000 in
theorem cb_X0 (l : Launch) (G : Geo) (fi : Nat → va_E) (h0 : Nat) (p1 : Int32) (hF : FX_0 G fi h0 p1) : Met l yX0_init WSB_X0 RMB_X0 (va_Pc [.ref h0, .int p1] (fun U => Kt G U ∧ Ao U ∧ U.heap.size = h0 + 1 ∧ va_P G.1 vwCl [(h0, .inr (2, [.int 0, .int 0, .int 0, .int 0, .int 0, .int 0, .int 0, .int 0, .int 0, .int 0, .int 0, .int 0, .int 0, .null]))] U.heap)) (va_Qv (fun _ : Unit => True) (fun _ t => t.heap.size = h0 + 2 ∧ ∀ a, h0 ≤ a → a < h0 + 2 → va_at G.1 vwCl (a, fi a) t.heap) (Bd h0)) 1 30 (Bd h0) := by
  refine Met.ofW (cc := cX0_init) (maxL := 2) (ret := none) (by decide) rfl ?_
  intro p e s m args below meth c s₁ B hml hv
  obtain ⟨rfl, hK, hAO, hsz, hP⟩ := hv
  unfold FX_0 at hF
  obtain ⟨hf_0, hf_1⟩ := hF
  have hx := B.exec
  have hb := B.bytes
  have hr := B.returns
  have hts := atoms_spec (ws := WSB_X0) B.pre
  have htg : ∀ w ∈ wsG, w.before _ s = true := fun w h => hts w (List.mem_cons_of_mem _ h)
  have hown : s.vm.findClass RX0 = some m.cls := findClass_of_methodNamed B.named
  have hlocks := B.notSynchronized
  have hin : meth.name = "<init>" := (name_of_methodNamed B.named B.method).1
  have hS : va_S (Bd h0) s.heap s.heap [] := va_S.rf
  have hX : Bx G fi h0 [(h0, .inr (2, [.int 0, .int 0, .int 0, .int 0, .int 0, .int 0, .int 0, .int 0, .int 0, .int 0, .int 0, .int 0, .int 0, .null]))] (h0 + 1) s.heap := Bx.start hsz hP
  have hl := lv_entry ([.ref h0, .int p1]) (n := 2) (Nat.le_of_ble_eq_true rfl)
  rw [lg_entry_eq]
  generalize (lg_sl ([.ref h0, .int p1]) ++ List.replicate (2 - (lg_sl ([.ref h0, .int p1])).length) Slot.unset).toArray = ls at hl ⊢
  have hl : lv_has ls 2 [(0, .ref h0), (1, .int p1)] := hl
  refine lv_aload_n hx hb dX0_init_0 rfl (lv_at hl 0 rfl) ?_
  refine W.objInit hx hb hown (htg _ q75) (htg _ q12) (htg _ q13) rfl (by rw [hml]; exact hl.1) rfl dX0_init_1 (Nat.le_of_ble_eq_true rfl) (Nat.le_of_ble_eq_true rfl) ?_
  refine W.eq (g2 := F0 m 4 ls []) rfl ?_
  refine lv_aload_n hx hb dX0_init_4 rfl (lv_at hl 0 rfl) ?_
  refine lv_iload_n hx hb dX0_init_5 rfl (lv_at hl 1 rfl) ?_
  refine bw_putF (ci := 2) (C := RX0) (T := TX0) (N := 14) (ty := .int) (v := .int p1) hx hb htg inG_wsX00 tyX0 tyX0_ok nmX0 hown hK hX hS 0 rfl rfl 0 (by decide) (htg _ q76) rfl hin rfl (by decide +kernel) rfl rfl (Nat.le_of_ble_eq_true rfl) dX0_init_6 (fun H locs hX hS => ?_)
  replace hX : Bx G fi h0 [(h0, .inr (2, [.int p1, .int 0, .int 0, .int 0, .int 0, .int 0, .int 0, .int 0, .int 0, .int 0, .int 0, .int 0, .int 0, .null]))] (h0 + 1) H := hX
  refine lv_aload_n hx hb dX0_init_9 rfl (lv_at hl 0 rfl) ?_
  refine lv_sipush (v := (255 : Int32)) hx hb dX0_init_10 (by decide) ?_
  refine bw_put (ci := 2) (C := RX0) (T := TX0) (N := 14) (ty := .int) (v := .int (255 : Int32)) hx hb htg inG_wsX00 tyX0 tyX0_ok nmX0 hown hK hX hS 0 rfl rfl 1 (by decide) (htg _ q77) rfl (by decide +kernel) rfl rfl (Nat.le_of_ble_eq_true rfl) dX0_init_13 (fun H locs hX hS => ?_)
  replace hX : Bx G fi h0 [(h0, .inr (2, [.int p1, .int (255 : Int32), .int 0, .int 0, .int 0, .int 0, .int 0, .int 0, .int 0, .int 0, .int 0, .int 0, .int 0, .null]))] (h0 + 1) H := hX
  refine lv_aload_n hx hb dX0_init_16 rfl (lv_at hl 0 rfl) ?_
  refine lv_iconst (v := (0 : Int32)) hx hb dX0_init_17 (by decide) ?_
  refine bw_put (ci := 2) (C := RX0) (T := TX0) (N := 14) (ty := .int) (v := .int (0 : Int32)) hx hb htg inG_wsX00 tyX0 tyX0_ok nmX0 hown hK hX hS 0 rfl rfl 2 (by decide) (htg _ q78) rfl (by decide +kernel) rfl rfl (Nat.le_of_ble_eq_true rfl) dX0_init_18 (fun H locs hX hS => ?_)
  replace hX : Bx G fi h0 [(h0, .inr (2, [.int p1, .int (255 : Int32), .int (0 : Int32), .int 0, .int 0, .int 0, .int 0, .int 0, .int 0, .int 0, .int 0, .int 0, .int 0, .null]))] (h0 + 1) H := hX
  refine lv_aload_n hx hb dX0_init_21 rfl (lv_at hl 0 rfl) ?_
  refine lv_iconst (v := (-1 : Int32)) hx hb dX0_init_22 (by decide) ?_
  refine bw_put (ci := 2) (C := RX0) (T := TX0) (N := 14) (ty := .int) (v := .int (-1 : Int32)) hx hb htg inG_wsX00 tyX0 tyX0_ok nmX0 hown hK hX hS 0 rfl rfl 3 (by decide) (htg _ q79) rfl (by decide +kernel) rfl rfl (Nat.le_of_ble_eq_true rfl) dX0_init_23 (fun H locs hX hS => ?_)
  replace hX : Bx G fi h0 [(h0, .inr (2, [.int p1, .int (255 : Int32), .int (0 : Int32), .int (-1 : Int32), .int 0, .int 0, .int 0, .int 0, .int 0, .int 0, .int 0, .int 0, .int 0, .null]))] (h0 + 1) H := hX
  refine lv_aload_n hx hb dX0_init_26 rfl (lv_at hl 0 rfl) ?_
  refine lv_bipush (v := (30 : Int32)) hx hb dX0_init_27 (by decide) ?_
  refine bw_newa (N := 30) hx hb (htg _ q64) hK hX hS (by decide) (by decide) (by decide) (Nat.le_of_ble_eq_true rfl) (Nat.le_of_ble_eq_true rfl) dX0_init_29 (fun H hX hS => ?_)
  replace hX := Bx.drop (ws := [(h0, .inr (2, [.int p1, .int (255 : Int32), .int (0 : Int32), .int (-1 : Int32), .int 0, .int 0, .int 0, .int 0, .int 0, .int 0, .int 0, .int 0, .int 0, .null]))]) (a := (h0 + 1)) (e := .inl (gT G 0, 30, .inl (fun _ => 0))) hX (by rw [hf_1]; exact id)
  replace hX : Bx G fi h0 [(h0, .inr (2, [.int p1, .int (255 : Int32), .int (0 : Int32), .int (-1 : Int32), .int 0, .int 0, .int 0, .int 0, .int 0, .int 0, .int 0, .int 0, .int 0, .null]))] (h0 + 2) H := hX
  refine bw_putF (ci := 2) (C := RX0) (T := TX0) (N := 14) (ty := .array .int) (v := .ref (h0 + 1)) hx hb htg inG_wsX00 tyX0 tyX0_ok nmX0 hown hK hX hS 0 rfl rfl 13 (by decide) (htg _ q80) rfl hin rfl (by decide +kernel) rfl rfl (Nat.le_of_ble_eq_true rfl) dX0_init_31 (fun H locs hX hS => ?_)
  replace hX : Bx G fi h0 [(h0, .inr (2, [.int p1, .int (255 : Int32), .int (0 : Int32), .int (-1 : Int32), .int 0, .int 0, .int 0, .int 0, .int 0, .int 0, .int 0, .int 0, .int 0, .ref (h0 + 1)]))] (h0 + 2) H := hX
  replace hX := Bx.drop (ws := []) (a := h0) (e := .inr (2, [.int p1, .int (255 : Int32), .int (0 : Int32), .int (-1 : Int32), .int 0, .int 0, .int 0, .int 0, .int 0, .int 0, .int 0, .int 0, .int 0, .ref (h0 + 1)])) hX (by rw [hf_0]; exact id)
  replace hX : Bx G fi h0 [] (h0 + 2) H := hX
  refine W.widen (k := 1) (n := 30) (Nat.le_of_ble_eq_true rfl) (Nat.le_of_ble_eq_true rfl) ?_
  exact W.vret hx hb hr (fun t ht hW9 => ⟨⟨(), rfl, trivial, by first | (subst ht; exact ⟨hX.1, hX.all⟩) | (show t.heap.size = _ ∧ _; rw [ht]; exact ⟨hX.1, hX.all⟩)⟩, hS.F ht⟩) hS.2.2 dX0_init_34
set_option maxHeartbeats 40000000 in
theorem kb_X0 {p : Program} {l : Launch} {e : Env} {R : Room} {s : State} {m : MethodId} {args : Array Value} {below : List Frame} {meth : Method} {c : Code} {H : Heap} {locs : List Loc} {cells slots : Nat} {Q : State → Prop} {cc : ByteArray} {pc nL idx : Nat} {own : String} {ls : Array Slot} {rest : List Value} {G : Geo} {fi : Nat → va_E} {B n : Nat} {ws : va_W} {H0 : Heap} {p1 : Int32} (hx : p.tables.exec = Jvm.exec) (hb : c.code = cc) (hml : c.maxLocals = nL) (hown : s.vm.findClass own = some m.cls) (htg : ∀ w ∈ wsG, w.before args s = true) (hK : Kt G s) (hAO : Ao s) (hX : Bx G fi B (ws ++ [(n, .inr (2, [.int 0, .int 0, .int 0, .int 0, .int 0, .int 0, .int 0, .int 0, .int 0, .int 0, .int 0, .int 0, .int 0, .null]))]) (n + 1) H) (hS : va_S (Bd B) H0 H locs) (hF : FX_0 G fi n p1) (hlk : Cond.methodLink own idx yX0_init ∈ wsG) (hn : ls.size = nL) (hr : (rest.map fun v => v.category).sum ≤ 8) (hR1 : 1 + 1 ≤ R.frames) (hR2 : 8 + (2 + 11) + 12 ≤ R.locals) (hc1 : cells + 1 ≤ R.cells) (hc2 : slots + 30 ≤ R.slots) (hdg : decode cc pc = .ok (.invokespecial idx, 3)) (kk : ∀ (H1 : Heap) (locs1 : List Loc), Bx G fi B ws (n + 1 + 1) H1 → va_S (Bd B) H0 H1 locs1 → W p l e R s m args below meth c H1 locs1 (cells + 1) (slots + 30) Q (F0 m (pc + 3) ls rest)) : W p l e R s m args below meth c H locs cells slots Q (F0 m pc ls (.int p1 :: .ref n :: rest)) := by
  have hB : B ≤ n := by have h1 := hX.2.2.2.1.2 ws.length (n, .inr (2, [.int 0, .int 0, .int 0, .int 0, .int 0, .int 0, .int 0, .int 0, .int 0, .int 0, .int 0, .int 0, .int 0, .null])) (by simp); exact h1
  have hPn : va_P G.1 vwCl [(n, .inr (2, [.int 0, .int 0, .int 0, .int 0, .int 0, .int 0, .int 0, .int 0, .int 0, .int 0, .int 0, .int 0, .int 0, .null]))] H := va_P_r hX.2.2.1
  refine va_callv (va_runI (As := [.int p1]) (rest := rest) ⟨hx, hb, hml, hown, htg⟩ (cb_X0 l G fi n p1 hF) (cwI 1 htg (gd_all q74) rfl rfl rfl (htg _ q47) (htg _ hlk) (htg _ q73) rfl (by decide +kernel) ⟨hR1, hR2⟩) ⟨fun a U g mk q => ⟨q.1, q.2.1.calling, fun C hC => va_AO.moved (u := U) (U := U.calling g mk a) (Vm.Alike.refl U.vm) (q.2.2.1 C hC), q.2.2.2.1, q.2.2.2.2⟩, fun U hU hW9 => ⟨rfl, hK.warm hW9, fun C hC => va_AO.moved hW9.alike (hAO C hC), by rw [hU]; exact hX.1, by rw [hU]; exact hPn⟩⟩ rfl rfl hn rfl (lv_room hr) hdg ⟨hc1, hc2⟩) hS (fun q _ h9 => Nat.le_trans hB h9) (fun q h9 => Nat.le_trans hB h9) ?_
  intro u t H1 locs1 ht hvm hw hB9 hz1 hk1 hS1
  obtain ⟨hB1, hB2⟩ := hB9
  rw [ht] at hB1 hB2
  exact kk H1 locs1 (hX.call (k := 1) (hB1.trans (by omega)) (fun a h1 h2 => hB2 a h1 (by omega)) (fun q9 hq9 => hk1 q9 (by rw [hX.1]; omega) (Nat.not_le.mpr hq9))) hS1
def FX_10 (G : Geo) (fi : Nat → va_E) (h0 : Nat) : Prop := fi h0 = .inr (12, [.int 0, .ref (h0 + 1), .ref (h0 + 2)]) ∧ fi (h0 + 1) = .inl (gT G 0, 8, .inl (upd (upd (upd (upd (upd (upd (upd (upd (fun _ => 0) 0 (1 : Int32)) 1 (2 : Int32)) 2 (4 : Int32)) 3 (8 : Int32)) 4 (16 : Int32)) 5 (32 : Int32)) 6 (64 : Int32)) 7 (128 : Int32))) ∧ fi (h0 + 2) = .inl (gT G 0, 8, .inl (fun _ => 0))
theorem FXo_10 {G : Geo} {fi : Nat → va_E} {h0 : Nat} (h : FX_10 G fi h0) : fi h0 = .inr (12, [.int 0, .ref (h0 + 1), .ref (h0 + 2)]) := h.1
abbrev WSB_X10 : List Cond := .code yX10_init cX10_init 2 none :: wsG
abbrev RMB_X10 : Room := { frames := 1, cells := 2, slots := 16, locals := 12 }
set_option maxHeartbeats 40000000 in
set_option maxRecDepth 100000 in
theorem cb_X10 (l : Launch) (G : Geo) (fi : Nat → va_E) (h0 : Nat) (hF : FX_10 G fi h0) : Met l yX10_init WSB_X10 RMB_X10 (va_Pc [.ref h0] (fun U => Kt G U ∧ Ao U ∧ U.heap.size = h0 + 1 ∧ va_P G.1 vwCl [(h0, .inr (12, [.int 0, .null, .null]))] U.heap)) (va_Qv (fun _ : Unit => True) (fun _ t => t.heap.size = h0 + 3 ∧ ∀ a, h0 ≤ a → a < h0 + 3 → va_at G.1 vwCl (a, fi a) t.heap) (Bd h0)) 2 16 (Bd h0) := by
  refine Met.ofW (cc := cX10_init) (maxL := 2) (ret := none) (by decide) rfl ?_
  intro p e s m args below meth c s₁ B hml hv
  obtain ⟨rfl, hK, hAO, hsz, hP⟩ := hv
  unfold FX_10 at hF
  obtain ⟨hf_0, hf_1, hf_2⟩ := hF
  have hx := B.exec
  have hb := B.bytes
  have hr := B.returns
  have hts := atoms_spec (ws := WSB_X10) B.pre
  have htg : ∀ w ∈ wsG, w.before _ s = true := fun w h => hts w (List.mem_cons_of_mem _ h)
  have hown : s.vm.findClass RX10 = some m.cls := findClass_of_methodNamed B.named
  have hlocks := B.notSynchronized
  have hin : meth.name = "<init>" := (name_of_methodNamed B.named B.method).1
  have hS : va_S (Bd h0) s.heap s.heap [] := va_S.rf
  have hX : Bx G fi h0 [(h0, .inr (12, [.int 0, .null, .null]))] (h0 + 1) s.heap := Bx.start hsz hP
  have hl := lv_entry ([.ref h0]) (n := 2) (Nat.le_of_ble_eq_true rfl)
  rw [lg_entry_eq]
  generalize (lg_sl ([.ref h0]) ++ List.replicate (2 - (lg_sl ([.ref h0])).length) Slot.unset).toArray = ls at hl ⊢
  have hl : lv_has ls 2 [(0, .ref h0)] := hl
  refine lv_aload_n hx hb dX10_init_0 rfl (lv_at hl 0 rfl) ?_
  refine W.objInit hx hb hown (htg _ q63) (htg _ q12) (htg _ q13) rfl (by rw [hml]; exact hl.1) rfl dX10_init_1 (Nat.le_of_ble_eq_true rfl) (Nat.le_of_ble_eq_true rfl) ?_
  refine W.eq (g2 := F0 m 4 ls []) rfl ?_
  refine lv_aload_n hx hb dX10_init_4 rfl (lv_at hl 0 rfl) ?_
  refine lv_bipush (v := (8 : Int32)) hx hb dX10_init_5 (by decide) ?_
  refine bw_newa (N := 8) hx hb (htg _ q64) hK hX hS (by decide) (by decide) (by decide) (Nat.le_of_ble_eq_true rfl) (Nat.le_of_ble_eq_true rfl) dX10_init_7 (fun H hX hS => ?_)
  replace hX : Bx G fi h0 [(h0, .inr (12, [.int 0, .null, .null])), ((h0 + 1), .inl (gT G 0, 8, .inl (fun _ => 0)))] (h0 + 2) H := hX
  refine bw_putF (ci := 12) (C := RX10) (T := TX10) (N := 3) (ty := .array .int) (v := .ref (h0 + 1)) hx hb htg inG_wsX100 tyX10 tyX10_ok nmX10 hown hK hX hS 0 rfl rfl 1 (by decide) (htg _ q65) rfl hin rfl (by decide +kernel) rfl rfl (Nat.le_of_ble_eq_true rfl) dX10_init_9 (fun H locs hX hS => ?_)
  replace hX : Bx G fi h0 [(h0, .inr (12, [.int 0, .ref (h0 + 1), .null])), ((h0 + 1), .inl (gT G 0, 8, .inl (fun _ => 0)))] (h0 + 2) H := hX
  refine lv_aload_n hx hb dX10_init_12 rfl (lv_at hl 0 rfl) ?_
  refine lv_bipush (v := (8 : Int32)) hx hb dX10_init_13 (by decide) ?_
  refine bw_newa (N := 8) hx hb (htg _ q64) hK hX hS (by decide) (by decide) (by decide) (Nat.le_of_ble_eq_true rfl) (Nat.le_of_ble_eq_true rfl) dX10_init_15 (fun H hX hS => ?_)
  replace hX := Bx.drop (ws := [(h0, .inr (12, [.int 0, .ref (h0 + 1), .null])), ((h0 + 1), .inl (gT G 0, 8, .inl (fun _ => 0)))]) (a := (h0 + 2)) (e := .inl (gT G 0, 8, .inl (fun _ => 0))) hX (by rw [hf_2]; exact id)
  replace hX : Bx G fi h0 [(h0, .inr (12, [.int 0, .ref (h0 + 1), .null])), ((h0 + 1), .inl (gT G 0, 8, .inl (fun _ => 0)))] (h0 + 3) H := hX
  refine bw_putF (ci := 12) (C := RX10) (T := TX10) (N := 3) (ty := .array .int) (v := .ref (h0 + 2)) hx hb htg inG_wsX100 tyX10 tyX10_ok nmX10 hown hK hX hS 0 rfl rfl 2 (by decide) (htg _ q66) rfl hin rfl (by decide +kernel) rfl rfl (Nat.le_of_ble_eq_true rfl) dX10_init_17 (fun H locs hX hS => ?_)
  replace hX : Bx G fi h0 [(h0, .inr (12, [.int 0, .ref (h0 + 1), .ref (h0 + 2)])), ((h0 + 1), .inl (gT G 0, 8, .inl (fun _ => 0)))] (h0 + 3) H := hX
  refine lv_iconst (v := (0 : Int32)) hx hb dX10_init_20 (by decide) ?_
  refine lv_istore_n (lv' := [(1, .int (0 : Int32)), (0, .ref h0)]) hx hb dX10_init_21 rfl hl (by decide) rfl (fun ls hl => ?_)
  refine lv_iload_n hx hb dX10_init_22 rfl (lv_at hl 0 rfl) ?_
  refine lv_aload_n hx hb dX10_init_23 rfl (lv_at hl 1 rfl) ?_
  refine bw_get (ci := 12) (C := RX10) (T := TX10) (N := 3) (v := .ref (h0 + 1)) hx hb htg inG_wsX100 hown hK hX 0 rfl rfl 1 (by decide) (htg _ q65) rfl dX10_init_24 ?_
  refine va_alen hx hb hK.1 hX.2.2.1 1 0 rfl rfl rfl dX10_init_27 ?_
  rw [show Int32.ofNat 8 = (8 : Int32) from rfl]
  refine lv_icmp_ge (tgt := 46) hx hb dX10_init_28 (by decide) (fun c9 => absurd c9 (by decide)) (fun _ => ?_)
  refine lv_aload_n hx hb dX10_init_31 rfl (lv_at hl 1 rfl) ?_
  refine bw_get (ci := 12) (C := RX10) (T := TX10) (N := 3) (v := .ref (h0 + 1)) hx hb htg inG_wsX100 hown hK hX 0 rfl rfl 1 (by decide) (htg _ q65) rfl dX10_init_32 ?_
  refine lv_iload_n hx hb dX10_init_35 rfl (lv_at hl 0 rfl) ?_
  refine lv_iconst (v := (1 : Int32)) hx hb dX10_init_36 (by decide) ?_
  refine lv_iload_n hx hb dX10_init_37 rfl (lv_at hl 0 rfl) ?_
  refine lv_ishl hx hb dX10_init_38 ?_
  rw [show (1 : Int32) <<< ((0 : Int32) &&& 31) = (1 : Int32) from by decide]
  refine bw_iast hx hb hK hX hS 1 rfl (inR_in (by decide)) dX10_init_39 (fun H locs hX hS => ?_)
  replace hX : Bx G fi h0 [(h0, .inr (12, [.int 0, .ref (h0 + 1), .ref (h0 + 2)])), ((h0 + 1), .inl (gT G 0, 8, .inl (upd (fun _ => 0) 0 (1 : Int32))))] (h0 + 3) H := hX
  refine lv_iinc (v := (1 : Int32)) (lv' := [(1, .int (1 : Int32)), (0, .ref h0)]) hx hb dX10_init_40 hl (k := 0) rfl (by decide) (by decide) rfl (fun ls hl => ?_)
  refine lv_goto (tgt := 22) hx hb dX10_init_43 (by decide) ?_
  refine lv_iload_n hx hb dX10_init_22 rfl (lv_at hl 0 rfl) ?_
  refine lv_aload_n hx hb dX10_init_23 rfl (lv_at hl 1 rfl) ?_
  refine bw_get (ci := 12) (C := RX10) (T := TX10) (N := 3) (v := .ref (h0 + 1)) hx hb htg inG_wsX100 hown hK hX 0 rfl rfl 1 (by decide) (htg _ q65) rfl dX10_init_24 ?_
  refine va_alen hx hb hK.1 hX.2.2.1 1 0 rfl rfl rfl dX10_init_27 ?_
  rw [show Int32.ofNat 8 = (8 : Int32) from rfl]
  refine lv_icmp_ge (tgt := 46) hx hb dX10_init_28 (by decide) (fun c9 => absurd c9 (by decide)) (fun _ => ?_)
  refine lv_aload_n hx hb dX10_init_31 rfl (lv_at hl 1 rfl) ?_
  refine bw_get (ci := 12) (C := RX10) (T := TX10) (N := 3) (v := .ref (h0 + 1)) hx hb htg inG_wsX100 hown hK hX 0 rfl rfl 1 (by decide) (htg _ q65) rfl dX10_init_32 ?_
  refine lv_iload_n hx hb dX10_init_35 rfl (lv_at hl 0 rfl) ?_
  refine lv_iconst (v := (1 : Int32)) hx hb dX10_init_36 (by decide) ?_
  refine lv_iload_n hx hb dX10_init_37 rfl (lv_at hl 0 rfl) ?_
  refine lv_ishl hx hb dX10_init_38 ?_
  rw [show (1 : Int32) <<< ((1 : Int32) &&& 31) = (2 : Int32) from by decide]
  refine bw_iast hx hb hK hX hS 1 rfl (inR_in (by decide)) dX10_init_39 (fun H locs hX hS => ?_)
  replace hX : Bx G fi h0 [(h0, .inr (12, [.int 0, .ref (h0 + 1), .ref (h0 + 2)])), ((h0 + 1), .inl (gT G 0, 8, .inl (upd (upd (fun _ => 0) 0 (1 : Int32)) 1 (2 : Int32))))] (h0 + 3) H := hX
  refine lv_iinc (v := (2 : Int32)) (lv' := [(1, .int (2 : Int32)), (0, .ref h0)]) hx hb dX10_init_40 hl (k := 0) rfl (by decide) (by decide) rfl (fun ls hl => ?_)
  refine lv_goto (tgt := 22) hx hb dX10_init_43 (by decide) ?_
  refine lv_iload_n hx hb dX10_init_22 rfl (lv_at hl 0 rfl) ?_
  refine lv_aload_n hx hb dX10_init_23 rfl (lv_at hl 1 rfl) ?_
  refine bw_get (ci := 12) (C := RX10) (T := TX10) (N := 3) (v := .ref (h0 + 1)) hx hb htg inG_wsX100 hown hK hX 0 rfl rfl 1 (by decide) (htg _ q65) rfl dX10_init_24 ?_
  refine va_alen hx hb hK.1 hX.2.2.1 1 0 rfl rfl rfl dX10_init_27 ?_
  rw [show Int32.ofNat 8 = (8 : Int32) from rfl]
  refine lv_icmp_ge (tgt := 46) hx hb dX10_init_28 (by decide) (fun c9 => absurd c9 (by decide)) (fun _ => ?_)
  refine lv_aload_n hx hb dX10_init_31 rfl (lv_at hl 1 rfl) ?_
  refine bw_get (ci := 12) (C := RX10) (T := TX10) (N := 3) (v := .ref (h0 + 1)) hx hb htg inG_wsX100 hown hK hX 0 rfl rfl 1 (by decide) (htg _ q65) rfl dX10_init_32 ?_
  refine lv_iload_n hx hb dX10_init_35 rfl (lv_at hl 0 rfl) ?_
  refine lv_iconst (v := (1 : Int32)) hx hb dX10_init_36 (by decide) ?_
  refine lv_iload_n hx hb dX10_init_37 rfl (lv_at hl 0 rfl) ?_
  refine lv_ishl hx hb dX10_init_38 ?_
  rw [show (1 : Int32) <<< ((2 : Int32) &&& 31) = (4 : Int32) from by decide]
  refine bw_iast hx hb hK hX hS 1 rfl (inR_in (by decide)) dX10_init_39 (fun H locs hX hS => ?_)
  replace hX : Bx G fi h0 [(h0, .inr (12, [.int 0, .ref (h0 + 1), .ref (h0 + 2)])), ((h0 + 1), .inl (gT G 0, 8, .inl (upd (upd (upd (fun _ => 0) 0 (1 : Int32)) 1 (2 : Int32)) 2 (4 : Int32))))] (h0 + 3) H := hX
  refine lv_iinc (v := (3 : Int32)) (lv' := [(1, .int (3 : Int32)), (0, .ref h0)]) hx hb dX10_init_40 hl (k := 0) rfl (by decide) (by decide) rfl (fun ls hl => ?_)
  refine lv_goto (tgt := 22) hx hb dX10_init_43 (by decide) ?_
  refine lv_iload_n hx hb dX10_init_22 rfl (lv_at hl 0 rfl) ?_
  refine lv_aload_n hx hb dX10_init_23 rfl (lv_at hl 1 rfl) ?_
  refine bw_get (ci := 12) (C := RX10) (T := TX10) (N := 3) (v := .ref (h0 + 1)) hx hb htg inG_wsX100 hown hK hX 0 rfl rfl 1 (by decide) (htg _ q65) rfl dX10_init_24 ?_
  refine va_alen hx hb hK.1 hX.2.2.1 1 0 rfl rfl rfl dX10_init_27 ?_
  rw [show Int32.ofNat 8 = (8 : Int32) from rfl]
  refine lv_icmp_ge (tgt := 46) hx hb dX10_init_28 (by decide) (fun c9 => absurd c9 (by decide)) (fun _ => ?_)
  refine lv_aload_n hx hb dX10_init_31 rfl (lv_at hl 1 rfl) ?_
  refine bw_get (ci := 12) (C := RX10) (T := TX10) (N := 3) (v := .ref (h0 + 1)) hx hb htg inG_wsX100 hown hK hX 0 rfl rfl 1 (by decide) (htg _ q65) rfl dX10_init_32 ?_
  refine lv_iload_n hx hb dX10_init_35 rfl (lv_at hl 0 rfl) ?_
  refine lv_iconst (v := (1 : Int32)) hx hb dX10_init_36 (by decide) ?_
  refine lv_iload_n hx hb dX10_init_37 rfl (lv_at hl 0 rfl) ?_
  refine lv_ishl hx hb dX10_init_38 ?_
  rw [show (1 : Int32) <<< ((3 : Int32) &&& 31) = (8 : Int32) from by decide]
  refine bw_iast hx hb hK hX hS 1 rfl (inR_in (by decide)) dX10_init_39 (fun H locs hX hS => ?_)
  replace hX : Bx G fi h0 [(h0, .inr (12, [.int 0, .ref (h0 + 1), .ref (h0 + 2)])), ((h0 + 1), .inl (gT G 0, 8, .inl (upd (upd (upd (upd (fun _ => 0) 0 (1 : Int32)) 1 (2 : Int32)) 2 (4 : Int32)) 3 (8 : Int32))))] (h0 + 3) H := hX
  refine lv_iinc (v := (4 : Int32)) (lv' := [(1, .int (4 : Int32)), (0, .ref h0)]) hx hb dX10_init_40 hl (k := 0) rfl (by decide) (by decide) rfl (fun ls hl => ?_)
  refine lv_goto (tgt := 22) hx hb dX10_init_43 (by decide) ?_
  refine lv_iload_n hx hb dX10_init_22 rfl (lv_at hl 0 rfl) ?_
  refine lv_aload_n hx hb dX10_init_23 rfl (lv_at hl 1 rfl) ?_
  refine bw_get (ci := 12) (C := RX10) (T := TX10) (N := 3) (v := .ref (h0 + 1)) hx hb htg inG_wsX100 hown hK hX 0 rfl rfl 1 (by decide) (htg _ q65) rfl dX10_init_24 ?_
  refine va_alen hx hb hK.1 hX.2.2.1 1 0 rfl rfl rfl dX10_init_27 ?_
  rw [show Int32.ofNat 8 = (8 : Int32) from rfl]
  refine lv_icmp_ge (tgt := 46) hx hb dX10_init_28 (by decide) (fun c9 => absurd c9 (by decide)) (fun _ => ?_)
  refine lv_aload_n hx hb dX10_init_31 rfl (lv_at hl 1 rfl) ?_
  refine bw_get (ci := 12) (C := RX10) (T := TX10) (N := 3) (v := .ref (h0 + 1)) hx hb htg inG_wsX100 hown hK hX 0 rfl rfl 1 (by decide) (htg _ q65) rfl dX10_init_32 ?_
  refine lv_iload_n hx hb dX10_init_35 rfl (lv_at hl 0 rfl) ?_
  refine lv_iconst (v := (1 : Int32)) hx hb dX10_init_36 (by decide) ?_
  refine lv_iload_n hx hb dX10_init_37 rfl (lv_at hl 0 rfl) ?_
  refine lv_ishl hx hb dX10_init_38 ?_
  rw [show (1 : Int32) <<< ((4 : Int32) &&& 31) = (16 : Int32) from by decide]
  refine bw_iast hx hb hK hX hS 1 rfl (inR_in (by decide)) dX10_init_39 (fun H locs hX hS => ?_)
  replace hX : Bx G fi h0 [(h0, .inr (12, [.int 0, .ref (h0 + 1), .ref (h0 + 2)])), ((h0 + 1), .inl (gT G 0, 8, .inl (upd (upd (upd (upd (upd (fun _ => 0) 0 (1 : Int32)) 1 (2 : Int32)) 2 (4 : Int32)) 3 (8 : Int32)) 4 (16 : Int32))))] (h0 + 3) H := hX
  refine lv_iinc (v := (5 : Int32)) (lv' := [(1, .int (5 : Int32)), (0, .ref h0)]) hx hb dX10_init_40 hl (k := 0) rfl (by decide) (by decide) rfl (fun ls hl => ?_)
  refine lv_goto (tgt := 22) hx hb dX10_init_43 (by decide) ?_
  refine lv_iload_n hx hb dX10_init_22 rfl (lv_at hl 0 rfl) ?_
  refine lv_aload_n hx hb dX10_init_23 rfl (lv_at hl 1 rfl) ?_
  refine bw_get (ci := 12) (C := RX10) (T := TX10) (N := 3) (v := .ref (h0 + 1)) hx hb htg inG_wsX100 hown hK hX 0 rfl rfl 1 (by decide) (htg _ q65) rfl dX10_init_24 ?_
  refine va_alen hx hb hK.1 hX.2.2.1 1 0 rfl rfl rfl dX10_init_27 ?_
  rw [show Int32.ofNat 8 = (8 : Int32) from rfl]
  refine lv_icmp_ge (tgt := 46) hx hb dX10_init_28 (by decide) (fun c9 => absurd c9 (by decide)) (fun _ => ?_)
  refine lv_aload_n hx hb dX10_init_31 rfl (lv_at hl 1 rfl) ?_
  refine bw_get (ci := 12) (C := RX10) (T := TX10) (N := 3) (v := .ref (h0 + 1)) hx hb htg inG_wsX100 hown hK hX 0 rfl rfl 1 (by decide) (htg _ q65) rfl dX10_init_32 ?_
  refine lv_iload_n hx hb dX10_init_35 rfl (lv_at hl 0 rfl) ?_
  refine lv_iconst (v := (1 : Int32)) hx hb dX10_init_36 (by decide) ?_
  refine lv_iload_n hx hb dX10_init_37 rfl (lv_at hl 0 rfl) ?_
  refine lv_ishl hx hb dX10_init_38 ?_
  rw [show (1 : Int32) <<< ((5 : Int32) &&& 31) = (32 : Int32) from by decide]
  refine bw_iast hx hb hK hX hS 1 rfl (inR_in (by decide)) dX10_init_39 (fun H locs hX hS => ?_)
  replace hX : Bx G fi h0 [(h0, .inr (12, [.int 0, .ref (h0 + 1), .ref (h0 + 2)])), ((h0 + 1), .inl (gT G 0, 8, .inl (upd (upd (upd (upd (upd (upd (fun _ => 0) 0 (1 : Int32)) 1 (2 : Int32)) 2 (4 : Int32)) 3 (8 : Int32)) 4 (16 : Int32)) 5 (32 : Int32))))] (h0 + 3) H := hX
  refine lv_iinc (v := (6 : Int32)) (lv' := [(1, .int (6 : Int32)), (0, .ref h0)]) hx hb dX10_init_40 hl (k := 0) rfl (by decide) (by decide) rfl (fun ls hl => ?_)
  refine lv_goto (tgt := 22) hx hb dX10_init_43 (by decide) ?_
  refine lv_iload_n hx hb dX10_init_22 rfl (lv_at hl 0 rfl) ?_
  refine lv_aload_n hx hb dX10_init_23 rfl (lv_at hl 1 rfl) ?_
  refine bw_get (ci := 12) (C := RX10) (T := TX10) (N := 3) (v := .ref (h0 + 1)) hx hb htg inG_wsX100 hown hK hX 0 rfl rfl 1 (by decide) (htg _ q65) rfl dX10_init_24 ?_
  refine va_alen hx hb hK.1 hX.2.2.1 1 0 rfl rfl rfl dX10_init_27 ?_
  rw [show Int32.ofNat 8 = (8 : Int32) from rfl]
  refine lv_icmp_ge (tgt := 46) hx hb dX10_init_28 (by decide) (fun c9 => absurd c9 (by decide)) (fun _ => ?_)
  refine lv_aload_n hx hb dX10_init_31 rfl (lv_at hl 1 rfl) ?_
  refine bw_get (ci := 12) (C := RX10) (T := TX10) (N := 3) (v := .ref (h0 + 1)) hx hb htg inG_wsX100 hown hK hX 0 rfl rfl 1 (by decide) (htg _ q65) rfl dX10_init_32 ?_
  refine lv_iload_n hx hb dX10_init_35 rfl (lv_at hl 0 rfl) ?_
  refine lv_iconst (v := (1 : Int32)) hx hb dX10_init_36 (by decide) ?_
  refine lv_iload_n hx hb dX10_init_37 rfl (lv_at hl 0 rfl) ?_
  refine lv_ishl hx hb dX10_init_38 ?_
  rw [show (1 : Int32) <<< ((6 : Int32) &&& 31) = (64 : Int32) from by decide]
  refine bw_iast hx hb hK hX hS 1 rfl (inR_in (by decide)) dX10_init_39 (fun H locs hX hS => ?_)
  replace hX : Bx G fi h0 [(h0, .inr (12, [.int 0, .ref (h0 + 1), .ref (h0 + 2)])), ((h0 + 1), .inl (gT G 0, 8, .inl (upd (upd (upd (upd (upd (upd (upd (fun _ => 0) 0 (1 : Int32)) 1 (2 : Int32)) 2 (4 : Int32)) 3 (8 : Int32)) 4 (16 : Int32)) 5 (32 : Int32)) 6 (64 : Int32))))] (h0 + 3) H := hX
  refine lv_iinc (v := (7 : Int32)) (lv' := [(1, .int (7 : Int32)), (0, .ref h0)]) hx hb dX10_init_40 hl (k := 0) rfl (by decide) (by decide) rfl (fun ls hl => ?_)
  refine lv_goto (tgt := 22) hx hb dX10_init_43 (by decide) ?_
  refine lv_iload_n hx hb dX10_init_22 rfl (lv_at hl 0 rfl) ?_
  refine lv_aload_n hx hb dX10_init_23 rfl (lv_at hl 1 rfl) ?_
  refine bw_get (ci := 12) (C := RX10) (T := TX10) (N := 3) (v := .ref (h0 + 1)) hx hb htg inG_wsX100 hown hK hX 0 rfl rfl 1 (by decide) (htg _ q65) rfl dX10_init_24 ?_
  refine va_alen hx hb hK.1 hX.2.2.1 1 0 rfl rfl rfl dX10_init_27 ?_
  rw [show Int32.ofNat 8 = (8 : Int32) from rfl]
  refine lv_icmp_ge (tgt := 46) hx hb dX10_init_28 (by decide) (fun c9 => absurd c9 (by decide)) (fun _ => ?_)
  refine lv_aload_n hx hb dX10_init_31 rfl (lv_at hl 1 rfl) ?_
  refine bw_get (ci := 12) (C := RX10) (T := TX10) (N := 3) (v := .ref (h0 + 1)) hx hb htg inG_wsX100 hown hK hX 0 rfl rfl 1 (by decide) (htg _ q65) rfl dX10_init_32 ?_
  refine lv_iload_n hx hb dX10_init_35 rfl (lv_at hl 0 rfl) ?_
  refine lv_iconst (v := (1 : Int32)) hx hb dX10_init_36 (by decide) ?_
  refine lv_iload_n hx hb dX10_init_37 rfl (lv_at hl 0 rfl) ?_
  refine lv_ishl hx hb dX10_init_38 ?_
  rw [show (1 : Int32) <<< ((7 : Int32) &&& 31) = (128 : Int32) from by decide]
  refine bw_iast hx hb hK hX hS 1 rfl (inR_in (by decide)) dX10_init_39 (fun H locs hX hS => ?_)
  replace hX : Bx G fi h0 [(h0, .inr (12, [.int 0, .ref (h0 + 1), .ref (h0 + 2)])), ((h0 + 1), .inl (gT G 0, 8, .inl (upd (upd (upd (upd (upd (upd (upd (upd (fun _ => 0) 0 (1 : Int32)) 1 (2 : Int32)) 2 (4 : Int32)) 3 (8 : Int32)) 4 (16 : Int32)) 5 (32 : Int32)) 6 (64 : Int32)) 7 (128 : Int32))))] (h0 + 3) H := hX
  refine lv_iinc (v := (8 : Int32)) (lv' := [(1, .int (8 : Int32)), (0, .ref h0)]) hx hb dX10_init_40 hl (k := 0) rfl (by decide) (by decide) rfl (fun ls hl => ?_)
  refine lv_goto (tgt := 22) hx hb dX10_init_43 (by decide) ?_
  refine lv_iload_n hx hb dX10_init_22 rfl (lv_at hl 0 rfl) ?_
  refine lv_aload_n hx hb dX10_init_23 rfl (lv_at hl 1 rfl) ?_
  refine bw_get (ci := 12) (C := RX10) (T := TX10) (N := 3) (v := .ref (h0 + 1)) hx hb htg inG_wsX100 hown hK hX 0 rfl rfl 1 (by decide) (htg _ q65) rfl dX10_init_24 ?_
  refine va_alen hx hb hK.1 hX.2.2.1 1 0 rfl rfl rfl dX10_init_27 ?_
  rw [show Int32.ofNat 8 = (8 : Int32) from rfl]
  refine lv_icmp_ge (tgt := 46) hx hb dX10_init_28 (by decide) (fun _ => ?_) (fun c9 => absurd (by decide) c9)
  replace hX := Bx.drop (ws := [(h0, .inr (12, [.int 0, .ref (h0 + 1), .ref (h0 + 2)]))]) (a := (h0 + 1)) (e := .inl (gT G 0, 8, .inl (upd (upd (upd (upd (upd (upd (upd (upd (fun _ => 0) 0 (1 : Int32)) 1 (2 : Int32)) 2 (4 : Int32)) 3 (8 : Int32)) 4 (16 : Int32)) 5 (32 : Int32)) 6 (64 : Int32)) 7 (128 : Int32)))) hX (by rw [hf_1]; exact id)
  replace hX := Bx.drop (ws := []) (a := h0) (e := .inr (12, [.int 0, .ref (h0 + 1), .ref (h0 + 2)])) hX (by rw [hf_0]; exact id)
  replace hX : Bx G fi h0 [] (h0 + 3) H := hX
  refine W.widen (k := 2) (n := 16) (Nat.le_of_ble_eq_true rfl) (Nat.le_of_ble_eq_true rfl) ?_
  exact W.vret hx hb hr (fun t ht hW9 => ⟨⟨(), rfl, trivial, by first | (subst ht; exact ⟨hX.1, hX.all⟩) | (show t.heap.size = _ ∧ _; rw [ht]; exact ⟨hX.1, hX.all⟩)⟩, hS.F ht⟩) hS.2.2 dX10_init_46
set_option maxHeartbeats 40000000 in
theorem kb_X10 {p : Program} {l : Launch} {e : Env} {R : Room} {s : State} {m : MethodId} {args : Array Value} {below : List Frame} {meth : Method} {c : Code} {H : Heap} {locs : List Loc} {cells slots : Nat} {Q : State → Prop} {cc : ByteArray} {pc nL idx : Nat} {own : String} {ls : Array Slot} {rest : List Value} {G : Geo} {fi : Nat → va_E} {B n : Nat} {ws : va_W} {H0 : Heap} (hx : p.tables.exec = Jvm.exec) (hb : c.code = cc) (hml : c.maxLocals = nL) (hown : s.vm.findClass own = some m.cls) (htg : ∀ w ∈ wsG, w.before args s = true) (hK : Kt G s) (hAO : Ao s) (hX : Bx G fi B (ws ++ [(n, .inr (12, [.int 0, .null, .null]))]) (n + 1) H) (hS : va_S (Bd B) H0 H locs) (hF : FX_10 G fi n) (hlk : Cond.methodLink own idx yX10_init ∈ wsG) (hn : ls.size = nL) (hr : (rest.map fun v => v.category).sum ≤ 8) (hR1 : 1 + 1 ≤ R.frames) (hR2 : 8 + (2 + 11) + 12 ≤ R.locals) (hc1 : cells + 2 ≤ R.cells) (hc2 : slots + 16 ≤ R.slots) (hdg : decode cc pc = .ok (.invokespecial idx, 3)) (kk : ∀ (H1 : Heap) (locs1 : List Loc), Bx G fi B ws (n + 1 + 2) H1 → va_S (Bd B) H0 H1 locs1 → W p l e R s m args below meth c H1 locs1 (cells + 2) (slots + 16) Q (F0 m (pc + 3) ls rest)) : W p l e R s m args below meth c H locs cells slots Q (F0 m pc ls (.ref n :: rest)) := by
  have hB : B ≤ n := by have h1 := hX.2.2.2.1.2 ws.length (n, .inr (12, [.int 0, .null, .null])) (by simp); exact h1
  have hPn : va_P G.1 vwCl [(n, .inr (12, [.int 0, .null, .null]))] H := va_P_r hX.2.2.1
  refine va_callv (va_runI (As := []) (rest := rest) ⟨hx, hb, hml, hown, htg⟩ (cb_X10 l G fi n hF) (cwI 0 htg (gd_all q62) rfl rfl rfl (htg _ q39) (htg _ hlk) (htg _ q61) rfl (by decide +kernel) ⟨hR1, hR2⟩) ⟨fun a U g mk q => ⟨q.1, q.2.1.calling, fun C hC => va_AO.moved (u := U) (U := U.calling g mk a) (Vm.Alike.refl U.vm) (q.2.2.1 C hC), q.2.2.2.1, q.2.2.2.2⟩, fun U hU hW9 => ⟨rfl, hK.warm hW9, fun C hC => va_AO.moved hW9.alike (hAO C hC), by rw [hU]; exact hX.1, by rw [hU]; exact hPn⟩⟩ rfl rfl hn rfl (lv_room hr) hdg ⟨hc1, hc2⟩) hS (fun q _ h9 => Nat.le_trans hB h9) (fun q h9 => Nat.le_trans hB h9) ?_
  intro u t H1 locs1 ht hvm hw hB9 hz1 hk1 hS1
  obtain ⟨hB1, hB2⟩ := hB9
  rw [ht] at hB1 hB2
  exact kk H1 locs1 (hX.call (k := 2) (hB1.trans (by omega)) (fun a h1 h2 => hB2 a h1 (by omega)) (fun q9 hq9 => hk1 q9 (by rw [hX.1]; omega) (Nat.not_le.mpr hq9))) hS1
def FX_7 (G : Geo) (fi : Nat → va_E) (h0 : Nat) : Prop := fi h0 = .inr (9, [.int 0, .ref (h0 + 1)]) ∧ fi (h0 + 1) = .inl (gT G 0, 96, .inl (fun _ => 0))
theorem FXo_7 {G : Geo} {fi : Nat → va_E} {h0 : Nat} (h : FX_7 G fi h0) : fi h0 = .inr (9, [.int 0, .ref (h0 + 1)]) := h.1
abbrev WSB_X7 : List Cond := .code yX7_init cX7_init 1 none :: wsG
abbrev RMB_X7 : Room := { frames := 1, cells := 1, slots := 96, locals := 12 }
set_option maxHeartbeats 40000000 in
set_option maxRecDepth 100000 in
theorem cb_X7 (l : Launch) (G : Geo) (fi : Nat → va_E) (h0 : Nat) (hF : FX_7 G fi h0) : Met l yX7_init WSB_X7 RMB_X7 (va_Pc [.ref h0] (fun U => Kt G U ∧ Ao U ∧ U.heap.size = h0 + 1 ∧ va_P G.1 vwCl [(h0, .inr (9, [.int 0, .null]))] U.heap)) (va_Qv (fun _ : Unit => True) (fun _ t => t.heap.size = h0 + 2 ∧ ∀ a, h0 ≤ a → a < h0 + 2 → va_at G.1 vwCl (a, fi a) t.heap) (Bd h0)) 1 96 (Bd h0) := by
  refine Met.ofW (cc := cX7_init) (maxL := 1) (ret := none) (by decide) rfl ?_
  intro p e s m args below meth c s₁ B hml hv
  obtain ⟨rfl, hK, hAO, hsz, hP⟩ := hv
  unfold FX_7 at hF
  obtain ⟨hf_0, hf_1⟩ := hF
  have hx := B.exec
  have hb := B.bytes
  have hr := B.returns
  have hts := atoms_spec (ws := WSB_X7) B.pre
  have htg : ∀ w ∈ wsG, w.before _ s = true := fun w h => hts w (List.mem_cons_of_mem _ h)
  have hown : s.vm.findClass RX7 = some m.cls := findClass_of_methodNamed B.named
  have hlocks := B.notSynchronized
  have hin : meth.name = "<init>" := (name_of_methodNamed B.named B.method).1
  have hS : va_S (Bd h0) s.heap s.heap [] := va_S.rf
  have hX : Bx G fi h0 [(h0, .inr (9, [.int 0, .null]))] (h0 + 1) s.heap := Bx.start hsz hP
  have hl := lv_entry ([.ref h0]) (n := 1) (Nat.le_of_ble_eq_true rfl)
  rw [lg_entry_eq]
  generalize (lg_sl ([.ref h0]) ++ List.replicate (1 - (lg_sl ([.ref h0])).length) Slot.unset).toArray = ls at hl ⊢
  have hl : lv_has ls 1 [(0, .ref h0)] := hl
  refine lv_aload_n hx hb dX7_init_0 rfl (lv_at hl 0 rfl) ?_
  refine W.objInit hx hb hown (htg _ q70) (htg _ q12) (htg _ q13) rfl (by rw [hml]; exact hl.1) rfl dX7_init_1 (Nat.le_of_ble_eq_true rfl) (Nat.le_of_ble_eq_true rfl) ?_
  refine W.eq (g2 := F0 m 4 ls []) rfl ?_
  refine lv_aload_n hx hb dX7_init_4 rfl (lv_at hl 0 rfl) ?_
  refine lv_bipush (v := (96 : Int32)) hx hb dX7_init_5 (by decide) ?_
  refine bw_newa (N := 96) hx hb (htg _ q64) hK hX hS (by decide) (by decide) (by decide) (Nat.le_of_ble_eq_true rfl) (Nat.le_of_ble_eq_true rfl) dX7_init_7 (fun H hX hS => ?_)
  replace hX := Bx.drop (ws := [(h0, .inr (9, [.int 0, .null]))]) (a := (h0 + 1)) (e := .inl (gT G 0, 96, .inl (fun _ => 0))) hX (by rw [hf_1]; exact id)
  replace hX : Bx G fi h0 [(h0, .inr (9, [.int 0, .null]))] (h0 + 2) H := hX
  refine bw_putF (ci := 9) (C := RX7) (T := TX7) (N := 2) (ty := .array .int) (v := .ref (h0 + 1)) hx hb htg inG_wsX70 tyX7 tyX7_ok nmX7 hown hK hX hS 0 rfl rfl 1 (by decide) (htg _ q71) rfl hin rfl (by decide +kernel) rfl rfl (Nat.le_of_ble_eq_true rfl) dX7_init_9 (fun H locs hX hS => ?_)
  replace hX : Bx G fi h0 [(h0, .inr (9, [.int 0, .ref (h0 + 1)]))] (h0 + 2) H := hX
  replace hX := Bx.drop (ws := []) (a := h0) (e := .inr (9, [.int 0, .ref (h0 + 1)])) hX (by rw [hf_0]; exact id)
  replace hX : Bx G fi h0 [] (h0 + 2) H := hX
  refine W.widen (k := 1) (n := 96) (Nat.le_of_ble_eq_true rfl) (Nat.le_of_ble_eq_true rfl) ?_
  exact W.vret hx hb hr (fun t ht hW9 => ⟨⟨(), rfl, trivial, by first | (subst ht; exact ⟨hX.1, hX.all⟩) | (show t.heap.size = _ ∧ _; rw [ht]; exact ⟨hX.1, hX.all⟩)⟩, hS.F ht⟩) hS.2.2 dX7_init_12
set_option maxHeartbeats 40000000 in
theorem kb_X7 {p : Program} {l : Launch} {e : Env} {R : Room} {s : State} {m : MethodId} {args : Array Value} {below : List Frame} {meth : Method} {c : Code} {H : Heap} {locs : List Loc} {cells slots : Nat} {Q : State → Prop} {cc : ByteArray} {pc nL idx : Nat} {own : String} {ls : Array Slot} {rest : List Value} {G : Geo} {fi : Nat → va_E} {B n : Nat} {ws : va_W} {H0 : Heap} (hx : p.tables.exec = Jvm.exec) (hb : c.code = cc) (hml : c.maxLocals = nL) (hown : s.vm.findClass own = some m.cls) (htg : ∀ w ∈ wsG, w.before args s = true) (hK : Kt G s) (hAO : Ao s) (hX : Bx G fi B (ws ++ [(n, .inr (9, [.int 0, .null]))]) (n + 1) H) (hS : va_S (Bd B) H0 H locs) (hF : FX_7 G fi n) (hlk : Cond.methodLink own idx yX7_init ∈ wsG) (hn : ls.size = nL) (hr : (rest.map fun v => v.category).sum ≤ 8) (hR1 : 1 + 1 ≤ R.frames) (hR2 : 8 + (1 + 11) + 12 ≤ R.locals) (hc1 : cells + 1 ≤ R.cells) (hc2 : slots + 96 ≤ R.slots) (hdg : decode cc pc = .ok (.invokespecial idx, 3)) (kk : ∀ (H1 : Heap) (locs1 : List Loc), Bx G fi B ws (n + 1 + 1) H1 → va_S (Bd B) H0 H1 locs1 → W p l e R s m args below meth c H1 locs1 (cells + 1) (slots + 96) Q (F0 m (pc + 3) ls rest)) : W p l e R s m args below meth c H locs cells slots Q (F0 m pc ls (.ref n :: rest)) := by
  have hB : B ≤ n := by have h1 := hX.2.2.2.1.2 ws.length (n, .inr (9, [.int 0, .null])) (by simp); exact h1
  have hPn : va_P G.1 vwCl [(n, .inr (9, [.int 0, .null]))] H := va_P_r hX.2.2.1
  refine va_callv (va_runI (As := []) (rest := rest) ⟨hx, hb, hml, hown, htg⟩ (cb_X7 l G fi n hF) (cwI 0 htg (gd_all q69) rfl rfl rfl (htg _ q43) (htg _ hlk) (htg _ q68) rfl (by decide +kernel) ⟨hR1, hR2⟩) ⟨fun a U g mk q => ⟨q.1, q.2.1.calling, fun C hC => va_AO.moved (u := U) (U := U.calling g mk a) (Vm.Alike.refl U.vm) (q.2.2.1 C hC), q.2.2.2.1, q.2.2.2.2⟩, fun U hU hW9 => ⟨rfl, hK.warm hW9, fun C hC => va_AO.moved hW9.alike (hAO C hC), by rw [hU]; exact hX.1, by rw [hU]; exact hPn⟩⟩ rfl rfl hn rfl (lv_room hr) hdg ⟨hc1, hc2⟩) hS (fun q _ h9 => Nat.le_trans hB h9) (fun q h9 => Nat.le_trans hB h9) ?_
  intro u t H1 locs1 ht hvm hw hB9 hz1 hk1 hS1
  obtain ⟨hB1, hB2⟩ := hB9
  rw [ht] at hB1 hB2
  exact kk H1 locs1 (hX.call (k := 1) (hB1.trans (by omega)) (fun a h1 h2 => hB2 a h1 (by omega)) (fun q9 hq9 => hk1 q9 (by rw [hX.1]; omega) (Nat.not_le.mpr hq9))) hS1
def FX_9 (G : Geo) (fi : Nat → va_E) (h0 : Nat) : Prop := fi h0 = .inr (11, [.int (2 : Int32), .int 0, .int 0, .int 0, .int 0, .int 0, .ref (h0 + 1)]) ∧ fi (h0 + 1) = .inl (gT G 0, 4, .inl (fun _ => 0))
theorem FXo_9 {G : Geo} {fi : Nat → va_E} {h0 : Nat} (h : FX_9 G fi h0) : fi h0 = .inr (11, [.int (2 : Int32), .int 0, .int 0, .int 0, .int 0, .int 0, .ref (h0 + 1)]) := h.1
abbrev WSB_X9 : List Cond := .code yX9_init cX9_init 1 none :: wsG
abbrev RMB_X9 : Room := { frames := 1, cells := 1, slots := 4, locals := 12 }
set_option maxHeartbeats 40000000 in
set_option maxRecDepth 100000 in
theorem cb_X9 (l : Launch) (G : Geo) (fi : Nat → va_E) (h0 : Nat) (hF : FX_9 G fi h0) : Met l yX9_init WSB_X9 RMB_X9 (va_Pc [.ref h0] (fun U => Kt G U ∧ Ao U ∧ U.heap.size = h0 + 1 ∧ va_P G.1 vwCl [(h0, .inr (11, [.int 0, .int 0, .int 0, .int 0, .int 0, .int 0, .null]))] U.heap)) (va_Qv (fun _ : Unit => True) (fun _ t => t.heap.size = h0 + 2 ∧ ∀ a, h0 ≤ a → a < h0 + 2 → va_at G.1 vwCl (a, fi a) t.heap) (Bd h0)) 1 4 (Bd h0) := by
  refine Met.ofW (cc := cX9_init) (maxL := 1) (ret := none) (by decide) rfl ?_
  intro p e s m args below meth c s₁ B hml hv
  obtain ⟨rfl, hK, hAO, hsz, hP⟩ := hv
  unfold FX_9 at hF
  obtain ⟨hf_0, hf_1⟩ := hF
  have hx := B.exec
  have hb := B.bytes
  have hr := B.returns
  have hts := atoms_spec (ws := WSB_X9) B.pre
  have htg : ∀ w ∈ wsG, w.before _ s = true := fun w h => hts w (List.mem_cons_of_mem _ h)
  have hown : s.vm.findClass RX9 = some m.cls := findClass_of_methodNamed B.named
  have hlocks := B.notSynchronized
  have hin : meth.name = "<init>" := (name_of_methodNamed B.named B.method).1
  have hS : va_S (Bd h0) s.heap s.heap [] := va_S.rf
  have hX : Bx G fi h0 [(h0, .inr (11, [.int 0, .int 0, .int 0, .int 0, .int 0, .int 0, .null]))] (h0 + 1) s.heap := Bx.start hsz hP
  have hl := lv_entry ([.ref h0]) (n := 1) (Nat.le_of_ble_eq_true rfl)
  rw [lg_entry_eq]
  generalize (lg_sl ([.ref h0]) ++ List.replicate (1 - (lg_sl ([.ref h0])).length) Slot.unset).toArray = ls at hl ⊢
  have hl : lv_has ls 1 [(0, .ref h0)] := hl
  refine lv_aload_n hx hb dX9_init_0 rfl (lv_at hl 0 rfl) ?_
  refine W.objInit hx hb hown (htg _ q84) (htg _ q12) (htg _ q13) rfl (by rw [hml]; exact hl.1) rfl dX9_init_1 (Nat.le_of_ble_eq_true rfl) (Nat.le_of_ble_eq_true rfl) ?_
  refine W.eq (g2 := F0 m 4 ls []) rfl ?_
  refine lv_aload_n hx hb dX9_init_4 rfl (lv_at hl 0 rfl) ?_
  refine lv_iconst (v := (2 : Int32)) hx hb dX9_init_5 (by decide) ?_
  refine bw_put (ci := 11) (C := RX9) (T := TX9) (N := 7) (ty := .int) (v := .int (2 : Int32)) hx hb htg inG_wsX90 tyX9 tyX9_ok nmX9 hown hK hX hS 0 rfl rfl 0 (by decide) (htg _ q85) rfl (by decide +kernel) rfl rfl (Nat.le_of_ble_eq_true rfl) dX9_init_6 (fun H locs hX hS => ?_)
  replace hX : Bx G fi h0 [(h0, .inr (11, [.int (2 : Int32), .int 0, .int 0, .int 0, .int 0, .int 0, .null]))] (h0 + 1) H := hX
  refine lv_aload_n hx hb dX9_init_9 rfl (lv_at hl 0 rfl) ?_
  refine lv_iconst (v := (4 : Int32)) hx hb dX9_init_10 (by decide) ?_
  refine bw_newa (N := 4) hx hb (htg _ q64) hK hX hS (by decide) (by decide) (by decide) (Nat.le_of_ble_eq_true rfl) (Nat.le_of_ble_eq_true rfl) dX9_init_11 (fun H hX hS => ?_)
  replace hX := Bx.drop (ws := [(h0, .inr (11, [.int (2 : Int32), .int 0, .int 0, .int 0, .int 0, .int 0, .null]))]) (a := (h0 + 1)) (e := .inl (gT G 0, 4, .inl (fun _ => 0))) hX (by rw [hf_1]; exact id)
  replace hX : Bx G fi h0 [(h0, .inr (11, [.int (2 : Int32), .int 0, .int 0, .int 0, .int 0, .int 0, .null]))] (h0 + 2) H := hX
  refine bw_putF (ci := 11) (C := RX9) (T := TX9) (N := 7) (ty := .array .int) (v := .ref (h0 + 1)) hx hb htg inG_wsX90 tyX9 tyX9_ok nmX9 hown hK hX hS 0 rfl rfl 6 (by decide) (htg _ q86) rfl hin rfl (by decide +kernel) rfl rfl (Nat.le_of_ble_eq_true rfl) dX9_init_13 (fun H locs hX hS => ?_)
  replace hX : Bx G fi h0 [(h0, .inr (11, [.int (2 : Int32), .int 0, .int 0, .int 0, .int 0, .int 0, .ref (h0 + 1)]))] (h0 + 2) H := hX
  replace hX := Bx.drop (ws := []) (a := h0) (e := .inr (11, [.int (2 : Int32), .int 0, .int 0, .int 0, .int 0, .int 0, .ref (h0 + 1)])) hX (by rw [hf_0]; exact id)
  replace hX : Bx G fi h0 [] (h0 + 2) H := hX
  refine W.widen (k := 1) (n := 4) (Nat.le_of_ble_eq_true rfl) (Nat.le_of_ble_eq_true rfl) ?_
  exact W.vret hx hb hr (fun t ht hW9 => ⟨⟨(), rfl, trivial, by first | (subst ht; exact ⟨hX.1, hX.all⟩) | (show t.heap.size = _ ∧ _; rw [ht]; exact ⟨hX.1, hX.all⟩)⟩, hS.F ht⟩) hS.2.2 dX9_init_16
set_option maxHeartbeats 40000000 in
theorem kb_X9 {p : Program} {l : Launch} {e : Env} {R : Room} {s : State} {m : MethodId} {args : Array Value} {below : List Frame} {meth : Method} {c : Code} {H : Heap} {locs : List Loc} {cells slots : Nat} {Q : State → Prop} {cc : ByteArray} {pc nL idx : Nat} {own : String} {ls : Array Slot} {rest : List Value} {G : Geo} {fi : Nat → va_E} {B n : Nat} {ws : va_W} {H0 : Heap} (hx : p.tables.exec = Jvm.exec) (hb : c.code = cc) (hml : c.maxLocals = nL) (hown : s.vm.findClass own = some m.cls) (htg : ∀ w ∈ wsG, w.before args s = true) (hK : Kt G s) (hAO : Ao s) (hX : Bx G fi B (ws ++ [(n, .inr (11, [.int 0, .int 0, .int 0, .int 0, .int 0, .int 0, .null]))]) (n + 1) H) (hS : va_S (Bd B) H0 H locs) (hF : FX_9 G fi n) (hlk : Cond.methodLink own idx yX9_init ∈ wsG) (hn : ls.size = nL) (hr : (rest.map fun v => v.category).sum ≤ 8) (hR1 : 1 + 1 ≤ R.frames) (hR2 : 8 + (1 + 11) + 12 ≤ R.locals) (hc1 : cells + 1 ≤ R.cells) (hc2 : slots + 4 ≤ R.slots) (hdg : decode cc pc = .ok (.invokespecial idx, 3)) (kk : ∀ (H1 : Heap) (locs1 : List Loc), Bx G fi B ws (n + 1 + 1) H1 → va_S (Bd B) H0 H1 locs1 → W p l e R s m args below meth c H1 locs1 (cells + 1) (slots + 4) Q (F0 m (pc + 3) ls rest)) : W p l e R s m args below meth c H locs cells slots Q (F0 m pc ls (.ref n :: rest)) := by
  have hB : B ≤ n := by have h1 := hX.2.2.2.1.2 ws.length (n, .inr (11, [.int 0, .int 0, .int 0, .int 0, .int 0, .int 0, .null])) (by simp); exact h1
  have hPn : va_P G.1 vwCl [(n, .inr (11, [.int 0, .int 0, .int 0, .int 0, .int 0, .int 0, .null]))] H := va_P_r hX.2.2.1
  refine va_callv (va_runI (As := []) (rest := rest) ⟨hx, hb, hml, hown, htg⟩ (cb_X9 l G fi n hF) (cwI 0 htg (gd_all q83) rfl rfl rfl (htg _ q51) (htg _ hlk) (htg _ q82) rfl (by decide +kernel) ⟨hR1, hR2⟩) ⟨fun a U g mk q => ⟨q.1, q.2.1.calling, fun C hC => va_AO.moved (u := U) (U := U.calling g mk a) (Vm.Alike.refl U.vm) (q.2.2.1 C hC), q.2.2.2.1, q.2.2.2.2⟩, fun U hU hW9 => ⟨rfl, hK.warm hW9, fun C hC => va_AO.moved hW9.alike (hAO C hC), by rw [hU]; exact hX.1, by rw [hU]; exact hPn⟩⟩ rfl rfl hn rfl (lv_room hr) hdg ⟨hc1, hc2⟩) hS (fun q _ h9 => Nat.le_trans hB h9) (fun q h9 => Nat.le_trans hB h9) ?_
  intro u t H1 locs1 ht hvm hw hB9 hz1 hk1 hS1
  obtain ⟨hB1, hB2⟩ := hB9
  rw [ht] at hB1 hB2
  exact kk H1 locs1 (hX.call (k := 1) (hB1.trans (by omega)) (fun a h1 h2 => hB2 a h1 (by omega)) (fun q9 hq9 => hk1 q9 (by rw [hX.1]; omega) (Nat.not_le.mpr hq9))) hS1
def FX_5 (G : Geo) (fi : Nat → va_E) (h0 : Nat) : Prop := fi h0 = .inr (7, [.int 0, .int 0, .int 0, .int 0, .int 0, .int (-1 : Int32), .int (-1 : Int32), .int 0, .int (-1 : Int32), .int (-1 : Int32)])
theorem FXo_5 {G : Geo} {fi : Nat → va_E} {h0 : Nat} (h : FX_5 G fi h0) : fi h0 = .inr (7, [.int 0, .int 0, .int 0, .int 0, .int 0, .int (-1 : Int32), .int (-1 : Int32), .int 0, .int (-1 : Int32), .int (-1 : Int32)]) := h
abbrev WSB_X5 : List Cond := .code yX5_init cX5_init 1 none :: wsG
abbrev RMB_X5 : Room := { frames := 1, cells := 0, slots := 0, locals := 12 }
set_option maxHeartbeats 40000000 in
set_option maxRecDepth 100000 in
theorem cb_X5 (l : Launch) (G : Geo) (fi : Nat → va_E) (h0 : Nat) (hF : FX_5 G fi h0) : Met l yX5_init WSB_X5 RMB_X5 (va_Pc [.ref h0] (fun U => Kt G U ∧ Ao U ∧ U.heap.size = h0 + 1 ∧ va_P G.1 vwCl [(h0, .inr (7, [.int 0, .int 0, .int 0, .int 0, .int 0, .int 0, .int 0, .int 0, .int 0, .int 0]))] U.heap)) (va_Qv (fun _ : Unit => True) (fun _ t => t.heap.size = h0 + 1 ∧ ∀ a, h0 ≤ a → a < h0 + 1 → va_at G.1 vwCl (a, fi a) t.heap) (Bd h0)) 0 0 (Bd h0) := by
  refine Met.ofW (cc := cX5_init) (maxL := 1) (ret := none) (by decide) rfl ?_
  intro p e s m args below meth c s₁ B hml hv
  obtain ⟨rfl, hK, hAO, hsz, hP⟩ := hv
  unfold FX_5 at hF
  have hf_0 := hF
  have hx := B.exec
  have hb := B.bytes
  have hr := B.returns
  have hts := atoms_spec (ws := WSB_X5) B.pre
  have htg : ∀ w ∈ wsG, w.before _ s = true := fun w h => hts w (List.mem_cons_of_mem _ h)
  have hown : s.vm.findClass RX5 = some m.cls := findClass_of_methodNamed B.named
  have hlocks := B.notSynchronized
  have hin : meth.name = "<init>" := (name_of_methodNamed B.named B.method).1
  have hS : va_S (Bd h0) s.heap s.heap [] := va_S.rf
  have hX : Bx G fi h0 [(h0, .inr (7, [.int 0, .int 0, .int 0, .int 0, .int 0, .int 0, .int 0, .int 0, .int 0, .int 0]))] (h0 + 1) s.heap := Bx.start hsz hP
  have hl := lv_entry ([.ref h0]) (n := 1) (Nat.le_of_ble_eq_true rfl)
  rw [lg_entry_eq]
  generalize (lg_sl ([.ref h0]) ++ List.replicate (1 - (lg_sl ([.ref h0])).length) Slot.unset).toArray = ls at hl ⊢
  have hl : lv_has ls 1 [(0, .ref h0)] := hl
  refine lv_aload_n hx hb dX5_init_0 rfl (lv_at hl 0 rfl) ?_
  refine W.objInit hx hb hown (htg _ q90) (htg _ q12) (htg _ q13) rfl (by rw [hml]; exact hl.1) rfl dX5_init_1 (Nat.le_of_ble_eq_true rfl) (Nat.le_of_ble_eq_true rfl) ?_
  refine W.eq (g2 := F0 m 4 ls []) rfl ?_
  refine lv_aload_n hx hb dX5_init_4 rfl (lv_at hl 0 rfl) ?_
  refine lv_iconst (v := (-1 : Int32)) hx hb dX5_init_5 (by decide) ?_
  refine bw_put (ci := 7) (C := RX5) (T := TX5) (N := 10) (ty := .int) (v := .int (-1 : Int32)) hx hb htg inG_wsX50 tyX5 tyX5_ok nmX5 hown hK hX hS 0 rfl rfl 5 (by decide) (htg _ q91) rfl (by decide +kernel) rfl rfl (Nat.le_of_ble_eq_true rfl) dX5_init_6 (fun H locs hX hS => ?_)
  replace hX : Bx G fi h0 [(h0, .inr (7, [.int 0, .int 0, .int 0, .int 0, .int 0, .int (-1 : Int32), .int 0, .int 0, .int 0, .int 0]))] (h0 + 1) H := hX
  refine lv_aload_n hx hb dX5_init_9 rfl (lv_at hl 0 rfl) ?_
  refine lv_iconst (v := (-1 : Int32)) hx hb dX5_init_10 (by decide) ?_
  refine bw_put (ci := 7) (C := RX5) (T := TX5) (N := 10) (ty := .int) (v := .int (-1 : Int32)) hx hb htg inG_wsX50 tyX5 tyX5_ok nmX5 hown hK hX hS 0 rfl rfl 6 (by decide) (htg _ q92) rfl (by decide +kernel) rfl rfl (Nat.le_of_ble_eq_true rfl) dX5_init_11 (fun H locs hX hS => ?_)
  replace hX : Bx G fi h0 [(h0, .inr (7, [.int 0, .int 0, .int 0, .int 0, .int 0, .int (-1 : Int32), .int (-1 : Int32), .int 0, .int 0, .int 0]))] (h0 + 1) H := hX
  refine lv_aload_n hx hb dX5_init_14 rfl (lv_at hl 0 rfl) ?_
  refine lv_iconst (v := (-1 : Int32)) hx hb dX5_init_15 (by decide) ?_
  refine bw_put (ci := 7) (C := RX5) (T := TX5) (N := 10) (ty := .int) (v := .int (-1 : Int32)) hx hb htg inG_wsX50 tyX5 tyX5_ok nmX5 hown hK hX hS 0 rfl rfl 8 (by decide) (htg _ q93) rfl (by decide +kernel) rfl rfl (Nat.le_of_ble_eq_true rfl) dX5_init_16 (fun H locs hX hS => ?_)
  replace hX : Bx G fi h0 [(h0, .inr (7, [.int 0, .int 0, .int 0, .int 0, .int 0, .int (-1 : Int32), .int (-1 : Int32), .int 0, .int (-1 : Int32), .int 0]))] (h0 + 1) H := hX
  refine lv_aload_n hx hb dX5_init_19 rfl (lv_at hl 0 rfl) ?_
  refine lv_iconst (v := (-1 : Int32)) hx hb dX5_init_20 (by decide) ?_
  refine bw_put (ci := 7) (C := RX5) (T := TX5) (N := 10) (ty := .int) (v := .int (-1 : Int32)) hx hb htg inG_wsX50 tyX5 tyX5_ok nmX5 hown hK hX hS 0 rfl rfl 9 (by decide) (htg _ q94) rfl (by decide +kernel) rfl rfl (Nat.le_of_ble_eq_true rfl) dX5_init_21 (fun H locs hX hS => ?_)
  replace hX : Bx G fi h0 [(h0, .inr (7, [.int 0, .int 0, .int 0, .int 0, .int 0, .int (-1 : Int32), .int (-1 : Int32), .int 0, .int (-1 : Int32), .int (-1 : Int32)]))] (h0 + 1) H := hX
  replace hX := Bx.drop (ws := []) (a := h0) (e := .inr (7, [.int 0, .int 0, .int 0, .int 0, .int 0, .int (-1 : Int32), .int (-1 : Int32), .int 0, .int (-1 : Int32), .int (-1 : Int32)])) hX (by rw [hf_0]; exact id)
  replace hX : Bx G fi h0 [] (h0 + 1) H := hX
  refine W.widen (k := 0) (n := 0) (Nat.le_of_ble_eq_true rfl) (Nat.le_of_ble_eq_true rfl) ?_
  exact W.vret hx hb hr (fun t ht hW9 => ⟨⟨(), rfl, trivial, by first | (subst ht; exact ⟨hX.1, hX.all⟩) | (show t.heap.size = _ ∧ _; rw [ht]; exact ⟨hX.1, hX.all⟩)⟩, hS.F ht⟩) hS.2.2 dX5_init_24
set_option maxHeartbeats 40000000 in
theorem kb_X5 {p : Program} {l : Launch} {e : Env} {R : Room} {s : State} {m : MethodId} {args : Array Value} {below : List Frame} {meth : Method} {c : Code} {H : Heap} {locs : List Loc} {cells slots : Nat} {Q : State → Prop} {cc : ByteArray} {pc nL idx : Nat} {own : String} {ls : Array Slot} {rest : List Value} {G : Geo} {fi : Nat → va_E} {B n : Nat} {ws : va_W} {H0 : Heap} (hx : p.tables.exec = Jvm.exec) (hb : c.code = cc) (hml : c.maxLocals = nL) (hown : s.vm.findClass own = some m.cls) (htg : ∀ w ∈ wsG, w.before args s = true) (hK : Kt G s) (hAO : Ao s) (hX : Bx G fi B (ws ++ [(n, .inr (7, [.int 0, .int 0, .int 0, .int 0, .int 0, .int 0, .int 0, .int 0, .int 0, .int 0]))]) (n + 1) H) (hS : va_S (Bd B) H0 H locs) (hF : FX_5 G fi n) (hlk : Cond.methodLink own idx yX5_init ∈ wsG) (hn : ls.size = nL) (hr : (rest.map fun v => v.category).sum ≤ 8) (hR1 : 1 + 1 ≤ R.frames) (hR2 : 8 + (1 + 11) + 12 ≤ R.locals) (hc1 : cells + 0 ≤ R.cells) (hc2 : slots + 0 ≤ R.slots) (hdg : decode cc pc = .ok (.invokespecial idx, 3)) (kk : ∀ (H1 : Heap) (locs1 : List Loc), Bx G fi B ws (n + 1 + 0) H1 → va_S (Bd B) H0 H1 locs1 → W p l e R s m args below meth c H1 locs1 (cells + 0) (slots + 0) Q (F0 m (pc + 3) ls rest)) : W p l e R s m args below meth c H locs cells slots Q (F0 m pc ls (.ref n :: rest)) := by
  have hB : B ≤ n := by have h1 := hX.2.2.2.1.2 ws.length (n, .inr (7, [.int 0, .int 0, .int 0, .int 0, .int 0, .int 0, .int 0, .int 0, .int 0, .int 0])) (by simp); exact h1
  have hPn : va_P G.1 vwCl [(n, .inr (7, [.int 0, .int 0, .int 0, .int 0, .int 0, .int 0, .int 0, .int 0, .int 0, .int 0]))] H := va_P_r hX.2.2.1
  refine va_callv (va_runI (As := []) (rest := rest) ⟨hx, hb, hml, hown, htg⟩ (cb_X5 l G fi n hF) (cwI 0 htg (gd_all q89) rfl rfl rfl (htg _ q55) (htg _ hlk) (htg _ q88) rfl (by decide +kernel) ⟨hR1, hR2⟩) ⟨fun a U g mk q => ⟨q.1, q.2.1.calling, fun C hC => va_AO.moved (u := U) (U := U.calling g mk a) (Vm.Alike.refl U.vm) (q.2.2.1 C hC), q.2.2.2.1, q.2.2.2.2⟩, fun U hU hW9 => ⟨rfl, hK.warm hW9, fun C hC => va_AO.moved hW9.alike (hAO C hC), by rw [hU]; exact hX.1, by rw [hU]; exact hPn⟩⟩ rfl rfl hn rfl (lv_room hr) hdg ⟨hc1, hc2⟩) hS (fun q _ h9 => Nat.le_trans hB h9) (fun q h9 => Nat.le_trans hB h9) ?_
  intro u t H1 locs1 ht hvm hw hB9 hz1 hk1 hS1
  obtain ⟨hB1, hB2⟩ := hB9
  rw [ht] at hB1 hB2
  exact kk H1 locs1 (hX.call (k := 0) (hB1.trans (by omega)) (fun a h1 h2 => hB2 a h1 (by omega)) (fun q9 hq9 => hk1 q9 (by rw [hX.1]; omega) (Nat.not_le.mpr hq9))) hS1
def FX_2 (G : Geo) (fi : Nat → va_E) (h0 : Nat) : Prop := fi h0 = .inr (4, [.int 0, .int 0, .int 0, .int 0, .int 0, .int 0, .int 0, .int 0, .int 0, .int 0])
theorem FXo_2 {G : Geo} {fi : Nat → va_E} {h0 : Nat} (h : FX_2 G fi h0) : fi h0 = .inr (4, [.int 0, .int 0, .int 0, .int 0, .int 0, .int 0, .int 0, .int 0, .int 0, .int 0]) := h
abbrev WSB_X2 : List Cond := .code yX2_init cX2_init 1 none :: wsG
abbrev RMB_X2 : Room := { frames := 1, cells := 0, slots := 0, locals := 12 }
set_option maxHeartbeats 40000000 in
set_option maxRecDepth 100000 in
theorem cb_X2 (l : Launch) (G : Geo) (fi : Nat → va_E) (h0 : Nat) (hF : FX_2 G fi h0) : Met l yX2_init WSB_X2 RMB_X2 (va_Pc [.ref h0] (fun U => Kt G U ∧ Ao U ∧ U.heap.size = h0 + 1 ∧ va_P G.1 vwCl [(h0, .inr (4, [.int 0, .int 0, .int 0, .int 0, .int 0, .int 0, .int 0, .int 0, .int 0, .int 0]))] U.heap)) (va_Qv (fun _ : Unit => True) (fun _ t => t.heap.size = h0 + 1 ∧ ∀ a, h0 ≤ a → a < h0 + 1 → va_at G.1 vwCl (a, fi a) t.heap) (Bd h0)) 0 0 (Bd h0) := by
  refine Met.ofW (cc := cX2_init) (maxL := 1) (ret := none) (by decide) rfl ?_
  intro p e s m args below meth c s₁ B hml hv
  obtain ⟨rfl, hK, hAO, hsz, hP⟩ := hv
  unfold FX_2 at hF
  have hf_0 := hF
  have hx := B.exec
  have hb := B.bytes
  have hr := B.returns
  have hts := atoms_spec (ws := WSB_X2) B.pre
  have htg : ∀ w ∈ wsG, w.before _ s = true := fun w h => hts w (List.mem_cons_of_mem _ h)
  have hown : s.vm.findClass RX2 = some m.cls := findClass_of_methodNamed B.named
  have hlocks := B.notSynchronized
  have hin : meth.name = "<init>" := (name_of_methodNamed B.named B.method).1
  have hS : va_S (Bd h0) s.heap s.heap [] := va_S.rf
  have hX : Bx G fi h0 [(h0, .inr (4, [.int 0, .int 0, .int 0, .int 0, .int 0, .int 0, .int 0, .int 0, .int 0, .int 0]))] (h0 + 1) s.heap := Bx.start hsz hP
  have hl := lv_entry ([.ref h0]) (n := 1) (Nat.le_of_ble_eq_true rfl)
  rw [lg_entry_eq]
  generalize (lg_sl ([.ref h0]) ++ List.replicate (1 - (lg_sl ([.ref h0])).length) Slot.unset).toArray = ls at hl ⊢
  have hl : lv_has ls 1 [(0, .ref h0)] := hl
  refine lv_aload_n hx hb dX2_init_0 rfl (lv_at hl 0 rfl) ?_
  refine W.objInit hx hb hown (htg _ q131) (htg _ q12) (htg _ q13) rfl (by rw [hml]; exact hl.1) rfl dX2_init_1 (Nat.le_of_ble_eq_true rfl) (Nat.le_of_ble_eq_true rfl) ?_
  refine W.eq (g2 := F0 m 4 ls []) rfl ?_
  replace hX := Bx.drop (ws := []) (a := h0) (e := .inr (4, [.int 0, .int 0, .int 0, .int 0, .int 0, .int 0, .int 0, .int 0, .int 0, .int 0])) hX (by rw [hf_0]; exact id)
  replace hX : Bx G fi h0 [] (h0 + 1) s.heap := hX
  refine W.widen (k := 0) (n := 0) (Nat.le_of_ble_eq_true rfl) (Nat.le_of_ble_eq_true rfl) ?_
  exact W.vret hx hb hr (fun t ht hW9 => ⟨⟨(), rfl, trivial, by first | (subst ht; exact ⟨hX.1, hX.all⟩) | (show t.heap.size = _ ∧ _; rw [ht]; exact ⟨hX.1, hX.all⟩)⟩, hS.F ht⟩) hS.2.2 dX2_init_4
set_option maxHeartbeats 40000000 in
theorem kb_X2_n {p : Program} {l : Launch} {e : Env} {R : Room} {s : State} {m : MethodId} {args : Array Value} {below : List Frame} {meth : Method} {c : Code} {H : Heap} {locs : List Loc} {cells slots : Nat} {Q : State → Prop} {cc : ByteArray} {pc nL idx : Nat} {own : String} {ls : Array Slot} {rest : List Value} {G : Geo} {fi : Nat → va_E} {B n : Nat} {ws : va_W} {H0 : Heap} (hx : p.tables.exec = Jvm.exec) (hb : c.code = cc) (hml : c.maxLocals = nL) (hown : s.vm.findClass own = some m.cls) (htg : ∀ w ∈ wsG, w.before args s = true) (hK : Kt G s) (hAO : Ao s) (hX : Bx G fi B (ws ++ [(n, .inr (4, [.int 0, .int 0, .int 0, .int 0, .int 0, .int 0, .int 0, .int 0, .int 0, .int 0]))]) (n + 1) H) (hS : va_S (Bd B) H0 H locs) (hF : FX_2 G fi n) (hlk : Cond.methodLinkNest own idx yX2_init "RobotCell" ∈ nestW) (hn : ls.size = nL) (hr : (rest.map fun v => v.category).sum ≤ 8) (hR1 : 1 + 1 ≤ R.frames) (hR2 : 8 + (1 + 11) + 12 ≤ R.locals) (hc1 : cells + 0 ≤ R.cells) (hc2 : slots + 0 ≤ R.slots) (hdg : decode cc pc = .ok (.invokespecial idx, 3)) (kk : ∀ (H1 : Heap) (locs1 : List Loc), Bx G fi B ws (n + 1 + 0) H1 → va_S (Bd B) H0 H1 locs1 → W p l e R s m args below meth c H1 locs1 (cells + 0) (slots + 0) Q (F0 m (pc + 3) ls rest)) : W p l e R s m args below meth c H locs cells slots Q (F0 m pc ls (.ref n :: rest)) := by
  have hB : B ≤ n := by have h1 := hX.2.2.2.1.2 ws.length (n, .inr (4, [.int 0, .int 0, .int 0, .int 0, .int 0, .int 0, .int 0, .int 0, .int 0, .int 0])) (by simp); exact h1
  have hPn : va_P G.1 vwCl [(n, .inr (4, [.int 0, .int 0, .int 0, .int 0, .int 0, .int 0, .int 0, .int 0, .int 0, .int 0]))] H := va_P_r hX.2.2.1
  refine va_callv (va_runIN (As := []) (rest := rest) ⟨hx, hb, hml, hown, htg⟩ (cb_X2 l G fi n hF) ⟨va_cnB 0 htg (gd_N q130) rfl rfl rfl (hK.2 _ hlk) (htg _ q126) (by decide +kernel) ⟨hR1, hR2⟩, rfl, htg _ q129⟩ ⟨fun a U g mk q => ⟨q.1, q.2.1.calling, fun C hC => va_AO.moved (u := U) (U := U.calling g mk a) (Vm.Alike.refl U.vm) (q.2.2.1 C hC), q.2.2.2.1, q.2.2.2.2⟩, fun U hU hW9 => ⟨rfl, hK.warm hW9, fun C hC => va_AO.moved hW9.alike (hAO C hC), by rw [hU]; exact hX.1, by rw [hU]; exact hPn⟩⟩ rfl rfl hn rfl (lv_room hr) hdg ⟨hc1, hc2⟩) hS (fun q _ h9 => Nat.le_trans hB h9) (fun q h9 => Nat.le_trans hB h9) ?_
  intro u t H1 locs1 ht hvm hw hB9 hz1 hk1 hS1
  obtain ⟨hB1, hB2⟩ := hB9
  rw [ht] at hB1 hB2
  exact kk H1 locs1 (hX.call (k := 0) (hB1.trans (by omega)) (fun a h1 h2 => hB2 a h1 (by omega)) (fun q9 hq9 => hk1 q9 (by rw [hX.1]; omega) (Nat.not_le.mpr hq9))) hS1
def FX_6 (G : Geo) (fi : Nat → va_E) (h0 : Nat) : Prop := fi h0 = .inr (8, [.int 0, .int 0, .ref (h0 + 1), .ref (h0 + 2)]) ∧ fi (h0 + 1) = .inl (gT G 0, 3, .inl (fun _ => 0)) ∧ fi (h0 + 2) = .inl (gT G 0, 3, .inl (fun _ => 0))
theorem FXo_6 {G : Geo} {fi : Nat → va_E} {h0 : Nat} (h : FX_6 G fi h0) : fi h0 = .inr (8, [.int 0, .int 0, .ref (h0 + 1), .ref (h0 + 2)]) := h.1
abbrev WSB_X6 : List Cond := .code yX6_init cX6_init 1 none :: wsG
abbrev RMB_X6 : Room := { frames := 1, cells := 2, slots := 6, locals := 12 }
set_option maxHeartbeats 40000000 in
set_option maxRecDepth 100000 in
theorem cb_X6 (l : Launch) (G : Geo) (fi : Nat → va_E) (h0 : Nat) (hF : FX_6 G fi h0) : Met l yX6_init WSB_X6 RMB_X6 (va_Pc [.ref h0] (fun U => Kt G U ∧ Ao U ∧ U.heap.size = h0 + 1 ∧ va_P G.1 vwCl [(h0, .inr (8, [.int 0, .int 0, .null, .null]))] U.heap)) (va_Qv (fun _ : Unit => True) (fun _ t => t.heap.size = h0 + 3 ∧ ∀ a, h0 ≤ a → a < h0 + 3 → va_at G.1 vwCl (a, fi a) t.heap) (Bd h0)) 2 6 (Bd h0) := by
  refine Met.ofW (cc := cX6_init) (maxL := 1) (ret := none) (by decide) rfl ?_
  intro p e s m args below meth c s₁ B hml hv
  obtain ⟨rfl, hK, hAO, hsz, hP⟩ := hv
  unfold FX_6 at hF
  obtain ⟨hf_0, hf_1, hf_2⟩ := hF
  have hx := B.exec
  have hb := B.bytes
  have hr := B.returns
  have hts := atoms_spec (ws := WSB_X6) B.pre
  have htg : ∀ w ∈ wsG, w.before _ s = true := fun w h => hts w (List.mem_cons_of_mem _ h)
  have hown : s.vm.findClass RX6 = some m.cls := findClass_of_methodNamed B.named
  have hlocks := B.notSynchronized
  have hin : meth.name = "<init>" := (name_of_methodNamed B.named B.method).1
  have hS : va_S (Bd h0) s.heap s.heap [] := va_S.rf
  have hX : Bx G fi h0 [(h0, .inr (8, [.int 0, .int 0, .null, .null]))] (h0 + 1) s.heap := Bx.start hsz hP
  have hl := lv_entry ([.ref h0]) (n := 1) (Nat.le_of_ble_eq_true rfl)
  rw [lg_entry_eq]
  generalize (lg_sl ([.ref h0]) ++ List.replicate (1 - (lg_sl ([.ref h0])).length) Slot.unset).toArray = ls at hl ⊢
  have hl : lv_has ls 1 [(0, .ref h0)] := hl
  refine lv_aload_n hx hb dX6_init_0 rfl (lv_at hl 0 rfl) ?_
  refine W.objInit hx hb hown (htg _ q115) (htg _ q12) (htg _ q13) rfl (by rw [hml]; exact hl.1) rfl dX6_init_1 (Nat.le_of_ble_eq_true rfl) (Nat.le_of_ble_eq_true rfl) ?_
  refine W.eq (g2 := F0 m 4 ls []) rfl ?_
  refine lv_aload_n hx hb dX6_init_4 rfl (lv_at hl 0 rfl) ?_
  refine lv_iconst (v := (3 : Int32)) hx hb dX6_init_5 (by decide) ?_
  refine bw_newa (N := 3) hx hb (htg _ q64) hK hX hS (by decide) (by decide) (by decide) (Nat.le_of_ble_eq_true rfl) (Nat.le_of_ble_eq_true rfl) dX6_init_6 (fun H hX hS => ?_)
  replace hX := Bx.drop (ws := [(h0, .inr (8, [.int 0, .int 0, .null, .null]))]) (a := (h0 + 1)) (e := .inl (gT G 0, 3, .inl (fun _ => 0))) hX (by rw [hf_1]; exact id)
  replace hX : Bx G fi h0 [(h0, .inr (8, [.int 0, .int 0, .null, .null]))] (h0 + 2) H := hX
  refine bw_putF (ci := 8) (C := RX6) (T := TX6) (N := 4) (ty := .array .int) (v := .ref (h0 + 1)) hx hb htg inG_wsX60 tyX6 tyX6_ok nmX6 hown hK hX hS 0 rfl rfl 2 (by decide) (htg _ q116) rfl hin rfl (by decide +kernel) rfl rfl (Nat.le_of_ble_eq_true rfl) dX6_init_8 (fun H locs hX hS => ?_)
  replace hX : Bx G fi h0 [(h0, .inr (8, [.int 0, .int 0, .ref (h0 + 1), .null]))] (h0 + 2) H := hX
  refine lv_aload_n hx hb dX6_init_11 rfl (lv_at hl 0 rfl) ?_
  refine lv_iconst (v := (3 : Int32)) hx hb dX6_init_12 (by decide) ?_
  refine bw_newa (N := 3) hx hb (htg _ q64) hK hX hS (by decide) (by decide) (by decide) (Nat.le_of_ble_eq_true rfl) (Nat.le_of_ble_eq_true rfl) dX6_init_13 (fun H hX hS => ?_)
  replace hX := Bx.drop (ws := [(h0, .inr (8, [.int 0, .int 0, .ref (h0 + 1), .null]))]) (a := (h0 + 2)) (e := .inl (gT G 0, 3, .inl (fun _ => 0))) hX (by rw [hf_2]; exact id)
  replace hX : Bx G fi h0 [(h0, .inr (8, [.int 0, .int 0, .ref (h0 + 1), .null]))] (h0 + 3) H := hX
  refine bw_putF (ci := 8) (C := RX6) (T := TX6) (N := 4) (ty := .array .int) (v := .ref (h0 + 2)) hx hb htg inG_wsX60 tyX6 tyX6_ok nmX6 hown hK hX hS 0 rfl rfl 3 (by decide) (htg _ q117) rfl hin rfl (by decide +kernel) rfl rfl (Nat.le_of_ble_eq_true rfl) dX6_init_15 (fun H locs hX hS => ?_)
  replace hX : Bx G fi h0 [(h0, .inr (8, [.int 0, .int 0, .ref (h0 + 1), .ref (h0 + 2)]))] (h0 + 3) H := hX
  replace hX := Bx.drop (ws := []) (a := h0) (e := .inr (8, [.int 0, .int 0, .ref (h0 + 1), .ref (h0 + 2)])) hX (by rw [hf_0]; exact id)
  replace hX : Bx G fi h0 [] (h0 + 3) H := hX
  refine W.widen (k := 2) (n := 6) (Nat.le_of_ble_eq_true rfl) (Nat.le_of_ble_eq_true rfl) ?_
  exact W.vret hx hb hr (fun t ht hW9 => ⟨⟨(), rfl, trivial, by first | (subst ht; exact ⟨hX.1, hX.all⟩) | (show t.heap.size = _ ∧ _; rw [ht]; exact ⟨hX.1, hX.all⟩)⟩, hS.F ht⟩) hS.2.2 dX6_init_18
set_option maxHeartbeats 40000000 in
theorem kb_X6 {p : Program} {l : Launch} {e : Env} {R : Room} {s : State} {m : MethodId} {args : Array Value} {below : List Frame} {meth : Method} {c : Code} {H : Heap} {locs : List Loc} {cells slots : Nat} {Q : State → Prop} {cc : ByteArray} {pc nL idx : Nat} {own : String} {ls : Array Slot} {rest : List Value} {G : Geo} {fi : Nat → va_E} {B n : Nat} {ws : va_W} {H0 : Heap} (hx : p.tables.exec = Jvm.exec) (hb : c.code = cc) (hml : c.maxLocals = nL) (hown : s.vm.findClass own = some m.cls) (htg : ∀ w ∈ wsG, w.before args s = true) (hK : Kt G s) (hAO : Ao s) (hX : Bx G fi B (ws ++ [(n, .inr (8, [.int 0, .int 0, .null, .null]))]) (n + 1) H) (hS : va_S (Bd B) H0 H locs) (hF : FX_6 G fi n) (hlk : Cond.methodLink own idx yX6_init ∈ wsG) (hn : ls.size = nL) (hr : (rest.map fun v => v.category).sum ≤ 8) (hR1 : 1 + 1 ≤ R.frames) (hR2 : 8 + (1 + 11) + 12 ≤ R.locals) (hc1 : cells + 2 ≤ R.cells) (hc2 : slots + 6 ≤ R.slots) (hdg : decode cc pc = .ok (.invokespecial idx, 3)) (kk : ∀ (H1 : Heap) (locs1 : List Loc), Bx G fi B ws (n + 1 + 2) H1 → va_S (Bd B) H0 H1 locs1 → W p l e R s m args below meth c H1 locs1 (cells + 2) (slots + 6) Q (F0 m (pc + 3) ls rest)) : W p l e R s m args below meth c H locs cells slots Q (F0 m pc ls (.ref n :: rest)) := by
  have hB : B ≤ n := by have h1 := hX.2.2.2.1.2 ws.length (n, .inr (8, [.int 0, .int 0, .null, .null])) (by simp); exact h1
  have hPn : va_P G.1 vwCl [(n, .inr (8, [.int 0, .int 0, .null, .null]))] H := va_P_r hX.2.2.1
  refine va_callv (va_runI (As := []) (rest := rest) ⟨hx, hb, hml, hown, htg⟩ (cb_X6 l G fi n hF) (cwI 0 htg (gd_all q114) rfl rfl rfl (htg _ q109) (htg _ hlk) (htg _ q113) rfl (by decide +kernel) ⟨hR1, hR2⟩) ⟨fun a U g mk q => ⟨q.1, q.2.1.calling, fun C hC => va_AO.moved (u := U) (U := U.calling g mk a) (Vm.Alike.refl U.vm) (q.2.2.1 C hC), q.2.2.2.1, q.2.2.2.2⟩, fun U hU hW9 => ⟨rfl, hK.warm hW9, fun C hC => va_AO.moved hW9.alike (hAO C hC), by rw [hU]; exact hX.1, by rw [hU]; exact hPn⟩⟩ rfl rfl hn rfl (lv_room hr) hdg ⟨hc1, hc2⟩) hS (fun q _ h9 => Nat.le_trans hB h9) (fun q h9 => Nat.le_trans hB h9) ?_
  intro u t H1 locs1 ht hvm hw hB9 hz1 hk1 hS1
  obtain ⟨hB1, hB2⟩ := hB9
  rw [ht] at hB1 hB2
  exact kk H1 locs1 (hX.call (k := 2) (hB1.trans (by omega)) (fun a h1 h2 => hB2 a h1 (by omega)) (fun q9 hq9 => hk1 q9 (by rw [hX.1]; omega) (Nat.not_le.mpr hq9))) hS1
def FX_8 (G : Geo) (fi : Nat → va_E) (h0 : Nat) : Prop := fi h0 = .inr (10, [.ref (h0 + 1), .ref (h0 + 4)]) ∧ fi (h0 + 4) = .inl (gT G 0, 3, .inl (fun _ => 0)) ∧ FX_6 G fi (h0 + 1)
theorem FXo_8 {G : Geo} {fi : Nat → va_E} {h0 : Nat} (h : FX_8 G fi h0) : fi h0 = .inr (10, [.ref (h0 + 1), .ref (h0 + 4)]) := h.1
abbrev WSB_X8 : List Cond := .code yX8_init cX8_init 1 none :: wsG
abbrev RMB_X8 : Room := { frames := 2, cells := 4, slots := 13, locals := 32 }
set_option maxHeartbeats 40000000 in
set_option maxRecDepth 100000 in
theorem cb_X8 (l : Launch) (G : Geo) (fi : Nat → va_E) (h0 : Nat) (hF : FX_8 G fi h0) : Met l yX8_init WSB_X8 RMB_X8 (va_Pc [.ref h0] (fun U => Kt G U ∧ Ao U ∧ U.heap.size = h0 + 1 ∧ va_P G.1 vwCl [(h0, .inr (10, [.null, .null]))] U.heap)) (va_Qv (fun _ : Unit => True) (fun _ t => t.heap.size = h0 + 5 ∧ ∀ a, h0 ≤ a → a < h0 + 5 → va_at G.1 vwCl (a, fi a) t.heap) (Bd h0)) 4 13 (Bd h0) := by
  refine Met.ofW (cc := cX8_init) (maxL := 1) (ret := none) (by decide) rfl ?_
  intro p e s m args below meth c s₁ B hml hv
  obtain ⟨rfl, hK, hAO, hsz, hP⟩ := hv
  unfold FX_8 at hF
  obtain ⟨hf_0, hf_4, hF_1⟩ := hF
  have hx := B.exec
  have hb := B.bytes
  have hr := B.returns
  have hts := atoms_spec (ws := WSB_X8) B.pre
  have htg : ∀ w ∈ wsG, w.before _ s = true := fun w h => hts w (List.mem_cons_of_mem _ h)
  have hown : s.vm.findClass RX8 = some m.cls := findClass_of_methodNamed B.named
  have hlocks := B.notSynchronized
  have hin : meth.name = "<init>" := (name_of_methodNamed B.named B.method).1
  have hS : va_S (Bd h0) s.heap s.heap [] := va_S.rf
  have hX : Bx G fi h0 [(h0, .inr (10, [.null, .null]))] (h0 + 1) s.heap := Bx.start hsz hP
  have hl := lv_entry ([.ref h0]) (n := 1) (Nat.le_of_ble_eq_true rfl)
  rw [lg_entry_eq]
  generalize (lg_sl ([.ref h0]) ++ List.replicate (1 - (lg_sl ([.ref h0])).length) Slot.unset).toArray = ls at hl ⊢
  have hl : lv_has ls 1 [(0, .ref h0)] := hl
  refine lv_aload_n hx hb dX8_init_0 rfl (lv_at hl 0 rfl) ?_
  refine W.objInit hx hb hown (htg _ q106) (htg _ q12) (htg _ q13) rfl (by rw [hml]; exact hl.1) rfl dX8_init_1 (Nat.le_of_ble_eq_true rfl) (Nat.le_of_ble_eq_true rfl) ?_
  refine W.eq (g2 := F0 m 4 ls []) rfl ?_
  refine lv_aload_n hx hb dX8_init_4 rfl (lv_at hl 0 rfl) ?_
  refine bw_new (ci := 8) (fs := [.int 0, .int 0, .null, .null]) (C := RX6) (T := TX6) (N := 4) hx hb htg inG_wsX60 tyX6 tyX6_ok hown (htg _ q107) (htg _ q108) (htg _ q109) hK hX hS rfl df6 (Nat.le_of_ble_eq_true rfl) (Nat.le_of_ble_eq_true rfl) dX8_init_5 (fun H hX hS => ?_)
  replace hX : Bx G fi h0 ([(h0, .inr (10, [.null, .null]))] ++ [((h0 + 1), .inr (8, [.int 0, .int 0, .null, .null]))]) ((h0 + 1) + 1) H := hX
  refine lv_dup hx hb dX8_init_8 rfl ?_
  refine kb_X6 hx hb hml hown htg hK hAO hX hS hF_1 q112 hl.1 (Nat.le_of_ble_eq_true rfl) (Nat.le_of_ble_eq_true rfl) (Nat.le_of_ble_eq_true rfl) (Nat.le_of_ble_eq_true rfl) (Nat.le_of_ble_eq_true rfl) dX8_init_9 (fun H locs hX hS => ?_)
  replace hX : Bx G fi h0 [(h0, .inr (10, [.null, .null]))] (h0 + 4) H := hX
  refine bw_putF (ci := 10) (C := RX8) (T := TX8) (N := 2) (ty := .object "RobotCell$Judge") (v := .ref (h0 + 1)) hx hb htg inG_wsX80 tyX8 tyX8_ok nmX8 hown hK hX hS 0 rfl rfl 0 (by decide) (htg _ q110) rfl hin rfl (by decide +kernel) rfl rfl (Nat.le_of_ble_eq_true rfl) dX8_init_12 (fun H locs hX hS => ?_)
  replace hX : Bx G fi h0 [(h0, .inr (10, [.ref (h0 + 1), .null]))] (h0 + 4) H := hX
  refine lv_aload_n hx hb dX8_init_15 rfl (lv_at hl 0 rfl) ?_
  refine lv_iconst (v := (3 : Int32)) hx hb dX8_init_16 (by decide) ?_
  refine bw_newa (N := 3) hx hb (htg _ q64) hK hX hS (by decide) (by decide) (by decide) (Nat.le_of_ble_eq_true rfl) (Nat.le_of_ble_eq_true rfl) dX8_init_17 (fun H hX hS => ?_)
  replace hX := Bx.drop (ws := [(h0, .inr (10, [.ref (h0 + 1), .null]))]) (a := (h0 + 4)) (e := .inl (gT G 0, 3, .inl (fun _ => 0))) hX (by rw [hf_4]; exact id)
  replace hX : Bx G fi h0 [(h0, .inr (10, [.ref (h0 + 1), .null]))] (h0 + 5) H := hX
  refine bw_putF (ci := 10) (C := RX8) (T := TX8) (N := 2) (ty := .array .int) (v := .ref (h0 + 4)) hx hb htg inG_wsX80 tyX8 tyX8_ok nmX8 hown hK hX hS 0 rfl rfl 1 (by decide) (htg _ q111) rfl hin rfl (by decide +kernel) rfl rfl (Nat.le_of_ble_eq_true rfl) dX8_init_19 (fun H locs hX hS => ?_)
  replace hX : Bx G fi h0 [(h0, .inr (10, [.ref (h0 + 1), .ref (h0 + 4)]))] (h0 + 5) H := hX
  replace hX := Bx.drop (ws := []) (a := h0) (e := .inr (10, [.ref (h0 + 1), .ref (h0 + 4)])) hX (by rw [hf_0]; exact id)
  replace hX : Bx G fi h0 [] (h0 + 5) H := hX
  refine W.widen (k := 4) (n := 13) (Nat.le_of_ble_eq_true rfl) (Nat.le_of_ble_eq_true rfl) ?_
  exact W.vret hx hb hr (fun t ht hW9 => ⟨⟨(), rfl, trivial, by first | (subst ht; exact ⟨hX.1, hX.all⟩) | (show t.heap.size = _ ∧ _; rw [ht]; exact ⟨hX.1, hX.all⟩)⟩, hS.F ht⟩) hS.2.2 dX8_init_22
set_option maxHeartbeats 40000000 in
theorem kb_X8 {p : Program} {l : Launch} {e : Env} {R : Room} {s : State} {m : MethodId} {args : Array Value} {below : List Frame} {meth : Method} {c : Code} {H : Heap} {locs : List Loc} {cells slots : Nat} {Q : State → Prop} {cc : ByteArray} {pc nL idx : Nat} {own : String} {ls : Array Slot} {rest : List Value} {G : Geo} {fi : Nat → va_E} {B n : Nat} {ws : va_W} {H0 : Heap} (hx : p.tables.exec = Jvm.exec) (hb : c.code = cc) (hml : c.maxLocals = nL) (hown : s.vm.findClass own = some m.cls) (htg : ∀ w ∈ wsG, w.before args s = true) (hK : Kt G s) (hAO : Ao s) (hX : Bx G fi B (ws ++ [(n, .inr (10, [.null, .null]))]) (n + 1) H) (hS : va_S (Bd B) H0 H locs) (hF : FX_8 G fi n) (hlk : Cond.methodLink own idx yX8_init ∈ wsG) (hn : ls.size = nL) (hr : (rest.map fun v => v.category).sum ≤ 8) (hR1 : 2 + 1 ≤ R.frames) (hR2 : 8 + (1 + 11) + 32 ≤ R.locals) (hc1 : cells + 4 ≤ R.cells) (hc2 : slots + 13 ≤ R.slots) (hdg : decode cc pc = .ok (.invokespecial idx, 3)) (kk : ∀ (H1 : Heap) (locs1 : List Loc), Bx G fi B ws (n + 1 + 4) H1 → va_S (Bd B) H0 H1 locs1 → W p l e R s m args below meth c H1 locs1 (cells + 4) (slots + 13) Q (F0 m (pc + 3) ls rest)) : W p l e R s m args below meth c H locs cells slots Q (F0 m pc ls (.ref n :: rest)) := by
  have hB : B ≤ n := by have h1 := hX.2.2.2.1.2 ws.length (n, .inr (10, [.null, .null])) (by simp); exact h1
  have hPn : va_P G.1 vwCl [(n, .inr (10, [.null, .null]))] H := va_P_r hX.2.2.1
  refine va_callv (va_runI (As := []) (rest := rest) ⟨hx, hb, hml, hown, htg⟩ (cb_X8 l G fi n hF) (cwI 0 htg (gd_all q105) rfl rfl rfl (htg _ q27) (htg _ hlk) (htg _ q104) rfl (by decide +kernel) ⟨hR1, hR2⟩) ⟨fun a U g mk q => ⟨q.1, q.2.1.calling, fun C hC => va_AO.moved (u := U) (U := U.calling g mk a) (Vm.Alike.refl U.vm) (q.2.2.1 C hC), q.2.2.2.1, q.2.2.2.2⟩, fun U hU hW9 => ⟨rfl, hK.warm hW9, fun C hC => va_AO.moved hW9.alike (hAO C hC), by rw [hU]; exact hX.1, by rw [hU]; exact hPn⟩⟩ rfl rfl hn rfl (lv_room hr) hdg ⟨hc1, hc2⟩) hS (fun q _ h9 => Nat.le_trans hB h9) (fun q h9 => Nat.le_trans hB h9) ?_
  intro u t H1 locs1 ht hvm hw hB9 hz1 hk1 hS1
  obtain ⟨hB1, hB2⟩ := hB9
  rw [ht] at hB1 hB2
  exact kk H1 locs1 (hX.call (k := 4) (hB1.trans (by omega)) (fun a h1 h2 => hB2 a h1 (by omega)) (fun q9 hq9 => hk1 q9 (by rw [hX.1]; omega) (Nat.not_le.mpr hq9))) hS1
def FX_3 (G : Geo) (fi : Nat → va_E) (h0 : Nat) : Prop := fi h0 = .inr (5, [.int 0, .ref (h0 + 1), .int 0, .int 0, .int 0, .ref (h0 + 3), .ref (h0 + 2)]) ∧ fi (h0 + 1) = .inl (gT G 1, 80, .inl (fun _ => 0)) ∧ fi (h0 + 3) = .inl (gT G 6, 27, .inr (.inr (.inr (.inr (va_up (va_up (va_up (va_up (va_up (va_up (va_up (va_up (va_up (va_up (va_up (va_up (va_up (va_up (va_up (va_up (va_up (va_up (va_up (va_up (va_up (va_up (va_up (va_up (va_up (va_up (va_up (fun _ => none) 0 (some (h0 + 4))) 1 (some (h0 + 5))) 2 (some (h0 + 6))) 3 (some (h0 + 7))) 4 (some (h0 + 8))) 5 (some (h0 + 9))) 6 (some (h0 + 10))) 7 (some (h0 + 11))) 8 (some (h0 + 12))) 9 (some (h0 + 13))) 10 (some (h0 + 14))) 11 (some (h0 + 15))) 12 (some (h0 + 16))) 13 (some (h0 + 17))) 14 (some (h0 + 18))) 15 (some (h0 + 19))) 16 (some (h0 + 20))) 17 (some (h0 + 21))) 18 (some (h0 + 22))) 19 (some (h0 + 23))) 20 (some (h0 + 24))) 21 (some (h0 + 25))) 22 (some (h0 + 26))) 23 (some (h0 + 27))) 24 (some (h0 + 28))) 25 (some (h0 + 29))) 26 (some (h0 + 30))))))) ∧ FX_2 G fi (h0 + 2) ∧ FX_2 G fi (h0 + 4) ∧ FX_2 G fi (h0 + 5) ∧ FX_2 G fi (h0 + 6) ∧ FX_2 G fi (h0 + 7) ∧ FX_2 G fi (h0 + 8) ∧ FX_2 G fi (h0 + 9) ∧ FX_2 G fi (h0 + 10) ∧ FX_2 G fi (h0 + 11) ∧ FX_2 G fi (h0 + 12) ∧ FX_2 G fi (h0 + 13) ∧ FX_2 G fi (h0 + 14) ∧ FX_2 G fi (h0 + 15) ∧ FX_2 G fi (h0 + 16) ∧ FX_2 G fi (h0 + 17) ∧ FX_2 G fi (h0 + 18) ∧ FX_2 G fi (h0 + 19) ∧ FX_2 G fi (h0 + 20) ∧ FX_2 G fi (h0 + 21) ∧ FX_2 G fi (h0 + 22) ∧ FX_2 G fi (h0 + 23) ∧ FX_2 G fi (h0 + 24) ∧ FX_2 G fi (h0 + 25) ∧ FX_2 G fi (h0 + 26) ∧ FX_2 G fi (h0 + 27) ∧ FX_2 G fi (h0 + 28) ∧ FX_2 G fi (h0 + 29) ∧ FX_2 G fi (h0 + 30)
theorem FXo_3 {G : Geo} {fi : Nat → va_E} {h0 : Nat} (h : FX_3 G fi h0) : fi h0 = .inr (5, [.int 0, .ref (h0 + 1), .int 0, .int 0, .int 0, .ref (h0 + 3), .ref (h0 + 2)]) := h.1
abbrev WSB_X3 : List Cond := .code yX3_init cX3_init 2 none :: wsG
abbrev RMB_X3 : Room := { frames := 2, cells := 30, slots := 387, locals := 32 }
set_option maxHeartbeats 40000000 in
set_option maxRecDepth 100000 in
theorem cb_X3 (l : Launch) (G : Geo) (fi : Nat → va_E) (h0 : Nat) (hF : FX_3 G fi h0) : Met l yX3_init WSB_X3 RMB_X3 (va_Pc [.ref h0] (fun U => Kt G U ∧ Ao U ∧ U.heap.size = h0 + 1 ∧ va_P G.1 vwCl [(h0, .inr (5, [.int 0, .null, .int 0, .int 0, .int 0, .null, .null]))] U.heap)) (va_Qv (fun _ : Unit => True) (fun _ t => t.heap.size = h0 + 31 ∧ ∀ a, h0 ≤ a → a < h0 + 31 → va_at G.1 vwCl (a, fi a) t.heap) (Bd h0)) 30 387 (Bd h0) := by
  refine Met.ofW (cc := cX3_init) (maxL := 2) (ret := none) (by decide) rfl ?_
  intro p e s m args below meth c s₁ B hml hv
  obtain ⟨rfl, hK, hAO, hsz, hP⟩ := hv
  unfold FX_3 at hF
  obtain ⟨hf_0, hf_1, hf_3, hF_2, hF_4, hF_5, hF_6, hF_7, hF_8, hF_9, hF_10, hF_11, hF_12, hF_13, hF_14, hF_15, hF_16, hF_17, hF_18, hF_19, hF_20, hF_21, hF_22, hF_23, hF_24, hF_25, hF_26, hF_27, hF_28, hF_29, hF_30⟩ := hF
  have hx := B.exec
  have hb := B.bytes
  have hr := B.returns
  have hts := atoms_spec (ws := WSB_X3) B.pre
  have htg : ∀ w ∈ wsG, w.before _ s = true := fun w h => hts w (List.mem_cons_of_mem _ h)
  have hown : s.vm.findClass RX3 = some m.cls := findClass_of_methodNamed B.named
  have hlocks := B.notSynchronized
  have hin : meth.name = "<init>" := (name_of_methodNamed B.named B.method).1
  have hS : va_S (Bd h0) s.heap s.heap [] := va_S.rf
  have hX : Bx G fi h0 [(h0, .inr (5, [.int 0, .null, .int 0, .int 0, .int 0, .null, .null]))] (h0 + 1) s.heap := Bx.start hsz hP
  have hl := lv_entry ([.ref h0]) (n := 2) (Nat.le_of_ble_eq_true rfl)
  rw [lg_entry_eq]
  generalize (lg_sl ([.ref h0]) ++ List.replicate (2 - (lg_sl ([.ref h0])).length) Slot.unset).toArray = ls at hl ⊢
  have hl : lv_has ls 2 [(0, .ref h0)] := hl
  refine lv_aload_n hx hb dX3_init_0 rfl (lv_at hl 0 rfl) ?_
  refine W.objInit hx hb hown (htg _ q121) (htg _ q12) (htg _ q13) rfl (by rw [hml]; exact hl.1) rfl dX3_init_1 (Nat.le_of_ble_eq_true rfl) (Nat.le_of_ble_eq_true rfl) ?_
  refine W.eq (g2 := F0 m 4 ls []) rfl ?_
  refine lv_aload_n hx hb dX3_init_4 rfl (lv_at hl 0 rfl) ?_
  refine lv_bipush (v := (80 : Int32)) hx hb dX3_init_5 (by decide) ?_
  refine bw_newc (N := 80) hx hb (htg _ q122) hK hX hS (by decide) (by decide) (by decide) (Nat.le_of_ble_eq_true rfl) (Nat.le_of_ble_eq_true rfl) dX3_init_7 (fun H hX hS => ?_)
  replace hX := Bx.drop (ws := [(h0, .inr (5, [.int 0, .null, .int 0, .int 0, .int 0, .null, .null]))]) (a := (h0 + 1)) (e := .inl (gT G 1, 80, .inl (fun _ => 0))) hX (by rw [hf_1]; exact id)
  replace hX : Bx G fi h0 [(h0, .inr (5, [.int 0, .null, .int 0, .int 0, .int 0, .null, .null]))] (h0 + 2) H := hX
  refine bw_putF (ci := 5) (C := RX3) (T := TX3) (N := 7) (ty := .array .char) (v := .ref (h0 + 1)) hx hb htg inG_wsX30 tyX3 tyX3_ok nmX3 hown hK hX hS 0 rfl rfl 1 (by decide) (htg _ q123) rfl hin rfl (by decide +kernel) rfl rfl (Nat.le_of_ble_eq_true rfl) dX3_init_9 (fun H locs hX hS => ?_)
  replace hX : Bx G fi h0 [(h0, .inr (5, [.int 0, .ref (h0 + 1), .int 0, .int 0, .int 0, .null, .null]))] (h0 + 2) H := hX
  refine lv_aload_n hx hb dX3_init_12 rfl (lv_at hl 0 rfl) ?_
  refine bw_new (ci := 4) (fs := [.int 0, .int 0, .int 0, .int 0, .int 0, .int 0, .int 0, .int 0, .int 0, .int 0]) (C := RX2) (T := TX2) (N := 10) hx hb htg inG_wsX20 tyX2 tyX2_ok hown (htg _ q124) (htg _ q125) (htg _ q126) hK hX hS rfl df2 (Nat.le_of_ble_eq_true rfl) (Nat.le_of_ble_eq_true rfl) dX3_init_13 (fun H hX hS => ?_)
  replace hX : Bx G fi h0 ([(h0, .inr (5, [.int 0, .ref (h0 + 1), .int 0, .int 0, .int 0, .null, .null]))] ++ [((h0 + 2), .inr (4, [.int 0, .int 0, .int 0, .int 0, .int 0, .int 0, .int 0, .int 0, .int 0, .int 0]))]) ((h0 + 2) + 1) H := hX
  refine lv_dup hx hb dX3_init_16 rfl ?_
  refine kb_X2_n hx hb hml hown htg hK hAO hX hS hF_2 (List.mem_of_getElem? (i := 0) rfl) hl.1 (Nat.le_of_ble_eq_true rfl) (Nat.le_of_ble_eq_true rfl) (Nat.le_of_ble_eq_true rfl) (Nat.le_of_ble_eq_true rfl) (Nat.le_of_ble_eq_true rfl) dX3_init_17 (fun H locs hX hS => ?_)
  replace hX : Bx G fi h0 [(h0, .inr (5, [.int 0, .ref (h0 + 1), .int 0, .int 0, .int 0, .null, .null]))] (h0 + 3) H := hX
  refine bw_putF (ci := 5) (C := RX3) (T := TX3) (N := 7) (ty := .object "RobotCell$Command") (v := .ref (h0 + 2)) hx hb htg inG_wsX30 tyX3 tyX3_ok nmX3 hown hK hX hS 0 rfl rfl 6 (by decide) (htg _ q127) rfl hin rfl (by decide +kernel) rfl rfl (Nat.le_of_ble_eq_true rfl) dX3_init_20 (fun H locs hX hS => ?_)
  replace hX : Bx G fi h0 [(h0, .inr (5, [.int 0, .ref (h0 + 1), .int 0, .int 0, .int 0, .null, .ref (h0 + 2)]))] (h0 + 3) H := hX
  refine lv_aload_n hx hb dX3_init_23 rfl (lv_at hl 0 rfl) ?_
  refine lv_bipush (v := (27 : Int32)) hx hb dX3_init_24 (by decide) ?_
  refine bw_newq (C := RX2) (t0 := 6) (N := 27) hx hb hown (htg _ q124) (hAO RX2 (by decide +kernel)) hK rfl hX hS (by decide) (by decide) (by decide) (Nat.le_of_ble_eq_true rfl) (Nat.le_of_ble_eq_true rfl) dX3_init_26 (fun H hX hS => ?_)
  replace hX : Bx G fi h0 [(h0, .inr (5, [.int 0, .ref (h0 + 1), .int 0, .int 0, .int 0, .null, .ref (h0 + 2)])), ((h0 + 3), .inl (gT G 6, 27, .inr (.inr (.inr (.inr (fun _ => none))))))] (h0 + 4) H := hX
  refine bw_putF (ci := 5) (C := RX3) (T := TX3) (N := 7) (ty := .array (.object "RobotCell$Command")) (v := .ref (h0 + 3)) hx hb htg inG_wsX30 tyX3 tyX3_ok nmX3 hown hK hX hS 0 rfl rfl 5 (by decide) (htg _ q128) rfl hin rfl (by decide +kernel) rfl rfl (Nat.le_of_ble_eq_true rfl) dX3_init_29 (fun H locs hX hS => ?_)
  replace hX : Bx G fi h0 [(h0, .inr (5, [.int 0, .ref (h0 + 1), .int 0, .int 0, .int 0, .ref (h0 + 3), .ref (h0 + 2)])), ((h0 + 3), .inl (gT G 6, 27, .inr (.inr (.inr (.inr (fun _ => none))))))] (h0 + 4) H := hX
  refine lv_iconst (v := (0 : Int32)) hx hb dX3_init_32 (by decide) ?_
  refine lv_istore_n (lv' := [(1, .int (0 : Int32)), (0, .ref h0)]) hx hb dX3_init_33 rfl hl (by decide) rfl (fun ls hl => ?_)
  refine lv_iload_n hx hb dX3_init_34 rfl (lv_at hl 0 rfl) ?_
  refine lv_aload_n hx hb dX3_init_35 rfl (lv_at hl 1 rfl) ?_
  refine bw_get (ci := 5) (C := RX3) (T := TX3) (N := 7) (v := .ref (h0 + 3)) hx hb htg inG_wsX30 hown hK hX 0 rfl rfl 5 (by decide) (htg _ q128) rfl dX3_init_36 ?_
  refine va_alen hx hb hK.1 hX.2.2.1 1 6 rfl rfl rfl dX3_init_39 ?_
  rw [show Int32.ofNat 27 = (27 : Int32) from rfl]
  refine lv_icmp_ge (tgt := 62) hx hb dX3_init_40 (by decide) (fun c9 => absurd c9 (by decide)) (fun _ => ?_)
  refine lv_aload_n hx hb dX3_init_43 rfl (lv_at hl 1 rfl) ?_
  refine bw_get (ci := 5) (C := RX3) (T := TX3) (N := 7) (v := .ref (h0 + 3)) hx hb htg inG_wsX30 hown hK hX 0 rfl rfl 5 (by decide) (htg _ q128) rfl dX3_init_44 ?_
  refine lv_iload_n hx hb dX3_init_47 rfl (lv_at hl 0 rfl) ?_
  refine bw_new (ci := 4) (fs := [.int 0, .int 0, .int 0, .int 0, .int 0, .int 0, .int 0, .int 0, .int 0, .int 0]) (C := RX2) (T := TX2) (N := 10) hx hb htg inG_wsX20 tyX2 tyX2_ok hown (htg _ q124) (htg _ q125) (htg _ q126) hK hX hS rfl df2 (Nat.le_of_ble_eq_true rfl) (Nat.le_of_ble_eq_true rfl) dX3_init_48 (fun H hX hS => ?_)
  replace hX : Bx G fi h0 ([(h0, .inr (5, [.int 0, .ref (h0 + 1), .int 0, .int 0, .int 0, .ref (h0 + 3), .ref (h0 + 2)])), ((h0 + 3), .inl (gT G 6, 27, .inr (.inr (.inr (.inr (fun _ => none))))))] ++ [((h0 + 4), .inr (4, [.int 0, .int 0, .int 0, .int 0, .int 0, .int 0, .int 0, .int 0, .int 0, .int 0]))]) ((h0 + 4) + 1) H := hX
  refine lv_dup hx hb dX3_init_51 rfl ?_
  refine kb_X2_n hx hb hml hown htg hK hAO hX hS hF_4 (List.mem_of_getElem? (i := 0) rfl) hl.1 (Nat.le_of_ble_eq_true rfl) (Nat.le_of_ble_eq_true rfl) (Nat.le_of_ble_eq_true rfl) (Nat.le_of_ble_eq_true rfl) (Nat.le_of_ble_eq_true rfl) dX3_init_52 (fun H locs hX hS => ?_)
  replace hX : Bx G fi h0 [(h0, .inr (5, [.int 0, .ref (h0 + 1), .int 0, .int 0, .int 0, .ref (h0 + 3), .ref (h0 + 2)])), ((h0 + 3), .inl (gT G 6, 27, .inr (.inr (.inr (.inr (fun _ => none))))))] (h0 + 5) H := hX
  refine bw_aast (ci := 4) (r := (RX2, TX2, 10)) (vs := [.int 0, .int 0, .int 0, .int 0, .int 0, .int 0, .int 0, .int 0, .int 0, .int 0]) hx hb hK hX hS 1 6 rfl rfl (by have h9 := Bx.at_ hX (a := (h0 + 4)) (by omega) (by omega) (by intro k q hk; match k, hk with | 0, hk => (cases hk; (try dsimp only); omega) | 1, hk => (cases hk; (try dsimp only); omega) | k + 2, hk => simp at hk); rw [FXo_2 hF_4] at h9; exact h9) rfl (inR_in (by decide)) dX3_init_55 (fun H locs hX hS => ?_)
  replace hX : Bx G fi h0 [(h0, .inr (5, [.int 0, .ref (h0 + 1), .int 0, .int 0, .int 0, .ref (h0 + 3), .ref (h0 + 2)])), ((h0 + 3), .inl (gT G 6, 27, .inr (.inr (.inr (.inr (va_up (fun _ => none) 0 (some (h0 + 4))))))))] (h0 + 5) H := hX
  refine lv_iinc (v := (1 : Int32)) (lv' := [(1, .int (1 : Int32)), (0, .ref h0)]) hx hb dX3_init_56 hl (k := 0) rfl (by decide) (by decide) rfl (fun ls hl => ?_)
  refine lv_goto (tgt := 34) hx hb dX3_init_59 (by decide) ?_
  refine lv_iload_n hx hb dX3_init_34 rfl (lv_at hl 0 rfl) ?_
  refine lv_aload_n hx hb dX3_init_35 rfl (lv_at hl 1 rfl) ?_
  refine bw_get (ci := 5) (C := RX3) (T := TX3) (N := 7) (v := .ref (h0 + 3)) hx hb htg inG_wsX30 hown hK hX 0 rfl rfl 5 (by decide) (htg _ q128) rfl dX3_init_36 ?_
  refine va_alen hx hb hK.1 hX.2.2.1 1 6 rfl rfl rfl dX3_init_39 ?_
  rw [show Int32.ofNat 27 = (27 : Int32) from rfl]
  refine lv_icmp_ge (tgt := 62) hx hb dX3_init_40 (by decide) (fun c9 => absurd c9 (by decide)) (fun _ => ?_)
  refine lv_aload_n hx hb dX3_init_43 rfl (lv_at hl 1 rfl) ?_
  refine bw_get (ci := 5) (C := RX3) (T := TX3) (N := 7) (v := .ref (h0 + 3)) hx hb htg inG_wsX30 hown hK hX 0 rfl rfl 5 (by decide) (htg _ q128) rfl dX3_init_44 ?_
  refine lv_iload_n hx hb dX3_init_47 rfl (lv_at hl 0 rfl) ?_
  refine bw_new (ci := 4) (fs := [.int 0, .int 0, .int 0, .int 0, .int 0, .int 0, .int 0, .int 0, .int 0, .int 0]) (C := RX2) (T := TX2) (N := 10) hx hb htg inG_wsX20 tyX2 tyX2_ok hown (htg _ q124) (htg _ q125) (htg _ q126) hK hX hS rfl df2 (Nat.le_of_ble_eq_true rfl) (Nat.le_of_ble_eq_true rfl) dX3_init_48 (fun H hX hS => ?_)
  replace hX : Bx G fi h0 ([(h0, .inr (5, [.int 0, .ref (h0 + 1), .int 0, .int 0, .int 0, .ref (h0 + 3), .ref (h0 + 2)])), ((h0 + 3), .inl (gT G 6, 27, .inr (.inr (.inr (.inr (va_up (fun _ => none) 0 (some (h0 + 4))))))))] ++ [((h0 + 5), .inr (4, [.int 0, .int 0, .int 0, .int 0, .int 0, .int 0, .int 0, .int 0, .int 0, .int 0]))]) ((h0 + 5) + 1) H := hX
  refine lv_dup hx hb dX3_init_51 rfl ?_
  refine kb_X2_n hx hb hml hown htg hK hAO hX hS hF_5 (List.mem_of_getElem? (i := 0) rfl) hl.1 (Nat.le_of_ble_eq_true rfl) (Nat.le_of_ble_eq_true rfl) (Nat.le_of_ble_eq_true rfl) (Nat.le_of_ble_eq_true rfl) (Nat.le_of_ble_eq_true rfl) dX3_init_52 (fun H locs hX hS => ?_)
  replace hX : Bx G fi h0 [(h0, .inr (5, [.int 0, .ref (h0 + 1), .int 0, .int 0, .int 0, .ref (h0 + 3), .ref (h0 + 2)])), ((h0 + 3), .inl (gT G 6, 27, .inr (.inr (.inr (.inr (va_up (fun _ => none) 0 (some (h0 + 4))))))))] (h0 + 6) H := hX
  refine bw_aast (ci := 4) (r := (RX2, TX2, 10)) (vs := [.int 0, .int 0, .int 0, .int 0, .int 0, .int 0, .int 0, .int 0, .int 0, .int 0]) hx hb hK hX hS 1 6 rfl rfl (by have h9 := Bx.at_ hX (a := (h0 + 5)) (by omega) (by omega) (by intro k q hk; match k, hk with | 0, hk => (cases hk; (try dsimp only); omega) | 1, hk => (cases hk; (try dsimp only); omega) | k + 2, hk => simp at hk); rw [FXo_2 hF_5] at h9; exact h9) rfl (inR_in (by decide)) dX3_init_55 (fun H locs hX hS => ?_)
  replace hX : Bx G fi h0 [(h0, .inr (5, [.int 0, .ref (h0 + 1), .int 0, .int 0, .int 0, .ref (h0 + 3), .ref (h0 + 2)])), ((h0 + 3), .inl (gT G 6, 27, .inr (.inr (.inr (.inr (va_up (va_up (fun _ => none) 0 (some (h0 + 4))) 1 (some (h0 + 5))))))))] (h0 + 6) H := hX
  refine lv_iinc (v := (2 : Int32)) (lv' := [(1, .int (2 : Int32)), (0, .ref h0)]) hx hb dX3_init_56 hl (k := 0) rfl (by decide) (by decide) rfl (fun ls hl => ?_)
  refine lv_goto (tgt := 34) hx hb dX3_init_59 (by decide) ?_
  refine lv_iload_n hx hb dX3_init_34 rfl (lv_at hl 0 rfl) ?_
  refine lv_aload_n hx hb dX3_init_35 rfl (lv_at hl 1 rfl) ?_
  refine bw_get (ci := 5) (C := RX3) (T := TX3) (N := 7) (v := .ref (h0 + 3)) hx hb htg inG_wsX30 hown hK hX 0 rfl rfl 5 (by decide) (htg _ q128) rfl dX3_init_36 ?_
  refine va_alen hx hb hK.1 hX.2.2.1 1 6 rfl rfl rfl dX3_init_39 ?_
  rw [show Int32.ofNat 27 = (27 : Int32) from rfl]
  refine lv_icmp_ge (tgt := 62) hx hb dX3_init_40 (by decide) (fun c9 => absurd c9 (by decide)) (fun _ => ?_)
  refine lv_aload_n hx hb dX3_init_43 rfl (lv_at hl 1 rfl) ?_
  refine bw_get (ci := 5) (C := RX3) (T := TX3) (N := 7) (v := .ref (h0 + 3)) hx hb htg inG_wsX30 hown hK hX 0 rfl rfl 5 (by decide) (htg _ q128) rfl dX3_init_44 ?_
  refine lv_iload_n hx hb dX3_init_47 rfl (lv_at hl 0 rfl) ?_
  refine bw_new (ci := 4) (fs := [.int 0, .int 0, .int 0, .int 0, .int 0, .int 0, .int 0, .int 0, .int 0, .int 0]) (C := RX2) (T := TX2) (N := 10) hx hb htg inG_wsX20 tyX2 tyX2_ok hown (htg _ q124) (htg _ q125) (htg _ q126) hK hX hS rfl df2 (Nat.le_of_ble_eq_true rfl) (Nat.le_of_ble_eq_true rfl) dX3_init_48 (fun H hX hS => ?_)
  replace hX : Bx G fi h0 ([(h0, .inr (5, [.int 0, .ref (h0 + 1), .int 0, .int 0, .int 0, .ref (h0 + 3), .ref (h0 + 2)])), ((h0 + 3), .inl (gT G 6, 27, .inr (.inr (.inr (.inr (va_up (va_up (fun _ => none) 0 (some (h0 + 4))) 1 (some (h0 + 5))))))))] ++ [((h0 + 6), .inr (4, [.int 0, .int 0, .int 0, .int 0, .int 0, .int 0, .int 0, .int 0, .int 0, .int 0]))]) ((h0 + 6) + 1) H := hX
  refine lv_dup hx hb dX3_init_51 rfl ?_
  refine kb_X2_n hx hb hml hown htg hK hAO hX hS hF_6 (List.mem_of_getElem? (i := 0) rfl) hl.1 (Nat.le_of_ble_eq_true rfl) (Nat.le_of_ble_eq_true rfl) (Nat.le_of_ble_eq_true rfl) (Nat.le_of_ble_eq_true rfl) (Nat.le_of_ble_eq_true rfl) dX3_init_52 (fun H locs hX hS => ?_)
  replace hX : Bx G fi h0 [(h0, .inr (5, [.int 0, .ref (h0 + 1), .int 0, .int 0, .int 0, .ref (h0 + 3), .ref (h0 + 2)])), ((h0 + 3), .inl (gT G 6, 27, .inr (.inr (.inr (.inr (va_up (va_up (fun _ => none) 0 (some (h0 + 4))) 1 (some (h0 + 5))))))))] (h0 + 7) H := hX
  refine bw_aast (ci := 4) (r := (RX2, TX2, 10)) (vs := [.int 0, .int 0, .int 0, .int 0, .int 0, .int 0, .int 0, .int 0, .int 0, .int 0]) hx hb hK hX hS 1 6 rfl rfl (by have h9 := Bx.at_ hX (a := (h0 + 6)) (by omega) (by omega) (by intro k q hk; match k, hk with | 0, hk => (cases hk; (try dsimp only); omega) | 1, hk => (cases hk; (try dsimp only); omega) | k + 2, hk => simp at hk); rw [FXo_2 hF_6] at h9; exact h9) rfl (inR_in (by decide)) dX3_init_55 (fun H locs hX hS => ?_)
  replace hX : Bx G fi h0 [(h0, .inr (5, [.int 0, .ref (h0 + 1), .int 0, .int 0, .int 0, .ref (h0 + 3), .ref (h0 + 2)])), ((h0 + 3), .inl (gT G 6, 27, .inr (.inr (.inr (.inr (va_up (va_up (va_up (fun _ => none) 0 (some (h0 + 4))) 1 (some (h0 + 5))) 2 (some (h0 + 6))))))))] (h0 + 7) H := hX
  refine lv_iinc (v := (3 : Int32)) (lv' := [(1, .int (3 : Int32)), (0, .ref h0)]) hx hb dX3_init_56 hl (k := 0) rfl (by decide) (by decide) rfl (fun ls hl => ?_)
  refine lv_goto (tgt := 34) hx hb dX3_init_59 (by decide) ?_
  refine lv_iload_n hx hb dX3_init_34 rfl (lv_at hl 0 rfl) ?_
  refine lv_aload_n hx hb dX3_init_35 rfl (lv_at hl 1 rfl) ?_
  refine bw_get (ci := 5) (C := RX3) (T := TX3) (N := 7) (v := .ref (h0 + 3)) hx hb htg inG_wsX30 hown hK hX 0 rfl rfl 5 (by decide) (htg _ q128) rfl dX3_init_36 ?_
  refine va_alen hx hb hK.1 hX.2.2.1 1 6 rfl rfl rfl dX3_init_39 ?_
  rw [show Int32.ofNat 27 = (27 : Int32) from rfl]
  refine lv_icmp_ge (tgt := 62) hx hb dX3_init_40 (by decide) (fun c9 => absurd c9 (by decide)) (fun _ => ?_)
  refine lv_aload_n hx hb dX3_init_43 rfl (lv_at hl 1 rfl) ?_
  refine bw_get (ci := 5) (C := RX3) (T := TX3) (N := 7) (v := .ref (h0 + 3)) hx hb htg inG_wsX30 hown hK hX 0 rfl rfl 5 (by decide) (htg _ q128) rfl dX3_init_44 ?_
  refine lv_iload_n hx hb dX3_init_47 rfl (lv_at hl 0 rfl) ?_
  refine bw_new (ci := 4) (fs := [.int 0, .int 0, .int 0, .int 0, .int 0, .int 0, .int 0, .int 0, .int 0, .int 0]) (C := RX2) (T := TX2) (N := 10) hx hb htg inG_wsX20 tyX2 tyX2_ok hown (htg _ q124) (htg _ q125) (htg _ q126) hK hX hS rfl df2 (Nat.le_of_ble_eq_true rfl) (Nat.le_of_ble_eq_true rfl) dX3_init_48 (fun H hX hS => ?_)
  replace hX : Bx G fi h0 ([(h0, .inr (5, [.int 0, .ref (h0 + 1), .int 0, .int 0, .int 0, .ref (h0 + 3), .ref (h0 + 2)])), ((h0 + 3), .inl (gT G 6, 27, .inr (.inr (.inr (.inr (va_up (va_up (va_up (fun _ => none) 0 (some (h0 + 4))) 1 (some (h0 + 5))) 2 (some (h0 + 6))))))))] ++ [((h0 + 7), .inr (4, [.int 0, .int 0, .int 0, .int 0, .int 0, .int 0, .int 0, .int 0, .int 0, .int 0]))]) ((h0 + 7) + 1) H := hX
  refine lv_dup hx hb dX3_init_51 rfl ?_
  refine kb_X2_n hx hb hml hown htg hK hAO hX hS hF_7 (List.mem_of_getElem? (i := 0) rfl) hl.1 (Nat.le_of_ble_eq_true rfl) (Nat.le_of_ble_eq_true rfl) (Nat.le_of_ble_eq_true rfl) (Nat.le_of_ble_eq_true rfl) (Nat.le_of_ble_eq_true rfl) dX3_init_52 (fun H locs hX hS => ?_)
  replace hX : Bx G fi h0 [(h0, .inr (5, [.int 0, .ref (h0 + 1), .int 0, .int 0, .int 0, .ref (h0 + 3), .ref (h0 + 2)])), ((h0 + 3), .inl (gT G 6, 27, .inr (.inr (.inr (.inr (va_up (va_up (va_up (fun _ => none) 0 (some (h0 + 4))) 1 (some (h0 + 5))) 2 (some (h0 + 6))))))))] (h0 + 8) H := hX
  refine bw_aast (ci := 4) (r := (RX2, TX2, 10)) (vs := [.int 0, .int 0, .int 0, .int 0, .int 0, .int 0, .int 0, .int 0, .int 0, .int 0]) hx hb hK hX hS 1 6 rfl rfl (by have h9 := Bx.at_ hX (a := (h0 + 7)) (by omega) (by omega) (by intro k q hk; match k, hk with | 0, hk => (cases hk; (try dsimp only); omega) | 1, hk => (cases hk; (try dsimp only); omega) | k + 2, hk => simp at hk); rw [FXo_2 hF_7] at h9; exact h9) rfl (inR_in (by decide)) dX3_init_55 (fun H locs hX hS => ?_)
  replace hX : Bx G fi h0 [(h0, .inr (5, [.int 0, .ref (h0 + 1), .int 0, .int 0, .int 0, .ref (h0 + 3), .ref (h0 + 2)])), ((h0 + 3), .inl (gT G 6, 27, .inr (.inr (.inr (.inr (va_up (va_up (va_up (va_up (fun _ => none) 0 (some (h0 + 4))) 1 (some (h0 + 5))) 2 (some (h0 + 6))) 3 (some (h0 + 7))))))))] (h0 + 8) H := hX
  refine lv_iinc (v := (4 : Int32)) (lv' := [(1, .int (4 : Int32)), (0, .ref h0)]) hx hb dX3_init_56 hl (k := 0) rfl (by decide) (by decide) rfl (fun ls hl => ?_)
  refine lv_goto (tgt := 34) hx hb dX3_init_59 (by decide) ?_
  refine lv_iload_n hx hb dX3_init_34 rfl (lv_at hl 0 rfl) ?_
  refine lv_aload_n hx hb dX3_init_35 rfl (lv_at hl 1 rfl) ?_
  refine bw_get (ci := 5) (C := RX3) (T := TX3) (N := 7) (v := .ref (h0 + 3)) hx hb htg inG_wsX30 hown hK hX 0 rfl rfl 5 (by decide) (htg _ q128) rfl dX3_init_36 ?_
  refine va_alen hx hb hK.1 hX.2.2.1 1 6 rfl rfl rfl dX3_init_39 ?_
  rw [show Int32.ofNat 27 = (27 : Int32) from rfl]
  refine lv_icmp_ge (tgt := 62) hx hb dX3_init_40 (by decide) (fun c9 => absurd c9 (by decide)) (fun _ => ?_)
  refine lv_aload_n hx hb dX3_init_43 rfl (lv_at hl 1 rfl) ?_
  refine bw_get (ci := 5) (C := RX3) (T := TX3) (N := 7) (v := .ref (h0 + 3)) hx hb htg inG_wsX30 hown hK hX 0 rfl rfl 5 (by decide) (htg _ q128) rfl dX3_init_44 ?_
  refine lv_iload_n hx hb dX3_init_47 rfl (lv_at hl 0 rfl) ?_
  refine bw_new (ci := 4) (fs := [.int 0, .int 0, .int 0, .int 0, .int 0, .int 0, .int 0, .int 0, .int 0, .int 0]) (C := RX2) (T := TX2) (N := 10) hx hb htg inG_wsX20 tyX2 tyX2_ok hown (htg _ q124) (htg _ q125) (htg _ q126) hK hX hS rfl df2 (Nat.le_of_ble_eq_true rfl) (Nat.le_of_ble_eq_true rfl) dX3_init_48 (fun H hX hS => ?_)
  replace hX : Bx G fi h0 ([(h0, .inr (5, [.int 0, .ref (h0 + 1), .int 0, .int 0, .int 0, .ref (h0 + 3), .ref (h0 + 2)])), ((h0 + 3), .inl (gT G 6, 27, .inr (.inr (.inr (.inr (va_up (va_up (va_up (va_up (fun _ => none) 0 (some (h0 + 4))) 1 (some (h0 + 5))) 2 (some (h0 + 6))) 3 (some (h0 + 7))))))))] ++ [((h0 + 8), .inr (4, [.int 0, .int 0, .int 0, .int 0, .int 0, .int 0, .int 0, .int 0, .int 0, .int 0]))]) ((h0 + 8) + 1) H := hX
  refine lv_dup hx hb dX3_init_51 rfl ?_
  refine kb_X2_n hx hb hml hown htg hK hAO hX hS hF_8 (List.mem_of_getElem? (i := 0) rfl) hl.1 (Nat.le_of_ble_eq_true rfl) (Nat.le_of_ble_eq_true rfl) (Nat.le_of_ble_eq_true rfl) (Nat.le_of_ble_eq_true rfl) (Nat.le_of_ble_eq_true rfl) dX3_init_52 (fun H locs hX hS => ?_)
  replace hX : Bx G fi h0 [(h0, .inr (5, [.int 0, .ref (h0 + 1), .int 0, .int 0, .int 0, .ref (h0 + 3), .ref (h0 + 2)])), ((h0 + 3), .inl (gT G 6, 27, .inr (.inr (.inr (.inr (va_up (va_up (va_up (va_up (fun _ => none) 0 (some (h0 + 4))) 1 (some (h0 + 5))) 2 (some (h0 + 6))) 3 (some (h0 + 7))))))))] (h0 + 9) H := hX
  refine bw_aast (ci := 4) (r := (RX2, TX2, 10)) (vs := [.int 0, .int 0, .int 0, .int 0, .int 0, .int 0, .int 0, .int 0, .int 0, .int 0]) hx hb hK hX hS 1 6 rfl rfl (by have h9 := Bx.at_ hX (a := (h0 + 8)) (by omega) (by omega) (by intro k q hk; match k, hk with | 0, hk => (cases hk; (try dsimp only); omega) | 1, hk => (cases hk; (try dsimp only); omega) | k + 2, hk => simp at hk); rw [FXo_2 hF_8] at h9; exact h9) rfl (inR_in (by decide)) dX3_init_55 (fun H locs hX hS => ?_)
  replace hX : Bx G fi h0 [(h0, .inr (5, [.int 0, .ref (h0 + 1), .int 0, .int 0, .int 0, .ref (h0 + 3), .ref (h0 + 2)])), ((h0 + 3), .inl (gT G 6, 27, .inr (.inr (.inr (.inr (va_up (va_up (va_up (va_up (va_up (fun _ => none) 0 (some (h0 + 4))) 1 (some (h0 + 5))) 2 (some (h0 + 6))) 3 (some (h0 + 7))) 4 (some (h0 + 8))))))))] (h0 + 9) H := hX
  refine lv_iinc (v := (5 : Int32)) (lv' := [(1, .int (5 : Int32)), (0, .ref h0)]) hx hb dX3_init_56 hl (k := 0) rfl (by decide) (by decide) rfl (fun ls hl => ?_)
  refine lv_goto (tgt := 34) hx hb dX3_init_59 (by decide) ?_
  refine lv_iload_n hx hb dX3_init_34 rfl (lv_at hl 0 rfl) ?_
  refine lv_aload_n hx hb dX3_init_35 rfl (lv_at hl 1 rfl) ?_
  refine bw_get (ci := 5) (C := RX3) (T := TX3) (N := 7) (v := .ref (h0 + 3)) hx hb htg inG_wsX30 hown hK hX 0 rfl rfl 5 (by decide) (htg _ q128) rfl dX3_init_36 ?_
  refine va_alen hx hb hK.1 hX.2.2.1 1 6 rfl rfl rfl dX3_init_39 ?_
  rw [show Int32.ofNat 27 = (27 : Int32) from rfl]
  refine lv_icmp_ge (tgt := 62) hx hb dX3_init_40 (by decide) (fun c9 => absurd c9 (by decide)) (fun _ => ?_)
  refine lv_aload_n hx hb dX3_init_43 rfl (lv_at hl 1 rfl) ?_
  refine bw_get (ci := 5) (C := RX3) (T := TX3) (N := 7) (v := .ref (h0 + 3)) hx hb htg inG_wsX30 hown hK hX 0 rfl rfl 5 (by decide) (htg _ q128) rfl dX3_init_44 ?_
  refine lv_iload_n hx hb dX3_init_47 rfl (lv_at hl 0 rfl) ?_
  refine bw_new (ci := 4) (fs := [.int 0, .int 0, .int 0, .int 0, .int 0, .int 0, .int 0, .int 0, .int 0, .int 0]) (C := RX2) (T := TX2) (N := 10) hx hb htg inG_wsX20 tyX2 tyX2_ok hown (htg _ q124) (htg _ q125) (htg _ q126) hK hX hS rfl df2 (Nat.le_of_ble_eq_true rfl) (Nat.le_of_ble_eq_true rfl) dX3_init_48 (fun H hX hS => ?_)
  replace hX : Bx G fi h0 ([(h0, .inr (5, [.int 0, .ref (h0 + 1), .int 0, .int 0, .int 0, .ref (h0 + 3), .ref (h0 + 2)])), ((h0 + 3), .inl (gT G 6, 27, .inr (.inr (.inr (.inr (va_up (va_up (va_up (va_up (va_up (fun _ => none) 0 (some (h0 + 4))) 1 (some (h0 + 5))) 2 (some (h0 + 6))) 3 (some (h0 + 7))) 4 (some (h0 + 8))))))))] ++ [((h0 + 9), .inr (4, [.int 0, .int 0, .int 0, .int 0, .int 0, .int 0, .int 0, .int 0, .int 0, .int 0]))]) ((h0 + 9) + 1) H := hX
  refine lv_dup hx hb dX3_init_51 rfl ?_
  refine kb_X2_n hx hb hml hown htg hK hAO hX hS hF_9 (List.mem_of_getElem? (i := 0) rfl) hl.1 (Nat.le_of_ble_eq_true rfl) (Nat.le_of_ble_eq_true rfl) (Nat.le_of_ble_eq_true rfl) (Nat.le_of_ble_eq_true rfl) (Nat.le_of_ble_eq_true rfl) dX3_init_52 (fun H locs hX hS => ?_)
  replace hX : Bx G fi h0 [(h0, .inr (5, [.int 0, .ref (h0 + 1), .int 0, .int 0, .int 0, .ref (h0 + 3), .ref (h0 + 2)])), ((h0 + 3), .inl (gT G 6, 27, .inr (.inr (.inr (.inr (va_up (va_up (va_up (va_up (va_up (fun _ => none) 0 (some (h0 + 4))) 1 (some (h0 + 5))) 2 (some (h0 + 6))) 3 (some (h0 + 7))) 4 (some (h0 + 8))))))))] (h0 + 10) H := hX
  refine bw_aast (ci := 4) (r := (RX2, TX2, 10)) (vs := [.int 0, .int 0, .int 0, .int 0, .int 0, .int 0, .int 0, .int 0, .int 0, .int 0]) hx hb hK hX hS 1 6 rfl rfl (by have h9 := Bx.at_ hX (a := (h0 + 9)) (by omega) (by omega) (by intro k q hk; match k, hk with | 0, hk => (cases hk; (try dsimp only); omega) | 1, hk => (cases hk; (try dsimp only); omega) | k + 2, hk => simp at hk); rw [FXo_2 hF_9] at h9; exact h9) rfl (inR_in (by decide)) dX3_init_55 (fun H locs hX hS => ?_)
  replace hX : Bx G fi h0 [(h0, .inr (5, [.int 0, .ref (h0 + 1), .int 0, .int 0, .int 0, .ref (h0 + 3), .ref (h0 + 2)])), ((h0 + 3), .inl (gT G 6, 27, .inr (.inr (.inr (.inr (va_up (va_up (va_up (va_up (va_up (va_up (fun _ => none) 0 (some (h0 + 4))) 1 (some (h0 + 5))) 2 (some (h0 + 6))) 3 (some (h0 + 7))) 4 (some (h0 + 8))) 5 (some (h0 + 9))))))))] (h0 + 10) H := hX
  refine lv_iinc (v := (6 : Int32)) (lv' := [(1, .int (6 : Int32)), (0, .ref h0)]) hx hb dX3_init_56 hl (k := 0) rfl (by decide) (by decide) rfl (fun ls hl => ?_)
  refine lv_goto (tgt := 34) hx hb dX3_init_59 (by decide) ?_
  refine lv_iload_n hx hb dX3_init_34 rfl (lv_at hl 0 rfl) ?_
  refine lv_aload_n hx hb dX3_init_35 rfl (lv_at hl 1 rfl) ?_
  refine bw_get (ci := 5) (C := RX3) (T := TX3) (N := 7) (v := .ref (h0 + 3)) hx hb htg inG_wsX30 hown hK hX 0 rfl rfl 5 (by decide) (htg _ q128) rfl dX3_init_36 ?_
  refine va_alen hx hb hK.1 hX.2.2.1 1 6 rfl rfl rfl dX3_init_39 ?_
  rw [show Int32.ofNat 27 = (27 : Int32) from rfl]
  refine lv_icmp_ge (tgt := 62) hx hb dX3_init_40 (by decide) (fun c9 => absurd c9 (by decide)) (fun _ => ?_)
  refine lv_aload_n hx hb dX3_init_43 rfl (lv_at hl 1 rfl) ?_
  refine bw_get (ci := 5) (C := RX3) (T := TX3) (N := 7) (v := .ref (h0 + 3)) hx hb htg inG_wsX30 hown hK hX 0 rfl rfl 5 (by decide) (htg _ q128) rfl dX3_init_44 ?_
  refine lv_iload_n hx hb dX3_init_47 rfl (lv_at hl 0 rfl) ?_
  refine bw_new (ci := 4) (fs := [.int 0, .int 0, .int 0, .int 0, .int 0, .int 0, .int 0, .int 0, .int 0, .int 0]) (C := RX2) (T := TX2) (N := 10) hx hb htg inG_wsX20 tyX2 tyX2_ok hown (htg _ q124) (htg _ q125) (htg _ q126) hK hX hS rfl df2 (Nat.le_of_ble_eq_true rfl) (Nat.le_of_ble_eq_true rfl) dX3_init_48 (fun H hX hS => ?_)
  replace hX : Bx G fi h0 ([(h0, .inr (5, [.int 0, .ref (h0 + 1), .int 0, .int 0, .int 0, .ref (h0 + 3), .ref (h0 + 2)])), ((h0 + 3), .inl (gT G 6, 27, .inr (.inr (.inr (.inr (va_up (va_up (va_up (va_up (va_up (va_up (fun _ => none) 0 (some (h0 + 4))) 1 (some (h0 + 5))) 2 (some (h0 + 6))) 3 (some (h0 + 7))) 4 (some (h0 + 8))) 5 (some (h0 + 9))))))))] ++ [((h0 + 10), .inr (4, [.int 0, .int 0, .int 0, .int 0, .int 0, .int 0, .int 0, .int 0, .int 0, .int 0]))]) ((h0 + 10) + 1) H := hX
  refine lv_dup hx hb dX3_init_51 rfl ?_
  refine kb_X2_n hx hb hml hown htg hK hAO hX hS hF_10 (List.mem_of_getElem? (i := 0) rfl) hl.1 (Nat.le_of_ble_eq_true rfl) (Nat.le_of_ble_eq_true rfl) (Nat.le_of_ble_eq_true rfl) (Nat.le_of_ble_eq_true rfl) (Nat.le_of_ble_eq_true rfl) dX3_init_52 (fun H locs hX hS => ?_)
  replace hX : Bx G fi h0 [(h0, .inr (5, [.int 0, .ref (h0 + 1), .int 0, .int 0, .int 0, .ref (h0 + 3), .ref (h0 + 2)])), ((h0 + 3), .inl (gT G 6, 27, .inr (.inr (.inr (.inr (va_up (va_up (va_up (va_up (va_up (va_up (fun _ => none) 0 (some (h0 + 4))) 1 (some (h0 + 5))) 2 (some (h0 + 6))) 3 (some (h0 + 7))) 4 (some (h0 + 8))) 5 (some (h0 + 9))))))))] (h0 + 11) H := hX
  refine bw_aast (ci := 4) (r := (RX2, TX2, 10)) (vs := [.int 0, .int 0, .int 0, .int 0, .int 0, .int 0, .int 0, .int 0, .int 0, .int 0]) hx hb hK hX hS 1 6 rfl rfl (by have h9 := Bx.at_ hX (a := (h0 + 10)) (by omega) (by omega) (by intro k q hk; match k, hk with | 0, hk => (cases hk; (try dsimp only); omega) | 1, hk => (cases hk; (try dsimp only); omega) | k + 2, hk => simp at hk); rw [FXo_2 hF_10] at h9; exact h9) rfl (inR_in (by decide)) dX3_init_55 (fun H locs hX hS => ?_)
  replace hX : Bx G fi h0 [(h0, .inr (5, [.int 0, .ref (h0 + 1), .int 0, .int 0, .int 0, .ref (h0 + 3), .ref (h0 + 2)])), ((h0 + 3), .inl (gT G 6, 27, .inr (.inr (.inr (.inr (va_up (va_up (va_up (va_up (va_up (va_up (va_up (fun _ => none) 0 (some (h0 + 4))) 1 (some (h0 + 5))) 2 (some (h0 + 6))) 3 (some (h0 + 7))) 4 (some (h0 + 8))) 5 (some (h0 + 9))) 6 (some (h0 + 10))))))))] (h0 + 11) H := hX
  refine lv_iinc (v := (7 : Int32)) (lv' := [(1, .int (7 : Int32)), (0, .ref h0)]) hx hb dX3_init_56 hl (k := 0) rfl (by decide) (by decide) rfl (fun ls hl => ?_)
  refine lv_goto (tgt := 34) hx hb dX3_init_59 (by decide) ?_
  refine lv_iload_n hx hb dX3_init_34 rfl (lv_at hl 0 rfl) ?_
  refine lv_aload_n hx hb dX3_init_35 rfl (lv_at hl 1 rfl) ?_
  refine bw_get (ci := 5) (C := RX3) (T := TX3) (N := 7) (v := .ref (h0 + 3)) hx hb htg inG_wsX30 hown hK hX 0 rfl rfl 5 (by decide) (htg _ q128) rfl dX3_init_36 ?_
  refine va_alen hx hb hK.1 hX.2.2.1 1 6 rfl rfl rfl dX3_init_39 ?_
  rw [show Int32.ofNat 27 = (27 : Int32) from rfl]
  refine lv_icmp_ge (tgt := 62) hx hb dX3_init_40 (by decide) (fun c9 => absurd c9 (by decide)) (fun _ => ?_)
  refine lv_aload_n hx hb dX3_init_43 rfl (lv_at hl 1 rfl) ?_
  refine bw_get (ci := 5) (C := RX3) (T := TX3) (N := 7) (v := .ref (h0 + 3)) hx hb htg inG_wsX30 hown hK hX 0 rfl rfl 5 (by decide) (htg _ q128) rfl dX3_init_44 ?_
  refine lv_iload_n hx hb dX3_init_47 rfl (lv_at hl 0 rfl) ?_
  refine bw_new (ci := 4) (fs := [.int 0, .int 0, .int 0, .int 0, .int 0, .int 0, .int 0, .int 0, .int 0, .int 0]) (C := RX2) (T := TX2) (N := 10) hx hb htg inG_wsX20 tyX2 tyX2_ok hown (htg _ q124) (htg _ q125) (htg _ q126) hK hX hS rfl df2 (Nat.le_of_ble_eq_true rfl) (Nat.le_of_ble_eq_true rfl) dX3_init_48 (fun H hX hS => ?_)
  replace hX : Bx G fi h0 ([(h0, .inr (5, [.int 0, .ref (h0 + 1), .int 0, .int 0, .int 0, .ref (h0 + 3), .ref (h0 + 2)])), ((h0 + 3), .inl (gT G 6, 27, .inr (.inr (.inr (.inr (va_up (va_up (va_up (va_up (va_up (va_up (va_up (fun _ => none) 0 (some (h0 + 4))) 1 (some (h0 + 5))) 2 (some (h0 + 6))) 3 (some (h0 + 7))) 4 (some (h0 + 8))) 5 (some (h0 + 9))) 6 (some (h0 + 10))))))))] ++ [((h0 + 11), .inr (4, [.int 0, .int 0, .int 0, .int 0, .int 0, .int 0, .int 0, .int 0, .int 0, .int 0]))]) ((h0 + 11) + 1) H := hX
  refine lv_dup hx hb dX3_init_51 rfl ?_
  refine kb_X2_n hx hb hml hown htg hK hAO hX hS hF_11 (List.mem_of_getElem? (i := 0) rfl) hl.1 (Nat.le_of_ble_eq_true rfl) (Nat.le_of_ble_eq_true rfl) (Nat.le_of_ble_eq_true rfl) (Nat.le_of_ble_eq_true rfl) (Nat.le_of_ble_eq_true rfl) dX3_init_52 (fun H locs hX hS => ?_)
  replace hX : Bx G fi h0 [(h0, .inr (5, [.int 0, .ref (h0 + 1), .int 0, .int 0, .int 0, .ref (h0 + 3), .ref (h0 + 2)])), ((h0 + 3), .inl (gT G 6, 27, .inr (.inr (.inr (.inr (va_up (va_up (va_up (va_up (va_up (va_up (va_up (fun _ => none) 0 (some (h0 + 4))) 1 (some (h0 + 5))) 2 (some (h0 + 6))) 3 (some (h0 + 7))) 4 (some (h0 + 8))) 5 (some (h0 + 9))) 6 (some (h0 + 10))))))))] (h0 + 12) H := hX
  refine bw_aast (ci := 4) (r := (RX2, TX2, 10)) (vs := [.int 0, .int 0, .int 0, .int 0, .int 0, .int 0, .int 0, .int 0, .int 0, .int 0]) hx hb hK hX hS 1 6 rfl rfl (by have h9 := Bx.at_ hX (a := (h0 + 11)) (by omega) (by omega) (by intro k q hk; match k, hk with | 0, hk => (cases hk; (try dsimp only); omega) | 1, hk => (cases hk; (try dsimp only); omega) | k + 2, hk => simp at hk); rw [FXo_2 hF_11] at h9; exact h9) rfl (inR_in (by decide)) dX3_init_55 (fun H locs hX hS => ?_)
  replace hX : Bx G fi h0 [(h0, .inr (5, [.int 0, .ref (h0 + 1), .int 0, .int 0, .int 0, .ref (h0 + 3), .ref (h0 + 2)])), ((h0 + 3), .inl (gT G 6, 27, .inr (.inr (.inr (.inr (va_up (va_up (va_up (va_up (va_up (va_up (va_up (va_up (fun _ => none) 0 (some (h0 + 4))) 1 (some (h0 + 5))) 2 (some (h0 + 6))) 3 (some (h0 + 7))) 4 (some (h0 + 8))) 5 (some (h0 + 9))) 6 (some (h0 + 10))) 7 (some (h0 + 11))))))))] (h0 + 12) H := hX
  refine lv_iinc (v := (8 : Int32)) (lv' := [(1, .int (8 : Int32)), (0, .ref h0)]) hx hb dX3_init_56 hl (k := 0) rfl (by decide) (by decide) rfl (fun ls hl => ?_)
  refine lv_goto (tgt := 34) hx hb dX3_init_59 (by decide) ?_
  refine lv_iload_n hx hb dX3_init_34 rfl (lv_at hl 0 rfl) ?_
  refine lv_aload_n hx hb dX3_init_35 rfl (lv_at hl 1 rfl) ?_
  refine bw_get (ci := 5) (C := RX3) (T := TX3) (N := 7) (v := .ref (h0 + 3)) hx hb htg inG_wsX30 hown hK hX 0 rfl rfl 5 (by decide) (htg _ q128) rfl dX3_init_36 ?_
  refine va_alen hx hb hK.1 hX.2.2.1 1 6 rfl rfl rfl dX3_init_39 ?_
  rw [show Int32.ofNat 27 = (27 : Int32) from rfl]
  refine lv_icmp_ge (tgt := 62) hx hb dX3_init_40 (by decide) (fun c9 => absurd c9 (by decide)) (fun _ => ?_)
  refine lv_aload_n hx hb dX3_init_43 rfl (lv_at hl 1 rfl) ?_
  refine bw_get (ci := 5) (C := RX3) (T := TX3) (N := 7) (v := .ref (h0 + 3)) hx hb htg inG_wsX30 hown hK hX 0 rfl rfl 5 (by decide) (htg _ q128) rfl dX3_init_44 ?_
  refine lv_iload_n hx hb dX3_init_47 rfl (lv_at hl 0 rfl) ?_
  refine bw_new (ci := 4) (fs := [.int 0, .int 0, .int 0, .int 0, .int 0, .int 0, .int 0, .int 0, .int 0, .int 0]) (C := RX2) (T := TX2) (N := 10) hx hb htg inG_wsX20 tyX2 tyX2_ok hown (htg _ q124) (htg _ q125) (htg _ q126) hK hX hS rfl df2 (Nat.le_of_ble_eq_true rfl) (Nat.le_of_ble_eq_true rfl) dX3_init_48 (fun H hX hS => ?_)
  replace hX : Bx G fi h0 ([(h0, .inr (5, [.int 0, .ref (h0 + 1), .int 0, .int 0, .int 0, .ref (h0 + 3), .ref (h0 + 2)])), ((h0 + 3), .inl (gT G 6, 27, .inr (.inr (.inr (.inr (va_up (va_up (va_up (va_up (va_up (va_up (va_up (va_up (fun _ => none) 0 (some (h0 + 4))) 1 (some (h0 + 5))) 2 (some (h0 + 6))) 3 (some (h0 + 7))) 4 (some (h0 + 8))) 5 (some (h0 + 9))) 6 (some (h0 + 10))) 7 (some (h0 + 11))))))))] ++ [((h0 + 12), .inr (4, [.int 0, .int 0, .int 0, .int 0, .int 0, .int 0, .int 0, .int 0, .int 0, .int 0]))]) ((h0 + 12) + 1) H := hX
  refine lv_dup hx hb dX3_init_51 rfl ?_
  refine kb_X2_n hx hb hml hown htg hK hAO hX hS hF_12 (List.mem_of_getElem? (i := 0) rfl) hl.1 (Nat.le_of_ble_eq_true rfl) (Nat.le_of_ble_eq_true rfl) (Nat.le_of_ble_eq_true rfl) (Nat.le_of_ble_eq_true rfl) (Nat.le_of_ble_eq_true rfl) dX3_init_52 (fun H locs hX hS => ?_)
  replace hX : Bx G fi h0 [(h0, .inr (5, [.int 0, .ref (h0 + 1), .int 0, .int 0, .int 0, .ref (h0 + 3), .ref (h0 + 2)])), ((h0 + 3), .inl (gT G 6, 27, .inr (.inr (.inr (.inr (va_up (va_up (va_up (va_up (va_up (va_up (va_up (va_up (fun _ => none) 0 (some (h0 + 4))) 1 (some (h0 + 5))) 2 (some (h0 + 6))) 3 (some (h0 + 7))) 4 (some (h0 + 8))) 5 (some (h0 + 9))) 6 (some (h0 + 10))) 7 (some (h0 + 11))))))))] (h0 + 13) H := hX
  refine bw_aast (ci := 4) (r := (RX2, TX2, 10)) (vs := [.int 0, .int 0, .int 0, .int 0, .int 0, .int 0, .int 0, .int 0, .int 0, .int 0]) hx hb hK hX hS 1 6 rfl rfl (by have h9 := Bx.at_ hX (a := (h0 + 12)) (by omega) (by omega) (by intro k q hk; match k, hk with | 0, hk => (cases hk; (try dsimp only); omega) | 1, hk => (cases hk; (try dsimp only); omega) | k + 2, hk => simp at hk); rw [FXo_2 hF_12] at h9; exact h9) rfl (inR_in (by decide)) dX3_init_55 (fun H locs hX hS => ?_)
  replace hX : Bx G fi h0 [(h0, .inr (5, [.int 0, .ref (h0 + 1), .int 0, .int 0, .int 0, .ref (h0 + 3), .ref (h0 + 2)])), ((h0 + 3), .inl (gT G 6, 27, .inr (.inr (.inr (.inr (va_up (va_up (va_up (va_up (va_up (va_up (va_up (va_up (va_up (fun _ => none) 0 (some (h0 + 4))) 1 (some (h0 + 5))) 2 (some (h0 + 6))) 3 (some (h0 + 7))) 4 (some (h0 + 8))) 5 (some (h0 + 9))) 6 (some (h0 + 10))) 7 (some (h0 + 11))) 8 (some (h0 + 12))))))))] (h0 + 13) H := hX
  refine lv_iinc (v := (9 : Int32)) (lv' := [(1, .int (9 : Int32)), (0, .ref h0)]) hx hb dX3_init_56 hl (k := 0) rfl (by decide) (by decide) rfl (fun ls hl => ?_)
  refine lv_goto (tgt := 34) hx hb dX3_init_59 (by decide) ?_
  refine lv_iload_n hx hb dX3_init_34 rfl (lv_at hl 0 rfl) ?_
  refine lv_aload_n hx hb dX3_init_35 rfl (lv_at hl 1 rfl) ?_
  refine bw_get (ci := 5) (C := RX3) (T := TX3) (N := 7) (v := .ref (h0 + 3)) hx hb htg inG_wsX30 hown hK hX 0 rfl rfl 5 (by decide) (htg _ q128) rfl dX3_init_36 ?_
  refine va_alen hx hb hK.1 hX.2.2.1 1 6 rfl rfl rfl dX3_init_39 ?_
  rw [show Int32.ofNat 27 = (27 : Int32) from rfl]
  refine lv_icmp_ge (tgt := 62) hx hb dX3_init_40 (by decide) (fun c9 => absurd c9 (by decide)) (fun _ => ?_)
  refine lv_aload_n hx hb dX3_init_43 rfl (lv_at hl 1 rfl) ?_
  refine bw_get (ci := 5) (C := RX3) (T := TX3) (N := 7) (v := .ref (h0 + 3)) hx hb htg inG_wsX30 hown hK hX 0 rfl rfl 5 (by decide) (htg _ q128) rfl dX3_init_44 ?_
  refine lv_iload_n hx hb dX3_init_47 rfl (lv_at hl 0 rfl) ?_
  refine bw_new (ci := 4) (fs := [.int 0, .int 0, .int 0, .int 0, .int 0, .int 0, .int 0, .int 0, .int 0, .int 0]) (C := RX2) (T := TX2) (N := 10) hx hb htg inG_wsX20 tyX2 tyX2_ok hown (htg _ q124) (htg _ q125) (htg _ q126) hK hX hS rfl df2 (Nat.le_of_ble_eq_true rfl) (Nat.le_of_ble_eq_true rfl) dX3_init_48 (fun H hX hS => ?_)
  replace hX : Bx G fi h0 ([(h0, .inr (5, [.int 0, .ref (h0 + 1), .int 0, .int 0, .int 0, .ref (h0 + 3), .ref (h0 + 2)])), ((h0 + 3), .inl (gT G 6, 27, .inr (.inr (.inr (.inr (va_up (va_up (va_up (va_up (va_up (va_up (va_up (va_up (va_up (fun _ => none) 0 (some (h0 + 4))) 1 (some (h0 + 5))) 2 (some (h0 + 6))) 3 (some (h0 + 7))) 4 (some (h0 + 8))) 5 (some (h0 + 9))) 6 (some (h0 + 10))) 7 (some (h0 + 11))) 8 (some (h0 + 12))))))))] ++ [((h0 + 13), .inr (4, [.int 0, .int 0, .int 0, .int 0, .int 0, .int 0, .int 0, .int 0, .int 0, .int 0]))]) ((h0 + 13) + 1) H := hX
  refine lv_dup hx hb dX3_init_51 rfl ?_
  refine kb_X2_n hx hb hml hown htg hK hAO hX hS hF_13 (List.mem_of_getElem? (i := 0) rfl) hl.1 (Nat.le_of_ble_eq_true rfl) (Nat.le_of_ble_eq_true rfl) (Nat.le_of_ble_eq_true rfl) (Nat.le_of_ble_eq_true rfl) (Nat.le_of_ble_eq_true rfl) dX3_init_52 (fun H locs hX hS => ?_)
  replace hX : Bx G fi h0 [(h0, .inr (5, [.int 0, .ref (h0 + 1), .int 0, .int 0, .int 0, .ref (h0 + 3), .ref (h0 + 2)])), ((h0 + 3), .inl (gT G 6, 27, .inr (.inr (.inr (.inr (va_up (va_up (va_up (va_up (va_up (va_up (va_up (va_up (va_up (fun _ => none) 0 (some (h0 + 4))) 1 (some (h0 + 5))) 2 (some (h0 + 6))) 3 (some (h0 + 7))) 4 (some (h0 + 8))) 5 (some (h0 + 9))) 6 (some (h0 + 10))) 7 (some (h0 + 11))) 8 (some (h0 + 12))))))))] (h0 + 14) H := hX
  refine bw_aast (ci := 4) (r := (RX2, TX2, 10)) (vs := [.int 0, .int 0, .int 0, .int 0, .int 0, .int 0, .int 0, .int 0, .int 0, .int 0]) hx hb hK hX hS 1 6 rfl rfl (by have h9 := Bx.at_ hX (a := (h0 + 13)) (by omega) (by omega) (by intro k q hk; match k, hk with | 0, hk => (cases hk; (try dsimp only); omega) | 1, hk => (cases hk; (try dsimp only); omega) | k + 2, hk => simp at hk); rw [FXo_2 hF_13] at h9; exact h9) rfl (inR_in (by decide)) dX3_init_55 (fun H locs hX hS => ?_)
  replace hX : Bx G fi h0 [(h0, .inr (5, [.int 0, .ref (h0 + 1), .int 0, .int 0, .int 0, .ref (h0 + 3), .ref (h0 + 2)])), ((h0 + 3), .inl (gT G 6, 27, .inr (.inr (.inr (.inr (va_up (va_up (va_up (va_up (va_up (va_up (va_up (va_up (va_up (va_up (fun _ => none) 0 (some (h0 + 4))) 1 (some (h0 + 5))) 2 (some (h0 + 6))) 3 (some (h0 + 7))) 4 (some (h0 + 8))) 5 (some (h0 + 9))) 6 (some (h0 + 10))) 7 (some (h0 + 11))) 8 (some (h0 + 12))) 9 (some (h0 + 13))))))))] (h0 + 14) H := hX
  refine lv_iinc (v := (10 : Int32)) (lv' := [(1, .int (10 : Int32)), (0, .ref h0)]) hx hb dX3_init_56 hl (k := 0) rfl (by decide) (by decide) rfl (fun ls hl => ?_)
  refine lv_goto (tgt := 34) hx hb dX3_init_59 (by decide) ?_
  refine lv_iload_n hx hb dX3_init_34 rfl (lv_at hl 0 rfl) ?_
  refine lv_aload_n hx hb dX3_init_35 rfl (lv_at hl 1 rfl) ?_
  refine bw_get (ci := 5) (C := RX3) (T := TX3) (N := 7) (v := .ref (h0 + 3)) hx hb htg inG_wsX30 hown hK hX 0 rfl rfl 5 (by decide) (htg _ q128) rfl dX3_init_36 ?_
  refine va_alen hx hb hK.1 hX.2.2.1 1 6 rfl rfl rfl dX3_init_39 ?_
  rw [show Int32.ofNat 27 = (27 : Int32) from rfl]
  refine lv_icmp_ge (tgt := 62) hx hb dX3_init_40 (by decide) (fun c9 => absurd c9 (by decide)) (fun _ => ?_)
  refine lv_aload_n hx hb dX3_init_43 rfl (lv_at hl 1 rfl) ?_
  refine bw_get (ci := 5) (C := RX3) (T := TX3) (N := 7) (v := .ref (h0 + 3)) hx hb htg inG_wsX30 hown hK hX 0 rfl rfl 5 (by decide) (htg _ q128) rfl dX3_init_44 ?_
  refine lv_iload_n hx hb dX3_init_47 rfl (lv_at hl 0 rfl) ?_
  refine bw_new (ci := 4) (fs := [.int 0, .int 0, .int 0, .int 0, .int 0, .int 0, .int 0, .int 0, .int 0, .int 0]) (C := RX2) (T := TX2) (N := 10) hx hb htg inG_wsX20 tyX2 tyX2_ok hown (htg _ q124) (htg _ q125) (htg _ q126) hK hX hS rfl df2 (Nat.le_of_ble_eq_true rfl) (Nat.le_of_ble_eq_true rfl) dX3_init_48 (fun H hX hS => ?_)
  replace hX : Bx G fi h0 ([(h0, .inr (5, [.int 0, .ref (h0 + 1), .int 0, .int 0, .int 0, .ref (h0 + 3), .ref (h0 + 2)])), ((h0 + 3), .inl (gT G 6, 27, .inr (.inr (.inr (.inr (va_up (va_up (va_up (va_up (va_up (va_up (va_up (va_up (va_up (va_up (fun _ => none) 0 (some (h0 + 4))) 1 (some (h0 + 5))) 2 (some (h0 + 6))) 3 (some (h0 + 7))) 4 (some (h0 + 8))) 5 (some (h0 + 9))) 6 (some (h0 + 10))) 7 (some (h0 + 11))) 8 (some (h0 + 12))) 9 (some (h0 + 13))))))))] ++ [((h0 + 14), .inr (4, [.int 0, .int 0, .int 0, .int 0, .int 0, .int 0, .int 0, .int 0, .int 0, .int 0]))]) ((h0 + 14) + 1) H := hX
  refine lv_dup hx hb dX3_init_51 rfl ?_
  refine kb_X2_n hx hb hml hown htg hK hAO hX hS hF_14 (List.mem_of_getElem? (i := 0) rfl) hl.1 (Nat.le_of_ble_eq_true rfl) (Nat.le_of_ble_eq_true rfl) (Nat.le_of_ble_eq_true rfl) (Nat.le_of_ble_eq_true rfl) (Nat.le_of_ble_eq_true rfl) dX3_init_52 (fun H locs hX hS => ?_)
  replace hX : Bx G fi h0 [(h0, .inr (5, [.int 0, .ref (h0 + 1), .int 0, .int 0, .int 0, .ref (h0 + 3), .ref (h0 + 2)])), ((h0 + 3), .inl (gT G 6, 27, .inr (.inr (.inr (.inr (va_up (va_up (va_up (va_up (va_up (va_up (va_up (va_up (va_up (va_up (fun _ => none) 0 (some (h0 + 4))) 1 (some (h0 + 5))) 2 (some (h0 + 6))) 3 (some (h0 + 7))) 4 (some (h0 + 8))) 5 (some (h0 + 9))) 6 (some (h0 + 10))) 7 (some (h0 + 11))) 8 (some (h0 + 12))) 9 (some (h0 + 13))))))))] (h0 + 15) H := hX
  refine bw_aast (ci := 4) (r := (RX2, TX2, 10)) (vs := [.int 0, .int 0, .int 0, .int 0, .int 0, .int 0, .int 0, .int 0, .int 0, .int 0]) hx hb hK hX hS 1 6 rfl rfl (by have h9 := Bx.at_ hX (a := (h0 + 14)) (by omega) (by omega) (by intro k q hk; match k, hk with | 0, hk => (cases hk; (try dsimp only); omega) | 1, hk => (cases hk; (try dsimp only); omega) | k + 2, hk => simp at hk); rw [FXo_2 hF_14] at h9; exact h9) rfl (inR_in (by decide)) dX3_init_55 (fun H locs hX hS => ?_)
  replace hX : Bx G fi h0 [(h0, .inr (5, [.int 0, .ref (h0 + 1), .int 0, .int 0, .int 0, .ref (h0 + 3), .ref (h0 + 2)])), ((h0 + 3), .inl (gT G 6, 27, .inr (.inr (.inr (.inr (va_up (va_up (va_up (va_up (va_up (va_up (va_up (va_up (va_up (va_up (va_up (fun _ => none) 0 (some (h0 + 4))) 1 (some (h0 + 5))) 2 (some (h0 + 6))) 3 (some (h0 + 7))) 4 (some (h0 + 8))) 5 (some (h0 + 9))) 6 (some (h0 + 10))) 7 (some (h0 + 11))) 8 (some (h0 + 12))) 9 (some (h0 + 13))) 10 (some (h0 + 14))))))))] (h0 + 15) H := hX
  refine lv_iinc (v := (11 : Int32)) (lv' := [(1, .int (11 : Int32)), (0, .ref h0)]) hx hb dX3_init_56 hl (k := 0) rfl (by decide) (by decide) rfl (fun ls hl => ?_)
  refine lv_goto (tgt := 34) hx hb dX3_init_59 (by decide) ?_
  refine lv_iload_n hx hb dX3_init_34 rfl (lv_at hl 0 rfl) ?_
  refine lv_aload_n hx hb dX3_init_35 rfl (lv_at hl 1 rfl) ?_
  refine bw_get (ci := 5) (C := RX3) (T := TX3) (N := 7) (v := .ref (h0 + 3)) hx hb htg inG_wsX30 hown hK hX 0 rfl rfl 5 (by decide) (htg _ q128) rfl dX3_init_36 ?_
  refine va_alen hx hb hK.1 hX.2.2.1 1 6 rfl rfl rfl dX3_init_39 ?_
  rw [show Int32.ofNat 27 = (27 : Int32) from rfl]
  refine lv_icmp_ge (tgt := 62) hx hb dX3_init_40 (by decide) (fun c9 => absurd c9 (by decide)) (fun _ => ?_)
  refine lv_aload_n hx hb dX3_init_43 rfl (lv_at hl 1 rfl) ?_
  refine bw_get (ci := 5) (C := RX3) (T := TX3) (N := 7) (v := .ref (h0 + 3)) hx hb htg inG_wsX30 hown hK hX 0 rfl rfl 5 (by decide) (htg _ q128) rfl dX3_init_44 ?_
  refine lv_iload_n hx hb dX3_init_47 rfl (lv_at hl 0 rfl) ?_
  refine bw_new (ci := 4) (fs := [.int 0, .int 0, .int 0, .int 0, .int 0, .int 0, .int 0, .int 0, .int 0, .int 0]) (C := RX2) (T := TX2) (N := 10) hx hb htg inG_wsX20 tyX2 tyX2_ok hown (htg _ q124) (htg _ q125) (htg _ q126) hK hX hS rfl df2 (Nat.le_of_ble_eq_true rfl) (Nat.le_of_ble_eq_true rfl) dX3_init_48 (fun H hX hS => ?_)
  replace hX : Bx G fi h0 ([(h0, .inr (5, [.int 0, .ref (h0 + 1), .int 0, .int 0, .int 0, .ref (h0 + 3), .ref (h0 + 2)])), ((h0 + 3), .inl (gT G 6, 27, .inr (.inr (.inr (.inr (va_up (va_up (va_up (va_up (va_up (va_up (va_up (va_up (va_up (va_up (va_up (fun _ => none) 0 (some (h0 + 4))) 1 (some (h0 + 5))) 2 (some (h0 + 6))) 3 (some (h0 + 7))) 4 (some (h0 + 8))) 5 (some (h0 + 9))) 6 (some (h0 + 10))) 7 (some (h0 + 11))) 8 (some (h0 + 12))) 9 (some (h0 + 13))) 10 (some (h0 + 14))))))))] ++ [((h0 + 15), .inr (4, [.int 0, .int 0, .int 0, .int 0, .int 0, .int 0, .int 0, .int 0, .int 0, .int 0]))]) ((h0 + 15) + 1) H := hX
  refine lv_dup hx hb dX3_init_51 rfl ?_
  refine kb_X2_n hx hb hml hown htg hK hAO hX hS hF_15 (List.mem_of_getElem? (i := 0) rfl) hl.1 (Nat.le_of_ble_eq_true rfl) (Nat.le_of_ble_eq_true rfl) (Nat.le_of_ble_eq_true rfl) (Nat.le_of_ble_eq_true rfl) (Nat.le_of_ble_eq_true rfl) dX3_init_52 (fun H locs hX hS => ?_)
  replace hX : Bx G fi h0 [(h0, .inr (5, [.int 0, .ref (h0 + 1), .int 0, .int 0, .int 0, .ref (h0 + 3), .ref (h0 + 2)])), ((h0 + 3), .inl (gT G 6, 27, .inr (.inr (.inr (.inr (va_up (va_up (va_up (va_up (va_up (va_up (va_up (va_up (va_up (va_up (va_up (fun _ => none) 0 (some (h0 + 4))) 1 (some (h0 + 5))) 2 (some (h0 + 6))) 3 (some (h0 + 7))) 4 (some (h0 + 8))) 5 (some (h0 + 9))) 6 (some (h0 + 10))) 7 (some (h0 + 11))) 8 (some (h0 + 12))) 9 (some (h0 + 13))) 10 (some (h0 + 14))))))))] (h0 + 16) H := hX
  refine bw_aast (ci := 4) (r := (RX2, TX2, 10)) (vs := [.int 0, .int 0, .int 0, .int 0, .int 0, .int 0, .int 0, .int 0, .int 0, .int 0]) hx hb hK hX hS 1 6 rfl rfl (by have h9 := Bx.at_ hX (a := (h0 + 15)) (by omega) (by omega) (by intro k q hk; match k, hk with | 0, hk => (cases hk; (try dsimp only); omega) | 1, hk => (cases hk; (try dsimp only); omega) | k + 2, hk => simp at hk); rw [FXo_2 hF_15] at h9; exact h9) rfl (inR_in (by decide)) dX3_init_55 (fun H locs hX hS => ?_)
  replace hX : Bx G fi h0 [(h0, .inr (5, [.int 0, .ref (h0 + 1), .int 0, .int 0, .int 0, .ref (h0 + 3), .ref (h0 + 2)])), ((h0 + 3), .inl (gT G 6, 27, .inr (.inr (.inr (.inr (va_up (va_up (va_up (va_up (va_up (va_up (va_up (va_up (va_up (va_up (va_up (va_up (fun _ => none) 0 (some (h0 + 4))) 1 (some (h0 + 5))) 2 (some (h0 + 6))) 3 (some (h0 + 7))) 4 (some (h0 + 8))) 5 (some (h0 + 9))) 6 (some (h0 + 10))) 7 (some (h0 + 11))) 8 (some (h0 + 12))) 9 (some (h0 + 13))) 10 (some (h0 + 14))) 11 (some (h0 + 15))))))))] (h0 + 16) H := hX
  refine lv_iinc (v := (12 : Int32)) (lv' := [(1, .int (12 : Int32)), (0, .ref h0)]) hx hb dX3_init_56 hl (k := 0) rfl (by decide) (by decide) rfl (fun ls hl => ?_)
  refine lv_goto (tgt := 34) hx hb dX3_init_59 (by decide) ?_
  refine lv_iload_n hx hb dX3_init_34 rfl (lv_at hl 0 rfl) ?_
  refine lv_aload_n hx hb dX3_init_35 rfl (lv_at hl 1 rfl) ?_
  refine bw_get (ci := 5) (C := RX3) (T := TX3) (N := 7) (v := .ref (h0 + 3)) hx hb htg inG_wsX30 hown hK hX 0 rfl rfl 5 (by decide) (htg _ q128) rfl dX3_init_36 ?_
  refine va_alen hx hb hK.1 hX.2.2.1 1 6 rfl rfl rfl dX3_init_39 ?_
  rw [show Int32.ofNat 27 = (27 : Int32) from rfl]
  refine lv_icmp_ge (tgt := 62) hx hb dX3_init_40 (by decide) (fun c9 => absurd c9 (by decide)) (fun _ => ?_)
  refine lv_aload_n hx hb dX3_init_43 rfl (lv_at hl 1 rfl) ?_
  refine bw_get (ci := 5) (C := RX3) (T := TX3) (N := 7) (v := .ref (h0 + 3)) hx hb htg inG_wsX30 hown hK hX 0 rfl rfl 5 (by decide) (htg _ q128) rfl dX3_init_44 ?_
  refine lv_iload_n hx hb dX3_init_47 rfl (lv_at hl 0 rfl) ?_
  refine bw_new (ci := 4) (fs := [.int 0, .int 0, .int 0, .int 0, .int 0, .int 0, .int 0, .int 0, .int 0, .int 0]) (C := RX2) (T := TX2) (N := 10) hx hb htg inG_wsX20 tyX2 tyX2_ok hown (htg _ q124) (htg _ q125) (htg _ q126) hK hX hS rfl df2 (Nat.le_of_ble_eq_true rfl) (Nat.le_of_ble_eq_true rfl) dX3_init_48 (fun H hX hS => ?_)
  replace hX : Bx G fi h0 ([(h0, .inr (5, [.int 0, .ref (h0 + 1), .int 0, .int 0, .int 0, .ref (h0 + 3), .ref (h0 + 2)])), ((h0 + 3), .inl (gT G 6, 27, .inr (.inr (.inr (.inr (va_up (va_up (va_up (va_up (va_up (va_up (va_up (va_up (va_up (va_up (va_up (va_up (fun _ => none) 0 (some (h0 + 4))) 1 (some (h0 + 5))) 2 (some (h0 + 6))) 3 (some (h0 + 7))) 4 (some (h0 + 8))) 5 (some (h0 + 9))) 6 (some (h0 + 10))) 7 (some (h0 + 11))) 8 (some (h0 + 12))) 9 (some (h0 + 13))) 10 (some (h0 + 14))) 11 (some (h0 + 15))))))))] ++ [((h0 + 16), .inr (4, [.int 0, .int 0, .int 0, .int 0, .int 0, .int 0, .int 0, .int 0, .int 0, .int 0]))]) ((h0 + 16) + 1) H := hX
  refine lv_dup hx hb dX3_init_51 rfl ?_
  refine kb_X2_n hx hb hml hown htg hK hAO hX hS hF_16 (List.mem_of_getElem? (i := 0) rfl) hl.1 (Nat.le_of_ble_eq_true rfl) (Nat.le_of_ble_eq_true rfl) (Nat.le_of_ble_eq_true rfl) (Nat.le_of_ble_eq_true rfl) (Nat.le_of_ble_eq_true rfl) dX3_init_52 (fun H locs hX hS => ?_)
  replace hX : Bx G fi h0 [(h0, .inr (5, [.int 0, .ref (h0 + 1), .int 0, .int 0, .int 0, .ref (h0 + 3), .ref (h0 + 2)])), ((h0 + 3), .inl (gT G 6, 27, .inr (.inr (.inr (.inr (va_up (va_up (va_up (va_up (va_up (va_up (va_up (va_up (va_up (va_up (va_up (va_up (fun _ => none) 0 (some (h0 + 4))) 1 (some (h0 + 5))) 2 (some (h0 + 6))) 3 (some (h0 + 7))) 4 (some (h0 + 8))) 5 (some (h0 + 9))) 6 (some (h0 + 10))) 7 (some (h0 + 11))) 8 (some (h0 + 12))) 9 (some (h0 + 13))) 10 (some (h0 + 14))) 11 (some (h0 + 15))))))))] (h0 + 17) H := hX
  refine bw_aast (ci := 4) (r := (RX2, TX2, 10)) (vs := [.int 0, .int 0, .int 0, .int 0, .int 0, .int 0, .int 0, .int 0, .int 0, .int 0]) hx hb hK hX hS 1 6 rfl rfl (by have h9 := Bx.at_ hX (a := (h0 + 16)) (by omega) (by omega) (by intro k q hk; match k, hk with | 0, hk => (cases hk; (try dsimp only); omega) | 1, hk => (cases hk; (try dsimp only); omega) | k + 2, hk => simp at hk); rw [FXo_2 hF_16] at h9; exact h9) rfl (inR_in (by decide)) dX3_init_55 (fun H locs hX hS => ?_)
  replace hX : Bx G fi h0 [(h0, .inr (5, [.int 0, .ref (h0 + 1), .int 0, .int 0, .int 0, .ref (h0 + 3), .ref (h0 + 2)])), ((h0 + 3), .inl (gT G 6, 27, .inr (.inr (.inr (.inr (va_up (va_up (va_up (va_up (va_up (va_up (va_up (va_up (va_up (va_up (va_up (va_up (va_up (fun _ => none) 0 (some (h0 + 4))) 1 (some (h0 + 5))) 2 (some (h0 + 6))) 3 (some (h0 + 7))) 4 (some (h0 + 8))) 5 (some (h0 + 9))) 6 (some (h0 + 10))) 7 (some (h0 + 11))) 8 (some (h0 + 12))) 9 (some (h0 + 13))) 10 (some (h0 + 14))) 11 (some (h0 + 15))) 12 (some (h0 + 16))))))))] (h0 + 17) H := hX
  refine lv_iinc (v := (13 : Int32)) (lv' := [(1, .int (13 : Int32)), (0, .ref h0)]) hx hb dX3_init_56 hl (k := 0) rfl (by decide) (by decide) rfl (fun ls hl => ?_)
  refine lv_goto (tgt := 34) hx hb dX3_init_59 (by decide) ?_
  refine lv_iload_n hx hb dX3_init_34 rfl (lv_at hl 0 rfl) ?_
  refine lv_aload_n hx hb dX3_init_35 rfl (lv_at hl 1 rfl) ?_
  refine bw_get (ci := 5) (C := RX3) (T := TX3) (N := 7) (v := .ref (h0 + 3)) hx hb htg inG_wsX30 hown hK hX 0 rfl rfl 5 (by decide) (htg _ q128) rfl dX3_init_36 ?_
  refine va_alen hx hb hK.1 hX.2.2.1 1 6 rfl rfl rfl dX3_init_39 ?_
  rw [show Int32.ofNat 27 = (27 : Int32) from rfl]
  refine lv_icmp_ge (tgt := 62) hx hb dX3_init_40 (by decide) (fun c9 => absurd c9 (by decide)) (fun _ => ?_)
  refine lv_aload_n hx hb dX3_init_43 rfl (lv_at hl 1 rfl) ?_
  refine bw_get (ci := 5) (C := RX3) (T := TX3) (N := 7) (v := .ref (h0 + 3)) hx hb htg inG_wsX30 hown hK hX 0 rfl rfl 5 (by decide) (htg _ q128) rfl dX3_init_44 ?_
  refine lv_iload_n hx hb dX3_init_47 rfl (lv_at hl 0 rfl) ?_
  refine bw_new (ci := 4) (fs := [.int 0, .int 0, .int 0, .int 0, .int 0, .int 0, .int 0, .int 0, .int 0, .int 0]) (C := RX2) (T := TX2) (N := 10) hx hb htg inG_wsX20 tyX2 tyX2_ok hown (htg _ q124) (htg _ q125) (htg _ q126) hK hX hS rfl df2 (Nat.le_of_ble_eq_true rfl) (Nat.le_of_ble_eq_true rfl) dX3_init_48 (fun H hX hS => ?_)
  replace hX : Bx G fi h0 ([(h0, .inr (5, [.int 0, .ref (h0 + 1), .int 0, .int 0, .int 0, .ref (h0 + 3), .ref (h0 + 2)])), ((h0 + 3), .inl (gT G 6, 27, .inr (.inr (.inr (.inr (va_up (va_up (va_up (va_up (va_up (va_up (va_up (va_up (va_up (va_up (va_up (va_up (va_up (fun _ => none) 0 (some (h0 + 4))) 1 (some (h0 + 5))) 2 (some (h0 + 6))) 3 (some (h0 + 7))) 4 (some (h0 + 8))) 5 (some (h0 + 9))) 6 (some (h0 + 10))) 7 (some (h0 + 11))) 8 (some (h0 + 12))) 9 (some (h0 + 13))) 10 (some (h0 + 14))) 11 (some (h0 + 15))) 12 (some (h0 + 16))))))))] ++ [((h0 + 17), .inr (4, [.int 0, .int 0, .int 0, .int 0, .int 0, .int 0, .int 0, .int 0, .int 0, .int 0]))]) ((h0 + 17) + 1) H := hX
  refine lv_dup hx hb dX3_init_51 rfl ?_
  refine kb_X2_n hx hb hml hown htg hK hAO hX hS hF_17 (List.mem_of_getElem? (i := 0) rfl) hl.1 (Nat.le_of_ble_eq_true rfl) (Nat.le_of_ble_eq_true rfl) (Nat.le_of_ble_eq_true rfl) (Nat.le_of_ble_eq_true rfl) (Nat.le_of_ble_eq_true rfl) dX3_init_52 (fun H locs hX hS => ?_)
  replace hX : Bx G fi h0 [(h0, .inr (5, [.int 0, .ref (h0 + 1), .int 0, .int 0, .int 0, .ref (h0 + 3), .ref (h0 + 2)])), ((h0 + 3), .inl (gT G 6, 27, .inr (.inr (.inr (.inr (va_up (va_up (va_up (va_up (va_up (va_up (va_up (va_up (va_up (va_up (va_up (va_up (va_up (fun _ => none) 0 (some (h0 + 4))) 1 (some (h0 + 5))) 2 (some (h0 + 6))) 3 (some (h0 + 7))) 4 (some (h0 + 8))) 5 (some (h0 + 9))) 6 (some (h0 + 10))) 7 (some (h0 + 11))) 8 (some (h0 + 12))) 9 (some (h0 + 13))) 10 (some (h0 + 14))) 11 (some (h0 + 15))) 12 (some (h0 + 16))))))))] (h0 + 18) H := hX
  refine bw_aast (ci := 4) (r := (RX2, TX2, 10)) (vs := [.int 0, .int 0, .int 0, .int 0, .int 0, .int 0, .int 0, .int 0, .int 0, .int 0]) hx hb hK hX hS 1 6 rfl rfl (by have h9 := Bx.at_ hX (a := (h0 + 17)) (by omega) (by omega) (by intro k q hk; match k, hk with | 0, hk => (cases hk; (try dsimp only); omega) | 1, hk => (cases hk; (try dsimp only); omega) | k + 2, hk => simp at hk); rw [FXo_2 hF_17] at h9; exact h9) rfl (inR_in (by decide)) dX3_init_55 (fun H locs hX hS => ?_)
  replace hX : Bx G fi h0 [(h0, .inr (5, [.int 0, .ref (h0 + 1), .int 0, .int 0, .int 0, .ref (h0 + 3), .ref (h0 + 2)])), ((h0 + 3), .inl (gT G 6, 27, .inr (.inr (.inr (.inr (va_up (va_up (va_up (va_up (va_up (va_up (va_up (va_up (va_up (va_up (va_up (va_up (va_up (va_up (fun _ => none) 0 (some (h0 + 4))) 1 (some (h0 + 5))) 2 (some (h0 + 6))) 3 (some (h0 + 7))) 4 (some (h0 + 8))) 5 (some (h0 + 9))) 6 (some (h0 + 10))) 7 (some (h0 + 11))) 8 (some (h0 + 12))) 9 (some (h0 + 13))) 10 (some (h0 + 14))) 11 (some (h0 + 15))) 12 (some (h0 + 16))) 13 (some (h0 + 17))))))))] (h0 + 18) H := hX
  refine lv_iinc (v := (14 : Int32)) (lv' := [(1, .int (14 : Int32)), (0, .ref h0)]) hx hb dX3_init_56 hl (k := 0) rfl (by decide) (by decide) rfl (fun ls hl => ?_)
  refine lv_goto (tgt := 34) hx hb dX3_init_59 (by decide) ?_
  refine lv_iload_n hx hb dX3_init_34 rfl (lv_at hl 0 rfl) ?_
  refine lv_aload_n hx hb dX3_init_35 rfl (lv_at hl 1 rfl) ?_
  refine bw_get (ci := 5) (C := RX3) (T := TX3) (N := 7) (v := .ref (h0 + 3)) hx hb htg inG_wsX30 hown hK hX 0 rfl rfl 5 (by decide) (htg _ q128) rfl dX3_init_36 ?_
  refine va_alen hx hb hK.1 hX.2.2.1 1 6 rfl rfl rfl dX3_init_39 ?_
  rw [show Int32.ofNat 27 = (27 : Int32) from rfl]
  refine lv_icmp_ge (tgt := 62) hx hb dX3_init_40 (by decide) (fun c9 => absurd c9 (by decide)) (fun _ => ?_)
  refine lv_aload_n hx hb dX3_init_43 rfl (lv_at hl 1 rfl) ?_
  refine bw_get (ci := 5) (C := RX3) (T := TX3) (N := 7) (v := .ref (h0 + 3)) hx hb htg inG_wsX30 hown hK hX 0 rfl rfl 5 (by decide) (htg _ q128) rfl dX3_init_44 ?_
  refine lv_iload_n hx hb dX3_init_47 rfl (lv_at hl 0 rfl) ?_
  refine bw_new (ci := 4) (fs := [.int 0, .int 0, .int 0, .int 0, .int 0, .int 0, .int 0, .int 0, .int 0, .int 0]) (C := RX2) (T := TX2) (N := 10) hx hb htg inG_wsX20 tyX2 tyX2_ok hown (htg _ q124) (htg _ q125) (htg _ q126) hK hX hS rfl df2 (Nat.le_of_ble_eq_true rfl) (Nat.le_of_ble_eq_true rfl) dX3_init_48 (fun H hX hS => ?_)
  replace hX : Bx G fi h0 ([(h0, .inr (5, [.int 0, .ref (h0 + 1), .int 0, .int 0, .int 0, .ref (h0 + 3), .ref (h0 + 2)])), ((h0 + 3), .inl (gT G 6, 27, .inr (.inr (.inr (.inr (va_up (va_up (va_up (va_up (va_up (va_up (va_up (va_up (va_up (va_up (va_up (va_up (va_up (va_up (fun _ => none) 0 (some (h0 + 4))) 1 (some (h0 + 5))) 2 (some (h0 + 6))) 3 (some (h0 + 7))) 4 (some (h0 + 8))) 5 (some (h0 + 9))) 6 (some (h0 + 10))) 7 (some (h0 + 11))) 8 (some (h0 + 12))) 9 (some (h0 + 13))) 10 (some (h0 + 14))) 11 (some (h0 + 15))) 12 (some (h0 + 16))) 13 (some (h0 + 17))))))))] ++ [((h0 + 18), .inr (4, [.int 0, .int 0, .int 0, .int 0, .int 0, .int 0, .int 0, .int 0, .int 0, .int 0]))]) ((h0 + 18) + 1) H := hX
  refine lv_dup hx hb dX3_init_51 rfl ?_
  refine kb_X2_n hx hb hml hown htg hK hAO hX hS hF_18 (List.mem_of_getElem? (i := 0) rfl) hl.1 (Nat.le_of_ble_eq_true rfl) (Nat.le_of_ble_eq_true rfl) (Nat.le_of_ble_eq_true rfl) (Nat.le_of_ble_eq_true rfl) (Nat.le_of_ble_eq_true rfl) dX3_init_52 (fun H locs hX hS => ?_)
  replace hX : Bx G fi h0 [(h0, .inr (5, [.int 0, .ref (h0 + 1), .int 0, .int 0, .int 0, .ref (h0 + 3), .ref (h0 + 2)])), ((h0 + 3), .inl (gT G 6, 27, .inr (.inr (.inr (.inr (va_up (va_up (va_up (va_up (va_up (va_up (va_up (va_up (va_up (va_up (va_up (va_up (va_up (va_up (fun _ => none) 0 (some (h0 + 4))) 1 (some (h0 + 5))) 2 (some (h0 + 6))) 3 (some (h0 + 7))) 4 (some (h0 + 8))) 5 (some (h0 + 9))) 6 (some (h0 + 10))) 7 (some (h0 + 11))) 8 (some (h0 + 12))) 9 (some (h0 + 13))) 10 (some (h0 + 14))) 11 (some (h0 + 15))) 12 (some (h0 + 16))) 13 (some (h0 + 17))))))))] (h0 + 19) H := hX
  refine bw_aast (ci := 4) (r := (RX2, TX2, 10)) (vs := [.int 0, .int 0, .int 0, .int 0, .int 0, .int 0, .int 0, .int 0, .int 0, .int 0]) hx hb hK hX hS 1 6 rfl rfl (by have h9 := Bx.at_ hX (a := (h0 + 18)) (by omega) (by omega) (by intro k q hk; match k, hk with | 0, hk => (cases hk; (try dsimp only); omega) | 1, hk => (cases hk; (try dsimp only); omega) | k + 2, hk => simp at hk); rw [FXo_2 hF_18] at h9; exact h9) rfl (inR_in (by decide)) dX3_init_55 (fun H locs hX hS => ?_)
  replace hX : Bx G fi h0 [(h0, .inr (5, [.int 0, .ref (h0 + 1), .int 0, .int 0, .int 0, .ref (h0 + 3), .ref (h0 + 2)])), ((h0 + 3), .inl (gT G 6, 27, .inr (.inr (.inr (.inr (va_up (va_up (va_up (va_up (va_up (va_up (va_up (va_up (va_up (va_up (va_up (va_up (va_up (va_up (va_up (fun _ => none) 0 (some (h0 + 4))) 1 (some (h0 + 5))) 2 (some (h0 + 6))) 3 (some (h0 + 7))) 4 (some (h0 + 8))) 5 (some (h0 + 9))) 6 (some (h0 + 10))) 7 (some (h0 + 11))) 8 (some (h0 + 12))) 9 (some (h0 + 13))) 10 (some (h0 + 14))) 11 (some (h0 + 15))) 12 (some (h0 + 16))) 13 (some (h0 + 17))) 14 (some (h0 + 18))))))))] (h0 + 19) H := hX
  refine lv_iinc (v := (15 : Int32)) (lv' := [(1, .int (15 : Int32)), (0, .ref h0)]) hx hb dX3_init_56 hl (k := 0) rfl (by decide) (by decide) rfl (fun ls hl => ?_)
  refine lv_goto (tgt := 34) hx hb dX3_init_59 (by decide) ?_
  refine lv_iload_n hx hb dX3_init_34 rfl (lv_at hl 0 rfl) ?_
  refine lv_aload_n hx hb dX3_init_35 rfl (lv_at hl 1 rfl) ?_
  refine bw_get (ci := 5) (C := RX3) (T := TX3) (N := 7) (v := .ref (h0 + 3)) hx hb htg inG_wsX30 hown hK hX 0 rfl rfl 5 (by decide) (htg _ q128) rfl dX3_init_36 ?_
  refine va_alen hx hb hK.1 hX.2.2.1 1 6 rfl rfl rfl dX3_init_39 ?_
  rw [show Int32.ofNat 27 = (27 : Int32) from rfl]
  refine lv_icmp_ge (tgt := 62) hx hb dX3_init_40 (by decide) (fun c9 => absurd c9 (by decide)) (fun _ => ?_)
  refine lv_aload_n hx hb dX3_init_43 rfl (lv_at hl 1 rfl) ?_
  refine bw_get (ci := 5) (C := RX3) (T := TX3) (N := 7) (v := .ref (h0 + 3)) hx hb htg inG_wsX30 hown hK hX 0 rfl rfl 5 (by decide) (htg _ q128) rfl dX3_init_44 ?_
  refine lv_iload_n hx hb dX3_init_47 rfl (lv_at hl 0 rfl) ?_
  refine bw_new (ci := 4) (fs := [.int 0, .int 0, .int 0, .int 0, .int 0, .int 0, .int 0, .int 0, .int 0, .int 0]) (C := RX2) (T := TX2) (N := 10) hx hb htg inG_wsX20 tyX2 tyX2_ok hown (htg _ q124) (htg _ q125) (htg _ q126) hK hX hS rfl df2 (Nat.le_of_ble_eq_true rfl) (Nat.le_of_ble_eq_true rfl) dX3_init_48 (fun H hX hS => ?_)
  replace hX : Bx G fi h0 ([(h0, .inr (5, [.int 0, .ref (h0 + 1), .int 0, .int 0, .int 0, .ref (h0 + 3), .ref (h0 + 2)])), ((h0 + 3), .inl (gT G 6, 27, .inr (.inr (.inr (.inr (va_up (va_up (va_up (va_up (va_up (va_up (va_up (va_up (va_up (va_up (va_up (va_up (va_up (va_up (va_up (fun _ => none) 0 (some (h0 + 4))) 1 (some (h0 + 5))) 2 (some (h0 + 6))) 3 (some (h0 + 7))) 4 (some (h0 + 8))) 5 (some (h0 + 9))) 6 (some (h0 + 10))) 7 (some (h0 + 11))) 8 (some (h0 + 12))) 9 (some (h0 + 13))) 10 (some (h0 + 14))) 11 (some (h0 + 15))) 12 (some (h0 + 16))) 13 (some (h0 + 17))) 14 (some (h0 + 18))))))))] ++ [((h0 + 19), .inr (4, [.int 0, .int 0, .int 0, .int 0, .int 0, .int 0, .int 0, .int 0, .int 0, .int 0]))]) ((h0 + 19) + 1) H := hX
  refine lv_dup hx hb dX3_init_51 rfl ?_
  refine kb_X2_n hx hb hml hown htg hK hAO hX hS hF_19 (List.mem_of_getElem? (i := 0) rfl) hl.1 (Nat.le_of_ble_eq_true rfl) (Nat.le_of_ble_eq_true rfl) (Nat.le_of_ble_eq_true rfl) (Nat.le_of_ble_eq_true rfl) (Nat.le_of_ble_eq_true rfl) dX3_init_52 (fun H locs hX hS => ?_)
  replace hX : Bx G fi h0 [(h0, .inr (5, [.int 0, .ref (h0 + 1), .int 0, .int 0, .int 0, .ref (h0 + 3), .ref (h0 + 2)])), ((h0 + 3), .inl (gT G 6, 27, .inr (.inr (.inr (.inr (va_up (va_up (va_up (va_up (va_up (va_up (va_up (va_up (va_up (va_up (va_up (va_up (va_up (va_up (va_up (fun _ => none) 0 (some (h0 + 4))) 1 (some (h0 + 5))) 2 (some (h0 + 6))) 3 (some (h0 + 7))) 4 (some (h0 + 8))) 5 (some (h0 + 9))) 6 (some (h0 + 10))) 7 (some (h0 + 11))) 8 (some (h0 + 12))) 9 (some (h0 + 13))) 10 (some (h0 + 14))) 11 (some (h0 + 15))) 12 (some (h0 + 16))) 13 (some (h0 + 17))) 14 (some (h0 + 18))))))))] (h0 + 20) H := hX
  refine bw_aast (ci := 4) (r := (RX2, TX2, 10)) (vs := [.int 0, .int 0, .int 0, .int 0, .int 0, .int 0, .int 0, .int 0, .int 0, .int 0]) hx hb hK hX hS 1 6 rfl rfl (by have h9 := Bx.at_ hX (a := (h0 + 19)) (by omega) (by omega) (by intro k q hk; match k, hk with | 0, hk => (cases hk; (try dsimp only); omega) | 1, hk => (cases hk; (try dsimp only); omega) | k + 2, hk => simp at hk); rw [FXo_2 hF_19] at h9; exact h9) rfl (inR_in (by decide)) dX3_init_55 (fun H locs hX hS => ?_)
  replace hX : Bx G fi h0 [(h0, .inr (5, [.int 0, .ref (h0 + 1), .int 0, .int 0, .int 0, .ref (h0 + 3), .ref (h0 + 2)])), ((h0 + 3), .inl (gT G 6, 27, .inr (.inr (.inr (.inr (va_up (va_up (va_up (va_up (va_up (va_up (va_up (va_up (va_up (va_up (va_up (va_up (va_up (va_up (va_up (va_up (fun _ => none) 0 (some (h0 + 4))) 1 (some (h0 + 5))) 2 (some (h0 + 6))) 3 (some (h0 + 7))) 4 (some (h0 + 8))) 5 (some (h0 + 9))) 6 (some (h0 + 10))) 7 (some (h0 + 11))) 8 (some (h0 + 12))) 9 (some (h0 + 13))) 10 (some (h0 + 14))) 11 (some (h0 + 15))) 12 (some (h0 + 16))) 13 (some (h0 + 17))) 14 (some (h0 + 18))) 15 (some (h0 + 19))))))))] (h0 + 20) H := hX
  refine lv_iinc (v := (16 : Int32)) (lv' := [(1, .int (16 : Int32)), (0, .ref h0)]) hx hb dX3_init_56 hl (k := 0) rfl (by decide) (by decide) rfl (fun ls hl => ?_)
  refine lv_goto (tgt := 34) hx hb dX3_init_59 (by decide) ?_
  refine lv_iload_n hx hb dX3_init_34 rfl (lv_at hl 0 rfl) ?_
  refine lv_aload_n hx hb dX3_init_35 rfl (lv_at hl 1 rfl) ?_
  refine bw_get (ci := 5) (C := RX3) (T := TX3) (N := 7) (v := .ref (h0 + 3)) hx hb htg inG_wsX30 hown hK hX 0 rfl rfl 5 (by decide) (htg _ q128) rfl dX3_init_36 ?_
  refine va_alen hx hb hK.1 hX.2.2.1 1 6 rfl rfl rfl dX3_init_39 ?_
  rw [show Int32.ofNat 27 = (27 : Int32) from rfl]
  refine lv_icmp_ge (tgt := 62) hx hb dX3_init_40 (by decide) (fun c9 => absurd c9 (by decide)) (fun _ => ?_)
  refine lv_aload_n hx hb dX3_init_43 rfl (lv_at hl 1 rfl) ?_
  refine bw_get (ci := 5) (C := RX3) (T := TX3) (N := 7) (v := .ref (h0 + 3)) hx hb htg inG_wsX30 hown hK hX 0 rfl rfl 5 (by decide) (htg _ q128) rfl dX3_init_44 ?_
  refine lv_iload_n hx hb dX3_init_47 rfl (lv_at hl 0 rfl) ?_
  refine bw_new (ci := 4) (fs := [.int 0, .int 0, .int 0, .int 0, .int 0, .int 0, .int 0, .int 0, .int 0, .int 0]) (C := RX2) (T := TX2) (N := 10) hx hb htg inG_wsX20 tyX2 tyX2_ok hown (htg _ q124) (htg _ q125) (htg _ q126) hK hX hS rfl df2 (Nat.le_of_ble_eq_true rfl) (Nat.le_of_ble_eq_true rfl) dX3_init_48 (fun H hX hS => ?_)
  replace hX : Bx G fi h0 ([(h0, .inr (5, [.int 0, .ref (h0 + 1), .int 0, .int 0, .int 0, .ref (h0 + 3), .ref (h0 + 2)])), ((h0 + 3), .inl (gT G 6, 27, .inr (.inr (.inr (.inr (va_up (va_up (va_up (va_up (va_up (va_up (va_up (va_up (va_up (va_up (va_up (va_up (va_up (va_up (va_up (va_up (fun _ => none) 0 (some (h0 + 4))) 1 (some (h0 + 5))) 2 (some (h0 + 6))) 3 (some (h0 + 7))) 4 (some (h0 + 8))) 5 (some (h0 + 9))) 6 (some (h0 + 10))) 7 (some (h0 + 11))) 8 (some (h0 + 12))) 9 (some (h0 + 13))) 10 (some (h0 + 14))) 11 (some (h0 + 15))) 12 (some (h0 + 16))) 13 (some (h0 + 17))) 14 (some (h0 + 18))) 15 (some (h0 + 19))))))))] ++ [((h0 + 20), .inr (4, [.int 0, .int 0, .int 0, .int 0, .int 0, .int 0, .int 0, .int 0, .int 0, .int 0]))]) ((h0 + 20) + 1) H := hX
  refine lv_dup hx hb dX3_init_51 rfl ?_
  refine kb_X2_n hx hb hml hown htg hK hAO hX hS hF_20 (List.mem_of_getElem? (i := 0) rfl) hl.1 (Nat.le_of_ble_eq_true rfl) (Nat.le_of_ble_eq_true rfl) (Nat.le_of_ble_eq_true rfl) (Nat.le_of_ble_eq_true rfl) (Nat.le_of_ble_eq_true rfl) dX3_init_52 (fun H locs hX hS => ?_)
  replace hX : Bx G fi h0 [(h0, .inr (5, [.int 0, .ref (h0 + 1), .int 0, .int 0, .int 0, .ref (h0 + 3), .ref (h0 + 2)])), ((h0 + 3), .inl (gT G 6, 27, .inr (.inr (.inr (.inr (va_up (va_up (va_up (va_up (va_up (va_up (va_up (va_up (va_up (va_up (va_up (va_up (va_up (va_up (va_up (va_up (fun _ => none) 0 (some (h0 + 4))) 1 (some (h0 + 5))) 2 (some (h0 + 6))) 3 (some (h0 + 7))) 4 (some (h0 + 8))) 5 (some (h0 + 9))) 6 (some (h0 + 10))) 7 (some (h0 + 11))) 8 (some (h0 + 12))) 9 (some (h0 + 13))) 10 (some (h0 + 14))) 11 (some (h0 + 15))) 12 (some (h0 + 16))) 13 (some (h0 + 17))) 14 (some (h0 + 18))) 15 (some (h0 + 19))))))))] (h0 + 21) H := hX
  refine bw_aast (ci := 4) (r := (RX2, TX2, 10)) (vs := [.int 0, .int 0, .int 0, .int 0, .int 0, .int 0, .int 0, .int 0, .int 0, .int 0]) hx hb hK hX hS 1 6 rfl rfl (by have h9 := Bx.at_ hX (a := (h0 + 20)) (by omega) (by omega) (by intro k q hk; match k, hk with | 0, hk => (cases hk; (try dsimp only); omega) | 1, hk => (cases hk; (try dsimp only); omega) | k + 2, hk => simp at hk); rw [FXo_2 hF_20] at h9; exact h9) rfl (inR_in (by decide)) dX3_init_55 (fun H locs hX hS => ?_)
  replace hX : Bx G fi h0 [(h0, .inr (5, [.int 0, .ref (h0 + 1), .int 0, .int 0, .int 0, .ref (h0 + 3), .ref (h0 + 2)])), ((h0 + 3), .inl (gT G 6, 27, .inr (.inr (.inr (.inr (va_up (va_up (va_up (va_up (va_up (va_up (va_up (va_up (va_up (va_up (va_up (va_up (va_up (va_up (va_up (va_up (va_up (fun _ => none) 0 (some (h0 + 4))) 1 (some (h0 + 5))) 2 (some (h0 + 6))) 3 (some (h0 + 7))) 4 (some (h0 + 8))) 5 (some (h0 + 9))) 6 (some (h0 + 10))) 7 (some (h0 + 11))) 8 (some (h0 + 12))) 9 (some (h0 + 13))) 10 (some (h0 + 14))) 11 (some (h0 + 15))) 12 (some (h0 + 16))) 13 (some (h0 + 17))) 14 (some (h0 + 18))) 15 (some (h0 + 19))) 16 (some (h0 + 20))))))))] (h0 + 21) H := hX
  refine lv_iinc (v := (17 : Int32)) (lv' := [(1, .int (17 : Int32)), (0, .ref h0)]) hx hb dX3_init_56 hl (k := 0) rfl (by decide) (by decide) rfl (fun ls hl => ?_)
  refine lv_goto (tgt := 34) hx hb dX3_init_59 (by decide) ?_
  refine lv_iload_n hx hb dX3_init_34 rfl (lv_at hl 0 rfl) ?_
  refine lv_aload_n hx hb dX3_init_35 rfl (lv_at hl 1 rfl) ?_
  refine bw_get (ci := 5) (C := RX3) (T := TX3) (N := 7) (v := .ref (h0 + 3)) hx hb htg inG_wsX30 hown hK hX 0 rfl rfl 5 (by decide) (htg _ q128) rfl dX3_init_36 ?_
  refine va_alen hx hb hK.1 hX.2.2.1 1 6 rfl rfl rfl dX3_init_39 ?_
  rw [show Int32.ofNat 27 = (27 : Int32) from rfl]
  refine lv_icmp_ge (tgt := 62) hx hb dX3_init_40 (by decide) (fun c9 => absurd c9 (by decide)) (fun _ => ?_)
  refine lv_aload_n hx hb dX3_init_43 rfl (lv_at hl 1 rfl) ?_
  refine bw_get (ci := 5) (C := RX3) (T := TX3) (N := 7) (v := .ref (h0 + 3)) hx hb htg inG_wsX30 hown hK hX 0 rfl rfl 5 (by decide) (htg _ q128) rfl dX3_init_44 ?_
  refine lv_iload_n hx hb dX3_init_47 rfl (lv_at hl 0 rfl) ?_
  refine bw_new (ci := 4) (fs := [.int 0, .int 0, .int 0, .int 0, .int 0, .int 0, .int 0, .int 0, .int 0, .int 0]) (C := RX2) (T := TX2) (N := 10) hx hb htg inG_wsX20 tyX2 tyX2_ok hown (htg _ q124) (htg _ q125) (htg _ q126) hK hX hS rfl df2 (Nat.le_of_ble_eq_true rfl) (Nat.le_of_ble_eq_true rfl) dX3_init_48 (fun H hX hS => ?_)
  replace hX : Bx G fi h0 ([(h0, .inr (5, [.int 0, .ref (h0 + 1), .int 0, .int 0, .int 0, .ref (h0 + 3), .ref (h0 + 2)])), ((h0 + 3), .inl (gT G 6, 27, .inr (.inr (.inr (.inr (va_up (va_up (va_up (va_up (va_up (va_up (va_up (va_up (va_up (va_up (va_up (va_up (va_up (va_up (va_up (va_up (va_up (fun _ => none) 0 (some (h0 + 4))) 1 (some (h0 + 5))) 2 (some (h0 + 6))) 3 (some (h0 + 7))) 4 (some (h0 + 8))) 5 (some (h0 + 9))) 6 (some (h0 + 10))) 7 (some (h0 + 11))) 8 (some (h0 + 12))) 9 (some (h0 + 13))) 10 (some (h0 + 14))) 11 (some (h0 + 15))) 12 (some (h0 + 16))) 13 (some (h0 + 17))) 14 (some (h0 + 18))) 15 (some (h0 + 19))) 16 (some (h0 + 20))))))))] ++ [((h0 + 21), .inr (4, [.int 0, .int 0, .int 0, .int 0, .int 0, .int 0, .int 0, .int 0, .int 0, .int 0]))]) ((h0 + 21) + 1) H := hX
  refine lv_dup hx hb dX3_init_51 rfl ?_
  refine kb_X2_n hx hb hml hown htg hK hAO hX hS hF_21 (List.mem_of_getElem? (i := 0) rfl) hl.1 (Nat.le_of_ble_eq_true rfl) (Nat.le_of_ble_eq_true rfl) (Nat.le_of_ble_eq_true rfl) (Nat.le_of_ble_eq_true rfl) (Nat.le_of_ble_eq_true rfl) dX3_init_52 (fun H locs hX hS => ?_)
  replace hX : Bx G fi h0 [(h0, .inr (5, [.int 0, .ref (h0 + 1), .int 0, .int 0, .int 0, .ref (h0 + 3), .ref (h0 + 2)])), ((h0 + 3), .inl (gT G 6, 27, .inr (.inr (.inr (.inr (va_up (va_up (va_up (va_up (va_up (va_up (va_up (va_up (va_up (va_up (va_up (va_up (va_up (va_up (va_up (va_up (va_up (fun _ => none) 0 (some (h0 + 4))) 1 (some (h0 + 5))) 2 (some (h0 + 6))) 3 (some (h0 + 7))) 4 (some (h0 + 8))) 5 (some (h0 + 9))) 6 (some (h0 + 10))) 7 (some (h0 + 11))) 8 (some (h0 + 12))) 9 (some (h0 + 13))) 10 (some (h0 + 14))) 11 (some (h0 + 15))) 12 (some (h0 + 16))) 13 (some (h0 + 17))) 14 (some (h0 + 18))) 15 (some (h0 + 19))) 16 (some (h0 + 20))))))))] (h0 + 22) H := hX
  refine bw_aast (ci := 4) (r := (RX2, TX2, 10)) (vs := [.int 0, .int 0, .int 0, .int 0, .int 0, .int 0, .int 0, .int 0, .int 0, .int 0]) hx hb hK hX hS 1 6 rfl rfl (by have h9 := Bx.at_ hX (a := (h0 + 21)) (by omega) (by omega) (by intro k q hk; match k, hk with | 0, hk => (cases hk; (try dsimp only); omega) | 1, hk => (cases hk; (try dsimp only); omega) | k + 2, hk => simp at hk); rw [FXo_2 hF_21] at h9; exact h9) rfl (inR_in (by decide)) dX3_init_55 (fun H locs hX hS => ?_)
  replace hX : Bx G fi h0 [(h0, .inr (5, [.int 0, .ref (h0 + 1), .int 0, .int 0, .int 0, .ref (h0 + 3), .ref (h0 + 2)])), ((h0 + 3), .inl (gT G 6, 27, .inr (.inr (.inr (.inr (va_up (va_up (va_up (va_up (va_up (va_up (va_up (va_up (va_up (va_up (va_up (va_up (va_up (va_up (va_up (va_up (va_up (va_up (fun _ => none) 0 (some (h0 + 4))) 1 (some (h0 + 5))) 2 (some (h0 + 6))) 3 (some (h0 + 7))) 4 (some (h0 + 8))) 5 (some (h0 + 9))) 6 (some (h0 + 10))) 7 (some (h0 + 11))) 8 (some (h0 + 12))) 9 (some (h0 + 13))) 10 (some (h0 + 14))) 11 (some (h0 + 15))) 12 (some (h0 + 16))) 13 (some (h0 + 17))) 14 (some (h0 + 18))) 15 (some (h0 + 19))) 16 (some (h0 + 20))) 17 (some (h0 + 21))))))))] (h0 + 22) H := hX
  refine lv_iinc (v := (18 : Int32)) (lv' := [(1, .int (18 : Int32)), (0, .ref h0)]) hx hb dX3_init_56 hl (k := 0) rfl (by decide) (by decide) rfl (fun ls hl => ?_)
  refine lv_goto (tgt := 34) hx hb dX3_init_59 (by decide) ?_
  refine lv_iload_n hx hb dX3_init_34 rfl (lv_at hl 0 rfl) ?_
  refine lv_aload_n hx hb dX3_init_35 rfl (lv_at hl 1 rfl) ?_
  refine bw_get (ci := 5) (C := RX3) (T := TX3) (N := 7) (v := .ref (h0 + 3)) hx hb htg inG_wsX30 hown hK hX 0 rfl rfl 5 (by decide) (htg _ q128) rfl dX3_init_36 ?_
  refine va_alen hx hb hK.1 hX.2.2.1 1 6 rfl rfl rfl dX3_init_39 ?_
  rw [show Int32.ofNat 27 = (27 : Int32) from rfl]
  refine lv_icmp_ge (tgt := 62) hx hb dX3_init_40 (by decide) (fun c9 => absurd c9 (by decide)) (fun _ => ?_)
  refine lv_aload_n hx hb dX3_init_43 rfl (lv_at hl 1 rfl) ?_
  refine bw_get (ci := 5) (C := RX3) (T := TX3) (N := 7) (v := .ref (h0 + 3)) hx hb htg inG_wsX30 hown hK hX 0 rfl rfl 5 (by decide) (htg _ q128) rfl dX3_init_44 ?_
  refine lv_iload_n hx hb dX3_init_47 rfl (lv_at hl 0 rfl) ?_
  refine bw_new (ci := 4) (fs := [.int 0, .int 0, .int 0, .int 0, .int 0, .int 0, .int 0, .int 0, .int 0, .int 0]) (C := RX2) (T := TX2) (N := 10) hx hb htg inG_wsX20 tyX2 tyX2_ok hown (htg _ q124) (htg _ q125) (htg _ q126) hK hX hS rfl df2 (Nat.le_of_ble_eq_true rfl) (Nat.le_of_ble_eq_true rfl) dX3_init_48 (fun H hX hS => ?_)
  replace hX : Bx G fi h0 ([(h0, .inr (5, [.int 0, .ref (h0 + 1), .int 0, .int 0, .int 0, .ref (h0 + 3), .ref (h0 + 2)])), ((h0 + 3), .inl (gT G 6, 27, .inr (.inr (.inr (.inr (va_up (va_up (va_up (va_up (va_up (va_up (va_up (va_up (va_up (va_up (va_up (va_up (va_up (va_up (va_up (va_up (va_up (va_up (fun _ => none) 0 (some (h0 + 4))) 1 (some (h0 + 5))) 2 (some (h0 + 6))) 3 (some (h0 + 7))) 4 (some (h0 + 8))) 5 (some (h0 + 9))) 6 (some (h0 + 10))) 7 (some (h0 + 11))) 8 (some (h0 + 12))) 9 (some (h0 + 13))) 10 (some (h0 + 14))) 11 (some (h0 + 15))) 12 (some (h0 + 16))) 13 (some (h0 + 17))) 14 (some (h0 + 18))) 15 (some (h0 + 19))) 16 (some (h0 + 20))) 17 (some (h0 + 21))))))))] ++ [((h0 + 22), .inr (4, [.int 0, .int 0, .int 0, .int 0, .int 0, .int 0, .int 0, .int 0, .int 0, .int 0]))]) ((h0 + 22) + 1) H := hX
  refine lv_dup hx hb dX3_init_51 rfl ?_
  refine kb_X2_n hx hb hml hown htg hK hAO hX hS hF_22 (List.mem_of_getElem? (i := 0) rfl) hl.1 (Nat.le_of_ble_eq_true rfl) (Nat.le_of_ble_eq_true rfl) (Nat.le_of_ble_eq_true rfl) (Nat.le_of_ble_eq_true rfl) (Nat.le_of_ble_eq_true rfl) dX3_init_52 (fun H locs hX hS => ?_)
  replace hX : Bx G fi h0 [(h0, .inr (5, [.int 0, .ref (h0 + 1), .int 0, .int 0, .int 0, .ref (h0 + 3), .ref (h0 + 2)])), ((h0 + 3), .inl (gT G 6, 27, .inr (.inr (.inr (.inr (va_up (va_up (va_up (va_up (va_up (va_up (va_up (va_up (va_up (va_up (va_up (va_up (va_up (va_up (va_up (va_up (va_up (va_up (fun _ => none) 0 (some (h0 + 4))) 1 (some (h0 + 5))) 2 (some (h0 + 6))) 3 (some (h0 + 7))) 4 (some (h0 + 8))) 5 (some (h0 + 9))) 6 (some (h0 + 10))) 7 (some (h0 + 11))) 8 (some (h0 + 12))) 9 (some (h0 + 13))) 10 (some (h0 + 14))) 11 (some (h0 + 15))) 12 (some (h0 + 16))) 13 (some (h0 + 17))) 14 (some (h0 + 18))) 15 (some (h0 + 19))) 16 (some (h0 + 20))) 17 (some (h0 + 21))))))))] (h0 + 23) H := hX
  refine bw_aast (ci := 4) (r := (RX2, TX2, 10)) (vs := [.int 0, .int 0, .int 0, .int 0, .int 0, .int 0, .int 0, .int 0, .int 0, .int 0]) hx hb hK hX hS 1 6 rfl rfl (by have h9 := Bx.at_ hX (a := (h0 + 22)) (by omega) (by omega) (by intro k q hk; match k, hk with | 0, hk => (cases hk; (try dsimp only); omega) | 1, hk => (cases hk; (try dsimp only); omega) | k + 2, hk => simp at hk); rw [FXo_2 hF_22] at h9; exact h9) rfl (inR_in (by decide)) dX3_init_55 (fun H locs hX hS => ?_)
  replace hX : Bx G fi h0 [(h0, .inr (5, [.int 0, .ref (h0 + 1), .int 0, .int 0, .int 0, .ref (h0 + 3), .ref (h0 + 2)])), ((h0 + 3), .inl (gT G 6, 27, .inr (.inr (.inr (.inr (va_up (va_up (va_up (va_up (va_up (va_up (va_up (va_up (va_up (va_up (va_up (va_up (va_up (va_up (va_up (va_up (va_up (va_up (va_up (fun _ => none) 0 (some (h0 + 4))) 1 (some (h0 + 5))) 2 (some (h0 + 6))) 3 (some (h0 + 7))) 4 (some (h0 + 8))) 5 (some (h0 + 9))) 6 (some (h0 + 10))) 7 (some (h0 + 11))) 8 (some (h0 + 12))) 9 (some (h0 + 13))) 10 (some (h0 + 14))) 11 (some (h0 + 15))) 12 (some (h0 + 16))) 13 (some (h0 + 17))) 14 (some (h0 + 18))) 15 (some (h0 + 19))) 16 (some (h0 + 20))) 17 (some (h0 + 21))) 18 (some (h0 + 22))))))))] (h0 + 23) H := hX
  refine lv_iinc (v := (19 : Int32)) (lv' := [(1, .int (19 : Int32)), (0, .ref h0)]) hx hb dX3_init_56 hl (k := 0) rfl (by decide) (by decide) rfl (fun ls hl => ?_)
  refine lv_goto (tgt := 34) hx hb dX3_init_59 (by decide) ?_
  refine lv_iload_n hx hb dX3_init_34 rfl (lv_at hl 0 rfl) ?_
  refine lv_aload_n hx hb dX3_init_35 rfl (lv_at hl 1 rfl) ?_
  refine bw_get (ci := 5) (C := RX3) (T := TX3) (N := 7) (v := .ref (h0 + 3)) hx hb htg inG_wsX30 hown hK hX 0 rfl rfl 5 (by decide) (htg _ q128) rfl dX3_init_36 ?_
  refine va_alen hx hb hK.1 hX.2.2.1 1 6 rfl rfl rfl dX3_init_39 ?_
  rw [show Int32.ofNat 27 = (27 : Int32) from rfl]
  refine lv_icmp_ge (tgt := 62) hx hb dX3_init_40 (by decide) (fun c9 => absurd c9 (by decide)) (fun _ => ?_)
  refine lv_aload_n hx hb dX3_init_43 rfl (lv_at hl 1 rfl) ?_
  refine bw_get (ci := 5) (C := RX3) (T := TX3) (N := 7) (v := .ref (h0 + 3)) hx hb htg inG_wsX30 hown hK hX 0 rfl rfl 5 (by decide) (htg _ q128) rfl dX3_init_44 ?_
  refine lv_iload_n hx hb dX3_init_47 rfl (lv_at hl 0 rfl) ?_
  refine bw_new (ci := 4) (fs := [.int 0, .int 0, .int 0, .int 0, .int 0, .int 0, .int 0, .int 0, .int 0, .int 0]) (C := RX2) (T := TX2) (N := 10) hx hb htg inG_wsX20 tyX2 tyX2_ok hown (htg _ q124) (htg _ q125) (htg _ q126) hK hX hS rfl df2 (Nat.le_of_ble_eq_true rfl) (Nat.le_of_ble_eq_true rfl) dX3_init_48 (fun H hX hS => ?_)
  replace hX : Bx G fi h0 ([(h0, .inr (5, [.int 0, .ref (h0 + 1), .int 0, .int 0, .int 0, .ref (h0 + 3), .ref (h0 + 2)])), ((h0 + 3), .inl (gT G 6, 27, .inr (.inr (.inr (.inr (va_up (va_up (va_up (va_up (va_up (va_up (va_up (va_up (va_up (va_up (va_up (va_up (va_up (va_up (va_up (va_up (va_up (va_up (va_up (fun _ => none) 0 (some (h0 + 4))) 1 (some (h0 + 5))) 2 (some (h0 + 6))) 3 (some (h0 + 7))) 4 (some (h0 + 8))) 5 (some (h0 + 9))) 6 (some (h0 + 10))) 7 (some (h0 + 11))) 8 (some (h0 + 12))) 9 (some (h0 + 13))) 10 (some (h0 + 14))) 11 (some (h0 + 15))) 12 (some (h0 + 16))) 13 (some (h0 + 17))) 14 (some (h0 + 18))) 15 (some (h0 + 19))) 16 (some (h0 + 20))) 17 (some (h0 + 21))) 18 (some (h0 + 22))))))))] ++ [((h0 + 23), .inr (4, [.int 0, .int 0, .int 0, .int 0, .int 0, .int 0, .int 0, .int 0, .int 0, .int 0]))]) ((h0 + 23) + 1) H := hX
  refine lv_dup hx hb dX3_init_51 rfl ?_
  refine kb_X2_n hx hb hml hown htg hK hAO hX hS hF_23 (List.mem_of_getElem? (i := 0) rfl) hl.1 (Nat.le_of_ble_eq_true rfl) (Nat.le_of_ble_eq_true rfl) (Nat.le_of_ble_eq_true rfl) (Nat.le_of_ble_eq_true rfl) (Nat.le_of_ble_eq_true rfl) dX3_init_52 (fun H locs hX hS => ?_)
  replace hX : Bx G fi h0 [(h0, .inr (5, [.int 0, .ref (h0 + 1), .int 0, .int 0, .int 0, .ref (h0 + 3), .ref (h0 + 2)])), ((h0 + 3), .inl (gT G 6, 27, .inr (.inr (.inr (.inr (va_up (va_up (va_up (va_up (va_up (va_up (va_up (va_up (va_up (va_up (va_up (va_up (va_up (va_up (va_up (va_up (va_up (va_up (va_up (fun _ => none) 0 (some (h0 + 4))) 1 (some (h0 + 5))) 2 (some (h0 + 6))) 3 (some (h0 + 7))) 4 (some (h0 + 8))) 5 (some (h0 + 9))) 6 (some (h0 + 10))) 7 (some (h0 + 11))) 8 (some (h0 + 12))) 9 (some (h0 + 13))) 10 (some (h0 + 14))) 11 (some (h0 + 15))) 12 (some (h0 + 16))) 13 (some (h0 + 17))) 14 (some (h0 + 18))) 15 (some (h0 + 19))) 16 (some (h0 + 20))) 17 (some (h0 + 21))) 18 (some (h0 + 22))))))))] (h0 + 24) H := hX
  refine bw_aast (ci := 4) (r := (RX2, TX2, 10)) (vs := [.int 0, .int 0, .int 0, .int 0, .int 0, .int 0, .int 0, .int 0, .int 0, .int 0]) hx hb hK hX hS 1 6 rfl rfl (by have h9 := Bx.at_ hX (a := (h0 + 23)) (by omega) (by omega) (by intro k q hk; match k, hk with | 0, hk => (cases hk; (try dsimp only); omega) | 1, hk => (cases hk; (try dsimp only); omega) | k + 2, hk => simp at hk); rw [FXo_2 hF_23] at h9; exact h9) rfl (inR_in (by decide)) dX3_init_55 (fun H locs hX hS => ?_)
  replace hX : Bx G fi h0 [(h0, .inr (5, [.int 0, .ref (h0 + 1), .int 0, .int 0, .int 0, .ref (h0 + 3), .ref (h0 + 2)])), ((h0 + 3), .inl (gT G 6, 27, .inr (.inr (.inr (.inr (va_up (va_up (va_up (va_up (va_up (va_up (va_up (va_up (va_up (va_up (va_up (va_up (va_up (va_up (va_up (va_up (va_up (va_up (va_up (va_up (fun _ => none) 0 (some (h0 + 4))) 1 (some (h0 + 5))) 2 (some (h0 + 6))) 3 (some (h0 + 7))) 4 (some (h0 + 8))) 5 (some (h0 + 9))) 6 (some (h0 + 10))) 7 (some (h0 + 11))) 8 (some (h0 + 12))) 9 (some (h0 + 13))) 10 (some (h0 + 14))) 11 (some (h0 + 15))) 12 (some (h0 + 16))) 13 (some (h0 + 17))) 14 (some (h0 + 18))) 15 (some (h0 + 19))) 16 (some (h0 + 20))) 17 (some (h0 + 21))) 18 (some (h0 + 22))) 19 (some (h0 + 23))))))))] (h0 + 24) H := hX
  refine lv_iinc (v := (20 : Int32)) (lv' := [(1, .int (20 : Int32)), (0, .ref h0)]) hx hb dX3_init_56 hl (k := 0) rfl (by decide) (by decide) rfl (fun ls hl => ?_)
  refine lv_goto (tgt := 34) hx hb dX3_init_59 (by decide) ?_
  refine lv_iload_n hx hb dX3_init_34 rfl (lv_at hl 0 rfl) ?_
  refine lv_aload_n hx hb dX3_init_35 rfl (lv_at hl 1 rfl) ?_
  refine bw_get (ci := 5) (C := RX3) (T := TX3) (N := 7) (v := .ref (h0 + 3)) hx hb htg inG_wsX30 hown hK hX 0 rfl rfl 5 (by decide) (htg _ q128) rfl dX3_init_36 ?_
  refine va_alen hx hb hK.1 hX.2.2.1 1 6 rfl rfl rfl dX3_init_39 ?_
  rw [show Int32.ofNat 27 = (27 : Int32) from rfl]
  refine lv_icmp_ge (tgt := 62) hx hb dX3_init_40 (by decide) (fun c9 => absurd c9 (by decide)) (fun _ => ?_)
  refine lv_aload_n hx hb dX3_init_43 rfl (lv_at hl 1 rfl) ?_
  refine bw_get (ci := 5) (C := RX3) (T := TX3) (N := 7) (v := .ref (h0 + 3)) hx hb htg inG_wsX30 hown hK hX 0 rfl rfl 5 (by decide) (htg _ q128) rfl dX3_init_44 ?_
  refine lv_iload_n hx hb dX3_init_47 rfl (lv_at hl 0 rfl) ?_
  refine bw_new (ci := 4) (fs := [.int 0, .int 0, .int 0, .int 0, .int 0, .int 0, .int 0, .int 0, .int 0, .int 0]) (C := RX2) (T := TX2) (N := 10) hx hb htg inG_wsX20 tyX2 tyX2_ok hown (htg _ q124) (htg _ q125) (htg _ q126) hK hX hS rfl df2 (Nat.le_of_ble_eq_true rfl) (Nat.le_of_ble_eq_true rfl) dX3_init_48 (fun H hX hS => ?_)
  replace hX : Bx G fi h0 ([(h0, .inr (5, [.int 0, .ref (h0 + 1), .int 0, .int 0, .int 0, .ref (h0 + 3), .ref (h0 + 2)])), ((h0 + 3), .inl (gT G 6, 27, .inr (.inr (.inr (.inr (va_up (va_up (va_up (va_up (va_up (va_up (va_up (va_up (va_up (va_up (va_up (va_up (va_up (va_up (va_up (va_up (va_up (va_up (va_up (va_up (fun _ => none) 0 (some (h0 + 4))) 1 (some (h0 + 5))) 2 (some (h0 + 6))) 3 (some (h0 + 7))) 4 (some (h0 + 8))) 5 (some (h0 + 9))) 6 (some (h0 + 10))) 7 (some (h0 + 11))) 8 (some (h0 + 12))) 9 (some (h0 + 13))) 10 (some (h0 + 14))) 11 (some (h0 + 15))) 12 (some (h0 + 16))) 13 (some (h0 + 17))) 14 (some (h0 + 18))) 15 (some (h0 + 19))) 16 (some (h0 + 20))) 17 (some (h0 + 21))) 18 (some (h0 + 22))) 19 (some (h0 + 23))))))))] ++ [((h0 + 24), .inr (4, [.int 0, .int 0, .int 0, .int 0, .int 0, .int 0, .int 0, .int 0, .int 0, .int 0]))]) ((h0 + 24) + 1) H := hX
  refine lv_dup hx hb dX3_init_51 rfl ?_
  refine kb_X2_n hx hb hml hown htg hK hAO hX hS hF_24 (List.mem_of_getElem? (i := 0) rfl) hl.1 (Nat.le_of_ble_eq_true rfl) (Nat.le_of_ble_eq_true rfl) (Nat.le_of_ble_eq_true rfl) (Nat.le_of_ble_eq_true rfl) (Nat.le_of_ble_eq_true rfl) dX3_init_52 (fun H locs hX hS => ?_)
  replace hX : Bx G fi h0 [(h0, .inr (5, [.int 0, .ref (h0 + 1), .int 0, .int 0, .int 0, .ref (h0 + 3), .ref (h0 + 2)])), ((h0 + 3), .inl (gT G 6, 27, .inr (.inr (.inr (.inr (va_up (va_up (va_up (va_up (va_up (va_up (va_up (va_up (va_up (va_up (va_up (va_up (va_up (va_up (va_up (va_up (va_up (va_up (va_up (va_up (fun _ => none) 0 (some (h0 + 4))) 1 (some (h0 + 5))) 2 (some (h0 + 6))) 3 (some (h0 + 7))) 4 (some (h0 + 8))) 5 (some (h0 + 9))) 6 (some (h0 + 10))) 7 (some (h0 + 11))) 8 (some (h0 + 12))) 9 (some (h0 + 13))) 10 (some (h0 + 14))) 11 (some (h0 + 15))) 12 (some (h0 + 16))) 13 (some (h0 + 17))) 14 (some (h0 + 18))) 15 (some (h0 + 19))) 16 (some (h0 + 20))) 17 (some (h0 + 21))) 18 (some (h0 + 22))) 19 (some (h0 + 23))))))))] (h0 + 25) H := hX
  refine bw_aast (ci := 4) (r := (RX2, TX2, 10)) (vs := [.int 0, .int 0, .int 0, .int 0, .int 0, .int 0, .int 0, .int 0, .int 0, .int 0]) hx hb hK hX hS 1 6 rfl rfl (by have h9 := Bx.at_ hX (a := (h0 + 24)) (by omega) (by omega) (by intro k q hk; match k, hk with | 0, hk => (cases hk; (try dsimp only); omega) | 1, hk => (cases hk; (try dsimp only); omega) | k + 2, hk => simp at hk); rw [FXo_2 hF_24] at h9; exact h9) rfl (inR_in (by decide)) dX3_init_55 (fun H locs hX hS => ?_)
  replace hX : Bx G fi h0 [(h0, .inr (5, [.int 0, .ref (h0 + 1), .int 0, .int 0, .int 0, .ref (h0 + 3), .ref (h0 + 2)])), ((h0 + 3), .inl (gT G 6, 27, .inr (.inr (.inr (.inr (va_up (va_up (va_up (va_up (va_up (va_up (va_up (va_up (va_up (va_up (va_up (va_up (va_up (va_up (va_up (va_up (va_up (va_up (va_up (va_up (va_up (fun _ => none) 0 (some (h0 + 4))) 1 (some (h0 + 5))) 2 (some (h0 + 6))) 3 (some (h0 + 7))) 4 (some (h0 + 8))) 5 (some (h0 + 9))) 6 (some (h0 + 10))) 7 (some (h0 + 11))) 8 (some (h0 + 12))) 9 (some (h0 + 13))) 10 (some (h0 + 14))) 11 (some (h0 + 15))) 12 (some (h0 + 16))) 13 (some (h0 + 17))) 14 (some (h0 + 18))) 15 (some (h0 + 19))) 16 (some (h0 + 20))) 17 (some (h0 + 21))) 18 (some (h0 + 22))) 19 (some (h0 + 23))) 20 (some (h0 + 24))))))))] (h0 + 25) H := hX
  refine lv_iinc (v := (21 : Int32)) (lv' := [(1, .int (21 : Int32)), (0, .ref h0)]) hx hb dX3_init_56 hl (k := 0) rfl (by decide) (by decide) rfl (fun ls hl => ?_)
  refine lv_goto (tgt := 34) hx hb dX3_init_59 (by decide) ?_
  refine lv_iload_n hx hb dX3_init_34 rfl (lv_at hl 0 rfl) ?_
  refine lv_aload_n hx hb dX3_init_35 rfl (lv_at hl 1 rfl) ?_
  refine bw_get (ci := 5) (C := RX3) (T := TX3) (N := 7) (v := .ref (h0 + 3)) hx hb htg inG_wsX30 hown hK hX 0 rfl rfl 5 (by decide) (htg _ q128) rfl dX3_init_36 ?_
  refine va_alen hx hb hK.1 hX.2.2.1 1 6 rfl rfl rfl dX3_init_39 ?_
  rw [show Int32.ofNat 27 = (27 : Int32) from rfl]
  refine lv_icmp_ge (tgt := 62) hx hb dX3_init_40 (by decide) (fun c9 => absurd c9 (by decide)) (fun _ => ?_)
  refine lv_aload_n hx hb dX3_init_43 rfl (lv_at hl 1 rfl) ?_
  refine bw_get (ci := 5) (C := RX3) (T := TX3) (N := 7) (v := .ref (h0 + 3)) hx hb htg inG_wsX30 hown hK hX 0 rfl rfl 5 (by decide) (htg _ q128) rfl dX3_init_44 ?_
  refine lv_iload_n hx hb dX3_init_47 rfl (lv_at hl 0 rfl) ?_
  refine bw_new (ci := 4) (fs := [.int 0, .int 0, .int 0, .int 0, .int 0, .int 0, .int 0, .int 0, .int 0, .int 0]) (C := RX2) (T := TX2) (N := 10) hx hb htg inG_wsX20 tyX2 tyX2_ok hown (htg _ q124) (htg _ q125) (htg _ q126) hK hX hS rfl df2 (Nat.le_of_ble_eq_true rfl) (Nat.le_of_ble_eq_true rfl) dX3_init_48 (fun H hX hS => ?_)
  replace hX : Bx G fi h0 ([(h0, .inr (5, [.int 0, .ref (h0 + 1), .int 0, .int 0, .int 0, .ref (h0 + 3), .ref (h0 + 2)])), ((h0 + 3), .inl (gT G 6, 27, .inr (.inr (.inr (.inr (va_up (va_up (va_up (va_up (va_up (va_up (va_up (va_up (va_up (va_up (va_up (va_up (va_up (va_up (va_up (va_up (va_up (va_up (va_up (va_up (va_up (fun _ => none) 0 (some (h0 + 4))) 1 (some (h0 + 5))) 2 (some (h0 + 6))) 3 (some (h0 + 7))) 4 (some (h0 + 8))) 5 (some (h0 + 9))) 6 (some (h0 + 10))) 7 (some (h0 + 11))) 8 (some (h0 + 12))) 9 (some (h0 + 13))) 10 (some (h0 + 14))) 11 (some (h0 + 15))) 12 (some (h0 + 16))) 13 (some (h0 + 17))) 14 (some (h0 + 18))) 15 (some (h0 + 19))) 16 (some (h0 + 20))) 17 (some (h0 + 21))) 18 (some (h0 + 22))) 19 (some (h0 + 23))) 20 (some (h0 + 24))))))))] ++ [((h0 + 25), .inr (4, [.int 0, .int 0, .int 0, .int 0, .int 0, .int 0, .int 0, .int 0, .int 0, .int 0]))]) ((h0 + 25) + 1) H := hX
  refine lv_dup hx hb dX3_init_51 rfl ?_
  refine kb_X2_n hx hb hml hown htg hK hAO hX hS hF_25 (List.mem_of_getElem? (i := 0) rfl) hl.1 (Nat.le_of_ble_eq_true rfl) (Nat.le_of_ble_eq_true rfl) (Nat.le_of_ble_eq_true rfl) (Nat.le_of_ble_eq_true rfl) (Nat.le_of_ble_eq_true rfl) dX3_init_52 (fun H locs hX hS => ?_)
  replace hX : Bx G fi h0 [(h0, .inr (5, [.int 0, .ref (h0 + 1), .int 0, .int 0, .int 0, .ref (h0 + 3), .ref (h0 + 2)])), ((h0 + 3), .inl (gT G 6, 27, .inr (.inr (.inr (.inr (va_up (va_up (va_up (va_up (va_up (va_up (va_up (va_up (va_up (va_up (va_up (va_up (va_up (va_up (va_up (va_up (va_up (va_up (va_up (va_up (va_up (fun _ => none) 0 (some (h0 + 4))) 1 (some (h0 + 5))) 2 (some (h0 + 6))) 3 (some (h0 + 7))) 4 (some (h0 + 8))) 5 (some (h0 + 9))) 6 (some (h0 + 10))) 7 (some (h0 + 11))) 8 (some (h0 + 12))) 9 (some (h0 + 13))) 10 (some (h0 + 14))) 11 (some (h0 + 15))) 12 (some (h0 + 16))) 13 (some (h0 + 17))) 14 (some (h0 + 18))) 15 (some (h0 + 19))) 16 (some (h0 + 20))) 17 (some (h0 + 21))) 18 (some (h0 + 22))) 19 (some (h0 + 23))) 20 (some (h0 + 24))))))))] (h0 + 26) H := hX
  refine bw_aast (ci := 4) (r := (RX2, TX2, 10)) (vs := [.int 0, .int 0, .int 0, .int 0, .int 0, .int 0, .int 0, .int 0, .int 0, .int 0]) hx hb hK hX hS 1 6 rfl rfl (by have h9 := Bx.at_ hX (a := (h0 + 25)) (by omega) (by omega) (by intro k q hk; match k, hk with | 0, hk => (cases hk; (try dsimp only); omega) | 1, hk => (cases hk; (try dsimp only); omega) | k + 2, hk => simp at hk); rw [FXo_2 hF_25] at h9; exact h9) rfl (inR_in (by decide)) dX3_init_55 (fun H locs hX hS => ?_)
  replace hX : Bx G fi h0 [(h0, .inr (5, [.int 0, .ref (h0 + 1), .int 0, .int 0, .int 0, .ref (h0 + 3), .ref (h0 + 2)])), ((h0 + 3), .inl (gT G 6, 27, .inr (.inr (.inr (.inr (va_up (va_up (va_up (va_up (va_up (va_up (va_up (va_up (va_up (va_up (va_up (va_up (va_up (va_up (va_up (va_up (va_up (va_up (va_up (va_up (va_up (va_up (fun _ => none) 0 (some (h0 + 4))) 1 (some (h0 + 5))) 2 (some (h0 + 6))) 3 (some (h0 + 7))) 4 (some (h0 + 8))) 5 (some (h0 + 9))) 6 (some (h0 + 10))) 7 (some (h0 + 11))) 8 (some (h0 + 12))) 9 (some (h0 + 13))) 10 (some (h0 + 14))) 11 (some (h0 + 15))) 12 (some (h0 + 16))) 13 (some (h0 + 17))) 14 (some (h0 + 18))) 15 (some (h0 + 19))) 16 (some (h0 + 20))) 17 (some (h0 + 21))) 18 (some (h0 + 22))) 19 (some (h0 + 23))) 20 (some (h0 + 24))) 21 (some (h0 + 25))))))))] (h0 + 26) H := hX
  refine lv_iinc (v := (22 : Int32)) (lv' := [(1, .int (22 : Int32)), (0, .ref h0)]) hx hb dX3_init_56 hl (k := 0) rfl (by decide) (by decide) rfl (fun ls hl => ?_)
  refine lv_goto (tgt := 34) hx hb dX3_init_59 (by decide) ?_
  refine lv_iload_n hx hb dX3_init_34 rfl (lv_at hl 0 rfl) ?_
  refine lv_aload_n hx hb dX3_init_35 rfl (lv_at hl 1 rfl) ?_
  refine bw_get (ci := 5) (C := RX3) (T := TX3) (N := 7) (v := .ref (h0 + 3)) hx hb htg inG_wsX30 hown hK hX 0 rfl rfl 5 (by decide) (htg _ q128) rfl dX3_init_36 ?_
  refine va_alen hx hb hK.1 hX.2.2.1 1 6 rfl rfl rfl dX3_init_39 ?_
  rw [show Int32.ofNat 27 = (27 : Int32) from rfl]
  refine lv_icmp_ge (tgt := 62) hx hb dX3_init_40 (by decide) (fun c9 => absurd c9 (by decide)) (fun _ => ?_)
  refine lv_aload_n hx hb dX3_init_43 rfl (lv_at hl 1 rfl) ?_
  refine bw_get (ci := 5) (C := RX3) (T := TX3) (N := 7) (v := .ref (h0 + 3)) hx hb htg inG_wsX30 hown hK hX 0 rfl rfl 5 (by decide) (htg _ q128) rfl dX3_init_44 ?_
  refine lv_iload_n hx hb dX3_init_47 rfl (lv_at hl 0 rfl) ?_
  refine bw_new (ci := 4) (fs := [.int 0, .int 0, .int 0, .int 0, .int 0, .int 0, .int 0, .int 0, .int 0, .int 0]) (C := RX2) (T := TX2) (N := 10) hx hb htg inG_wsX20 tyX2 tyX2_ok hown (htg _ q124) (htg _ q125) (htg _ q126) hK hX hS rfl df2 (Nat.le_of_ble_eq_true rfl) (Nat.le_of_ble_eq_true rfl) dX3_init_48 (fun H hX hS => ?_)
  replace hX : Bx G fi h0 ([(h0, .inr (5, [.int 0, .ref (h0 + 1), .int 0, .int 0, .int 0, .ref (h0 + 3), .ref (h0 + 2)])), ((h0 + 3), .inl (gT G 6, 27, .inr (.inr (.inr (.inr (va_up (va_up (va_up (va_up (va_up (va_up (va_up (va_up (va_up (va_up (va_up (va_up (va_up (va_up (va_up (va_up (va_up (va_up (va_up (va_up (va_up (va_up (fun _ => none) 0 (some (h0 + 4))) 1 (some (h0 + 5))) 2 (some (h0 + 6))) 3 (some (h0 + 7))) 4 (some (h0 + 8))) 5 (some (h0 + 9))) 6 (some (h0 + 10))) 7 (some (h0 + 11))) 8 (some (h0 + 12))) 9 (some (h0 + 13))) 10 (some (h0 + 14))) 11 (some (h0 + 15))) 12 (some (h0 + 16))) 13 (some (h0 + 17))) 14 (some (h0 + 18))) 15 (some (h0 + 19))) 16 (some (h0 + 20))) 17 (some (h0 + 21))) 18 (some (h0 + 22))) 19 (some (h0 + 23))) 20 (some (h0 + 24))) 21 (some (h0 + 25))))))))] ++ [((h0 + 26), .inr (4, [.int 0, .int 0, .int 0, .int 0, .int 0, .int 0, .int 0, .int 0, .int 0, .int 0]))]) ((h0 + 26) + 1) H := hX
  refine lv_dup hx hb dX3_init_51 rfl ?_
  refine kb_X2_n hx hb hml hown htg hK hAO hX hS hF_26 (List.mem_of_getElem? (i := 0) rfl) hl.1 (Nat.le_of_ble_eq_true rfl) (Nat.le_of_ble_eq_true rfl) (Nat.le_of_ble_eq_true rfl) (Nat.le_of_ble_eq_true rfl) (Nat.le_of_ble_eq_true rfl) dX3_init_52 (fun H locs hX hS => ?_)
  replace hX : Bx G fi h0 [(h0, .inr (5, [.int 0, .ref (h0 + 1), .int 0, .int 0, .int 0, .ref (h0 + 3), .ref (h0 + 2)])), ((h0 + 3), .inl (gT G 6, 27, .inr (.inr (.inr (.inr (va_up (va_up (va_up (va_up (va_up (va_up (va_up (va_up (va_up (va_up (va_up (va_up (va_up (va_up (va_up (va_up (va_up (va_up (va_up (va_up (va_up (va_up (fun _ => none) 0 (some (h0 + 4))) 1 (some (h0 + 5))) 2 (some (h0 + 6))) 3 (some (h0 + 7))) 4 (some (h0 + 8))) 5 (some (h0 + 9))) 6 (some (h0 + 10))) 7 (some (h0 + 11))) 8 (some (h0 + 12))) 9 (some (h0 + 13))) 10 (some (h0 + 14))) 11 (some (h0 + 15))) 12 (some (h0 + 16))) 13 (some (h0 + 17))) 14 (some (h0 + 18))) 15 (some (h0 + 19))) 16 (some (h0 + 20))) 17 (some (h0 + 21))) 18 (some (h0 + 22))) 19 (some (h0 + 23))) 20 (some (h0 + 24))) 21 (some (h0 + 25))))))))] (h0 + 27) H := hX
  refine bw_aast (ci := 4) (r := (RX2, TX2, 10)) (vs := [.int 0, .int 0, .int 0, .int 0, .int 0, .int 0, .int 0, .int 0, .int 0, .int 0]) hx hb hK hX hS 1 6 rfl rfl (by have h9 := Bx.at_ hX (a := (h0 + 26)) (by omega) (by omega) (by intro k q hk; match k, hk with | 0, hk => (cases hk; (try dsimp only); omega) | 1, hk => (cases hk; (try dsimp only); omega) | k + 2, hk => simp at hk); rw [FXo_2 hF_26] at h9; exact h9) rfl (inR_in (by decide)) dX3_init_55 (fun H locs hX hS => ?_)
  replace hX : Bx G fi h0 [(h0, .inr (5, [.int 0, .ref (h0 + 1), .int 0, .int 0, .int 0, .ref (h0 + 3), .ref (h0 + 2)])), ((h0 + 3), .inl (gT G 6, 27, .inr (.inr (.inr (.inr (va_up (va_up (va_up (va_up (va_up (va_up (va_up (va_up (va_up (va_up (va_up (va_up (va_up (va_up (va_up (va_up (va_up (va_up (va_up (va_up (va_up (va_up (va_up (fun _ => none) 0 (some (h0 + 4))) 1 (some (h0 + 5))) 2 (some (h0 + 6))) 3 (some (h0 + 7))) 4 (some (h0 + 8))) 5 (some (h0 + 9))) 6 (some (h0 + 10))) 7 (some (h0 + 11))) 8 (some (h0 + 12))) 9 (some (h0 + 13))) 10 (some (h0 + 14))) 11 (some (h0 + 15))) 12 (some (h0 + 16))) 13 (some (h0 + 17))) 14 (some (h0 + 18))) 15 (some (h0 + 19))) 16 (some (h0 + 20))) 17 (some (h0 + 21))) 18 (some (h0 + 22))) 19 (some (h0 + 23))) 20 (some (h0 + 24))) 21 (some (h0 + 25))) 22 (some (h0 + 26))))))))] (h0 + 27) H := hX
  refine lv_iinc (v := (23 : Int32)) (lv' := [(1, .int (23 : Int32)), (0, .ref h0)]) hx hb dX3_init_56 hl (k := 0) rfl (by decide) (by decide) rfl (fun ls hl => ?_)
  refine lv_goto (tgt := 34) hx hb dX3_init_59 (by decide) ?_
  refine lv_iload_n hx hb dX3_init_34 rfl (lv_at hl 0 rfl) ?_
  refine lv_aload_n hx hb dX3_init_35 rfl (lv_at hl 1 rfl) ?_
  refine bw_get (ci := 5) (C := RX3) (T := TX3) (N := 7) (v := .ref (h0 + 3)) hx hb htg inG_wsX30 hown hK hX 0 rfl rfl 5 (by decide) (htg _ q128) rfl dX3_init_36 ?_
  refine va_alen hx hb hK.1 hX.2.2.1 1 6 rfl rfl rfl dX3_init_39 ?_
  rw [show Int32.ofNat 27 = (27 : Int32) from rfl]
  refine lv_icmp_ge (tgt := 62) hx hb dX3_init_40 (by decide) (fun c9 => absurd c9 (by decide)) (fun _ => ?_)
  refine lv_aload_n hx hb dX3_init_43 rfl (lv_at hl 1 rfl) ?_
  refine bw_get (ci := 5) (C := RX3) (T := TX3) (N := 7) (v := .ref (h0 + 3)) hx hb htg inG_wsX30 hown hK hX 0 rfl rfl 5 (by decide) (htg _ q128) rfl dX3_init_44 ?_
  refine lv_iload_n hx hb dX3_init_47 rfl (lv_at hl 0 rfl) ?_
  refine bw_new (ci := 4) (fs := [.int 0, .int 0, .int 0, .int 0, .int 0, .int 0, .int 0, .int 0, .int 0, .int 0]) (C := RX2) (T := TX2) (N := 10) hx hb htg inG_wsX20 tyX2 tyX2_ok hown (htg _ q124) (htg _ q125) (htg _ q126) hK hX hS rfl df2 (Nat.le_of_ble_eq_true rfl) (Nat.le_of_ble_eq_true rfl) dX3_init_48 (fun H hX hS => ?_)
  replace hX : Bx G fi h0 ([(h0, .inr (5, [.int 0, .ref (h0 + 1), .int 0, .int 0, .int 0, .ref (h0 + 3), .ref (h0 + 2)])), ((h0 + 3), .inl (gT G 6, 27, .inr (.inr (.inr (.inr (va_up (va_up (va_up (va_up (va_up (va_up (va_up (va_up (va_up (va_up (va_up (va_up (va_up (va_up (va_up (va_up (va_up (va_up (va_up (va_up (va_up (va_up (va_up (fun _ => none) 0 (some (h0 + 4))) 1 (some (h0 + 5))) 2 (some (h0 + 6))) 3 (some (h0 + 7))) 4 (some (h0 + 8))) 5 (some (h0 + 9))) 6 (some (h0 + 10))) 7 (some (h0 + 11))) 8 (some (h0 + 12))) 9 (some (h0 + 13))) 10 (some (h0 + 14))) 11 (some (h0 + 15))) 12 (some (h0 + 16))) 13 (some (h0 + 17))) 14 (some (h0 + 18))) 15 (some (h0 + 19))) 16 (some (h0 + 20))) 17 (some (h0 + 21))) 18 (some (h0 + 22))) 19 (some (h0 + 23))) 20 (some (h0 + 24))) 21 (some (h0 + 25))) 22 (some (h0 + 26))))))))] ++ [((h0 + 27), .inr (4, [.int 0, .int 0, .int 0, .int 0, .int 0, .int 0, .int 0, .int 0, .int 0, .int 0]))]) ((h0 + 27) + 1) H := hX
  refine lv_dup hx hb dX3_init_51 rfl ?_
  refine kb_X2_n hx hb hml hown htg hK hAO hX hS hF_27 (List.mem_of_getElem? (i := 0) rfl) hl.1 (Nat.le_of_ble_eq_true rfl) (Nat.le_of_ble_eq_true rfl) (Nat.le_of_ble_eq_true rfl) (Nat.le_of_ble_eq_true rfl) (Nat.le_of_ble_eq_true rfl) dX3_init_52 (fun H locs hX hS => ?_)
  replace hX : Bx G fi h0 [(h0, .inr (5, [.int 0, .ref (h0 + 1), .int 0, .int 0, .int 0, .ref (h0 + 3), .ref (h0 + 2)])), ((h0 + 3), .inl (gT G 6, 27, .inr (.inr (.inr (.inr (va_up (va_up (va_up (va_up (va_up (va_up (va_up (va_up (va_up (va_up (va_up (va_up (va_up (va_up (va_up (va_up (va_up (va_up (va_up (va_up (va_up (va_up (va_up (fun _ => none) 0 (some (h0 + 4))) 1 (some (h0 + 5))) 2 (some (h0 + 6))) 3 (some (h0 + 7))) 4 (some (h0 + 8))) 5 (some (h0 + 9))) 6 (some (h0 + 10))) 7 (some (h0 + 11))) 8 (some (h0 + 12))) 9 (some (h0 + 13))) 10 (some (h0 + 14))) 11 (some (h0 + 15))) 12 (some (h0 + 16))) 13 (some (h0 + 17))) 14 (some (h0 + 18))) 15 (some (h0 + 19))) 16 (some (h0 + 20))) 17 (some (h0 + 21))) 18 (some (h0 + 22))) 19 (some (h0 + 23))) 20 (some (h0 + 24))) 21 (some (h0 + 25))) 22 (some (h0 + 26))))))))] (h0 + 28) H := hX
  refine bw_aast (ci := 4) (r := (RX2, TX2, 10)) (vs := [.int 0, .int 0, .int 0, .int 0, .int 0, .int 0, .int 0, .int 0, .int 0, .int 0]) hx hb hK hX hS 1 6 rfl rfl (by have h9 := Bx.at_ hX (a := (h0 + 27)) (by omega) (by omega) (by intro k q hk; match k, hk with | 0, hk => (cases hk; (try dsimp only); omega) | 1, hk => (cases hk; (try dsimp only); omega) | k + 2, hk => simp at hk); rw [FXo_2 hF_27] at h9; exact h9) rfl (inR_in (by decide)) dX3_init_55 (fun H locs hX hS => ?_)
  replace hX : Bx G fi h0 [(h0, .inr (5, [.int 0, .ref (h0 + 1), .int 0, .int 0, .int 0, .ref (h0 + 3), .ref (h0 + 2)])), ((h0 + 3), .inl (gT G 6, 27, .inr (.inr (.inr (.inr (va_up (va_up (va_up (va_up (va_up (va_up (va_up (va_up (va_up (va_up (va_up (va_up (va_up (va_up (va_up (va_up (va_up (va_up (va_up (va_up (va_up (va_up (va_up (va_up (fun _ => none) 0 (some (h0 + 4))) 1 (some (h0 + 5))) 2 (some (h0 + 6))) 3 (some (h0 + 7))) 4 (some (h0 + 8))) 5 (some (h0 + 9))) 6 (some (h0 + 10))) 7 (some (h0 + 11))) 8 (some (h0 + 12))) 9 (some (h0 + 13))) 10 (some (h0 + 14))) 11 (some (h0 + 15))) 12 (some (h0 + 16))) 13 (some (h0 + 17))) 14 (some (h0 + 18))) 15 (some (h0 + 19))) 16 (some (h0 + 20))) 17 (some (h0 + 21))) 18 (some (h0 + 22))) 19 (some (h0 + 23))) 20 (some (h0 + 24))) 21 (some (h0 + 25))) 22 (some (h0 + 26))) 23 (some (h0 + 27))))))))] (h0 + 28) H := hX
  refine lv_iinc (v := (24 : Int32)) (lv' := [(1, .int (24 : Int32)), (0, .ref h0)]) hx hb dX3_init_56 hl (k := 0) rfl (by decide) (by decide) rfl (fun ls hl => ?_)
  refine lv_goto (tgt := 34) hx hb dX3_init_59 (by decide) ?_
  refine lv_iload_n hx hb dX3_init_34 rfl (lv_at hl 0 rfl) ?_
  refine lv_aload_n hx hb dX3_init_35 rfl (lv_at hl 1 rfl) ?_
  refine bw_get (ci := 5) (C := RX3) (T := TX3) (N := 7) (v := .ref (h0 + 3)) hx hb htg inG_wsX30 hown hK hX 0 rfl rfl 5 (by decide) (htg _ q128) rfl dX3_init_36 ?_
  refine va_alen hx hb hK.1 hX.2.2.1 1 6 rfl rfl rfl dX3_init_39 ?_
  rw [show Int32.ofNat 27 = (27 : Int32) from rfl]
  refine lv_icmp_ge (tgt := 62) hx hb dX3_init_40 (by decide) (fun c9 => absurd c9 (by decide)) (fun _ => ?_)
  refine lv_aload_n hx hb dX3_init_43 rfl (lv_at hl 1 rfl) ?_
  refine bw_get (ci := 5) (C := RX3) (T := TX3) (N := 7) (v := .ref (h0 + 3)) hx hb htg inG_wsX30 hown hK hX 0 rfl rfl 5 (by decide) (htg _ q128) rfl dX3_init_44 ?_
  refine lv_iload_n hx hb dX3_init_47 rfl (lv_at hl 0 rfl) ?_
  refine bw_new (ci := 4) (fs := [.int 0, .int 0, .int 0, .int 0, .int 0, .int 0, .int 0, .int 0, .int 0, .int 0]) (C := RX2) (T := TX2) (N := 10) hx hb htg inG_wsX20 tyX2 tyX2_ok hown (htg _ q124) (htg _ q125) (htg _ q126) hK hX hS rfl df2 (Nat.le_of_ble_eq_true rfl) (Nat.le_of_ble_eq_true rfl) dX3_init_48 (fun H hX hS => ?_)
  replace hX : Bx G fi h0 ([(h0, .inr (5, [.int 0, .ref (h0 + 1), .int 0, .int 0, .int 0, .ref (h0 + 3), .ref (h0 + 2)])), ((h0 + 3), .inl (gT G 6, 27, .inr (.inr (.inr (.inr (va_up (va_up (va_up (va_up (va_up (va_up (va_up (va_up (va_up (va_up (va_up (va_up (va_up (va_up (va_up (va_up (va_up (va_up (va_up (va_up (va_up (va_up (va_up (va_up (fun _ => none) 0 (some (h0 + 4))) 1 (some (h0 + 5))) 2 (some (h0 + 6))) 3 (some (h0 + 7))) 4 (some (h0 + 8))) 5 (some (h0 + 9))) 6 (some (h0 + 10))) 7 (some (h0 + 11))) 8 (some (h0 + 12))) 9 (some (h0 + 13))) 10 (some (h0 + 14))) 11 (some (h0 + 15))) 12 (some (h0 + 16))) 13 (some (h0 + 17))) 14 (some (h0 + 18))) 15 (some (h0 + 19))) 16 (some (h0 + 20))) 17 (some (h0 + 21))) 18 (some (h0 + 22))) 19 (some (h0 + 23))) 20 (some (h0 + 24))) 21 (some (h0 + 25))) 22 (some (h0 + 26))) 23 (some (h0 + 27))))))))] ++ [((h0 + 28), .inr (4, [.int 0, .int 0, .int 0, .int 0, .int 0, .int 0, .int 0, .int 0, .int 0, .int 0]))]) ((h0 + 28) + 1) H := hX
  refine lv_dup hx hb dX3_init_51 rfl ?_
  refine kb_X2_n hx hb hml hown htg hK hAO hX hS hF_28 (List.mem_of_getElem? (i := 0) rfl) hl.1 (Nat.le_of_ble_eq_true rfl) (Nat.le_of_ble_eq_true rfl) (Nat.le_of_ble_eq_true rfl) (Nat.le_of_ble_eq_true rfl) (Nat.le_of_ble_eq_true rfl) dX3_init_52 (fun H locs hX hS => ?_)
  replace hX : Bx G fi h0 [(h0, .inr (5, [.int 0, .ref (h0 + 1), .int 0, .int 0, .int 0, .ref (h0 + 3), .ref (h0 + 2)])), ((h0 + 3), .inl (gT G 6, 27, .inr (.inr (.inr (.inr (va_up (va_up (va_up (va_up (va_up (va_up (va_up (va_up (va_up (va_up (va_up (va_up (va_up (va_up (va_up (va_up (va_up (va_up (va_up (va_up (va_up (va_up (va_up (va_up (fun _ => none) 0 (some (h0 + 4))) 1 (some (h0 + 5))) 2 (some (h0 + 6))) 3 (some (h0 + 7))) 4 (some (h0 + 8))) 5 (some (h0 + 9))) 6 (some (h0 + 10))) 7 (some (h0 + 11))) 8 (some (h0 + 12))) 9 (some (h0 + 13))) 10 (some (h0 + 14))) 11 (some (h0 + 15))) 12 (some (h0 + 16))) 13 (some (h0 + 17))) 14 (some (h0 + 18))) 15 (some (h0 + 19))) 16 (some (h0 + 20))) 17 (some (h0 + 21))) 18 (some (h0 + 22))) 19 (some (h0 + 23))) 20 (some (h0 + 24))) 21 (some (h0 + 25))) 22 (some (h0 + 26))) 23 (some (h0 + 27))))))))] (h0 + 29) H := hX
  refine bw_aast (ci := 4) (r := (RX2, TX2, 10)) (vs := [.int 0, .int 0, .int 0, .int 0, .int 0, .int 0, .int 0, .int 0, .int 0, .int 0]) hx hb hK hX hS 1 6 rfl rfl (by have h9 := Bx.at_ hX (a := (h0 + 28)) (by omega) (by omega) (by intro k q hk; match k, hk with | 0, hk => (cases hk; (try dsimp only); omega) | 1, hk => (cases hk; (try dsimp only); omega) | k + 2, hk => simp at hk); rw [FXo_2 hF_28] at h9; exact h9) rfl (inR_in (by decide)) dX3_init_55 (fun H locs hX hS => ?_)
  replace hX : Bx G fi h0 [(h0, .inr (5, [.int 0, .ref (h0 + 1), .int 0, .int 0, .int 0, .ref (h0 + 3), .ref (h0 + 2)])), ((h0 + 3), .inl (gT G 6, 27, .inr (.inr (.inr (.inr (va_up (va_up (va_up (va_up (va_up (va_up (va_up (va_up (va_up (va_up (va_up (va_up (va_up (va_up (va_up (va_up (va_up (va_up (va_up (va_up (va_up (va_up (va_up (va_up (va_up (fun _ => none) 0 (some (h0 + 4))) 1 (some (h0 + 5))) 2 (some (h0 + 6))) 3 (some (h0 + 7))) 4 (some (h0 + 8))) 5 (some (h0 + 9))) 6 (some (h0 + 10))) 7 (some (h0 + 11))) 8 (some (h0 + 12))) 9 (some (h0 + 13))) 10 (some (h0 + 14))) 11 (some (h0 + 15))) 12 (some (h0 + 16))) 13 (some (h0 + 17))) 14 (some (h0 + 18))) 15 (some (h0 + 19))) 16 (some (h0 + 20))) 17 (some (h0 + 21))) 18 (some (h0 + 22))) 19 (some (h0 + 23))) 20 (some (h0 + 24))) 21 (some (h0 + 25))) 22 (some (h0 + 26))) 23 (some (h0 + 27))) 24 (some (h0 + 28))))))))] (h0 + 29) H := hX
  refine lv_iinc (v := (25 : Int32)) (lv' := [(1, .int (25 : Int32)), (0, .ref h0)]) hx hb dX3_init_56 hl (k := 0) rfl (by decide) (by decide) rfl (fun ls hl => ?_)
  refine lv_goto (tgt := 34) hx hb dX3_init_59 (by decide) ?_
  refine lv_iload_n hx hb dX3_init_34 rfl (lv_at hl 0 rfl) ?_
  refine lv_aload_n hx hb dX3_init_35 rfl (lv_at hl 1 rfl) ?_
  refine bw_get (ci := 5) (C := RX3) (T := TX3) (N := 7) (v := .ref (h0 + 3)) hx hb htg inG_wsX30 hown hK hX 0 rfl rfl 5 (by decide) (htg _ q128) rfl dX3_init_36 ?_
  refine va_alen hx hb hK.1 hX.2.2.1 1 6 rfl rfl rfl dX3_init_39 ?_
  rw [show Int32.ofNat 27 = (27 : Int32) from rfl]
  refine lv_icmp_ge (tgt := 62) hx hb dX3_init_40 (by decide) (fun c9 => absurd c9 (by decide)) (fun _ => ?_)
  refine lv_aload_n hx hb dX3_init_43 rfl (lv_at hl 1 rfl) ?_
  refine bw_get (ci := 5) (C := RX3) (T := TX3) (N := 7) (v := .ref (h0 + 3)) hx hb htg inG_wsX30 hown hK hX 0 rfl rfl 5 (by decide) (htg _ q128) rfl dX3_init_44 ?_
  refine lv_iload_n hx hb dX3_init_47 rfl (lv_at hl 0 rfl) ?_
  refine bw_new (ci := 4) (fs := [.int 0, .int 0, .int 0, .int 0, .int 0, .int 0, .int 0, .int 0, .int 0, .int 0]) (C := RX2) (T := TX2) (N := 10) hx hb htg inG_wsX20 tyX2 tyX2_ok hown (htg _ q124) (htg _ q125) (htg _ q126) hK hX hS rfl df2 (Nat.le_of_ble_eq_true rfl) (Nat.le_of_ble_eq_true rfl) dX3_init_48 (fun H hX hS => ?_)
  replace hX : Bx G fi h0 ([(h0, .inr (5, [.int 0, .ref (h0 + 1), .int 0, .int 0, .int 0, .ref (h0 + 3), .ref (h0 + 2)])), ((h0 + 3), .inl (gT G 6, 27, .inr (.inr (.inr (.inr (va_up (va_up (va_up (va_up (va_up (va_up (va_up (va_up (va_up (va_up (va_up (va_up (va_up (va_up (va_up (va_up (va_up (va_up (va_up (va_up (va_up (va_up (va_up (va_up (va_up (fun _ => none) 0 (some (h0 + 4))) 1 (some (h0 + 5))) 2 (some (h0 + 6))) 3 (some (h0 + 7))) 4 (some (h0 + 8))) 5 (some (h0 + 9))) 6 (some (h0 + 10))) 7 (some (h0 + 11))) 8 (some (h0 + 12))) 9 (some (h0 + 13))) 10 (some (h0 + 14))) 11 (some (h0 + 15))) 12 (some (h0 + 16))) 13 (some (h0 + 17))) 14 (some (h0 + 18))) 15 (some (h0 + 19))) 16 (some (h0 + 20))) 17 (some (h0 + 21))) 18 (some (h0 + 22))) 19 (some (h0 + 23))) 20 (some (h0 + 24))) 21 (some (h0 + 25))) 22 (some (h0 + 26))) 23 (some (h0 + 27))) 24 (some (h0 + 28))))))))] ++ [((h0 + 29), .inr (4, [.int 0, .int 0, .int 0, .int 0, .int 0, .int 0, .int 0, .int 0, .int 0, .int 0]))]) ((h0 + 29) + 1) H := hX
  refine lv_dup hx hb dX3_init_51 rfl ?_
  refine kb_X2_n hx hb hml hown htg hK hAO hX hS hF_29 (List.mem_of_getElem? (i := 0) rfl) hl.1 (Nat.le_of_ble_eq_true rfl) (Nat.le_of_ble_eq_true rfl) (Nat.le_of_ble_eq_true rfl) (Nat.le_of_ble_eq_true rfl) (Nat.le_of_ble_eq_true rfl) dX3_init_52 (fun H locs hX hS => ?_)
  replace hX : Bx G fi h0 [(h0, .inr (5, [.int 0, .ref (h0 + 1), .int 0, .int 0, .int 0, .ref (h0 + 3), .ref (h0 + 2)])), ((h0 + 3), .inl (gT G 6, 27, .inr (.inr (.inr (.inr (va_up (va_up (va_up (va_up (va_up (va_up (va_up (va_up (va_up (va_up (va_up (va_up (va_up (va_up (va_up (va_up (va_up (va_up (va_up (va_up (va_up (va_up (va_up (va_up (va_up (fun _ => none) 0 (some (h0 + 4))) 1 (some (h0 + 5))) 2 (some (h0 + 6))) 3 (some (h0 + 7))) 4 (some (h0 + 8))) 5 (some (h0 + 9))) 6 (some (h0 + 10))) 7 (some (h0 + 11))) 8 (some (h0 + 12))) 9 (some (h0 + 13))) 10 (some (h0 + 14))) 11 (some (h0 + 15))) 12 (some (h0 + 16))) 13 (some (h0 + 17))) 14 (some (h0 + 18))) 15 (some (h0 + 19))) 16 (some (h0 + 20))) 17 (some (h0 + 21))) 18 (some (h0 + 22))) 19 (some (h0 + 23))) 20 (some (h0 + 24))) 21 (some (h0 + 25))) 22 (some (h0 + 26))) 23 (some (h0 + 27))) 24 (some (h0 + 28))))))))] (h0 + 30) H := hX
  refine bw_aast (ci := 4) (r := (RX2, TX2, 10)) (vs := [.int 0, .int 0, .int 0, .int 0, .int 0, .int 0, .int 0, .int 0, .int 0, .int 0]) hx hb hK hX hS 1 6 rfl rfl (by have h9 := Bx.at_ hX (a := (h0 + 29)) (by omega) (by omega) (by intro k q hk; match k, hk with | 0, hk => (cases hk; (try dsimp only); omega) | 1, hk => (cases hk; (try dsimp only); omega) | k + 2, hk => simp at hk); rw [FXo_2 hF_29] at h9; exact h9) rfl (inR_in (by decide)) dX3_init_55 (fun H locs hX hS => ?_)
  replace hX : Bx G fi h0 [(h0, .inr (5, [.int 0, .ref (h0 + 1), .int 0, .int 0, .int 0, .ref (h0 + 3), .ref (h0 + 2)])), ((h0 + 3), .inl (gT G 6, 27, .inr (.inr (.inr (.inr (va_up (va_up (va_up (va_up (va_up (va_up (va_up (va_up (va_up (va_up (va_up (va_up (va_up (va_up (va_up (va_up (va_up (va_up (va_up (va_up (va_up (va_up (va_up (va_up (va_up (va_up (fun _ => none) 0 (some (h0 + 4))) 1 (some (h0 + 5))) 2 (some (h0 + 6))) 3 (some (h0 + 7))) 4 (some (h0 + 8))) 5 (some (h0 + 9))) 6 (some (h0 + 10))) 7 (some (h0 + 11))) 8 (some (h0 + 12))) 9 (some (h0 + 13))) 10 (some (h0 + 14))) 11 (some (h0 + 15))) 12 (some (h0 + 16))) 13 (some (h0 + 17))) 14 (some (h0 + 18))) 15 (some (h0 + 19))) 16 (some (h0 + 20))) 17 (some (h0 + 21))) 18 (some (h0 + 22))) 19 (some (h0 + 23))) 20 (some (h0 + 24))) 21 (some (h0 + 25))) 22 (some (h0 + 26))) 23 (some (h0 + 27))) 24 (some (h0 + 28))) 25 (some (h0 + 29))))))))] (h0 + 30) H := hX
  refine lv_iinc (v := (26 : Int32)) (lv' := [(1, .int (26 : Int32)), (0, .ref h0)]) hx hb dX3_init_56 hl (k := 0) rfl (by decide) (by decide) rfl (fun ls hl => ?_)
  refine lv_goto (tgt := 34) hx hb dX3_init_59 (by decide) ?_
  refine lv_iload_n hx hb dX3_init_34 rfl (lv_at hl 0 rfl) ?_
  refine lv_aload_n hx hb dX3_init_35 rfl (lv_at hl 1 rfl) ?_
  refine bw_get (ci := 5) (C := RX3) (T := TX3) (N := 7) (v := .ref (h0 + 3)) hx hb htg inG_wsX30 hown hK hX 0 rfl rfl 5 (by decide) (htg _ q128) rfl dX3_init_36 ?_
  refine va_alen hx hb hK.1 hX.2.2.1 1 6 rfl rfl rfl dX3_init_39 ?_
  rw [show Int32.ofNat 27 = (27 : Int32) from rfl]
  refine lv_icmp_ge (tgt := 62) hx hb dX3_init_40 (by decide) (fun c9 => absurd c9 (by decide)) (fun _ => ?_)
  refine lv_aload_n hx hb dX3_init_43 rfl (lv_at hl 1 rfl) ?_
  refine bw_get (ci := 5) (C := RX3) (T := TX3) (N := 7) (v := .ref (h0 + 3)) hx hb htg inG_wsX30 hown hK hX 0 rfl rfl 5 (by decide) (htg _ q128) rfl dX3_init_44 ?_
  refine lv_iload_n hx hb dX3_init_47 rfl (lv_at hl 0 rfl) ?_
  refine bw_new (ci := 4) (fs := [.int 0, .int 0, .int 0, .int 0, .int 0, .int 0, .int 0, .int 0, .int 0, .int 0]) (C := RX2) (T := TX2) (N := 10) hx hb htg inG_wsX20 tyX2 tyX2_ok hown (htg _ q124) (htg _ q125) (htg _ q126) hK hX hS rfl df2 (Nat.le_of_ble_eq_true rfl) (Nat.le_of_ble_eq_true rfl) dX3_init_48 (fun H hX hS => ?_)
  replace hX : Bx G fi h0 ([(h0, .inr (5, [.int 0, .ref (h0 + 1), .int 0, .int 0, .int 0, .ref (h0 + 3), .ref (h0 + 2)])), ((h0 + 3), .inl (gT G 6, 27, .inr (.inr (.inr (.inr (va_up (va_up (va_up (va_up (va_up (va_up (va_up (va_up (va_up (va_up (va_up (va_up (va_up (va_up (va_up (va_up (va_up (va_up (va_up (va_up (va_up (va_up (va_up (va_up (va_up (va_up (fun _ => none) 0 (some (h0 + 4))) 1 (some (h0 + 5))) 2 (some (h0 + 6))) 3 (some (h0 + 7))) 4 (some (h0 + 8))) 5 (some (h0 + 9))) 6 (some (h0 + 10))) 7 (some (h0 + 11))) 8 (some (h0 + 12))) 9 (some (h0 + 13))) 10 (some (h0 + 14))) 11 (some (h0 + 15))) 12 (some (h0 + 16))) 13 (some (h0 + 17))) 14 (some (h0 + 18))) 15 (some (h0 + 19))) 16 (some (h0 + 20))) 17 (some (h0 + 21))) 18 (some (h0 + 22))) 19 (some (h0 + 23))) 20 (some (h0 + 24))) 21 (some (h0 + 25))) 22 (some (h0 + 26))) 23 (some (h0 + 27))) 24 (some (h0 + 28))) 25 (some (h0 + 29))))))))] ++ [((h0 + 30), .inr (4, [.int 0, .int 0, .int 0, .int 0, .int 0, .int 0, .int 0, .int 0, .int 0, .int 0]))]) ((h0 + 30) + 1) H := hX
  refine lv_dup hx hb dX3_init_51 rfl ?_
  refine kb_X2_n hx hb hml hown htg hK hAO hX hS hF_30 (List.mem_of_getElem? (i := 0) rfl) hl.1 (Nat.le_of_ble_eq_true rfl) (Nat.le_of_ble_eq_true rfl) (Nat.le_of_ble_eq_true rfl) (Nat.le_of_ble_eq_true rfl) (Nat.le_of_ble_eq_true rfl) dX3_init_52 (fun H locs hX hS => ?_)
  replace hX : Bx G fi h0 [(h0, .inr (5, [.int 0, .ref (h0 + 1), .int 0, .int 0, .int 0, .ref (h0 + 3), .ref (h0 + 2)])), ((h0 + 3), .inl (gT G 6, 27, .inr (.inr (.inr (.inr (va_up (va_up (va_up (va_up (va_up (va_up (va_up (va_up (va_up (va_up (va_up (va_up (va_up (va_up (va_up (va_up (va_up (va_up (va_up (va_up (va_up (va_up (va_up (va_up (va_up (va_up (fun _ => none) 0 (some (h0 + 4))) 1 (some (h0 + 5))) 2 (some (h0 + 6))) 3 (some (h0 + 7))) 4 (some (h0 + 8))) 5 (some (h0 + 9))) 6 (some (h0 + 10))) 7 (some (h0 + 11))) 8 (some (h0 + 12))) 9 (some (h0 + 13))) 10 (some (h0 + 14))) 11 (some (h0 + 15))) 12 (some (h0 + 16))) 13 (some (h0 + 17))) 14 (some (h0 + 18))) 15 (some (h0 + 19))) 16 (some (h0 + 20))) 17 (some (h0 + 21))) 18 (some (h0 + 22))) 19 (some (h0 + 23))) 20 (some (h0 + 24))) 21 (some (h0 + 25))) 22 (some (h0 + 26))) 23 (some (h0 + 27))) 24 (some (h0 + 28))) 25 (some (h0 + 29))))))))] (h0 + 31) H := hX
  refine bw_aast (ci := 4) (r := (RX2, TX2, 10)) (vs := [.int 0, .int 0, .int 0, .int 0, .int 0, .int 0, .int 0, .int 0, .int 0, .int 0]) hx hb hK hX hS 1 6 rfl rfl (by have h9 := Bx.at_ hX (a := (h0 + 30)) (by omega) (by omega) (by intro k q hk; match k, hk with | 0, hk => (cases hk; (try dsimp only); omega) | 1, hk => (cases hk; (try dsimp only); omega) | k + 2, hk => simp at hk); rw [FXo_2 hF_30] at h9; exact h9) rfl (inR_in (by decide)) dX3_init_55 (fun H locs hX hS => ?_)
  replace hX : Bx G fi h0 [(h0, .inr (5, [.int 0, .ref (h0 + 1), .int 0, .int 0, .int 0, .ref (h0 + 3), .ref (h0 + 2)])), ((h0 + 3), .inl (gT G 6, 27, .inr (.inr (.inr (.inr (va_up (va_up (va_up (va_up (va_up (va_up (va_up (va_up (va_up (va_up (va_up (va_up (va_up (va_up (va_up (va_up (va_up (va_up (va_up (va_up (va_up (va_up (va_up (va_up (va_up (va_up (va_up (fun _ => none) 0 (some (h0 + 4))) 1 (some (h0 + 5))) 2 (some (h0 + 6))) 3 (some (h0 + 7))) 4 (some (h0 + 8))) 5 (some (h0 + 9))) 6 (some (h0 + 10))) 7 (some (h0 + 11))) 8 (some (h0 + 12))) 9 (some (h0 + 13))) 10 (some (h0 + 14))) 11 (some (h0 + 15))) 12 (some (h0 + 16))) 13 (some (h0 + 17))) 14 (some (h0 + 18))) 15 (some (h0 + 19))) 16 (some (h0 + 20))) 17 (some (h0 + 21))) 18 (some (h0 + 22))) 19 (some (h0 + 23))) 20 (some (h0 + 24))) 21 (some (h0 + 25))) 22 (some (h0 + 26))) 23 (some (h0 + 27))) 24 (some (h0 + 28))) 25 (some (h0 + 29))) 26 (some (h0 + 30))))))))] (h0 + 31) H := hX
  refine lv_iinc (v := (27 : Int32)) (lv' := [(1, .int (27 : Int32)), (0, .ref h0)]) hx hb dX3_init_56 hl (k := 0) rfl (by decide) (by decide) rfl (fun ls hl => ?_)
  refine lv_goto (tgt := 34) hx hb dX3_init_59 (by decide) ?_
  refine lv_iload_n hx hb dX3_init_34 rfl (lv_at hl 0 rfl) ?_
  refine lv_aload_n hx hb dX3_init_35 rfl (lv_at hl 1 rfl) ?_
  refine bw_get (ci := 5) (C := RX3) (T := TX3) (N := 7) (v := .ref (h0 + 3)) hx hb htg inG_wsX30 hown hK hX 0 rfl rfl 5 (by decide) (htg _ q128) rfl dX3_init_36 ?_
  refine va_alen hx hb hK.1 hX.2.2.1 1 6 rfl rfl rfl dX3_init_39 ?_
  rw [show Int32.ofNat 27 = (27 : Int32) from rfl]
  refine lv_icmp_ge (tgt := 62) hx hb dX3_init_40 (by decide) (fun _ => ?_) (fun c9 => absurd (by decide) c9)
  replace hX := Bx.drop (ws := [(h0, .inr (5, [.int 0, .ref (h0 + 1), .int 0, .int 0, .int 0, .ref (h0 + 3), .ref (h0 + 2)]))]) (a := (h0 + 3)) (e := .inl (gT G 6, 27, .inr (.inr (.inr (.inr (va_up (va_up (va_up (va_up (va_up (va_up (va_up (va_up (va_up (va_up (va_up (va_up (va_up (va_up (va_up (va_up (va_up (va_up (va_up (va_up (va_up (va_up (va_up (va_up (va_up (va_up (va_up (fun _ => none) 0 (some (h0 + 4))) 1 (some (h0 + 5))) 2 (some (h0 + 6))) 3 (some (h0 + 7))) 4 (some (h0 + 8))) 5 (some (h0 + 9))) 6 (some (h0 + 10))) 7 (some (h0 + 11))) 8 (some (h0 + 12))) 9 (some (h0 + 13))) 10 (some (h0 + 14))) 11 (some (h0 + 15))) 12 (some (h0 + 16))) 13 (some (h0 + 17))) 14 (some (h0 + 18))) 15 (some (h0 + 19))) 16 (some (h0 + 20))) 17 (some (h0 + 21))) 18 (some (h0 + 22))) 19 (some (h0 + 23))) 20 (some (h0 + 24))) 21 (some (h0 + 25))) 22 (some (h0 + 26))) 23 (some (h0 + 27))) 24 (some (h0 + 28))) 25 (some (h0 + 29))) 26 (some (h0 + 30)))))))) hX (by rw [hf_3]; exact id)
  replace hX := Bx.drop (ws := []) (a := h0) (e := .inr (5, [.int 0, .ref (h0 + 1), .int 0, .int 0, .int 0, .ref (h0 + 3), .ref (h0 + 2)])) hX (by rw [hf_0]; exact id)
  replace hX : Bx G fi h0 [] (h0 + 31) H := hX
  refine W.widen (k := 30) (n := 387) (Nat.le_of_ble_eq_true rfl) (Nat.le_of_ble_eq_true rfl) ?_
  exact W.vret hx hb hr (fun t ht hW9 => ⟨⟨(), rfl, trivial, by first | (subst ht; exact ⟨hX.1, hX.all⟩) | (show t.heap.size = _ ∧ _; rw [ht]; exact ⟨hX.1, hX.all⟩)⟩, hS.F ht⟩) hS.2.2 dX3_init_62
set_option maxHeartbeats 40000000 in
theorem kb_X3 {p : Program} {l : Launch} {e : Env} {R : Room} {s : State} {m : MethodId} {args : Array Value} {below : List Frame} {meth : Method} {c : Code} {H : Heap} {locs : List Loc} {cells slots : Nat} {Q : State → Prop} {cc : ByteArray} {pc nL idx : Nat} {own : String} {ls : Array Slot} {rest : List Value} {G : Geo} {fi : Nat → va_E} {B n : Nat} {ws : va_W} {H0 : Heap} (hx : p.tables.exec = Jvm.exec) (hb : c.code = cc) (hml : c.maxLocals = nL) (hown : s.vm.findClass own = some m.cls) (htg : ∀ w ∈ wsG, w.before args s = true) (hK : Kt G s) (hAO : Ao s) (hX : Bx G fi B (ws ++ [(n, .inr (5, [.int 0, .null, .int 0, .int 0, .int 0, .null, .null]))]) (n + 1) H) (hS : va_S (Bd B) H0 H locs) (hF : FX_3 G fi n) (hlk : Cond.methodLink own idx yX3_init ∈ wsG) (hn : ls.size = nL) (hr : (rest.map fun v => v.category).sum ≤ 8) (hR1 : 2 + 1 ≤ R.frames) (hR2 : 8 + (2 + 11) + 32 ≤ R.locals) (hc1 : cells + 30 ≤ R.cells) (hc2 : slots + 387 ≤ R.slots) (hdg : decode cc pc = .ok (.invokespecial idx, 3)) (kk : ∀ (H1 : Heap) (locs1 : List Loc), Bx G fi B ws (n + 1 + 30) H1 → va_S (Bd B) H0 H1 locs1 → W p l e R s m args below meth c H1 locs1 (cells + 30) (slots + 387) Q (F0 m (pc + 3) ls rest)) : W p l e R s m args below meth c H locs cells slots Q (F0 m pc ls (.ref n :: rest)) := by
  have hB : B ≤ n := by have h1 := hX.2.2.2.1.2 ws.length (n, .inr (5, [.int 0, .null, .int 0, .int 0, .int 0, .null, .null])) (by simp); exact h1
  have hPn : va_P G.1 vwCl [(n, .inr (5, [.int 0, .null, .int 0, .int 0, .int 0, .null, .null]))] H := va_P_r hX.2.2.1
  refine va_callv (va_runI (As := []) (rest := rest) ⟨hx, hb, hml, hown, htg⟩ (cb_X3 l G fi n hF) (cwI 0 htg (gd_all q120) rfl rfl rfl (htg _ q31) (htg _ hlk) (htg _ q119) rfl (by decide +kernel) ⟨hR1, hR2⟩) ⟨fun a U g mk q => ⟨q.1, q.2.1.calling, fun C hC => va_AO.moved (u := U) (U := U.calling g mk a) (Vm.Alike.refl U.vm) (q.2.2.1 C hC), q.2.2.2.1, q.2.2.2.2⟩, fun U hU hW9 => ⟨rfl, hK.warm hW9, fun C hC => va_AO.moved hW9.alike (hAO C hC), by rw [hU]; exact hX.1, by rw [hU]; exact hPn⟩⟩ rfl rfl hn rfl (lv_room hr) hdg ⟨hc1, hc2⟩) hS (fun q _ h9 => Nat.le_trans hB h9) (fun q h9 => Nat.le_trans hB h9) ?_
  intro u t H1 locs1 ht hvm hw hB9 hz1 hk1 hS1
  obtain ⟨hB1, hB2⟩ := hB9
  rw [ht] at hB1 hB2
  exact kk H1 locs1 (hX.call (k := 30) (hB1.trans (by omega)) (fun a h1 h2 => hB2 a h1 (by omega)) (fun q9 hq9 => hk1 q9 (by rw [hX.1]; omega) (Nat.not_le.mpr hq9))) hS1
