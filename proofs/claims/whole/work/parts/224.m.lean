/-! METHOD X12_use -/
def m_X12_use_j27 (p0 : Int32) (s0 : Int32) (y : Mem) : Option (UInt32 × Mem) :=
  lt_ (up4 y 40 0 0 0 s0) fun y6 => if (y6 40 0 0 33) = 0 then (some (FP.fconst0, y6)) else (gd_ p0 3 (gq_ (nn32 (FP.fdiv (FP.i2f (y6 121 0 0 p0.toNatClampNeg)) (FP.i2f (y6 40 0 0 33)))) (some ((FP.fdiv (FP.i2f (y6 121 0 0 p0.toNatClampNeg)) (FP.i2f (y6 40 0 0 33))), y6))))
def m_X12_use (p0 : Int32) (y : Mem) : Option (UInt32 × Mem) :=
  bd_ (m_X12_isArm p0) fun r2 => if r2 = 0 then (lt_ (up4 y 40 0 0 0 (1 : Int32)) fun y5 => some (FP.fconst0, y5)) else (if (y 40 0 0 33) = 0 then (m_X12_use_j27 p0 (2 : Int32) y) else (m_X12_use_j27 p0 (0 : Int32) y))
abbrev WS_X12_use : List Cond := .code yX12_use cX12_use 2 (some .float) :: wsG
abbrev RM_X12_use : Room := { frames := 2, cells := 0, slots := 0, locals := 42 }
set_option maxHeartbeats 4000000 in
set_option maxRecDepth 100000 in
theorem c_X12_use (l : Launch) (G : Geo) (x y : Mem) (p0 : Int32) (r : (UInt32 × Mem)) (h : m_X12_use p0 y = some r) : Met l yX12_use WS_X12_use RM_X12_use (Pw G x y [.ref (gA G 40 0 0), .int p0]) (Qf G x r.2 r.1) 0 0 (gF G) := by
  refine Met.ofW (cc := cX12_use) (maxL := 2) (ret := (some .float)) (by decide) rfl ?_
  intro p e s m args below meth c s₁ B hml hv
  obtain ⟨rfl, hK, hW⟩ := hv
  have hx := B.exec
  have hb := B.bytes
  have hr := B.returns
  have hts := atoms_spec (ws := WS_X12_use) B.pre
  have htg : ∀ w ∈ wsG, w.before _ s = true := fun w h => hts w (List.mem_cons_of_mem _ h)
  have hown : s.vm.findClass RX12 = some m.cls := findClass_of_methodNamed B.named
  have hlocks := B.notSynchronized
  have hS : va_S (gF G) s.heap s.heap [] := va_S.rf
  have hl := lv_entry ([.ref (gA G 40 0 0), .int p0]) (n := 2) (Nat.le_of_ble_eq_true rfl)
  rw [lg_entry_eq]
  generalize (lg_sl ([.ref (gA G 40 0 0), .int p0]) ++ List.replicate (2 - (lg_sl ([.ref (gA G 40 0 0), .int p0])).length) Slot.unset).toArray = ls at hl ⊢
  have hl : lv_has ls 2 [(0, .ref (gA G 40 0 0)), (1, .int p0)] := hl
  have hX := h
  unfold m_X12_use at hX
  have J_27 : ∀ (s0 : Int32) (y : Mem) (H : Heap) (locs : List Loc) (ls : Array Slot), Wh G x y H → va_S (gF G) s.heap H locs → lv_has ls 2 [(0, .ref (gA G 40 0 0)), (1, .int p0)] → m_X12_use_j27 p0 s0 y = some r → W p l e (headSpec WS_X12_use RM_X12_use).room s m ([.ref (gA G 40 0 0), .int p0] : List Value).toArray below meth c H locs 0 0 (MQ below (Qf G x r.2 r.1) ([.ref (gA G 40 0 0), .int p0] : List Value).toArray s 0 0 (gF G)) (F0 m 27 ls [.int s0, .ref (gA G 40 0 0)]) := by
    intro s0 y H locs ls hW hS hl hX
    unfold m_X12_use_j27 at hX
    refine pf_40_0 hx hb htg hown hK hW hS q311 dX12_use_27 (fun H locs hW hS => ?_)
    obtain ⟨y6, e9⟩ : ∃ w : Mem, w = (up4 y 40 0 0 0 s0) := ⟨_, rfl⟩
    rw [← e9] at hW
    have hX := lt_go hX e9
    refine lv_aload_n hx hb dX12_use_30 rfl (lv_at hl 0 rfl) ?_
    refine gf_40_33 hx hb htg hown hK hW q352 dX12_use_31 ?_
    refine lv_if_ne (tgt := 41) hx hb dX12_use_34 (by decide) (fun c7 => ?_) (fun c7 => ?_)
    · have hX := it_f hX c7
      refine lv_aload_n hx hb dX12_use_41 rfl (lv_at hl 0 rfl) ?_
      refine gf_40_21 hx hb htg hown hK hW q156 dX12_use_42 ?_
      refine lv_iload_n hx hb dX12_use_45 rfl (lv_at hl 1 rfl) ?_
      obtain ⟨g8, hX⟩ := gd_go hX
      refine al_121 hx hb hK hW g8 dX12_use_46 ?_
      refine lv_i2f hx hb dX12_use_47 ?_
      refine lv_aload_n hx hb dX12_use_48 rfl (lv_at hl 0 rfl) ?_
      refine gf_40_33 hx hb htg hown hK hW q352 dX12_use_49 ?_
      refine lv_i2f hx hb dX12_use_52 ?_
      obtain ⟨g9, hX⟩ := gq_go hX
      refine lv_fdiv hx hb dX12_use_53 (nn32_ok g9) ?_
      have hX := Option.some.inj hX
      subst hX
      exact rt_f hx hb hr hlocks hW hS dX12_use_54
    · have hX := it_t hX c7
      refine lv_fconst0 hx hb dX12_use_37 ?_
      refine lv_goto (tgt := 54) hx hb dX12_use_38 (by decide) ?_
      have hX := Option.some.inj hX
      subst hX
      exact rt_f hx hb hr hlocks hW hS dX12_use_54
  refine lv_iload_n hx hb dX12_use_0 rfl (lv_at hl 1 rfl) ?_
  obtain ⟨r2, h1, hX⟩ := bd_go hX
  refine k_X12_isArm hx hb hml hown htg hK hW hS h1 q404 hl.1 (Nat.le_of_ble_eq_true rfl) (Nat.le_of_ble_eq_true rfl) (Nat.le_of_ble_eq_true rfl) ⟨Nat.zero_le _, Nat.zero_le _⟩ dX12_use_1 (fun H locs hW hS => ?_)
  refine lv_if_ne (tgt := 14) hx hb dX12_use_4 (by decide) (fun c3 => ?_) (fun c3 => ?_)
  · have hX := it_f hX c3
    refine lv_aload_n hx hb dX12_use_14 rfl (lv_at hl 0 rfl) ?_
    refine lv_aload_n hx hb dX12_use_15 rfl (lv_at hl 0 rfl) ?_
    refine gf_40_33 hx hb htg hown hK hW q352 dX12_use_16 ?_
    refine lv_if_ne (tgt := 26) hx hb dX12_use_19 (by decide) (fun c4 => ?_) (fun c4 => ?_)
    · have hX := it_f hX c4
      refine lv_iconst (v := (0 : Int32)) hx hb dX12_use_26 (by decide) ?_
      exact J_27 _ _ _ _ _ hW hS (lv_sub hl [0, 1] rfl) hX
    · have hX := it_t hX c4
      refine lv_iconst (v := (2 : Int32)) hx hb dX12_use_22 (by decide) ?_
      refine lv_goto (tgt := 27) hx hb dX12_use_23 (by decide) ?_
      exact J_27 _ _ _ _ _ hW hS (lv_sub hl [0, 1] rfl) hX
  · have hX := it_t hX c3
    refine lv_aload_n hx hb dX12_use_7 rfl (lv_at hl 0 rfl) ?_
    refine lv_iconst (v := (1 : Int32)) hx hb dX12_use_8 (by decide) ?_
    refine pf_40_0 hx hb htg hown hK hW hS q311 dX12_use_9 (fun H locs hW hS => ?_)
    obtain ⟨y5, e9⟩ : ∃ w : Mem, w = (up4 y 40 0 0 0 (1 : Int32)) := ⟨_, rfl⟩
    rw [← e9] at hW
    have hX := lt_go hX e9
    refine lv_fconst0 hx hb dX12_use_12 ?_
    have hX := Option.some.inj hX
    subst hX
    exact rt_f hx hb hr hlocks hW hS dX12_use_13
set_option maxHeartbeats 4000000 in
theorem k_X12_use {p : Program} {l : Launch} {e : Env} {R : Room} {s : State} {m : MethodId} {args : Array Value} {below : List Frame} {meth : Method} {c : Code} {H : Heap} {locs : List Loc} {cells slots : Nat} {Q : State → Prop} {cc : ByteArray} {pc nL idx : Nat} {own : String} {ls : Array Slot} {rest : List Value} {G : Geo} {x y : Mem} {H0 : Heap} {p0 : Int32} {v : UInt32} {z : Mem} (hx : p.tables.exec = Jvm.exec) (hb : c.code = cc) (hml : c.maxLocals = nL) (hown : s.vm.findClass own = some m.cls) (htg : ∀ w ∈ wsG, w.before args s = true) (hK : Kt G s) (hW : Wh G x y H) (hS : va_S (gF G) H0 H locs) (h : m_X12_use p0 y = some (v, z)) (hlk : Cond.methodLink own idx yX12_use ∈ wsG) (hn : ls.size = nL) (hr : (rest.map fun v => v.category).sum ≤ 8) (hR1 : 2 + 1 ≤ R.frames) (hR2 : 8 + (2 + 11) + 42 ≤ R.locals) (hf : cells ≤ R.cells ∧ slots ≤ R.slots) (hdg : decode cc pc = .ok (.invokevirtual idx, 3)) (kk : ∀ (H1 : Heap) (locs1 : List Loc), Wh G x z H1 → va_S (gF G) H0 H1 locs1 → W p l e R s m args below meth c H1 locs1 cells slots Q (F0 m (pc + 3) ls (.float v :: rest))) : W p l e R s m args below meth c H locs cells slots Q (F0 m pc ls (.int p0 :: .ref (gA G 40 0 0) :: rest)) := by
  refine va_callf (va_runV (As := [.int p0]) (rest := rest) ⟨hx, hb, hml, hown, htg⟩ (c_X12_use l G x y p0 (v, z) h) (cwV 1 htg (gd_V hlk q1050 q1051 q5 q1052) rfl rfl rfl (by decide +kernel) ⟨hR1, hR2⟩) ⟨fun a U g mk q => ⟨q.1, q.2.1.calling, q.2.2⟩, rc_40 hK hW, fun U hU hW9 => ⟨rfl, hK.warm hW9, by rw [hU]; exact hW⟩⟩ rfl rfl hn rfl (lv_room hr) hdg hf) hS (fun _ _ h9 => h9) (fun _ h9 => h9) ?_
  intro r9 u t H1 locs1 ht hvm hw hB hz1 hk1 hS1
  replace hB : Wh G x z t.heap := hB
  rw [ht] at hB
  replace hw : r9 = v := hw
  subst hw
  exact kk H1 locs1 hB hS1
/-! METHOD X12_waiting -/
def m_X12_waiting_j23 (p0 : Int32) (p1 : Int32) (y : Mem) : Option (Int32 × Mem) :=
  bd2_ (m_X12_fails (1 : Int32) y) fun r11 y12 => some (r11, y12)
def m_X12_waiting (p0 : Int32) (p1 : Int32) (y : Mem) : Option (Int32 × Mem) :=
  bd_ (m_X12_isArm p0) fun r2 => if r2 = 0 then (m_X12_waiting_j23 p0 p1 y) else (gd_ p0 3 (bd_ (m_X12_isBetween p1 (0 : Int32) ((y 111 0 0 p0.toNatClampNeg) - (1 : Int32))) fun r6 => if r6 = 0 then (m_X12_waiting_j23 p0 p1 y) else (lt_ (up4 y 40 0 0 0 (0 : Int32)) fun y8 => gd_ (((30 : Int32) * p0) + p1) 90 (some ((y8 112 0 0 (((30 : Int32) * p0) + p1).toNatClampNeg), y8)))))
abbrev WS_X12_waiting : List Cond := .code yX12_waiting cX12_waiting 3 (some .int) :: wsG
abbrev RM_X12_waiting : Room := { frames := 2, cells := 0, slots := 0, locals := 42 }
set_option maxHeartbeats 4000000 in
set_option maxRecDepth 100000 in
theorem c_X12_waiting (l : Launch) (G : Geo) (x y : Mem) (p0 : Int32) (p1 : Int32) (r : (Int32 × Mem)) (h : m_X12_waiting p0 p1 y = some r) : Met l yX12_waiting WS_X12_waiting RM_X12_waiting (Pw G x y [.ref (gA G 40 0 0), .int p0, .int p1]) (Qi G x r.2 r.1) 0 0 (gF G) := by
  refine Met.ofW (cc := cX12_waiting) (maxL := 3) (ret := (some .int)) (by decide) rfl ?_
  intro p e s m args below meth c s₁ B hml hv
  obtain ⟨rfl, hK, hW⟩ := hv
  have hx := B.exec
  have hb := B.bytes
  have hr := B.returns
  have hts := atoms_spec (ws := WS_X12_waiting) B.pre
  have htg : ∀ w ∈ wsG, w.before _ s = true := fun w h => hts w (List.mem_cons_of_mem _ h)
  have hown : s.vm.findClass RX12 = some m.cls := findClass_of_methodNamed B.named
  have hlocks := B.notSynchronized
  have hS : va_S (gF G) s.heap s.heap [] := va_S.rf
  have hl := lv_entry ([.ref (gA G 40 0 0), .int p0, .int p1]) (n := 3) (Nat.le_of_ble_eq_true rfl)
  rw [lg_entry_eq]
  generalize (lg_sl ([.ref (gA G 40 0 0), .int p0, .int p1]) ++ List.replicate (3 - (lg_sl ([.ref (gA G 40 0 0), .int p0, .int p1])).length) Slot.unset).toArray = ls at hl ⊢
  have hl : lv_has ls 3 [(0, .ref (gA G 40 0 0)), (1, .int p0), (2, .int p1)] := hl
  have hX := h
  unfold m_X12_waiting at hX
  have J_23 : ∀ (y : Mem) (H : Heap) (locs : List Loc) (ls : Array Slot), Wh G x y H → va_S (gF G) s.heap H locs → lv_has ls 3 [(0, .ref (gA G 40 0 0))] → m_X12_waiting_j23 p0 p1 y = some r → W p l e (headSpec WS_X12_waiting RM_X12_waiting).room s m ([.ref (gA G 40 0 0), .int p0, .int p1] : List Value).toArray below meth c H locs 0 0 (MQ below (Qi G x r.2 r.1) ([.ref (gA G 40 0 0), .int p0, .int p1] : List Value).toArray s 0 0 (gF G)) (F0 m 23 ls []) := by
    intro y H locs ls hW hS hl hX
    unfold m_X12_waiting_j23 at hX
    refine lv_aload_n hx hb dX12_waiting_23 rfl (lv_at hl 0 rfl) ?_
    refine lv_iconst (v := (1 : Int32)) hx hb dX12_waiting_24 (by decide) ?_
    obtain ⟨r11, y12, h10, hX⟩ := bd2_go hX
    refine k_X12_fails hx hb hml hown htg hK hW hS h10 q407 hl.1 (Nat.le_of_ble_eq_true rfl) (Nat.le_of_ble_eq_true rfl) (Nat.le_of_ble_eq_true rfl) ⟨Nat.zero_le _, Nat.zero_le _⟩ dX12_waiting_25 (fun H locs hW hS => ?_)
    have hX := Option.some.inj hX
    subst hX
    exact rt_i hx hb hr hlocks hW hS dX12_waiting_28
  refine lv_iload_n hx hb dX12_waiting_0 rfl (lv_at hl 1 rfl) ?_
  obtain ⟨r2, h1, hX⟩ := bd_go hX
  refine k_X12_isArm hx hb hml hown htg hK hW hS h1 q404 hl.1 (Nat.le_of_ble_eq_true rfl) (Nat.le_of_ble_eq_true rfl) (Nat.le_of_ble_eq_true rfl) ⟨Nat.zero_le _, Nat.zero_le _⟩ dX12_waiting_1 (fun H locs hW hS => ?_)
  refine lv_if_eq (tgt := 23) hx hb dX12_waiting_4 (by decide) (fun c3 => ?_) (fun c3 => ?_)
  · have hX := it_t hX c3
    exact J_23 _ _ _ _ hW hS (lv_sub hl [0] rfl) hX
  · have hX := it_f hX c3
    refine lv_iload_n hx hb dX12_waiting_7 rfl (lv_at hl 2 rfl) ?_
    refine lv_iconst (v := (0 : Int32)) hx hb dX12_waiting_8 (by decide) ?_
    refine lv_aload_n hx hb dX12_waiting_9 rfl (lv_at hl 0 rfl) ?_
    refine gf_40_11 hx hb htg hown hK hW q146 dX12_waiting_10 ?_
    refine lv_iload_n hx hb dX12_waiting_13 rfl (lv_at hl 1 rfl) ?_
    obtain ⟨g4, hX⟩ := gd_go hX
    refine al_111 hx hb hK hW g4 dX12_waiting_14 ?_
    refine lv_iconst (v := (1 : Int32)) hx hb dX12_waiting_15 (by decide) ?_
    refine lv_isub hx hb dX12_waiting_16 ?_
    obtain ⟨r6, h5, hX⟩ := bd_go hX
    refine k_X12_isBetween hx hb hml hown htg hK hW hS h5 q319 hl.1 (Nat.le_of_ble_eq_true rfl) (Nat.le_of_ble_eq_true rfl) (Nat.le_of_ble_eq_true rfl) ⟨Nat.zero_le _, Nat.zero_le _⟩ dX12_waiting_17 (fun H locs hW hS => ?_)
    refine lv_if_ne (tgt := 29) hx hb dX12_waiting_20 (by decide) (fun c7 => ?_) (fun c7 => ?_)
    · have hX := it_f hX c7
      refine lv_aload_n hx hb dX12_waiting_29 rfl (lv_at hl 0 rfl) ?_
      refine lv_iconst (v := (0 : Int32)) hx hb dX12_waiting_30 (by decide) ?_
      refine pf_40_0 hx hb htg hown hK hW hS q311 dX12_waiting_31 (fun H locs hW hS => ?_)
      obtain ⟨y8, e9⟩ : ∃ w : Mem, w = (up4 y 40 0 0 0 (0 : Int32)) := ⟨_, rfl⟩
      rw [← e9] at hW
      have hX := lt_go hX e9
      refine lv_aload_n hx hb dX12_waiting_34 rfl (lv_at hl 0 rfl) ?_
      refine gf_40_12 hx hb htg hown hK hW q147 dX12_waiting_35 ?_
      refine lv_bipush (v := (30 : Int32)) hx hb dX12_waiting_38 (by decide) ?_
      refine lv_iload_n hx hb dX12_waiting_40 rfl (lv_at hl 1 rfl) ?_
      refine lv_imul hx hb dX12_waiting_41 ?_
      refine lv_iload_n hx hb dX12_waiting_42 rfl (lv_at hl 2 rfl) ?_
      refine lv_iadd hx hb dX12_waiting_43 ?_
      obtain ⟨g9, hX⟩ := gd_go hX
      refine al_112 hx hb hK hW g9 dX12_waiting_44 ?_
      have hX := Option.some.inj hX
      subst hX
      exact rt_i hx hb hr hlocks hW hS dX12_waiting_45
    · have hX := it_t hX c7
      exact J_23 _ _ _ _ hW hS (lv_sub hl [0] rfl) hX
set_option maxHeartbeats 4000000 in
theorem k_X12_waiting {p : Program} {l : Launch} {e : Env} {R : Room} {s : State} {m : MethodId} {args : Array Value} {below : List Frame} {meth : Method} {c : Code} {H : Heap} {locs : List Loc} {cells slots : Nat} {Q : State → Prop} {cc : ByteArray} {pc nL idx : Nat} {own : String} {ls : Array Slot} {rest : List Value} {G : Geo} {x y : Mem} {H0 : Heap} {p0 : Int32} {p1 : Int32} {v : Int32} {z : Mem} (hx : p.tables.exec = Jvm.exec) (hb : c.code = cc) (hml : c.maxLocals = nL) (hown : s.vm.findClass own = some m.cls) (htg : ∀ w ∈ wsG, w.before args s = true) (hK : Kt G s) (hW : Wh G x y H) (hS : va_S (gF G) H0 H locs) (h : m_X12_waiting p0 p1 y = some (v, z)) (hlk : Cond.methodLink own idx yX12_waiting ∈ wsG) (hn : ls.size = nL) (hr : (rest.map fun v => v.category).sum ≤ 8) (hR1 : 2 + 1 ≤ R.frames) (hR2 : 8 + (3 + 11) + 42 ≤ R.locals) (hf : cells ≤ R.cells ∧ slots ≤ R.slots) (hdg : decode cc pc = .ok (.invokevirtual idx, 3)) (kk : ∀ (H1 : Heap) (locs1 : List Loc), Wh G x z H1 → va_S (gF G) H0 H1 locs1 → W p l e R s m args below meth c H1 locs1 cells slots Q (F0 m (pc + 3) ls (.int v :: rest))) : W p l e R s m args below meth c H locs cells slots Q (F0 m pc ls (.int p1 :: .int p0 :: .ref (gA G 40 0 0) :: rest)) := by
  refine va_calli (va_runV (As := [.int p0, .int p1]) (rest := rest) ⟨hx, hb, hml, hown, htg⟩ (c_X12_waiting l G x y p0 p1 (v, z) h) (cwV 2 htg (gd_V hlk q668 q669 q5 q670) rfl rfl rfl (by decide +kernel) ⟨hR1, hR2⟩) ⟨fun a U g mk q => ⟨q.1, q.2.1.calling, q.2.2⟩, rc_40 hK hW, fun U hU hW9 => ⟨rfl, hK.warm hW9, by rw [hU]; exact hW⟩⟩ rfl rfl hn rfl (lv_room hr) hdg hf) hS (fun _ _ h9 => h9) (fun _ h9 => h9) ?_
  intro r9 u t H1 locs1 ht hvm hw hB hz1 hk1 hS1
  replace hB : Wh G x z t.heap := hB
  rw [ht] at hB
  replace hw : r9 = v := hw
  subst hw
  exact kk H1 locs1 hB hS1
/-! METHOD X12_withdraw -/
def m_X12_withdraw (p0 : Int32) (y : Mem) : Option (Int32 × Mem) :=
  bd_ (m_X12_isArm p0) fun r2 => if r2 = 0 then (bd2_ (m_X12_fails (1 : Int32) y) fun r20 y21 => some (r20, y21)) else (gd_ p0 3 (if (y 111 0 0 p0.toNatClampNeg) = 0 then (bd2_ (m_X12_fails (2 : Int32) y) fun r17 y18 => some (r17, y18)) else (lt_ (up4 y 40 0 0 0 (0 : Int32)) fun y6 => bd_ (m_X12_remembers y6) fun y9 => lt_ (up4 y9 111 0 0 p0.toNatClampNeg ((y9 111 0 0 p0.toNatClampNeg) - (1 : Int32))) fun y10 => gd_ (((30 : Int32) * p0) + (y10 111 0 0 p0.toNatClampNeg)) 90 (lt_ (y10 112 0 0 (((30 : Int32) * p0) + (y10 111 0 0 p0.toNatClampNeg)).toNatClampNeg) fun x2_12 => gd_ x2_12 30 (lt_ (up4 y10 129 0 0 x2_12.toNatClampNeg (3 : Int32)) fun y14 => lt_ (up4 y14 40 0 0 38 ((y14 40 0 0 38) + (1 : Int32))) fun y15 => some (x2_12, y15))))))
abbrev WS_X12_withdraw : List Cond := .code yX12_withdraw cX12_withdraw 3 (some .int) :: wsG
abbrev RM_X12_withdraw : Room := { frames := 4, cells := 0, slots := 0, locals := 88 }
set_option maxHeartbeats 4000000 in
set_option maxRecDepth 100000 in
theorem c_X12_withdraw (l : Launch) (G : Geo) (x y : Mem) (p0 : Int32) (r : (Int32 × Mem)) (h : m_X12_withdraw p0 y = some r) : Met l yX12_withdraw WS_X12_withdraw RM_X12_withdraw (Pw G x y [.ref (gA G 40 0 0), .int p0]) (Qi G x r.2 r.1) 0 0 (gF G) := by
  refine Met.ofW (cc := cX12_withdraw) (maxL := 3) (ret := (some .int)) (by decide) rfl ?_
  intro p e s m args below meth c s₁ B hml hv
  obtain ⟨rfl, hK, hW⟩ := hv
  have hx := B.exec
  have hb := B.bytes
  have hr := B.returns
  have hts := atoms_spec (ws := WS_X12_withdraw) B.pre
  have htg : ∀ w ∈ wsG, w.before _ s = true := fun w h => hts w (List.mem_cons_of_mem _ h)
  have hown : s.vm.findClass RX12 = some m.cls := findClass_of_methodNamed B.named
  have hlocks := B.notSynchronized
  have hS : va_S (gF G) s.heap s.heap [] := va_S.rf
  have hl := lv_entry ([.ref (gA G 40 0 0), .int p0]) (n := 3) (Nat.le_of_ble_eq_true rfl)
  rw [lg_entry_eq]
  generalize (lg_sl ([.ref (gA G 40 0 0), .int p0]) ++ List.replicate (3 - (lg_sl ([.ref (gA G 40 0 0), .int p0])).length) Slot.unset).toArray = ls at hl ⊢
  have hl : lv_has ls 3 [(0, .ref (gA G 40 0 0)), (1, .int p0)] := hl
  have hX := h
  unfold m_X12_withdraw at hX
  refine lv_iload_n hx hb dX12_withdraw_0 rfl (lv_at hl 1 rfl) ?_
  obtain ⟨r2, h1, hX⟩ := bd_go hX
  refine k_X12_isArm hx hb hml hown htg hK hW hS h1 q404 hl.1 (Nat.le_of_ble_eq_true rfl) (Nat.le_of_ble_eq_true rfl) (Nat.le_of_ble_eq_true rfl) ⟨Nat.zero_le _, Nat.zero_le _⟩ dX12_withdraw_1 (fun H locs hW hS => ?_)
  refine lv_if_ne (tgt := 13) hx hb dX12_withdraw_4 (by decide) (fun c3 => ?_) (fun c3 => ?_)
  · have hX := it_f hX c3
    refine lv_aload_n hx hb dX12_withdraw_13 rfl (lv_at hl 0 rfl) ?_
    refine gf_40_11 hx hb htg hown hK hW q146 dX12_withdraw_14 ?_
    refine lv_iload_n hx hb dX12_withdraw_17 rfl (lv_at hl 1 rfl) ?_
    obtain ⟨g4, hX⟩ := gd_go hX
    refine al_111 hx hb hK hW g4 dX12_withdraw_18 ?_
    refine lv_if_ne (tgt := 28) hx hb dX12_withdraw_19 (by decide) (fun c5 => ?_) (fun c5 => ?_)
    · have hX := it_f hX c5
      refine lv_aload_n hx hb dX12_withdraw_28 rfl (lv_at hl 0 rfl) ?_
      refine lv_iconst (v := (0 : Int32)) hx hb dX12_withdraw_29 (by decide) ?_
      refine pf_40_0 hx hb htg hown hK hW hS q311 dX12_withdraw_30 (fun H locs hW hS => ?_)
      obtain ⟨y6, e9⟩ : ∃ w : Mem, w = (up4 y 40 0 0 0 (0 : Int32)) := ⟨_, rfl⟩
      rw [← e9] at hW
      have hX := lt_go hX e9
      refine lv_aload_n hx hb dX12_withdraw_33 rfl (lv_at hl 0 rfl) ?_
      obtain ⟨y9, h7, hX⟩ := bd_go hX
      refine k_X12_remembers hx hb hml hown htg hK hW hS h7 q341 hl.1 (Nat.le_of_ble_eq_true rfl) (Nat.le_of_ble_eq_true rfl) (Nat.le_of_ble_eq_true rfl) ⟨Nat.zero_le _, Nat.zero_le _⟩ dX12_withdraw_34 (fun H locs hW hS => ?_)
      refine lv_aload_n hx hb dX12_withdraw_37 rfl (lv_at hl 0 rfl) ?_
      refine gf_40_11 hx hb htg hown hK hW q146 dX12_withdraw_38 ?_
      refine lv_iload_n hx hb dX12_withdraw_41 rfl (lv_at hl 1 rfl) ?_
      refine lv_dup2_11 hx hb dX12_withdraw_42 rfl rfl ?_
      refine al_111 hx hb hK hW g4 dX12_withdraw_43 ?_
      refine lv_iconst (v := (1 : Int32)) hx hb dX12_withdraw_44 (by decide) ?_
      refine lv_isub hx hb dX12_withdraw_45 ?_
      refine as_111 hx hb hK hW hS g4 dX12_withdraw_46 (fun H locs hW hS => ?_)
      obtain ⟨y10, e9⟩ : ∃ w : Mem, w = (up4 y9 111 0 0 p0.toNatClampNeg ((y9 111 0 0 p0.toNatClampNeg) - (1 : Int32))) := ⟨_, rfl⟩
      rw [← e9] at hW
      have hX := lt_go hX e9
      refine lv_aload_n hx hb dX12_withdraw_47 rfl (lv_at hl 0 rfl) ?_
      refine gf_40_12 hx hb htg hown hK hW q147 dX12_withdraw_48 ?_
      refine lv_bipush (v := (30 : Int32)) hx hb dX12_withdraw_51 (by decide) ?_
      refine lv_iload_n hx hb dX12_withdraw_53 rfl (lv_at hl 1 rfl) ?_
      refine lv_imul hx hb dX12_withdraw_54 ?_
      refine lv_aload_n hx hb dX12_withdraw_55 rfl (lv_at hl 0 rfl) ?_
      refine gf_40_11 hx hb htg hown hK hW q146 dX12_withdraw_56 ?_
      refine lv_iload_n hx hb dX12_withdraw_59 rfl (lv_at hl 1 rfl) ?_
      refine al_111 hx hb hK hW g4 dX12_withdraw_60 ?_
      refine lv_iadd hx hb dX12_withdraw_61 ?_
      obtain ⟨g11, hX⟩ := gd_go hX
      refine al_112 hx hb hK hW g11 dX12_withdraw_62 ?_
      refine lv_topi (fun x2_12 e9 => ?_)
      have hX := lt_go hX e9
      refine lv_istore_n (lv' := [(2, .int x2_12), (0, .ref (gA G 40 0 0)), (1, .int p0)]) hx hb dX12_withdraw_63 rfl hl (by decide) rfl (fun ls hl => ?_)
      refine lv_aload_n hx hb dX12_withdraw_64 rfl (lv_at hl 1 rfl) ?_
      refine gf_40_29 hx hb htg hown hK hW q164 dX12_withdraw_65 ?_
      refine lv_iload_n hx hb dX12_withdraw_68 rfl (lv_at hl 0 rfl) ?_
      refine lv_iconst (v := (3 : Int32)) hx hb dX12_withdraw_69 (by decide) ?_
      obtain ⟨g13, hX⟩ := gd_go hX
      refine as_129 hx hb hK hW hS g13 dX12_withdraw_70 (fun H locs hW hS => ?_)
      obtain ⟨y14, e9⟩ : ∃ w : Mem, w = (up4 y10 129 0 0 x2_12.toNatClampNeg (3 : Int32)) := ⟨_, rfl⟩
      rw [← e9] at hW
      have hX := lt_go hX e9
      refine lv_aload_n hx hb dX12_withdraw_71 rfl (lv_at hl 1 rfl) ?_
      refine lv_dup hx hb dX12_withdraw_72 rfl ?_
      refine gf_40_38 hx hb htg hown hK hW q357 dX12_withdraw_73 ?_
      refine lv_iconst (v := (1 : Int32)) hx hb dX12_withdraw_76 (by decide) ?_
      refine lv_iadd hx hb dX12_withdraw_77 ?_
      refine pf_40_38 hx hb htg hown hK hW hS q357 dX12_withdraw_78 (fun H locs hW hS => ?_)
      obtain ⟨y15, e9⟩ : ∃ w : Mem, w = (up4 y14 40 0 0 38 ((y14 40 0 0 38) + (1 : Int32))) := ⟨_, rfl⟩
      rw [← e9] at hW
      have hX := lt_go hX e9
      refine lv_iload_n hx hb dX12_withdraw_81 rfl (lv_at hl 0 rfl) ?_
      have hX := Option.some.inj hX
      subst hX
      exact rt_i hx hb hr hlocks hW hS dX12_withdraw_82
    · have hX := it_t hX c5
      refine lv_aload_n hx hb dX12_withdraw_22 rfl (lv_at hl 0 rfl) ?_
      refine lv_iconst (v := (2 : Int32)) hx hb dX12_withdraw_23 (by decide) ?_
      obtain ⟨r17, y18, h16, hX⟩ := bd2_go hX
      refine k_X12_fails hx hb hml hown htg hK hW hS h16 q407 hl.1 (Nat.le_of_ble_eq_true rfl) (Nat.le_of_ble_eq_true rfl) (Nat.le_of_ble_eq_true rfl) ⟨Nat.zero_le _, Nat.zero_le _⟩ dX12_withdraw_24 (fun H locs hW hS => ?_)
      have hX := Option.some.inj hX
      subst hX
      exact rt_i hx hb hr hlocks hW hS dX12_withdraw_27
  · have hX := it_t hX c3
    refine lv_aload_n hx hb dX12_withdraw_7 rfl (lv_at hl 0 rfl) ?_
    refine lv_iconst (v := (1 : Int32)) hx hb dX12_withdraw_8 (by decide) ?_
    obtain ⟨r20, y21, h19, hX⟩ := bd2_go hX
    refine k_X12_fails hx hb hml hown htg hK hW hS h19 q407 hl.1 (Nat.le_of_ble_eq_true rfl) (Nat.le_of_ble_eq_true rfl) (Nat.le_of_ble_eq_true rfl) ⟨Nat.zero_le _, Nat.zero_le _⟩ dX12_withdraw_9 (fun H locs hW hS => ?_)
    have hX := Option.some.inj hX
    subst hX
    exact rt_i hx hb hr hlocks hW hS dX12_withdraw_12
set_option maxHeartbeats 4000000 in
theorem k_X12_withdraw {p : Program} {l : Launch} {e : Env} {R : Room} {s : State} {m : MethodId} {args : Array Value} {below : List Frame} {meth : Method} {c : Code} {H : Heap} {locs : List Loc} {cells slots : Nat} {Q : State → Prop} {cc : ByteArray} {pc nL idx : Nat} {own : String} {ls : Array Slot} {rest : List Value} {G : Geo} {x y : Mem} {H0 : Heap} {p0 : Int32} {v : Int32} {z : Mem} (hx : p.tables.exec = Jvm.exec) (hb : c.code = cc) (hml : c.maxLocals = nL) (hown : s.vm.findClass own = some m.cls) (htg : ∀ w ∈ wsG, w.before args s = true) (hK : Kt G s) (hW : Wh G x y H) (hS : va_S (gF G) H0 H locs) (h : m_X12_withdraw p0 y = some (v, z)) (hlk : Cond.methodLink own idx yX12_withdraw ∈ wsG) (hn : ls.size = nL) (hr : (rest.map fun v => v.category).sum ≤ 8) (hR1 : 4 + 1 ≤ R.frames) (hR2 : 8 + (3 + 11) + 88 ≤ R.locals) (hf : cells ≤ R.cells ∧ slots ≤ R.slots) (hdg : decode cc pc = .ok (.invokevirtual idx, 3)) (kk : ∀ (H1 : Heap) (locs1 : List Loc), Wh G x z H1 → va_S (gF G) H0 H1 locs1 → W p l e R s m args below meth c H1 locs1 cells slots Q (F0 m (pc + 3) ls (.int v :: rest))) : W p l e R s m args below meth c H locs cells slots Q (F0 m pc ls (.int p0 :: .ref (gA G 40 0 0) :: rest)) := by
  refine va_calli (va_runV (As := [.int p0]) (rest := rest) ⟨hx, hb, hml, hown, htg⟩ (c_X12_withdraw l G x y p0 (v, z) h) (cwV 1 htg (gd_V hlk q604 q605 q5 q606) rfl rfl rfl (by decide +kernel) ⟨hR1, hR2⟩) ⟨fun a U g mk q => ⟨q.1, q.2.1.calling, q.2.2⟩, rc_40 hK hW, fun U hU hW9 => ⟨rfl, hK.warm hW9, by rw [hU]; exact hW⟩⟩ rfl rfl hn rfl (lv_room hr) hdg hf) hS (fun _ _ h9 => h9) (fun _ h9 => h9) ?_
  intro r9 u t H1 locs1 ht hvm hw hB hz1 hk1 hS1
  replace hB : Wh G x z t.heap := hB
  rw [ht] at hB
  replace hw : r9 = v := hw
  subst hw
  exact kk H1 locs1 hB hS1
/-! METHOD X12_wouldBe -/
def m_X12_wouldBe_j100 (p0 : Int32) (x2 : Int32) (x3 : Int32) (s0 : Int32) (y : Mem) : Option (Int32 × Mem) :=
  lt_ s0 fun x4_23 => gd_ x3 30 (if x4_23 < (y 124 0 0 x3.toNatClampNeg) then (lt_ (up4 y 40 0 0 0 (0 : Int32)) fun y26 => bd2_ (m_X12_answers p0 x3 x4_23 x2 y26) fun r28 y29 => some (r28, y29)) else (bd2_ (m_X12_fails (2 : Int32) y) fun r31 y32 => some (r31, y32)))
def m_X12_wouldBe_j99 (p0 : Int32) (x2 : Int32) (x3 : Int32) (s0 : Int32) (s1 : Int32) (y : Mem) : Option (Int32 × Mem) :=
  m_X12_wouldBe_j100 p0 x2 x3 (s1 + s0) y
def m_X12_wouldBe_j69 (p0 : Int32) (x2 : Int32) (s0 : Int32) (y : Mem) : Option (Int32 × Mem) :=
  lt_ s0 fun x3_19 => if x2 = 0 then (gd_ p0 3 (if (y 114 0 0 p0.toNatClampNeg) = (2 : Int32) then (m_X12_wouldBe_j99 p0 x2 x3_19 (2 : Int32) (y 115 0 0 p0.toNatClampNeg) y) else (m_X12_wouldBe_j99 p0 x2 x3_19 (1 : Int32) (y 115 0 0 p0.toNatClampNeg) y))) else (m_X12_wouldBe_j100 p0 x2 x3_19 (0 : Int32) y)
def m_X12_wouldBe_j47 (p0 : Int32) (x2 : Int32) (y : Mem) : Option (Int32 × Mem) :=
  if x2 = 0 then (gd_ p0 3 (m_X12_wouldBe_j69 p0 x2 (y 113 0 0 p0.toNatClampNeg) y)) else (gd_ ((30 : Int32) * p0) 90 (m_X12_wouldBe_j69 p0 x2 (y 112 0 0 ((30 : Int32) * p0).toNatClampNeg) y))
def m_X12_wouldBe_j27 (p0 : Int32) (s0 : Int32) (y : Mem) : Option (Int32 × Mem) :=
  lt_ s0 fun x2_9 => if x2_9 = 0 then (m_X12_wouldBe_j47 p0 x2_9 y) else (gd_ p0 3 (if (y 111 0 0 p0.toNatClampNeg) = 0 then (bd2_ (m_X12_fails (2 : Int32) y) fun r14 y15 => some (r14, y15)) else (m_X12_wouldBe_j47 p0 x2_9 y)))
def m_X12_wouldBe (p0 : Int32) (y : Mem) : Option (Int32 × Mem) :=
  bd_ (m_X12_isArm p0) fun r2 => if r2 = 0 then (bd2_ (m_X12_fails (1 : Int32) y) fun r7 y8 => some (r7, y8)) else (gd_ p0 3 (if (y 114 0 0 p0.toNatClampNeg) = 0 then (m_X12_wouldBe_j27 p0 (1 : Int32) y) else (m_X12_wouldBe_j27 p0 (0 : Int32) y)))
abbrev WS_X12_wouldBe : List Cond := .code yX12_wouldBe cX12_wouldBe 5 (some .int) :: wsG
abbrev RM_X12_wouldBe : Room := { frames := 5, cells := 0, slots := 0, locals := 116 }
set_option maxHeartbeats 4000000 in
set_option maxRecDepth 100000 in
theorem c_X12_wouldBe (l : Launch) (G : Geo) (x y : Mem) (p0 : Int32) (r : (Int32 × Mem)) (h : m_X12_wouldBe p0 y = some r) : Met l yX12_wouldBe WS_X12_wouldBe RM_X12_wouldBe (Pw G x y [.ref (gA G 40 0 0), .int p0]) (Qi G x r.2 r.1) 0 0 (gF G) := by
  refine Met.ofW (cc := cX12_wouldBe) (maxL := 5) (ret := (some .int)) (by decide) rfl ?_
  intro p e s m args below meth c s₁ B hml hv
  obtain ⟨rfl, hK, hW⟩ := hv
  have hx := B.exec
  have hb := B.bytes
  have hr := B.returns
  have hts := atoms_spec (ws := WS_X12_wouldBe) B.pre
  have htg : ∀ w ∈ wsG, w.before _ s = true := fun w h => hts w (List.mem_cons_of_mem _ h)
  have hown : s.vm.findClass RX12 = some m.cls := findClass_of_methodNamed B.named
  have hlocks := B.notSynchronized
  have hS : va_S (gF G) s.heap s.heap [] := va_S.rf
  have hl := lv_entry ([.ref (gA G 40 0 0), .int p0]) (n := 5) (Nat.le_of_ble_eq_true rfl)
  rw [lg_entry_eq]
  generalize (lg_sl ([.ref (gA G 40 0 0), .int p0]) ++ List.replicate (5 - (lg_sl ([.ref (gA G 40 0 0), .int p0])).length) Slot.unset).toArray = ls at hl ⊢
  have hl : lv_has ls 5 [(0, .ref (gA G 40 0 0)), (1, .int p0)] := hl
  have hX := h
  unfold m_X12_wouldBe at hX
  have J_100 : ∀ (x2 : Int32) (x3 : Int32) (s0 : Int32) (y : Mem) (H : Heap) (locs : List Loc) (ls : Array Slot), Wh G x y H → va_S (gF G) s.heap H locs → lv_has ls 5 [(0, .ref (gA G 40 0 0)), (1, .int p0), (2, .int x2), (3, .int x3)] → m_X12_wouldBe_j100 p0 x2 x3 s0 y = some r → W p l e (headSpec WS_X12_wouldBe RM_X12_wouldBe).room s m ([.ref (gA G 40 0 0), .int p0] : List Value).toArray below meth c H locs 0 0 (MQ below (Qi G x r.2 r.1) ([.ref (gA G 40 0 0), .int p0] : List Value).toArray s 0 0 (gF G)) (F0 m 100 ls [.int s0]) := by
    intro x2 x3 s0 y H locs ls hW hS hl hX
    unfold m_X12_wouldBe_j100 at hX
    refine lv_topi (fun x4_23 e9 => ?_)
    have hX := lt_go hX e9
    refine lv_istore (lv' := [(4, .int x4_23), (0, .ref (gA G 40 0 0)), (1, .int p0), (2, .int x2), (3, .int x3)]) hx hb dX12_wouldBe_100 hl (by decide) rfl (fun ls hl => ?_)
    refine lv_iload hx hb dX12_wouldBe_102 (lv_at hl 0 rfl) ?_
    refine lv_aload_n hx hb dX12_wouldBe_104 rfl (lv_at hl 1 rfl) ?_
    refine gf_40_24 hx hb htg hown hK hW q159 dX12_wouldBe_105 ?_
    refine lv_iload_n hx hb dX12_wouldBe_108 rfl (lv_at hl 4 rfl) ?_
    obtain ⟨g24, hX⟩ := gd_go hX
    refine al_124 hx hb hK hW g24 dX12_wouldBe_109 ?_
    refine lv_icmp_lt (tgt := 119) hx hb dX12_wouldBe_110 (by decide) (fun c25 => ?_) (fun c25 => ?_)
    · have hX := it_t hX c25
      refine lv_aload_n hx hb dX12_wouldBe_119 rfl (lv_at hl 1 rfl) ?_
      refine lv_iconst (v := (0 : Int32)) hx hb dX12_wouldBe_120 (by decide) ?_
      refine pf_40_0 hx hb htg hown hK hW hS q311 dX12_wouldBe_121 (fun H locs hW hS => ?_)
      obtain ⟨y26, e9⟩ : ∃ w : Mem, w = (up4 y 40 0 0 0 (0 : Int32)) := ⟨_, rfl⟩
      rw [← e9] at hW
      have hX := lt_go hX e9
      refine lv_aload_n hx hb dX12_wouldBe_124 rfl (lv_at hl 1 rfl) ?_
      refine lv_iload_n hx hb dX12_wouldBe_125 rfl (lv_at hl 2 rfl) ?_
      refine lv_iload_n hx hb dX12_wouldBe_126 rfl (lv_at hl 4 rfl) ?_
      refine lv_iload hx hb dX12_wouldBe_127 (lv_at hl 0 rfl) ?_
      refine lv_iload_n hx hb dX12_wouldBe_129 rfl (lv_at hl 3 rfl) ?_
      obtain ⟨r28, y29, h27, hX⟩ := bd2_go hX
      refine k_X12_answers hx hb hml hown htg hK hW hS h27 q863 hl.1 (Nat.le_of_ble_eq_true rfl) (Nat.le_of_ble_eq_true rfl) (Nat.le_of_ble_eq_true rfl) ⟨Nat.zero_le _, Nat.zero_le _⟩ dX12_wouldBe_130 (fun H locs hW hS => ?_)
      have hX := Option.some.inj hX
      subst hX
      exact rt_i hx hb hr hlocks hW hS dX12_wouldBe_133
    · have hX := it_f hX c25
      refine lv_aload_n hx hb dX12_wouldBe_113 rfl (lv_at hl 1 rfl) ?_
      refine lv_iconst (v := (2 : Int32)) hx hb dX12_wouldBe_114 (by decide) ?_
      obtain ⟨r31, y32, h30, hX⟩ := bd2_go hX
      refine k_X12_fails hx hb hml hown htg hK hW hS h30 q407 hl.1 (Nat.le_of_ble_eq_true rfl) (Nat.le_of_ble_eq_true rfl) (Nat.le_of_ble_eq_true rfl) ⟨Nat.zero_le _, Nat.zero_le _⟩ dX12_wouldBe_115 (fun H locs hW hS => ?_)
      have hX := Option.some.inj hX
      subst hX
      exact rt_i hx hb hr hlocks hW hS dX12_wouldBe_118
  have J_99 : ∀ (x2 : Int32) (x3 : Int32) (s0 : Int32) (s1 : Int32) (y : Mem) (H : Heap) (locs : List Loc) (ls : Array Slot), Wh G x y H → va_S (gF G) s.heap H locs → lv_has ls 5 [(0, .ref (gA G 40 0 0)), (1, .int p0), (2, .int x2), (3, .int x3)] → m_X12_wouldBe_j99 p0 x2 x3 s0 s1 y = some r → W p l e (headSpec WS_X12_wouldBe RM_X12_wouldBe).room s m ([.ref (gA G 40 0 0), .int p0] : List Value).toArray below meth c H locs 0 0 (MQ below (Qi G x r.2 r.1) ([.ref (gA G 40 0 0), .int p0] : List Value).toArray s 0 0 (gF G)) (F0 m 99 ls [.int s0, .int s1]) := by
    intro x2 x3 s0 s1 y H locs ls hW hS hl hX
    unfold m_X12_wouldBe_j99 at hX
    refine lv_iadd hx hb dX12_wouldBe_99 ?_
    exact J_100 _ _ _ _ _ _ _ hW hS (lv_sub hl [0, 1, 2, 3] rfl) hX
  have J_69 : ∀ (x2 : Int32) (s0 : Int32) (y : Mem) (H : Heap) (locs : List Loc) (ls : Array Slot), Wh G x y H → va_S (gF G) s.heap H locs → lv_has ls 5 [(0, .ref (gA G 40 0 0)), (1, .int p0), (2, .int x2)] → m_X12_wouldBe_j69 p0 x2 s0 y = some r → W p l e (headSpec WS_X12_wouldBe RM_X12_wouldBe).room s m ([.ref (gA G 40 0 0), .int p0] : List Value).toArray below meth c H locs 0 0 (MQ below (Qi G x r.2 r.1) ([.ref (gA G 40 0 0), .int p0] : List Value).toArray s 0 0 (gF G)) (F0 m 69 ls [.int s0]) := by
    intro x2 s0 y H locs ls hW hS hl hX
    unfold m_X12_wouldBe_j69 at hX
    refine lv_topi (fun x3_19 e9 => ?_)
    have hX := lt_go hX e9
    refine lv_istore_n (lv' := [(3, .int x3_19), (0, .ref (gA G 40 0 0)), (1, .int p0), (2, .int x2)]) hx hb dX12_wouldBe_69 rfl hl (by decide) rfl (fun ls hl => ?_)
    refine lv_iload_n hx hb dX12_wouldBe_70 rfl (lv_at hl 3 rfl) ?_
    refine lv_if_eq (tgt := 78) hx hb dX12_wouldBe_71 (by decide) (fun c20 => ?_) (fun c20 => ?_)
    · have hX := it_t hX c20
      refine lv_aload_n hx hb dX12_wouldBe_78 rfl (lv_at hl 1 rfl) ?_
      refine gf_40_15 hx hb htg hown hK hW q150 dX12_wouldBe_79 ?_
      refine lv_iload_n hx hb dX12_wouldBe_82 rfl (lv_at hl 2 rfl) ?_
      obtain ⟨g21, hX⟩ := gd_go hX
      refine al_115 hx hb hK hW g21 dX12_wouldBe_83 ?_
      refine lv_aload_n hx hb dX12_wouldBe_84 rfl (lv_at hl 1 rfl) ?_
      refine gf_40_14 hx hb htg hown hK hW q149 dX12_wouldBe_85 ?_
      refine lv_iload_n hx hb dX12_wouldBe_88 rfl (lv_at hl 2 rfl) ?_
      refine al_114 hx hb hK hW g21 dX12_wouldBe_89 ?_
      refine lv_iconst (v := (2 : Int32)) hx hb dX12_wouldBe_90 (by decide) ?_
      refine lv_icmp_ne (tgt := 98) hx hb dX12_wouldBe_91 (by decide) (fun c22 => ?_) (fun c22 => ?_)
      · have hX := it_f hX c22
        refine lv_iconst (v := (1 : Int32)) hx hb dX12_wouldBe_98 (by decide) ?_
        exact J_99 _ _ _ _ _ _ _ _ hW hS (lv_sub hl [1, 2, 3, 0] rfl) hX
      · have hX := it_t hX c22
        refine lv_iconst (v := (2 : Int32)) hx hb dX12_wouldBe_94 (by decide) ?_
        refine lv_goto (tgt := 99) hx hb dX12_wouldBe_95 (by decide) ?_
        exact J_99 _ _ _ _ _ _ _ _ hW hS (lv_sub hl [1, 2, 3, 0] rfl) hX
    · have hX := it_f hX c20
      refine lv_iconst (v := (0 : Int32)) hx hb dX12_wouldBe_74 (by decide) ?_
      refine lv_goto (tgt := 100) hx hb dX12_wouldBe_75 (by decide) ?_
      exact J_100 _ _ _ _ _ _ _ hW hS (lv_sub hl [1, 2, 3, 0] rfl) hX
  have J_47 : ∀ (x2 : Int32) (y : Mem) (H : Heap) (locs : List Loc) (ls : Array Slot), Wh G x y H → va_S (gF G) s.heap H locs → lv_has ls 5 [(0, .ref (gA G 40 0 0)), (1, .int p0), (2, .int x2)] → m_X12_wouldBe_j47 p0 x2 y = some r → W p l e (headSpec WS_X12_wouldBe RM_X12_wouldBe).room s m ([.ref (gA G 40 0 0), .int p0] : List Value).toArray below meth c H locs 0 0 (MQ below (Qi G x r.2 r.1) ([.ref (gA G 40 0 0), .int p0] : List Value).toArray s 0 0 (gF G)) (F0 m 47 ls []) := by
    intro x2 y H locs ls hW hS hl hX
    unfold m_X12_wouldBe_j47 at hX
    refine lv_iload_n hx hb dX12_wouldBe_47 rfl (lv_at hl 2 rfl) ?_
    refine lv_if_eq (tgt := 63) hx hb dX12_wouldBe_48 (by decide) (fun c16 => ?_) (fun c16 => ?_)
    · have hX := it_t hX c16
      refine lv_aload_n hx hb dX12_wouldBe_63 rfl (lv_at hl 0 rfl) ?_
      refine gf_40_13 hx hb htg hown hK hW q148 dX12_wouldBe_64 ?_
      refine lv_iload_n hx hb dX12_wouldBe_67 rfl (lv_at hl 1 rfl) ?_
      obtain ⟨g17, hX⟩ := gd_go hX
      refine al_113 hx hb hK hW g17 dX12_wouldBe_68 ?_
      exact J_69 _ _ _ _ _ _ hW hS (lv_sub hl [0, 1, 2] rfl) hX
    · have hX := it_f hX c16
      refine lv_aload_n hx hb dX12_wouldBe_51 rfl (lv_at hl 0 rfl) ?_
      refine gf_40_12 hx hb htg hown hK hW q147 dX12_wouldBe_52 ?_
      refine lv_bipush (v := (30 : Int32)) hx hb dX12_wouldBe_55 (by decide) ?_
      refine lv_iload_n hx hb dX12_wouldBe_57 rfl (lv_at hl 1 rfl) ?_
      refine lv_imul hx hb dX12_wouldBe_58 ?_
      obtain ⟨g18, hX⟩ := gd_go hX
      refine al_112 hx hb hK hW g18 dX12_wouldBe_59 ?_
      refine lv_goto (tgt := 69) hx hb dX12_wouldBe_60 (by decide) ?_
      exact J_69 _ _ _ _ _ _ hW hS (lv_sub hl [0, 1, 2] rfl) hX
  have J_27 : ∀ (s0 : Int32) (y : Mem) (H : Heap) (locs : List Loc) (ls : Array Slot), Wh G x y H → va_S (gF G) s.heap H locs → lv_has ls 5 [(0, .ref (gA G 40 0 0)), (1, .int p0)] → m_X12_wouldBe_j27 p0 s0 y = some r → W p l e (headSpec WS_X12_wouldBe RM_X12_wouldBe).room s m ([.ref (gA G 40 0 0), .int p0] : List Value).toArray below meth c H locs 0 0 (MQ below (Qi G x r.2 r.1) ([.ref (gA G 40 0 0), .int p0] : List Value).toArray s 0 0 (gF G)) (F0 m 27 ls [.int s0]) := by
    intro s0 y H locs ls hW hS hl hX
    unfold m_X12_wouldBe_j27 at hX
    refine lv_topi (fun x2_9 e9 => ?_)
    have hX := lt_go hX e9
    refine lv_istore_n (lv' := [(2, .int x2_9), (0, .ref (gA G 40 0 0)), (1, .int p0)]) hx hb dX12_wouldBe_27 rfl hl (by decide) rfl (fun ls hl => ?_)
    refine lv_iload_n hx hb dX12_wouldBe_28 rfl (lv_at hl 0 rfl) ?_
    refine lv_if_eq (tgt := 47) hx hb dX12_wouldBe_29 (by decide) (fun c10 => ?_) (fun c10 => ?_)
    · have hX := it_t hX c10
      exact J_47 _ _ _ _ _ hW hS (lv_sub hl [1, 2, 0] rfl) hX
    · have hX := it_f hX c10
      refine lv_aload_n hx hb dX12_wouldBe_32 rfl (lv_at hl 1 rfl) ?_
      refine gf_40_11 hx hb htg hown hK hW q146 dX12_wouldBe_33 ?_
      refine lv_iload_n hx hb dX12_wouldBe_36 rfl (lv_at hl 2 rfl) ?_
      obtain ⟨g11, hX⟩ := gd_go hX
      refine al_111 hx hb hK hW g11 dX12_wouldBe_37 ?_
      refine lv_if_ne (tgt := 47) hx hb dX12_wouldBe_38 (by decide) (fun c12 => ?_) (fun c12 => ?_)
      · have hX := it_f hX c12
        exact J_47 _ _ _ _ _ hW hS (lv_sub hl [1, 2, 0] rfl) hX
      · have hX := it_t hX c12
        refine lv_aload_n hx hb dX12_wouldBe_41 rfl (lv_at hl 1 rfl) ?_
        refine lv_iconst (v := (2 : Int32)) hx hb dX12_wouldBe_42 (by decide) ?_
        obtain ⟨r14, y15, h13, hX⟩ := bd2_go hX
        refine k_X12_fails hx hb hml hown htg hK hW hS h13 q407 hl.1 (Nat.le_of_ble_eq_true rfl) (Nat.le_of_ble_eq_true rfl) (Nat.le_of_ble_eq_true rfl) ⟨Nat.zero_le _, Nat.zero_le _⟩ dX12_wouldBe_43 (fun H locs hW hS => ?_)
        have hX := Option.some.inj hX
        subst hX
        exact rt_i hx hb hr hlocks hW hS dX12_wouldBe_46
  refine lv_iload_n hx hb dX12_wouldBe_0 rfl (lv_at hl 1 rfl) ?_
  obtain ⟨r2, h1, hX⟩ := bd_go hX
  refine k_X12_isArm hx hb hml hown htg hK hW hS h1 q404 hl.1 (Nat.le_of_ble_eq_true rfl) (Nat.le_of_ble_eq_true rfl) (Nat.le_of_ble_eq_true rfl) ⟨Nat.zero_le _, Nat.zero_le _⟩ dX12_wouldBe_1 (fun H locs hW hS => ?_)
  refine lv_if_ne (tgt := 13) hx hb dX12_wouldBe_4 (by decide) (fun c3 => ?_) (fun c3 => ?_)
  · have hX := it_f hX c3
    refine lv_aload_n hx hb dX12_wouldBe_13 rfl (lv_at hl 0 rfl) ?_
    refine gf_40_14 hx hb htg hown hK hW q149 dX12_wouldBe_14 ?_
    refine lv_iload_n hx hb dX12_wouldBe_17 rfl (lv_at hl 1 rfl) ?_
    obtain ⟨g4, hX⟩ := gd_go hX
    refine al_114 hx hb hK hW g4 dX12_wouldBe_18 ?_
    refine lv_if_ne (tgt := 26) hx hb dX12_wouldBe_19 (by decide) (fun c5 => ?_) (fun c5 => ?_)
    · have hX := it_f hX c5
      refine lv_iconst (v := (0 : Int32)) hx hb dX12_wouldBe_26 (by decide) ?_
      exact J_27 _ _ _ _ _ hW hS (lv_sub hl [0, 1] rfl) hX
    · have hX := it_t hX c5
      refine lv_iconst (v := (1 : Int32)) hx hb dX12_wouldBe_22 (by decide) ?_
      refine lv_goto (tgt := 27) hx hb dX12_wouldBe_23 (by decide) ?_
      exact J_27 _ _ _ _ _ hW hS (lv_sub hl [0, 1] rfl) hX
  · have hX := it_t hX c3
    refine lv_aload_n hx hb dX12_wouldBe_7 rfl (lv_at hl 0 rfl) ?_
    refine lv_iconst (v := (1 : Int32)) hx hb dX12_wouldBe_8 (by decide) ?_
    obtain ⟨r7, y8, h6, hX⟩ := bd2_go hX
    refine k_X12_fails hx hb hml hown htg hK hW hS h6 q407 hl.1 (Nat.le_of_ble_eq_true rfl) (Nat.le_of_ble_eq_true rfl) (Nat.le_of_ble_eq_true rfl) ⟨Nat.zero_le _, Nat.zero_le _⟩ dX12_wouldBe_9 (fun H locs hW hS => ?_)
    have hX := Option.some.inj hX
    subst hX
    exact rt_i hx hb hr hlocks hW hS dX12_wouldBe_12
set_option maxHeartbeats 4000000 in
theorem k_X12_wouldBe {p : Program} {l : Launch} {e : Env} {R : Room} {s : State} {m : MethodId} {args : Array Value} {below : List Frame} {meth : Method} {c : Code} {H : Heap} {locs : List Loc} {cells slots : Nat} {Q : State → Prop} {cc : ByteArray} {pc nL idx : Nat} {own : String} {ls : Array Slot} {rest : List Value} {G : Geo} {x y : Mem} {H0 : Heap} {p0 : Int32} {v : Int32} {z : Mem} (hx : p.tables.exec = Jvm.exec) (hb : c.code = cc) (hml : c.maxLocals = nL) (hown : s.vm.findClass own = some m.cls) (htg : ∀ w ∈ wsG, w.before args s = true) (hK : Kt G s) (hW : Wh G x y H) (hS : va_S (gF G) H0 H locs) (h : m_X12_wouldBe p0 y = some (v, z)) (hlk : Cond.methodLink own idx yX12_wouldBe ∈ wsG) (hn : ls.size = nL) (hr : (rest.map fun v => v.category).sum ≤ 8) (hR1 : 5 + 1 ≤ R.frames) (hR2 : 8 + (5 + 11) + 116 ≤ R.locals) (hf : cells ≤ R.cells ∧ slots ≤ R.slots) (hdg : decode cc pc = .ok (.invokevirtual idx, 3)) (kk : ∀ (H1 : Heap) (locs1 : List Loc), Wh G x z H1 → va_S (gF G) H0 H1 locs1 → W p l e R s m args below meth c H1 locs1 cells slots Q (F0 m (pc + 3) ls (.int v :: rest))) : W p l e R s m args below meth c H locs cells slots Q (F0 m pc ls (.int p0 :: .ref (gA G 40 0 0) :: rest)) := by
  refine va_calli (va_runV (As := [.int p0]) (rest := rest) ⟨hx, hb, hml, hown, htg⟩ (c_X12_wouldBe l G x y p0 (v, z) h) (cwV 1 htg (gd_V hlk q932 q933 q5 q934) rfl rfl rfl (by decide +kernel) ⟨hR1, hR2⟩) ⟨fun a U g mk q => ⟨q.1, q.2.1.calling, q.2.2⟩, rc_40 hK hW, fun U hU hW9 => ⟨rfl, hK.warm hW9, by rw [hU]; exact hW⟩⟩ rfl rfl hn rfl (lv_room hr) hdg hf) hS (fun _ _ h9 => h9) (fun _ h9 => h9) ?_
  intro r9 u t H1 locs1 ht hvm hw hB hz1 hk1 hS1
  replace hB : Wh G x z t.heap := hB
  rw [ht] at hB
  replace hw : r9 = v := hw
  subst hw
  exact kk H1 locs1 hB hS1
/-! METHOD X12_zone -/
def m_X12_zone_j155 (p0 : Int32) (p1 : Int32) (k125 : Int32 → Int32 → Mem → Option (Int32 × Mem)) (x4 : Int32) (s0 : Int32) (s1 : Int32) (y : Mem) : Option (Int32 × Mem) :=
  lt_ (s1 ||| s0) fun x3_39 => lt_ (x4 + (1 : Int32)) fun x4_40 => k125 x3_39 x4_40 y
def m_X12_zone_b125 (p0 : Int32) (p1 : Int32) (k125 : Int32 → Int32 → Mem → Option (Int32 × Mem)) (x3 : Int32) (x4 : Int32) (y : Mem) : Option (Int32 × Mem) :=
  if (3 : Int32) ≤ x4 then (some (x3, y)) else (bd_ (m_X12_holds x4 y) fun r33 => bd_ (m_X12_conflicts p0 y) fun r35 => if (r33 &&& r35) = 0 then (m_X12_zone_j155 p0 p1 k125 x4 (0 : Int32) x3 y) else (m_X12_zone_j155 p0 p1 k125 x4 (shl32 (1 : Int32) x4) x3 y))
def m_X12_zone_l125 (p0 : Int32) (p1 : Int32) : Nat → Int32 → Int32 → Mem → Option (Int32 × Mem)
  | 0, _, _, _ => none
  | n + 1, x3, x4, y => m_X12_zone_b125 p0 p1 (m_X12_zone_l125 p0 p1 n) x3 x4 y
def m_X12_zone_j112 (p0 : Int32) (p1 : Int32) (k83 : Int32 → Int32 → Mem → Option (Int32 × Mem)) (x4 : Int32) (s0 : Int32) (s1 : Int32) (y : Mem) : Option (Int32 × Mem) :=
  lt_ (s1 ||| s0) fun x3_37 => lt_ (x4 + (1 : Int32)) fun x4_38 => k83 x3_37 x4_38 y
def m_X12_zone_b83 (p0 : Int32) (p1 : Int32) (k83 : Int32 → Int32 → Mem → Option (Int32 × Mem)) (x3 : Int32) (x4 : Int32) (y : Mem) : Option (Int32 × Mem) :=
  if (3 : Int32) ≤ x4 then (some (x3, y)) else (gd_ x4 3 (bd_ (m_X12_has (y 110 0 0 x4.toNatClampNeg) p0) fun r29 => if r29 = 0 then (m_X12_zone_j112 p0 p1 k83 x4 (0 : Int32) x3 y) else (m_X12_zone_j112 p0 p1 k83 x4 (shl32 (1 : Int32) x4) x3 y)))
def m_X12_zone_l83 (p0 : Int32) (p1 : Int32) : Nat → Int32 → Int32 → Mem → Option (Int32 × Mem)
  | 0, _, _, _ => none
  | n + 1, x3, x4, y => m_X12_zone_b83 p0 p1 (m_X12_zone_l83 p0 p1 n) x3 x4 y
def m_X12_zone (p0 : Int32) (p1 : Int32) (y : Mem) : Option (Int32 × Mem) :=
  bd_ (m_X12_isZone p0) fun r2 => if r2 = 0 then (bd2_ (m_X12_fails (1 : Int32) y) fun r24 y25 => some (r24, y25)) else (bd_ (m_X12_isBetween p1 (0 : Int32) (4 : Int32)) fun r5 => if r5 = 0 then (bd2_ (m_X12_fails (2 : Int32) y) fun r21 y22 => some (r21, y22)) else (lt_ (up4 y 40 0 0 0 (0 : Int32)) fun y7 => lt_ (0 : Int32) fun x3_8 => if p1 = (0 : Int32) then (bd_ (m_X12_holderOf p0 y7) fun r11 => some (r11, y7)) else if p1 = (1 : Int32) then (bd_ (m_X12_conflicts p0 y7) fun r14 => some (r14, y7)) else if p1 = (2 : Int32) then (lt_ (0 : Int32) fun x4_16 => m_X12_zone_l83 p0 p1 FU x3_8 x4_16 y7) else if p1 = (3 : Int32) then (lt_ (0 : Int32) fun x4_18 => m_X12_zone_l125 p0 p1 FU x3_8 x4_18 y7) else (gd_ p0 8 (some ((y7 102 0 0 p0.toNatClampNeg), y7)))))
abbrev WS_X12_zone : List Cond := .code yX12_zone cX12_zone 5 (some .int) :: wsG
abbrev RM_X12_zone : Room := { frames := 4, cells := 0, slots := 0, locals := 89 }
set_option maxHeartbeats 4000000 in
set_option maxRecDepth 100000 in
theorem c_X12_zone (l : Launch) (G : Geo) (x y : Mem) (p0 : Int32) (p1 : Int32) (r : (Int32 × Mem)) (h : m_X12_zone p0 p1 y = some r) : Met l yX12_zone WS_X12_zone RM_X12_zone (Pw G x y [.ref (gA G 40 0 0), .int p0, .int p1]) (Qi G x r.2 r.1) 0 0 (gF G) := by
  refine Met.ofW (cc := cX12_zone) (maxL := 5) (ret := (some .int)) (by decide) rfl ?_
  intro p e s m args below meth c s₁ B hml hv
  obtain ⟨rfl, hK, hW⟩ := hv
  have hx := B.exec
  have hb := B.bytes
  have hr := B.returns
  have hts := atoms_spec (ws := WS_X12_zone) B.pre
  have htg : ∀ w ∈ wsG, w.before _ s = true := fun w h => hts w (List.mem_cons_of_mem _ h)
  have hown : s.vm.findClass RX12 = some m.cls := findClass_of_methodNamed B.named
  have hlocks := B.notSynchronized
  have hS : va_S (gF G) s.heap s.heap [] := va_S.rf
  have hl := lv_entry ([.ref (gA G 40 0 0), .int p0, .int p1]) (n := 5) (Nat.le_of_ble_eq_true rfl)
  rw [lg_entry_eq]
  generalize (lg_sl ([.ref (gA G 40 0 0), .int p0, .int p1]) ++ List.replicate (5 - (lg_sl ([.ref (gA G 40 0 0), .int p0, .int p1])).length) Slot.unset).toArray = ls at hl ⊢
  have hl : lv_has ls 5 [(0, .ref (gA G 40 0 0)), (1, .int p0), (2, .int p1)] := hl
  have hX := h
  unfold m_X12_zone at hX
  have J_155 : ∀ (k125 : Int32 → Int32 → Mem → Option (Int32 × Mem)) (hk125 : ∀ (x3 : Int32) (x4 : Int32) (y : Mem) (H : Heap) (locs : List Loc) (ls : Array Slot), Wh G x y H → va_S (gF G) s.heap H locs → lv_has ls 5 [(0, .ref (gA G 40 0 0)), (1, .int p0), (3, .int x3), (4, .int x4)] → k125 x3 x4 y = some r → W p l e (headSpec WS_X12_zone RM_X12_zone).room s m ([.ref (gA G 40 0 0), .int p0, .int p1] : List Value).toArray below meth c H locs 0 0 (MQ below (Qi G x r.2 r.1) ([.ref (gA G 40 0 0), .int p0, .int p1] : List Value).toArray s 0 0 (gF G)) (F0 m 125 ls [])), ∀ (x4 : Int32) (s0 : Int32) (s1 : Int32) (y : Mem) (H : Heap) (locs : List Loc) (ls : Array Slot), Wh G x y H → va_S (gF G) s.heap H locs → lv_has ls 5 [(0, .ref (gA G 40 0 0)), (1, .int p0), (4, .int x4)] → m_X12_zone_j155 p0 p1 k125 x4 s0 s1 y = some r → W p l e (headSpec WS_X12_zone RM_X12_zone).room s m ([.ref (gA G 40 0 0), .int p0, .int p1] : List Value).toArray below meth c H locs 0 0 (MQ below (Qi G x r.2 r.1) ([.ref (gA G 40 0 0), .int p0, .int p1] : List Value).toArray s 0 0 (gF G)) (F0 m 155 ls [.int s0, .int s1]) := by
    intro k125 hk125 x4 s0 s1 y H locs ls hW hS hl hX
    unfold m_X12_zone_j155 at hX
    refine lv_ior hx hb dX12_zone_155 ?_
    refine lv_topi (fun x3_39 e9 => ?_)
    have hX := lt_go hX e9
    refine lv_istore_n (lv' := [(3, .int x3_39), (0, .ref (gA G 40 0 0)), (1, .int p0), (4, .int x4)]) hx hb dX12_zone_156 rfl hl (by decide) rfl (fun ls hl => ?_)
    obtain ⟨x4_40, e9⟩ : ∃ w : Int32, w = (x4 + (1 : Int32)) := ⟨_, rfl⟩
    have hX := lt_go hX e9
    refine lv_iinc (v := x4_40) (lv' := [(4, .int x4_40), (3, .int x3_39), (0, .ref (gA G 40 0 0)), (1, .int p0)]) hx hb dX12_zone_157 hl (k := 3) rfl (by rw [e9]; rfl) (by decide) rfl (fun ls hl => ?_)
    refine lv_goto (tgt := 125) hx hb dX12_zone_160 (by decide) ?_
    exact hk125 _ _ _ _ _ _ hW hS (lv_sub hl [2, 3, 1, 0] rfl) hX
  have B_125 : ∀ (k125 : Int32 → Int32 → Mem → Option (Int32 × Mem)) (hk125 : ∀ (x3 : Int32) (x4 : Int32) (y : Mem) (H : Heap) (locs : List Loc) (ls : Array Slot), Wh G x y H → va_S (gF G) s.heap H locs → lv_has ls 5 [(0, .ref (gA G 40 0 0)), (1, .int p0), (3, .int x3), (4, .int x4)] → k125 x3 x4 y = some r → W p l e (headSpec WS_X12_zone RM_X12_zone).room s m ([.ref (gA G 40 0 0), .int p0, .int p1] : List Value).toArray below meth c H locs 0 0 (MQ below (Qi G x r.2 r.1) ([.ref (gA G 40 0 0), .int p0, .int p1] : List Value).toArray s 0 0 (gF G)) (F0 m 125 ls [])), ∀ (x3 : Int32) (x4 : Int32) (y : Mem) (H : Heap) (locs : List Loc) (ls : Array Slot), Wh G x y H → va_S (gF G) s.heap H locs → lv_has ls 5 [(0, .ref (gA G 40 0 0)), (1, .int p0), (3, .int x3), (4, .int x4)] → m_X12_zone_b125 p0 p1 k125 x3 x4 y = some r → W p l e (headSpec WS_X12_zone RM_X12_zone).room s m ([.ref (gA G 40 0 0), .int p0, .int p1] : List Value).toArray below meth c H locs 0 0 (MQ below (Qi G x r.2 r.1) ([.ref (gA G 40 0 0), .int p0, .int p1] : List Value).toArray s 0 0 (gF G)) (F0 m 125 ls []) := by
    intro k125 hk125 x3 x4 y H locs ls hW hS hl hX
    unfold m_X12_zone_b125 at hX
    refine lv_iload hx hb dX12_zone_125 (lv_at hl 3 rfl) ?_
    refine lv_iconst (v := (3 : Int32)) hx hb dX12_zone_127 (by decide) ?_
    refine lv_icmp_ge (tgt := 163) hx hb dX12_zone_128 (by decide) (fun c31 => ?_) (fun c31 => ?_)
    · have hX := it_t hX c31
      refine lv_iload_n hx hb dX12_zone_163 rfl (lv_at hl 2 rfl) ?_
      have hX := Option.some.inj hX
      subst hX
      exact rt_i hx hb hr hlocks hW hS dX12_zone_164
    · have hX := it_f hX c31
      refine lv_iload_n hx hb dX12_zone_131 rfl (lv_at hl 2 rfl) ?_
      refine lv_aload_n hx hb dX12_zone_132 rfl (lv_at hl 0 rfl) ?_
      refine lv_iload hx hb dX12_zone_133 (lv_at hl 3 rfl) ?_
      obtain ⟨r33, h32, hX⟩ := bd_go hX
      refine k_X12_holds hx hb hml hown htg hK hW hS h32 q326 hl.1 (Nat.le_of_ble_eq_true rfl) (Nat.le_of_ble_eq_true rfl) (Nat.le_of_ble_eq_true rfl) ⟨Nat.zero_le _, Nat.zero_le _⟩ dX12_zone_135 (fun H locs hW hS => ?_)
      refine lv_aload_n hx hb dX12_zone_138 rfl (lv_at hl 0 rfl) ?_
      refine lv_iload_n hx hb dX12_zone_139 rfl (lv_at hl 1 rfl) ?_
      obtain ⟨r35, h34, hX⟩ := bd_go hX
      refine k_X12_conflicts hx hb hml hown htg hK hW hS h34 q490 hl.1 (Nat.le_of_ble_eq_true rfl) (Nat.le_of_ble_eq_true rfl) (Nat.le_of_ble_eq_true rfl) ⟨Nat.zero_le _, Nat.zero_le _⟩ dX12_zone_140 (fun H locs hW hS => ?_)
      refine lv_iand hx hb dX12_zone_143 ?_
      refine lv_if_eq (tgt := 154) hx hb dX12_zone_144 (by decide) (fun c36 => ?_) (fun c36 => ?_)
      · have hX := it_t hX c36
        refine lv_iconst (v := (0 : Int32)) hx hb dX12_zone_154 (by decide) ?_
        exact J_155 k125 hk125 _ _ _ _ _ _ _ hW hS (lv_sub hl [0, 1, 3] rfl) hX
      · have hX := it_f hX c36
        refine lv_iconst (v := (1 : Int32)) hx hb dX12_zone_147 (by decide) ?_
        refine lv_iload hx hb dX12_zone_148 (lv_at hl 3 rfl) ?_
        refine lv_ishl_ hx hb dX12_zone_150 ?_
        refine lv_goto (tgt := 155) hx hb dX12_zone_151 (by decide) ?_
        exact J_155 k125 hk125 _ _ _ _ _ _ _ hW hS (lv_sub hl [0, 1, 3] rfl) hX
  have L_125 : ∀ (n : Nat), ∀ (x3 : Int32) (x4 : Int32) (y : Mem) (H : Heap) (locs : List Loc) (ls : Array Slot), Wh G x y H → va_S (gF G) s.heap H locs → lv_has ls 5 [(0, .ref (gA G 40 0 0)), (1, .int p0), (3, .int x3), (4, .int x4)] → m_X12_zone_l125 p0 p1 n x3 x4 y = some r → W p l e (headSpec WS_X12_zone RM_X12_zone).room s m ([.ref (gA G 40 0 0), .int p0, .int p1] : List Value).toArray below meth c H locs 0 0 (MQ below (Qi G x r.2 r.1) ([.ref (gA G 40 0 0), .int p0, .int p1] : List Value).toArray s 0 0 (gF G)) (F0 m 125 ls []) := by
    intro n
    induction n with
    | zero => intro x3 x4 y H locs ls hW hS hl hX; exact no_go hX
    | succ n ih => intro x3 x4 y H locs ls hW hS hl hX; exact B_125 _ ih _ _ _ _ _ _ hW hS hl hX
  have J_112 : ∀ (k83 : Int32 → Int32 → Mem → Option (Int32 × Mem)) (hk83 : ∀ (x3 : Int32) (x4 : Int32) (y : Mem) (H : Heap) (locs : List Loc) (ls : Array Slot), Wh G x y H → va_S (gF G) s.heap H locs → lv_has ls 5 [(0, .ref (gA G 40 0 0)), (1, .int p0), (3, .int x3), (4, .int x4)] → k83 x3 x4 y = some r → W p l e (headSpec WS_X12_zone RM_X12_zone).room s m ([.ref (gA G 40 0 0), .int p0, .int p1] : List Value).toArray below meth c H locs 0 0 (MQ below (Qi G x r.2 r.1) ([.ref (gA G 40 0 0), .int p0, .int p1] : List Value).toArray s 0 0 (gF G)) (F0 m 83 ls [])), ∀ (x4 : Int32) (s0 : Int32) (s1 : Int32) (y : Mem) (H : Heap) (locs : List Loc) (ls : Array Slot), Wh G x y H → va_S (gF G) s.heap H locs → lv_has ls 5 [(0, .ref (gA G 40 0 0)), (1, .int p0), (4, .int x4)] → m_X12_zone_j112 p0 p1 k83 x4 s0 s1 y = some r → W p l e (headSpec WS_X12_zone RM_X12_zone).room s m ([.ref (gA G 40 0 0), .int p0, .int p1] : List Value).toArray below meth c H locs 0 0 (MQ below (Qi G x r.2 r.1) ([.ref (gA G 40 0 0), .int p0, .int p1] : List Value).toArray s 0 0 (gF G)) (F0 m 112 ls [.int s0, .int s1]) := by
    intro k83 hk83 x4 s0 s1 y H locs ls hW hS hl hX
    unfold m_X12_zone_j112 at hX
    refine lv_ior hx hb dX12_zone_112 ?_
    refine lv_topi (fun x3_37 e9 => ?_)
    have hX := lt_go hX e9
    refine lv_istore_n (lv' := [(3, .int x3_37), (0, .ref (gA G 40 0 0)), (1, .int p0), (4, .int x4)]) hx hb dX12_zone_113 rfl hl (by decide) rfl (fun ls hl => ?_)
    obtain ⟨x4_38, e9⟩ : ∃ w : Int32, w = (x4 + (1 : Int32)) := ⟨_, rfl⟩
    have hX := lt_go hX e9
    refine lv_iinc (v := x4_38) (lv' := [(4, .int x4_38), (3, .int x3_37), (0, .ref (gA G 40 0 0)), (1, .int p0)]) hx hb dX12_zone_114 hl (k := 3) rfl (by rw [e9]; rfl) (by decide) rfl (fun ls hl => ?_)
    refine lv_goto (tgt := 83) hx hb dX12_zone_117 (by decide) ?_
    exact hk83 _ _ _ _ _ _ hW hS (lv_sub hl [2, 3, 1, 0] rfl) hX
  have B_83 : ∀ (k83 : Int32 → Int32 → Mem → Option (Int32 × Mem)) (hk83 : ∀ (x3 : Int32) (x4 : Int32) (y : Mem) (H : Heap) (locs : List Loc) (ls : Array Slot), Wh G x y H → va_S (gF G) s.heap H locs → lv_has ls 5 [(0, .ref (gA G 40 0 0)), (1, .int p0), (3, .int x3), (4, .int x4)] → k83 x3 x4 y = some r → W p l e (headSpec WS_X12_zone RM_X12_zone).room s m ([.ref (gA G 40 0 0), .int p0, .int p1] : List Value).toArray below meth c H locs 0 0 (MQ below (Qi G x r.2 r.1) ([.ref (gA G 40 0 0), .int p0, .int p1] : List Value).toArray s 0 0 (gF G)) (F0 m 83 ls [])), ∀ (x3 : Int32) (x4 : Int32) (y : Mem) (H : Heap) (locs : List Loc) (ls : Array Slot), Wh G x y H → va_S (gF G) s.heap H locs → lv_has ls 5 [(0, .ref (gA G 40 0 0)), (1, .int p0), (3, .int x3), (4, .int x4)] → m_X12_zone_b83 p0 p1 k83 x3 x4 y = some r → W p l e (headSpec WS_X12_zone RM_X12_zone).room s m ([.ref (gA G 40 0 0), .int p0, .int p1] : List Value).toArray below meth c H locs 0 0 (MQ below (Qi G x r.2 r.1) ([.ref (gA G 40 0 0), .int p0, .int p1] : List Value).toArray s 0 0 (gF G)) (F0 m 83 ls []) := by
    intro k83 hk83 x3 x4 y H locs ls hW hS hl hX
    unfold m_X12_zone_b83 at hX
    refine lv_iload hx hb dX12_zone_83 (lv_at hl 3 rfl) ?_
    refine lv_iconst (v := (3 : Int32)) hx hb dX12_zone_85 (by decide) ?_
    refine lv_icmp_ge (tgt := 120) hx hb dX12_zone_86 (by decide) (fun c26 => ?_) (fun c26 => ?_)
    · have hX := it_t hX c26
      refine lv_iload_n hx hb dX12_zone_120 rfl (lv_at hl 2 rfl) ?_
      have hX := Option.some.inj hX
      subst hX
      exact rt_i hx hb hr hlocks hW hS dX12_zone_121
    · have hX := it_f hX c26
      refine lv_iload_n hx hb dX12_zone_89 rfl (lv_at hl 2 rfl) ?_
      refine lv_aload_n hx hb dX12_zone_90 rfl (lv_at hl 0 rfl) ?_
      refine gf_40_10 hx hb htg hown hK hW q145 dX12_zone_91 ?_
      refine lv_iload hx hb dX12_zone_94 (lv_at hl 3 rfl) ?_
      obtain ⟨g27, hX⟩ := gd_go hX
      refine al_110 hx hb hK hW g27 dX12_zone_96 ?_
      refine lv_iload_n hx hb dX12_zone_97 rfl (lv_at hl 1 rfl) ?_
      obtain ⟨r29, h28, hX⟩ := bd_go hX
      refine k_X12_has hx hb hml hown htg hK hW hS h28 q338 hl.1 (Nat.le_of_ble_eq_true rfl) (Nat.le_of_ble_eq_true rfl) (Nat.le_of_ble_eq_true rfl) ⟨Nat.zero_le _, Nat.zero_le _⟩ dX12_zone_98 (fun H locs hW hS => ?_)
      refine lv_if_eq (tgt := 111) hx hb dX12_zone_101 (by decide) (fun c30 => ?_) (fun c30 => ?_)
      · have hX := it_t hX c30
        refine lv_iconst (v := (0 : Int32)) hx hb dX12_zone_111 (by decide) ?_
        exact J_112 k83 hk83 _ _ _ _ _ _ _ hW hS (lv_sub hl [0, 1, 3] rfl) hX
      · have hX := it_f hX c30
        refine lv_iconst (v := (1 : Int32)) hx hb dX12_zone_104 (by decide) ?_
        refine lv_iload hx hb dX12_zone_105 (lv_at hl 3 rfl) ?_
        refine lv_ishl_ hx hb dX12_zone_107 ?_
        refine lv_goto (tgt := 112) hx hb dX12_zone_108 (by decide) ?_
        exact J_112 k83 hk83 _ _ _ _ _ _ _ hW hS (lv_sub hl [0, 1, 3] rfl) hX
  have L_83 : ∀ (n : Nat), ∀ (x3 : Int32) (x4 : Int32) (y : Mem) (H : Heap) (locs : List Loc) (ls : Array Slot), Wh G x y H → va_S (gF G) s.heap H locs → lv_has ls 5 [(0, .ref (gA G 40 0 0)), (1, .int p0), (3, .int x3), (4, .int x4)] → m_X12_zone_l83 p0 p1 n x3 x4 y = some r → W p l e (headSpec WS_X12_zone RM_X12_zone).room s m ([.ref (gA G 40 0 0), .int p0, .int p1] : List Value).toArray below meth c H locs 0 0 (MQ below (Qi G x r.2 r.1) ([.ref (gA G 40 0 0), .int p0, .int p1] : List Value).toArray s 0 0 (gF G)) (F0 m 83 ls []) := by
    intro n
    induction n with
    | zero => intro x3 x4 y H locs ls hW hS hl hX; exact no_go hX
    | succ n ih => intro x3 x4 y H locs ls hW hS hl hX; exact B_83 _ ih _ _ _ _ _ _ hW hS hl hX
  refine lv_iload_n hx hb dX12_zone_0 rfl (lv_at hl 1 rfl) ?_
  obtain ⟨r2, h1, hX⟩ := bd_go hX
  refine k_X12_isZone hx hb hml hown htg hK hW hS h1 q316 hl.1 (Nat.le_of_ble_eq_true rfl) (Nat.le_of_ble_eq_true rfl) (Nat.le_of_ble_eq_true rfl) ⟨Nat.zero_le _, Nat.zero_le _⟩ dX12_zone_1 (fun H locs hW hS => ?_)
  refine lv_if_ne (tgt := 13) hx hb dX12_zone_4 (by decide) (fun c3 => ?_) (fun c3 => ?_)
  · have hX := it_f hX c3
    refine lv_iload_n hx hb dX12_zone_13 rfl (lv_at hl 2 rfl) ?_
    refine lv_iconst (v := (0 : Int32)) hx hb dX12_zone_14 (by decide) ?_
    refine lv_iconst (v := (4 : Int32)) hx hb dX12_zone_15 (by decide) ?_
    obtain ⟨r5, h4, hX⟩ := bd_go hX
    refine k_X12_isBetween hx hb hml hown htg hK hW hS h4 q319 hl.1 (Nat.le_of_ble_eq_true rfl) (Nat.le_of_ble_eq_true rfl) (Nat.le_of_ble_eq_true rfl) ⟨Nat.zero_le _, Nat.zero_le _⟩ dX12_zone_16 (fun H locs hW hS => ?_)
    refine lv_if_ne (tgt := 28) hx hb dX12_zone_19 (by decide) (fun c6 => ?_) (fun c6 => ?_)
    · have hX := it_f hX c6
      refine lv_aload_n hx hb dX12_zone_28 rfl (lv_at hl 0 rfl) ?_
      refine lv_iconst (v := (0 : Int32)) hx hb dX12_zone_29 (by decide) ?_
      refine pf_40_0 hx hb htg hown hK hW hS q311 dX12_zone_30 (fun H locs hW hS => ?_)
      obtain ⟨y7, e9⟩ : ∃ w : Mem, w = (up4 y 40 0 0 0 (0 : Int32)) := ⟨_, rfl⟩
      rw [← e9] at hW
      have hX := lt_go hX e9
      refine lv_iconst (v := (0 : Int32)) hx hb dX12_zone_33 (by decide) ?_
      refine lv_topi (fun x3_8 e9 => ?_)
      have hX := lt_go hX e9
      refine lv_istore_n (lv' := [(3, .int x3_8), (0, .ref (gA G 40 0 0)), (1, .int p0), (2, .int p1)]) hx hb dX12_zone_34 rfl hl (by decide) rfl (fun ls hl => ?_)
      refine lv_iload_n hx hb dX12_zone_35 rfl (lv_at hl 3 rfl) ?_
      by_cases c9 : p1 = (0 : Int32)
      · have hX := it_t hX c9
        refine lv_tsIn (v := (0 : Int32)) (tgt := 68) hx hb dX12_zone_36 c9 rfl (by decide) (by decide) rfl (by decide) ?_
        refine lv_aload_n hx hb dX12_zone_68 rfl (lv_at hl 1 rfl) ?_
        refine lv_iload_n hx hb dX12_zone_69 rfl (lv_at hl 2 rfl) ?_
        obtain ⟨r11, h10, hX⟩ := bd_go hX
        refine k_X12_holderOf hx hb hml hown htg hK hW hS h10 q322 hl.1 (Nat.le_of_ble_eq_true rfl) (Nat.le_of_ble_eq_true rfl) (Nat.le_of_ble_eq_true rfl) ⟨Nat.zero_le _, Nat.zero_le _⟩ dX12_zone_70 (fun H locs hW hS => ?_)
        have hX := Option.some.inj hX
        subst hX
        exact rt_i hx hb hr hlocks hW hS dX12_zone_73
      have hX := it_f hX c9
      by_cases c12 : p1 = (1 : Int32)
      · have hX := it_t hX c12
        refine lv_tsIn (v := (1 : Int32)) (tgt := 74) hx hb dX12_zone_36 c12 rfl (by decide) (by decide) rfl (by decide) ?_
        refine lv_aload_n hx hb dX12_zone_74 rfl (lv_at hl 1 rfl) ?_
        refine lv_iload_n hx hb dX12_zone_75 rfl (lv_at hl 2 rfl) ?_
        obtain ⟨r14, h13, hX⟩ := bd_go hX
        refine k_X12_conflicts hx hb hml hown htg hK hW hS h13 q490 hl.1 (Nat.le_of_ble_eq_true rfl) (Nat.le_of_ble_eq_true rfl) (Nat.le_of_ble_eq_true rfl) ⟨Nat.zero_le _, Nat.zero_le _⟩ dX12_zone_76 (fun H locs hW hS => ?_)
        have hX := Option.some.inj hX
        subst hX
        exact rt_i hx hb hr hlocks hW hS dX12_zone_79
      have hX := it_f hX c12
      by_cases c15 : p1 = (2 : Int32)
      · have hX := it_t hX c15
        refine lv_tsIn (v := (2 : Int32)) (tgt := 80) hx hb dX12_zone_36 c15 rfl (by decide) (by decide) rfl (by decide) ?_
        refine lv_iconst (v := (0 : Int32)) hx hb dX12_zone_80 (by decide) ?_
        refine lv_topi (fun x4_16 e9 => ?_)
        have hX := lt_go hX e9
        refine lv_istore (lv' := [(4, .int x4_16), (3, .int x3_8), (0, .ref (gA G 40 0 0)), (1, .int p0), (2, .int p1)]) hx hb dX12_zone_81 hl (by decide) rfl (fun ls hl => ?_)
        exact L_83 FU _ _ _ _ _ _ hW hS (lv_sub hl [2, 3, 1, 0] rfl) hX
      have hX := it_f hX c15
      by_cases c17 : p1 = (3 : Int32)
      · have hX := it_t hX c17
        refine lv_tsIn (v := (3 : Int32)) (tgt := 122) hx hb dX12_zone_36 c17 rfl (by decide) (by decide) rfl (by decide) ?_
        refine lv_iconst (v := (0 : Int32)) hx hb dX12_zone_122 (by decide) ?_
        refine lv_topi (fun x4_18 e9 => ?_)
        have hX := lt_go hX e9
        refine lv_istore (lv' := [(4, .int x4_18), (3, .int x3_8), (0, .ref (gA G 40 0 0)), (1, .int p0), (2, .int p1)]) hx hb dX12_zone_123 hl (by decide) rfl (fun ls hl => ?_)
        exact L_125 FU _ _ _ _ _ _ hW hS (lv_sub hl [2, 3, 1, 0] rfl) hX
      have hX := it_f hX c17
      refine lv_tsOut (n := 3) (tgt := 165) hx hb dX12_zone_36 (by decide) (fun j hj => match j, hj with | 0, _ => c9 | 1, _ => c12 | 2, _ => c15 | 3, _ => c17 | j + 4, hj => absurd hj (by omega)) (by decide) ?_
      refine lv_aload_n hx hb dX12_zone_165 rfl (lv_at hl 1 rfl) ?_
      refine gf_40_2 hx hb htg hown hK hW q137 dX12_zone_166 ?_
      refine lv_iload_n hx hb dX12_zone_169 rfl (lv_at hl 2 rfl) ?_
      obtain ⟨g19, hX⟩ := gd_go hX
      refine al_102 hx hb hK hW g19 dX12_zone_170 ?_
      have hX := Option.some.inj hX
      subst hX
      exact rt_i hx hb hr hlocks hW hS dX12_zone_171
    · have hX := it_t hX c6
      refine lv_aload_n hx hb dX12_zone_22 rfl (lv_at hl 0 rfl) ?_
      refine lv_iconst (v := (2 : Int32)) hx hb dX12_zone_23 (by decide) ?_
      obtain ⟨r21, y22, h20, hX⟩ := bd2_go hX
      refine k_X12_fails hx hb hml hown htg hK hW hS h20 q407 hl.1 (Nat.le_of_ble_eq_true rfl) (Nat.le_of_ble_eq_true rfl) (Nat.le_of_ble_eq_true rfl) ⟨Nat.zero_le _, Nat.zero_le _⟩ dX12_zone_24 (fun H locs hW hS => ?_)
      have hX := Option.some.inj hX
      subst hX
      exact rt_i hx hb hr hlocks hW hS dX12_zone_27
  · have hX := it_t hX c3
    refine lv_aload_n hx hb dX12_zone_7 rfl (lv_at hl 0 rfl) ?_
    refine lv_iconst (v := (1 : Int32)) hx hb dX12_zone_8 (by decide) ?_
    obtain ⟨r24, y25, h23, hX⟩ := bd2_go hX
    refine k_X12_fails hx hb hml hown htg hK hW hS h23 q407 hl.1 (Nat.le_of_ble_eq_true rfl) (Nat.le_of_ble_eq_true rfl) (Nat.le_of_ble_eq_true rfl) ⟨Nat.zero_le _, Nat.zero_le _⟩ dX12_zone_9 (fun H locs hW hS => ?_)
    have hX := Option.some.inj hX
    subst hX
    exact rt_i hx hb hr hlocks hW hS dX12_zone_12
set_option maxHeartbeats 4000000 in
theorem k_X12_zone {p : Program} {l : Launch} {e : Env} {R : Room} {s : State} {m : MethodId} {args : Array Value} {below : List Frame} {meth : Method} {c : Code} {H : Heap} {locs : List Loc} {cells slots : Nat} {Q : State → Prop} {cc : ByteArray} {pc nL idx : Nat} {own : String} {ls : Array Slot} {rest : List Value} {G : Geo} {x y : Mem} {H0 : Heap} {p0 : Int32} {p1 : Int32} {v : Int32} {z : Mem} (hx : p.tables.exec = Jvm.exec) (hb : c.code = cc) (hml : c.maxLocals = nL) (hown : s.vm.findClass own = some m.cls) (htg : ∀ w ∈ wsG, w.before args s = true) (hK : Kt G s) (hW : Wh G x y H) (hS : va_S (gF G) H0 H locs) (h : m_X12_zone p0 p1 y = some (v, z)) (hlk : Cond.methodLink own idx yX12_zone ∈ wsG) (hn : ls.size = nL) (hr : (rest.map fun v => v.category).sum ≤ 8) (hR1 : 4 + 1 ≤ R.frames) (hR2 : 8 + (5 + 11) + 89 ≤ R.locals) (hf : cells ≤ R.cells ∧ slots ≤ R.slots) (hdg : decode cc pc = .ok (.invokevirtual idx, 3)) (kk : ∀ (H1 : Heap) (locs1 : List Loc), Wh G x z H1 → va_S (gF G) H0 H1 locs1 → W p l e R s m args below meth c H1 locs1 cells slots Q (F0 m (pc + 3) ls (.int v :: rest))) : W p l e R s m args below meth c H locs cells slots Q (F0 m pc ls (.int p1 :: .int p0 :: .ref (gA G 40 0 0) :: rest)) := by
  refine va_calli (va_runV (As := [.int p0, .int p1]) (rest := rest) ⟨hx, hb, hml, hown, htg⟩ (c_X12_zone l G x y p0 p1 (v, z) h) (cwV 2 htg (gd_V hlk q487 q488 q5 q489) rfl rfl rfl (by decide +kernel) ⟨hR1, hR2⟩) ⟨fun a U g mk q => ⟨q.1, q.2.1.calling, q.2.2⟩, rc_40 hK hW, fun U hU hW9 => ⟨rfl, hK.warm hW9, by rw [hU]; exact hW⟩⟩ rfl rfl hn rfl (lv_room hr) hdg hf) hS (fun _ _ h9 => h9) (fun _ h9 => h9) ?_
  intro r9 u t H1 locs1 ht hvm hw hB hz1 hk1 hS1
  replace hB : Wh G x z t.heap := hB
  rw [ht] at hB
  replace hw : r9 = v := hw
  subst hw
  exact kk H1 locs1 hB hS1
