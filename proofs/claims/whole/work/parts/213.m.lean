/-! METHOD X12_reasons -/
def m_X12_reasons (p0 : Int32) (p1 : Int32) (y : Mem) : Option (Int32 × Mem) :=
  lt_ (up4 y 40 0 0 44 p0) fun y1 => lt_ (up4 y1 40 0 0 45 p1) fun y2 => some (p0, y2)
abbrev WS_X12_reasons : List Cond := .code yX12_reasons cX12_reasons 3 (some .int) :: wsG
abbrev RM_X12_reasons : Room := { frames := 0, cells := 0, slots := 0, locals := 0 }
set_option maxHeartbeats 4000000 in
set_option maxRecDepth 100000 in
theorem c_X12_reasons (l : Launch) (G : Geo) (x y : Mem) (p0 : Int32) (p1 : Int32) (r : (Int32 × Mem)) (h : m_X12_reasons p0 p1 y = some r) : Met l yX12_reasons WS_X12_reasons RM_X12_reasons (Pw G x y [.ref (gA G 40 0 0), .int p0, .int p1]) (Qi G x r.2 r.1) 0 0 (gF G) := by
  refine Met.ofW (cc := cX12_reasons) (maxL := 3) (ret := (some .int)) (by decide) rfl ?_
  intro p e s m args below meth c s₁ B hml hv
  obtain ⟨rfl, hK, hW⟩ := hv
  have hx := B.exec
  have hb := B.bytes
  have hr := B.returns
  have hts := atoms_spec (ws := WS_X12_reasons) B.pre
  have htg : ∀ w ∈ wsG, w.before _ s = true := fun w h => hts w (List.mem_cons_of_mem _ h)
  have hown : s.vm.findClass RX12 = some m.cls := findClass_of_methodNamed B.named
  have hlocks := B.notSynchronized
  have hS : va_S (gF G) s.heap s.heap [] := va_S.rf
  have hl := lv_entry ([.ref (gA G 40 0 0), .int p0, .int p1]) (n := 3) (Nat.le_of_ble_eq_true rfl)
  rw [lg_entry_eq]
  generalize (lg_sl ([.ref (gA G 40 0 0), .int p0, .int p1]) ++ List.replicate (3 - (lg_sl ([.ref (gA G 40 0 0), .int p0, .int p1])).length) Slot.unset).toArray = ls at hl ⊢
  have hl : lv_has ls 3 [(0, .ref (gA G 40 0 0)), (1, .int p0), (2, .int p1)] := hl
  have hX := h
  unfold m_X12_reasons at hX
  refine lv_aload_n hx hb dX12_reasons_0 rfl (lv_at hl 0 rfl) ?_
  refine lv_iload_n hx hb dX12_reasons_1 rfl (lv_at hl 1 rfl) ?_
  refine pf_40_44 hx hb htg hown hK hW hS q861 dX12_reasons_2 (fun H locs hW hS => ?_)
  obtain ⟨y1, e9⟩ : ∃ w : Mem, w = (up4 y 40 0 0 44 p0) := ⟨_, rfl⟩
  rw [← e9] at hW
  have hX := lt_go hX e9
  refine lv_aload_n hx hb dX12_reasons_5 rfl (lv_at hl 0 rfl) ?_
  refine lv_iload_n hx hb dX12_reasons_6 rfl (lv_at hl 2 rfl) ?_
  refine pf_40_45 hx hb htg hown hK hW hS q862 dX12_reasons_7 (fun H locs hW hS => ?_)
  obtain ⟨y2, e9⟩ : ∃ w : Mem, w = (up4 y1 40 0 0 45 p1) := ⟨_, rfl⟩
  rw [← e9] at hW
  have hX := lt_go hX e9
  refine lv_iload_n hx hb dX12_reasons_10 rfl (lv_at hl 1 rfl) ?_
  have hX := Option.some.inj hX
  subst hX
  exact rt_i hx hb hr hlocks hW hS dX12_reasons_11
set_option maxHeartbeats 4000000 in
theorem k_X12_reasons {p : Program} {l : Launch} {e : Env} {R : Room} {s : State} {m : MethodId} {args : Array Value} {below : List Frame} {meth : Method} {c : Code} {H : Heap} {locs : List Loc} {cells slots : Nat} {Q : State → Prop} {cc : ByteArray} {pc nL idx : Nat} {own : String} {ls : Array Slot} {rest : List Value} {G : Geo} {x y : Mem} {H0 : Heap} {p0 : Int32} {p1 : Int32} {v : Int32} {z : Mem} (hx : p.tables.exec = Jvm.exec) (hb : c.code = cc) (hml : c.maxLocals = nL) (hown : s.vm.findClass own = some m.cls) (htg : ∀ w ∈ wsG, w.before args s = true) (hK : Kt G s) (hW : Wh G x y H) (hS : va_S (gF G) H0 H locs) (h : m_X12_reasons p0 p1 y = some (v, z)) (hlk : Cond.methodLink own idx yX12_reasons ∈ wsG) (hn : ls.size = nL) (hr : (rest.map fun v => v.category).sum ≤ 8) (hR1 : 0 + 1 ≤ R.frames) (hR2 : 8 + (3 + 11) + 0 ≤ R.locals) (hf : cells ≤ R.cells ∧ slots ≤ R.slots) (hdg : decode cc pc = .ok (.invokevirtual idx, 3)) (kk : ∀ (H1 : Heap) (locs1 : List Loc), Wh G x z H1 → va_S (gF G) H0 H1 locs1 → W p l e R s m args below meth c H1 locs1 cells slots Q (F0 m (pc + 3) ls (.int v :: rest))) : W p l e R s m args below meth c H locs cells slots Q (F0 m pc ls (.int p1 :: .int p0 :: .ref (gA G 40 0 0) :: rest)) := by
  refine va_calli (va_runV (As := [.int p0, .int p1]) (rest := rest) ⟨hx, hb, hml, hown, htg⟩ (c_X12_reasons l G x y p0 p1 (v, z) h) (cwV 2 htg (gd_V hlk q868 q869 q5 q870) rfl rfl rfl (by decide +kernel) ⟨hR1, hR2⟩) ⟨fun a U g mk q => ⟨q.1, q.2.1.calling, q.2.2⟩, rc_40 hK hW, fun U hU hW9 => ⟨rfl, hK.warm hW9, by rw [hU]; exact hW⟩⟩ rfl rfl hn rfl (lv_room hr) hdg hf) hS (fun _ _ h9 => h9) (fun _ h9 => h9) ?_
  intro r9 u t H1 locs1 ht hvm hw hB hz1 hk1 hS1
  replace hB : Wh G x z t.heap := hB
  rw [ht] at hB
  replace hw : r9 = v := hw
  subst hw
  exact kk H1 locs1 hB hS1
/-! METHOD X12_zoneAt -/
def m_X12_zoneAt_b17 (p0 : Int32) (p1 : Int32) (k17 : Int32 → Int32 → Mem → Option Int32) (x3 : Int32) (x4 : Int32) (y : Mem) : Option Int32 :=
  if x4 ≤ p1 then (some ((rem32 x3 (10 : Int32)) - (1 : Int32))) else (lt_ (x3 / (10 : Int32)) fun x3_5 => lt_ (x4 + (-1 : Int32)) fun x4_6 => k17 x3_5 x4_6 y)
def m_X12_zoneAt_l17 (p0 : Int32) (p1 : Int32) : Nat → Int32 → Int32 → Mem → Option Int32
  | 0, _, _, _ => none
  | n + 1, x3, x4, y => m_X12_zoneAt_b17 p0 p1 (m_X12_zoneAt_l17 p0 p1 n) x3 x4 y
def m_X12_zoneAt (p0 : Int32) (p1 : Int32) (y : Mem) : Option Int32 :=
  gd_ p0 30 (lt_ (y 123 0 0 p0.toNatClampNeg) fun x3_2 => lt_ ((y 124 0 0 p0.toNatClampNeg) - (1 : Int32)) fun x4_3 => m_X12_zoneAt_l17 p0 p1 FU x3_2 x4_3 y)
abbrev WS_X12_zoneAt : List Cond := .code yX12_zoneAt cX12_zoneAt 5 (some .int) :: wsG
abbrev RM_X12_zoneAt : Room := { frames := 0, cells := 0, slots := 0, locals := 0 }
set_option maxHeartbeats 4000000 in
set_option maxRecDepth 100000 in
theorem c_X12_zoneAt (l : Launch) (G : Geo) (x y : Mem) (p0 : Int32) (p1 : Int32) (r : Int32) (h : m_X12_zoneAt p0 p1 y = some r) : Met l yX12_zoneAt WS_X12_zoneAt RM_X12_zoneAt (Pw G x y [.ref (gA G 40 0 0), .int p0, .int p1]) (Qi G x y r) 0 0 (gF G) := by
  refine Met.ofW (cc := cX12_zoneAt) (maxL := 5) (ret := (some .int)) (by decide) rfl ?_
  intro p e s m args below meth c s₁ B hml hv
  obtain ⟨rfl, hK, hW⟩ := hv
  have hx := B.exec
  have hb := B.bytes
  have hr := B.returns
  have hts := atoms_spec (ws := WS_X12_zoneAt) B.pre
  have htg : ∀ w ∈ wsG, w.before _ s = true := fun w h => hts w (List.mem_cons_of_mem _ h)
  have hown : s.vm.findClass RX12 = some m.cls := findClass_of_methodNamed B.named
  have hlocks := B.notSynchronized
  have hS : va_S (gF G) s.heap s.heap [] := va_S.rf
  have hl := lv_entry ([.ref (gA G 40 0 0), .int p0, .int p1]) (n := 5) (Nat.le_of_ble_eq_true rfl)
  rw [lg_entry_eq]
  generalize (lg_sl ([.ref (gA G 40 0 0), .int p0, .int p1]) ++ List.replicate (5 - (lg_sl ([.ref (gA G 40 0 0), .int p0, .int p1])).length) Slot.unset).toArray = ls at hl ⊢
  have hl : lv_has ls 5 [(0, .ref (gA G 40 0 0)), (1, .int p0), (2, .int p1)] := hl
  have hX := h
  unfold m_X12_zoneAt at hX
  have B_17 : ∀ (k17 : Int32 → Int32 → Mem → Option Int32) (hk17 : ∀ (x3 : Int32) (x4 : Int32) (y : Mem) (H : Heap) (locs : List Loc) (ls : Array Slot), Wh G x y H → va_S (gF G) s.heap H locs → lv_has ls 5 [(2, .int p1), (3, .int x3), (4, .int x4)] → k17 x3 x4 y = some r → W p l e (headSpec WS_X12_zoneAt RM_X12_zoneAt).room s m ([.ref (gA G 40 0 0), .int p0, .int p1] : List Value).toArray below meth c H locs 0 0 (MQ below (Qi G x y r) ([.ref (gA G 40 0 0), .int p0, .int p1] : List Value).toArray s 0 0 (gF G)) (F0 m 17 ls [])), ∀ (x3 : Int32) (x4 : Int32) (y : Mem) (H : Heap) (locs : List Loc) (ls : Array Slot), Wh G x y H → va_S (gF G) s.heap H locs → lv_has ls 5 [(2, .int p1), (3, .int x3), (4, .int x4)] → m_X12_zoneAt_b17 p0 p1 k17 x3 x4 y = some r → W p l e (headSpec WS_X12_zoneAt RM_X12_zoneAt).room s m ([.ref (gA G 40 0 0), .int p0, .int p1] : List Value).toArray below meth c H locs 0 0 (MQ below (Qi G x y r) ([.ref (gA G 40 0 0), .int p0, .int p1] : List Value).toArray s 0 0 (gF G)) (F0 m 17 ls []) := by
    intro k17 hk17 x3 x4 y H locs ls hW hS hl hX
    unfold m_X12_zoneAt_b17 at hX
    refine lv_iload hx hb dX12_zoneAt_17 (lv_at hl 2 rfl) ?_
    refine lv_iload_n hx hb dX12_zoneAt_19 rfl (lv_at hl 0 rfl) ?_
    refine lv_icmp_le (tgt := 34) hx hb dX12_zoneAt_20 (by decide) (fun c4 => ?_) (fun c4 => ?_)
    · have hX := it_t hX c4
      refine lv_iload_n hx hb dX12_zoneAt_34 rfl (lv_at hl 1 rfl) ?_
      refine lv_bipush (v := (10 : Int32)) hx hb dX12_zoneAt_35 (by decide) ?_
      refine lv_irem_ hx hb dX12_zoneAt_37 (by decide) ?_
      refine lv_iconst (v := (1 : Int32)) hx hb dX12_zoneAt_38 (by decide) ?_
      refine lv_isub hx hb dX12_zoneAt_39 ?_
      have hX := Option.some.inj hX
      subst hX
      exact rt_i hx hb hr hlocks hW hS dX12_zoneAt_40
    · have hX := it_f hX c4
      refine lv_iload_n hx hb dX12_zoneAt_23 rfl (lv_at hl 1 rfl) ?_
      refine lv_bipush (v := (10 : Int32)) hx hb dX12_zoneAt_24 (by decide) ?_
      refine lv_idiv hx hb dX12_zoneAt_26 (by decide) ?_
      refine lv_topi (fun x3_5 e9 => ?_)
      have hX := lt_go hX e9
      refine lv_istore_n (lv' := [(3, .int x3_5), (2, .int p1), (4, .int x4)]) hx hb dX12_zoneAt_27 rfl hl (by decide) rfl (fun ls hl => ?_)
      obtain ⟨x4_6, e9⟩ : ∃ w : Int32, w = (x4 + (-1 : Int32)) := ⟨_, rfl⟩
      have hX := lt_go hX e9
      refine lv_iinc (v := x4_6) (lv' := [(4, .int x4_6), (3, .int x3_5), (2, .int p1)]) hx hb dX12_zoneAt_28 hl (k := 2) rfl (by rw [e9]; rfl) (by decide) rfl (fun ls hl => ?_)
      refine lv_goto (tgt := 17) hx hb dX12_zoneAt_31 (by decide) ?_
      exact hk17 _ _ _ _ _ _ hW hS (lv_sub hl [2, 1, 0] rfl) hX
  have L_17 : ∀ (n : Nat), ∀ (x3 : Int32) (x4 : Int32) (y : Mem) (H : Heap) (locs : List Loc) (ls : Array Slot), Wh G x y H → va_S (gF G) s.heap H locs → lv_has ls 5 [(2, .int p1), (3, .int x3), (4, .int x4)] → m_X12_zoneAt_l17 p0 p1 n x3 x4 y = some r → W p l e (headSpec WS_X12_zoneAt RM_X12_zoneAt).room s m ([.ref (gA G 40 0 0), .int p0, .int p1] : List Value).toArray below meth c H locs 0 0 (MQ below (Qi G x y r) ([.ref (gA G 40 0 0), .int p0, .int p1] : List Value).toArray s 0 0 (gF G)) (F0 m 17 ls []) := by
    intro n
    induction n with
    | zero => intro x3 x4 y H locs ls hW hS hl hX; exact no_go hX
    | succ n ih => intro x3 x4 y H locs ls hW hS hl hX; exact B_17 _ ih _ _ _ _ _ _ hW hS hl hX
  refine lv_aload_n hx hb dX12_zoneAt_0 rfl (lv_at hl 0 rfl) ?_
  refine gf_40_23 hx hb htg hown hK hW q158 dX12_zoneAt_1 ?_
  refine lv_iload_n hx hb dX12_zoneAt_4 rfl (lv_at hl 1 rfl) ?_
  obtain ⟨g1, hX⟩ := gd_go hX
  refine al_123 hx hb hK hW g1 dX12_zoneAt_5 ?_
  refine lv_topi (fun x3_2 e9 => ?_)
  have hX := lt_go hX e9
  refine lv_istore_n (lv' := [(3, .int x3_2), (0, .ref (gA G 40 0 0)), (1, .int p0), (2, .int p1)]) hx hb dX12_zoneAt_6 rfl hl (by decide) rfl (fun ls hl => ?_)
  refine lv_aload_n hx hb dX12_zoneAt_7 rfl (lv_at hl 1 rfl) ?_
  refine gf_40_24 hx hb htg hown hK hW q159 dX12_zoneAt_8 ?_
  refine lv_iload_n hx hb dX12_zoneAt_11 rfl (lv_at hl 2 rfl) ?_
  refine al_124 hx hb hK hW g1 dX12_zoneAt_12 ?_
  refine lv_iconst (v := (1 : Int32)) hx hb dX12_zoneAt_13 (by decide) ?_
  refine lv_isub hx hb dX12_zoneAt_14 ?_
  refine lv_topi (fun x4_3 e9 => ?_)
  have hX := lt_go hX e9
  refine lv_istore (lv' := [(4, .int x4_3), (3, .int x3_2), (0, .ref (gA G 40 0 0)), (1, .int p0), (2, .int p1)]) hx hb dX12_zoneAt_15 hl (by decide) rfl (fun ls hl => ?_)
  exact L_17 FU _ _ _ _ _ _ hW hS (lv_sub hl [4, 1, 0] rfl) hX
set_option maxHeartbeats 4000000 in
theorem k_X12_zoneAt {p : Program} {l : Launch} {e : Env} {R : Room} {s : State} {m : MethodId} {args : Array Value} {below : List Frame} {meth : Method} {c : Code} {H : Heap} {locs : List Loc} {cells slots : Nat} {Q : State → Prop} {cc : ByteArray} {pc nL idx : Nat} {own : String} {ls : Array Slot} {rest : List Value} {G : Geo} {x y : Mem} {H0 : Heap} {p0 : Int32} {p1 : Int32} {v : Int32} (hx : p.tables.exec = Jvm.exec) (hb : c.code = cc) (hml : c.maxLocals = nL) (hown : s.vm.findClass own = some m.cls) (htg : ∀ w ∈ wsG, w.before args s = true) (hK : Kt G s) (hW : Wh G x y H) (hS : va_S (gF G) H0 H locs) (h : m_X12_zoneAt p0 p1 y = some v) (hlk : Cond.methodLink own idx yX12_zoneAt ∈ wsG) (hn : ls.size = nL) (hr : (rest.map fun v => v.category).sum ≤ 8) (hR1 : 0 + 1 ≤ R.frames) (hR2 : 8 + (5 + 11) + 0 ≤ R.locals) (hf : cells ≤ R.cells ∧ slots ≤ R.slots) (hdg : decode cc pc = .ok (.invokevirtual idx, 3)) (kk : ∀ (H1 : Heap) (locs1 : List Loc), Wh G x y H1 → va_S (gF G) H0 H1 locs1 → W p l e R s m args below meth c H1 locs1 cells slots Q (F0 m (pc + 3) ls (.int v :: rest))) : W p l e R s m args below meth c H locs cells slots Q (F0 m pc ls (.int p1 :: .int p0 :: .ref (gA G 40 0 0) :: rest)) := by
  refine va_calli (va_runV (As := [.int p0, .int p1]) (rest := rest) ⟨hx, hb, hml, hown, htg⟩ (c_X12_zoneAt l G x y p0 p1 v h) (cwV 2 htg (gd_V hlk q335 q336 q5 q337) rfl rfl rfl (by decide +kernel) ⟨hR1, hR2⟩) ⟨fun a U g mk q => ⟨q.1, q.2.1.calling, q.2.2⟩, rc_40 hK hW, fun U hU hW9 => ⟨rfl, hK.warm hW9, by rw [hU]; exact hW⟩⟩ rfl rfl hn rfl (lv_room hr) hdg hf) hS (fun _ _ h9 => h9) (fun _ h9 => h9) ?_
  intro r9 u t H1 locs1 ht hvm hw hB hz1 hk1 hS1
  replace hB : Wh G x y t.heap := hB
  rw [ht] at hB
  replace hw : r9 = v := hw
  subst hw
  exact kk H1 locs1 hB hS1
/-! METHOD X12_zoneOf -/
def m_X12_zoneOf (p0 : Int32) (y : Mem) : Option Int32 :=
  gd_ p0 3 (bd_ (m_X12_zoneAt (y 113 0 0 p0.toNatClampNeg) (y 115 0 0 p0.toNatClampNeg) y) fun r3 => some r3)
abbrev WS_X12_zoneOf : List Cond := .code yX12_zoneOf cX12_zoneOf 2 (some .int) :: wsG
abbrev RM_X12_zoneOf : Room := { frames := 1, cells := 0, slots := 0, locals := 24 }
set_option maxHeartbeats 4000000 in
set_option maxRecDepth 100000 in
theorem c_X12_zoneOf (l : Launch) (G : Geo) (x y : Mem) (p0 : Int32) (r : Int32) (h : m_X12_zoneOf p0 y = some r) : Met l yX12_zoneOf WS_X12_zoneOf RM_X12_zoneOf (Pw G x y [.ref (gA G 40 0 0), .int p0]) (Qi G x y r) 0 0 (gF G) := by
  refine Met.ofW (cc := cX12_zoneOf) (maxL := 2) (ret := (some .int)) (by decide) rfl ?_
  intro p e s m args below meth c s₁ B hml hv
  obtain ⟨rfl, hK, hW⟩ := hv
  have hx := B.exec
  have hb := B.bytes
  have hr := B.returns
  have hts := atoms_spec (ws := WS_X12_zoneOf) B.pre
  have htg : ∀ w ∈ wsG, w.before _ s = true := fun w h => hts w (List.mem_cons_of_mem _ h)
  have hown : s.vm.findClass RX12 = some m.cls := findClass_of_methodNamed B.named
  have hlocks := B.notSynchronized
  have hS : va_S (gF G) s.heap s.heap [] := va_S.rf
  have hl := lv_entry ([.ref (gA G 40 0 0), .int p0]) (n := 2) (Nat.le_of_ble_eq_true rfl)
  rw [lg_entry_eq]
  generalize (lg_sl ([.ref (gA G 40 0 0), .int p0]) ++ List.replicate (2 - (lg_sl ([.ref (gA G 40 0 0), .int p0])).length) Slot.unset).toArray = ls at hl ⊢
  have hl : lv_has ls 2 [(0, .ref (gA G 40 0 0)), (1, .int p0)] := hl
  have hX := h
  unfold m_X12_zoneOf at hX
  refine lv_aload_n hx hb dX12_zoneOf_0 rfl (lv_at hl 0 rfl) ?_
  refine lv_aload_n hx hb dX12_zoneOf_1 rfl (lv_at hl 0 rfl) ?_
  refine gf_40_13 hx hb htg hown hK hW q148 dX12_zoneOf_2 ?_
  refine lv_iload_n hx hb dX12_zoneOf_5 rfl (lv_at hl 1 rfl) ?_
  obtain ⟨g1, hX⟩ := gd_go hX
  refine al_113 hx hb hK hW g1 dX12_zoneOf_6 ?_
  refine lv_aload_n hx hb dX12_zoneOf_7 rfl (lv_at hl 0 rfl) ?_
  refine gf_40_15 hx hb htg hown hK hW q150 dX12_zoneOf_8 ?_
  refine lv_iload_n hx hb dX12_zoneOf_11 rfl (lv_at hl 1 rfl) ?_
  refine al_115 hx hb hK hW g1 dX12_zoneOf_12 ?_
  obtain ⟨r3, h2, hX⟩ := bd_go hX
  refine k_X12_zoneAt hx hb hml hown htg hK hW hS h2 q334 hl.1 (Nat.le_of_ble_eq_true rfl) (Nat.le_of_ble_eq_true rfl) (Nat.le_of_ble_eq_true rfl) ⟨Nat.zero_le _, Nat.zero_le _⟩ dX12_zoneOf_13 (fun H locs hW hS => ?_)
  have hX := Option.some.inj hX
  subst hX
  exact rt_i hx hb hr hlocks hW hS dX12_zoneOf_16
set_option maxHeartbeats 4000000 in
theorem k_X12_zoneOf {p : Program} {l : Launch} {e : Env} {R : Room} {s : State} {m : MethodId} {args : Array Value} {below : List Frame} {meth : Method} {c : Code} {H : Heap} {locs : List Loc} {cells slots : Nat} {Q : State → Prop} {cc : ByteArray} {pc nL idx : Nat} {own : String} {ls : Array Slot} {rest : List Value} {G : Geo} {x y : Mem} {H0 : Heap} {p0 : Int32} {v : Int32} (hx : p.tables.exec = Jvm.exec) (hb : c.code = cc) (hml : c.maxLocals = nL) (hown : s.vm.findClass own = some m.cls) (htg : ∀ w ∈ wsG, w.before args s = true) (hK : Kt G s) (hW : Wh G x y H) (hS : va_S (gF G) H0 H locs) (h : m_X12_zoneOf p0 y = some v) (hlk : Cond.methodLink own idx yX12_zoneOf ∈ wsG) (hn : ls.size = nL) (hr : (rest.map fun v => v.category).sum ≤ 8) (hR1 : 1 + 1 ≤ R.frames) (hR2 : 8 + (2 + 11) + 24 ≤ R.locals) (hf : cells ≤ R.cells ∧ slots ≤ R.slots) (hdg : decode cc pc = .ok (.invokevirtual idx, 3)) (kk : ∀ (H1 : Heap) (locs1 : List Loc), Wh G x y H1 → va_S (gF G) H0 H1 locs1 → W p l e R s m args below meth c H1 locs1 cells slots Q (F0 m (pc + 3) ls (.int v :: rest))) : W p l e R s m args below meth c H locs cells slots Q (F0 m pc ls (.int p0 :: .ref (gA G 40 0 0) :: rest)) := by
  refine va_calli (va_runV (As := [.int p0]) (rest := rest) ⟨hx, hb, hml, hown, htg⟩ (c_X12_zoneOf l G x y p0 v h) (cwV 1 htg (gd_V hlk q331 q332 q5 q333) rfl rfl rfl (by decide +kernel) ⟨hR1, hR2⟩) ⟨fun a U g mk q => ⟨q.1, q.2.1.calling, q.2.2⟩, rc_40 hK hW, fun U hU hW9 => ⟨rfl, hK.warm hW9, by rw [hU]; exact hW⟩⟩ rfl rfl hn rfl (lv_room hr) hdg hf) hS (fun _ _ h9 => h9) (fun _ h9 => h9) ?_
  intro r9 u t H1 locs1 ht hvm hw hB hz1 hk1 hS1
  replace hB : Wh G x y t.heap := hB
  rw [ht] at hB
  replace hw : r9 = v := hw
  subst hw
  exact kk H1 locs1 hB hS1
/-! METHOD X12_holds -/
def m_X12_holds (p0 : Int32) (y : Mem) : Option Int32 :=
  gd_ p0 3 (if (y 114 0 0 p0.toNatClampNeg) = 0 then (some (0 : Int32)) else (bd_ (m_X12_zoneOf p0 y) fun r4 => lt_ (shl32 (1 : Int32) r4) fun x2_5 => if (y 114 0 0 p0.toNatClampNeg) = (2 : Int32) then (bd_ (m_X12_zoneAt (y 113 0 0 p0.toNatClampNeg) ((y 115 0 0 p0.toNatClampNeg) + (1 : Int32)) y) fun r8 => some (x2_5 ||| (shl32 (1 : Int32) r8))) else (some x2_5)))
abbrev WS_X12_holds : List Cond := .code yX12_holds cX12_holds 3 (some .int) :: wsG
abbrev RM_X12_holds : Room := { frames := 2, cells := 0, slots := 0, locals := 45 }
set_option maxHeartbeats 4000000 in
set_option maxRecDepth 100000 in
theorem c_X12_holds (l : Launch) (G : Geo) (x y : Mem) (p0 : Int32) (r : Int32) (h : m_X12_holds p0 y = some r) : Met l yX12_holds WS_X12_holds RM_X12_holds (Pw G x y [.ref (gA G 40 0 0), .int p0]) (Qi G x y r) 0 0 (gF G) := by
  refine Met.ofW (cc := cX12_holds) (maxL := 3) (ret := (some .int)) (by decide) rfl ?_
  intro p e s m args below meth c s₁ B hml hv
  obtain ⟨rfl, hK, hW⟩ := hv
  have hx := B.exec
  have hb := B.bytes
  have hr := B.returns
  have hts := atoms_spec (ws := WS_X12_holds) B.pre
  have htg : ∀ w ∈ wsG, w.before _ s = true := fun w h => hts w (List.mem_cons_of_mem _ h)
  have hown : s.vm.findClass RX12 = some m.cls := findClass_of_methodNamed B.named
  have hlocks := B.notSynchronized
  have hS : va_S (gF G) s.heap s.heap [] := va_S.rf
  have hl := lv_entry ([.ref (gA G 40 0 0), .int p0]) (n := 3) (Nat.le_of_ble_eq_true rfl)
  rw [lg_entry_eq]
  generalize (lg_sl ([.ref (gA G 40 0 0), .int p0]) ++ List.replicate (3 - (lg_sl ([.ref (gA G 40 0 0), .int p0])).length) Slot.unset).toArray = ls at hl ⊢
  have hl : lv_has ls 3 [(0, .ref (gA G 40 0 0)), (1, .int p0)] := hl
  have hX := h
  unfold m_X12_holds at hX
  refine lv_aload_n hx hb dX12_holds_0 rfl (lv_at hl 0 rfl) ?_
  refine gf_40_14 hx hb htg hown hK hW q149 dX12_holds_1 ?_
  refine lv_iload_n hx hb dX12_holds_4 rfl (lv_at hl 1 rfl) ?_
  obtain ⟨g1, hX⟩ := gd_go hX
  refine al_114 hx hb hK hW g1 dX12_holds_5 ?_
  refine lv_if_ne (tgt := 11) hx hb dX12_holds_6 (by decide) (fun c2 => ?_) (fun c2 => ?_)
  · have hX := it_f hX c2
    refine lv_iconst (v := (1 : Int32)) hx hb dX12_holds_11 (by decide) ?_
    refine lv_aload_n hx hb dX12_holds_12 rfl (lv_at hl 0 rfl) ?_
    refine lv_iload_n hx hb dX12_holds_13 rfl (lv_at hl 1 rfl) ?_
    obtain ⟨r4, h3, hX⟩ := bd_go hX
    refine k_X12_zoneOf hx hb hml hown htg hK hW hS h3 q330 hl.1 (Nat.le_of_ble_eq_true rfl) (Nat.le_of_ble_eq_true rfl) (Nat.le_of_ble_eq_true rfl) ⟨Nat.zero_le _, Nat.zero_le _⟩ dX12_holds_14 (fun H locs hW hS => ?_)
    refine lv_ishl_ hx hb dX12_holds_17 ?_
    refine lv_topi (fun x2_5 e9 => ?_)
    have hX := lt_go hX e9
    refine lv_istore_n (lv' := [(2, .int x2_5), (0, .ref (gA G 40 0 0)), (1, .int p0)]) hx hb dX12_holds_18 rfl hl (by decide) rfl (fun ls hl => ?_)
    refine lv_aload_n hx hb dX12_holds_19 rfl (lv_at hl 1 rfl) ?_
    refine gf_40_14 hx hb htg hown hK hW q149 dX12_holds_20 ?_
    refine lv_iload_n hx hb dX12_holds_23 rfl (lv_at hl 2 rfl) ?_
    refine al_114 hx hb hK hW g1 dX12_holds_24 ?_
    refine lv_iconst (v := (2 : Int32)) hx hb dX12_holds_25 (by decide) ?_
    refine lv_icmp_ne (tgt := 54) hx hb dX12_holds_26 (by decide) (fun c6 => ?_) (fun c6 => ?_)
    · have hX := it_f hX c6
      refine lv_iload_n hx hb dX12_holds_54 rfl (lv_at hl 0 rfl) ?_
      have hX := Option.some.inj hX
      subst hX
      exact rt_i hx hb hr hlocks hW hS dX12_holds_55
    · have hX := it_t hX c6
      refine lv_iload_n hx hb dX12_holds_29 rfl (lv_at hl 0 rfl) ?_
      refine lv_iconst (v := (1 : Int32)) hx hb dX12_holds_30 (by decide) ?_
      refine lv_aload_n hx hb dX12_holds_31 rfl (lv_at hl 1 rfl) ?_
      refine lv_aload_n hx hb dX12_holds_32 rfl (lv_at hl 1 rfl) ?_
      refine gf_40_13 hx hb htg hown hK hW q148 dX12_holds_33 ?_
      refine lv_iload_n hx hb dX12_holds_36 rfl (lv_at hl 2 rfl) ?_
      refine al_113 hx hb hK hW g1 dX12_holds_37 ?_
      refine lv_aload_n hx hb dX12_holds_38 rfl (lv_at hl 1 rfl) ?_
      refine gf_40_15 hx hb htg hown hK hW q150 dX12_holds_39 ?_
      refine lv_iload_n hx hb dX12_holds_42 rfl (lv_at hl 2 rfl) ?_
      refine al_115 hx hb hK hW g1 dX12_holds_43 ?_
      refine lv_iconst (v := (1 : Int32)) hx hb dX12_holds_44 (by decide) ?_
      refine lv_iadd hx hb dX12_holds_45 ?_
      obtain ⟨r8, h7, hX⟩ := bd_go hX
      refine k_X12_zoneAt hx hb hml hown htg hK hW hS h7 q334 hl.1 (Nat.le_of_ble_eq_true rfl) (Nat.le_of_ble_eq_true rfl) (Nat.le_of_ble_eq_true rfl) ⟨Nat.zero_le _, Nat.zero_le _⟩ dX12_holds_46 (fun H locs hW hS => ?_)
      refine lv_ishl_ hx hb dX12_holds_49 ?_
      refine lv_ior hx hb dX12_holds_50 ?_
      refine lv_goto (tgt := 55) hx hb dX12_holds_51 (by decide) ?_
      have hX := Option.some.inj hX
      subst hX
      exact rt_i hx hb hr hlocks hW hS dX12_holds_55
  · have hX := it_t hX c2
    refine lv_iconst (v := (0 : Int32)) hx hb dX12_holds_9 (by decide) ?_
    have hX := Option.some.inj hX
    subst hX
    exact rt_i hx hb hr hlocks hW hS dX12_holds_10
set_option maxHeartbeats 4000000 in
theorem k_X12_holds {p : Program} {l : Launch} {e : Env} {R : Room} {s : State} {m : MethodId} {args : Array Value} {below : List Frame} {meth : Method} {c : Code} {H : Heap} {locs : List Loc} {cells slots : Nat} {Q : State → Prop} {cc : ByteArray} {pc nL idx : Nat} {own : String} {ls : Array Slot} {rest : List Value} {G : Geo} {x y : Mem} {H0 : Heap} {p0 : Int32} {v : Int32} (hx : p.tables.exec = Jvm.exec) (hb : c.code = cc) (hml : c.maxLocals = nL) (hown : s.vm.findClass own = some m.cls) (htg : ∀ w ∈ wsG, w.before args s = true) (hK : Kt G s) (hW : Wh G x y H) (hS : va_S (gF G) H0 H locs) (h : m_X12_holds p0 y = some v) (hlk : Cond.methodLink own idx yX12_holds ∈ wsG) (hn : ls.size = nL) (hr : (rest.map fun v => v.category).sum ≤ 8) (hR1 : 2 + 1 ≤ R.frames) (hR2 : 8 + (3 + 11) + 45 ≤ R.locals) (hf : cells ≤ R.cells ∧ slots ≤ R.slots) (hdg : decode cc pc = .ok (.invokevirtual idx, 3)) (kk : ∀ (H1 : Heap) (locs1 : List Loc), Wh G x y H1 → va_S (gF G) H0 H1 locs1 → W p l e R s m args below meth c H1 locs1 cells slots Q (F0 m (pc + 3) ls (.int v :: rest))) : W p l e R s m args below meth c H locs cells slots Q (F0 m pc ls (.int p0 :: .ref (gA G 40 0 0) :: rest)) := by
  refine va_calli (va_runV (As := [.int p0]) (rest := rest) ⟨hx, hb, hml, hown, htg⟩ (c_X12_holds l G x y p0 v h) (cwV 1 htg (gd_V hlk q327 q328 q5 q329) rfl rfl rfl (by decide +kernel) ⟨hR1, hR2⟩) ⟨fun a U g mk q => ⟨q.1, q.2.1.calling, q.2.2⟩, rc_40 hK hW, fun U hU hW9 => ⟨rfl, hK.warm hW9, by rw [hU]; exact hW⟩⟩ rfl rfl hn rfl (lv_room hr) hdg hf) hS (fun _ _ h9 => h9) (fun _ h9 => h9) ?_
  intro r9 u t H1 locs1 ht hvm hw hB hz1 hk1 hS1
  replace hB : Wh G x y t.heap := hB
  rw [ht] at hB
  replace hw : r9 = v := hw
  subst hw
  exact kk H1 locs1 hB hS1
/-! METHOD X12_conflicts -/
def m_X12_conflicts (p0 : Int32) (y : Mem) : Option Int32 :=
  gd_ p0 8 (some ((y 101 0 0 p0.toNatClampNeg) ||| (shl32 (1 : Int32) p0)))
abbrev WS_X12_conflicts : List Cond := .code yX12_conflicts cX12_conflicts 2 (some .int) :: wsG
abbrev RM_X12_conflicts : Room := { frames := 0, cells := 0, slots := 0, locals := 0 }
set_option maxHeartbeats 4000000 in
set_option maxRecDepth 100000 in
theorem c_X12_conflicts (l : Launch) (G : Geo) (x y : Mem) (p0 : Int32) (r : Int32) (h : m_X12_conflicts p0 y = some r) : Met l yX12_conflicts WS_X12_conflicts RM_X12_conflicts (Pw G x y [.ref (gA G 40 0 0), .int p0]) (Qi G x y r) 0 0 (gF G) := by
  refine Met.ofW (cc := cX12_conflicts) (maxL := 2) (ret := (some .int)) (by decide) rfl ?_
  intro p e s m args below meth c s₁ B hml hv
  obtain ⟨rfl, hK, hW⟩ := hv
  have hx := B.exec
  have hb := B.bytes
  have hr := B.returns
  have hts := atoms_spec (ws := WS_X12_conflicts) B.pre
  have htg : ∀ w ∈ wsG, w.before _ s = true := fun w h => hts w (List.mem_cons_of_mem _ h)
  have hown : s.vm.findClass RX12 = some m.cls := findClass_of_methodNamed B.named
  have hlocks := B.notSynchronized
  have hS : va_S (gF G) s.heap s.heap [] := va_S.rf
  have hl := lv_entry ([.ref (gA G 40 0 0), .int p0]) (n := 2) (Nat.le_of_ble_eq_true rfl)
  rw [lg_entry_eq]
  generalize (lg_sl ([.ref (gA G 40 0 0), .int p0]) ++ List.replicate (2 - (lg_sl ([.ref (gA G 40 0 0), .int p0])).length) Slot.unset).toArray = ls at hl ⊢
  have hl : lv_has ls 2 [(0, .ref (gA G 40 0 0)), (1, .int p0)] := hl
  have hX := h
  unfold m_X12_conflicts at hX
  refine lv_aload_n hx hb dX12_conflicts_0 rfl (lv_at hl 0 rfl) ?_
  refine gf_40_1 hx hb htg hown hK hW q136 dX12_conflicts_1 ?_
  refine lv_iload_n hx hb dX12_conflicts_4 rfl (lv_at hl 1 rfl) ?_
  obtain ⟨g1, hX⟩ := gd_go hX
  refine al_101 hx hb hK hW g1 dX12_conflicts_5 ?_
  refine lv_iconst (v := (1 : Int32)) hx hb dX12_conflicts_6 (by decide) ?_
  refine lv_iload_n hx hb dX12_conflicts_7 rfl (lv_at hl 1 rfl) ?_
  refine lv_ishl_ hx hb dX12_conflicts_8 ?_
  refine lv_ior hx hb dX12_conflicts_9 ?_
  have hX := Option.some.inj hX
  subst hX
  exact rt_i hx hb hr hlocks hW hS dX12_conflicts_10
set_option maxHeartbeats 4000000 in
theorem k_X12_conflicts {p : Program} {l : Launch} {e : Env} {R : Room} {s : State} {m : MethodId} {args : Array Value} {below : List Frame} {meth : Method} {c : Code} {H : Heap} {locs : List Loc} {cells slots : Nat} {Q : State → Prop} {cc : ByteArray} {pc nL idx : Nat} {own : String} {ls : Array Slot} {rest : List Value} {G : Geo} {x y : Mem} {H0 : Heap} {p0 : Int32} {v : Int32} (hx : p.tables.exec = Jvm.exec) (hb : c.code = cc) (hml : c.maxLocals = nL) (hown : s.vm.findClass own = some m.cls) (htg : ∀ w ∈ wsG, w.before args s = true) (hK : Kt G s) (hW : Wh G x y H) (hS : va_S (gF G) H0 H locs) (h : m_X12_conflicts p0 y = some v) (hlk : Cond.methodLink own idx yX12_conflicts ∈ wsG) (hn : ls.size = nL) (hr : (rest.map fun v => v.category).sum ≤ 8) (hR1 : 0 + 1 ≤ R.frames) (hR2 : 8 + (2 + 11) + 0 ≤ R.locals) (hf : cells ≤ R.cells ∧ slots ≤ R.slots) (hdg : decode cc pc = .ok (.invokevirtual idx, 3)) (kk : ∀ (H1 : Heap) (locs1 : List Loc), Wh G x y H1 → va_S (gF G) H0 H1 locs1 → W p l e R s m args below meth c H1 locs1 cells slots Q (F0 m (pc + 3) ls (.int v :: rest))) : W p l e R s m args below meth c H locs cells slots Q (F0 m pc ls (.int p0 :: .ref (gA G 40 0 0) :: rest)) := by
  refine va_calli (va_runV (As := [.int p0]) (rest := rest) ⟨hx, hb, hml, hown, htg⟩ (c_X12_conflicts l G x y p0 v h) (cwV 1 htg (gd_V hlk q491 q492 q5 q493) rfl rfl rfl (by decide +kernel) ⟨hR1, hR2⟩) ⟨fun a U g mk q => ⟨q.1, q.2.1.calling, q.2.2⟩, rc_40 hK hW, fun U hU hW9 => ⟨rfl, hK.warm hW9, by rw [hU]; exact hW⟩⟩ rfl rfl hn rfl (lv_room hr) hdg hf) hS (fun _ _ h9 => h9) (fun _ h9 => h9) ?_
  intro r9 u t H1 locs1 ht hvm hw hB hz1 hk1 hS1
  replace hB : Wh G x y t.heap := hB
  rw [ht] at hB
  replace hw : r9 = v := hw
  subst hw
  exact kk H1 locs1 hB hS1
/-! METHOD X12_findNow -/
def m_X12_findNow_j56 (k2 : Int32 → Mem → Option Mem) (x1 : Int32) (s0 : Int32) (s1 : Int32) (s2 : Int32) (y : Mem) : Option Mem :=
  gd_ s2 3 (lt_ (up4 y 143 0 0 s2.toNatClampNeg (s1 + s0)) fun y10 => lt_ (x1 + (1 : Int32)) fun x1_11 => k2 x1_11 y10)
def m_X12_findNow_b2 (k2 : Int32 → Mem → Option Mem) (x1 : Int32) (y : Mem) : Option Mem :=
  if (3 : Int32) ≤ x1 then (some y) else (bd_ (m_X12_holds x1 y) fun r4 => gd_ x1 3 (lt_ (up4 y 141 0 0 x1.toNatClampNeg r4) fun y6 => lt_ (up4 y6 142 0 0 x1.toNatClampNeg (y6 113 0 0 x1.toNatClampNeg)) fun y7 => if (y7 114 0 0 x1.toNatClampNeg) = (2 : Int32) then (m_X12_findNow_j56 k2 x1 (2 : Int32) (y7 115 0 0 x1.toNatClampNeg) x1 y7) else (m_X12_findNow_j56 k2 x1 (1 : Int32) (y7 115 0 0 x1.toNatClampNeg) x1 y7)))
def m_X12_findNow_l2 : Nat → Int32 → Mem → Option Mem
  | 0, _, _ => none
  | n + 1, x1, y => m_X12_findNow_b2 (m_X12_findNow_l2 n) x1 y
def m_X12_findNow (y : Mem) : Option Mem :=
  lt_ (0 : Int32) fun x1_1 => m_X12_findNow_l2 FU x1_1 y
abbrev WS_X12_findNow : List Cond := .code yX12_findNow cX12_findNow 2 none :: wsG
abbrev RM_X12_findNow : Room := { frames := 3, cells := 0, slots := 0, locals := 67 }
set_option maxHeartbeats 4000000 in
set_option maxRecDepth 100000 in
theorem c_X12_findNow (l : Launch) (G : Geo) (x y : Mem) (r : Mem) (h : m_X12_findNow y = some r) : Met l yX12_findNow WS_X12_findNow RM_X12_findNow (Pw G x y [.ref (gA G 40 0 0)]) (Qv G x r) 0 0 (gF G) := by
  refine Met.ofW (cc := cX12_findNow) (maxL := 2) (ret := none) (by decide) rfl ?_
  intro p e s m args below meth c s₁ B hml hv
  obtain ⟨rfl, hK, hW⟩ := hv
  have hx := B.exec
  have hb := B.bytes
  have hr := B.returns
  have hts := atoms_spec (ws := WS_X12_findNow) B.pre
  have htg : ∀ w ∈ wsG, w.before _ s = true := fun w h => hts w (List.mem_cons_of_mem _ h)
  have hown : s.vm.findClass RX12 = some m.cls := findClass_of_methodNamed B.named
  have hlocks := B.notSynchronized
  have hS : va_S (gF G) s.heap s.heap [] := va_S.rf
  have hl := lv_entry ([.ref (gA G 40 0 0)]) (n := 2) (Nat.le_of_ble_eq_true rfl)
  rw [lg_entry_eq]
  generalize (lg_sl ([.ref (gA G 40 0 0)]) ++ List.replicate (2 - (lg_sl ([.ref (gA G 40 0 0)])).length) Slot.unset).toArray = ls at hl ⊢
  have hl : lv_has ls 2 [(0, .ref (gA G 40 0 0))] := hl
  have hX := h
  unfold m_X12_findNow at hX
  have J_56 : ∀ (k2 : Int32 → Mem → Option Mem) (hk2 : ∀ (x1 : Int32) (y : Mem) (H : Heap) (locs : List Loc) (ls : Array Slot), Wh G x y H → va_S (gF G) s.heap H locs → lv_has ls 2 [(0, .ref (gA G 40 0 0)), (1, .int x1)] → k2 x1 y = some r → W p l e (headSpec WS_X12_findNow RM_X12_findNow).room s m ([.ref (gA G 40 0 0)] : List Value).toArray below meth c H locs 0 0 (MQ below (Qv G x r) ([.ref (gA G 40 0 0)] : List Value).toArray s 0 0 (gF G)) (F0 m 2 ls [])), ∀ (x1 : Int32) (s0 : Int32) (s1 : Int32) (s2 : Int32) (y : Mem) (H : Heap) (locs : List Loc) (ls : Array Slot), Wh G x y H → va_S (gF G) s.heap H locs → lv_has ls 2 [(0, .ref (gA G 40 0 0)), (1, .int x1)] → m_X12_findNow_j56 k2 x1 s0 s1 s2 y = some r → W p l e (headSpec WS_X12_findNow RM_X12_findNow).room s m ([.ref (gA G 40 0 0)] : List Value).toArray below meth c H locs 0 0 (MQ below (Qv G x r) ([.ref (gA G 40 0 0)] : List Value).toArray s 0 0 (gF G)) (F0 m 56 ls [.int s0, .int s1, .int s2, .ref (gA G 143 0 0)]) := by
    intro k2 hk2 x1 s0 s1 s2 y H locs ls hW hS hl hX
    unfold m_X12_findNow_j56 at hX
    refine lv_iadd hx hb dX12_findNow_56 ?_
    obtain ⟨g9, hX⟩ := gd_go hX
    refine as_143 hx hb hK hW hS g9 dX12_findNow_57 (fun H locs hW hS => ?_)
    obtain ⟨y10, e9⟩ : ∃ w : Mem, w = (up4 y 143 0 0 s2.toNatClampNeg (s1 + s0)) := ⟨_, rfl⟩
    rw [← e9] at hW
    have hX := lt_go hX e9
    obtain ⟨x1_11, e9⟩ : ∃ w : Int32, w = (x1 + (1 : Int32)) := ⟨_, rfl⟩
    have hX := lt_go hX e9
    refine lv_iinc (v := x1_11) (lv' := [(1, .int x1_11), (0, .ref (gA G 40 0 0))]) hx hb dX12_findNow_58 hl (k := 1) rfl (by rw [e9]; rfl) (by decide) rfl (fun ls hl => ?_)
    refine lv_goto (tgt := 2) hx hb dX12_findNow_61 (by decide) ?_
    exact hk2 _ _ _ _ _ hW hS (lv_sub hl [1, 0] rfl) hX
  have B_2 : ∀ (k2 : Int32 → Mem → Option Mem) (hk2 : ∀ (x1 : Int32) (y : Mem) (H : Heap) (locs : List Loc) (ls : Array Slot), Wh G x y H → va_S (gF G) s.heap H locs → lv_has ls 2 [(0, .ref (gA G 40 0 0)), (1, .int x1)] → k2 x1 y = some r → W p l e (headSpec WS_X12_findNow RM_X12_findNow).room s m ([.ref (gA G 40 0 0)] : List Value).toArray below meth c H locs 0 0 (MQ below (Qv G x r) ([.ref (gA G 40 0 0)] : List Value).toArray s 0 0 (gF G)) (F0 m 2 ls [])), ∀ (x1 : Int32) (y : Mem) (H : Heap) (locs : List Loc) (ls : Array Slot), Wh G x y H → va_S (gF G) s.heap H locs → lv_has ls 2 [(0, .ref (gA G 40 0 0)), (1, .int x1)] → m_X12_findNow_b2 k2 x1 y = some r → W p l e (headSpec WS_X12_findNow RM_X12_findNow).room s m ([.ref (gA G 40 0 0)] : List Value).toArray below meth c H locs 0 0 (MQ below (Qv G x r) ([.ref (gA G 40 0 0)] : List Value).toArray s 0 0 (gF G)) (F0 m 2 ls []) := by
    intro k2 hk2 x1 y H locs ls hW hS hl hX
    unfold m_X12_findNow_b2 at hX
    refine lv_iload_n hx hb dX12_findNow_2 rfl (lv_at hl 1 rfl) ?_
    refine lv_iconst (v := (3 : Int32)) hx hb dX12_findNow_3 (by decide) ?_
    refine lv_icmp_ge (tgt := 64) hx hb dX12_findNow_4 (by decide) (fun c2 => ?_) (fun c2 => ?_)
    · have hX := it_t hX c2
      have hX := Option.some.inj hX
      subst hX
      exact rt_v hx hb hr hlocks hW hS dX12_findNow_64
    · have hX := it_f hX c2
      refine lv_aload_n hx hb dX12_findNow_7 rfl (lv_at hl 0 rfl) ?_
      refine gf_40_41 hx hb htg hown hK hW q168 dX12_findNow_8 ?_
      refine lv_iload_n hx hb dX12_findNow_11 rfl (lv_at hl 1 rfl) ?_
      refine lv_aload_n hx hb dX12_findNow_12 rfl (lv_at hl 0 rfl) ?_
      refine lv_iload_n hx hb dX12_findNow_13 rfl (lv_at hl 1 rfl) ?_
      obtain ⟨r4, h3, hX⟩ := bd_go hX
      refine k_X12_holds hx hb hml hown htg hK hW hS h3 q326 hl.1 (Nat.le_of_ble_eq_true rfl) (Nat.le_of_ble_eq_true rfl) (Nat.le_of_ble_eq_true rfl) ⟨Nat.zero_le _, Nat.zero_le _⟩ dX12_findNow_14 (fun H locs hW hS => ?_)
      obtain ⟨g5, hX⟩ := gd_go hX
      refine as_141 hx hb hK hW hS g5 dX12_findNow_17 (fun H locs hW hS => ?_)
      obtain ⟨y6, e9⟩ : ∃ w : Mem, w = (up4 y 141 0 0 x1.toNatClampNeg r4) := ⟨_, rfl⟩
      rw [← e9] at hW
      have hX := lt_go hX e9
      refine lv_aload_n hx hb dX12_findNow_18 rfl (lv_at hl 0 rfl) ?_
      refine gf_40_42 hx hb htg hown hK hW q169 dX12_findNow_19 ?_
      refine lv_iload_n hx hb dX12_findNow_22 rfl (lv_at hl 1 rfl) ?_
      refine lv_aload_n hx hb dX12_findNow_23 rfl (lv_at hl 0 rfl) ?_
      refine gf_40_13 hx hb htg hown hK hW q148 dX12_findNow_24 ?_
      refine lv_iload_n hx hb dX12_findNow_27 rfl (lv_at hl 1 rfl) ?_
      refine al_113 hx hb hK hW g5 dX12_findNow_28 ?_
      refine as_142 hx hb hK hW hS g5 dX12_findNow_29 (fun H locs hW hS => ?_)
      obtain ⟨y7, e9⟩ : ∃ w : Mem, w = (up4 y6 142 0 0 x1.toNatClampNeg (y6 113 0 0 x1.toNatClampNeg)) := ⟨_, rfl⟩
      rw [← e9] at hW
      have hX := lt_go hX e9
      refine lv_aload_n hx hb dX12_findNow_30 rfl (lv_at hl 0 rfl) ?_
      refine gf_40_43 hx hb htg hown hK hW q170 dX12_findNow_31 ?_
      refine lv_iload_n hx hb dX12_findNow_34 rfl (lv_at hl 1 rfl) ?_
      refine lv_aload_n hx hb dX12_findNow_35 rfl (lv_at hl 0 rfl) ?_
      refine gf_40_15 hx hb htg hown hK hW q150 dX12_findNow_36 ?_
      refine lv_iload_n hx hb dX12_findNow_39 rfl (lv_at hl 1 rfl) ?_
      refine al_115 hx hb hK hW g5 dX12_findNow_40 ?_
      refine lv_aload_n hx hb dX12_findNow_41 rfl (lv_at hl 0 rfl) ?_
      refine gf_40_14 hx hb htg hown hK hW q149 dX12_findNow_42 ?_
      refine lv_iload_n hx hb dX12_findNow_45 rfl (lv_at hl 1 rfl) ?_
      refine al_114 hx hb hK hW g5 dX12_findNow_46 ?_
      refine lv_iconst (v := (2 : Int32)) hx hb dX12_findNow_47 (by decide) ?_
      refine lv_icmp_ne (tgt := 55) hx hb dX12_findNow_48 (by decide) (fun c8 => ?_) (fun c8 => ?_)
      · have hX := it_f hX c8
        refine lv_iconst (v := (1 : Int32)) hx hb dX12_findNow_55 (by decide) ?_
        exact J_56 k2 hk2 _ _ _ _ _ _ _ _ hW hS (lv_sub hl [0, 1] rfl) hX
      · have hX := it_t hX c8
        refine lv_iconst (v := (2 : Int32)) hx hb dX12_findNow_51 (by decide) ?_
        refine lv_goto (tgt := 56) hx hb dX12_findNow_52 (by decide) ?_
        exact J_56 k2 hk2 _ _ _ _ _ _ _ _ hW hS (lv_sub hl [0, 1] rfl) hX
  have L_2 : ∀ (n : Nat), ∀ (x1 : Int32) (y : Mem) (H : Heap) (locs : List Loc) (ls : Array Slot), Wh G x y H → va_S (gF G) s.heap H locs → lv_has ls 2 [(0, .ref (gA G 40 0 0)), (1, .int x1)] → m_X12_findNow_l2 n x1 y = some r → W p l e (headSpec WS_X12_findNow RM_X12_findNow).room s m ([.ref (gA G 40 0 0)] : List Value).toArray below meth c H locs 0 0 (MQ below (Qv G x r) ([.ref (gA G 40 0 0)] : List Value).toArray s 0 0 (gF G)) (F0 m 2 ls []) := by
    intro n
    induction n with
    | zero => intro x1 y H locs ls hW hS hl hX; exact no_go hX
    | succ n ih => intro x1 y H locs ls hW hS hl hX; exact B_2 _ ih _ _ _ _ _ hW hS hl hX
  refine lv_iconst (v := (0 : Int32)) hx hb dX12_findNow_0 (by decide) ?_
  refine lv_topi (fun x1_1 e9 => ?_)
  have hX := lt_go hX e9
  refine lv_istore_n (lv' := [(1, .int x1_1), (0, .ref (gA G 40 0 0))]) hx hb dX12_findNow_1 rfl hl (by decide) rfl (fun ls hl => ?_)
  exact L_2 FU _ _ _ _ _ hW hS (lv_sub hl [1, 0] rfl) hX
set_option maxHeartbeats 4000000 in
theorem k_X12_findNow {p : Program} {l : Launch} {e : Env} {R : Room} {s : State} {m : MethodId} {args : Array Value} {below : List Frame} {meth : Method} {c : Code} {H : Heap} {locs : List Loc} {cells slots : Nat} {Q : State → Prop} {cc : ByteArray} {pc nL idx : Nat} {own : String} {ls : Array Slot} {rest : List Value} {G : Geo} {x y : Mem} {H0 : Heap} {z : Mem} (hx : p.tables.exec = Jvm.exec) (hb : c.code = cc) (hml : c.maxLocals = nL) (hown : s.vm.findClass own = some m.cls) (htg : ∀ w ∈ wsG, w.before args s = true) (hK : Kt G s) (hW : Wh G x y H) (hS : va_S (gF G) H0 H locs) (h : m_X12_findNow y = some z) (hlk : Cond.methodLink own idx yX12_findNow ∈ wsG) (hn : ls.size = nL) (hr : (rest.map fun v => v.category).sum ≤ 8) (hR1 : 3 + 1 ≤ R.frames) (hR2 : 8 + (2 + 11) + 67 ≤ R.locals) (hf : cells ≤ R.cells ∧ slots ≤ R.slots) (hdg : decode cc pc = .ok (.invokevirtual idx, 3)) (kk : ∀ (H1 : Heap) (locs1 : List Loc), Wh G x z H1 → va_S (gF G) H0 H1 locs1 → W p l e R s m args below meth c H1 locs1 cells slots Q (F0 m (pc + 3) ls (rest))) : W p l e R s m args below meth c H locs cells slots Q (F0 m pc ls (.ref (gA G 40 0 0) :: rest)) := by
  refine va_callv (va_runV (As := []) (rest := rest) ⟨hx, hb, hml, hown, htg⟩ (c_X12_findNow l G x y z h) (cwV 0 htg (gd_V hlk q872 q873 q5 q874) rfl rfl rfl (by decide +kernel) ⟨hR1, hR2⟩) ⟨fun a U g mk q => ⟨q.1, q.2.1.calling, q.2.2⟩, rc_40 hK hW, fun U hU hW9 => ⟨rfl, hK.warm hW9, by rw [hU]; exact hW⟩⟩ rfl rfl hn rfl (lv_room hr) hdg hf) hS (fun _ _ h9 => h9) (fun _ h9 => h9) ?_
  intro u t H1 locs1 ht hvm hw hB hz1 hk1 hS1
  replace hB : Wh G x z t.heap := hB
  rw [ht] at hB
  exact kk H1 locs1 hB hS1
/-! METHOD X12_canFinish -/
def m_X12_canFinish_b49 (p0 : Int32) (k49 : Int32 → Int32 → Mem → Option Int32) (x2 : Int32) (x3 : Int32) (y : Mem) : Option Int32 :=
  gd_ p0 3 (gd_ (y 142 0 0 p0.toNatClampNeg) 30 (if (y 124 0 0 (y 142 0 0 p0.toNatClampNeg).toNatClampNeg) ≤ x3 then (some (1 : Int32)) else (bd_ (m_X12_zoneAt (y 142 0 0 p0.toNatClampNeg) x3 y) fun r13 => bd_ (m_X12_conflicts r13 y) fun r15 => if (r15 &&& x2) = 0 then (lt_ (x3 + (1 : Int32)) fun x3_17 => k49 x2 x3_17 y) else (some (0 : Int32)))))
def m_X12_canFinish_l49 (p0 : Int32) : Nat → Int32 → Int32 → Mem → Option Int32
  | 0, _, _, _ => none
  | n + 1, x2, x3, y => m_X12_canFinish_b49 p0 (m_X12_canFinish_l49 p0 n) x2 x3 y
def m_X12_canFinish_j34 (p0 : Int32) (k4 : Int32 → Int32 → Mem → Option Int32) (x3 : Int32) (s0 : Int32) (s1 : Int32) (y : Mem) : Option Int32 :=
  lt_ (s1 ||| s0) fun x2_18 => lt_ (x3 + (1 : Int32)) fun x3_19 => k4 x2_18 x3_19 y
def m_X12_canFinish_j33 (p0 : Int32) (k4 : Int32 → Int32 → Mem → Option Int32) (x3 : Int32) (s0 : Int32) (y : Mem) : Option Int32 :=
  m_X12_canFinish_j34 p0 k4 x3 (0 : Int32) s0 y
def m_X12_canFinish_b4 (p0 : Int32) (k4 : Int32 → Int32 → Mem → Option Int32) (x2 : Int32) (x3 : Int32) (y : Mem) : Option Int32 :=
  if (3 : Int32) ≤ x3 then (gd_ p0 3 (lt_ (y 143 0 0 p0.toNatClampNeg) fun x3_5 => m_X12_canFinish_l49 p0 FU x2 x3_5 y)) else (if x3 = p0 then (m_X12_canFinish_j33 p0 k4 x3 x2 y) else (gd_ x3 3 (if (y 142 0 0 x3.toNatClampNeg) < 0 then (m_X12_canFinish_j33 p0 k4 x3 x2 y) else (m_X12_canFinish_j34 p0 k4 x3 (y 141 0 0 x3.toNatClampNeg) x2 y))))
def m_X12_canFinish_l4 (p0 : Int32) : Nat → Int32 → Int32 → Mem → Option Int32
  | 0, _, _, _ => none
  | n + 1, x2, x3, y => m_X12_canFinish_b4 p0 (m_X12_canFinish_l4 p0 n) x2 x3 y
def m_X12_canFinish (p0 : Int32) (y : Mem) : Option Int32 :=
  lt_ (0 : Int32) fun x2_1 => lt_ (0 : Int32) fun x3_2 => m_X12_canFinish_l4 p0 FU x2_1 x3_2 y
abbrev WS_X12_canFinish : List Cond := .code yX12_canFinish cX12_canFinish 4 (some .boolean) :: wsG
abbrev RM_X12_canFinish : Room := { frames := 1, cells := 0, slots := 0, locals := 24 }
set_option maxHeartbeats 4000000 in
set_option maxRecDepth 100000 in
theorem c_X12_canFinish (l : Launch) (G : Geo) (x y : Mem) (p0 : Int32) (r : Int32) (h : m_X12_canFinish p0 y = some r) : Met l yX12_canFinish WS_X12_canFinish RM_X12_canFinish (Pw G x y [.ref (gA G 40 0 0), .int p0]) (Qi G x y r) 0 0 (gF G) := by
  refine Met.ofW (cc := cX12_canFinish) (maxL := 4) (ret := (some .boolean)) (by decide) rfl ?_
  intro p e s m args below meth c s₁ B hml hv
  obtain ⟨rfl, hK, hW⟩ := hv
  have hx := B.exec
  have hb := B.bytes
  have hr := B.returns
  have hts := atoms_spec (ws := WS_X12_canFinish) B.pre
  have htg : ∀ w ∈ wsG, w.before _ s = true := fun w h => hts w (List.mem_cons_of_mem _ h)
  have hown : s.vm.findClass RX12 = some m.cls := findClass_of_methodNamed B.named
  have hlocks := B.notSynchronized
  have hS : va_S (gF G) s.heap s.heap [] := va_S.rf
  have hl := lv_entry ([.ref (gA G 40 0 0), .int p0]) (n := 4) (Nat.le_of_ble_eq_true rfl)
  rw [lg_entry_eq]
  generalize (lg_sl ([.ref (gA G 40 0 0), .int p0]) ++ List.replicate (4 - (lg_sl ([.ref (gA G 40 0 0), .int p0])).length) Slot.unset).toArray = ls at hl ⊢
  have hl : lv_has ls 4 [(0, .ref (gA G 40 0 0)), (1, .int p0)] := hl
  have hX := h
  unfold m_X12_canFinish at hX
  have B_49 : ∀ (k49 : Int32 → Int32 → Mem → Option Int32) (hk49 : ∀ (x2 : Int32) (x3 : Int32) (y : Mem) (H : Heap) (locs : List Loc) (ls : Array Slot), Wh G x y H → va_S (gF G) s.heap H locs → lv_has ls 4 [(0, .ref (gA G 40 0 0)), (1, .int p0), (2, .int x2), (3, .int x3)] → k49 x2 x3 y = some r → W p l e (headSpec WS_X12_canFinish RM_X12_canFinish).room s m ([.ref (gA G 40 0 0), .int p0] : List Value).toArray below meth c H locs 0 0 (MQ below (Qi G x y r) ([.ref (gA G 40 0 0), .int p0] : List Value).toArray s 0 0 (gF G)) (F0 m 49 ls [])), ∀ (x2 : Int32) (x3 : Int32) (y : Mem) (H : Heap) (locs : List Loc) (ls : Array Slot), Wh G x y H → va_S (gF G) s.heap H locs → lv_has ls 4 [(0, .ref (gA G 40 0 0)), (1, .int p0), (2, .int x2), (3, .int x3)] → m_X12_canFinish_b49 p0 k49 x2 x3 y = some r → W p l e (headSpec WS_X12_canFinish RM_X12_canFinish).room s m ([.ref (gA G 40 0 0), .int p0] : List Value).toArray below meth c H locs 0 0 (MQ below (Qi G x y r) ([.ref (gA G 40 0 0), .int p0] : List Value).toArray s 0 0 (gF G)) (F0 m 49 ls []) := by
    intro k49 hk49 x2 x3 y H locs ls hW hS hl hX
    unfold m_X12_canFinish_b49 at hX
    refine lv_iload_n hx hb dX12_canFinish_49 rfl (lv_at hl 3 rfl) ?_
    refine lv_aload_n hx hb dX12_canFinish_50 rfl (lv_at hl 0 rfl) ?_
    refine gf_40_24 hx hb htg hown hK hW q159 dX12_canFinish_51 ?_
    refine lv_aload_n hx hb dX12_canFinish_54 rfl (lv_at hl 0 rfl) ?_
    refine gf_40_42 hx hb htg hown hK hW q169 dX12_canFinish_55 ?_
    refine lv_iload_n hx hb dX12_canFinish_58 rfl (lv_at hl 1 rfl) ?_
    obtain ⟨g9, hX⟩ := gd_go hX
    refine al_142 hx hb hK hW g9 dX12_canFinish_59 ?_
    obtain ⟨g10, hX⟩ := gd_go hX
    refine al_124 hx hb hK hW g10 dX12_canFinish_60 ?_
    refine lv_icmp_ge (tgt := 92) hx hb dX12_canFinish_61 (by decide) (fun c11 => ?_) (fun c11 => ?_)
    · have hX := it_t hX c11
      refine lv_iconst (v := (1 : Int32)) hx hb dX12_canFinish_92 (by decide) ?_
      have hX := Option.some.inj hX
      subst hX
      exact rt_z hx hb hr hlocks hW hS nb1 dX12_canFinish_93
    · have hX := it_f hX c11
      refine lv_aload_n hx hb dX12_canFinish_64 rfl (lv_at hl 0 rfl) ?_
      refine lv_aload_n hx hb dX12_canFinish_65 rfl (lv_at hl 0 rfl) ?_
      refine lv_aload_n hx hb dX12_canFinish_66 rfl (lv_at hl 0 rfl) ?_
      refine gf_40_42 hx hb htg hown hK hW q169 dX12_canFinish_67 ?_
      refine lv_iload_n hx hb dX12_canFinish_70 rfl (lv_at hl 1 rfl) ?_
      refine al_142 hx hb hK hW g9 dX12_canFinish_71 ?_
      refine lv_iload_n hx hb dX12_canFinish_72 rfl (lv_at hl 3 rfl) ?_
      obtain ⟨r13, h12, hX⟩ := bd_go hX
      refine k_X12_zoneAt hx hb hml hown htg hK hW hS h12 q334 hl.1 (Nat.le_of_ble_eq_true rfl) (Nat.le_of_ble_eq_true rfl) (Nat.le_of_ble_eq_true rfl) ⟨Nat.zero_le _, Nat.zero_le _⟩ dX12_canFinish_73 (fun H locs hW hS => ?_)
      obtain ⟨r15, h14, hX⟩ := bd_go hX
      refine k_X12_conflicts hx hb hml hown htg hK hW hS h14 q490 hl.1 (Nat.le_of_ble_eq_true rfl) (Nat.le_of_ble_eq_true rfl) (Nat.le_of_ble_eq_true rfl) ⟨Nat.zero_le _, Nat.zero_le _⟩ dX12_canFinish_76 (fun H locs hW hS => ?_)
      refine lv_iload_n hx hb dX12_canFinish_79 rfl (lv_at hl 2 rfl) ?_
      refine lv_iand hx hb dX12_canFinish_80 ?_
      refine lv_if_eq (tgt := 86) hx hb dX12_canFinish_81 (by decide) (fun c16 => ?_) (fun c16 => ?_)
      · have hX := it_t hX c16
        obtain ⟨x3_17, e9⟩ : ∃ w : Int32, w = (x3 + (1 : Int32)) := ⟨_, rfl⟩
        have hX := lt_go hX e9
        refine lv_iinc (v := x3_17) (lv' := [(3, .int x3_17), (0, .ref (gA G 40 0 0)), (1, .int p0), (2, .int x2)]) hx hb dX12_canFinish_86 hl (k := 3) rfl (by rw [e9]; rfl) (by decide) rfl (fun ls hl => ?_)
        refine lv_goto (tgt := 49) hx hb dX12_canFinish_89 (by decide) ?_
        exact hk49 _ _ _ _ _ _ hW hS (lv_sub hl [1, 2, 3, 0] rfl) hX
      · have hX := it_f hX c16
        refine lv_iconst (v := (0 : Int32)) hx hb dX12_canFinish_84 (by decide) ?_
        have hX := Option.some.inj hX
        subst hX
        exact rt_z hx hb hr hlocks hW hS nb0 dX12_canFinish_85
  have L_49 : ∀ (n : Nat), ∀ (x2 : Int32) (x3 : Int32) (y : Mem) (H : Heap) (locs : List Loc) (ls : Array Slot), Wh G x y H → va_S (gF G) s.heap H locs → lv_has ls 4 [(0, .ref (gA G 40 0 0)), (1, .int p0), (2, .int x2), (3, .int x3)] → m_X12_canFinish_l49 p0 n x2 x3 y = some r → W p l e (headSpec WS_X12_canFinish RM_X12_canFinish).room s m ([.ref (gA G 40 0 0), .int p0] : List Value).toArray below meth c H locs 0 0 (MQ below (Qi G x y r) ([.ref (gA G 40 0 0), .int p0] : List Value).toArray s 0 0 (gF G)) (F0 m 49 ls []) := by
    intro n
    induction n with
    | zero => intro x2 x3 y H locs ls hW hS hl hX; exact no_go hX
    | succ n ih => intro x2 x3 y H locs ls hW hS hl hX; exact B_49 _ ih _ _ _ _ _ _ hW hS hl hX
  have J_34 : ∀ (k4 : Int32 → Int32 → Mem → Option Int32) (hk4 : ∀ (x2 : Int32) (x3 : Int32) (y : Mem) (H : Heap) (locs : List Loc) (ls : Array Slot), Wh G x y H → va_S (gF G) s.heap H locs → lv_has ls 4 [(0, .ref (gA G 40 0 0)), (1, .int p0), (2, .int x2), (3, .int x3)] → k4 x2 x3 y = some r → W p l e (headSpec WS_X12_canFinish RM_X12_canFinish).room s m ([.ref (gA G 40 0 0), .int p0] : List Value).toArray below meth c H locs 0 0 (MQ below (Qi G x y r) ([.ref (gA G 40 0 0), .int p0] : List Value).toArray s 0 0 (gF G)) (F0 m 4 ls [])), ∀ (x3 : Int32) (s0 : Int32) (s1 : Int32) (y : Mem) (H : Heap) (locs : List Loc) (ls : Array Slot), Wh G x y H → va_S (gF G) s.heap H locs → lv_has ls 4 [(0, .ref (gA G 40 0 0)), (1, .int p0), (3, .int x3)] → m_X12_canFinish_j34 p0 k4 x3 s0 s1 y = some r → W p l e (headSpec WS_X12_canFinish RM_X12_canFinish).room s m ([.ref (gA G 40 0 0), .int p0] : List Value).toArray below meth c H locs 0 0 (MQ below (Qi G x y r) ([.ref (gA G 40 0 0), .int p0] : List Value).toArray s 0 0 (gF G)) (F0 m 34 ls [.int s0, .int s1]) := by
    intro k4 hk4 x3 s0 s1 y H locs ls hW hS hl hX
    unfold m_X12_canFinish_j34 at hX
    refine lv_ior hx hb dX12_canFinish_34 ?_
    refine lv_topi (fun x2_18 e9 => ?_)
    have hX := lt_go hX e9
    refine lv_istore_n (lv' := [(2, .int x2_18), (0, .ref (gA G 40 0 0)), (1, .int p0), (3, .int x3)]) hx hb dX12_canFinish_35 rfl hl (by decide) rfl (fun ls hl => ?_)
    obtain ⟨x3_19, e9⟩ : ∃ w : Int32, w = (x3 + (1 : Int32)) := ⟨_, rfl⟩
    have hX := lt_go hX e9
    refine lv_iinc (v := x3_19) (lv' := [(3, .int x3_19), (2, .int x2_18), (0, .ref (gA G 40 0 0)), (1, .int p0)]) hx hb dX12_canFinish_36 hl (k := 3) rfl (by rw [e9]; rfl) (by decide) rfl (fun ls hl => ?_)
    refine lv_goto (tgt := 4) hx hb dX12_canFinish_39 (by decide) ?_
    exact hk4 _ _ _ _ _ _ hW hS (lv_sub hl [2, 3, 1, 0] rfl) hX
  have J_33 : ∀ (k4 : Int32 → Int32 → Mem → Option Int32) (hk4 : ∀ (x2 : Int32) (x3 : Int32) (y : Mem) (H : Heap) (locs : List Loc) (ls : Array Slot), Wh G x y H → va_S (gF G) s.heap H locs → lv_has ls 4 [(0, .ref (gA G 40 0 0)), (1, .int p0), (2, .int x2), (3, .int x3)] → k4 x2 x3 y = some r → W p l e (headSpec WS_X12_canFinish RM_X12_canFinish).room s m ([.ref (gA G 40 0 0), .int p0] : List Value).toArray below meth c H locs 0 0 (MQ below (Qi G x y r) ([.ref (gA G 40 0 0), .int p0] : List Value).toArray s 0 0 (gF G)) (F0 m 4 ls [])), ∀ (x3 : Int32) (s0 : Int32) (y : Mem) (H : Heap) (locs : List Loc) (ls : Array Slot), Wh G x y H → va_S (gF G) s.heap H locs → lv_has ls 4 [(0, .ref (gA G 40 0 0)), (1, .int p0), (3, .int x3)] → m_X12_canFinish_j33 p0 k4 x3 s0 y = some r → W p l e (headSpec WS_X12_canFinish RM_X12_canFinish).room s m ([.ref (gA G 40 0 0), .int p0] : List Value).toArray below meth c H locs 0 0 (MQ below (Qi G x y r) ([.ref (gA G 40 0 0), .int p0] : List Value).toArray s 0 0 (gF G)) (F0 m 33 ls [.int s0]) := by
    intro k4 hk4 x3 s0 y H locs ls hW hS hl hX
    unfold m_X12_canFinish_j33 at hX
    refine lv_iconst (v := (0 : Int32)) hx hb dX12_canFinish_33 (by decide) ?_
    exact J_34 k4 hk4 _ _ _ _ _ _ _ hW hS (lv_sub hl [0, 1, 2] rfl) hX
  have B_4 : ∀ (k4 : Int32 → Int32 → Mem → Option Int32) (hk4 : ∀ (x2 : Int32) (x3 : Int32) (y : Mem) (H : Heap) (locs : List Loc) (ls : Array Slot), Wh G x y H → va_S (gF G) s.heap H locs → lv_has ls 4 [(0, .ref (gA G 40 0 0)), (1, .int p0), (2, .int x2), (3, .int x3)] → k4 x2 x3 y = some r → W p l e (headSpec WS_X12_canFinish RM_X12_canFinish).room s m ([.ref (gA G 40 0 0), .int p0] : List Value).toArray below meth c H locs 0 0 (MQ below (Qi G x y r) ([.ref (gA G 40 0 0), .int p0] : List Value).toArray s 0 0 (gF G)) (F0 m 4 ls [])), ∀ (x2 : Int32) (x3 : Int32) (y : Mem) (H : Heap) (locs : List Loc) (ls : Array Slot), Wh G x y H → va_S (gF G) s.heap H locs → lv_has ls 4 [(0, .ref (gA G 40 0 0)), (1, .int p0), (2, .int x2), (3, .int x3)] → m_X12_canFinish_b4 p0 k4 x2 x3 y = some r → W p l e (headSpec WS_X12_canFinish RM_X12_canFinish).room s m ([.ref (gA G 40 0 0), .int p0] : List Value).toArray below meth c H locs 0 0 (MQ below (Qi G x y r) ([.ref (gA G 40 0 0), .int p0] : List Value).toArray s 0 0 (gF G)) (F0 m 4 ls []) := by
    intro k4 hk4 x2 x3 y H locs ls hW hS hl hX
    unfold m_X12_canFinish_b4 at hX
    refine lv_iload_n hx hb dX12_canFinish_4 rfl (lv_at hl 3 rfl) ?_
    refine lv_iconst (v := (3 : Int32)) hx hb dX12_canFinish_5 (by decide) ?_
    refine lv_icmp_ge (tgt := 42) hx hb dX12_canFinish_6 (by decide) (fun c3 => ?_) (fun c3 => ?_)
    · have hX := it_t hX c3
      refine lv_aload_n hx hb dX12_canFinish_42 rfl (lv_at hl 0 rfl) ?_
      refine gf_40_43 hx hb htg hown hK hW q170 dX12_canFinish_43 ?_
      refine lv_iload_n hx hb dX12_canFinish_46 rfl (lv_at hl 1 rfl) ?_
      obtain ⟨g4, hX⟩ := gd_go hX
      refine al_143 hx hb hK hW g4 dX12_canFinish_47 ?_
      refine lv_topi (fun x3_5 e9 => ?_)
      have hX := lt_go hX e9
      refine lv_istore_n (lv' := [(3, .int x3_5), (0, .ref (gA G 40 0 0)), (1, .int p0), (2, .int x2)]) hx hb dX12_canFinish_48 rfl hl (by decide) rfl (fun ls hl => ?_)
      exact L_49 FU _ _ _ _ _ _ hW hS (lv_sub hl [1, 2, 3, 0] rfl) hX
    · have hX := it_f hX c3
      refine lv_iload_n hx hb dX12_canFinish_9 rfl (lv_at hl 2 rfl) ?_
      refine lv_iload_n hx hb dX12_canFinish_10 rfl (lv_at hl 3 rfl) ?_
      refine lv_iload_n hx hb dX12_canFinish_11 rfl (lv_at hl 1 rfl) ?_
      refine lv_icmp_eq (tgt := 33) hx hb dX12_canFinish_12 (by decide) (fun c6 => ?_) (fun c6 => ?_)
      · have hX := it_t hX c6
        exact J_33 k4 hk4 _ _ _ _ _ _ hW hS (lv_sub hl [0, 1, 3] rfl) hX
      · have hX := it_f hX c6
        refine lv_aload_n hx hb dX12_canFinish_15 rfl (lv_at hl 0 rfl) ?_
        refine gf_40_42 hx hb htg hown hK hW q169 dX12_canFinish_16 ?_
        refine lv_iload_n hx hb dX12_canFinish_19 rfl (lv_at hl 3 rfl) ?_
        obtain ⟨g7, hX⟩ := gd_go hX
        refine al_142 hx hb hK hW g7 dX12_canFinish_20 ?_
        refine lv_if_lt (tgt := 33) hx hb dX12_canFinish_21 (by decide) (fun c8 => ?_) (fun c8 => ?_)
        · have hX := it_t hX c8
          exact J_33 k4 hk4 _ _ _ _ _ _ hW hS (lv_sub hl [0, 1, 3] rfl) hX
        · have hX := it_f hX c8
          refine lv_aload_n hx hb dX12_canFinish_24 rfl (lv_at hl 0 rfl) ?_
          refine gf_40_41 hx hb htg hown hK hW q168 dX12_canFinish_25 ?_
          refine lv_iload_n hx hb dX12_canFinish_28 rfl (lv_at hl 3 rfl) ?_
          refine al_141 hx hb hK hW g7 dX12_canFinish_29 ?_
          refine lv_goto (tgt := 34) hx hb dX12_canFinish_30 (by decide) ?_
          exact J_34 k4 hk4 _ _ _ _ _ _ _ hW hS (lv_sub hl [0, 1, 3] rfl) hX
  have L_4 : ∀ (n : Nat), ∀ (x2 : Int32) (x3 : Int32) (y : Mem) (H : Heap) (locs : List Loc) (ls : Array Slot), Wh G x y H → va_S (gF G) s.heap H locs → lv_has ls 4 [(0, .ref (gA G 40 0 0)), (1, .int p0), (2, .int x2), (3, .int x3)] → m_X12_canFinish_l4 p0 n x2 x3 y = some r → W p l e (headSpec WS_X12_canFinish RM_X12_canFinish).room s m ([.ref (gA G 40 0 0), .int p0] : List Value).toArray below meth c H locs 0 0 (MQ below (Qi G x y r) ([.ref (gA G 40 0 0), .int p0] : List Value).toArray s 0 0 (gF G)) (F0 m 4 ls []) := by
    intro n
    induction n with
    | zero => intro x2 x3 y H locs ls hW hS hl hX; exact no_go hX
    | succ n ih => intro x2 x3 y H locs ls hW hS hl hX; exact B_4 _ ih _ _ _ _ _ _ hW hS hl hX
  refine lv_iconst (v := (0 : Int32)) hx hb dX12_canFinish_0 (by decide) ?_
  refine lv_topi (fun x2_1 e9 => ?_)
  have hX := lt_go hX e9
  refine lv_istore_n (lv' := [(2, .int x2_1), (0, .ref (gA G 40 0 0)), (1, .int p0)]) hx hb dX12_canFinish_1 rfl hl (by decide) rfl (fun ls hl => ?_)
  refine lv_iconst (v := (0 : Int32)) hx hb dX12_canFinish_2 (by decide) ?_
  refine lv_topi (fun x3_2 e9 => ?_)
  have hX := lt_go hX e9
  refine lv_istore_n (lv' := [(3, .int x3_2), (2, .int x2_1), (0, .ref (gA G 40 0 0)), (1, .int p0)]) hx hb dX12_canFinish_3 rfl hl (by decide) rfl (fun ls hl => ?_)
  exact L_4 FU _ _ _ _ _ _ hW hS (lv_sub hl [2, 3, 1, 0] rfl) hX
set_option maxHeartbeats 4000000 in
theorem k_X12_canFinish {p : Program} {l : Launch} {e : Env} {R : Room} {s : State} {m : MethodId} {args : Array Value} {below : List Frame} {meth : Method} {c : Code} {H : Heap} {locs : List Loc} {cells slots : Nat} {Q : State → Prop} {cc : ByteArray} {pc nL idx : Nat} {own : String} {ls : Array Slot} {rest : List Value} {G : Geo} {x y : Mem} {H0 : Heap} {p0 : Int32} {v : Int32} (hx : p.tables.exec = Jvm.exec) (hb : c.code = cc) (hml : c.maxLocals = nL) (hown : s.vm.findClass own = some m.cls) (htg : ∀ w ∈ wsG, w.before args s = true) (hK : Kt G s) (hW : Wh G x y H) (hS : va_S (gF G) H0 H locs) (h : m_X12_canFinish p0 y = some v) (hlk : Cond.methodLink own idx yX12_canFinish ∈ wsG) (hn : ls.size = nL) (hr : (rest.map fun v => v.category).sum ≤ 8) (hR1 : 1 + 1 ≤ R.frames) (hR2 : 8 + (4 + 11) + 24 ≤ R.locals) (hf : cells ≤ R.cells ∧ slots ≤ R.slots) (hdg : decode cc pc = .ok (.invokevirtual idx, 3)) (kk : ∀ (H1 : Heap) (locs1 : List Loc), Wh G x y H1 → va_S (gF G) H0 H1 locs1 → W p l e R s m args below meth c H1 locs1 cells slots Q (F0 m (pc + 3) ls (.int v :: rest))) : W p l e R s m args below meth c H locs cells slots Q (F0 m pc ls (.int p0 :: .ref (gA G 40 0 0) :: rest)) := by
  refine va_calli (va_runV (As := [.int p0]) (rest := rest) ⟨hx, hb, hml, hown, htg⟩ (c_X12_canFinish l G x y p0 v h) (cwV 1 htg (gd_V hlk q880 q881 q5 q882) rfl rfl rfl (by decide +kernel) ⟨hR1, hR2⟩) ⟨fun a U g mk q => ⟨q.1, q.2.1.calling, q.2.2⟩, rc_40 hK hW, fun U hU hW9 => ⟨rfl, hK.warm hW9, by rw [hU]; exact hW⟩⟩ rfl rfl hn rfl (lv_room hr) hdg hf) hS (fun _ _ h9 => h9) (fun _ h9 => h9) ?_
  intro r9 u t H1 locs1 ht hvm hw hB hz1 hk1 hS1
  replace hB : Wh G x y t.heap := hB
  rw [ht] at hB
  replace hw : r9 = v := hw
  subst hw
  exact kk H1 locs1 hB hS1
/-! METHOD X12_findStuck -/
def m_X12_findStuck_b55 (k55 : Int32 → Mem → Option (Int32 × Mem)) (x2 : Int32) (y : Mem) : Option (Int32 × Mem) :=
  if (3 : Int32) ≤ x2 then (some ((-1 : Int32), y)) else (gd_ x2 3 (if (y 142 0 0 x2.toNatClampNeg) < 0 then (lt_ (x2 + (1 : Int32)) fun x2_9 => k55 x2_9 y) else (some (x2, y))))
def m_X12_findStuck_l55 : Nat → Int32 → Mem → Option (Int32 × Mem)
  | 0, _, _ => none
  | n + 1, x2, y => m_X12_findStuck_b55 (m_X12_findStuck_l55 n) x2 y
def m_X12_findStuck_j44 (k2 : Int32 → Mem → Option (Int32 × Mem)) (k10 : Int32 → Int32 → Mem → Option (Int32 × Mem)) (x1 : Int32) (x2 : Int32) (y : Mem) : Option (Int32 × Mem) :=
  lt_ (x2 + (1 : Int32)) fun x2_18 => k10 x1 x2_18 y
def m_X12_findStuck_b10 (k2 : Int32 → Mem → Option (Int32 × Mem)) (k10 : Int32 → Int32 → Mem → Option (Int32 × Mem)) (x1 : Int32) (x2 : Int32) (y : Mem) : Option (Int32 × Mem) :=
  if (3 : Int32) ≤ x2 then (k2 x1 y) else (gd_ x2 3 (if (y 142 0 0 x2.toNatClampNeg) < 0 then (m_X12_findStuck_j44 k2 k10 x1 x2 y) else (bd_ (m_X12_canFinish x2 y) fun r14 => if r14 = 0 then (m_X12_findStuck_j44 k2 k10 x1 x2 y) else (lt_ (up4 y 142 0 0 x2.toNatClampNeg (-1 : Int32)) fun y16 => lt_ (1 : Int32) fun x1_17 => m_X12_findStuck_j44 k2 k10 x1_17 x2 y16))))
def m_X12_findStuck_l10 (k2 : Int32 → Mem → Option (Int32 × Mem)) : Nat → Int32 → Int32 → Mem → Option (Int32 × Mem)
  | 0, _, _, _ => none
  | n + 1, x1, x2, y => m_X12_findStuck_b10 k2 (m_X12_findStuck_l10 k2 n) x1 x2 y
def m_X12_findStuck_b2 (k2 : Int32 → Mem → Option (Int32 × Mem)) (x1 : Int32) (y : Mem) : Option (Int32 × Mem) :=
  if x1 = 0 then (lt_ (0 : Int32) fun x2_3 => m_X12_findStuck_l55 FU x2_3 y) else (lt_ (0 : Int32) fun x1_4 => lt_ (0 : Int32) fun x2_5 => m_X12_findStuck_l10 k2 FU x1_4 x2_5 y)
def m_X12_findStuck_l2 : Nat → Int32 → Mem → Option (Int32 × Mem)
  | 0, _, _ => none
  | n + 1, x1, y => m_X12_findStuck_b2 (m_X12_findStuck_l2 n) x1 y
def m_X12_findStuck (y : Mem) : Option (Int32 × Mem) :=
  lt_ (1 : Int32) fun x1_1 => m_X12_findStuck_l2 FU x1_1 y
abbrev WS_X12_findStuck : List Cond := .code yX12_findStuck cX12_findStuck 3 (some .int) :: wsG
abbrev RM_X12_findStuck : Room := { frames := 2, cells := 0, slots := 0, locals := 47 }
set_option maxHeartbeats 4000000 in
set_option maxRecDepth 100000 in
theorem c_X12_findStuck (l : Launch) (G : Geo) (x y : Mem) (r : (Int32 × Mem)) (h : m_X12_findStuck y = some r) : Met l yX12_findStuck WS_X12_findStuck RM_X12_findStuck (Pw G x y [.ref (gA G 40 0 0)]) (Qi G x r.2 r.1) 0 0 (gF G) := by
  refine Met.ofW (cc := cX12_findStuck) (maxL := 3) (ret := (some .int)) (by decide) rfl ?_
  intro p e s m args below meth c s₁ B hml hv
  obtain ⟨rfl, hK, hW⟩ := hv
  have hx := B.exec
  have hb := B.bytes
  have hr := B.returns
  have hts := atoms_spec (ws := WS_X12_findStuck) B.pre
  have htg : ∀ w ∈ wsG, w.before _ s = true := fun w h => hts w (List.mem_cons_of_mem _ h)
  have hown : s.vm.findClass RX12 = some m.cls := findClass_of_methodNamed B.named
  have hlocks := B.notSynchronized
  have hS : va_S (gF G) s.heap s.heap [] := va_S.rf
  have hl := lv_entry ([.ref (gA G 40 0 0)]) (n := 3) (Nat.le_of_ble_eq_true rfl)
  rw [lg_entry_eq]
  generalize (lg_sl ([.ref (gA G 40 0 0)]) ++ List.replicate (3 - (lg_sl ([.ref (gA G 40 0 0)])).length) Slot.unset).toArray = ls at hl ⊢
  have hl : lv_has ls 3 [(0, .ref (gA G 40 0 0))] := hl
  have hX := h
  unfold m_X12_findStuck at hX
  have B_55 : ∀ (k55 : Int32 → Mem → Option (Int32 × Mem)) (hk55 : ∀ (x2 : Int32) (y : Mem) (H : Heap) (locs : List Loc) (ls : Array Slot), Wh G x y H → va_S (gF G) s.heap H locs → lv_has ls 3 [(0, .ref (gA G 40 0 0)), (2, .int x2)] → k55 x2 y = some r → W p l e (headSpec WS_X12_findStuck RM_X12_findStuck).room s m ([.ref (gA G 40 0 0)] : List Value).toArray below meth c H locs 0 0 (MQ below (Qi G x r.2 r.1) ([.ref (gA G 40 0 0)] : List Value).toArray s 0 0 (gF G)) (F0 m 55 ls [])), ∀ (x2 : Int32) (y : Mem) (H : Heap) (locs : List Loc) (ls : Array Slot), Wh G x y H → va_S (gF G) s.heap H locs → lv_has ls 3 [(0, .ref (gA G 40 0 0)), (2, .int x2)] → m_X12_findStuck_b55 k55 x2 y = some r → W p l e (headSpec WS_X12_findStuck RM_X12_findStuck).room s m ([.ref (gA G 40 0 0)] : List Value).toArray below meth c H locs 0 0 (MQ below (Qi G x r.2 r.1) ([.ref (gA G 40 0 0)] : List Value).toArray s 0 0 (gF G)) (F0 m 55 ls []) := by
    intro k55 hk55 x2 y H locs ls hW hS hl hX
    unfold m_X12_findStuck_b55 at hX
    refine lv_iload_n hx hb dX12_findStuck_55 rfl (lv_at hl 1 rfl) ?_
    refine lv_iconst (v := (3 : Int32)) hx hb dX12_findStuck_56 (by decide) ?_
    refine lv_icmp_ge (tgt := 77) hx hb dX12_findStuck_57 (by decide) (fun c6 => ?_) (fun c6 => ?_)
    · have hX := it_t hX c6
      refine lv_iconst (v := (-1 : Int32)) hx hb dX12_findStuck_77 (by decide) ?_
      have hX := Option.some.inj hX
      subst hX
      exact rt_i hx hb hr hlocks hW hS dX12_findStuck_78
    · have hX := it_f hX c6
      refine lv_aload_n hx hb dX12_findStuck_60 rfl (lv_at hl 0 rfl) ?_
      refine gf_40_42 hx hb htg hown hK hW q169 dX12_findStuck_61 ?_
      refine lv_iload_n hx hb dX12_findStuck_64 rfl (lv_at hl 1 rfl) ?_
      obtain ⟨g7, hX⟩ := gd_go hX
      refine al_142 hx hb hK hW g7 dX12_findStuck_65 ?_
      refine lv_if_lt (tgt := 71) hx hb dX12_findStuck_66 (by decide) (fun c8 => ?_) (fun c8 => ?_)
      · have hX := it_t hX c8
        obtain ⟨x2_9, e9⟩ : ∃ w : Int32, w = (x2 + (1 : Int32)) := ⟨_, rfl⟩
        have hX := lt_go hX e9
        refine lv_iinc (v := x2_9) (lv' := [(2, .int x2_9), (0, .ref (gA G 40 0 0))]) hx hb dX12_findStuck_71 hl (k := 1) rfl (by rw [e9]; rfl) (by decide) rfl (fun ls hl => ?_)
        refine lv_goto (tgt := 55) hx hb dX12_findStuck_74 (by decide) ?_
        exact hk55 _ _ _ _ _ hW hS (lv_sub hl [1, 0] rfl) hX
      · have hX := it_f hX c8
        refine lv_iload_n hx hb dX12_findStuck_69 rfl (lv_at hl 1 rfl) ?_
        have hX := Option.some.inj hX
        subst hX
        exact rt_i hx hb hr hlocks hW hS dX12_findStuck_70
  have L_55 : ∀ (n : Nat), ∀ (x2 : Int32) (y : Mem) (H : Heap) (locs : List Loc) (ls : Array Slot), Wh G x y H → va_S (gF G) s.heap H locs → lv_has ls 3 [(0, .ref (gA G 40 0 0)), (2, .int x2)] → m_X12_findStuck_l55 n x2 y = some r → W p l e (headSpec WS_X12_findStuck RM_X12_findStuck).room s m ([.ref (gA G 40 0 0)] : List Value).toArray below meth c H locs 0 0 (MQ below (Qi G x r.2 r.1) ([.ref (gA G 40 0 0)] : List Value).toArray s 0 0 (gF G)) (F0 m 55 ls []) := by
    intro n
    induction n with
    | zero => intro x2 y H locs ls hW hS hl hX; exact no_go hX
    | succ n ih => intro x2 y H locs ls hW hS hl hX; exact B_55 _ ih _ _ _ _ _ hW hS hl hX
  have J_44 : ∀ (k2 : Int32 → Mem → Option (Int32 × Mem)) (hk2 : ∀ (x1 : Int32) (y : Mem) (H : Heap) (locs : List Loc) (ls : Array Slot), Wh G x y H → va_S (gF G) s.heap H locs → lv_has ls 3 [(0, .ref (gA G 40 0 0)), (1, .int x1)] → k2 x1 y = some r → W p l e (headSpec WS_X12_findStuck RM_X12_findStuck).room s m ([.ref (gA G 40 0 0)] : List Value).toArray below meth c H locs 0 0 (MQ below (Qi G x r.2 r.1) ([.ref (gA G 40 0 0)] : List Value).toArray s 0 0 (gF G)) (F0 m 2 ls [])) (k10 : Int32 → Int32 → Mem → Option (Int32 × Mem)) (hk10 : ∀ (x1 : Int32) (x2 : Int32) (y : Mem) (H : Heap) (locs : List Loc) (ls : Array Slot), Wh G x y H → va_S (gF G) s.heap H locs → lv_has ls 3 [(0, .ref (gA G 40 0 0)), (1, .int x1), (2, .int x2)] → k10 x1 x2 y = some r → W p l e (headSpec WS_X12_findStuck RM_X12_findStuck).room s m ([.ref (gA G 40 0 0)] : List Value).toArray below meth c H locs 0 0 (MQ below (Qi G x r.2 r.1) ([.ref (gA G 40 0 0)] : List Value).toArray s 0 0 (gF G)) (F0 m 10 ls [])), ∀ (x1 : Int32) (x2 : Int32) (y : Mem) (H : Heap) (locs : List Loc) (ls : Array Slot), Wh G x y H → va_S (gF G) s.heap H locs → lv_has ls 3 [(0, .ref (gA G 40 0 0)), (1, .int x1), (2, .int x2)] → m_X12_findStuck_j44 k2 k10 x1 x2 y = some r → W p l e (headSpec WS_X12_findStuck RM_X12_findStuck).room s m ([.ref (gA G 40 0 0)] : List Value).toArray below meth c H locs 0 0 (MQ below (Qi G x r.2 r.1) ([.ref (gA G 40 0 0)] : List Value).toArray s 0 0 (gF G)) (F0 m 44 ls []) := by
    intro k2 hk2 k10 hk10 x1 x2 y H locs ls hW hS hl hX
    unfold m_X12_findStuck_j44 at hX
    obtain ⟨x2_18, e9⟩ : ∃ w : Int32, w = (x2 + (1 : Int32)) := ⟨_, rfl⟩
    have hX := lt_go hX e9
    refine lv_iinc (v := x2_18) (lv' := [(2, .int x2_18), (0, .ref (gA G 40 0 0)), (1, .int x1)]) hx hb dX12_findStuck_44 hl (k := 2) rfl (by rw [e9]; rfl) (by decide) rfl (fun ls hl => ?_)
    refine lv_goto (tgt := 10) hx hb dX12_findStuck_47 (by decide) ?_
    exact hk10 _ _ _ _ _ _ hW hS (lv_sub hl [1, 2, 0] rfl) hX
  have B_10 : ∀ (k2 : Int32 → Mem → Option (Int32 × Mem)) (hk2 : ∀ (x1 : Int32) (y : Mem) (H : Heap) (locs : List Loc) (ls : Array Slot), Wh G x y H → va_S (gF G) s.heap H locs → lv_has ls 3 [(0, .ref (gA G 40 0 0)), (1, .int x1)] → k2 x1 y = some r → W p l e (headSpec WS_X12_findStuck RM_X12_findStuck).room s m ([.ref (gA G 40 0 0)] : List Value).toArray below meth c H locs 0 0 (MQ below (Qi G x r.2 r.1) ([.ref (gA G 40 0 0)] : List Value).toArray s 0 0 (gF G)) (F0 m 2 ls [])) (k10 : Int32 → Int32 → Mem → Option (Int32 × Mem)) (hk10 : ∀ (x1 : Int32) (x2 : Int32) (y : Mem) (H : Heap) (locs : List Loc) (ls : Array Slot), Wh G x y H → va_S (gF G) s.heap H locs → lv_has ls 3 [(0, .ref (gA G 40 0 0)), (1, .int x1), (2, .int x2)] → k10 x1 x2 y = some r → W p l e (headSpec WS_X12_findStuck RM_X12_findStuck).room s m ([.ref (gA G 40 0 0)] : List Value).toArray below meth c H locs 0 0 (MQ below (Qi G x r.2 r.1) ([.ref (gA G 40 0 0)] : List Value).toArray s 0 0 (gF G)) (F0 m 10 ls [])), ∀ (x1 : Int32) (x2 : Int32) (y : Mem) (H : Heap) (locs : List Loc) (ls : Array Slot), Wh G x y H → va_S (gF G) s.heap H locs → lv_has ls 3 [(0, .ref (gA G 40 0 0)), (1, .int x1), (2, .int x2)] → m_X12_findStuck_b10 k2 k10 x1 x2 y = some r → W p l e (headSpec WS_X12_findStuck RM_X12_findStuck).room s m ([.ref (gA G 40 0 0)] : List Value).toArray below meth c H locs 0 0 (MQ below (Qi G x r.2 r.1) ([.ref (gA G 40 0 0)] : List Value).toArray s 0 0 (gF G)) (F0 m 10 ls []) := by
    intro k2 hk2 k10 hk10 x1 x2 y H locs ls hW hS hl hX
    unfold m_X12_findStuck_b10 at hX
    refine lv_iload_n hx hb dX12_findStuck_10 rfl (lv_at hl 2 rfl) ?_
    refine lv_iconst (v := (3 : Int32)) hx hb dX12_findStuck_11 (by decide) ?_
    refine lv_icmp_ge (tgt := 50) hx hb dX12_findStuck_12 (by decide) (fun c10 => ?_) (fun c10 => ?_)
    · have hX := it_t hX c10
      refine lv_goto (tgt := 2) hx hb dX12_findStuck_50 (by decide) ?_
      exact hk2 _ _ _ _ _ hW hS (lv_sub hl [0, 1] rfl) hX
    · have hX := it_f hX c10
      refine lv_aload_n hx hb dX12_findStuck_15 rfl (lv_at hl 0 rfl) ?_
      refine gf_40_42 hx hb htg hown hK hW q169 dX12_findStuck_16 ?_
      refine lv_iload_n hx hb dX12_findStuck_19 rfl (lv_at hl 2 rfl) ?_
      obtain ⟨g11, hX⟩ := gd_go hX
      refine al_142 hx hb hK hW g11 dX12_findStuck_20 ?_
      refine lv_if_lt (tgt := 44) hx hb dX12_findStuck_21 (by decide) (fun c12 => ?_) (fun c12 => ?_)
      · have hX := it_t hX c12
        exact J_44 k2 hk2 k10 hk10 _ _ _ _ _ _ hW hS (lv_sub hl [0, 1, 2] rfl) hX
      · have hX := it_f hX c12
        refine lv_aload_n hx hb dX12_findStuck_24 rfl (lv_at hl 0 rfl) ?_
        refine lv_iload_n hx hb dX12_findStuck_25 rfl (lv_at hl 2 rfl) ?_
        obtain ⟨r14, h13, hX⟩ := bd_go hX
        refine k_X12_canFinish hx hb hml hown htg hK hW hS h13 q879 hl.1 (Nat.le_of_ble_eq_true rfl) (Nat.le_of_ble_eq_true rfl) (Nat.le_of_ble_eq_true rfl) ⟨Nat.zero_le _, Nat.zero_le _⟩ dX12_findStuck_26 (fun H locs hW hS => ?_)
        refine lv_if_ne (tgt := 35) hx hb dX12_findStuck_29 (by decide) (fun c15 => ?_) (fun c15 => ?_)
        · have hX := it_f hX c15
          refine lv_aload_n hx hb dX12_findStuck_35 rfl (lv_at hl 0 rfl) ?_
          refine gf_40_42 hx hb htg hown hK hW q169 dX12_findStuck_36 ?_
          refine lv_iload_n hx hb dX12_findStuck_39 rfl (lv_at hl 2 rfl) ?_
          refine lv_iconst (v := (-1 : Int32)) hx hb dX12_findStuck_40 (by decide) ?_
          refine as_142 hx hb hK hW hS g11 dX12_findStuck_41 (fun H locs hW hS => ?_)
          obtain ⟨y16, e9⟩ : ∃ w : Mem, w = (up4 y 142 0 0 x2.toNatClampNeg (-1 : Int32)) := ⟨_, rfl⟩
          rw [← e9] at hW
          have hX := lt_go hX e9
          refine lv_iconst (v := (1 : Int32)) hx hb dX12_findStuck_42 (by decide) ?_
          refine lv_topi (fun x1_17 e9 => ?_)
          have hX := lt_go hX e9
          refine lv_istore_n (lv' := [(1, .int x1_17), (0, .ref (gA G 40 0 0)), (2, .int x2)]) hx hb dX12_findStuck_43 rfl hl (by decide) rfl (fun ls hl => ?_)
          exact J_44 k2 hk2 k10 hk10 _ _ _ _ _ _ hW hS (lv_sub hl [1, 0, 2] rfl) hX
        · have hX := it_t hX c15
          refine lv_goto (tgt := 44) hx hb dX12_findStuck_32 (by decide) ?_
          exact J_44 k2 hk2 k10 hk10 _ _ _ _ _ _ hW hS (lv_sub hl [0, 1, 2] rfl) hX
  have L_10 : ∀ (k2 : Int32 → Mem → Option (Int32 × Mem)) (hk2 : ∀ (x1 : Int32) (y : Mem) (H : Heap) (locs : List Loc) (ls : Array Slot), Wh G x y H → va_S (gF G) s.heap H locs → lv_has ls 3 [(0, .ref (gA G 40 0 0)), (1, .int x1)] → k2 x1 y = some r → W p l e (headSpec WS_X12_findStuck RM_X12_findStuck).room s m ([.ref (gA G 40 0 0)] : List Value).toArray below meth c H locs 0 0 (MQ below (Qi G x r.2 r.1) ([.ref (gA G 40 0 0)] : List Value).toArray s 0 0 (gF G)) (F0 m 2 ls [])) (n : Nat), ∀ (x1 : Int32) (x2 : Int32) (y : Mem) (H : Heap) (locs : List Loc) (ls : Array Slot), Wh G x y H → va_S (gF G) s.heap H locs → lv_has ls 3 [(0, .ref (gA G 40 0 0)), (1, .int x1), (2, .int x2)] → m_X12_findStuck_l10 k2 n x1 x2 y = some r → W p l e (headSpec WS_X12_findStuck RM_X12_findStuck).room s m ([.ref (gA G 40 0 0)] : List Value).toArray below meth c H locs 0 0 (MQ below (Qi G x r.2 r.1) ([.ref (gA G 40 0 0)] : List Value).toArray s 0 0 (gF G)) (F0 m 10 ls []) := by
    intro k2 hk2 n
    induction n with
    | zero => intro x1 x2 y H locs ls hW hS hl hX; exact no_go hX
    | succ n ih => intro x1 x2 y H locs ls hW hS hl hX; exact B_10 k2 hk2 _ ih _ _ _ _ _ _ hW hS hl hX
  have B_2 : ∀ (k2 : Int32 → Mem → Option (Int32 × Mem)) (hk2 : ∀ (x1 : Int32) (y : Mem) (H : Heap) (locs : List Loc) (ls : Array Slot), Wh G x y H → va_S (gF G) s.heap H locs → lv_has ls 3 [(0, .ref (gA G 40 0 0)), (1, .int x1)] → k2 x1 y = some r → W p l e (headSpec WS_X12_findStuck RM_X12_findStuck).room s m ([.ref (gA G 40 0 0)] : List Value).toArray below meth c H locs 0 0 (MQ below (Qi G x r.2 r.1) ([.ref (gA G 40 0 0)] : List Value).toArray s 0 0 (gF G)) (F0 m 2 ls [])), ∀ (x1 : Int32) (y : Mem) (H : Heap) (locs : List Loc) (ls : Array Slot), Wh G x y H → va_S (gF G) s.heap H locs → lv_has ls 3 [(0, .ref (gA G 40 0 0)), (1, .int x1)] → m_X12_findStuck_b2 k2 x1 y = some r → W p l e (headSpec WS_X12_findStuck RM_X12_findStuck).room s m ([.ref (gA G 40 0 0)] : List Value).toArray below meth c H locs 0 0 (MQ below (Qi G x r.2 r.1) ([.ref (gA G 40 0 0)] : List Value).toArray s 0 0 (gF G)) (F0 m 2 ls []) := by
    intro k2 hk2 x1 y H locs ls hW hS hl hX
    unfold m_X12_findStuck_b2 at hX
    refine lv_iload_n hx hb dX12_findStuck_2 rfl (lv_at hl 1 rfl) ?_
    refine lv_if_eq (tgt := 53) hx hb dX12_findStuck_3 (by decide) (fun c2 => ?_) (fun c2 => ?_)
    · have hX := it_t hX c2
      refine lv_iconst (v := (0 : Int32)) hx hb dX12_findStuck_53 (by decide) ?_
      refine lv_topi (fun x2_3 e9 => ?_)
      have hX := lt_go hX e9
      refine lv_istore_n (lv' := [(2, .int x2_3), (0, .ref (gA G 40 0 0)), (1, .int x1)]) hx hb dX12_findStuck_54 rfl hl (by decide) rfl (fun ls hl => ?_)
      exact L_55 FU _ _ _ _ _ hW hS (lv_sub hl [1, 0] rfl) hX
    · have hX := it_f hX c2
      refine lv_iconst (v := (0 : Int32)) hx hb dX12_findStuck_6 (by decide) ?_
      refine lv_topi (fun x1_4 e9 => ?_)
      have hX := lt_go hX e9
      refine lv_istore_n (lv' := [(1, .int x1_4), (0, .ref (gA G 40 0 0))]) hx hb dX12_findStuck_7 rfl hl (by decide) rfl (fun ls hl => ?_)
      refine lv_iconst (v := (0 : Int32)) hx hb dX12_findStuck_8 (by decide) ?_
      refine lv_topi (fun x2_5 e9 => ?_)
      have hX := lt_go hX e9
      refine lv_istore_n (lv' := [(2, .int x2_5), (1, .int x1_4), (0, .ref (gA G 40 0 0))]) hx hb dX12_findStuck_9 rfl hl (by decide) rfl (fun ls hl => ?_)
      exact L_10 k2 hk2 FU _ _ _ _ _ _ hW hS (lv_sub hl [2, 1, 0] rfl) hX
  have L_2 : ∀ (n : Nat), ∀ (x1 : Int32) (y : Mem) (H : Heap) (locs : List Loc) (ls : Array Slot), Wh G x y H → va_S (gF G) s.heap H locs → lv_has ls 3 [(0, .ref (gA G 40 0 0)), (1, .int x1)] → m_X12_findStuck_l2 n x1 y = some r → W p l e (headSpec WS_X12_findStuck RM_X12_findStuck).room s m ([.ref (gA G 40 0 0)] : List Value).toArray below meth c H locs 0 0 (MQ below (Qi G x r.2 r.1) ([.ref (gA G 40 0 0)] : List Value).toArray s 0 0 (gF G)) (F0 m 2 ls []) := by
    intro n
    induction n with
    | zero => intro x1 y H locs ls hW hS hl hX; exact no_go hX
    | succ n ih => intro x1 y H locs ls hW hS hl hX; exact B_2 _ ih _ _ _ _ _ hW hS hl hX
  refine lv_iconst (v := (1 : Int32)) hx hb dX12_findStuck_0 (by decide) ?_
  refine lv_topi (fun x1_1 e9 => ?_)
  have hX := lt_go hX e9
  refine lv_istore_n (lv' := [(1, .int x1_1), (0, .ref (gA G 40 0 0))]) hx hb dX12_findStuck_1 rfl hl (by decide) rfl (fun ls hl => ?_)
  exact L_2 FU _ _ _ _ _ hW hS (lv_sub hl [1, 0] rfl) hX
set_option maxHeartbeats 4000000 in
theorem k_X12_findStuck {p : Program} {l : Launch} {e : Env} {R : Room} {s : State} {m : MethodId} {args : Array Value} {below : List Frame} {meth : Method} {c : Code} {H : Heap} {locs : List Loc} {cells slots : Nat} {Q : State → Prop} {cc : ByteArray} {pc nL idx : Nat} {own : String} {ls : Array Slot} {rest : List Value} {G : Geo} {x y : Mem} {H0 : Heap} {v : Int32} {z : Mem} (hx : p.tables.exec = Jvm.exec) (hb : c.code = cc) (hml : c.maxLocals = nL) (hown : s.vm.findClass own = some m.cls) (htg : ∀ w ∈ wsG, w.before args s = true) (hK : Kt G s) (hW : Wh G x y H) (hS : va_S (gF G) H0 H locs) (h : m_X12_findStuck y = some (v, z)) (hlk : Cond.methodLink own idx yX12_findStuck ∈ wsG) (hn : ls.size = nL) (hr : (rest.map fun v => v.category).sum ≤ 8) (hR1 : 2 + 1 ≤ R.frames) (hR2 : 8 + (3 + 11) + 47 ≤ R.locals) (hf : cells ≤ R.cells ∧ slots ≤ R.slots) (hdg : decode cc pc = .ok (.invokevirtual idx, 3)) (kk : ∀ (H1 : Heap) (locs1 : List Loc), Wh G x z H1 → va_S (gF G) H0 H1 locs1 → W p l e R s m args below meth c H1 locs1 cells slots Q (F0 m (pc + 3) ls (.int v :: rest))) : W p l e R s m args below meth c H locs cells slots Q (F0 m pc ls (.ref (gA G 40 0 0) :: rest)) := by
  refine va_calli (va_runV (As := []) (rest := rest) ⟨hx, hb, hml, hown, htg⟩ (c_X12_findStuck l G x y (v, z) h) (cwV 0 htg (gd_V hlk q876 q877 q5 q878) rfl rfl rfl (by decide +kernel) ⟨hR1, hR2⟩) ⟨fun a U g mk q => ⟨q.1, q.2.1.calling, q.2.2⟩, rc_40 hK hW, fun U hU hW9 => ⟨rfl, hK.warm hW9, by rw [hU]; exact hW⟩⟩ rfl rfl hn rfl (lv_room hr) hdg hf) hS (fun _ _ h9 => h9) (fun _ h9 => h9) ?_
  intro r9 u t H1 locs1 ht hvm hw hB hz1 hk1 hS1
  replace hB : Wh G x z t.heap := hB
  rw [ht] at hB
  replace hw : r9 = v := hw
  subst hw
  exact kk H1 locs1 hB hS1
