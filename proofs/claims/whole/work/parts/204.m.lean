/-! METHOD X10_countTick -/
def m_X10_countTick_j29 (p0 : Fin 10) (p1 : Int32) (k2 : Int32 → Mem → Option Mem) (x2 : Int32) (x : Mem) : Option Mem :=
  lt_ (x2 + (1 : Int32)) fun x2_6 => k2 x2_6 x
def m_X10_countTick_b2 (p0 : Fin 10) (p1 : Int32) (k2 : Int32 → Mem → Option Mem) (x2 : Int32) (x : Mem) : Option Mem :=
  if (8 : Int32) ≤ x2 then (some x) else (if (p1 &&& (shl32 (1 : Int32) x2)) = 0 then (m_X10_countTick_j29 p0 p1 k2 x2 x) else (gd_ x2 8 (lt_ (up4 x 5 ↑p0 0 x2.toNatClampNeg ((x 5 ↑p0 0 x2.toNatClampNeg) + (1 : Int32))) fun x5 => m_X10_countTick_j29 p0 p1 k2 x2 x5)))
def m_X10_countTick_l2 (p0 : Fin 10) (p1 : Int32) : Nat → Int32 → Mem → Option Mem
  | 0, _, _ => none
  | n + 1, x2, x => m_X10_countTick_b2 p0 p1 (m_X10_countTick_l2 p0 p1 n) x2 x
def m_X10_countTick (p0 : Fin 10) (p1 : Int32) (x : Mem) : Option Mem :=
  lt_ (0 : Int32) fun x2_1 => m_X10_countTick_l2 p0 p1 FU x2_1 x
abbrev WS_X10_countTick : List Cond := .code yX10_countTick cX10_countTick 3 none :: wsG
abbrev RM_X10_countTick : Room := { frames := 0, cells := 0, slots := 0, locals := 0 }
set_option maxHeartbeats 4000000 in
set_option maxRecDepth 100000 in
theorem c_X10_countTick (l : Launch) (G : Geo) (x y : Mem) (p0 : Fin 10) (p1 : Int32) (r : Mem) (h : m_X10_countTick p0 p1 x = some r) : Met l yX10_countTick WS_X10_countTick RM_X10_countTick (Pw G x y [.ref (gA G 3 ↑p0 0), .int p1]) (Qv G r y) 0 0 (gF G) := by
  refine Met.ofW (cc := cX10_countTick) (maxL := 3) (ret := none) (by decide) rfl ?_
  intro p e s m args below meth c s₁ B hml hv
  obtain ⟨rfl, hK, hW⟩ := hv
  have hx := B.exec
  have hb := B.bytes
  have hr := B.returns
  have hts := atoms_spec (ws := WS_X10_countTick) B.pre
  have htg : ∀ w ∈ wsG, w.before _ s = true := fun w h => hts w (List.mem_cons_of_mem _ h)
  have hown : s.vm.findClass RX10 = some m.cls := findClass_of_methodNamed B.named
  have hlocks := B.notSynchronized
  have hS : va_S (gF G) s.heap s.heap [] := va_S.rf
  have hl := lv_entry ([.ref (gA G 3 ↑p0 0), .int p1]) (n := 3) (Nat.le_of_ble_eq_true rfl)
  rw [lg_entry_eq]
  generalize (lg_sl ([.ref (gA G 3 ↑p0 0), .int p1]) ++ List.replicate (3 - (lg_sl ([.ref (gA G 3 ↑p0 0), .int p1])).length) Slot.unset).toArray = ls at hl ⊢
  have hl : lv_has ls 3 [(0, .ref (gA G 3 ↑p0 0)), (1, .int p1)] := hl
  have hX := h
  unfold m_X10_countTick at hX
  have J_29 : ∀ (k2 : Int32 → Mem → Option Mem) (hk2 : ∀ (x2 : Int32) (x : Mem) (H : Heap) (locs : List Loc) (ls : Array Slot), Wh G x y H → va_S (gF G) s.heap H locs → lv_has ls 3 [(0, .ref (gA G 3 ↑p0 0)), (1, .int p1), (2, .int x2)] → k2 x2 x = some r → W p l e (headSpec WS_X10_countTick RM_X10_countTick).room s m ([.ref (gA G 3 ↑p0 0), .int p1] : List Value).toArray below meth c H locs 0 0 (MQ below (Qv G r y) ([.ref (gA G 3 ↑p0 0), .int p1] : List Value).toArray s 0 0 (gF G)) (F0 m 2 ls [])), ∀ (x2 : Int32) (x : Mem) (H : Heap) (locs : List Loc) (ls : Array Slot), Wh G x y H → va_S (gF G) s.heap H locs → lv_has ls 3 [(0, .ref (gA G 3 ↑p0 0)), (1, .int p1), (2, .int x2)] → m_X10_countTick_j29 p0 p1 k2 x2 x = some r → W p l e (headSpec WS_X10_countTick RM_X10_countTick).room s m ([.ref (gA G 3 ↑p0 0), .int p1] : List Value).toArray below meth c H locs 0 0 (MQ below (Qv G r y) ([.ref (gA G 3 ↑p0 0), .int p1] : List Value).toArray s 0 0 (gF G)) (F0 m 29 ls []) := by
    intro k2 hk2 x2 x H locs ls hW hS hl hX
    unfold m_X10_countTick_j29 at hX
    obtain ⟨x2_6, e9⟩ : ∃ w : Int32, w = (x2 + (1 : Int32)) := ⟨_, rfl⟩
    have hX := lt_go hX e9
    refine lv_iinc (v := x2_6) (lv' := [(2, .int x2_6), (0, .ref (gA G 3 ↑p0 0)), (1, .int p1)]) hx hb dX10_countTick_29 hl (k := 2) rfl (by rw [e9]; rfl) (by decide) rfl (fun ls hl => ?_)
    refine lv_goto (tgt := 2) hx hb dX10_countTick_32 (by decide) ?_
    exact hk2 _ _ _ _ _ hW hS (lv_sub hl [1, 2, 0] rfl) hX
  have B_2 : ∀ (k2 : Int32 → Mem → Option Mem) (hk2 : ∀ (x2 : Int32) (x : Mem) (H : Heap) (locs : List Loc) (ls : Array Slot), Wh G x y H → va_S (gF G) s.heap H locs → lv_has ls 3 [(0, .ref (gA G 3 ↑p0 0)), (1, .int p1), (2, .int x2)] → k2 x2 x = some r → W p l e (headSpec WS_X10_countTick RM_X10_countTick).room s m ([.ref (gA G 3 ↑p0 0), .int p1] : List Value).toArray below meth c H locs 0 0 (MQ below (Qv G r y) ([.ref (gA G 3 ↑p0 0), .int p1] : List Value).toArray s 0 0 (gF G)) (F0 m 2 ls [])), ∀ (x2 : Int32) (x : Mem) (H : Heap) (locs : List Loc) (ls : Array Slot), Wh G x y H → va_S (gF G) s.heap H locs → lv_has ls 3 [(0, .ref (gA G 3 ↑p0 0)), (1, .int p1), (2, .int x2)] → m_X10_countTick_b2 p0 p1 k2 x2 x = some r → W p l e (headSpec WS_X10_countTick RM_X10_countTick).room s m ([.ref (gA G 3 ↑p0 0), .int p1] : List Value).toArray below meth c H locs 0 0 (MQ below (Qv G r y) ([.ref (gA G 3 ↑p0 0), .int p1] : List Value).toArray s 0 0 (gF G)) (F0 m 2 ls []) := by
    intro k2 hk2 x2 x H locs ls hW hS hl hX
    unfold m_X10_countTick_b2 at hX
    refine lv_iload_n hx hb dX10_countTick_2 rfl (lv_at hl 2 rfl) ?_
    refine lv_aload_n hx hb dX10_countTick_3 rfl (lv_at hl 0 rfl) ?_
    refine gf_3_2 hx hb htg hown hK hW p0 q66 dX10_countTick_4 ?_
    refine an_5 hx hb hK hW p0 dX10_countTick_7 ?_
    refine lv_icmp_ge (tgt := 35) hx hb dX10_countTick_8 (by decide) (fun c2 => ?_) (fun c2 => ?_)
    · have hX := it_t hX c2
      have hX := Option.some.inj hX
      subst hX
      exact rt_v hx hb hr hlocks hW hS dX10_countTick_35
    · have hX := it_f hX c2
      refine lv_iload_n hx hb dX10_countTick_11 rfl (lv_at hl 1 rfl) ?_
      refine lv_iconst (v := (1 : Int32)) hx hb dX10_countTick_12 (by decide) ?_
      refine lv_iload_n hx hb dX10_countTick_13 rfl (lv_at hl 2 rfl) ?_
      refine lv_ishl_ hx hb dX10_countTick_14 ?_
      refine lv_iand hx hb dX10_countTick_15 ?_
      refine lv_if_eq (tgt := 29) hx hb dX10_countTick_16 (by decide) (fun c3 => ?_) (fun c3 => ?_)
      · have hX := it_t hX c3
        exact J_29 k2 hk2 _ _ _ _ _ hW hS (lv_sub hl [0, 1, 2] rfl) hX
      · have hX := it_f hX c3
        refine lv_aload_n hx hb dX10_countTick_19 rfl (lv_at hl 0 rfl) ?_
        refine gf_3_2 hx hb htg hown hK hW p0 q66 dX10_countTick_20 ?_
        refine lv_iload_n hx hb dX10_countTick_23 rfl (lv_at hl 2 rfl) ?_
        refine lv_dup2_11 hx hb dX10_countTick_24 rfl rfl ?_
        obtain ⟨g4, hX⟩ := gd_go hX
        refine al_5 hx hb hK hW p0 g4 dX10_countTick_25 ?_
        refine lv_iconst (v := (1 : Int32)) hx hb dX10_countTick_26 (by decide) ?_
        refine lv_iadd hx hb dX10_countTick_27 ?_
        refine as_5 hx hb hK hW hS p0 g4 dX10_countTick_28 (fun H locs hW hS => ?_)
        obtain ⟨x5, e9⟩ : ∃ w : Mem, w = (up4 x 5 ↑p0 0 x2.toNatClampNeg ((x 5 ↑p0 0 x2.toNatClampNeg) + (1 : Int32))) := ⟨_, rfl⟩
        rw [← e9] at hW
        have hX := lt_go hX e9
        exact J_29 k2 hk2 _ _ _ _ _ hW hS (lv_sub hl [0, 1, 2] rfl) hX
  have L_2 : ∀ (n : Nat), ∀ (x2 : Int32) (x : Mem) (H : Heap) (locs : List Loc) (ls : Array Slot), Wh G x y H → va_S (gF G) s.heap H locs → lv_has ls 3 [(0, .ref (gA G 3 ↑p0 0)), (1, .int p1), (2, .int x2)] → m_X10_countTick_l2 p0 p1 n x2 x = some r → W p l e (headSpec WS_X10_countTick RM_X10_countTick).room s m ([.ref (gA G 3 ↑p0 0), .int p1] : List Value).toArray below meth c H locs 0 0 (MQ below (Qv G r y) ([.ref (gA G 3 ↑p0 0), .int p1] : List Value).toArray s 0 0 (gF G)) (F0 m 2 ls []) := by
    intro n
    induction n with
    | zero => intro x2 x H locs ls hW hS hl hX; exact no_go hX
    | succ n ih => intro x2 x H locs ls hW hS hl hX; exact B_2 _ ih _ _ _ _ _ hW hS hl hX
  refine lv_iconst (v := (0 : Int32)) hx hb dX10_countTick_0 (by decide) ?_
  refine lv_topi (fun x2_1 e9 => ?_)
  have hX := lt_go hX e9
  refine lv_istore_n (lv' := [(2, .int x2_1), (0, .ref (gA G 3 ↑p0 0)), (1, .int p1)]) hx hb dX10_countTick_1 rfl hl (by decide) rfl (fun ls hl => ?_)
  exact L_2 FU _ _ _ _ _ hW hS (lv_sub hl [1, 2, 0] rfl) hX
set_option maxHeartbeats 4000000 in
theorem k_X10_countTick {p : Program} {l : Launch} {e : Env} {R : Room} {s : State} {m : MethodId} {args : Array Value} {below : List Frame} {meth : Method} {c : Code} {H : Heap} {locs : List Loc} {cells slots : Nat} {Q : State → Prop} {cc : ByteArray} {pc nL idx : Nat} {own : String} {ls : Array Slot} {rest : List Value} {G : Geo} {x y : Mem} {H0 : Heap} {p0 : Fin 10} {p1 : Int32} {z : Mem} (hx : p.tables.exec = Jvm.exec) (hb : c.code = cc) (hml : c.maxLocals = nL) (hown : s.vm.findClass own = some m.cls) (htg : ∀ w ∈ wsG, w.before args s = true) (hK : Kt G s) (hW : Wh G x y H) (hS : va_S (gF G) H0 H locs) (h : m_X10_countTick p0 p1 x = some z) (hlk : Cond.methodLink own idx yX10_countTick ∈ wsG) (hn : ls.size = nL) (hr : (rest.map fun v => v.category).sum ≤ 8) (hR1 : 0 + 1 ≤ R.frames) (hR2 : 8 + (3 + 11) + 0 ≤ R.locals) (hf : cells ≤ R.cells ∧ slots ≤ R.slots) (hdg : decode cc pc = .ok (.invokevirtual idx, 3)) (kk : ∀ (H1 : Heap) (locs1 : List Loc), Wh G z y H1 → va_S (gF G) H0 H1 locs1 → W p l e R s m args below meth c H1 locs1 cells slots Q (F0 m (pc + 3) ls (rest))) : W p l e R s m args below meth c H locs cells slots Q (F0 m pc ls (.int p1 :: .ref (gA G 3 ↑p0 0) :: rest)) := by
  refine va_callv (va_runV (As := [.int p1]) (rest := rest) ⟨hx, hb, hml, hown, htg⟩ (c_X10_countTick l G x y p0 p1 z h) (cwV 1 htg (gd_V hlk q833 q834 q39 q835) rfl rfl rfl (by decide +kernel) ⟨hR1, hR2⟩) ⟨fun a U g mk q => ⟨q.1, q.2.1.calling, q.2.2⟩, rc_3 hK hW p0, fun U hU hW9 => ⟨rfl, hK.warm hW9, by rw [hU]; exact hW⟩⟩ rfl rfl hn rfl (lv_room hr) hdg hf) hS (fun _ _ h9 => h9) (fun _ h9 => h9) ?_
  intro u t H1 locs1 ht hvm hw hB hz1 hk1 hS1
  replace hB : Wh G z y t.heap := hB
  rw [ht] at hB
  exact kk H1 locs1 hB hS1
/-! METHOD X1_countTick -/
def m_X1_countTick_j39 (p0 : Fin 10) (k4 : Int32 → Int32 → Mem → Option Mem) (x1 : Int32) (x2 : Int32) (x : Mem) : Option Mem :=
  lt_ (x2 + (1 : Int32)) fun x2_12 => k4 x1 x2_12 x
def m_X1_countTick_b4 (p0 : Fin 10) (k4 : Int32 → Int32 → Mem → Option Mem) (x1 : Int32) (x2 : Int32) (x : Mem) : Option Mem :=
  if (3 : Int32) ≤ x2 then (bd_ (m_X10_countTick p0 x1 x) fun x6 => some x6) else (bd_ (m_X1_armAt p0 x2) fun r8 => lt_ (x1 ||| (x 0 ↑r8.1 ↑r8.2 6)) fun x1_9 => if (x 0 ↑r8.1 ↑r8.2 2) = 0 then (m_X1_countTick_j39 p0 k4 x1_9 x2 x) else (lt_ (up4 x 0 ↑r8.1 ↑r8.2 11 ((x 0 ↑r8.1 ↑r8.2 11) + (1 : Int32))) fun x11 => m_X1_countTick_j39 p0 k4 x1_9 x2 x11))
def m_X1_countTick_l4 (p0 : Fin 10) : Nat → Int32 → Int32 → Mem → Option Mem
  | 0, _, _, _ => none
  | n + 1, x1, x2, x => m_X1_countTick_b4 p0 (m_X1_countTick_l4 p0 n) x1 x2 x
def m_X1_countTick (p0 : Fin 10) (x : Mem) : Option Mem :=
  lt_ (0 : Int32) fun x1_1 => lt_ (0 : Int32) fun x2_2 => m_X1_countTick_l4 p0 FU x1_1 x2_2 x
abbrev WS_X1_countTick : List Cond := .code yX1_countTick cX1_countTick 4 none :: wsG
abbrev RM_X1_countTick : Room := { frames := 1, cells := 0, slots := 0, locals := 22 }
set_option maxHeartbeats 4000000 in
set_option maxRecDepth 100000 in
theorem c_X1_countTick (l : Launch) (G : Geo) (x y : Mem) (p0 : Fin 10) (r : Mem) (h : m_X1_countTick p0 x = some r) : Met l yX1_countTick WS_X1_countTick RM_X1_countTick (Pw G x y [.ref (gA G 2 ↑p0 0)]) (Qv G r y) 0 0 (gF G) := by
  refine Met.ofW (cc := cX1_countTick) (maxL := 4) (ret := none) (by decide) rfl ?_
  intro p e s m args below meth c s₁ B hml hv
  obtain ⟨rfl, hK, hW⟩ := hv
  have hx := B.exec
  have hb := B.bytes
  have hr := B.returns
  have hts := atoms_spec (ws := WS_X1_countTick) B.pre
  have htg : ∀ w ∈ wsG, w.before _ s = true := fun w h => hts w (List.mem_cons_of_mem _ h)
  have hown : s.vm.findClass RX1 = some m.cls := findClass_of_methodNamed B.named
  have hlocks := B.notSynchronized
  have hS : va_S (gF G) s.heap s.heap [] := va_S.rf
  have hl := lv_entry ([.ref (gA G 2 ↑p0 0)]) (n := 4) (Nat.le_of_ble_eq_true rfl)
  rw [lg_entry_eq]
  generalize (lg_sl ([.ref (gA G 2 ↑p0 0)]) ++ List.replicate (4 - (lg_sl ([.ref (gA G 2 ↑p0 0)])).length) Slot.unset).toArray = ls at hl ⊢
  have hl : lv_has ls 4 [(0, .ref (gA G 2 ↑p0 0))] := hl
  have hX := h
  unfold m_X1_countTick at hX
  have J_39 : ∀ (k4 : Int32 → Int32 → Mem → Option Mem) (hk4 : ∀ (x1 : Int32) (x2 : Int32) (x : Mem) (H : Heap) (locs : List Loc) (ls : Array Slot), Wh G x y H → va_S (gF G) s.heap H locs → lv_has ls 4 [(0, .ref (gA G 2 ↑p0 0)), (1, .int x1), (2, .int x2)] → k4 x1 x2 x = some r → W p l e (headSpec WS_X1_countTick RM_X1_countTick).room s m ([.ref (gA G 2 ↑p0 0)] : List Value).toArray below meth c H locs 0 0 (MQ below (Qv G r y) ([.ref (gA G 2 ↑p0 0)] : List Value).toArray s 0 0 (gF G)) (F0 m 4 ls [])), ∀ (x1 : Int32) (x2 : Int32) (x : Mem) (H : Heap) (locs : List Loc) (ls : Array Slot), Wh G x y H → va_S (gF G) s.heap H locs → lv_has ls 4 [(0, .ref (gA G 2 ↑p0 0)), (1, .int x1), (2, .int x2)] → m_X1_countTick_j39 p0 k4 x1 x2 x = some r → W p l e (headSpec WS_X1_countTick RM_X1_countTick).room s m ([.ref (gA G 2 ↑p0 0)] : List Value).toArray below meth c H locs 0 0 (MQ below (Qv G r y) ([.ref (gA G 2 ↑p0 0)] : List Value).toArray s 0 0 (gF G)) (F0 m 39 ls []) := by
    intro k4 hk4 x1 x2 x H locs ls hW hS hl hX
    unfold m_X1_countTick_j39 at hX
    obtain ⟨x2_12, e9⟩ : ∃ w : Int32, w = (x2 + (1 : Int32)) := ⟨_, rfl⟩
    have hX := lt_go hX e9
    refine lv_iinc (v := x2_12) (lv' := [(2, .int x2_12), (0, .ref (gA G 2 ↑p0 0)), (1, .int x1)]) hx hb dX1_countTick_39 hl (k := 2) rfl (by rw [e9]; rfl) (by decide) rfl (fun ls hl => ?_)
    refine lv_goto (tgt := 4) hx hb dX1_countTick_42 (by decide) ?_
    exact hk4 _ _ _ _ _ _ hW hS (lv_sub hl [1, 2, 0] rfl) hX
  have B_4 : ∀ (k4 : Int32 → Int32 → Mem → Option Mem) (hk4 : ∀ (x1 : Int32) (x2 : Int32) (x : Mem) (H : Heap) (locs : List Loc) (ls : Array Slot), Wh G x y H → va_S (gF G) s.heap H locs → lv_has ls 4 [(0, .ref (gA G 2 ↑p0 0)), (1, .int x1), (2, .int x2)] → k4 x1 x2 x = some r → W p l e (headSpec WS_X1_countTick RM_X1_countTick).room s m ([.ref (gA G 2 ↑p0 0)] : List Value).toArray below meth c H locs 0 0 (MQ below (Qv G r y) ([.ref (gA G 2 ↑p0 0)] : List Value).toArray s 0 0 (gF G)) (F0 m 4 ls [])), ∀ (x1 : Int32) (x2 : Int32) (x : Mem) (H : Heap) (locs : List Loc) (ls : Array Slot), Wh G x y H → va_S (gF G) s.heap H locs → lv_has ls 4 [(0, .ref (gA G 2 ↑p0 0)), (1, .int x1), (2, .int x2)] → m_X1_countTick_b4 p0 k4 x1 x2 x = some r → W p l e (headSpec WS_X1_countTick RM_X1_countTick).room s m ([.ref (gA G 2 ↑p0 0)] : List Value).toArray below meth c H locs 0 0 (MQ below (Qv G r y) ([.ref (gA G 2 ↑p0 0)] : List Value).toArray s 0 0 (gF G)) (F0 m 4 ls []) := by
    intro k4 hk4 x1 x2 x H locs ls hW hS hl hX
    unfold m_X1_countTick_b4 at hX
    refine lv_iload_n hx hb dX1_countTick_4 rfl (lv_at hl 2 rfl) ?_
    refine lv_iconst (v := (3 : Int32)) hx hb dX1_countTick_5 (by decide) ?_
    refine lv_icmp_ge (tgt := 45) hx hb dX1_countTick_6 (by decide) (fun c3 => ?_) (fun c3 => ?_)
    · have hX := it_t hX c3
      refine lv_aload_n hx hb dX1_countTick_45 rfl (lv_at hl 0 rfl) ?_
      refine gf_2_7 hx hb htg hown hK hW p0 q40 dX1_countTick_46 ?_
      refine lv_iload_n hx hb dX1_countTick_49 rfl (lv_at hl 1 rfl) ?_
      obtain ⟨x6, h4, hX⟩ := bd_go hX
      refine k_X10_countTick hx hb hml hown htg hK hW hS h4 q832 hl.1 (Nat.le_of_ble_eq_true rfl) (Nat.le_of_ble_eq_true rfl) (Nat.le_of_ble_eq_true rfl) ⟨Nat.zero_le _, Nat.zero_le _⟩ dX1_countTick_50 (fun H locs hW hS => ?_)
      have hX := Option.some.inj hX
      subst hX
      exact rt_v hx hb hr hlocks hW hS dX1_countTick_53
    · have hX := it_f hX c3
      refine lv_aload_n hx hb dX1_countTick_9 rfl (lv_at hl 0 rfl) ?_
      refine lv_iload_n hx hb dX1_countTick_10 rfl (lv_at hl 2 rfl) ?_
      obtain ⟨r8, h7, hX⟩ := bd_go hX
      refine k_X1_armAt hx hb hml hown htg hK hW hS h7 q210 hl.1 (Nat.le_of_ble_eq_true rfl) (Nat.le_of_ble_eq_true rfl) (Nat.le_of_ble_eq_true rfl) ⟨Nat.zero_le _, Nat.zero_le _⟩ dX1_countTick_11 (fun H locs hW hS => ?_)
      refine lv_astore_n (lv' := [(3, .ref (gA G 0 ↑r8.1 ↑r8.2)), (0, .ref (gA G 2 ↑p0 0)), (1, .int x1), (2, .int x2)]) hx hb dX1_countTick_14 rfl hl (by decide) rfl (fun ls hl => ?_)
      refine lv_iload_n hx hb dX1_countTick_15 rfl (lv_at hl 2 rfl) ?_
      refine lv_aload_n hx hb dX1_countTick_16 rfl (lv_at hl 0 rfl) ?_
      refine gf_0_6 hx hb htg hown hK hW r8 q209 dX1_countTick_17 ?_
      refine lv_ior hx hb dX1_countTick_20 ?_
      refine lv_topi (fun x1_9 e9 => ?_)
      have hX := lt_go hX e9
      refine lv_istore_n (lv' := [(1, .int x1_9), (3, .ref (gA G 0 ↑r8.1 ↑r8.2)), (0, .ref (gA G 2 ↑p0 0)), (2, .int x2)]) hx hb dX1_countTick_21 rfl hl (by decide) rfl (fun ls hl => ?_)
      refine lv_aload_n hx hb dX1_countTick_22 rfl (lv_at hl 1 rfl) ?_
      refine gf_0_2 hx hb htg hown hK hW r8 q643 dX1_countTick_23 ?_
      refine lv_if_eq (tgt := 39) hx hb dX1_countTick_26 (by decide) (fun c10 => ?_) (fun c10 => ?_)
      · have hX := it_t hX c10
        exact J_39 k4 hk4 _ _ _ _ _ _ hW hS (lv_sub hl [2, 0, 3] rfl) hX
      · have hX := it_f hX c10
        refine lv_aload_n hx hb dX1_countTick_29 rfl (lv_at hl 1 rfl) ?_
        refine lv_dup hx hb dX1_countTick_30 rfl ?_
        refine gf_0_11 hx hb htg hown hK hW r8 q650 dX1_countTick_31 ?_
        refine lv_iconst (v := (1 : Int32)) hx hb dX1_countTick_34 (by decide) ?_
        refine lv_iadd hx hb dX1_countTick_35 ?_
        refine pf_0_11 hx hb htg hown hK hW hS r8 q650 dX1_countTick_36 (fun H locs hW hS => ?_)
        obtain ⟨x11, e9⟩ : ∃ w : Mem, w = (up4 x 0 ↑r8.1 ↑r8.2 11 ((x 0 ↑r8.1 ↑r8.2 11) + (1 : Int32))) := ⟨_, rfl⟩
        rw [← e9] at hW
        have hX := lt_go hX e9
        exact J_39 k4 hk4 _ _ _ _ _ _ hW hS (lv_sub hl [2, 0, 3] rfl) hX
  have L_4 : ∀ (n : Nat), ∀ (x1 : Int32) (x2 : Int32) (x : Mem) (H : Heap) (locs : List Loc) (ls : Array Slot), Wh G x y H → va_S (gF G) s.heap H locs → lv_has ls 4 [(0, .ref (gA G 2 ↑p0 0)), (1, .int x1), (2, .int x2)] → m_X1_countTick_l4 p0 n x1 x2 x = some r → W p l e (headSpec WS_X1_countTick RM_X1_countTick).room s m ([.ref (gA G 2 ↑p0 0)] : List Value).toArray below meth c H locs 0 0 (MQ below (Qv G r y) ([.ref (gA G 2 ↑p0 0)] : List Value).toArray s 0 0 (gF G)) (F0 m 4 ls []) := by
    intro n
    induction n with
    | zero => intro x1 x2 x H locs ls hW hS hl hX; exact no_go hX
    | succ n ih => intro x1 x2 x H locs ls hW hS hl hX; exact B_4 _ ih _ _ _ _ _ _ hW hS hl hX
  refine lv_iconst (v := (0 : Int32)) hx hb dX1_countTick_0 (by decide) ?_
  refine lv_topi (fun x1_1 e9 => ?_)
  have hX := lt_go hX e9
  refine lv_istore_n (lv' := [(1, .int x1_1), (0, .ref (gA G 2 ↑p0 0))]) hx hb dX1_countTick_1 rfl hl (by decide) rfl (fun ls hl => ?_)
  refine lv_iconst (v := (0 : Int32)) hx hb dX1_countTick_2 (by decide) ?_
  refine lv_topi (fun x2_2 e9 => ?_)
  have hX := lt_go hX e9
  refine lv_istore_n (lv' := [(2, .int x2_2), (1, .int x1_1), (0, .ref (gA G 2 ↑p0 0))]) hx hb dX1_countTick_3 rfl hl (by decide) rfl (fun ls hl => ?_)
  exact L_4 FU _ _ _ _ _ _ hW hS (lv_sub hl [2, 1, 0] rfl) hX
set_option maxHeartbeats 4000000 in
theorem k_X1_countTick {p : Program} {l : Launch} {e : Env} {R : Room} {s : State} {m : MethodId} {args : Array Value} {below : List Frame} {meth : Method} {c : Code} {H : Heap} {locs : List Loc} {cells slots : Nat} {Q : State → Prop} {cc : ByteArray} {pc nL idx : Nat} {own : String} {ls : Array Slot} {rest : List Value} {G : Geo} {x y : Mem} {H0 : Heap} {p0 : Fin 10} {z : Mem} (hx : p.tables.exec = Jvm.exec) (hb : c.code = cc) (hml : c.maxLocals = nL) (hown : s.vm.findClass own = some m.cls) (htg : ∀ w ∈ wsG, w.before args s = true) (hK : Kt G s) (hW : Wh G x y H) (hS : va_S (gF G) H0 H locs) (h : m_X1_countTick p0 x = some z) (hlk : Cond.methodLink own idx yX1_countTick ∈ wsG) (hn : ls.size = nL) (hr : (rest.map fun v => v.category).sum ≤ 8) (hR1 : 1 + 1 ≤ R.frames) (hR2 : 8 + (4 + 11) + 22 ≤ R.locals) (hf : cells ≤ R.cells ∧ slots ≤ R.slots) (hdg : decode cc pc = .ok (.invokevirtual idx, 3)) (kk : ∀ (H1 : Heap) (locs1 : List Loc), Wh G z y H1 → va_S (gF G) H0 H1 locs1 → W p l e R s m args below meth c H1 locs1 cells slots Q (F0 m (pc + 3) ls (rest))) : W p l e R s m args below meth c H locs cells slots Q (F0 m pc ls (.ref (gA G 2 ↑p0 0) :: rest)) := by
  refine va_callv (va_runV (As := []) (rest := rest) ⟨hx, hb, hml, hown, htg⟩ (c_X1_countTick l G x y p0 z h) (cwV 0 htg (gd_V hlk q829 q830 q16 q831) rfl rfl rfl (by decide +kernel) ⟨hR1, hR2⟩) ⟨fun a U g mk q => ⟨q.1, q.2.1.calling, q.2.2⟩, rc_2 hK hW p0, fun U hU hW9 => ⟨rfl, hK.warm hW9, by rw [hU]; exact hW⟩⟩ rfl rfl hn rfl (lv_room hr) hdg hf) hS (fun _ _ h9 => h9) (fun _ h9 => h9) ?_
  intro u t H1 locs1 ht hvm hw hB hz1 hk1 hS1
  replace hB : Wh G z y t.heap := hB
  rw [ht] at hB
  exact kk H1 locs1 hB hS1
/-! METHOD X7_add -/
def m_X7_add (p0 : Fin 10) (p1 : Int32) (p2 : Int32) (p3 : Int32) (p4 : Int32) (x : Mem) : Option Mem :=
  lt_ ((rem32 (x 6 ↑p0 0 0) (24 : Int32)) * (4 : Int32)) fun x5_1 => if x5_1 < 0 then (some x) else (if (96 : Int32) ≤ (x5_1 + (3 : Int32)) then (some x) else (gd_ x5_1 96 (lt_ (up4 x 7 ↑p0 0 x5_1.toNatClampNeg p1) fun x5 => gd_ (x5_1 + (1 : Int32)) 96 (lt_ (up4 x5 7 ↑p0 0 (x5_1 + (1 : Int32)).toNatClampNeg p2) fun x7 => gd_ (x5_1 + (2 : Int32)) 96 (lt_ (up4 x7 7 ↑p0 0 (x5_1 + (2 : Int32)).toNatClampNeg p3) fun x9 => gd_ (x5_1 + (3 : Int32)) 96 (lt_ (up4 x9 7 ↑p0 0 (x5_1 + (3 : Int32)).toNatClampNeg p4) fun x11 => lt_ (up4 x11 6 ↑p0 0 0 ((x11 6 ↑p0 0 0) + (1 : Int32))) fun x12 => some x12))))))
abbrev WS_X7_add : List Cond := .code yX7_add cX7_add 6 none :: wsG
abbrev RM_X7_add : Room := { frames := 0, cells := 0, slots := 0, locals := 0 }
set_option maxHeartbeats 4000000 in
set_option maxRecDepth 100000 in
theorem c_X7_add (l : Launch) (G : Geo) (x y : Mem) (p0 : Fin 10) (p1 : Int32) (p2 : Int32) (p3 : Int32) (p4 : Int32) (r : Mem) (h : m_X7_add p0 p1 p2 p3 p4 x = some r) : Met l yX7_add WS_X7_add RM_X7_add (Pw G x y [.ref (gA G 6 ↑p0 0), .int p1, .int p2, .int p3, .int p4]) (Qv G r y) 0 0 (gF G) := by
  refine Met.ofW (cc := cX7_add) (maxL := 6) (ret := none) (by decide) rfl ?_
  intro p e s m args below meth c s₁ B hml hv
  obtain ⟨rfl, hK, hW⟩ := hv
  have hx := B.exec
  have hb := B.bytes
  have hr := B.returns
  have hts := atoms_spec (ws := WS_X7_add) B.pre
  have htg : ∀ w ∈ wsG, w.before _ s = true := fun w h => hts w (List.mem_cons_of_mem _ h)
  have hown : s.vm.findClass RX7 = some m.cls := findClass_of_methodNamed B.named
  have hlocks := B.notSynchronized
  have hS : va_S (gF G) s.heap s.heap [] := va_S.rf
  have hl := lv_entry ([.ref (gA G 6 ↑p0 0), .int p1, .int p2, .int p3, .int p4]) (n := 6) (Nat.le_of_ble_eq_true rfl)
  rw [lg_entry_eq]
  generalize (lg_sl ([.ref (gA G 6 ↑p0 0), .int p1, .int p2, .int p3, .int p4]) ++ List.replicate (6 - (lg_sl ([.ref (gA G 6 ↑p0 0), .int p1, .int p2, .int p3, .int p4])).length) Slot.unset).toArray = ls at hl ⊢
  have hl : lv_has ls 6 [(0, .ref (gA G 6 ↑p0 0)), (1, .int p1), (2, .int p2), (3, .int p3), (4, .int p4)] := hl
  have hX := h
  unfold m_X7_add at hX
  refine lv_aload_n hx hb dX7_add_0 rfl (lv_at hl 0 rfl) ?_
  refine gf_6_0 hx hb htg hown hK hW p0 q257 dX7_add_1 ?_
  refine lv_bipush (v := (24 : Int32)) hx hb dX7_add_4 (by decide) ?_
  refine lv_irem_ hx hb dX7_add_6 (by decide) ?_
  refine lv_iconst (v := (4 : Int32)) hx hb dX7_add_7 (by decide) ?_
  refine lv_imul hx hb dX7_add_8 ?_
  refine lv_topi (fun x5_1 e9 => ?_)
  have hX := lt_go hX e9
  refine lv_istore (lv' := [(5, .int x5_1), (0, .ref (gA G 6 ↑p0 0)), (1, .int p1), (2, .int p2), (3, .int p3), (4, .int p4)]) hx hb dX7_add_9 hl (by decide) rfl (fun ls hl => ?_)
  refine lv_iload hx hb dX7_add_11 (lv_at hl 0 rfl) ?_
  refine lv_if_lt (tgt := 77) hx hb dX7_add_13 (by decide) (fun c2 => ?_) (fun c2 => ?_)
  · have hX := it_t hX c2
    have hX := Option.some.inj hX
    subst hX
    exact rt_v hx hb hr hlocks hW hS dX7_add_77
  · have hX := it_f hX c2
    refine lv_iload hx hb dX7_add_16 (lv_at hl 0 rfl) ?_
    refine lv_iconst (v := (3 : Int32)) hx hb dX7_add_18 (by decide) ?_
    refine lv_iadd hx hb dX7_add_19 ?_
    refine lv_aload_n hx hb dX7_add_20 rfl (lv_at hl 1 rfl) ?_
    refine gf_6_1 hx hb htg hown hK hW p0 q71 dX7_add_21 ?_
    refine an_7 hx hb hK hW p0 dX7_add_24 ?_
    refine lv_icmp_ge (tgt := 77) hx hb dX7_add_25 (by decide) (fun c3 => ?_) (fun c3 => ?_)
    · have hX := it_t hX c3
      have hX := Option.some.inj hX
      subst hX
      exact rt_v hx hb hr hlocks hW hS dX7_add_77
    · have hX := it_f hX c3
      refine lv_aload_n hx hb dX7_add_28 rfl (lv_at hl 1 rfl) ?_
      refine gf_6_1 hx hb htg hown hK hW p0 q71 dX7_add_29 ?_
      refine lv_iload hx hb dX7_add_32 (lv_at hl 0 rfl) ?_
      refine lv_iload_n hx hb dX7_add_34 rfl (lv_at hl 2 rfl) ?_
      obtain ⟨g4, hX⟩ := gd_go hX
      refine as_7 hx hb hK hW hS p0 g4 dX7_add_35 (fun H locs hW hS => ?_)
      obtain ⟨x5, e9⟩ : ∃ w : Mem, w = (up4 x 7 ↑p0 0 x5_1.toNatClampNeg p1) := ⟨_, rfl⟩
      rw [← e9] at hW
      have hX := lt_go hX e9
      refine lv_aload_n hx hb dX7_add_36 rfl (lv_at hl 1 rfl) ?_
      refine gf_6_1 hx hb htg hown hK hW p0 q71 dX7_add_37 ?_
      refine lv_iload hx hb dX7_add_40 (lv_at hl 0 rfl) ?_
      refine lv_iconst (v := (1 : Int32)) hx hb dX7_add_42 (by decide) ?_
      refine lv_iadd hx hb dX7_add_43 ?_
      refine lv_iload_n hx hb dX7_add_44 rfl (lv_at hl 3 rfl) ?_
      obtain ⟨g6, hX⟩ := gd_go hX
      refine as_7 hx hb hK hW hS p0 g6 dX7_add_45 (fun H locs hW hS => ?_)
      obtain ⟨x7, e9⟩ : ∃ w : Mem, w = (up4 x5 7 ↑p0 0 (x5_1 + (1 : Int32)).toNatClampNeg p2) := ⟨_, rfl⟩
      rw [← e9] at hW
      have hX := lt_go hX e9
      refine lv_aload_n hx hb dX7_add_46 rfl (lv_at hl 1 rfl) ?_
      refine gf_6_1 hx hb htg hown hK hW p0 q71 dX7_add_47 ?_
      refine lv_iload hx hb dX7_add_50 (lv_at hl 0 rfl) ?_
      refine lv_iconst (v := (2 : Int32)) hx hb dX7_add_52 (by decide) ?_
      refine lv_iadd hx hb dX7_add_53 ?_
      refine lv_iload_n hx hb dX7_add_54 rfl (lv_at hl 4 rfl) ?_
      obtain ⟨g8, hX⟩ := gd_go hX
      refine as_7 hx hb hK hW hS p0 g8 dX7_add_55 (fun H locs hW hS => ?_)
      obtain ⟨x9, e9⟩ : ∃ w : Mem, w = (up4 x7 7 ↑p0 0 (x5_1 + (2 : Int32)).toNatClampNeg p3) := ⟨_, rfl⟩
      rw [← e9] at hW
      have hX := lt_go hX e9
      refine lv_aload_n hx hb dX7_add_56 rfl (lv_at hl 1 rfl) ?_
      refine gf_6_1 hx hb htg hown hK hW p0 q71 dX7_add_57 ?_
      refine lv_iload hx hb dX7_add_60 (lv_at hl 0 rfl) ?_
      refine lv_iconst (v := (3 : Int32)) hx hb dX7_add_62 (by decide) ?_
      refine lv_iadd hx hb dX7_add_63 ?_
      refine lv_iload hx hb dX7_add_64 (lv_at hl 5 rfl) ?_
      obtain ⟨g10, hX⟩ := gd_go hX
      refine as_7 hx hb hK hW hS p0 g10 dX7_add_66 (fun H locs hW hS => ?_)
      obtain ⟨x11, e9⟩ : ∃ w : Mem, w = (up4 x9 7 ↑p0 0 (x5_1 + (3 : Int32)).toNatClampNeg p4) := ⟨_, rfl⟩
      rw [← e9] at hW
      have hX := lt_go hX e9
      refine lv_aload_n hx hb dX7_add_67 rfl (lv_at hl 1 rfl) ?_
      refine lv_dup hx hb dX7_add_68 rfl ?_
      refine gf_6_0 hx hb htg hown hK hW p0 q257 dX7_add_69 ?_
      refine lv_iconst (v := (1 : Int32)) hx hb dX7_add_72 (by decide) ?_
      refine lv_iadd hx hb dX7_add_73 ?_
      refine pf_6_0 hx hb htg hown hK hW hS p0 q257 dX7_add_74 (fun H locs hW hS => ?_)
      obtain ⟨x12, e9⟩ : ∃ w : Mem, w = (up4 x11 6 ↑p0 0 0 ((x11 6 ↑p0 0 0) + (1 : Int32))) := ⟨_, rfl⟩
      rw [← e9] at hW
      have hX := lt_go hX e9
      have hX := Option.some.inj hX
      subst hX
      exact rt_v hx hb hr hlocks hW hS dX7_add_77
set_option maxHeartbeats 4000000 in
theorem k_X7_add {p : Program} {l : Launch} {e : Env} {R : Room} {s : State} {m : MethodId} {args : Array Value} {below : List Frame} {meth : Method} {c : Code} {H : Heap} {locs : List Loc} {cells slots : Nat} {Q : State → Prop} {cc : ByteArray} {pc nL idx : Nat} {own : String} {ls : Array Slot} {rest : List Value} {G : Geo} {x y : Mem} {H0 : Heap} {p0 : Fin 10} {p1 : Int32} {p2 : Int32} {p3 : Int32} {p4 : Int32} {z : Mem} (hx : p.tables.exec = Jvm.exec) (hb : c.code = cc) (hml : c.maxLocals = nL) (hown : s.vm.findClass own = some m.cls) (htg : ∀ w ∈ wsG, w.before args s = true) (hK : Kt G s) (hW : Wh G x y H) (hS : va_S (gF G) H0 H locs) (h : m_X7_add p0 p1 p2 p3 p4 x = some z) (hlk : Cond.methodLink own idx yX7_add ∈ wsG) (hn : ls.size = nL) (hr : (rest.map fun v => v.category).sum ≤ 8) (hR1 : 0 + 1 ≤ R.frames) (hR2 : 8 + (6 + 11) + 0 ≤ R.locals) (hf : cells ≤ R.cells ∧ slots ≤ R.slots) (hdg : decode cc pc = .ok (.invokevirtual idx, 3)) (kk : ∀ (H1 : Heap) (locs1 : List Loc), Wh G z y H1 → va_S (gF G) H0 H1 locs1 → W p l e R s m args below meth c H1 locs1 cells slots Q (F0 m (pc + 3) ls (rest))) : W p l e R s m args below meth c H locs cells slots Q (F0 m pc ls (.int p4 :: .int p3 :: .int p2 :: .int p1 :: .ref (gA G 6 ↑p0 0) :: rest)) := by
  refine va_callv (va_runV (As := [.int p1, .int p2, .int p3, .int p4]) (rest := rest) ⟨hx, hb, hml, hown, htg⟩ (c_X7_add l G x y p0 p1 p2 p3 p4 z h) (cwV 4 htg (gd_V hlk q711 q712 q43 q713) rfl rfl rfl (by decide +kernel) ⟨hR1, hR2⟩) ⟨fun a U g mk q => ⟨q.1, q.2.1.calling, q.2.2⟩, rc_6 hK hW p0, fun U hU hW9 => ⟨rfl, hK.warm hW9, by rw [hU]; exact hW⟩⟩ rfl rfl hn rfl (lv_room hr) hdg hf) hS (fun _ _ h9 => h9) (fun _ h9 => h9) ?_
  intro u t H1 locs1 ht hvm hw hB hz1 hk1 hS1
  replace hB : Wh G z y t.heap := hB
  rw [ht] at hB
  exact kk H1 locs1 hB hS1
/-! METHOD X9_takeFirst -/
def m_X9_takeFirst_j63 (p0 : Fin 10 × Fin 4) (x1 : Int32) (x : Mem) : Option (Int32 × Mem) :=
  lt_ (up4 x 9 ↑p0.1 ↑p0.2 1 ((x 9 ↑p0.1 ↑p0.2 1) - (1 : Int32))) fun x12 => lt_ (up4 x12 9 ↑p0.1 ↑p0.2 5 ((x12 9 ↑p0.1 ↑p0.2 5) + (1 : Int32))) fun x13 => some (x1, x13)
def m_X9_takeFirst_b26 (p0 : Fin 10 × Fin 4) (k26 : Int32 → Int32 → Mem → Option (Int32 × Mem)) (x1 : Int32) (x2 : Int32) (x : Mem) : Option (Int32 × Mem) :=
  if (x 9 ↑p0.1 ↑p0.2 1) ≤ x2 then (m_X9_takeFirst_j63 p0 x1 x) else (if (4 : Int32) ≤ x2 then (m_X9_takeFirst_j63 p0 x1 x) else (gd_ x2 4 (gd_ (x2 - (1 : Int32)) 4 (lt_ (up4 x 10 ↑p0.1 ↑p0.2 (x2 - (1 : Int32)).toNatClampNeg (x 10 ↑p0.1 ↑p0.2 x2.toNatClampNeg)) fun x10 => lt_ (x2 + (1 : Int32)) fun x2_11 => k26 x1 x2_11 x10))))
def m_X9_takeFirst_l26 (p0 : Fin 10 × Fin 4) : Nat → Int32 → Int32 → Mem → Option (Int32 × Mem)
  | 0, _, _, _ => none
  | n + 1, x1, x2, x => m_X9_takeFirst_b26 p0 (m_X9_takeFirst_l26 p0 n) x1 x2 x
def m_X9_takeFirst (p0 : Fin 10 × Fin 4) (x : Mem) : Option (Int32 × Mem) :=
  lt_ (-1 : Int32) fun x1_1 => if (x 9 ↑p0.1 ↑p0.2 1) ≤ 0 then (some (x1_1, x)) else (if (4 : Int32) ≤ 0 then (some (x1_1, x)) else (lt_ (x 10 ↑p0.1 ↑p0.2 (0 : Int32).toNatClampNeg) fun x1_4 => lt_ (1 : Int32) fun x2_5 => m_X9_takeFirst_l26 p0 FU x1_4 x2_5 x))
abbrev WS_X9_takeFirst : List Cond := .code yX9_takeFirst cX9_takeFirst 3 (some .int) :: wsG
abbrev RM_X9_takeFirst : Room := { frames := 0, cells := 0, slots := 0, locals := 0 }
set_option maxHeartbeats 4000000 in
set_option maxRecDepth 100000 in
theorem c_X9_takeFirst (l : Launch) (G : Geo) (x y : Mem) (p0 : Fin 10 × Fin 4) (r : (Int32 × Mem)) (h : m_X9_takeFirst p0 x = some r) : Met l yX9_takeFirst WS_X9_takeFirst RM_X9_takeFirst (Pw G x y [.ref (gA G 9 ↑p0.1 ↑p0.2)]) (Qi G r.2 y r.1) 0 0 (gF G) := by
  refine Met.ofW (cc := cX9_takeFirst) (maxL := 3) (ret := (some .int)) (by decide) rfl ?_
  intro p e s m args below meth c s₁ B hml hv
  obtain ⟨rfl, hK, hW⟩ := hv
  have hx := B.exec
  have hb := B.bytes
  have hr := B.returns
  have hts := atoms_spec (ws := WS_X9_takeFirst) B.pre
  have htg : ∀ w ∈ wsG, w.before _ s = true := fun w h => hts w (List.mem_cons_of_mem _ h)
  have hown : s.vm.findClass RX9 = some m.cls := findClass_of_methodNamed B.named
  have hlocks := B.notSynchronized
  have hS : va_S (gF G) s.heap s.heap [] := va_S.rf
  have hl := lv_entry ([.ref (gA G 9 ↑p0.1 ↑p0.2)]) (n := 3) (Nat.le_of_ble_eq_true rfl)
  rw [lg_entry_eq]
  generalize (lg_sl ([.ref (gA G 9 ↑p0.1 ↑p0.2)]) ++ List.replicate (3 - (lg_sl ([.ref (gA G 9 ↑p0.1 ↑p0.2)])).length) Slot.unset).toArray = ls at hl ⊢
  have hl : lv_has ls 3 [(0, .ref (gA G 9 ↑p0.1 ↑p0.2))] := hl
  have hX := h
  unfold m_X9_takeFirst at hX
  have J_63 : ∀ (x1 : Int32) (x : Mem) (H : Heap) (locs : List Loc) (ls : Array Slot), Wh G x y H → va_S (gF G) s.heap H locs → lv_has ls 3 [(0, .ref (gA G 9 ↑p0.1 ↑p0.2)), (1, .int x1)] → m_X9_takeFirst_j63 p0 x1 x = some r → W p l e (headSpec WS_X9_takeFirst RM_X9_takeFirst).room s m ([.ref (gA G 9 ↑p0.1 ↑p0.2)] : List Value).toArray below meth c H locs 0 0 (MQ below (Qi G r.2 y r.1) ([.ref (gA G 9 ↑p0.1 ↑p0.2)] : List Value).toArray s 0 0 (gF G)) (F0 m 63 ls []) := by
    intro x1 x H locs ls hW hS hl hX
    unfold m_X9_takeFirst_j63 at hX
    refine lv_aload_n hx hb dX9_takeFirst_63 rfl (lv_at hl 0 rfl) ?_
    refine lv_dup hx hb dX9_takeFirst_64 rfl ?_
    refine gf_9_1 hx hb htg hown hK hW p0 q279 dX9_takeFirst_65 ?_
    refine lv_iconst (v := (1 : Int32)) hx hb dX9_takeFirst_68 (by decide) ?_
    refine lv_isub hx hb dX9_takeFirst_69 ?_
    refine pf_9_1 hx hb htg hown hK hW hS p0 q279 dX9_takeFirst_70 (fun H locs hW hS => ?_)
    obtain ⟨x12, e9⟩ : ∃ w : Mem, w = (up4 x 9 ↑p0.1 ↑p0.2 1 ((x 9 ↑p0.1 ↑p0.2 1) - (1 : Int32))) := ⟨_, rfl⟩
    rw [← e9] at hW
    have hX := lt_go hX e9
    refine lv_aload_n hx hb dX9_takeFirst_73 rfl (lv_at hl 0 rfl) ?_
    refine lv_dup hx hb dX9_takeFirst_74 rfl ?_
    refine gf_9_5 hx hb htg hown hK hW p0 q283 dX9_takeFirst_75 ?_
    refine lv_iconst (v := (1 : Int32)) hx hb dX9_takeFirst_78 (by decide) ?_
    refine lv_iadd hx hb dX9_takeFirst_79 ?_
    refine pf_9_5 hx hb htg hown hK hW hS p0 q283 dX9_takeFirst_80 (fun H locs hW hS => ?_)
    obtain ⟨x13, e9⟩ : ∃ w : Mem, w = (up4 x12 9 ↑p0.1 ↑p0.2 5 ((x12 9 ↑p0.1 ↑p0.2 5) + (1 : Int32))) := ⟨_, rfl⟩
    rw [← e9] at hW
    have hX := lt_go hX e9
    refine lv_iload_n hx hb dX9_takeFirst_83 rfl (lv_at hl 1 rfl) ?_
    have hX := Option.some.inj hX
    subst hX
    exact rt_i hx hb hr hlocks hW hS dX9_takeFirst_84
  have B_26 : ∀ (k26 : Int32 → Int32 → Mem → Option (Int32 × Mem)) (hk26 : ∀ (x1 : Int32) (x2 : Int32) (x : Mem) (H : Heap) (locs : List Loc) (ls : Array Slot), Wh G x y H → va_S (gF G) s.heap H locs → lv_has ls 3 [(0, .ref (gA G 9 ↑p0.1 ↑p0.2)), (1, .int x1), (2, .int x2)] → k26 x1 x2 x = some r → W p l e (headSpec WS_X9_takeFirst RM_X9_takeFirst).room s m ([.ref (gA G 9 ↑p0.1 ↑p0.2)] : List Value).toArray below meth c H locs 0 0 (MQ below (Qi G r.2 y r.1) ([.ref (gA G 9 ↑p0.1 ↑p0.2)] : List Value).toArray s 0 0 (gF G)) (F0 m 26 ls [])), ∀ (x1 : Int32) (x2 : Int32) (x : Mem) (H : Heap) (locs : List Loc) (ls : Array Slot), Wh G x y H → va_S (gF G) s.heap H locs → lv_has ls 3 [(0, .ref (gA G 9 ↑p0.1 ↑p0.2)), (1, .int x1), (2, .int x2)] → m_X9_takeFirst_b26 p0 k26 x1 x2 x = some r → W p l e (headSpec WS_X9_takeFirst RM_X9_takeFirst).room s m ([.ref (gA G 9 ↑p0.1 ↑p0.2)] : List Value).toArray below meth c H locs 0 0 (MQ below (Qi G r.2 y r.1) ([.ref (gA G 9 ↑p0.1 ↑p0.2)] : List Value).toArray s 0 0 (gF G)) (F0 m 26 ls []) := by
    intro k26 hk26 x1 x2 x H locs ls hW hS hl hX
    unfold m_X9_takeFirst_b26 at hX
    refine lv_iload_n hx hb dX9_takeFirst_26 rfl (lv_at hl 2 rfl) ?_
    refine lv_aload_n hx hb dX9_takeFirst_27 rfl (lv_at hl 0 rfl) ?_
    refine gf_9_1 hx hb htg hown hK hW p0 q279 dX9_takeFirst_28 ?_
    refine lv_icmp_ge (tgt := 63) hx hb dX9_takeFirst_31 (by decide) (fun c6 => ?_) (fun c6 => ?_)
    · have hX := it_t hX c6
      exact J_63 _ _ _ _ _ hW hS (lv_sub hl [0, 1] rfl) hX
    · have hX := it_f hX c6
      refine lv_iload_n hx hb dX9_takeFirst_34 rfl (lv_at hl 2 rfl) ?_
      refine lv_aload_n hx hb dX9_takeFirst_35 rfl (lv_at hl 0 rfl) ?_
      refine gf_9_6 hx hb htg hown hK hW p0 q86 dX9_takeFirst_36 ?_
      refine an_10 hx hb hK hW p0 dX9_takeFirst_39 ?_
      refine lv_icmp_ge (tgt := 63) hx hb dX9_takeFirst_40 (by decide) (fun c7 => ?_) (fun c7 => ?_)
      · have hX := it_t hX c7
        exact J_63 _ _ _ _ _ hW hS (lv_sub hl [0, 1] rfl) hX
      · have hX := it_f hX c7
        refine lv_aload_n hx hb dX9_takeFirst_43 rfl (lv_at hl 0 rfl) ?_
        refine gf_9_6 hx hb htg hown hK hW p0 q86 dX9_takeFirst_44 ?_
        refine lv_iload_n hx hb dX9_takeFirst_47 rfl (lv_at hl 2 rfl) ?_
        refine lv_iconst (v := (1 : Int32)) hx hb dX9_takeFirst_48 (by decide) ?_
        refine lv_isub hx hb dX9_takeFirst_49 ?_
        refine lv_aload_n hx hb dX9_takeFirst_50 rfl (lv_at hl 0 rfl) ?_
        refine gf_9_6 hx hb htg hown hK hW p0 q86 dX9_takeFirst_51 ?_
        refine lv_iload_n hx hb dX9_takeFirst_54 rfl (lv_at hl 2 rfl) ?_
        obtain ⟨g8, hX⟩ := gd_go hX
        refine al_10 hx hb hK hW p0 g8 dX9_takeFirst_55 ?_
        obtain ⟨g9, hX⟩ := gd_go hX
        refine as_10 hx hb hK hW hS p0 g9 dX9_takeFirst_56 (fun H locs hW hS => ?_)
        obtain ⟨x10, e9⟩ : ∃ w : Mem, w = (up4 x 10 ↑p0.1 ↑p0.2 (x2 - (1 : Int32)).toNatClampNeg (x 10 ↑p0.1 ↑p0.2 x2.toNatClampNeg)) := ⟨_, rfl⟩
        rw [← e9] at hW
        have hX := lt_go hX e9
        obtain ⟨x2_11, e9⟩ : ∃ w : Int32, w = (x2 + (1 : Int32)) := ⟨_, rfl⟩
        have hX := lt_go hX e9
        refine lv_iinc (v := x2_11) (lv' := [(2, .int x2_11), (0, .ref (gA G 9 ↑p0.1 ↑p0.2)), (1, .int x1)]) hx hb dX9_takeFirst_57 hl (k := 2) rfl (by rw [e9]; rfl) (by decide) rfl (fun ls hl => ?_)
        refine lv_goto (tgt := 26) hx hb dX9_takeFirst_60 (by decide) ?_
        exact hk26 _ _ _ _ _ _ hW hS (lv_sub hl [1, 2, 0] rfl) hX
  have L_26 : ∀ (n : Nat), ∀ (x1 : Int32) (x2 : Int32) (x : Mem) (H : Heap) (locs : List Loc) (ls : Array Slot), Wh G x y H → va_S (gF G) s.heap H locs → lv_has ls 3 [(0, .ref (gA G 9 ↑p0.1 ↑p0.2)), (1, .int x1), (2, .int x2)] → m_X9_takeFirst_l26 p0 n x1 x2 x = some r → W p l e (headSpec WS_X9_takeFirst RM_X9_takeFirst).room s m ([.ref (gA G 9 ↑p0.1 ↑p0.2)] : List Value).toArray below meth c H locs 0 0 (MQ below (Qi G r.2 y r.1) ([.ref (gA G 9 ↑p0.1 ↑p0.2)] : List Value).toArray s 0 0 (gF G)) (F0 m 26 ls []) := by
    intro n
    induction n with
    | zero => intro x1 x2 x H locs ls hW hS hl hX; exact no_go hX
    | succ n ih => intro x1 x2 x H locs ls hW hS hl hX; exact B_26 _ ih _ _ _ _ _ _ hW hS hl hX
  refine lv_iconst (v := (-1 : Int32)) hx hb dX9_takeFirst_0 (by decide) ?_
  refine lv_topi (fun x1_1 e9 => ?_)
  have hX := lt_go hX e9
  refine lv_istore_n (lv' := [(1, .int x1_1), (0, .ref (gA G 9 ↑p0.1 ↑p0.2))]) hx hb dX9_takeFirst_1 rfl hl (by decide) rfl (fun ls hl => ?_)
  refine lv_aload_n hx hb dX9_takeFirst_2 rfl (lv_at hl 1 rfl) ?_
  refine gf_9_1 hx hb htg hown hK hW p0 q279 dX9_takeFirst_3 ?_
  refine lv_if_le (tgt := 83) hx hb dX9_takeFirst_6 (by decide) (fun c2 => ?_) (fun c2 => ?_)
  · have hX := it_t hX c2
    refine lv_iload_n hx hb dX9_takeFirst_83 rfl (lv_at hl 0 rfl) ?_
    have hX := Option.some.inj hX
    subst hX
    exact rt_i hx hb hr hlocks hW hS dX9_takeFirst_84
  · have hX := it_f hX c2
    refine lv_aload_n hx hb dX9_takeFirst_9 rfl (lv_at hl 1 rfl) ?_
    refine gf_9_6 hx hb htg hown hK hW p0 q86 dX9_takeFirst_10 ?_
    refine an_10 hx hb hK hW p0 dX9_takeFirst_13 ?_
    refine lv_if_le (tgt := 83) hx hb dX9_takeFirst_14 (by decide) (fun c3 => ?_) (fun c3 => ?_)
    · have hX := it_t hX c3
      refine lv_iload_n hx hb dX9_takeFirst_83 rfl (lv_at hl 0 rfl) ?_
      have hX := Option.some.inj hX
      subst hX
      exact rt_i hx hb hr hlocks hW hS dX9_takeFirst_84
    · have hX := it_f hX c3
      refine lv_aload_n hx hb dX9_takeFirst_17 rfl (lv_at hl 1 rfl) ?_
      refine gf_9_6 hx hb htg hown hK hW p0 q86 dX9_takeFirst_18 ?_
      refine lv_iconst (v := (0 : Int32)) hx hb dX9_takeFirst_21 (by decide) ?_
      refine al_10 hx hb hK hW p0 (inR_in (by decide)) dX9_takeFirst_22 ?_
      refine lv_topi (fun x1_4 e9 => ?_)
      have hX := lt_go hX e9
      refine lv_istore_n (lv' := [(1, .int x1_4), (0, .ref (gA G 9 ↑p0.1 ↑p0.2))]) hx hb dX9_takeFirst_23 rfl hl (by decide) rfl (fun ls hl => ?_)
      refine lv_iconst (v := (1 : Int32)) hx hb dX9_takeFirst_24 (by decide) ?_
      refine lv_topi (fun x2_5 e9 => ?_)
      have hX := lt_go hX e9
      refine lv_istore_n (lv' := [(2, .int x2_5), (1, .int x1_4), (0, .ref (gA G 9 ↑p0.1 ↑p0.2))]) hx hb dX9_takeFirst_25 rfl hl (by decide) rfl (fun ls hl => ?_)
      exact L_26 FU _ _ _ _ _ _ hW hS (lv_sub hl [2, 1, 0] rfl) hX
set_option maxHeartbeats 4000000 in
theorem k_X9_takeFirst {p : Program} {l : Launch} {e : Env} {R : Room} {s : State} {m : MethodId} {args : Array Value} {below : List Frame} {meth : Method} {c : Code} {H : Heap} {locs : List Loc} {cells slots : Nat} {Q : State → Prop} {cc : ByteArray} {pc nL idx : Nat} {own : String} {ls : Array Slot} {rest : List Value} {G : Geo} {x y : Mem} {H0 : Heap} {p0 : Fin 10 × Fin 4} {v : Int32} {z : Mem} (hx : p.tables.exec = Jvm.exec) (hb : c.code = cc) (hml : c.maxLocals = nL) (hown : s.vm.findClass own = some m.cls) (htg : ∀ w ∈ wsG, w.before args s = true) (hK : Kt G s) (hW : Wh G x y H) (hS : va_S (gF G) H0 H locs) (h : m_X9_takeFirst p0 x = some (v, z)) (hlk : Cond.methodLink own idx yX9_takeFirst ∈ wsG) (hn : ls.size = nL) (hr : (rest.map fun v => v.category).sum ≤ 8) (hR1 : 0 + 1 ≤ R.frames) (hR2 : 8 + (3 + 11) + 0 ≤ R.locals) (hf : cells ≤ R.cells ∧ slots ≤ R.slots) (hdg : decode cc pc = .ok (.invokevirtual idx, 3)) (kk : ∀ (H1 : Heap) (locs1 : List Loc), Wh G z y H1 → va_S (gF G) H0 H1 locs1 → W p l e R s m args below meth c H1 locs1 cells slots Q (F0 m (pc + 3) ls (.int v :: rest))) : W p l e R s m args below meth c H locs cells slots Q (F0 m pc ls (.ref (gA G 9 ↑p0.1 ↑p0.2) :: rest)) := by
  refine va_calli (va_runV (As := []) (rest := rest) ⟨hx, hb, hml, hown, htg⟩ (c_X9_takeFirst l G x y p0 (v, z) h) (cwV 0 htg (gd_V hlk q819 q820 q51 q821) rfl rfl rfl (by decide +kernel) ⟨hR1, hR2⟩) ⟨fun a U g mk q => ⟨q.1, q.2.1.calling, q.2.2⟩, rc_9 hK hW p0, fun U hU hW9 => ⟨rfl, hK.warm hW9, by rw [hU]; exact hW⟩⟩ rfl rfl hn rfl (lv_room hr) hdg hf) hS (fun _ _ h9 => h9) (fun _ h9 => h9) ?_
  intro r9 u t H1 locs1 ht hvm hw hB hz1 hk1 hS1
  replace hB : Wh G z y t.heap := hB
  rw [ht] at hB
  replace hw : r9 = v := hw
  subst hw
  exact kk H1 locs1 hB hS1
/-! METHOD X1_makePart -/
def m_X1_makePart (p0 : Fin 10) (x : Mem) : Option (Int32 × Mem) :=
  lt_ (x 2 ↑p0 0 4) fun x1_1 => lt_ (up4 x 2 ↑p0 0 4 ((x 2 ↑p0 0 4) + (1 : Int32))) fun x2 => some (x1_1, x2)
abbrev WS_X1_makePart : List Cond := .code yX1_makePart cX1_makePart 2 (some .int) :: wsG
abbrev RM_X1_makePart : Room := { frames := 0, cells := 0, slots := 0, locals := 0 }
set_option maxHeartbeats 4000000 in
set_option maxRecDepth 100000 in
theorem c_X1_makePart (l : Launch) (G : Geo) (x y : Mem) (p0 : Fin 10) (r : (Int32 × Mem)) (h : m_X1_makePart p0 x = some r) : Met l yX1_makePart WS_X1_makePart RM_X1_makePart (Pw G x y [.ref (gA G 2 ↑p0 0)]) (Qi G r.2 y r.1) 0 0 (gF G) := by
  refine Met.ofW (cc := cX1_makePart) (maxL := 2) (ret := (some .int)) (by decide) rfl ?_
  intro p e s m args below meth c s₁ B hml hv
  obtain ⟨rfl, hK, hW⟩ := hv
  have hx := B.exec
  have hb := B.bytes
  have hr := B.returns
  have hts := atoms_spec (ws := WS_X1_makePart) B.pre
  have htg : ∀ w ∈ wsG, w.before _ s = true := fun w h => hts w (List.mem_cons_of_mem _ h)
  have hown : s.vm.findClass RX1 = some m.cls := findClass_of_methodNamed B.named
  have hlocks := B.notSynchronized
  have hS : va_S (gF G) s.heap s.heap [] := va_S.rf
  have hl := lv_entry ([.ref (gA G 2 ↑p0 0)]) (n := 2) (Nat.le_of_ble_eq_true rfl)
  rw [lg_entry_eq]
  generalize (lg_sl ([.ref (gA G 2 ↑p0 0)]) ++ List.replicate (2 - (lg_sl ([.ref (gA G 2 ↑p0 0)])).length) Slot.unset).toArray = ls at hl ⊢
  have hl : lv_has ls 2 [(0, .ref (gA G 2 ↑p0 0))] := hl
  have hX := h
  unfold m_X1_makePart at hX
  refine lv_aload_n hx hb dX1_makePart_0 rfl (lv_at hl 0 rfl) ?_
  refine gf_2_4 hx hb htg hown hK hW p0 q243 dX1_makePart_1 ?_
  refine lv_topi (fun x1_1 e9 => ?_)
  have hX := lt_go hX e9
  refine lv_istore_n (lv' := [(1, .int x1_1), (0, .ref (gA G 2 ↑p0 0))]) hx hb dX1_makePart_4 rfl hl (by decide) rfl (fun ls hl => ?_)
  refine lv_aload_n hx hb dX1_makePart_5 rfl (lv_at hl 1 rfl) ?_
  refine lv_dup hx hb dX1_makePart_6 rfl ?_
  refine gf_2_4 hx hb htg hown hK hW p0 q243 dX1_makePart_7 ?_
  refine lv_iconst (v := (1 : Int32)) hx hb dX1_makePart_10 (by decide) ?_
  refine lv_iadd hx hb dX1_makePart_11 ?_
  refine pf_2_4 hx hb htg hown hK hW hS p0 q243 dX1_makePart_12 (fun H locs hW hS => ?_)
  obtain ⟨x2, e9⟩ : ∃ w : Mem, w = (up4 x 2 ↑p0 0 4 ((x 2 ↑p0 0 4) + (1 : Int32))) := ⟨_, rfl⟩
  rw [← e9] at hW
  have hX := lt_go hX e9
  refine lv_iload_n hx hb dX1_makePart_15 rfl (lv_at hl 0 rfl) ?_
  have hX := Option.some.inj hX
  subst hX
  exact rt_i hx hb hr hlocks hW hS dX1_makePart_16
set_option maxHeartbeats 4000000 in
theorem k_X1_makePart {p : Program} {l : Launch} {e : Env} {R : Room} {s : State} {m : MethodId} {args : Array Value} {below : List Frame} {meth : Method} {c : Code} {H : Heap} {locs : List Loc} {cells slots : Nat} {Q : State → Prop} {cc : ByteArray} {pc nL idx : Nat} {own : String} {ls : Array Slot} {rest : List Value} {G : Geo} {x y : Mem} {H0 : Heap} {p0 : Fin 10} {v : Int32} {z : Mem} (hx : p.tables.exec = Jvm.exec) (hb : c.code = cc) (hml : c.maxLocals = nL) (hown : s.vm.findClass own = some m.cls) (htg : ∀ w ∈ wsG, w.before args s = true) (hK : Kt G s) (hW : Wh G x y H) (hS : va_S (gF G) H0 H locs) (h : m_X1_makePart p0 x = some (v, z)) (hlk : Cond.methodLink own idx yX1_makePart ∈ wsG) (hn : ls.size = nL) (hr : (rest.map fun v => v.category).sum ≤ 8) (hR1 : 0 + 1 ≤ R.frames) (hR2 : 8 + (2 + 11) + 0 ≤ R.locals) (hf : cells ≤ R.cells ∧ slots ≤ R.slots) (hdg : decode cc pc = .ok (.invokevirtual idx, 3)) (kk : ∀ (H1 : Heap) (locs1 : List Loc), Wh G z y H1 → va_S (gF G) H0 H1 locs1 → W p l e R s m args below meth c H1 locs1 cells slots Q (F0 m (pc + 3) ls (.int v :: rest))) : W p l e R s m args below meth c H locs cells slots Q (F0 m pc ls (.ref (gA G 2 ↑p0 0) :: rest)) := by
  refine va_calli (va_runV (As := []) (rest := rest) ⟨hx, hb, hml, hown, htg⟩ (c_X1_makePart l G x y p0 (v, z) h) (cwV 0 htg (gd_V hlk q446 q447 q16 q448) rfl rfl rfl (by decide +kernel) ⟨hR1, hR2⟩) ⟨fun a U g mk q => ⟨q.1, q.2.1.calling, q.2.2⟩, rc_2 hK hW p0, fun U hU hW9 => ⟨rfl, hK.warm hW9, by rw [hU]; exact hW⟩⟩ rfl rfl hn rfl (lv_room hr) hdg hf) hS (fun _ _ h9 => h9) (fun _ h9 => h9) ?_
  intro r9 u t H1 locs1 ht hvm hw hB hz1 hk1 hS1
  replace hB : Wh G z y t.heap := hB
  rw [ht] at hB
  replace hw : r9 = v := hw
  subst hw
  exact kk H1 locs1 hB hS1
/-! METHOD X9_putLast -/
def m_X9_putLast (p0 : Fin 10 × Fin 4) (p1 : Int32) (x : Mem) : Option Mem :=
  if (x 9 ↑p0.1 ↑p0.2 1) < 0 then (some x) else (if (4 : Int32) ≤ (x 9 ↑p0.1 ↑p0.2 1) then (some x) else (gd_ (x 9 ↑p0.1 ↑p0.2 1) 4 (lt_ (up4 x 10 ↑p0.1 ↑p0.2 (x 9 ↑p0.1 ↑p0.2 1).toNatClampNeg p1) fun x4 => lt_ (up4 x4 9 ↑p0.1 ↑p0.2 1 ((x4 9 ↑p0.1 ↑p0.2 1) + (1 : Int32))) fun x5 => lt_ (up4 x5 9 ↑p0.1 ↑p0.2 4 ((x5 9 ↑p0.1 ↑p0.2 4) + (1 : Int32))) fun x6 => some x6)))
abbrev WS_X9_putLast : List Cond := .code yX9_putLast cX9_putLast 2 none :: wsG
abbrev RM_X9_putLast : Room := { frames := 0, cells := 0, slots := 0, locals := 0 }
set_option maxHeartbeats 4000000 in
set_option maxRecDepth 100000 in
theorem c_X9_putLast (l : Launch) (G : Geo) (x y : Mem) (p0 : Fin 10 × Fin 4) (p1 : Int32) (r : Mem) (h : m_X9_putLast p0 p1 x = some r) : Met l yX9_putLast WS_X9_putLast RM_X9_putLast (Pw G x y [.ref (gA G 9 ↑p0.1 ↑p0.2), .int p1]) (Qv G r y) 0 0 (gF G) := by
  refine Met.ofW (cc := cX9_putLast) (maxL := 2) (ret := none) (by decide) rfl ?_
  intro p e s m args below meth c s₁ B hml hv
  obtain ⟨rfl, hK, hW⟩ := hv
  have hx := B.exec
  have hb := B.bytes
  have hr := B.returns
  have hts := atoms_spec (ws := WS_X9_putLast) B.pre
  have htg : ∀ w ∈ wsG, w.before _ s = true := fun w h => hts w (List.mem_cons_of_mem _ h)
  have hown : s.vm.findClass RX9 = some m.cls := findClass_of_methodNamed B.named
  have hlocks := B.notSynchronized
  have hS : va_S (gF G) s.heap s.heap [] := va_S.rf
  have hl := lv_entry ([.ref (gA G 9 ↑p0.1 ↑p0.2), .int p1]) (n := 2) (Nat.le_of_ble_eq_true rfl)
  rw [lg_entry_eq]
  generalize (lg_sl ([.ref (gA G 9 ↑p0.1 ↑p0.2), .int p1]) ++ List.replicate (2 - (lg_sl ([.ref (gA G 9 ↑p0.1 ↑p0.2), .int p1])).length) Slot.unset).toArray = ls at hl ⊢
  have hl : lv_has ls 2 [(0, .ref (gA G 9 ↑p0.1 ↑p0.2)), (1, .int p1)] := hl
  have hX := h
  unfold m_X9_putLast at hX
  refine lv_aload_n hx hb dX9_putLast_0 rfl (lv_at hl 0 rfl) ?_
  refine gf_9_1 hx hb htg hown hK hW p0 q279 dX9_putLast_1 ?_
  refine lv_if_lt (tgt := 49) hx hb dX9_putLast_4 (by decide) (fun c1 => ?_) (fun c1 => ?_)
  · have hX := it_t hX c1
    have hX := Option.some.inj hX
    subst hX
    exact rt_v hx hb hr hlocks hW hS dX9_putLast_49
  · have hX := it_f hX c1
    refine lv_aload_n hx hb dX9_putLast_7 rfl (lv_at hl 0 rfl) ?_
    refine gf_9_1 hx hb htg hown hK hW p0 q279 dX9_putLast_8 ?_
    refine lv_aload_n hx hb dX9_putLast_11 rfl (lv_at hl 0 rfl) ?_
    refine gf_9_6 hx hb htg hown hK hW p0 q86 dX9_putLast_12 ?_
    refine an_10 hx hb hK hW p0 dX9_putLast_15 ?_
    refine lv_icmp_ge (tgt := 49) hx hb dX9_putLast_16 (by decide) (fun c2 => ?_) (fun c2 => ?_)
    · have hX := it_t hX c2
      have hX := Option.some.inj hX
      subst hX
      exact rt_v hx hb hr hlocks hW hS dX9_putLast_49
    · have hX := it_f hX c2
      refine lv_aload_n hx hb dX9_putLast_19 rfl (lv_at hl 0 rfl) ?_
      refine gf_9_6 hx hb htg hown hK hW p0 q86 dX9_putLast_20 ?_
      refine lv_aload_n hx hb dX9_putLast_23 rfl (lv_at hl 0 rfl) ?_
      refine gf_9_1 hx hb htg hown hK hW p0 q279 dX9_putLast_24 ?_
      refine lv_iload_n hx hb dX9_putLast_27 rfl (lv_at hl 1 rfl) ?_
      obtain ⟨g3, hX⟩ := gd_go hX
      refine as_10 hx hb hK hW hS p0 g3 dX9_putLast_28 (fun H locs hW hS => ?_)
      obtain ⟨x4, e9⟩ : ∃ w : Mem, w = (up4 x 10 ↑p0.1 ↑p0.2 (x 9 ↑p0.1 ↑p0.2 1).toNatClampNeg p1) := ⟨_, rfl⟩
      rw [← e9] at hW
      have hX := lt_go hX e9
      refine lv_aload_n hx hb dX9_putLast_29 rfl (lv_at hl 0 rfl) ?_
      refine lv_dup hx hb dX9_putLast_30 rfl ?_
      refine gf_9_1 hx hb htg hown hK hW p0 q279 dX9_putLast_31 ?_
      refine lv_iconst (v := (1 : Int32)) hx hb dX9_putLast_34 (by decide) ?_
      refine lv_iadd hx hb dX9_putLast_35 ?_
      refine pf_9_1 hx hb htg hown hK hW hS p0 q279 dX9_putLast_36 (fun H locs hW hS => ?_)
      obtain ⟨x5, e9⟩ : ∃ w : Mem, w = (up4 x4 9 ↑p0.1 ↑p0.2 1 ((x4 9 ↑p0.1 ↑p0.2 1) + (1 : Int32))) := ⟨_, rfl⟩
      rw [← e9] at hW
      have hX := lt_go hX e9
      refine lv_aload_n hx hb dX9_putLast_39 rfl (lv_at hl 0 rfl) ?_
      refine lv_dup hx hb dX9_putLast_40 rfl ?_
      refine gf_9_4 hx hb htg hown hK hW p0 q282 dX9_putLast_41 ?_
      refine lv_iconst (v := (1 : Int32)) hx hb dX9_putLast_44 (by decide) ?_
      refine lv_iadd hx hb dX9_putLast_45 ?_
      refine pf_9_4 hx hb htg hown hK hW hS p0 q282 dX9_putLast_46 (fun H locs hW hS => ?_)
      obtain ⟨x6, e9⟩ : ∃ w : Mem, w = (up4 x5 9 ↑p0.1 ↑p0.2 4 ((x5 9 ↑p0.1 ↑p0.2 4) + (1 : Int32))) := ⟨_, rfl⟩
      rw [← e9] at hW
      have hX := lt_go hX e9
      have hX := Option.some.inj hX
      subst hX
      exact rt_v hx hb hr hlocks hW hS dX9_putLast_49
set_option maxHeartbeats 4000000 in
theorem k_X9_putLast {p : Program} {l : Launch} {e : Env} {R : Room} {s : State} {m : MethodId} {args : Array Value} {below : List Frame} {meth : Method} {c : Code} {H : Heap} {locs : List Loc} {cells slots : Nat} {Q : State → Prop} {cc : ByteArray} {pc nL idx : Nat} {own : String} {ls : Array Slot} {rest : List Value} {G : Geo} {x y : Mem} {H0 : Heap} {p0 : Fin 10 × Fin 4} {p1 : Int32} {z : Mem} (hx : p.tables.exec = Jvm.exec) (hb : c.code = cc) (hml : c.maxLocals = nL) (hown : s.vm.findClass own = some m.cls) (htg : ∀ w ∈ wsG, w.before args s = true) (hK : Kt G s) (hW : Wh G x y H) (hS : va_S (gF G) H0 H locs) (h : m_X9_putLast p0 p1 x = some z) (hlk : Cond.methodLink own idx yX9_putLast ∈ wsG) (hn : ls.size = nL) (hr : (rest.map fun v => v.category).sum ≤ 8) (hR1 : 0 + 1 ≤ R.frames) (hR2 : 8 + (2 + 11) + 0 ≤ R.locals) (hf : cells ≤ R.cells ∧ slots ≤ R.slots) (hdg : decode cc pc = .ok (.invokevirtual idx, 3)) (kk : ∀ (H1 : Heap) (locs1 : List Loc), Wh G z y H1 → va_S (gF G) H0 H1 locs1 → W p l e R s m args below meth c H1 locs1 cells slots Q (F0 m (pc + 3) ls (rest))) : W p l e R s m args below meth c H locs cells slots Q (F0 m pc ls (.int p1 :: .ref (gA G 9 ↑p0.1 ↑p0.2) :: rest)) := by
  refine va_callv (va_runV (As := [.int p1]) (rest := rest) ⟨hx, hb, hml, hown, htg⟩ (c_X9_putLast l G x y p0 p1 z h) (cwV 1 htg (gd_V hlk q450 q451 q51 q452) rfl rfl rfl (by decide +kernel) ⟨hR1, hR2⟩) ⟨fun a U g mk q => ⟨q.1, q.2.1.calling, q.2.2⟩, rc_9 hK hW p0, fun U hU hW9 => ⟨rfl, hK.warm hW9, by rw [hU]; exact hW⟩⟩ rfl rfl hn rfl (lv_room hr) hdg hf) hS (fun _ _ h9 => h9) (fun _ h9 => h9) ?_
  intro u t H1 locs1 ht hvm hw hB hz1 hk1 hS1
  replace hB : Wh G z y t.heap := hB
  rw [ht] at hB
  exact kk H1 locs1 hB hS1
/-! METHOD X1_moveParts -/
def m_X1_moveParts_j78 (p0 : Fin 10) (p1 : Fin 10 × Fin 31) (s0 : Int32) (s1 : Fin 10 × Fin 4) (x : Mem) : Option Mem :=
  bd_ (m_X9_putLast s1 s0 x) fun x22 => some x22
def m_X1_moveParts_j34 (p0 : Fin 10) (p1 : Fin 10 × Fin 31) (x2 : Int32) (x : Mem) : Option Mem :=
  if (x 12 ↑p1.1 ↑p1.2 6) = (-1 : Int32) then (if (x 12 ↑p1.1 ↑p1.2 5) = (-1 : Int32) then (some x) else (lt_ (up4 x 2 ↑p0 0 5 ((x 2 ↑p0 0 5) + (1 : Int32))) fun x12 => some x12)) else (bd_ (m_X1_storeAt p0 (x 12 ↑p1.1 ↑p1.2 6)) fun r14 => lt_ (up4 x 9 ↑r14.1 ↑r14.2 2 ((x 9 ↑r14.1 ↑r14.2 2) - (1 : Int32))) fun x15 => if (x15 12 ↑p1.1 ↑p1.2 5) = (-1 : Int32) then (bd2_ (m_X1_makePart p0 x15) fun r18 x19 => m_X1_moveParts_j78 p0 p1 r18 r14 x19) else (m_X1_moveParts_j78 p0 p1 x2 r14 x15))
def m_X1_moveParts (p0 : Fin 10) (p1 : Fin 10 × Fin 31) (x : Mem) : Option Mem :=
  lt_ (-1 : Int32) fun x2_1 => if (x 12 ↑p1.1 ↑p1.2 5) = (-1 : Int32) then (m_X1_moveParts_j34 p0 p1 x2_1 x) else (bd_ (m_X1_storeAt p0 (x 12 ↑p1.1 ↑p1.2 5)) fun r4 => bd2_ (m_X9_takeFirst r4 x) fun r6 x7 => lt_ r6 fun x2_8 => lt_ (up4 x7 9 ↑r4.1 ↑r4.2 3 ((x7 9 ↑r4.1 ↑r4.2 3) - (1 : Int32))) fun x9 => m_X1_moveParts_j34 p0 p1 x2_8 x9)
abbrev WS_X1_moveParts : List Cond := .code yX1_moveParts cX1_moveParts 4 none :: wsG
abbrev RM_X1_moveParts : Room := { frames := 1, cells := 0, slots := 0, locals := 22 }
set_option maxHeartbeats 4000000 in
set_option maxRecDepth 100000 in
theorem c_X1_moveParts (l : Launch) (G : Geo) (x y : Mem) (p0 : Fin 10) (p1 : Fin 10 × Fin 31) (r : Mem) (h : m_X1_moveParts p0 p1 x = some r) : Met l yX1_moveParts WS_X1_moveParts RM_X1_moveParts (Pw G x y [.ref (gA G 2 ↑p0 0), .ref (gA G 12 ↑p1.1 ↑p1.2)]) (Qv G r y) 0 0 (gF G) := by
  refine Met.ofW (cc := cX1_moveParts) (maxL := 4) (ret := none) (by decide) rfl ?_
  intro p e s m args below meth c s₁ B hml hv
  obtain ⟨rfl, hK, hW⟩ := hv
  have hx := B.exec
  have hb := B.bytes
  have hr := B.returns
  have hts := atoms_spec (ws := WS_X1_moveParts) B.pre
  have htg : ∀ w ∈ wsG, w.before _ s = true := fun w h => hts w (List.mem_cons_of_mem _ h)
  have hown : s.vm.findClass RX1 = some m.cls := findClass_of_methodNamed B.named
  have hlocks := B.notSynchronized
  have hS : va_S (gF G) s.heap s.heap [] := va_S.rf
  have hl := lv_entry ([.ref (gA G 2 ↑p0 0), .ref (gA G 12 ↑p1.1 ↑p1.2)]) (n := 4) (Nat.le_of_ble_eq_true rfl)
  rw [lg_entry_eq]
  generalize (lg_sl ([.ref (gA G 2 ↑p0 0), .ref (gA G 12 ↑p1.1 ↑p1.2)]) ++ List.replicate (4 - (lg_sl ([.ref (gA G 2 ↑p0 0), .ref (gA G 12 ↑p1.1 ↑p1.2)])).length) Slot.unset).toArray = ls at hl ⊢
  have hl : lv_has ls 4 [(0, .ref (gA G 2 ↑p0 0)), (1, .ref (gA G 12 ↑p1.1 ↑p1.2))] := hl
  have hX := h
  unfold m_X1_moveParts at hX
  have J_78 : ∀ (s0 : Int32) (s1 : Fin 10 × Fin 4) (x : Mem) (H : Heap) (locs : List Loc) (ls : Array Slot), Wh G x y H → va_S (gF G) s.heap H locs → lv_has ls 4 [] → m_X1_moveParts_j78 p0 p1 s0 s1 x = some r → W p l e (headSpec WS_X1_moveParts RM_X1_moveParts).room s m ([.ref (gA G 2 ↑p0 0), .ref (gA G 12 ↑p1.1 ↑p1.2)] : List Value).toArray below meth c H locs 0 0 (MQ below (Qv G r y) ([.ref (gA G 2 ↑p0 0), .ref (gA G 12 ↑p1.1 ↑p1.2)] : List Value).toArray s 0 0 (gF G)) (F0 m 78 ls [.int s0, .ref (gA G 9 ↑s1.1 ↑s1.2)]) := by
    intro s0 s1 x H locs ls hW hS hl hX
    unfold m_X1_moveParts_j78 at hX
    obtain ⟨x22, h20, hX⟩ := bd_go hX
    refine k_X9_putLast hx hb hml hown htg hK hW hS h20 q823 hl.1 (Nat.le_of_ble_eq_true rfl) (Nat.le_of_ble_eq_true rfl) (Nat.le_of_ble_eq_true rfl) ⟨Nat.zero_le _, Nat.zero_le _⟩ dX1_moveParts_78 (fun H locs hW hS => ?_)
    refine lv_goto (tgt := 102) hx hb dX1_moveParts_81 (by decide) ?_
    have hX := Option.some.inj hX
    subst hX
    exact rt_v hx hb hr hlocks hW hS dX1_moveParts_102
  have J_34 : ∀ (x2 : Int32) (x : Mem) (H : Heap) (locs : List Loc) (ls : Array Slot), Wh G x y H → va_S (gF G) s.heap H locs → lv_has ls 4 [(0, .ref (gA G 2 ↑p0 0)), (1, .ref (gA G 12 ↑p1.1 ↑p1.2)), (2, .int x2)] → m_X1_moveParts_j34 p0 p1 x2 x = some r → W p l e (headSpec WS_X1_moveParts RM_X1_moveParts).room s m ([.ref (gA G 2 ↑p0 0), .ref (gA G 12 ↑p1.1 ↑p1.2)] : List Value).toArray below meth c H locs 0 0 (MQ below (Qv G r y) ([.ref (gA G 2 ↑p0 0), .ref (gA G 12 ↑p1.1 ↑p1.2)] : List Value).toArray s 0 0 (gF G)) (F0 m 34 ls []) := by
    intro x2 x H locs ls hW hS hl hX
    unfold m_X1_moveParts_j34 at hX
    refine lv_aload_n hx hb dX1_moveParts_34 rfl (lv_at hl 1 rfl) ?_
    refine gf_12_6 hx hb htg hown hK hW p1 q554 dX1_moveParts_35 ?_
    refine lv_iconst (v := (-1 : Int32)) hx hb dX1_moveParts_38 (by decide) ?_
    refine lv_icmp_eq (tgt := 84) hx hb dX1_moveParts_39 (by decide) (fun c10 => ?_) (fun c10 => ?_)
    · have hX := it_t hX c10
      refine lv_aload_n hx hb dX1_moveParts_84 rfl (lv_at hl 1 rfl) ?_
      refine gf_12_5 hx hb htg hown hK hW p1 q553 dX1_moveParts_85 ?_
      refine lv_iconst (v := (-1 : Int32)) hx hb dX1_moveParts_88 (by decide) ?_
      refine lv_icmp_eq (tgt := 102) hx hb dX1_moveParts_89 (by decide) (fun c11 => ?_) (fun c11 => ?_)
      · have hX := it_t hX c11
        have hX := Option.some.inj hX
        subst hX
        exact rt_v hx hb hr hlocks hW hS dX1_moveParts_102
      · have hX := it_f hX c11
        refine lv_aload_n hx hb dX1_moveParts_92 rfl (lv_at hl 0 rfl) ?_
        refine lv_dup hx hb dX1_moveParts_93 rfl ?_
        refine gf_2_5 hx hb htg hown hK hW p0 q244 dX1_moveParts_94 ?_
        refine lv_iconst (v := (1 : Int32)) hx hb dX1_moveParts_97 (by decide) ?_
        refine lv_iadd hx hb dX1_moveParts_98 ?_
        refine pf_2_5 hx hb htg hown hK hW hS p0 q244 dX1_moveParts_99 (fun H locs hW hS => ?_)
        obtain ⟨x12, e9⟩ : ∃ w : Mem, w = (up4 x 2 ↑p0 0 5 ((x 2 ↑p0 0 5) + (1 : Int32))) := ⟨_, rfl⟩
        rw [← e9] at hW
        have hX := lt_go hX e9
        have hX := Option.some.inj hX
        subst hX
        exact rt_v hx hb hr hlocks hW hS dX1_moveParts_102
    · have hX := it_f hX c10
      refine lv_aload_n hx hb dX1_moveParts_42 rfl (lv_at hl 0 rfl) ?_
      refine lv_aload_n hx hb dX1_moveParts_43 rfl (lv_at hl 1 rfl) ?_
      refine gf_12_6 hx hb htg hown hK hW p1 q554 dX1_moveParts_44 ?_
      obtain ⟨r14, h13, hX⟩ := bd_go hX
      refine k_X1_storeAt hx hb hml hown htg hK hW hS h13 q271 hl.1 (Nat.le_of_ble_eq_true rfl) (Nat.le_of_ble_eq_true rfl) (Nat.le_of_ble_eq_true rfl) ⟨Nat.zero_le _, Nat.zero_le _⟩ dX1_moveParts_47 (fun H locs hW hS => ?_)
      refine lv_astore_n (lv' := [(3, .ref (gA G 9 ↑r14.1 ↑r14.2)), (0, .ref (gA G 2 ↑p0 0)), (1, .ref (gA G 12 ↑p1.1 ↑p1.2)), (2, .int x2)]) hx hb dX1_moveParts_50 rfl hl (by decide) rfl (fun ls hl => ?_)
      refine lv_aload_n hx hb dX1_moveParts_51 rfl (lv_at hl 0 rfl) ?_
      refine lv_dup hx hb dX1_moveParts_52 rfl ?_
      refine gf_9_2 hx hb htg hown hK hW r14 q797 dX1_moveParts_53 ?_
      refine lv_iconst (v := (1 : Int32)) hx hb dX1_moveParts_56 (by decide) ?_
      refine lv_isub hx hb dX1_moveParts_57 ?_
      refine pf_9_2 hx hb htg hown hK hW hS r14 q797 dX1_moveParts_58 (fun H locs hW hS => ?_)
      obtain ⟨x15, e9⟩ : ∃ w : Mem, w = (up4 x 9 ↑r14.1 ↑r14.2 2 ((x 9 ↑r14.1 ↑r14.2 2) - (1 : Int32))) := ⟨_, rfl⟩
      rw [← e9] at hW
      have hX := lt_go hX e9
      refine lv_aload_n hx hb dX1_moveParts_61 rfl (lv_at hl 0 rfl) ?_
      refine lv_aload_n hx hb dX1_moveParts_62 rfl (lv_at hl 2 rfl) ?_
      refine gf_12_5 hx hb htg hown hK hW p1 q553 dX1_moveParts_63 ?_
      refine lv_iconst (v := (-1 : Int32)) hx hb dX1_moveParts_66 (by decide) ?_
      refine lv_icmp_eq (tgt := 74) hx hb dX1_moveParts_67 (by decide) (fun c16 => ?_) (fun c16 => ?_)
      · have hX := it_t hX c16
        refine lv_aload_n hx hb dX1_moveParts_74 rfl (lv_at hl 1 rfl) ?_
        obtain ⟨r18, x19, h17, hX⟩ := bd2_go hX
        refine k_X1_makePart hx hb hml hown htg hK hW hS h17 q822 hl.1 (Nat.le_of_ble_eq_true rfl) (Nat.le_of_ble_eq_true rfl) (Nat.le_of_ble_eq_true rfl) ⟨Nat.zero_le _, Nat.zero_le _⟩ dX1_moveParts_75 (fun H locs hW hS => ?_)
        exact J_78 _ _ _ _ _ _ hW hS (lv_sub hl [] rfl) hX
      · have hX := it_f hX c16
        refine lv_iload_n hx hb dX1_moveParts_70 rfl (lv_at hl 3 rfl) ?_
        refine lv_goto (tgt := 78) hx hb dX1_moveParts_71 (by decide) ?_
        exact J_78 _ _ _ _ _ _ hW hS (lv_sub hl [] rfl) hX
  refine lv_iconst (v := (-1 : Int32)) hx hb dX1_moveParts_0 (by decide) ?_
  refine lv_topi (fun x2_1 e9 => ?_)
  have hX := lt_go hX e9
  refine lv_istore_n (lv' := [(2, .int x2_1), (0, .ref (gA G 2 ↑p0 0)), (1, .ref (gA G 12 ↑p1.1 ↑p1.2))]) hx hb dX1_moveParts_1 rfl hl (by decide) rfl (fun ls hl => ?_)
  refine lv_aload_n hx hb dX1_moveParts_2 rfl (lv_at hl 2 rfl) ?_
  refine gf_12_5 hx hb htg hown hK hW p1 q553 dX1_moveParts_3 ?_
  refine lv_iconst (v := (-1 : Int32)) hx hb dX1_moveParts_6 (by decide) ?_
  refine lv_icmp_eq (tgt := 34) hx hb dX1_moveParts_7 (by decide) (fun c2 => ?_) (fun c2 => ?_)
  · have hX := it_t hX c2
    exact J_34 _ _ _ _ _ hW hS (lv_sub hl [1, 2, 0] rfl) hX
  · have hX := it_f hX c2
    refine lv_aload_n hx hb dX1_moveParts_10 rfl (lv_at hl 1 rfl) ?_
    refine lv_aload_n hx hb dX1_moveParts_11 rfl (lv_at hl 2 rfl) ?_
    refine gf_12_5 hx hb htg hown hK hW p1 q553 dX1_moveParts_12 ?_
    obtain ⟨r4, h3, hX⟩ := bd_go hX
    refine k_X1_storeAt hx hb hml hown htg hK hW hS h3 q271 hl.1 (Nat.le_of_ble_eq_true rfl) (Nat.le_of_ble_eq_true rfl) (Nat.le_of_ble_eq_true rfl) ⟨Nat.zero_le _, Nat.zero_le _⟩ dX1_moveParts_15 (fun H locs hW hS => ?_)
    refine lv_astore_n (lv' := [(3, .ref (gA G 9 ↑r4.1 ↑r4.2)), (2, .int x2_1), (0, .ref (gA G 2 ↑p0 0)), (1, .ref (gA G 12 ↑p1.1 ↑p1.2))]) hx hb dX1_moveParts_18 rfl hl (by decide) rfl (fun ls hl => ?_)
    refine lv_aload_n hx hb dX1_moveParts_19 rfl (lv_at hl 0 rfl) ?_
    obtain ⟨r6, x7, h5, hX⟩ := bd2_go hX
    refine k_X9_takeFirst hx hb hml hown htg hK hW hS h5 q818 hl.1 (Nat.le_of_ble_eq_true rfl) (Nat.le_of_ble_eq_true rfl) (Nat.le_of_ble_eq_true rfl) ⟨Nat.zero_le _, Nat.zero_le _⟩ dX1_moveParts_20 (fun H locs hW hS => ?_)
    refine lv_topi (fun x2_8 e9 => ?_)
    have hX := lt_go hX e9
    refine lv_istore_n (lv' := [(2, .int x2_8), (3, .ref (gA G 9 ↑r4.1 ↑r4.2)), (0, .ref (gA G 2 ↑p0 0)), (1, .ref (gA G 12 ↑p1.1 ↑p1.2))]) hx hb dX1_moveParts_23 rfl hl (by decide) rfl (fun ls hl => ?_)
    refine lv_aload_n hx hb dX1_moveParts_24 rfl (lv_at hl 1 rfl) ?_
    refine lv_dup hx hb dX1_moveParts_25 rfl ?_
    refine gf_9_3 hx hb htg hown hK hW r4 q796 dX1_moveParts_26 ?_
    refine lv_iconst (v := (1 : Int32)) hx hb dX1_moveParts_29 (by decide) ?_
    refine lv_isub hx hb dX1_moveParts_30 ?_
    refine pf_9_3 hx hb htg hown hK hW hS r4 q796 dX1_moveParts_31 (fun H locs hW hS => ?_)
    obtain ⟨x9, e9⟩ : ∃ w : Mem, w = (up4 x7 9 ↑r4.1 ↑r4.2 3 ((x7 9 ↑r4.1 ↑r4.2 3) - (1 : Int32))) := ⟨_, rfl⟩
    rw [← e9] at hW
    have hX := lt_go hX e9
    exact J_34 _ _ _ _ _ hW hS (lv_sub hl [2, 3, 0] rfl) hX
set_option maxHeartbeats 4000000 in
theorem k_X1_moveParts {p : Program} {l : Launch} {e : Env} {R : Room} {s : State} {m : MethodId} {args : Array Value} {below : List Frame} {meth : Method} {c : Code} {H : Heap} {locs : List Loc} {cells slots : Nat} {Q : State → Prop} {cc : ByteArray} {pc nL idx : Nat} {own : String} {ls : Array Slot} {rest : List Value} {G : Geo} {x y : Mem} {H0 : Heap} {p0 : Fin 10} {p1 : Fin 10 × Fin 31} {z : Mem} (hx : p.tables.exec = Jvm.exec) (hb : c.code = cc) (hml : c.maxLocals = nL) (hown : s.vm.findClass own = some m.cls) (htg : ∀ w ∈ wsG, w.before args s = true) (hK : Kt G s) (hW : Wh G x y H) (hS : va_S (gF G) H0 H locs) (h : m_X1_moveParts p0 p1 x = some z) (hlk : Cond.methodLink own idx yX1_moveParts ∈ wsG) (hn : ls.size = nL) (hr : (rest.map fun v => v.category).sum ≤ 8) (hR1 : 1 + 1 ≤ R.frames) (hR2 : 8 + (4 + 11) + 22 ≤ R.locals) (hf : cells ≤ R.cells ∧ slots ≤ R.slots) (hdg : decode cc pc = .ok (.invokevirtual idx, 3)) (kk : ∀ (H1 : Heap) (locs1 : List Loc), Wh G z y H1 → va_S (gF G) H0 H1 locs1 → W p l e R s m args below meth c H1 locs1 cells slots Q (F0 m (pc + 3) ls (rest))) : W p l e R s m args below meth c H locs cells slots Q (F0 m pc ls (.ref (gA G 12 ↑p1.1 ↑p1.2) :: .ref (gA G 2 ↑p0 0) :: rest)) := by
  refine va_callv (va_runV (As := [.ref (gA G 12 ↑p1.1 ↑p1.2)]) (rest := rest) ⟨hx, hb, hml, hown, htg⟩ (c_X1_moveParts l G x y p0 p1 z h) (cwV 1 htg (gd_V hlk q815 q816 q16 q817) rfl rfl rfl (by decide +kernel) ⟨hR1, hR2⟩) ⟨fun a U g mk q => ⟨q.1, q.2.1.calling, q.2.2⟩, rc_2 hK hW p0, fun U hU hW9 => ⟨rfl, hK.warm hW9, by rw [hU]; exact hW⟩⟩ rfl rfl hn rfl (lv_room hr) hdg hf) hS (fun _ _ h9 => h9) (fun _ h9 => h9) ?_
  intro u t H1 locs1 ht hvm hw hB hz1 hk1 hS1
  replace hB : Wh G z y t.heap := hB
  rw [ht] at hB
  exact kk H1 locs1 hB hS1
