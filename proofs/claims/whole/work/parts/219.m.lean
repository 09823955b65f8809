/-! METHOD X12_isJob -/
def m_X12_isJob (p0 : Int32) (y : Mem) : Option Int32 :=
  if p0 < 0 then (some (0 : Int32)) else (if (y 40 0 0 34) ≤ p0 then (some (0 : Int32)) else (some (1 : Int32)))
abbrev WS_X12_isJob : List Cond := .code yX12_isJob cX12_isJob 2 (some .boolean) :: wsG
abbrev RM_X12_isJob : Room := { frames := 0, cells := 0, slots := 0, locals := 0 }
set_option maxHeartbeats 4000000 in
set_option maxRecDepth 100000 in
theorem c_X12_isJob (l : Launch) (G : Geo) (x y : Mem) (p0 : Int32) (r : Int32) (h : m_X12_isJob p0 y = some r) : Met l yX12_isJob WS_X12_isJob RM_X12_isJob (Pw G x y [.ref (gA G 40 0 0), .int p0]) (Qi G x y r) 0 0 (gF G) := by
  refine Met.ofW (cc := cX12_isJob) (maxL := 2) (ret := (some .boolean)) (by decide) rfl ?_
  intro p e s m args below meth c s₁ B hml hv
  obtain ⟨rfl, hK, hW⟩ := hv
  have hx := B.exec
  have hb := B.bytes
  have hr := B.returns
  have hts := atoms_spec (ws := WS_X12_isJob) B.pre
  have htg : ∀ w ∈ wsG, w.before _ s = true := fun w h => hts w (List.mem_cons_of_mem _ h)
  have hown : s.vm.findClass RX12 = some m.cls := findClass_of_methodNamed B.named
  have hlocks := B.notSynchronized
  have hS : va_S (gF G) s.heap s.heap [] := va_S.rf
  have hl := lv_entry ([.ref (gA G 40 0 0), .int p0]) (n := 2) (Nat.le_of_ble_eq_true rfl)
  rw [lg_entry_eq]
  generalize (lg_sl ([.ref (gA G 40 0 0), .int p0]) ++ List.replicate (2 - (lg_sl ([.ref (gA G 40 0 0), .int p0])).length) Slot.unset).toArray = ls at hl ⊢
  have hl : lv_has ls 2 [(0, .ref (gA G 40 0 0)), (1, .int p0)] := hl
  have hX := h
  unfold m_X12_isJob at hX
  refine lv_iload_n hx hb dX12_isJob_0 rfl (lv_at hl 1 rfl) ?_
  refine lv_if_lt (tgt := 16) hx hb dX12_isJob_1 (by decide) (fun c1 => ?_) (fun c1 => ?_)
  · have hX := it_t hX c1
    refine lv_iconst (v := (0 : Int32)) hx hb dX12_isJob_16 (by decide) ?_
    have hX := Option.some.inj hX
    subst hX
    exact rt_z hx hb hr hlocks hW hS nb0 dX12_isJob_17
  · have hX := it_f hX c1
    refine lv_iload_n hx hb dX12_isJob_4 rfl (lv_at hl 1 rfl) ?_
    refine lv_aload_n hx hb dX12_isJob_5 rfl (lv_at hl 0 rfl) ?_
    refine gf_40_34 hx hb htg hown hK hW q353 dX12_isJob_6 ?_
    refine lv_icmp_ge (tgt := 16) hx hb dX12_isJob_9 (by decide) (fun c2 => ?_) (fun c2 => ?_)
    · have hX := it_t hX c2
      refine lv_iconst (v := (0 : Int32)) hx hb dX12_isJob_16 (by decide) ?_
      have hX := Option.some.inj hX
      subst hX
      exact rt_z hx hb hr hlocks hW hS nb0 dX12_isJob_17
    · have hX := it_f hX c2
      refine lv_iconst (v := (1 : Int32)) hx hb dX12_isJob_12 (by decide) ?_
      refine lv_goto (tgt := 17) hx hb dX12_isJob_13 (by decide) ?_
      have hX := Option.some.inj hX
      subst hX
      exact rt_z hx hb hr hlocks hW hS nb1 dX12_isJob_17
set_option maxHeartbeats 4000000 in
theorem k_X12_isJob {p : Program} {l : Launch} {e : Env} {R : Room} {s : State} {m : MethodId} {args : Array Value} {below : List Frame} {meth : Method} {c : Code} {H : Heap} {locs : List Loc} {cells slots : Nat} {Q : State → Prop} {cc : ByteArray} {pc nL idx : Nat} {own : String} {ls : Array Slot} {rest : List Value} {G : Geo} {x y : Mem} {H0 : Heap} {p0 : Int32} {v : Int32} (hx : p.tables.exec = Jvm.exec) (hb : c.code = cc) (hml : c.maxLocals = nL) (hown : s.vm.findClass own = some m.cls) (htg : ∀ w ∈ wsG, w.before args s = true) (hK : Kt G s) (hW : Wh G x y H) (hS : va_S (gF G) H0 H locs) (h : m_X12_isJob p0 y = some v) (hlk : Cond.methodLink own idx yX12_isJob ∈ wsG) (hn : ls.size = nL) (hr : (rest.map fun v => v.category).sum ≤ 8) (hR1 : 0 + 1 ≤ R.frames) (hR2 : 8 + (2 + 11) + 0 ≤ R.locals) (hf : cells ≤ R.cells ∧ slots ≤ R.slots) (hdg : decode cc pc = .ok (.invokevirtual idx, 3)) (kk : ∀ (H1 : Heap) (locs1 : List Loc), Wh G x y H1 → va_S (gF G) H0 H1 locs1 → W p l e R s m args below meth c H1 locs1 cells slots Q (F0 m (pc + 3) ls (.int v :: rest))) : W p l e R s m args below meth c H locs cells slots Q (F0 m pc ls (.int p0 :: .ref (gA G 40 0 0) :: rest)) := by
  refine va_calli (va_runV (As := [.int p0]) (rest := rest) ⟨hx, hb, hml, hown, htg⟩ (c_X12_isJob l G x y p0 v h) (cwV 1 htg (gd_V hlk q629 q630 q5 q631) rfl rfl rfl (by decide +kernel) ⟨hR1, hR2⟩) ⟨fun a U g mk q => ⟨q.1, q.2.1.calling, q.2.2⟩, rc_40 hK hW, fun U hU hW9 => ⟨rfl, hK.warm hW9, by rw [hU]; exact hW⟩⟩ rfl rfl hn rfl (lv_room hr) hdg hf) hS (fun _ _ h9 => h9) (fun _ h9 => h9) ?_
  intro r9 u t H1 locs1 ht hvm hw hB hz1 hk1 hS1
  replace hB : Wh G x y t.heap := hB
  rw [ht] at hB
  replace hw : r9 = v := hw
  subst hw
  exact kk H1 locs1 hB hS1
/-! METHOD X12_passes -/
def m_X12_passes_j36 (p0 : Nat × Nat × Nat) (p0n : Nat) (p1 : Nat × Nat × Nat) (p1n : Nat) (k2 : Int32 → Mem → Option Mem) (x3 : Int32) (y : Mem) : Option Mem :=
  lt_ (up4 y 40 0 0 60 ((y 40 0 0 60) + (1 : Int32))) fun y10 => lt_ (x3 + (1 : Int32)) fun x3_11 => k2 x3_11 y10
def m_X12_passes_b2 (p0 : Nat × Nat × Nat) (p0n : Nat) (p1 : Nat × Nat × Nat) (p1n : Nat) (k2 : Int32 → Mem → Option Mem) (x3 : Int32) (y : Mem) : Option Mem :=
  if (Int32.ofNat p0n) ≤ x3 then (some y) else (if (y 40 0 0 62) = 0 then (gd_ (y 40 0 0 60) p1n (gd_ x3 p0n (lt_ (up4 y p0.1 p0.2.1 p0.2.2 x3.toNatClampNeg (y p1.1 p1.2.1 p1.2.2 (y 40 0 0 60).toNatClampNeg)) fun y6 => m_X12_passes_j36 p0 p0n p1 p1n k2 x3 y6))) else (gd_ x3 p0n (gd_ (y 40 0 0 60) p1n (lt_ (up4 y p1.1 p1.2.1 p1.2.2 (y 40 0 0 60).toNatClampNeg (y p0.1 p0.2.1 p0.2.2 x3.toNatClampNeg)) fun y9 => m_X12_passes_j36 p0 p0n p1 p1n k2 x3 y9))))
def m_X12_passes_l2 (p0 : Nat × Nat × Nat) (p0n : Nat) (p1 : Nat × Nat × Nat) (p1n : Nat) : Nat → Int32 → Mem → Option Mem
  | 0, _, _ => none
  | n + 1, x3, y => m_X12_passes_b2 p0 p0n p1 p1n (m_X12_passes_l2 p0 p0n p1 p1n n) x3 y
def m_X12_passes (p0 : Nat × Nat × Nat) (p0n : Nat) (p1 : Nat × Nat × Nat) (p1n : Nat) (y : Mem) : Option Mem :=
  lt_ (0 : Int32) fun x3_1 => m_X12_passes_l2 p0 p0n p1 p1n FU x3_1 y
abbrev WS_X12_passes : List Cond := .code yX12_passes cX12_passes 4 none :: wsG
abbrev RM_X12_passes : Room := { frames := 0, cells := 0, slots := 0, locals := 0 }
set_option maxHeartbeats 4000000 in
set_option maxRecDepth 100000 in
theorem c_X12_passes (l : Launch) (G : Geo) (x y : Mem) (p0 : Nat × Nat × Nat) (p0n : Nat) (p1 : Nat × Nat × Nat) (p1n : Nat) (hA_p0 : Ia p0 p0n) (hB_p0 : ¬ p0.1 < 40) (hA_p1 : Ia p1 p1n) (hB_p1 : ¬ p1.1 < 40) (r : Mem) (h : m_X12_passes p0 p0n p1 p1n y = some r) : Met l yX12_passes WS_X12_passes RM_X12_passes (Pw G x y [.ref (gA G 40 0 0), .ref (gA G p0.1 p0.2.1 p0.2.2), .ref (gA G p1.1 p1.2.1 p1.2.2)]) (Qv G x r) 0 0 (gF G) := by
  refine Met.ofW (cc := cX12_passes) (maxL := 4) (ret := none) (by decide) rfl ?_
  intro p e s m args below meth c s₁ B hml hv
  obtain ⟨rfl, hK, hW⟩ := hv
  have hx := B.exec
  have hb := B.bytes
  have hr := B.returns
  have hts := atoms_spec (ws := WS_X12_passes) B.pre
  have htg : ∀ w ∈ wsG, w.before _ s = true := fun w h => hts w (List.mem_cons_of_mem _ h)
  have hown : s.vm.findClass RX12 = some m.cls := findClass_of_methodNamed B.named
  have hlocks := B.notSynchronized
  have hS : va_S (gF G) s.heap s.heap [] := va_S.rf
  have hl := lv_entry ([.ref (gA G 40 0 0), .ref (gA G p0.1 p0.2.1 p0.2.2), .ref (gA G p1.1 p1.2.1 p1.2.2)]) (n := 4) (Nat.le_of_ble_eq_true rfl)
  rw [lg_entry_eq]
  generalize (lg_sl ([.ref (gA G 40 0 0), .ref (gA G p0.1 p0.2.1 p0.2.2), .ref (gA G p1.1 p1.2.1 p1.2.2)]) ++ List.replicate (4 - (lg_sl ([.ref (gA G 40 0 0), .ref (gA G p0.1 p0.2.1 p0.2.2), .ref (gA G p1.1 p1.2.1 p1.2.2)])).length) Slot.unset).toArray = ls at hl ⊢
  have hl : lv_has ls 4 [(0, .ref (gA G 40 0 0)), (1, .ref (gA G p0.1 p0.2.1 p0.2.2)), (2, .ref (gA G p1.1 p1.2.1 p1.2.2))] := hl
  have hX := h
  unfold m_X12_passes at hX
  have J_36 : ∀ (k2 : Int32 → Mem → Option Mem) (hk2 : ∀ (x3 : Int32) (y : Mem) (H : Heap) (locs : List Loc) (ls : Array Slot), Wh G x y H → va_S (gF G) s.heap H locs → lv_has ls 4 [(0, .ref (gA G 40 0 0)), (1, .ref (gA G p0.1 p0.2.1 p0.2.2)), (2, .ref (gA G p1.1 p1.2.1 p1.2.2)), (3, .int x3)] → k2 x3 y = some r → W p l e (headSpec WS_X12_passes RM_X12_passes).room s m ([.ref (gA G 40 0 0), .ref (gA G p0.1 p0.2.1 p0.2.2), .ref (gA G p1.1 p1.2.1 p1.2.2)] : List Value).toArray below meth c H locs 0 0 (MQ below (Qv G x r) ([.ref (gA G 40 0 0), .ref (gA G p0.1 p0.2.1 p0.2.2), .ref (gA G p1.1 p1.2.1 p1.2.2)] : List Value).toArray s 0 0 (gF G)) (F0 m 2 ls [])), ∀ (x3 : Int32) (y : Mem) (H : Heap) (locs : List Loc) (ls : Array Slot), Wh G x y H → va_S (gF G) s.heap H locs → lv_has ls 4 [(0, .ref (gA G 40 0 0)), (1, .ref (gA G p0.1 p0.2.1 p0.2.2)), (2, .ref (gA G p1.1 p1.2.1 p1.2.2)), (3, .int x3)] → m_X12_passes_j36 p0 p0n p1 p1n k2 x3 y = some r → W p l e (headSpec WS_X12_passes RM_X12_passes).room s m ([.ref (gA G 40 0 0), .ref (gA G p0.1 p0.2.1 p0.2.2), .ref (gA G p1.1 p1.2.1 p1.2.2)] : List Value).toArray below meth c H locs 0 0 (MQ below (Qv G x r) ([.ref (gA G 40 0 0), .ref (gA G p0.1 p0.2.1 p0.2.2), .ref (gA G p1.1 p1.2.1 p1.2.2)] : List Value).toArray s 0 0 (gF G)) (F0 m 36 ls []) := by
    intro k2 hk2 x3 y H locs ls hW hS hl hX
    unfold m_X12_passes_j36 at hX
    refine lv_aload_n hx hb dX12_passes_36 rfl (lv_at hl 0 rfl) ?_
    refine lv_dup hx hb dX12_passes_37 rfl ?_
    refine gf_40_60 hx hb htg hown hK hW q351 dX12_passes_38 ?_
    refine lv_iconst (v := (1 : Int32)) hx hb dX12_passes_41 (by decide) ?_
    refine lv_iadd hx hb dX12_passes_42 ?_
    refine pf_40_60 hx hb htg hown hK hW hS q351 dX12_passes_43 (fun H locs hW hS => ?_)
    obtain ⟨y10, e9⟩ : ∃ w : Mem, w = (up4 y 40 0 0 60 ((y 40 0 0 60) + (1 : Int32))) := ⟨_, rfl⟩
    rw [← e9] at hW
    have hX := lt_go hX e9
    obtain ⟨x3_11, e9⟩ : ∃ w : Int32, w = (x3 + (1 : Int32)) := ⟨_, rfl⟩
    have hX := lt_go hX e9
    refine lv_iinc (v := x3_11) (lv' := [(3, .int x3_11), (0, .ref (gA G 40 0 0)), (1, .ref (gA G p0.1 p0.2.1 p0.2.2)), (2, .ref (gA G p1.1 p1.2.1 p1.2.2))]) hx hb dX12_passes_46 hl (k := 3) rfl (by rw [e9]; rfl) (by decide) rfl (fun ls hl => ?_)
    refine lv_goto (tgt := 2) hx hb dX12_passes_49 (by decide) ?_
    exact hk2 _ _ _ _ _ hW hS (lv_sub hl [1, 2, 3, 0] rfl) hX
  have B_2 : ∀ (k2 : Int32 → Mem → Option Mem) (hk2 : ∀ (x3 : Int32) (y : Mem) (H : Heap) (locs : List Loc) (ls : Array Slot), Wh G x y H → va_S (gF G) s.heap H locs → lv_has ls 4 [(0, .ref (gA G 40 0 0)), (1, .ref (gA G p0.1 p0.2.1 p0.2.2)), (2, .ref (gA G p1.1 p1.2.1 p1.2.2)), (3, .int x3)] → k2 x3 y = some r → W p l e (headSpec WS_X12_passes RM_X12_passes).room s m ([.ref (gA G 40 0 0), .ref (gA G p0.1 p0.2.1 p0.2.2), .ref (gA G p1.1 p1.2.1 p1.2.2)] : List Value).toArray below meth c H locs 0 0 (MQ below (Qv G x r) ([.ref (gA G 40 0 0), .ref (gA G p0.1 p0.2.1 p0.2.2), .ref (gA G p1.1 p1.2.1 p1.2.2)] : List Value).toArray s 0 0 (gF G)) (F0 m 2 ls [])), ∀ (x3 : Int32) (y : Mem) (H : Heap) (locs : List Loc) (ls : Array Slot), Wh G x y H → va_S (gF G) s.heap H locs → lv_has ls 4 [(0, .ref (gA G 40 0 0)), (1, .ref (gA G p0.1 p0.2.1 p0.2.2)), (2, .ref (gA G p1.1 p1.2.1 p1.2.2)), (3, .int x3)] → m_X12_passes_b2 p0 p0n p1 p1n k2 x3 y = some r → W p l e (headSpec WS_X12_passes RM_X12_passes).room s m ([.ref (gA G 40 0 0), .ref (gA G p0.1 p0.2.1 p0.2.2), .ref (gA G p1.1 p1.2.1 p1.2.2)] : List Value).toArray below meth c H locs 0 0 (MQ below (Qv G x r) ([.ref (gA G 40 0 0), .ref (gA G p0.1 p0.2.1 p0.2.2), .ref (gA G p1.1 p1.2.1 p1.2.2)] : List Value).toArray s 0 0 (gF G)) (F0 m 2 ls []) := by
    intro k2 hk2 x3 y H locs ls hW hS hl hX
    unfold m_X12_passes_b2 at hX
    refine lv_iload_n hx hb dX12_passes_2 rfl (lv_at hl 3 rfl) ?_
    refine lv_aload_n hx hb dX12_passes_3 rfl (lv_at hl 1 rfl) ?_
    refine an_hr hx hb hK hW hA_p0 dX12_passes_4 ?_
    refine lv_icmp_ge (tgt := 52) hx hb dX12_passes_5 (by decide) (fun c2 => ?_) (fun c2 => ?_)
    · have hX := it_t hX c2
      have hX := Option.some.inj hX
      subst hX
      exact rt_v hx hb hr hlocks hW hS dX12_passes_52
    · have hX := it_f hX c2
      refine lv_aload_n hx hb dX12_passes_8 rfl (lv_at hl 0 rfl) ?_
      refine gf_40_62 hx hb htg hown hK hW q350 dX12_passes_9 ?_
      refine lv_if_eq (tgt := 27) hx hb dX12_passes_12 (by decide) (fun c3 => ?_) (fun c3 => ?_)
      · have hX := it_t hX c3
        refine lv_aload_n hx hb dX12_passes_27 rfl (lv_at hl 1 rfl) ?_
        refine lv_iload_n hx hb dX12_passes_28 rfl (lv_at hl 3 rfl) ?_
        refine lv_aload_n hx hb dX12_passes_29 rfl (lv_at hl 2 rfl) ?_
        refine lv_aload_n hx hb dX12_passes_30 rfl (lv_at hl 0 rfl) ?_
        refine gf_40_60 hx hb htg hown hK hW q351 dX12_passes_31 ?_
        obtain ⟨g4, hX⟩ := gd_go hX
        refine al_hr hx hb hK hW hA_p1 hB_p1 g4 dX12_passes_34 ?_
        obtain ⟨g5, hX⟩ := gd_go hX
        refine as_hr hx hb hK hW hS hA_p0 hB_p0 g5 dX12_passes_35 (fun H locs hW hS => ?_)
        obtain ⟨y6, e9⟩ : ∃ w : Mem, w = (up4 y p0.1 p0.2.1 p0.2.2 x3.toNatClampNeg (y p1.1 p1.2.1 p1.2.2 (y 40 0 0 60).toNatClampNeg)) := ⟨_, rfl⟩
        rw [← e9] at hW
        have hX := lt_go hX e9
        exact J_36 k2 hk2 _ _ _ _ _ hW hS (lv_sub hl [0, 1, 2, 3] rfl) hX
      · have hX := it_f hX c3
        refine lv_aload_n hx hb dX12_passes_15 rfl (lv_at hl 2 rfl) ?_
        refine lv_aload_n hx hb dX12_passes_16 rfl (lv_at hl 0 rfl) ?_
        refine gf_40_60 hx hb htg hown hK hW q351 dX12_passes_17 ?_
        refine lv_aload_n hx hb dX12_passes_20 rfl (lv_at hl 1 rfl) ?_
        refine lv_iload_n hx hb dX12_passes_21 rfl (lv_at hl 3 rfl) ?_
        obtain ⟨g7, hX⟩ := gd_go hX
        refine al_hr hx hb hK hW hA_p0 hB_p0 g7 dX12_passes_22 ?_
        obtain ⟨g8, hX⟩ := gd_go hX
        refine as_hr hx hb hK hW hS hA_p1 hB_p1 g8 dX12_passes_23 (fun H locs hW hS => ?_)
        obtain ⟨y9, e9⟩ : ∃ w : Mem, w = (up4 y p1.1 p1.2.1 p1.2.2 (y 40 0 0 60).toNatClampNeg (y p0.1 p0.2.1 p0.2.2 x3.toNatClampNeg)) := ⟨_, rfl⟩
        rw [← e9] at hW
        have hX := lt_go hX e9
        refine lv_goto (tgt := 36) hx hb dX12_passes_24 (by decide) ?_
        exact J_36 k2 hk2 _ _ _ _ _ hW hS (lv_sub hl [0, 1, 2, 3] rfl) hX
  have L_2 : ∀ (n : Nat), ∀ (x3 : Int32) (y : Mem) (H : Heap) (locs : List Loc) (ls : Array Slot), Wh G x y H → va_S (gF G) s.heap H locs → lv_has ls 4 [(0, .ref (gA G 40 0 0)), (1, .ref (gA G p0.1 p0.2.1 p0.2.2)), (2, .ref (gA G p1.1 p1.2.1 p1.2.2)), (3, .int x3)] → m_X12_passes_l2 p0 p0n p1 p1n n x3 y = some r → W p l e (headSpec WS_X12_passes RM_X12_passes).room s m ([.ref (gA G 40 0 0), .ref (gA G p0.1 p0.2.1 p0.2.2), .ref (gA G p1.1 p1.2.1 p1.2.2)] : List Value).toArray below meth c H locs 0 0 (MQ below (Qv G x r) ([.ref (gA G 40 0 0), .ref (gA G p0.1 p0.2.1 p0.2.2), .ref (gA G p1.1 p1.2.1 p1.2.2)] : List Value).toArray s 0 0 (gF G)) (F0 m 2 ls []) := by
    intro n
    induction n with
    | zero => intro x3 y H locs ls hW hS hl hX; exact no_go hX
    | succ n ih => intro x3 y H locs ls hW hS hl hX; exact B_2 _ ih _ _ _ _ _ hW hS hl hX
  refine lv_iconst (v := (0 : Int32)) hx hb dX12_passes_0 (by decide) ?_
  refine lv_topi (fun x3_1 e9 => ?_)
  have hX := lt_go hX e9
  refine lv_istore_n (lv' := [(3, .int x3_1), (0, .ref (gA G 40 0 0)), (1, .ref (gA G p0.1 p0.2.1 p0.2.2)), (2, .ref (gA G p1.1 p1.2.1 p1.2.2))]) hx hb dX12_passes_1 rfl hl (by decide) rfl (fun ls hl => ?_)
  exact L_2 FU _ _ _ _ _ hW hS (lv_sub hl [1, 2, 3, 0] rfl) hX
set_option maxHeartbeats 4000000 in
theorem k_X12_passes {p : Program} {l : Launch} {e : Env} {R : Room} {s : State} {m : MethodId} {args : Array Value} {below : List Frame} {meth : Method} {c : Code} {H : Heap} {locs : List Loc} {cells slots : Nat} {Q : State → Prop} {cc : ByteArray} {pc nL idx : Nat} {own : String} {ls : Array Slot} {rest : List Value} {G : Geo} {x y : Mem} {H0 : Heap} {p0 : Nat × Nat × Nat} {p0n : Nat} {p1 : Nat × Nat × Nat} {p1n : Nat} {z : Mem} (hx : p.tables.exec = Jvm.exec) (hb : c.code = cc) (hml : c.maxLocals = nL) (hown : s.vm.findClass own = some m.cls) (htg : ∀ w ∈ wsG, w.before args s = true) (hK : Kt G s) (hW : Wh G x y H) (hS : va_S (gF G) H0 H locs) (hA_p0 : Ia p0 p0n) (hB_p0 : ¬ p0.1 < 40) (hA_p1 : Ia p1 p1n) (hB_p1 : ¬ p1.1 < 40) (h : m_X12_passes p0 p0n p1 p1n y = some z) (hlk : Cond.methodLink own idx yX12_passes ∈ wsG) (hn : ls.size = nL) (hr : (rest.map fun v => v.category).sum ≤ 8) (hR1 : 0 + 1 ≤ R.frames) (hR2 : 8 + (4 + 11) + 0 ≤ R.locals) (hf : cells ≤ R.cells ∧ slots ≤ R.slots) (hdg : decode cc pc = .ok (.invokevirtual idx, 3)) (kk : ∀ (H1 : Heap) (locs1 : List Loc), Wh G x z H1 → va_S (gF G) H0 H1 locs1 → W p l e R s m args below meth c H1 locs1 cells slots Q (F0 m (pc + 3) ls (rest))) : W p l e R s m args below meth c H locs cells slots Q (F0 m pc ls (.ref (gA G p1.1 p1.2.1 p1.2.2) :: .ref (gA G p0.1 p0.2.1 p0.2.2) :: .ref (gA G 40 0 0) :: rest)) := by
  refine va_callv (va_runV (As := [.ref (gA G p0.1 p0.2.1 p0.2.2), .ref (gA G p1.1 p1.2.1 p1.2.2)]) (rest := rest) ⟨hx, hb, hml, hown, htg⟩ (c_X12_passes l G x y p0 p0n p1 p1n hA_p0 hB_p0 hA_p1 hB_p1 z h) (cwV 2 htg (gd_V hlk q361 q362 q5 q363) rfl rfl rfl (by decide +kernel) ⟨hR1, hR2⟩) ⟨fun a U g mk q => ⟨q.1, q.2.1.calling, q.2.2⟩, rc_40 hK hW, fun U hU hW9 => ⟨rfl, hK.warm hW9, by rw [hU]; exact hW⟩⟩ rfl rfl hn rfl (lv_room hr) hdg hf) hS (fun _ _ h9 => h9) (fun _ h9 => h9) ?_
  intro u t H1 locs1 ht hvm hw hB hz1 hk1 hS1
  replace hB : Wh G x z t.heap := hB
  rw [ht] at hB
  exact kk H1 locs1 hB hS1
/-! METHOD X12_passArms -/
def m_X12_passArms (p0 : Nat × Nat × Nat) (p0n : Nat) (y : Mem) : Option Mem :=
  bd_ (m_X12_passes (110, 0, 0) 3 p0 p0n y) fun y3 => bd_ (m_X12_passes (111, 0, 0) 3 p0 p0n y3) fun y6 => bd_ (m_X12_passes (112, 0, 0) 90 p0 p0n y6) fun y9 => bd_ (m_X12_passes (113, 0, 0) 3 p0 p0n y9) fun y12 => bd_ (m_X12_passes (114, 0, 0) 3 p0 p0n y12) fun y15 => bd_ (m_X12_passes (115, 0, 0) 3 p0 p0n y15) fun y18 => bd_ (m_X12_passes (116, 0, 0) 3 p0 p0n y18) fun y21 => bd_ (m_X12_passes (117, 0, 0) 3 p0 p0n y21) fun y24 => bd_ (m_X12_passes (118, 0, 0) 3 p0 p0n y24) fun y27 => bd_ (m_X12_passes (119, 0, 0) 3 p0 p0n y27) fun y30 => bd_ (m_X12_passes (120, 0, 0) 3 p0 p0n y30) fun y33 => bd_ (m_X12_passes (121, 0, 0) 3 p0 p0n y33) fun y36 => some y36
abbrev WS_X12_passArms : List Cond := .code yX12_passArms cX12_passArms 2 none :: wsG
abbrev RM_X12_passArms : Room := { frames := 1, cells := 0, slots := 0, locals := 23 }
set_option maxHeartbeats 4000000 in
set_option maxRecDepth 100000 in
theorem c_X12_passArms (l : Launch) (G : Geo) (x y : Mem) (p0 : Nat × Nat × Nat) (p0n : Nat) (hA_p0 : Ia p0 p0n) (hB_p0 : ¬ p0.1 < 40) (r : Mem) (h : m_X12_passArms p0 p0n y = some r) : Met l yX12_passArms WS_X12_passArms RM_X12_passArms (Pw G x y [.ref (gA G 40 0 0), .ref (gA G p0.1 p0.2.1 p0.2.2)]) (Qv G x r) 0 0 (gF G) := by
  refine Met.ofW (cc := cX12_passArms) (maxL := 2) (ret := none) (by decide) rfl ?_
  intro p e s m args below meth c s₁ B hml hv
  obtain ⟨rfl, hK, hW⟩ := hv
  have hx := B.exec
  have hb := B.bytes
  have hr := B.returns
  have hts := atoms_spec (ws := WS_X12_passArms) B.pre
  have htg : ∀ w ∈ wsG, w.before _ s = true := fun w h => hts w (List.mem_cons_of_mem _ h)
  have hown : s.vm.findClass RX12 = some m.cls := findClass_of_methodNamed B.named
  have hlocks := B.notSynchronized
  have hS : va_S (gF G) s.heap s.heap [] := va_S.rf
  have hl := lv_entry ([.ref (gA G 40 0 0), .ref (gA G p0.1 p0.2.1 p0.2.2)]) (n := 2) (Nat.le_of_ble_eq_true rfl)
  rw [lg_entry_eq]
  generalize (lg_sl ([.ref (gA G 40 0 0), .ref (gA G p0.1 p0.2.1 p0.2.2)]) ++ List.replicate (2 - (lg_sl ([.ref (gA G 40 0 0), .ref (gA G p0.1 p0.2.1 p0.2.2)])).length) Slot.unset).toArray = ls at hl ⊢
  have hl : lv_has ls 2 [(0, .ref (gA G 40 0 0)), (1, .ref (gA G p0.1 p0.2.1 p0.2.2))] := hl
  have hX := h
  unfold m_X12_passArms at hX
  refine lv_aload_n hx hb dX12_passArms_0 rfl (lv_at hl 0 rfl) ?_
  refine lv_aload_n hx hb dX12_passArms_1 rfl (lv_at hl 0 rfl) ?_
  refine gf_40_10 hx hb htg hown hK hW q145 dX12_passArms_2 ?_
  refine lv_aload_n hx hb dX12_passArms_5 rfl (lv_at hl 1 rfl) ?_
  obtain ⟨y3, h1, hX⟩ := bd_go hX
  refine k_X12_passes hx hb hml hown htg hK hW hS (ia_110) (show ¬ (110 : Nat) < 40 by decide) hA_p0 hB_p0 h1 q360 hl.1 (Nat.le_of_ble_eq_true rfl) (Nat.le_of_ble_eq_true rfl) (Nat.le_of_ble_eq_true rfl) ⟨Nat.zero_le _, Nat.zero_le _⟩ dX12_passArms_6 (fun H locs hW hS => ?_)
  refine lv_aload_n hx hb dX12_passArms_9 rfl (lv_at hl 0 rfl) ?_
  refine lv_aload_n hx hb dX12_passArms_10 rfl (lv_at hl 0 rfl) ?_
  refine gf_40_11 hx hb htg hown hK hW q146 dX12_passArms_11 ?_
  refine lv_aload_n hx hb dX12_passArms_14 rfl (lv_at hl 1 rfl) ?_
  obtain ⟨y6, h4, hX⟩ := bd_go hX
  refine k_X12_passes hx hb hml hown htg hK hW hS (ia_111) (show ¬ (111 : Nat) < 40 by decide) hA_p0 hB_p0 h4 q360 hl.1 (Nat.le_of_ble_eq_true rfl) (Nat.le_of_ble_eq_true rfl) (Nat.le_of_ble_eq_true rfl) ⟨Nat.zero_le _, Nat.zero_le _⟩ dX12_passArms_15 (fun H locs hW hS => ?_)
  refine lv_aload_n hx hb dX12_passArms_18 rfl (lv_at hl 0 rfl) ?_
  refine lv_aload_n hx hb dX12_passArms_19 rfl (lv_at hl 0 rfl) ?_
  refine gf_40_12 hx hb htg hown hK hW q147 dX12_passArms_20 ?_
  refine lv_aload_n hx hb dX12_passArms_23 rfl (lv_at hl 1 rfl) ?_
  obtain ⟨y9, h7, hX⟩ := bd_go hX
  refine k_X12_passes hx hb hml hown htg hK hW hS (ia_112) (show ¬ (112 : Nat) < 40 by decide) hA_p0 hB_p0 h7 q360 hl.1 (Nat.le_of_ble_eq_true rfl) (Nat.le_of_ble_eq_true rfl) (Nat.le_of_ble_eq_true rfl) ⟨Nat.zero_le _, Nat.zero_le _⟩ dX12_passArms_24 (fun H locs hW hS => ?_)
  refine lv_aload_n hx hb dX12_passArms_27 rfl (lv_at hl 0 rfl) ?_
  refine lv_aload_n hx hb dX12_passArms_28 rfl (lv_at hl 0 rfl) ?_
  refine gf_40_13 hx hb htg hown hK hW q148 dX12_passArms_29 ?_
  refine lv_aload_n hx hb dX12_passArms_32 rfl (lv_at hl 1 rfl) ?_
  obtain ⟨y12, h10, hX⟩ := bd_go hX
  refine k_X12_passes hx hb hml hown htg hK hW hS (ia_113) (show ¬ (113 : Nat) < 40 by decide) hA_p0 hB_p0 h10 q360 hl.1 (Nat.le_of_ble_eq_true rfl) (Nat.le_of_ble_eq_true rfl) (Nat.le_of_ble_eq_true rfl) ⟨Nat.zero_le _, Nat.zero_le _⟩ dX12_passArms_33 (fun H locs hW hS => ?_)
  refine lv_aload_n hx hb dX12_passArms_36 rfl (lv_at hl 0 rfl) ?_
  refine lv_aload_n hx hb dX12_passArms_37 rfl (lv_at hl 0 rfl) ?_
  refine gf_40_14 hx hb htg hown hK hW q149 dX12_passArms_38 ?_
  refine lv_aload_n hx hb dX12_passArms_41 rfl (lv_at hl 1 rfl) ?_
  obtain ⟨y15, h13, hX⟩ := bd_go hX
  refine k_X12_passes hx hb hml hown htg hK hW hS (ia_114) (show ¬ (114 : Nat) < 40 by decide) hA_p0 hB_p0 h13 q360 hl.1 (Nat.le_of_ble_eq_true rfl) (Nat.le_of_ble_eq_true rfl) (Nat.le_of_ble_eq_true rfl) ⟨Nat.zero_le _, Nat.zero_le _⟩ dX12_passArms_42 (fun H locs hW hS => ?_)
  refine lv_aload_n hx hb dX12_passArms_45 rfl (lv_at hl 0 rfl) ?_
  refine lv_aload_n hx hb dX12_passArms_46 rfl (lv_at hl 0 rfl) ?_
  refine gf_40_15 hx hb htg hown hK hW q150 dX12_passArms_47 ?_
  refine lv_aload_n hx hb dX12_passArms_50 rfl (lv_at hl 1 rfl) ?_
  obtain ⟨y18, h16, hX⟩ := bd_go hX
  refine k_X12_passes hx hb hml hown htg hK hW hS (ia_115) (show ¬ (115 : Nat) < 40 by decide) hA_p0 hB_p0 h16 q360 hl.1 (Nat.le_of_ble_eq_true rfl) (Nat.le_of_ble_eq_true rfl) (Nat.le_of_ble_eq_true rfl) ⟨Nat.zero_le _, Nat.zero_le _⟩ dX12_passArms_51 (fun H locs hW hS => ?_)
  refine lv_aload_n hx hb dX12_passArms_54 rfl (lv_at hl 0 rfl) ?_
  refine lv_aload_n hx hb dX12_passArms_55 rfl (lv_at hl 0 rfl) ?_
  refine gf_40_16 hx hb htg hown hK hW q151 dX12_passArms_56 ?_
  refine lv_aload_n hx hb dX12_passArms_59 rfl (lv_at hl 1 rfl) ?_
  obtain ⟨y21, h19, hX⟩ := bd_go hX
  refine k_X12_passes hx hb hml hown htg hK hW hS (ia_116) (show ¬ (116 : Nat) < 40 by decide) hA_p0 hB_p0 h19 q360 hl.1 (Nat.le_of_ble_eq_true rfl) (Nat.le_of_ble_eq_true rfl) (Nat.le_of_ble_eq_true rfl) ⟨Nat.zero_le _, Nat.zero_le _⟩ dX12_passArms_60 (fun H locs hW hS => ?_)
  refine lv_aload_n hx hb dX12_passArms_63 rfl (lv_at hl 0 rfl) ?_
  refine lv_aload_n hx hb dX12_passArms_64 rfl (lv_at hl 0 rfl) ?_
  refine gf_40_17 hx hb htg hown hK hW q152 dX12_passArms_65 ?_
  refine lv_aload_n hx hb dX12_passArms_68 rfl (lv_at hl 1 rfl) ?_
  obtain ⟨y24, h22, hX⟩ := bd_go hX
  refine k_X12_passes hx hb hml hown htg hK hW hS (ia_117) (show ¬ (117 : Nat) < 40 by decide) hA_p0 hB_p0 h22 q360 hl.1 (Nat.le_of_ble_eq_true rfl) (Nat.le_of_ble_eq_true rfl) (Nat.le_of_ble_eq_true rfl) ⟨Nat.zero_le _, Nat.zero_le _⟩ dX12_passArms_69 (fun H locs hW hS => ?_)
  refine lv_aload_n hx hb dX12_passArms_72 rfl (lv_at hl 0 rfl) ?_
  refine lv_aload_n hx hb dX12_passArms_73 rfl (lv_at hl 0 rfl) ?_
  refine gf_40_18 hx hb htg hown hK hW q153 dX12_passArms_74 ?_
  refine lv_aload_n hx hb dX12_passArms_77 rfl (lv_at hl 1 rfl) ?_
  obtain ⟨y27, h25, hX⟩ := bd_go hX
  refine k_X12_passes hx hb hml hown htg hK hW hS (ia_118) (show ¬ (118 : Nat) < 40 by decide) hA_p0 hB_p0 h25 q360 hl.1 (Nat.le_of_ble_eq_true rfl) (Nat.le_of_ble_eq_true rfl) (Nat.le_of_ble_eq_true rfl) ⟨Nat.zero_le _, Nat.zero_le _⟩ dX12_passArms_78 (fun H locs hW hS => ?_)
  refine lv_aload_n hx hb dX12_passArms_81 rfl (lv_at hl 0 rfl) ?_
  refine lv_aload_n hx hb dX12_passArms_82 rfl (lv_at hl 0 rfl) ?_
  refine gf_40_19 hx hb htg hown hK hW q154 dX12_passArms_83 ?_
  refine lv_aload_n hx hb dX12_passArms_86 rfl (lv_at hl 1 rfl) ?_
  obtain ⟨y30, h28, hX⟩ := bd_go hX
  refine k_X12_passes hx hb hml hown htg hK hW hS (ia_119) (show ¬ (119 : Nat) < 40 by decide) hA_p0 hB_p0 h28 q360 hl.1 (Nat.le_of_ble_eq_true rfl) (Nat.le_of_ble_eq_true rfl) (Nat.le_of_ble_eq_true rfl) ⟨Nat.zero_le _, Nat.zero_le _⟩ dX12_passArms_87 (fun H locs hW hS => ?_)
  refine lv_aload_n hx hb dX12_passArms_90 rfl (lv_at hl 0 rfl) ?_
  refine lv_aload_n hx hb dX12_passArms_91 rfl (lv_at hl 0 rfl) ?_
  refine gf_40_20 hx hb htg hown hK hW q155 dX12_passArms_92 ?_
  refine lv_aload_n hx hb dX12_passArms_95 rfl (lv_at hl 1 rfl) ?_
  obtain ⟨y33, h31, hX⟩ := bd_go hX
  refine k_X12_passes hx hb hml hown htg hK hW hS (ia_120) (show ¬ (120 : Nat) < 40 by decide) hA_p0 hB_p0 h31 q360 hl.1 (Nat.le_of_ble_eq_true rfl) (Nat.le_of_ble_eq_true rfl) (Nat.le_of_ble_eq_true rfl) ⟨Nat.zero_le _, Nat.zero_le _⟩ dX12_passArms_96 (fun H locs hW hS => ?_)
  refine lv_aload_n hx hb dX12_passArms_99 rfl (lv_at hl 0 rfl) ?_
  refine lv_aload_n hx hb dX12_passArms_100 rfl (lv_at hl 0 rfl) ?_
  refine gf_40_21 hx hb htg hown hK hW q156 dX12_passArms_101 ?_
  refine lv_aload_n hx hb dX12_passArms_104 rfl (lv_at hl 1 rfl) ?_
  obtain ⟨y36, h34, hX⟩ := bd_go hX
  refine k_X12_passes hx hb hml hown htg hK hW hS (ia_121) (show ¬ (121 : Nat) < 40 by decide) hA_p0 hB_p0 h34 q360 hl.1 (Nat.le_of_ble_eq_true rfl) (Nat.le_of_ble_eq_true rfl) (Nat.le_of_ble_eq_true rfl) ⟨Nat.zero_le _, Nat.zero_le _⟩ dX12_passArms_105 (fun H locs hW hS => ?_)
  have hX := Option.some.inj hX
  subst hX
  exact rt_v hx hb hr hlocks hW hS dX12_passArms_108
set_option maxHeartbeats 4000000 in
theorem k_X12_passArms {p : Program} {l : Launch} {e : Env} {R : Room} {s : State} {m : MethodId} {args : Array Value} {below : List Frame} {meth : Method} {c : Code} {H : Heap} {locs : List Loc} {cells slots : Nat} {Q : State → Prop} {cc : ByteArray} {pc nL idx : Nat} {own : String} {ls : Array Slot} {rest : List Value} {G : Geo} {x y : Mem} {H0 : Heap} {p0 : Nat × Nat × Nat} {p0n : Nat} {z : Mem} (hx : p.tables.exec = Jvm.exec) (hb : c.code = cc) (hml : c.maxLocals = nL) (hown : s.vm.findClass own = some m.cls) (htg : ∀ w ∈ wsG, w.before args s = true) (hK : Kt G s) (hW : Wh G x y H) (hS : va_S (gF G) H0 H locs) (hA_p0 : Ia p0 p0n) (hB_p0 : ¬ p0.1 < 40) (h : m_X12_passArms p0 p0n y = some z) (hlk : Cond.methodLink own idx yX12_passArms ∈ wsG) (hn : ls.size = nL) (hr : (rest.map fun v => v.category).sum ≤ 8) (hR1 : 1 + 1 ≤ R.frames) (hR2 : 8 + (2 + 11) + 23 ≤ R.locals) (hf : cells ≤ R.cells ∧ slots ≤ R.slots) (hdg : decode cc pc = .ok (.invokevirtual idx, 3)) (kk : ∀ (H1 : Heap) (locs1 : List Loc), Wh G x z H1 → va_S (gF G) H0 H1 locs1 → W p l e R s m args below meth c H1 locs1 cells slots Q (F0 m (pc + 3) ls (rest))) : W p l e R s m args below meth c H locs cells slots Q (F0 m pc ls (.ref (gA G p0.1 p0.2.1 p0.2.2) :: .ref (gA G 40 0 0) :: rest)) := by
  refine va_callv (va_runV (As := [.ref (gA G p0.1 p0.2.1 p0.2.2)]) (rest := rest) ⟨hx, hb, hml, hown, htg⟩ (c_X12_passArms l G x y p0 p0n hA_p0 hB_p0 z h) (cwV 1 htg (gd_V hlk q365 q366 q5 q367) rfl rfl rfl (by decide +kernel) ⟨hR1, hR2⟩) ⟨fun a U g mk q => ⟨q.1, q.2.1.calling, q.2.2⟩, rc_40 hK hW, fun U hU hW9 => ⟨rfl, hK.warm hW9, by rw [hU]; exact hW⟩⟩ rfl rfl hn rfl (lv_room hr) hdg hf) hS (fun _ _ h9 => h9) (fun _ h9 => h9) ?_
  intro u t H1 locs1 ht hvm hw hB hz1 hk1 hS1
  replace hB : Wh G x z t.heap := hB
  rw [ht] at hB
  exact kk H1 locs1 hB hS1
/-! METHOD X12_passJobs -/
def m_X12_passJobs (p0 : Nat × Nat × Nat) (p0n : Nat) (y : Mem) : Option Mem :=
  bd_ (m_X12_passes (122, 0, 0) 30 p0 p0n y) fun y3 => bd_ (m_X12_passes (123, 0, 0) 30 p0 p0n y3) fun y6 => bd_ (m_X12_passes (124, 0, 0) 30 p0 p0n y6) fun y9 => bd_ (m_X12_passes (125, 0, 0) 30 p0 p0n y9) fun y12 => bd_ (m_X12_passes (126, 0, 0) 30 p0 p0n y12) fun y15 => bd_ (m_X12_passes (127, 0, 0) 30 p0 p0n y15) fun y18 => bd_ (m_X12_passes (128, 0, 0) 30 p0 p0n y18) fun y21 => bd_ (m_X12_passes (129, 0, 0) 30 p0 p0n y21) fun y24 => bd_ (m_X12_passes (130, 0, 0) 30 p0 p0n y24) fun y27 => bd_ (m_X12_passes (131, 0, 0) 30 p0 p0n y27) fun y30 => some y30
abbrev WS_X12_passJobs : List Cond := .code yX12_passJobs cX12_passJobs 2 none :: wsG
abbrev RM_X12_passJobs : Room := { frames := 1, cells := 0, slots := 0, locals := 23 }
set_option maxHeartbeats 4000000 in
set_option maxRecDepth 100000 in
theorem c_X12_passJobs (l : Launch) (G : Geo) (x y : Mem) (p0 : Nat × Nat × Nat) (p0n : Nat) (hA_p0 : Ia p0 p0n) (hB_p0 : ¬ p0.1 < 40) (r : Mem) (h : m_X12_passJobs p0 p0n y = some r) : Met l yX12_passJobs WS_X12_passJobs RM_X12_passJobs (Pw G x y [.ref (gA G 40 0 0), .ref (gA G p0.1 p0.2.1 p0.2.2)]) (Qv G x r) 0 0 (gF G) := by
  refine Met.ofW (cc := cX12_passJobs) (maxL := 2) (ret := none) (by decide) rfl ?_
  intro p e s m args below meth c s₁ B hml hv
  obtain ⟨rfl, hK, hW⟩ := hv
  have hx := B.exec
  have hb := B.bytes
  have hr := B.returns
  have hts := atoms_spec (ws := WS_X12_passJobs) B.pre
  have htg : ∀ w ∈ wsG, w.before _ s = true := fun w h => hts w (List.mem_cons_of_mem _ h)
  have hown : s.vm.findClass RX12 = some m.cls := findClass_of_methodNamed B.named
  have hlocks := B.notSynchronized
  have hS : va_S (gF G) s.heap s.heap [] := va_S.rf
  have hl := lv_entry ([.ref (gA G 40 0 0), .ref (gA G p0.1 p0.2.1 p0.2.2)]) (n := 2) (Nat.le_of_ble_eq_true rfl)
  rw [lg_entry_eq]
  generalize (lg_sl ([.ref (gA G 40 0 0), .ref (gA G p0.1 p0.2.1 p0.2.2)]) ++ List.replicate (2 - (lg_sl ([.ref (gA G 40 0 0), .ref (gA G p0.1 p0.2.1 p0.2.2)])).length) Slot.unset).toArray = ls at hl ⊢
  have hl : lv_has ls 2 [(0, .ref (gA G 40 0 0)), (1, .ref (gA G p0.1 p0.2.1 p0.2.2))] := hl
  have hX := h
  unfold m_X12_passJobs at hX
  refine lv_aload_n hx hb dX12_passJobs_0 rfl (lv_at hl 0 rfl) ?_
  refine lv_aload_n hx hb dX12_passJobs_1 rfl (lv_at hl 0 rfl) ?_
  refine gf_40_22 hx hb htg hown hK hW q157 dX12_passJobs_2 ?_
  refine lv_aload_n hx hb dX12_passJobs_5 rfl (lv_at hl 1 rfl) ?_
  obtain ⟨y3, h1, hX⟩ := bd_go hX
  refine k_X12_passes hx hb hml hown htg hK hW hS (ia_122) (show ¬ (122 : Nat) < 40 by decide) hA_p0 hB_p0 h1 q360 hl.1 (Nat.le_of_ble_eq_true rfl) (Nat.le_of_ble_eq_true rfl) (Nat.le_of_ble_eq_true rfl) ⟨Nat.zero_le _, Nat.zero_le _⟩ dX12_passJobs_6 (fun H locs hW hS => ?_)
  refine lv_aload_n hx hb dX12_passJobs_9 rfl (lv_at hl 0 rfl) ?_
  refine lv_aload_n hx hb dX12_passJobs_10 rfl (lv_at hl 0 rfl) ?_
  refine gf_40_23 hx hb htg hown hK hW q158 dX12_passJobs_11 ?_
  refine lv_aload_n hx hb dX12_passJobs_14 rfl (lv_at hl 1 rfl) ?_
  obtain ⟨y6, h4, hX⟩ := bd_go hX
  refine k_X12_passes hx hb hml hown htg hK hW hS (ia_123) (show ¬ (123 : Nat) < 40 by decide) hA_p0 hB_p0 h4 q360 hl.1 (Nat.le_of_ble_eq_true rfl) (Nat.le_of_ble_eq_true rfl) (Nat.le_of_ble_eq_true rfl) ⟨Nat.zero_le _, Nat.zero_le _⟩ dX12_passJobs_15 (fun H locs hW hS => ?_)
  refine lv_aload_n hx hb dX12_passJobs_18 rfl (lv_at hl 0 rfl) ?_
  refine lv_aload_n hx hb dX12_passJobs_19 rfl (lv_at hl 0 rfl) ?_
  refine gf_40_24 hx hb htg hown hK hW q159 dX12_passJobs_20 ?_
  refine lv_aload_n hx hb dX12_passJobs_23 rfl (lv_at hl 1 rfl) ?_
  obtain ⟨y9, h7, hX⟩ := bd_go hX
  refine k_X12_passes hx hb hml hown htg hK hW hS (ia_124) (show ¬ (124 : Nat) < 40 by decide) hA_p0 hB_p0 h7 q360 hl.1 (Nat.le_of_ble_eq_true rfl) (Nat.le_of_ble_eq_true rfl) (Nat.le_of_ble_eq_true rfl) ⟨Nat.zero_le _, Nat.zero_le _⟩ dX12_passJobs_24 (fun H locs hW hS => ?_)
  refine lv_aload_n hx hb dX12_passJobs_27 rfl (lv_at hl 0 rfl) ?_
  refine lv_aload_n hx hb dX12_passJobs_28 rfl (lv_at hl 0 rfl) ?_
  refine gf_40_25 hx hb htg hown hK hW q160 dX12_passJobs_29 ?_
  refine lv_aload_n hx hb dX12_passJobs_32 rfl (lv_at hl 1 rfl) ?_
  obtain ⟨y12, h10, hX⟩ := bd_go hX
  refine k_X12_passes hx hb hml hown htg hK hW hS (ia_125) (show ¬ (125 : Nat) < 40 by decide) hA_p0 hB_p0 h10 q360 hl.1 (Nat.le_of_ble_eq_true rfl) (Nat.le_of_ble_eq_true rfl) (Nat.le_of_ble_eq_true rfl) ⟨Nat.zero_le _, Nat.zero_le _⟩ dX12_passJobs_33 (fun H locs hW hS => ?_)
  refine lv_aload_n hx hb dX12_passJobs_36 rfl (lv_at hl 0 rfl) ?_
  refine lv_aload_n hx hb dX12_passJobs_37 rfl (lv_at hl 0 rfl) ?_
  refine gf_40_26 hx hb htg hown hK hW q161 dX12_passJobs_38 ?_
  refine lv_aload_n hx hb dX12_passJobs_41 rfl (lv_at hl 1 rfl) ?_
  obtain ⟨y15, h13, hX⟩ := bd_go hX
  refine k_X12_passes hx hb hml hown htg hK hW hS (ia_126) (show ¬ (126 : Nat) < 40 by decide) hA_p0 hB_p0 h13 q360 hl.1 (Nat.le_of_ble_eq_true rfl) (Nat.le_of_ble_eq_true rfl) (Nat.le_of_ble_eq_true rfl) ⟨Nat.zero_le _, Nat.zero_le _⟩ dX12_passJobs_42 (fun H locs hW hS => ?_)
  refine lv_aload_n hx hb dX12_passJobs_45 rfl (lv_at hl 0 rfl) ?_
  refine lv_aload_n hx hb dX12_passJobs_46 rfl (lv_at hl 0 rfl) ?_
  refine gf_40_27 hx hb htg hown hK hW q162 dX12_passJobs_47 ?_
  refine lv_aload_n hx hb dX12_passJobs_50 rfl (lv_at hl 1 rfl) ?_
  obtain ⟨y18, h16, hX⟩ := bd_go hX
  refine k_X12_passes hx hb hml hown htg hK hW hS (ia_127) (show ¬ (127 : Nat) < 40 by decide) hA_p0 hB_p0 h16 q360 hl.1 (Nat.le_of_ble_eq_true rfl) (Nat.le_of_ble_eq_true rfl) (Nat.le_of_ble_eq_true rfl) ⟨Nat.zero_le _, Nat.zero_le _⟩ dX12_passJobs_51 (fun H locs hW hS => ?_)
  refine lv_aload_n hx hb dX12_passJobs_54 rfl (lv_at hl 0 rfl) ?_
  refine lv_aload_n hx hb dX12_passJobs_55 rfl (lv_at hl 0 rfl) ?_
  refine gf_40_28 hx hb htg hown hK hW q163 dX12_passJobs_56 ?_
  refine lv_aload_n hx hb dX12_passJobs_59 rfl (lv_at hl 1 rfl) ?_
  obtain ⟨y21, h19, hX⟩ := bd_go hX
  refine k_X12_passes hx hb hml hown htg hK hW hS (ia_128) (show ¬ (128 : Nat) < 40 by decide) hA_p0 hB_p0 h19 q360 hl.1 (Nat.le_of_ble_eq_true rfl) (Nat.le_of_ble_eq_true rfl) (Nat.le_of_ble_eq_true rfl) ⟨Nat.zero_le _, Nat.zero_le _⟩ dX12_passJobs_60 (fun H locs hW hS => ?_)
  refine lv_aload_n hx hb dX12_passJobs_63 rfl (lv_at hl 0 rfl) ?_
  refine lv_aload_n hx hb dX12_passJobs_64 rfl (lv_at hl 0 rfl) ?_
  refine gf_40_29 hx hb htg hown hK hW q164 dX12_passJobs_65 ?_
  refine lv_aload_n hx hb dX12_passJobs_68 rfl (lv_at hl 1 rfl) ?_
  obtain ⟨y24, h22, hX⟩ := bd_go hX
  refine k_X12_passes hx hb hml hown htg hK hW hS (ia_129) (show ¬ (129 : Nat) < 40 by decide) hA_p0 hB_p0 h22 q360 hl.1 (Nat.le_of_ble_eq_true rfl) (Nat.le_of_ble_eq_true rfl) (Nat.le_of_ble_eq_true rfl) ⟨Nat.zero_le _, Nat.zero_le _⟩ dX12_passJobs_69 (fun H locs hW hS => ?_)
  refine lv_aload_n hx hb dX12_passJobs_72 rfl (lv_at hl 0 rfl) ?_
  refine lv_aload_n hx hb dX12_passJobs_73 rfl (lv_at hl 0 rfl) ?_
  refine gf_40_30 hx hb htg hown hK hW q165 dX12_passJobs_74 ?_
  refine lv_aload_n hx hb dX12_passJobs_77 rfl (lv_at hl 1 rfl) ?_
  obtain ⟨y27, h25, hX⟩ := bd_go hX
  refine k_X12_passes hx hb hml hown htg hK hW hS (ia_130) (show ¬ (130 : Nat) < 40 by decide) hA_p0 hB_p0 h25 q360 hl.1 (Nat.le_of_ble_eq_true rfl) (Nat.le_of_ble_eq_true rfl) (Nat.le_of_ble_eq_true rfl) ⟨Nat.zero_le _, Nat.zero_le _⟩ dX12_passJobs_78 (fun H locs hW hS => ?_)
  refine lv_aload_n hx hb dX12_passJobs_81 rfl (lv_at hl 0 rfl) ?_
  refine lv_aload_n hx hb dX12_passJobs_82 rfl (lv_at hl 0 rfl) ?_
  refine gf_40_31 hx hb htg hown hK hW q166 dX12_passJobs_83 ?_
  refine lv_aload_n hx hb dX12_passJobs_86 rfl (lv_at hl 1 rfl) ?_
  obtain ⟨y30, h28, hX⟩ := bd_go hX
  refine k_X12_passes hx hb hml hown htg hK hW hS (ia_131) (show ¬ (131 : Nat) < 40 by decide) hA_p0 hB_p0 h28 q360 hl.1 (Nat.le_of_ble_eq_true rfl) (Nat.le_of_ble_eq_true rfl) (Nat.le_of_ble_eq_true rfl) ⟨Nat.zero_le _, Nat.zero_le _⟩ dX12_passJobs_87 (fun H locs hW hS => ?_)
  have hX := Option.some.inj hX
  subst hX
  exact rt_v hx hb hr hlocks hW hS dX12_passJobs_90
set_option maxHeartbeats 4000000 in
theorem k_X12_passJobs {p : Program} {l : Launch} {e : Env} {R : Room} {s : State} {m : MethodId} {args : Array Value} {below : List Frame} {meth : Method} {c : Code} {H : Heap} {locs : List Loc} {cells slots : Nat} {Q : State → Prop} {cc : ByteArray} {pc nL idx : Nat} {own : String} {ls : Array Slot} {rest : List Value} {G : Geo} {x y : Mem} {H0 : Heap} {p0 : Nat × Nat × Nat} {p0n : Nat} {z : Mem} (hx : p.tables.exec = Jvm.exec) (hb : c.code = cc) (hml : c.maxLocals = nL) (hown : s.vm.findClass own = some m.cls) (htg : ∀ w ∈ wsG, w.before args s = true) (hK : Kt G s) (hW : Wh G x y H) (hS : va_S (gF G) H0 H locs) (hA_p0 : Ia p0 p0n) (hB_p0 : ¬ p0.1 < 40) (h : m_X12_passJobs p0 p0n y = some z) (hlk : Cond.methodLink own idx yX12_passJobs ∈ wsG) (hn : ls.size = nL) (hr : (rest.map fun v => v.category).sum ≤ 8) (hR1 : 1 + 1 ≤ R.frames) (hR2 : 8 + (2 + 11) + 23 ≤ R.locals) (hf : cells ≤ R.cells ∧ slots ≤ R.slots) (hdg : decode cc pc = .ok (.invokevirtual idx, 3)) (kk : ∀ (H1 : Heap) (locs1 : List Loc), Wh G x z H1 → va_S (gF G) H0 H1 locs1 → W p l e R s m args below meth c H1 locs1 cells slots Q (F0 m (pc + 3) ls (rest))) : W p l e R s m args below meth c H locs cells slots Q (F0 m pc ls (.ref (gA G p0.1 p0.2.1 p0.2.2) :: .ref (gA G 40 0 0) :: rest)) := by
  refine va_callv (va_runV (As := [.ref (gA G p0.1 p0.2.1 p0.2.2)]) (rest := rest) ⟨hx, hb, hml, hown, htg⟩ (c_X12_passJobs l G x y p0 p0n hA_p0 hB_p0 z h) (cwV 1 htg (gd_V hlk q369 q370 q5 q371) rfl rfl rfl (by decide +kernel) ⟨hR1, hR2⟩) ⟨fun a U g mk q => ⟨q.1, q.2.1.calling, q.2.2⟩, rc_40 hK hW, fun U hU hW9 => ⟨rfl, hK.warm hW9, by rw [hU]; exact hW⟩⟩ rfl rfl hn rfl (lv_room hr) hdg hf) hS (fun _ _ h9 => h9) (fun _ h9 => h9) ?_
  intro u t H1 locs1 ht hvm hw hB hz1 hk1 hS1
  replace hB : Wh G x z t.heap := hB
  rw [ht] at hB
  exact kk H1 locs1 hB hS1
/-! METHOD X12_pass -/
def m_X12_pass_j17 (p0 : Int32) (p1 : Nat × Nat × Nat) (p1n : Nat) (s0 : Int32) (y : Mem) : Option (Int32 × Mem) :=
  lt_ s0 fun x3_3 => gd_ (y 40 0 0 60) p1n (lt_ (up4 y p1.1 p1.2.1 p1.2.2 (y 40 0 0 60).toNatClampNeg x3_3) fun y5 => lt_ (up4 y5 40 0 0 60 ((y5 40 0 0 60) + (1 : Int32))) fun y6 => some (x3_3, y6))
def m_X12_pass (p0 : Int32) (p1 : Nat × Nat × Nat) (p1n : Nat) (y : Mem) : Option (Int32 × Mem) :=
  if (y 40 0 0 62) = 0 then (gd_ (y 40 0 0 60) p1n (m_X12_pass_j17 p0 p1 p1n (y p1.1 p1.2.1 p1.2.2 (y 40 0 0 60).toNatClampNeg) y)) else (m_X12_pass_j17 p0 p1 p1n p0 y)
abbrev WS_X12_pass : List Cond := .code yX12_pass cX12_pass 4 (some .int) :: wsG
abbrev RM_X12_pass : Room := { frames := 0, cells := 0, slots := 0, locals := 0 }
set_option maxHeartbeats 4000000 in
set_option maxRecDepth 100000 in
theorem c_X12_pass (l : Launch) (G : Geo) (x y : Mem) (p0 : Int32) (p1 : Nat × Nat × Nat) (p1n : Nat) (hA_p1 : Ia p1 p1n) (hB_p1 : ¬ p1.1 < 40) (r : (Int32 × Mem)) (h : m_X12_pass p0 p1 p1n y = some r) : Met l yX12_pass WS_X12_pass RM_X12_pass (Pw G x y [.ref (gA G 40 0 0), .int p0, .ref (gA G p1.1 p1.2.1 p1.2.2)]) (Qi G x r.2 r.1) 0 0 (gF G) := by
  refine Met.ofW (cc := cX12_pass) (maxL := 4) (ret := (some .int)) (by decide) rfl ?_
  intro p e s m args below meth c s₁ B hml hv
  obtain ⟨rfl, hK, hW⟩ := hv
  have hx := B.exec
  have hb := B.bytes
  have hr := B.returns
  have hts := atoms_spec (ws := WS_X12_pass) B.pre
  have htg : ∀ w ∈ wsG, w.before _ s = true := fun w h => hts w (List.mem_cons_of_mem _ h)
  have hown : s.vm.findClass RX12 = some m.cls := findClass_of_methodNamed B.named
  have hlocks := B.notSynchronized
  have hS : va_S (gF G) s.heap s.heap [] := va_S.rf
  have hl := lv_entry ([.ref (gA G 40 0 0), .int p0, .ref (gA G p1.1 p1.2.1 p1.2.2)]) (n := 4) (Nat.le_of_ble_eq_true rfl)
  rw [lg_entry_eq]
  generalize (lg_sl ([.ref (gA G 40 0 0), .int p0, .ref (gA G p1.1 p1.2.1 p1.2.2)]) ++ List.replicate (4 - (lg_sl ([.ref (gA G 40 0 0), .int p0, .ref (gA G p1.1 p1.2.1 p1.2.2)])).length) Slot.unset).toArray = ls at hl ⊢
  have hl : lv_has ls 4 [(0, .ref (gA G 40 0 0)), (1, .int p0), (2, .ref (gA G p1.1 p1.2.1 p1.2.2))] := hl
  have hX := h
  unfold m_X12_pass at hX
  have J_17 : ∀ (s0 : Int32) (y : Mem) (H : Heap) (locs : List Loc) (ls : Array Slot), Wh G x y H → va_S (gF G) s.heap H locs → lv_has ls 4 [(0, .ref (gA G 40 0 0)), (2, .ref (gA G p1.1 p1.2.1 p1.2.2))] → m_X12_pass_j17 p0 p1 p1n s0 y = some r → W p l e (headSpec WS_X12_pass RM_X12_pass).room s m ([.ref (gA G 40 0 0), .int p0, .ref (gA G p1.1 p1.2.1 p1.2.2)] : List Value).toArray below meth c H locs 0 0 (MQ below (Qi G x r.2 r.1) ([.ref (gA G 40 0 0), .int p0, .ref (gA G p1.1 p1.2.1 p1.2.2)] : List Value).toArray s 0 0 (gF G)) (F0 m 17 ls [.int s0]) := by
    intro s0 y H locs ls hW hS hl hX
    unfold m_X12_pass_j17 at hX
    refine lv_topi (fun x3_3 e9 => ?_)
    have hX := lt_go hX e9
    refine lv_istore_n (lv' := [(3, .int x3_3), (0, .ref (gA G 40 0 0)), (2, .ref (gA G p1.1 p1.2.1 p1.2.2))]) hx hb dX12_pass_17 rfl hl (by decide) rfl (fun ls hl => ?_)
    refine lv_aload_n hx hb dX12_pass_18 rfl (lv_at hl 2 rfl) ?_
    refine lv_aload_n hx hb dX12_pass_19 rfl (lv_at hl 1 rfl) ?_
    refine gf_40_60 hx hb htg hown hK hW q351 dX12_pass_20 ?_
    refine lv_iload_n hx hb dX12_pass_23 rfl (lv_at hl 0 rfl) ?_
    obtain ⟨g4, hX⟩ := gd_go hX
    refine as_hr hx hb hK hW hS hA_p1 hB_p1 g4 dX12_pass_24 (fun H locs hW hS => ?_)
    obtain ⟨y5, e9⟩ : ∃ w : Mem, w = (up4 y p1.1 p1.2.1 p1.2.2 (y 40 0 0 60).toNatClampNeg x3_3) := ⟨_, rfl⟩
    rw [← e9] at hW
    have hX := lt_go hX e9
    refine lv_aload_n hx hb dX12_pass_25 rfl (lv_at hl 1 rfl) ?_
    refine lv_dup hx hb dX12_pass_26 rfl ?_
    refine gf_40_60 hx hb htg hown hK hW q351 dX12_pass_27 ?_
    refine lv_iconst (v := (1 : Int32)) hx hb dX12_pass_30 (by decide) ?_
    refine lv_iadd hx hb dX12_pass_31 ?_
    refine pf_40_60 hx hb htg hown hK hW hS q351 dX12_pass_32 (fun H locs hW hS => ?_)
    obtain ⟨y6, e9⟩ : ∃ w : Mem, w = (up4 y5 40 0 0 60 ((y5 40 0 0 60) + (1 : Int32))) := ⟨_, rfl⟩
    rw [← e9] at hW
    have hX := lt_go hX e9
    refine lv_iload_n hx hb dX12_pass_35 rfl (lv_at hl 0 rfl) ?_
    have hX := Option.some.inj hX
    subst hX
    exact rt_i hx hb hr hlocks hW hS dX12_pass_36
  refine lv_aload_n hx hb dX12_pass_0 rfl (lv_at hl 0 rfl) ?_
  refine gf_40_62 hx hb htg hown hK hW q350 dX12_pass_1 ?_
  refine lv_if_eq (tgt := 11) hx hb dX12_pass_4 (by decide) (fun c1 => ?_) (fun c1 => ?_)
  · have hX := it_t hX c1
    refine lv_aload_n hx hb dX12_pass_11 rfl (lv_at hl 2 rfl) ?_
    refine lv_aload_n hx hb dX12_pass_12 rfl (lv_at hl 0 rfl) ?_
    refine gf_40_60 hx hb htg hown hK hW q351 dX12_pass_13 ?_
    obtain ⟨g2, hX⟩ := gd_go hX
    refine al_hr hx hb hK hW hA_p1 hB_p1 g2 dX12_pass_16 ?_
    exact J_17 _ _ _ _ _ hW hS (lv_sub hl [0, 2] rfl) hX
  · have hX := it_f hX c1
    refine lv_iload_n hx hb dX12_pass_7 rfl (lv_at hl 1 rfl) ?_
    refine lv_goto (tgt := 17) hx hb dX12_pass_8 (by decide) ?_
    exact J_17 _ _ _ _ _ hW hS (lv_sub hl [0, 2] rfl) hX
set_option maxHeartbeats 4000000 in
theorem k_X12_pass {p : Program} {l : Launch} {e : Env} {R : Room} {s : State} {m : MethodId} {args : Array Value} {below : List Frame} {meth : Method} {c : Code} {H : Heap} {locs : List Loc} {cells slots : Nat} {Q : State → Prop} {cc : ByteArray} {pc nL idx : Nat} {own : String} {ls : Array Slot} {rest : List Value} {G : Geo} {x y : Mem} {H0 : Heap} {p0 : Int32} {p1 : Nat × Nat × Nat} {p1n : Nat} {v : Int32} {z : Mem} (hx : p.tables.exec = Jvm.exec) (hb : c.code = cc) (hml : c.maxLocals = nL) (hown : s.vm.findClass own = some m.cls) (htg : ∀ w ∈ wsG, w.before args s = true) (hK : Kt G s) (hW : Wh G x y H) (hS : va_S (gF G) H0 H locs) (hA_p1 : Ia p1 p1n) (hB_p1 : ¬ p1.1 < 40) (h : m_X12_pass p0 p1 p1n y = some (v, z)) (hlk : Cond.methodLink own idx yX12_pass ∈ wsG) (hn : ls.size = nL) (hr : (rest.map fun v => v.category).sum ≤ 8) (hR1 : 0 + 1 ≤ R.frames) (hR2 : 8 + (4 + 11) + 0 ≤ R.locals) (hf : cells ≤ R.cells ∧ slots ≤ R.slots) (hdg : decode cc pc = .ok (.invokevirtual idx, 3)) (kk : ∀ (H1 : Heap) (locs1 : List Loc), Wh G x z H1 → va_S (gF G) H0 H1 locs1 → W p l e R s m args below meth c H1 locs1 cells slots Q (F0 m (pc + 3) ls (.int v :: rest))) : W p l e R s m args below meth c H locs cells slots Q (F0 m pc ls (.ref (gA G p1.1 p1.2.1 p1.2.2) :: .int p0 :: .ref (gA G 40 0 0) :: rest)) := by
  refine va_calli (va_runV (As := [.int p0, .ref (gA G p1.1 p1.2.1 p1.2.2)]) (rest := rest) ⟨hx, hb, hml, hown, htg⟩ (c_X12_pass l G x y p0 p1 p1n hA_p1 hB_p1 (v, z) h) (cwV 2 htg (gd_V hlk q373 q374 q5 q375) rfl rfl rfl (by decide +kernel) ⟨hR1, hR2⟩) ⟨fun a U g mk q => ⟨q.1, q.2.1.calling, q.2.2⟩, rc_40 hK hW, fun U hU hW9 => ⟨rfl, hK.warm hW9, by rw [hU]; exact hW⟩⟩ rfl rfl hn rfl (lv_room hr) hdg hf) hS (fun _ _ h9 => h9) (fun _ h9 => h9) ?_
  intro r9 u t H1 locs1 ht hvm hw hB hz1 hk1 hS1
  replace hB : Wh G x z t.heap := hB
  rw [ht] at hB
  replace hw : r9 = v := hw
  subst hw
  exact kk H1 locs1 hB hS1
/-! METHOD X12_passAll -/
def m_X12_passAll (p0 : Nat × Nat × Nat) (p0n : Nat) (p1 : Int32) (p2 : Int32) (y : Mem) : Option Mem :=
  gb_ p2 (lt_ (up4 y 40 0 0 62 p2) fun y1 => lt_ (up4 y1 40 0 0 60 p1) fun y2 => bd_ (m_X12_passes (101, 0, 0) 8 p0 p0n y2) fun y5 => bd_ (m_X12_passes (102, 0, 0) 8 p0 p0n y5) fun y8 => bd_ (m_X12_passes (103, 0, 0) 3 p0 p0n y8) fun y11 => bd_ (m_X12_passes (104, 0, 0) 3 p0 p0n y11) fun y14 => bd_ (m_X12_passes (105, 0, 0) 12 p0 p0n y14) fun y17 => bd_ (m_X12_passes (106, 0, 0) 3 p0 p0n y17) fun y20 => bd_ (m_X12_passes (107, 0, 0) 3 p0 p0n y20) fun y23 => bd_ (m_X12_passes (108, 0, 0) 3 p0 p0n y23) fun y26 => bd_ (m_X12_passes (109, 0, 0) 3 p0 p0n y26) fun y29 => bd_ (m_X12_passArms p0 p0n y29) fun y32 => bd_ (m_X12_passJobs p0 p0n y32) fun y35 => bd_ (m_X12_passes (132, 0, 0) 96 p0 p0n y35) fun y38 => bd2_ (m_X12_pass (y38 40 0 0 33) p0 p0n y38) fun r40 y41 => lt_ (up4 y41 40 0 0 33 r40) fun y42 => bd2_ (m_X12_pass (y42 40 0 0 34) p0 p0n y42) fun r44 y45 => lt_ (up4 y45 40 0 0 34 r44) fun y46 => bd2_ (m_X12_pass (y46 40 0 0 35) p0 p0n y46) fun r48 y49 => lt_ (up4 y49 40 0 0 35 r48) fun y50 => bd2_ (m_X12_pass (y50 40 0 0 36) p0 p0n y50) fun r52 y53 => lt_ (up4 y53 40 0 0 36 r52) fun y54 => bd2_ (m_X12_pass (y54 40 0 0 37) p0 p0n y54) fun r56 y57 => lt_ (up4 y57 40 0 0 37 r56) fun y58 => bd2_ (m_X12_pass (y58 40 0 0 38) p0 p0n y58) fun r60 y61 => lt_ (up4 y61 40 0 0 38 r60) fun y62 => bd2_ (m_X12_pass (y62 40 0 0 39) p0 p0n y62) fun r64 y65 => lt_ (up4 y65 40 0 0 39 r64) fun y66 => bd2_ (m_X12_pass (y66 40 0 0 40) p0 p0n y66) fun r68 y69 => lt_ (up4 y69 40 0 0 40 r68) fun y70 => some y70)
abbrev WS_X12_passAll : List Cond := .code yX12_passAll cX12_passAll 4 none :: wsG
abbrev RM_X12_passAll : Room := { frames := 2, cells := 0, slots := 0, locals := 44 }
set_option maxHeartbeats 4000000 in
set_option maxRecDepth 100000 in
theorem c_X12_passAll (l : Launch) (G : Geo) (x y : Mem) (p0 : Nat × Nat × Nat) (p0n : Nat) (p1 : Int32) (p2 : Int32) (hA_p0 : Ia p0 p0n) (hB_p0 : ¬ p0.1 < 40) (r : Mem) (h : m_X12_passAll p0 p0n p1 p2 y = some r) : Met l yX12_passAll WS_X12_passAll RM_X12_passAll (Pw G x y [.ref (gA G 40 0 0), .ref (gA G p0.1 p0.2.1 p0.2.2), .int p1, .int p2]) (Qv G x r) 0 0 (gF G) := by
  refine Met.ofW (cc := cX12_passAll) (maxL := 4) (ret := none) (by decide) rfl ?_
  intro p e s m args below meth c s₁ B hml hv
  obtain ⟨rfl, hK, hW⟩ := hv
  have hx := B.exec
  have hb := B.bytes
  have hr := B.returns
  have hts := atoms_spec (ws := WS_X12_passAll) B.pre
  have htg : ∀ w ∈ wsG, w.before _ s = true := fun w h => hts w (List.mem_cons_of_mem _ h)
  have hown : s.vm.findClass RX12 = some m.cls := findClass_of_methodNamed B.named
  have hlocks := B.notSynchronized
  have hS : va_S (gF G) s.heap s.heap [] := va_S.rf
  have hl := lv_entry ([.ref (gA G 40 0 0), .ref (gA G p0.1 p0.2.1 p0.2.2), .int p1, .int p2]) (n := 4) (Nat.le_of_ble_eq_true rfl)
  rw [lg_entry_eq]
  generalize (lg_sl ([.ref (gA G 40 0 0), .ref (gA G p0.1 p0.2.1 p0.2.2), .int p1, .int p2]) ++ List.replicate (4 - (lg_sl ([.ref (gA G 40 0 0), .ref (gA G p0.1 p0.2.1 p0.2.2), .int p1, .int p2])).length) Slot.unset).toArray = ls at hl ⊢
  have hl : lv_has ls 4 [(0, .ref (gA G 40 0 0)), (1, .ref (gA G p0.1 p0.2.1 p0.2.2)), (2, .int p1), (3, .int p2)] := hl
  have hX := h
  unfold m_X12_passAll at hX
  refine lv_aload_n hx hb dX12_passAll_0 rfl (lv_at hl 0 rfl) ?_
  refine lv_iload_n hx hb dX12_passAll_1 rfl (lv_at hl 3 rfl) ?_
  obtain ⟨g9, hX⟩ := gb_go hX
  refine pf_40_62 hx hb htg hown hK hW hS q350 g9 dX12_passAll_2 (fun H locs hW hS => ?_)
  obtain ⟨y1, e9⟩ : ∃ w : Mem, w = (up4 y 40 0 0 62 p2) := ⟨_, rfl⟩
  rw [← e9] at hW
  have hX := lt_go hX e9
  refine lv_aload_n hx hb dX12_passAll_5 rfl (lv_at hl 0 rfl) ?_
  refine lv_iload_n hx hb dX12_passAll_6 rfl (lv_at hl 2 rfl) ?_
  refine pf_40_60 hx hb htg hown hK hW hS q351 dX12_passAll_7 (fun H locs hW hS => ?_)
  obtain ⟨y2, e9⟩ : ∃ w : Mem, w = (up4 y1 40 0 0 60 p1) := ⟨_, rfl⟩
  rw [← e9] at hW
  have hX := lt_go hX e9
  refine lv_aload_n hx hb dX12_passAll_10 rfl (lv_at hl 0 rfl) ?_
  refine lv_aload_n hx hb dX12_passAll_11 rfl (lv_at hl 0 rfl) ?_
  refine gf_40_1 hx hb htg hown hK hW q136 dX12_passAll_12 ?_
  refine lv_aload_n hx hb dX12_passAll_15 rfl (lv_at hl 1 rfl) ?_
  obtain ⟨y5, h3, hX⟩ := bd_go hX
  refine k_X12_passes hx hb hml hown htg hK hW hS (ia_101) (show ¬ (101 : Nat) < 40 by decide) hA_p0 hB_p0 h3 q360 hl.1 (Nat.le_of_ble_eq_true rfl) (Nat.le_of_ble_eq_true rfl) (Nat.le_of_ble_eq_true rfl) ⟨Nat.zero_le _, Nat.zero_le _⟩ dX12_passAll_16 (fun H locs hW hS => ?_)
  refine lv_aload_n hx hb dX12_passAll_19 rfl (lv_at hl 0 rfl) ?_
  refine lv_aload_n hx hb dX12_passAll_20 rfl (lv_at hl 0 rfl) ?_
  refine gf_40_2 hx hb htg hown hK hW q137 dX12_passAll_21 ?_
  refine lv_aload_n hx hb dX12_passAll_24 rfl (lv_at hl 1 rfl) ?_
  obtain ⟨y8, h6, hX⟩ := bd_go hX
  refine k_X12_passes hx hb hml hown htg hK hW hS (ia_102) (show ¬ (102 : Nat) < 40 by decide) hA_p0 hB_p0 h6 q360 hl.1 (Nat.le_of_ble_eq_true rfl) (Nat.le_of_ble_eq_true rfl) (Nat.le_of_ble_eq_true rfl) ⟨Nat.zero_le _, Nat.zero_le _⟩ dX12_passAll_25 (fun H locs hW hS => ?_)
  refine lv_aload_n hx hb dX12_passAll_28 rfl (lv_at hl 0 rfl) ?_
  refine lv_aload_n hx hb dX12_passAll_29 rfl (lv_at hl 0 rfl) ?_
  refine gf_40_3 hx hb htg hown hK hW q138 dX12_passAll_30 ?_
  refine lv_aload_n hx hb dX12_passAll_33 rfl (lv_at hl 1 rfl) ?_
  obtain ⟨y11, h9, hX⟩ := bd_go hX
  refine k_X12_passes hx hb hml hown htg hK hW hS (ia_103) (show ¬ (103 : Nat) < 40 by decide) hA_p0 hB_p0 h9 q360 hl.1 (Nat.le_of_ble_eq_true rfl) (Nat.le_of_ble_eq_true rfl) (Nat.le_of_ble_eq_true rfl) ⟨Nat.zero_le _, Nat.zero_le _⟩ dX12_passAll_34 (fun H locs hW hS => ?_)
  refine lv_aload_n hx hb dX12_passAll_37 rfl (lv_at hl 0 rfl) ?_
  refine lv_aload_n hx hb dX12_passAll_38 rfl (lv_at hl 0 rfl) ?_
  refine gf_40_4 hx hb htg hown hK hW q139 dX12_passAll_39 ?_
  refine lv_aload_n hx hb dX12_passAll_42 rfl (lv_at hl 1 rfl) ?_
  obtain ⟨y14, h12, hX⟩ := bd_go hX
  refine k_X12_passes hx hb hml hown htg hK hW hS (ia_104) (show ¬ (104 : Nat) < 40 by decide) hA_p0 hB_p0 h12 q360 hl.1 (Nat.le_of_ble_eq_true rfl) (Nat.le_of_ble_eq_true rfl) (Nat.le_of_ble_eq_true rfl) ⟨Nat.zero_le _, Nat.zero_le _⟩ dX12_passAll_43 (fun H locs hW hS => ?_)
  refine lv_aload_n hx hb dX12_passAll_46 rfl (lv_at hl 0 rfl) ?_
  refine lv_aload_n hx hb dX12_passAll_47 rfl (lv_at hl 0 rfl) ?_
  refine gf_40_5 hx hb htg hown hK hW q140 dX12_passAll_48 ?_
  refine lv_aload_n hx hb dX12_passAll_51 rfl (lv_at hl 1 rfl) ?_
  obtain ⟨y17, h15, hX⟩ := bd_go hX
  refine k_X12_passes hx hb hml hown htg hK hW hS (ia_105) (show ¬ (105 : Nat) < 40 by decide) hA_p0 hB_p0 h15 q360 hl.1 (Nat.le_of_ble_eq_true rfl) (Nat.le_of_ble_eq_true rfl) (Nat.le_of_ble_eq_true rfl) ⟨Nat.zero_le _, Nat.zero_le _⟩ dX12_passAll_52 (fun H locs hW hS => ?_)
  refine lv_aload_n hx hb dX12_passAll_55 rfl (lv_at hl 0 rfl) ?_
  refine lv_aload_n hx hb dX12_passAll_56 rfl (lv_at hl 0 rfl) ?_
  refine gf_40_6 hx hb htg hown hK hW q141 dX12_passAll_57 ?_
  refine lv_aload_n hx hb dX12_passAll_60 rfl (lv_at hl 1 rfl) ?_
  obtain ⟨y20, h18, hX⟩ := bd_go hX
  refine k_X12_passes hx hb hml hown htg hK hW hS (ia_106) (show ¬ (106 : Nat) < 40 by decide) hA_p0 hB_p0 h18 q360 hl.1 (Nat.le_of_ble_eq_true rfl) (Nat.le_of_ble_eq_true rfl) (Nat.le_of_ble_eq_true rfl) ⟨Nat.zero_le _, Nat.zero_le _⟩ dX12_passAll_61 (fun H locs hW hS => ?_)
  refine lv_aload_n hx hb dX12_passAll_64 rfl (lv_at hl 0 rfl) ?_
  refine lv_aload_n hx hb dX12_passAll_65 rfl (lv_at hl 0 rfl) ?_
  refine gf_40_7 hx hb htg hown hK hW q142 dX12_passAll_66 ?_
  refine lv_aload_n hx hb dX12_passAll_69 rfl (lv_at hl 1 rfl) ?_
  obtain ⟨y23, h21, hX⟩ := bd_go hX
  refine k_X12_passes hx hb hml hown htg hK hW hS (ia_107) (show ¬ (107 : Nat) < 40 by decide) hA_p0 hB_p0 h21 q360 hl.1 (Nat.le_of_ble_eq_true rfl) (Nat.le_of_ble_eq_true rfl) (Nat.le_of_ble_eq_true rfl) ⟨Nat.zero_le _, Nat.zero_le _⟩ dX12_passAll_70 (fun H locs hW hS => ?_)
  refine lv_aload_n hx hb dX12_passAll_73 rfl (lv_at hl 0 rfl) ?_
  refine lv_aload_n hx hb dX12_passAll_74 rfl (lv_at hl 0 rfl) ?_
  refine gf_40_8 hx hb htg hown hK hW q143 dX12_passAll_75 ?_
  refine lv_aload_n hx hb dX12_passAll_78 rfl (lv_at hl 1 rfl) ?_
  obtain ⟨y26, h24, hX⟩ := bd_go hX
  refine k_X12_passes hx hb hml hown htg hK hW hS (ia_108) (show ¬ (108 : Nat) < 40 by decide) hA_p0 hB_p0 h24 q360 hl.1 (Nat.le_of_ble_eq_true rfl) (Nat.le_of_ble_eq_true rfl) (Nat.le_of_ble_eq_true rfl) ⟨Nat.zero_le _, Nat.zero_le _⟩ dX12_passAll_79 (fun H locs hW hS => ?_)
  refine lv_aload_n hx hb dX12_passAll_82 rfl (lv_at hl 0 rfl) ?_
  refine lv_aload_n hx hb dX12_passAll_83 rfl (lv_at hl 0 rfl) ?_
  refine gf_40_9 hx hb htg hown hK hW q144 dX12_passAll_84 ?_
  refine lv_aload_n hx hb dX12_passAll_87 rfl (lv_at hl 1 rfl) ?_
  obtain ⟨y29, h27, hX⟩ := bd_go hX
  refine k_X12_passes hx hb hml hown htg hK hW hS (ia_109) (show ¬ (109 : Nat) < 40 by decide) hA_p0 hB_p0 h27 q360 hl.1 (Nat.le_of_ble_eq_true rfl) (Nat.le_of_ble_eq_true rfl) (Nat.le_of_ble_eq_true rfl) ⟨Nat.zero_le _, Nat.zero_le _⟩ dX12_passAll_88 (fun H locs hW hS => ?_)
  refine lv_aload_n hx hb dX12_passAll_91 rfl (lv_at hl 0 rfl) ?_
  refine lv_aload_n hx hb dX12_passAll_92 rfl (lv_at hl 1 rfl) ?_
  obtain ⟨y32, h30, hX⟩ := bd_go hX
  refine k_X12_passArms hx hb hml hown htg hK hW hS hA_p0 hB_p0 h30 q364 hl.1 (Nat.le_of_ble_eq_true rfl) (Nat.le_of_ble_eq_true rfl) (Nat.le_of_ble_eq_true rfl) ⟨Nat.zero_le _, Nat.zero_le _⟩ dX12_passAll_93 (fun H locs hW hS => ?_)
  refine lv_aload_n hx hb dX12_passAll_96 rfl (lv_at hl 0 rfl) ?_
  refine lv_aload_n hx hb dX12_passAll_97 rfl (lv_at hl 1 rfl) ?_
  obtain ⟨y35, h33, hX⟩ := bd_go hX
  refine k_X12_passJobs hx hb hml hown htg hK hW hS hA_p0 hB_p0 h33 q368 hl.1 (Nat.le_of_ble_eq_true rfl) (Nat.le_of_ble_eq_true rfl) (Nat.le_of_ble_eq_true rfl) ⟨Nat.zero_le _, Nat.zero_le _⟩ dX12_passAll_98 (fun H locs hW hS => ?_)
  refine lv_aload_n hx hb dX12_passAll_101 rfl (lv_at hl 0 rfl) ?_
  refine lv_aload_n hx hb dX12_passAll_102 rfl (lv_at hl 0 rfl) ?_
  refine gf_40_32 hx hb htg hown hK hW q167 dX12_passAll_103 ?_
  refine lv_aload_n hx hb dX12_passAll_106 rfl (lv_at hl 1 rfl) ?_
  obtain ⟨y38, h36, hX⟩ := bd_go hX
  refine k_X12_passes hx hb hml hown htg hK hW hS (ia_132) (show ¬ (132 : Nat) < 40 by decide) hA_p0 hB_p0 h36 q360 hl.1 (Nat.le_of_ble_eq_true rfl) (Nat.le_of_ble_eq_true rfl) (Nat.le_of_ble_eq_true rfl) ⟨Nat.zero_le _, Nat.zero_le _⟩ dX12_passAll_107 (fun H locs hW hS => ?_)
  refine lv_aload_n hx hb dX12_passAll_110 rfl (lv_at hl 0 rfl) ?_
  refine lv_aload_n hx hb dX12_passAll_111 rfl (lv_at hl 0 rfl) ?_
  refine lv_aload_n hx hb dX12_passAll_112 rfl (lv_at hl 0 rfl) ?_
  refine gf_40_33 hx hb htg hown hK hW q352 dX12_passAll_113 ?_
  refine lv_aload_n hx hb dX12_passAll_116 rfl (lv_at hl 1 rfl) ?_
  obtain ⟨r40, y41, h39, hX⟩ := bd2_go hX
  refine k_X12_pass hx hb hml hown htg hK hW hS hA_p0 hB_p0 h39 q372 hl.1 (Nat.le_of_ble_eq_true rfl) (Nat.le_of_ble_eq_true rfl) (Nat.le_of_ble_eq_true rfl) ⟨Nat.zero_le _, Nat.zero_le _⟩ dX12_passAll_117 (fun H locs hW hS => ?_)
  refine pf_40_33 hx hb htg hown hK hW hS q352 dX12_passAll_120 (fun H locs hW hS => ?_)
  obtain ⟨y42, e9⟩ : ∃ w : Mem, w = (up4 y41 40 0 0 33 r40) := ⟨_, rfl⟩
  rw [← e9] at hW
  have hX := lt_go hX e9
  refine lv_aload_n hx hb dX12_passAll_123 rfl (lv_at hl 0 rfl) ?_
  refine lv_aload_n hx hb dX12_passAll_124 rfl (lv_at hl 0 rfl) ?_
  refine lv_aload_n hx hb dX12_passAll_125 rfl (lv_at hl 0 rfl) ?_
  refine gf_40_34 hx hb htg hown hK hW q353 dX12_passAll_126 ?_
  refine lv_aload_n hx hb dX12_passAll_129 rfl (lv_at hl 1 rfl) ?_
  obtain ⟨r44, y45, h43, hX⟩ := bd2_go hX
  refine k_X12_pass hx hb hml hown htg hK hW hS hA_p0 hB_p0 h43 q372 hl.1 (Nat.le_of_ble_eq_true rfl) (Nat.le_of_ble_eq_true rfl) (Nat.le_of_ble_eq_true rfl) ⟨Nat.zero_le _, Nat.zero_le _⟩ dX12_passAll_130 (fun H locs hW hS => ?_)
  refine pf_40_34 hx hb htg hown hK hW hS q353 dX12_passAll_133 (fun H locs hW hS => ?_)
  obtain ⟨y46, e9⟩ : ∃ w : Mem, w = (up4 y45 40 0 0 34 r44) := ⟨_, rfl⟩
  rw [← e9] at hW
  have hX := lt_go hX e9
  refine lv_aload_n hx hb dX12_passAll_136 rfl (lv_at hl 0 rfl) ?_
  refine lv_aload_n hx hb dX12_passAll_137 rfl (lv_at hl 0 rfl) ?_
  refine lv_aload_n hx hb dX12_passAll_138 rfl (lv_at hl 0 rfl) ?_
  refine gf_40_35 hx hb htg hown hK hW q354 dX12_passAll_139 ?_
  refine lv_aload_n hx hb dX12_passAll_142 rfl (lv_at hl 1 rfl) ?_
  obtain ⟨r48, y49, h47, hX⟩ := bd2_go hX
  refine k_X12_pass hx hb hml hown htg hK hW hS hA_p0 hB_p0 h47 q372 hl.1 (Nat.le_of_ble_eq_true rfl) (Nat.le_of_ble_eq_true rfl) (Nat.le_of_ble_eq_true rfl) ⟨Nat.zero_le _, Nat.zero_le _⟩ dX12_passAll_143 (fun H locs hW hS => ?_)
  refine pf_40_35 hx hb htg hown hK hW hS q354 dX12_passAll_146 (fun H locs hW hS => ?_)
  obtain ⟨y50, e9⟩ : ∃ w : Mem, w = (up4 y49 40 0 0 35 r48) := ⟨_, rfl⟩
  rw [← e9] at hW
  have hX := lt_go hX e9
  refine lv_aload_n hx hb dX12_passAll_149 rfl (lv_at hl 0 rfl) ?_
  refine lv_aload_n hx hb dX12_passAll_150 rfl (lv_at hl 0 rfl) ?_
  refine lv_aload_n hx hb dX12_passAll_151 rfl (lv_at hl 0 rfl) ?_
  refine gf_40_36 hx hb htg hown hK hW q355 dX12_passAll_152 ?_
  refine lv_aload_n hx hb dX12_passAll_155 rfl (lv_at hl 1 rfl) ?_
  obtain ⟨r52, y53, h51, hX⟩ := bd2_go hX
  refine k_X12_pass hx hb hml hown htg hK hW hS hA_p0 hB_p0 h51 q372 hl.1 (Nat.le_of_ble_eq_true rfl) (Nat.le_of_ble_eq_true rfl) (Nat.le_of_ble_eq_true rfl) ⟨Nat.zero_le _, Nat.zero_le _⟩ dX12_passAll_156 (fun H locs hW hS => ?_)
  refine pf_40_36 hx hb htg hown hK hW hS q355 dX12_passAll_159 (fun H locs hW hS => ?_)
  obtain ⟨y54, e9⟩ : ∃ w : Mem, w = (up4 y53 40 0 0 36 r52) := ⟨_, rfl⟩
  rw [← e9] at hW
  have hX := lt_go hX e9
  refine lv_aload_n hx hb dX12_passAll_162 rfl (lv_at hl 0 rfl) ?_
  refine lv_aload_n hx hb dX12_passAll_163 rfl (lv_at hl 0 rfl) ?_
  refine lv_aload_n hx hb dX12_passAll_164 rfl (lv_at hl 0 rfl) ?_
  refine gf_40_37 hx hb htg hown hK hW q356 dX12_passAll_165 ?_
  refine lv_aload_n hx hb dX12_passAll_168 rfl (lv_at hl 1 rfl) ?_
  obtain ⟨r56, y57, h55, hX⟩ := bd2_go hX
  refine k_X12_pass hx hb hml hown htg hK hW hS hA_p0 hB_p0 h55 q372 hl.1 (Nat.le_of_ble_eq_true rfl) (Nat.le_of_ble_eq_true rfl) (Nat.le_of_ble_eq_true rfl) ⟨Nat.zero_le _, Nat.zero_le _⟩ dX12_passAll_169 (fun H locs hW hS => ?_)
  refine pf_40_37 hx hb htg hown hK hW hS q356 dX12_passAll_172 (fun H locs hW hS => ?_)
  obtain ⟨y58, e9⟩ : ∃ w : Mem, w = (up4 y57 40 0 0 37 r56) := ⟨_, rfl⟩
  rw [← e9] at hW
  have hX := lt_go hX e9
  refine lv_aload_n hx hb dX12_passAll_175 rfl (lv_at hl 0 rfl) ?_
  refine lv_aload_n hx hb dX12_passAll_176 rfl (lv_at hl 0 rfl) ?_
  refine lv_aload_n hx hb dX12_passAll_177 rfl (lv_at hl 0 rfl) ?_
  refine gf_40_38 hx hb htg hown hK hW q357 dX12_passAll_178 ?_
  refine lv_aload_n hx hb dX12_passAll_181 rfl (lv_at hl 1 rfl) ?_
  obtain ⟨r60, y61, h59, hX⟩ := bd2_go hX
  refine k_X12_pass hx hb hml hown htg hK hW hS hA_p0 hB_p0 h59 q372 hl.1 (Nat.le_of_ble_eq_true rfl) (Nat.le_of_ble_eq_true rfl) (Nat.le_of_ble_eq_true rfl) ⟨Nat.zero_le _, Nat.zero_le _⟩ dX12_passAll_182 (fun H locs hW hS => ?_)
  refine pf_40_38 hx hb htg hown hK hW hS q357 dX12_passAll_185 (fun H locs hW hS => ?_)
  obtain ⟨y62, e9⟩ : ∃ w : Mem, w = (up4 y61 40 0 0 38 r60) := ⟨_, rfl⟩
  rw [← e9] at hW
  have hX := lt_go hX e9
  refine lv_aload_n hx hb dX12_passAll_188 rfl (lv_at hl 0 rfl) ?_
  refine lv_aload_n hx hb dX12_passAll_189 rfl (lv_at hl 0 rfl) ?_
  refine lv_aload_n hx hb dX12_passAll_190 rfl (lv_at hl 0 rfl) ?_
  refine gf_40_39 hx hb htg hown hK hW q358 dX12_passAll_191 ?_
  refine lv_aload_n hx hb dX12_passAll_194 rfl (lv_at hl 1 rfl) ?_
  obtain ⟨r64, y65, h63, hX⟩ := bd2_go hX
  refine k_X12_pass hx hb hml hown htg hK hW hS hA_p0 hB_p0 h63 q372 hl.1 (Nat.le_of_ble_eq_true rfl) (Nat.le_of_ble_eq_true rfl) (Nat.le_of_ble_eq_true rfl) ⟨Nat.zero_le _, Nat.zero_le _⟩ dX12_passAll_195 (fun H locs hW hS => ?_)
  refine pf_40_39 hx hb htg hown hK hW hS q358 dX12_passAll_198 (fun H locs hW hS => ?_)
  obtain ⟨y66, e9⟩ : ∃ w : Mem, w = (up4 y65 40 0 0 39 r64) := ⟨_, rfl⟩
  rw [← e9] at hW
  have hX := lt_go hX e9
  refine lv_aload_n hx hb dX12_passAll_201 rfl (lv_at hl 0 rfl) ?_
  refine lv_aload_n hx hb dX12_passAll_202 rfl (lv_at hl 0 rfl) ?_
  refine lv_aload_n hx hb dX12_passAll_203 rfl (lv_at hl 0 rfl) ?_
  refine gf_40_40 hx hb htg hown hK hW q359 dX12_passAll_204 ?_
  refine lv_aload_n hx hb dX12_passAll_207 rfl (lv_at hl 1 rfl) ?_
  obtain ⟨r68, y69, h67, hX⟩ := bd2_go hX
  refine k_X12_pass hx hb hml hown htg hK hW hS hA_p0 hB_p0 h67 q372 hl.1 (Nat.le_of_ble_eq_true rfl) (Nat.le_of_ble_eq_true rfl) (Nat.le_of_ble_eq_true rfl) ⟨Nat.zero_le _, Nat.zero_le _⟩ dX12_passAll_208 (fun H locs hW hS => ?_)
  refine pf_40_40 hx hb htg hown hK hW hS q359 dX12_passAll_211 (fun H locs hW hS => ?_)
  obtain ⟨y70, e9⟩ : ∃ w : Mem, w = (up4 y69 40 0 0 40 r68) := ⟨_, rfl⟩
  rw [← e9] at hW
  have hX := lt_go hX e9
  have hX := Option.some.inj hX
  subst hX
  exact rt_v hx hb hr hlocks hW hS dX12_passAll_214
set_option maxHeartbeats 4000000 in
theorem k_X12_passAll {p : Program} {l : Launch} {e : Env} {R : Room} {s : State} {m : MethodId} {args : Array Value} {below : List Frame} {meth : Method} {c : Code} {H : Heap} {locs : List Loc} {cells slots : Nat} {Q : State → Prop} {cc : ByteArray} {pc nL idx : Nat} {own : String} {ls : Array Slot} {rest : List Value} {G : Geo} {x y : Mem} {H0 : Heap} {p0 : Nat × Nat × Nat} {p0n : Nat} {p1 : Int32} {p2 : Int32} {z : Mem} (hx : p.tables.exec = Jvm.exec) (hb : c.code = cc) (hml : c.maxLocals = nL) (hown : s.vm.findClass own = some m.cls) (htg : ∀ w ∈ wsG, w.before args s = true) (hK : Kt G s) (hW : Wh G x y H) (hS : va_S (gF G) H0 H locs) (hA_p0 : Ia p0 p0n) (hB_p0 : ¬ p0.1 < 40) (h : m_X12_passAll p0 p0n p1 p2 y = some z) (hlk : Cond.methodLink own idx yX12_passAll ∈ wsG) (hn : ls.size = nL) (hr : (rest.map fun v => v.category).sum ≤ 8) (hR1 : 2 + 1 ≤ R.frames) (hR2 : 8 + (4 + 11) + 44 ≤ R.locals) (hf : cells ≤ R.cells ∧ slots ≤ R.slots) (hdg : decode cc pc = .ok (.invokevirtual idx, 3)) (kk : ∀ (H1 : Heap) (locs1 : List Loc), Wh G x z H1 → va_S (gF G) H0 H1 locs1 → W p l e R s m args below meth c H1 locs1 cells slots Q (F0 m (pc + 3) ls (rest))) : W p l e R s m args below meth c H locs cells slots Q (F0 m pc ls (.int p2 :: .int p1 :: .ref (gA G p0.1 p0.2.1 p0.2.2) :: .ref (gA G 40 0 0) :: rest)) := by
  refine va_callv (va_runV (As := [.ref (gA G p0.1 p0.2.1 p0.2.2), .int p1, .int p2]) (rest := rest) ⟨hx, hb, hml, hown, htg⟩ (c_X12_passAll l G x y p0 p0n p1 p2 hA_p0 hB_p0 z h) (cwV 3 htg (gd_V hlk q347 q348 q5 q349) rfl rfl rfl (by decide +kernel) ⟨hR1, hR2⟩) ⟨fun a U g mk q => ⟨q.1, q.2.1.calling, q.2.2⟩, rc_40 hK hW, fun U hU hW9 => ⟨rfl, hK.warm hW9, by rw [hU]; exact hW⟩⟩ rfl rfl hn rfl (lv_room hr) hdg hf) hS (fun _ _ h9 => h9) (fun _ h9 => h9) ?_
  intro u t H1 locs1 ht hvm hw hB hz1 hk1 hS1
  replace hB : Wh G x z t.heap := hB
  rw [ht] at hB
  exact kk H1 locs1 hB hS1
