/-! METHOD X12_acts -/
def m_X12_acts (p0 : Int32) (y : Mem) : Option Mem :=
  gd_ p0 3 (if (y 114 0 0 p0.toNatClampNeg) = (0 : Int32) then (if (y 111 0 0 p0.toNatClampNeg) ≤ 0 then (some y) else (bd_ (m_X12_starts p0 y) fun y6 => some y6)) else if (y 114 0 0 p0.toNatClampNeg) = (1 : Int32) then (lt_ (up4 y 116 0 0 p0.toNatClampNeg ((y 116 0 0 p0.toNatClampNeg) - (1 : Int32))) fun y8 => if (y8 116 0 0 p0.toNatClampNeg) ≤ 0 then (gd_ (y8 113 0 0 p0.toNatClampNeg) 30 (if (y8 124 0 0 (y8 113 0 0 p0.toNatClampNeg).toNatClampNeg) ≤ ((y8 115 0 0 p0.toNatClampNeg) + (1 : Int32)) then (bd_ (m_X12_ends p0 y8) fun y14 => some y14) else (bd_ (m_X12_requestsNext p0 y8) fun y17 => some y17))) else (some y8)) else if (y 114 0 0 p0.toNatClampNeg) = (2 : Int32) then (lt_ (up4 y 116 0 0 p0.toNatClampNeg ((y 116 0 0 p0.toNatClampNeg) - (1 : Int32))) fun y19 => if (y19 116 0 0 p0.toNatClampNeg) ≤ 0 then (bd_ (m_X12_zoneOf p0 y19) fun r22 => bd_ (m_X12_notes p0 (2 : Int32) r22 y19) fun y25 => bd_ (m_X12_works p0 ((y25 115 0 0 p0.toNatClampNeg) + (1 : Int32)) y25) fun y28 => some y28) else (some y19)) else (bd_ (m_X12_requestsNext p0 y) fun y31 => some y31))
abbrev WS_X12_acts : List Cond := .code yX12_acts cX12_acts 2 none :: wsG
abbrev RM_X12_acts : Room := { frames := 7, cells := 0, slots := 0, locals := 163 }
set_option maxHeartbeats 4000000 in
set_option maxRecDepth 100000 in
theorem c_X12_acts (l : Launch) (G : Geo) (x y : Mem) (p0 : Int32) (r : Mem) (h : m_X12_acts p0 y = some r) : Met l yX12_acts WS_X12_acts RM_X12_acts (Pw G x y [.ref (gA G 40 0 0), .int p0]) (Qv G x r) 0 0 (gF G) := by
  refine Met.ofW (cc := cX12_acts) (maxL := 2) (ret := none) (by decide) rfl ?_
  intro p e s m args below meth c s₁ B hml hv
  obtain ⟨rfl, hK, hW⟩ := hv
  have hx := B.exec
  have hb := B.bytes
  have hr := B.returns
  have hts := atoms_spec (ws := WS_X12_acts) B.pre
  have htg : ∀ w ∈ wsG, w.before _ s = true := fun w h => hts w (List.mem_cons_of_mem _ h)
  have hown : s.vm.findClass RX12 = some m.cls := findClass_of_methodNamed B.named
  have hlocks := B.notSynchronized
  have hS : va_S (gF G) s.heap s.heap [] := va_S.rf
  have hl := lv_entry ([.ref (gA G 40 0 0), .int p0]) (n := 2) (Nat.le_of_ble_eq_true rfl)
  rw [lg_entry_eq]
  generalize (lg_sl ([.ref (gA G 40 0 0), .int p0]) ++ List.replicate (2 - (lg_sl ([.ref (gA G 40 0 0), .int p0])).length) Slot.unset).toArray = ls at hl ⊢
  have hl : lv_has ls 2 [(0, .ref (gA G 40 0 0)), (1, .int p0)] := hl
  have hX := h
  unfold m_X12_acts at hX
  refine lv_aload_n hx hb dX12_acts_0 rfl (lv_at hl 0 rfl) ?_
  refine gf_40_14 hx hb htg hown hK hW q149 dX12_acts_1 ?_
  refine lv_iload_n hx hb dX12_acts_4 rfl (lv_at hl 1 rfl) ?_
  obtain ⟨g1, hX⟩ := gd_go hX
  refine al_114 hx hb hK hW g1 dX12_acts_5 ?_
  by_cases c2 : (y 114 0 0 p0.toNatClampNeg) = (0 : Int32)
  · have hX := it_t hX c2
    refine lv_tsIn (v := (0 : Int32)) (tgt := 32) hx hb dX12_acts_6 c2 rfl (by decide) (by decide) rfl (by decide) ?_
    refine lv_aload_n hx hb dX12_acts_32 rfl (lv_at hl 0 rfl) ?_
    refine gf_40_11 hx hb htg hown hK hW q146 dX12_acts_33 ?_
    refine lv_iload_n hx hb dX12_acts_36 rfl (lv_at hl 1 rfl) ?_
    refine al_111 hx hb hK hW g1 dX12_acts_37 ?_
    refine lv_if_le (tgt := 163) hx hb dX12_acts_38 (by decide) (fun c3 => ?_) (fun c3 => ?_)
    · have hX := it_t hX c3
      have hX := Option.some.inj hX
      subst hX
      exact rt_v hx hb hr hlocks hW hS dX12_acts_163
    · have hX := it_f hX c3
      refine lv_aload_n hx hb dX12_acts_41 rfl (lv_at hl 0 rfl) ?_
      refine lv_iload_n hx hb dX12_acts_42 rfl (lv_at hl 1 rfl) ?_
      obtain ⟨y6, h4, hX⟩ := bd_go hX
      refine k_X12_starts hx hb hml hown htg hK hW hS h4 q853 hl.1 (Nat.le_of_ble_eq_true rfl) (Nat.le_of_ble_eq_true rfl) (Nat.le_of_ble_eq_true rfl) ⟨Nat.zero_le _, Nat.zero_le _⟩ dX12_acts_43 (fun H locs hW hS => ?_)
      refine lv_goto (tgt := 163) hx hb dX12_acts_46 (by decide) ?_
      have hX := Option.some.inj hX
      subst hX
      exact rt_v hx hb hr hlocks hW hS dX12_acts_163
  have hX := it_f hX c2
  by_cases c7 : (y 114 0 0 p0.toNatClampNeg) = (1 : Int32)
  · have hX := it_t hX c7
    refine lv_tsIn (v := (1 : Int32)) (tgt := 49) hx hb dX12_acts_6 c7 rfl (by decide) (by decide) rfl (by decide) ?_
    refine lv_aload_n hx hb dX12_acts_49 rfl (lv_at hl 0 rfl) ?_
    refine gf_40_16 hx hb htg hown hK hW q151 dX12_acts_50 ?_
    refine lv_iload_n hx hb dX12_acts_53 rfl (lv_at hl 1 rfl) ?_
    refine lv_dup2_11 hx hb dX12_acts_54 rfl rfl ?_
    refine al_116 hx hb hK hW g1 dX12_acts_55 ?_
    refine lv_iconst (v := (1 : Int32)) hx hb dX12_acts_56 (by decide) ?_
    refine lv_isub hx hb dX12_acts_57 ?_
    refine as_116 hx hb hK hW hS g1 dX12_acts_58 (fun H locs hW hS => ?_)
    obtain ⟨y8, e9⟩ : ∃ w : Mem, w = (up4 y 116 0 0 p0.toNatClampNeg ((y 116 0 0 p0.toNatClampNeg) - (1 : Int32))) := ⟨_, rfl⟩
    rw [← e9] at hW
    have hX := lt_go hX e9
    refine lv_aload_n hx hb dX12_acts_59 rfl (lv_at hl 0 rfl) ?_
    refine gf_40_16 hx hb htg hown hK hW q151 dX12_acts_60 ?_
    refine lv_iload_n hx hb dX12_acts_63 rfl (lv_at hl 1 rfl) ?_
    refine al_116 hx hb hK hW g1 dX12_acts_64 ?_
    refine lv_if_le (tgt := 71) hx hb dX12_acts_65 (by decide) (fun c9 => ?_) (fun c9 => ?_)
    · have hX := it_t hX c9
      refine lv_aload_n hx hb dX12_acts_71 rfl (lv_at hl 0 rfl) ?_
      refine gf_40_15 hx hb htg hown hK hW q150 dX12_acts_72 ?_
      refine lv_iload_n hx hb dX12_acts_75 rfl (lv_at hl 1 rfl) ?_
      refine al_115 hx hb hK hW g1 dX12_acts_76 ?_
      refine lv_iconst (v := (1 : Int32)) hx hb dX12_acts_77 (by decide) ?_
      refine lv_iadd hx hb dX12_acts_78 ?_
      refine lv_aload_n hx hb dX12_acts_79 rfl (lv_at hl 0 rfl) ?_
      refine gf_40_24 hx hb htg hown hK hW q159 dX12_acts_80 ?_
      refine lv_aload_n hx hb dX12_acts_83 rfl (lv_at hl 0 rfl) ?_
      refine gf_40_13 hx hb htg hown hK hW q148 dX12_acts_84 ?_
      refine lv_iload_n hx hb dX12_acts_87 rfl (lv_at hl 1 rfl) ?_
      refine al_113 hx hb hK hW g1 dX12_acts_88 ?_
      obtain ⟨g10, hX⟩ := gd_go hX
      refine al_124 hx hb hK hW g10 dX12_acts_89 ?_
      refine lv_icmp_ge (tgt := 101) hx hb dX12_acts_90 (by decide) (fun c11 => ?_) (fun c11 => ?_)
      · have hX := it_t hX c11
        refine lv_aload_n hx hb dX12_acts_101 rfl (lv_at hl 0 rfl) ?_
        refine lv_iload_n hx hb dX12_acts_102 rfl (lv_at hl 1 rfl) ?_
        obtain ⟨y14, h12, hX⟩ := bd_go hX
        refine k_X12_ends hx hb hml hown htg hK hW hS h12 q899 hl.1 (Nat.le_of_ble_eq_true rfl) (Nat.le_of_ble_eq_true rfl) (Nat.le_of_ble_eq_true rfl) ⟨Nat.zero_le _, Nat.zero_le _⟩ dX12_acts_103 (fun H locs hW hS => ?_)
        refine lv_goto (tgt := 163) hx hb dX12_acts_106 (by decide) ?_
        have hX := Option.some.inj hX
        subst hX
        exact rt_v hx hb hr hlocks hW hS dX12_acts_163
      · have hX := it_f hX c11
        refine lv_aload_n hx hb dX12_acts_93 rfl (lv_at hl 0 rfl) ?_
        refine lv_iload_n hx hb dX12_acts_94 rfl (lv_at hl 1 rfl) ?_
        obtain ⟨y17, h15, hX⟩ := bd_go hX
        refine k_X12_requestsNext hx hb hml hown htg hK hW hS h15 q891 hl.1 (Nat.le_of_ble_eq_true rfl) (Nat.le_of_ble_eq_true rfl) (Nat.le_of_ble_eq_true rfl) ⟨Nat.zero_le _, Nat.zero_le _⟩ dX12_acts_95 (fun H locs hW hS => ?_)
        refine lv_goto (tgt := 163) hx hb dX12_acts_98 (by decide) ?_
        have hX := Option.some.inj hX
        subst hX
        exact rt_v hx hb hr hlocks hW hS dX12_acts_163
    · have hX := it_f hX c9
      refine lv_goto (tgt := 163) hx hb dX12_acts_68 (by decide) ?_
      have hX := Option.some.inj hX
      subst hX
      exact rt_v hx hb hr hlocks hW hS dX12_acts_163
  have hX := it_f hX c7
  by_cases c18 : (y 114 0 0 p0.toNatClampNeg) = (2 : Int32)
  · have hX := it_t hX c18
    refine lv_tsIn (v := (2 : Int32)) (tgt := 109) hx hb dX12_acts_6 c18 rfl (by decide) (by decide) rfl (by decide) ?_
    refine lv_aload_n hx hb dX12_acts_109 rfl (lv_at hl 0 rfl) ?_
    refine gf_40_16 hx hb htg hown hK hW q151 dX12_acts_110 ?_
    refine lv_iload_n hx hb dX12_acts_113 rfl (lv_at hl 1 rfl) ?_
    refine lv_dup2_11 hx hb dX12_acts_114 rfl rfl ?_
    refine al_116 hx hb hK hW g1 dX12_acts_115 ?_
    refine lv_iconst (v := (1 : Int32)) hx hb dX12_acts_116 (by decide) ?_
    refine lv_isub hx hb dX12_acts_117 ?_
    refine as_116 hx hb hK hW hS g1 dX12_acts_118 (fun H locs hW hS => ?_)
    obtain ⟨y19, e9⟩ : ∃ w : Mem, w = (up4 y 116 0 0 p0.toNatClampNeg ((y 116 0 0 p0.toNatClampNeg) - (1 : Int32))) := ⟨_, rfl⟩
    rw [← e9] at hW
    have hX := lt_go hX e9
    refine lv_aload_n hx hb dX12_acts_119 rfl (lv_at hl 0 rfl) ?_
    refine gf_40_16 hx hb htg hown hK hW q151 dX12_acts_120 ?_
    refine lv_iload_n hx hb dX12_acts_123 rfl (lv_at hl 1 rfl) ?_
    refine al_116 hx hb hK hW g1 dX12_acts_124 ?_
    refine lv_if_le (tgt := 131) hx hb dX12_acts_125 (by decide) (fun c20 => ?_) (fun c20 => ?_)
    · have hX := it_t hX c20
      refine lv_aload_n hx hb dX12_acts_131 rfl (lv_at hl 0 rfl) ?_
      refine lv_iload_n hx hb dX12_acts_132 rfl (lv_at hl 1 rfl) ?_
      refine lv_iconst (v := (2 : Int32)) hx hb dX12_acts_133 (by decide) ?_
      refine lv_aload_n hx hb dX12_acts_134 rfl (lv_at hl 0 rfl) ?_
      refine lv_iload_n hx hb dX12_acts_135 rfl (lv_at hl 1 rfl) ?_
      obtain ⟨r22, h21, hX⟩ := bd_go hX
      refine k_X12_zoneOf hx hb hml hown htg hK hW hS h21 q330 hl.1 (Nat.le_of_ble_eq_true rfl) (Nat.le_of_ble_eq_true rfl) (Nat.le_of_ble_eq_true rfl) ⟨Nat.zero_le _, Nat.zero_le _⟩ dX12_acts_136 (fun H locs hW hS => ?_)
      obtain ⟨y25, h23, hX⟩ := bd_go hX
      refine k_X12_notes hx hb hml hown htg hK hW hS h23 q887 hl.1 (Nat.le_of_ble_eq_true rfl) (Nat.le_of_ble_eq_true rfl) (Nat.le_of_ble_eq_true rfl) ⟨Nat.zero_le _, Nat.zero_le _⟩ dX12_acts_139 (fun H locs hW hS => ?_)
      refine lv_aload_n hx hb dX12_acts_142 rfl (lv_at hl 0 rfl) ?_
      refine lv_iload_n hx hb dX12_acts_143 rfl (lv_at hl 1 rfl) ?_
      refine lv_aload_n hx hb dX12_acts_144 rfl (lv_at hl 0 rfl) ?_
      refine gf_40_15 hx hb htg hown hK hW q150 dX12_acts_145 ?_
      refine lv_iload_n hx hb dX12_acts_148 rfl (lv_at hl 1 rfl) ?_
      refine al_115 hx hb hK hW g1 dX12_acts_149 ?_
      refine lv_iconst (v := (1 : Int32)) hx hb dX12_acts_150 (by decide) ?_
      refine lv_iadd hx hb dX12_acts_151 ?_
      obtain ⟨y28, h26, hX⟩ := bd_go hX
      refine k_X12_works hx hb hml hown htg hK hW hS h26 q883 hl.1 (Nat.le_of_ble_eq_true rfl) (Nat.le_of_ble_eq_true rfl) (Nat.le_of_ble_eq_true rfl) ⟨Nat.zero_le _, Nat.zero_le _⟩ dX12_acts_152 (fun H locs hW hS => ?_)
      refine lv_goto (tgt := 163) hx hb dX12_acts_155 (by decide) ?_
      have hX := Option.some.inj hX
      subst hX
      exact rt_v hx hb hr hlocks hW hS dX12_acts_163
    · have hX := it_f hX c20
      refine lv_goto (tgt := 163) hx hb dX12_acts_128 (by decide) ?_
      have hX := Option.some.inj hX
      subst hX
      exact rt_v hx hb hr hlocks hW hS dX12_acts_163
  have hX := it_f hX c18
  refine lv_tsOut (n := 2) (tgt := 158) hx hb dX12_acts_6 (by decide) (fun j hj => match j, hj with | 0, _ => c2 | 1, _ => c7 | 2, _ => c18 | j + 3, hj => absurd hj (by omega)) (by decide) ?_
  refine lv_aload_n hx hb dX12_acts_158 rfl (lv_at hl 0 rfl) ?_
  refine lv_iload_n hx hb dX12_acts_159 rfl (lv_at hl 1 rfl) ?_
  obtain ⟨y31, h29, hX⟩ := bd_go hX
  refine k_X12_requestsNext hx hb hml hown htg hK hW hS h29 q891 hl.1 (Nat.le_of_ble_eq_true rfl) (Nat.le_of_ble_eq_true rfl) (Nat.le_of_ble_eq_true rfl) ⟨Nat.zero_le _, Nat.zero_le _⟩ dX12_acts_160 (fun H locs hW hS => ?_)
  have hX := Option.some.inj hX
  subst hX
  exact rt_v hx hb hr hlocks hW hS dX12_acts_163
set_option maxHeartbeats 4000000 in
theorem k_X12_acts {p : Program} {l : Launch} {e : Env} {R : Room} {s : State} {m : MethodId} {args : Array Value} {below : List Frame} {meth : Method} {c : Code} {H : Heap} {locs : List Loc} {cells slots : Nat} {Q : State → Prop} {cc : ByteArray} {pc nL idx : Nat} {own : String} {ls : Array Slot} {rest : List Value} {G : Geo} {x y : Mem} {H0 : Heap} {p0 : Int32} {z : Mem} (hx : p.tables.exec = Jvm.exec) (hb : c.code = cc) (hml : c.maxLocals = nL) (hown : s.vm.findClass own = some m.cls) (htg : ∀ w ∈ wsG, w.before args s = true) (hK : Kt G s) (hW : Wh G x y H) (hS : va_S (gF G) H0 H locs) (h : m_X12_acts p0 y = some z) (hlk : Cond.methodLink own idx yX12_acts ∈ wsG) (hn : ls.size = nL) (hr : (rest.map fun v => v.category).sum ≤ 8) (hR1 : 7 + 1 ≤ R.frames) (hR2 : 8 + (2 + 11) + 163 ≤ R.locals) (hf : cells ≤ R.cells ∧ slots ≤ R.slots) (hdg : decode cc pc = .ok (.invokevirtual idx, 3)) (kk : ∀ (H1 : Heap) (locs1 : List Loc), Wh G x z H1 → va_S (gF G) H0 H1 locs1 → W p l e R s m args below meth c H1 locs1 cells slots Q (F0 m (pc + 3) ls (rest))) : W p l e R s m args below meth c H locs cells slots Q (F0 m pc ls (.int p0 :: .ref (gA G 40 0 0) :: rest)) := by
  refine va_callv (va_runV (As := [.int p0]) (rest := rest) ⟨hx, hb, hml, hown, htg⟩ (c_X12_acts l G x y p0 z h) (cwV 1 htg (gd_V hlk q850 q851 q5 q852) rfl rfl rfl (by decide +kernel) ⟨hR1, hR2⟩) ⟨fun a U g mk q => ⟨q.1, q.2.1.calling, q.2.2⟩, rc_40 hK hW, fun U hU hW9 => ⟨rfl, hK.warm hW9, by rw [hU]; exact hW⟩⟩ rfl rfl hn rfl (lv_room hr) hdg hf) hS (fun _ _ h9 => h9) (fun _ h9 => h9) ?_
  intro u t H1 locs1 ht hvm hw hB hz1 hk1 hS1
  replace hB : Wh G x z t.heap := hB
  rw [ht] at hB
  exact kk H1 locs1 hB hS1
/-! METHOD X12_isArm -/
def m_X12_isArm (p0 : Int32) : Option Int32 :=
  bd_ (m_X12_isBetween p0 (0 : Int32) (2 : Int32)) fun r2 => gb_ r2 (some r2)
abbrev WS_X12_isArm : List Cond := .code yX12_isArm cX12_isArm 1 (some .boolean) :: wsG
abbrev RM_X12_isArm : Room := { frames := 1, cells := 0, slots := 0, locals := 22 }
set_option maxHeartbeats 4000000 in
set_option maxRecDepth 100000 in
theorem c_X12_isArm (l : Launch) (G : Geo) (x y : Mem) (p0 : Int32) (r : Int32) (h : m_X12_isArm p0 = some r) : Met l yX12_isArm WS_X12_isArm RM_X12_isArm (Pw G x y [.int p0]) (Qi G x y r) 0 0 (gF G) := by
  refine Met.ofW (cc := cX12_isArm) (maxL := 1) (ret := (some .boolean)) (by decide) rfl ?_
  intro p e s m args below meth c s₁ B hml hv
  obtain ⟨rfl, hK, hW⟩ := hv
  have hx := B.exec
  have hb := B.bytes
  have hr := B.returns
  have hts := atoms_spec (ws := WS_X12_isArm) B.pre
  have htg : ∀ w ∈ wsG, w.before _ s = true := fun w h => hts w (List.mem_cons_of_mem _ h)
  have hown : s.vm.findClass RX12 = some m.cls := findClass_of_methodNamed B.named
  have hlocks := B.notSynchronized
  have hS : va_S (gF G) s.heap s.heap [] := va_S.rf
  have hl := lv_entry ([.int p0]) (n := 1) (Nat.le_of_ble_eq_true rfl)
  rw [lg_entry_eq]
  generalize (lg_sl ([.int p0]) ++ List.replicate (1 - (lg_sl ([.int p0])).length) Slot.unset).toArray = ls at hl ⊢
  have hl : lv_has ls 1 [(0, .int p0)] := hl
  have hX := h
  unfold m_X12_isArm at hX
  refine lv_iload_n hx hb dX12_isArm_0 rfl (lv_at hl 0 rfl) ?_
  refine lv_iconst (v := (0 : Int32)) hx hb dX12_isArm_1 (by decide) ?_
  refine lv_iconst (v := (2 : Int32)) hx hb dX12_isArm_2 (by decide) ?_
  obtain ⟨r2, h1, hX⟩ := bd_go hX
  refine k_X12_isBetween hx hb hml hown htg hK hW hS h1 q319 hl.1 (Nat.le_of_ble_eq_true rfl) (Nat.le_of_ble_eq_true rfl) (Nat.le_of_ble_eq_true rfl) ⟨Nat.zero_le _, Nat.zero_le _⟩ dX12_isArm_3 (fun H locs hW hS => ?_)
  obtain ⟨g9, hX⟩ := gb_go hX
  have hX := Option.some.inj hX
  subst hX
  exact rt_z hx hb hr hlocks hW hS (isB_n g9) dX12_isArm_6
set_option maxHeartbeats 4000000 in
theorem k_X12_isArm {p : Program} {l : Launch} {e : Env} {R : Room} {s : State} {m : MethodId} {args : Array Value} {below : List Frame} {meth : Method} {c : Code} {H : Heap} {locs : List Loc} {cells slots : Nat} {Q : State → Prop} {cc : ByteArray} {pc nL idx : Nat} {own : String} {ls : Array Slot} {rest : List Value} {G : Geo} {x y : Mem} {H0 : Heap} {p0 : Int32} {v : Int32} (hx : p.tables.exec = Jvm.exec) (hb : c.code = cc) (hml : c.maxLocals = nL) (hown : s.vm.findClass own = some m.cls) (htg : ∀ w ∈ wsG, w.before args s = true) (hK : Kt G s) (hW : Wh G x y H) (hS : va_S (gF G) H0 H locs) (h : m_X12_isArm p0 = some v) (hlk : Cond.methodLink own idx yX12_isArm ∈ wsG) (hn : ls.size = nL) (hr : (rest.map fun v => v.category).sum ≤ 8) (hR1 : 1 + 1 ≤ R.frames) (hR2 : 8 + (1 + 11) + 22 ≤ R.locals) (hf : cells ≤ R.cells ∧ slots ≤ R.slots) (hdg : decode cc pc = .ok (.invokestatic idx, 3)) (kk : ∀ (H1 : Heap) (locs1 : List Loc), Wh G x y H1 → va_S (gF G) H0 H1 locs1 → W p l e R s m args below meth c H1 locs1 cells slots Q (F0 m (pc + 3) ls (.int v :: rest))) : W p l e R s m args below meth c H locs cells slots Q (F0 m pc ls (.int p0 :: rest)) := by
  refine va_calli (va_runS (As := [.int p0]) (rest := rest) ⟨hx, hb, hml, hown, htg⟩ (c_X12_isArm l G x y p0 v h) (va_cwS 1 htg (gd_S hlk q405 q5 q406) rfl rfl rfl (by decide +kernel) ⟨hR1, hR2⟩) ⟨fun a U g mk q => ⟨q.1, q.2.1.calling, q.2.2⟩, fun U hU hW9 => ⟨rfl, hK.warm hW9, by rw [hU]; exact hW⟩⟩ rfl rfl hn rfl (lv_room hr) hdg hf) hS (fun _ _ h9 => h9) (fun _ h9 => h9) ?_
  intro r9 u t H1 locs1 ht hvm hw hB hz1 hk1 hS1
  replace hB : Wh G x y t.heap := hB
  rw [ht] at hB
  replace hw : r9 = v := hw
  subst hw
  exact kk H1 locs1 hB hS1
/-! METHOD X12_arm -/
def m_X12_arm (p0 : Int32) (p1 : Int32) (y : Mem) : Option (Int32 × Mem) :=
  bd_ (m_X12_isArm p0) fun r2 => if r2 = 0 then (bd2_ (m_X12_fails (1 : Int32) y) fun r35 y36 => some (r35, y36)) else (bd_ (m_X12_isBetween p1 (0 : Int32) (9 : Int32)) fun r5 => if r5 = 0 then (bd2_ (m_X12_fails (2 : Int32) y) fun r32 y33 => some (r32, y33)) else (lt_ (up4 y 40 0 0 0 (0 : Int32)) fun y7 => if p1 = (0 : Int32) then (gd_ p0 3 (some ((y7 110 0 0 p0.toNatClampNeg), y7))) else if p1 = (1 : Int32) then (gd_ p0 3 (some ((y7 114 0 0 p0.toNatClampNeg), y7))) else if p1 = (2 : Int32) then (gd_ p0 3 (some ((y7 113 0 0 p0.toNatClampNeg), y7))) else if p1 = (3 : Int32) then (gd_ p0 3 (some ((y7 111 0 0 p0.toNatClampNeg), y7))) else if p1 = (4 : Int32) then (gd_ p0 3 (if (y7 114 0 0 p0.toNatClampNeg) = 0 then (some ((-1 : Int32), y7)) else (bd_ (m_X12_zoneOf p0 y7) fun r20 => some (r20, y7)))) else if p1 = (5 : Int32) then (gd_ p0 3 (some ((y7 116 0 0 p0.toNatClampNeg), y7))) else if p1 = (6 : Int32) then (gd_ p0 3 (some ((y7 117 0 0 p0.toNatClampNeg), y7))) else if p1 = (7 : Int32) then (bd_ (m_X12_holds p0 y7) fun r27 => some (r27, y7)) else if p1 = (8 : Int32) then (gd_ p0 3 (some ((y7 120 0 0 p0.toNatClampNeg), y7))) else (gd_ p0 3 (some ((y7 121 0 0 p0.toNatClampNeg), y7)))))
abbrev WS_X12_arm : List Cond := .code yX12_arm cX12_arm 3 (some .int) :: wsG
abbrev RM_X12_arm : Room := { frames := 3, cells := 0, slots := 0, locals := 67 }
set_option maxHeartbeats 4000000 in
set_option maxRecDepth 100000 in
theorem c_X12_arm (l : Launch) (G : Geo) (x y : Mem) (p0 : Int32) (p1 : Int32) (r : (Int32 × Mem)) (h : m_X12_arm p0 p1 y = some r) : Met l yX12_arm WS_X12_arm RM_X12_arm (Pw G x y [.ref (gA G 40 0 0), .int p0, .int p1]) (Qi G x r.2 r.1) 0 0 (gF G) := by
  refine Met.ofW (cc := cX12_arm) (maxL := 3) (ret := (some .int)) (by decide) rfl ?_
  intro p e s m args below meth c s₁ B hml hv
  obtain ⟨rfl, hK, hW⟩ := hv
  have hx := B.exec
  have hb := B.bytes
  have hr := B.returns
  have hts := atoms_spec (ws := WS_X12_arm) B.pre
  have htg : ∀ w ∈ wsG, w.before _ s = true := fun w h => hts w (List.mem_cons_of_mem _ h)
  have hown : s.vm.findClass RX12 = some m.cls := findClass_of_methodNamed B.named
  have hlocks := B.notSynchronized
  have hS : va_S (gF G) s.heap s.heap [] := va_S.rf
  have hl := lv_entry ([.ref (gA G 40 0 0), .int p0, .int p1]) (n := 3) (Nat.le_of_ble_eq_true rfl)
  rw [lg_entry_eq]
  generalize (lg_sl ([.ref (gA G 40 0 0), .int p0, .int p1]) ++ List.replicate (3 - (lg_sl ([.ref (gA G 40 0 0), .int p0, .int p1])).length) Slot.unset).toArray = ls at hl ⊢
  have hl : lv_has ls 3 [(0, .ref (gA G 40 0 0)), (1, .int p0), (2, .int p1)] := hl
  have hX := h
  unfold m_X12_arm at hX
  refine lv_iload_n hx hb dX12_arm_0 rfl (lv_at hl 1 rfl) ?_
  obtain ⟨r2, h1, hX⟩ := bd_go hX
  refine k_X12_isArm hx hb hml hown htg hK hW hS h1 q404 hl.1 (Nat.le_of_ble_eq_true rfl) (Nat.le_of_ble_eq_true rfl) (Nat.le_of_ble_eq_true rfl) ⟨Nat.zero_le _, Nat.zero_le _⟩ dX12_arm_1 (fun H locs hW hS => ?_)
  refine lv_if_ne (tgt := 13) hx hb dX12_arm_4 (by decide) (fun c3 => ?_) (fun c3 => ?_)
  · have hX := it_f hX c3
    refine lv_iload_n hx hb dX12_arm_13 rfl (lv_at hl 2 rfl) ?_
    refine lv_iconst (v := (0 : Int32)) hx hb dX12_arm_14 (by decide) ?_
    refine lv_bipush (v := (9 : Int32)) hx hb dX12_arm_15 (by decide) ?_
    obtain ⟨r5, h4, hX⟩ := bd_go hX
    refine k_X12_isBetween hx hb hml hown htg hK hW hS h4 q319 hl.1 (Nat.le_of_ble_eq_true rfl) (Nat.le_of_ble_eq_true rfl) (Nat.le_of_ble_eq_true rfl) ⟨Nat.zero_le _, Nat.zero_le _⟩ dX12_arm_17 (fun H locs hW hS => ?_)
    refine lv_if_ne (tgt := 29) hx hb dX12_arm_20 (by decide) (fun c6 => ?_) (fun c6 => ?_)
    · have hX := it_f hX c6
      refine lv_aload_n hx hb dX12_arm_29 rfl (lv_at hl 0 rfl) ?_
      refine lv_iconst (v := (0 : Int32)) hx hb dX12_arm_30 (by decide) ?_
      refine pf_40_0 hx hb htg hown hK hW hS q311 dX12_arm_31 (fun H locs hW hS => ?_)
      obtain ⟨y7, e9⟩ : ∃ w : Mem, w = (up4 y 40 0 0 0 (0 : Int32)) := ⟨_, rfl⟩
      rw [← e9] at hW
      have hX := lt_go hX e9
      refine lv_iload_n hx hb dX12_arm_34 rfl (lv_at hl 2 rfl) ?_
      by_cases c8 : p1 = (0 : Int32)
      · have hX := it_t hX c8
        refine lv_tsIn (v := (0 : Int32)) (tgt := 84) hx hb dX12_arm_35 c8 rfl (by decide) (by decide) rfl (by decide) ?_
        refine lv_aload_n hx hb dX12_arm_84 rfl (lv_at hl 0 rfl) ?_
        refine gf_40_10 hx hb htg hown hK hW q145 dX12_arm_85 ?_
        refine lv_iload_n hx hb dX12_arm_88 rfl (lv_at hl 1 rfl) ?_
        obtain ⟨g9, hX⟩ := gd_go hX
        refine al_110 hx hb hK hW g9 dX12_arm_89 ?_
        have hX := Option.some.inj hX
        subst hX
        exact rt_i hx hb hr hlocks hW hS dX12_arm_90
      have hX := it_f hX c8
      by_cases c10 : p1 = (1 : Int32)
      · have hX := it_t hX c10
        refine lv_tsIn (v := (1 : Int32)) (tgt := 91) hx hb dX12_arm_35 c10 rfl (by decide) (by decide) rfl (by decide) ?_
        refine lv_aload_n hx hb dX12_arm_91 rfl (lv_at hl 0 rfl) ?_
        refine gf_40_14 hx hb htg hown hK hW q149 dX12_arm_92 ?_
        refine lv_iload_n hx hb dX12_arm_95 rfl (lv_at hl 1 rfl) ?_
        obtain ⟨g11, hX⟩ := gd_go hX
        refine al_114 hx hb hK hW g11 dX12_arm_96 ?_
        have hX := Option.some.inj hX
        subst hX
        exact rt_i hx hb hr hlocks hW hS dX12_arm_97
      have hX := it_f hX c10
      by_cases c12 : p1 = (2 : Int32)
      · have hX := it_t hX c12
        refine lv_tsIn (v := (2 : Int32)) (tgt := 98) hx hb dX12_arm_35 c12 rfl (by decide) (by decide) rfl (by decide) ?_
        refine lv_aload_n hx hb dX12_arm_98 rfl (lv_at hl 0 rfl) ?_
        refine gf_40_13 hx hb htg hown hK hW q148 dX12_arm_99 ?_
        refine lv_iload_n hx hb dX12_arm_102 rfl (lv_at hl 1 rfl) ?_
        obtain ⟨g13, hX⟩ := gd_go hX
        refine al_113 hx hb hK hW g13 dX12_arm_103 ?_
        have hX := Option.some.inj hX
        subst hX
        exact rt_i hx hb hr hlocks hW hS dX12_arm_104
      have hX := it_f hX c12
      by_cases c14 : p1 = (3 : Int32)
      · have hX := it_t hX c14
        refine lv_tsIn (v := (3 : Int32)) (tgt := 105) hx hb dX12_arm_35 c14 rfl (by decide) (by decide) rfl (by decide) ?_
        refine lv_aload_n hx hb dX12_arm_105 rfl (lv_at hl 0 rfl) ?_
        refine gf_40_11 hx hb htg hown hK hW q146 dX12_arm_106 ?_
        refine lv_iload_n hx hb dX12_arm_109 rfl (lv_at hl 1 rfl) ?_
        obtain ⟨g15, hX⟩ := gd_go hX
        refine al_111 hx hb hK hW g15 dX12_arm_110 ?_
        have hX := Option.some.inj hX
        subst hX
        exact rt_i hx hb hr hlocks hW hS dX12_arm_111
      have hX := it_f hX c14
      by_cases c16 : p1 = (4 : Int32)
      · have hX := it_t hX c16
        refine lv_tsIn (v := (4 : Int32)) (tgt := 112) hx hb dX12_arm_35 c16 rfl (by decide) (by decide) rfl (by decide) ?_
        refine lv_aload_n hx hb dX12_arm_112 rfl (lv_at hl 0 rfl) ?_
        refine gf_40_14 hx hb htg hown hK hW q149 dX12_arm_113 ?_
        refine lv_iload_n hx hb dX12_arm_116 rfl (lv_at hl 1 rfl) ?_
        obtain ⟨g17, hX⟩ := gd_go hX
        refine al_114 hx hb hK hW g17 dX12_arm_117 ?_
        refine lv_if_ne (tgt := 125) hx hb dX12_arm_118 (by decide) (fun c18 => ?_) (fun c18 => ?_)
        · have hX := it_f hX c18
          refine lv_aload_n hx hb dX12_arm_125 rfl (lv_at hl 0 rfl) ?_
          refine lv_iload_n hx hb dX12_arm_126 rfl (lv_at hl 1 rfl) ?_
          obtain ⟨r20, h19, hX⟩ := bd_go hX
          refine k_X12_zoneOf hx hb hml hown htg hK hW hS h19 q330 hl.1 (Nat.le_of_ble_eq_true rfl) (Nat.le_of_ble_eq_true rfl) (Nat.le_of_ble_eq_true rfl) ⟨Nat.zero_le _, Nat.zero_le _⟩ dX12_arm_127 (fun H locs hW hS => ?_)
          have hX := Option.some.inj hX
          subst hX
          exact rt_i hx hb hr hlocks hW hS dX12_arm_130
        · have hX := it_t hX c18
          refine lv_iconst (v := (-1 : Int32)) hx hb dX12_arm_121 (by decide) ?_
          refine lv_goto (tgt := 130) hx hb dX12_arm_122 (by decide) ?_
          have hX := Option.some.inj hX
          subst hX
          exact rt_i hx hb hr hlocks hW hS dX12_arm_130
      have hX := it_f hX c16
      by_cases c21 : p1 = (5 : Int32)
      · have hX := it_t hX c21
        refine lv_tsIn (v := (5 : Int32)) (tgt := 131) hx hb dX12_arm_35 c21 rfl (by decide) (by decide) rfl (by decide) ?_
        refine lv_aload_n hx hb dX12_arm_131 rfl (lv_at hl 0 rfl) ?_
        refine gf_40_16 hx hb htg hown hK hW q151 dX12_arm_132 ?_
        refine lv_iload_n hx hb dX12_arm_135 rfl (lv_at hl 1 rfl) ?_
        obtain ⟨g22, hX⟩ := gd_go hX
        refine al_116 hx hb hK hW g22 dX12_arm_136 ?_
        have hX := Option.some.inj hX
        subst hX
        exact rt_i hx hb hr hlocks hW hS dX12_arm_137
      have hX := it_f hX c21
      by_cases c23 : p1 = (6 : Int32)
      · have hX := it_t hX c23
        refine lv_tsIn (v := (6 : Int32)) (tgt := 138) hx hb dX12_arm_35 c23 rfl (by decide) (by decide) rfl (by decide) ?_
        refine lv_aload_n hx hb dX12_arm_138 rfl (lv_at hl 0 rfl) ?_
        refine gf_40_17 hx hb htg hown hK hW q152 dX12_arm_139 ?_
        refine lv_iload_n hx hb dX12_arm_142 rfl (lv_at hl 1 rfl) ?_
        obtain ⟨g24, hX⟩ := gd_go hX
        refine al_117 hx hb hK hW g24 dX12_arm_143 ?_
        have hX := Option.some.inj hX
        subst hX
        exact rt_i hx hb hr hlocks hW hS dX12_arm_144
      have hX := it_f hX c23
      by_cases c25 : p1 = (7 : Int32)
      · have hX := it_t hX c25
        refine lv_tsIn (v := (7 : Int32)) (tgt := 145) hx hb dX12_arm_35 c25 rfl (by decide) (by decide) rfl (by decide) ?_
        refine lv_aload_n hx hb dX12_arm_145 rfl (lv_at hl 0 rfl) ?_
        refine lv_iload_n hx hb dX12_arm_146 rfl (lv_at hl 1 rfl) ?_
        obtain ⟨r27, h26, hX⟩ := bd_go hX
        refine k_X12_holds hx hb hml hown htg hK hW hS h26 q326 hl.1 (Nat.le_of_ble_eq_true rfl) (Nat.le_of_ble_eq_true rfl) (Nat.le_of_ble_eq_true rfl) ⟨Nat.zero_le _, Nat.zero_le _⟩ dX12_arm_147 (fun H locs hW hS => ?_)
        have hX := Option.some.inj hX
        subst hX
        exact rt_i hx hb hr hlocks hW hS dX12_arm_150
      have hX := it_f hX c25
      by_cases c28 : p1 = (8 : Int32)
      · have hX := it_t hX c28
        refine lv_tsIn (v := (8 : Int32)) (tgt := 151) hx hb dX12_arm_35 c28 rfl (by decide) (by decide) rfl (by decide) ?_
        refine lv_aload_n hx hb dX12_arm_151 rfl (lv_at hl 0 rfl) ?_
        refine gf_40_20 hx hb htg hown hK hW q155 dX12_arm_152 ?_
        refine lv_iload_n hx hb dX12_arm_155 rfl (lv_at hl 1 rfl) ?_
        obtain ⟨g29, hX⟩ := gd_go hX
        refine al_120 hx hb hK hW g29 dX12_arm_156 ?_
        have hX := Option.some.inj hX
        subst hX
        exact rt_i hx hb hr hlocks hW hS dX12_arm_157
      have hX := it_f hX c28
      refine lv_tsOut (n := 8) (tgt := 158) hx hb dX12_arm_35 (by decide) (fun j hj => match j, hj with | 0, _ => c8 | 1, _ => c10 | 2, _ => c12 | 3, _ => c14 | 4, _ => c16 | 5, _ => c21 | 6, _ => c23 | 7, _ => c25 | 8, _ => c28 | j + 9, hj => absurd hj (by omega)) (by decide) ?_
      refine lv_aload_n hx hb dX12_arm_158 rfl (lv_at hl 0 rfl) ?_
      refine gf_40_21 hx hb htg hown hK hW q156 dX12_arm_159 ?_
      refine lv_iload_n hx hb dX12_arm_162 rfl (lv_at hl 1 rfl) ?_
      obtain ⟨g30, hX⟩ := gd_go hX
      refine al_121 hx hb hK hW g30 dX12_arm_163 ?_
      have hX := Option.some.inj hX
      subst hX
      exact rt_i hx hb hr hlocks hW hS dX12_arm_164
    · have hX := it_t hX c6
      refine lv_aload_n hx hb dX12_arm_23 rfl (lv_at hl 0 rfl) ?_
      refine lv_iconst (v := (2 : Int32)) hx hb dX12_arm_24 (by decide) ?_
      obtain ⟨r32, y33, h31, hX⟩ := bd2_go hX
      refine k_X12_fails hx hb hml hown htg hK hW hS h31 q407 hl.1 (Nat.le_of_ble_eq_true rfl) (Nat.le_of_ble_eq_true rfl) (Nat.le_of_ble_eq_true rfl) ⟨Nat.zero_le _, Nat.zero_le _⟩ dX12_arm_25 (fun H locs hW hS => ?_)
      have hX := Option.some.inj hX
      subst hX
      exact rt_i hx hb hr hlocks hW hS dX12_arm_28
  · have hX := it_t hX c3
    refine lv_aload_n hx hb dX12_arm_7 rfl (lv_at hl 0 rfl) ?_
    refine lv_iconst (v := (1 : Int32)) hx hb dX12_arm_8 (by decide) ?_
    obtain ⟨r35, y36, h34, hX⟩ := bd2_go hX
    refine k_X12_fails hx hb hml hown htg hK hW hS h34 q407 hl.1 (Nat.le_of_ble_eq_true rfl) (Nat.le_of_ble_eq_true rfl) (Nat.le_of_ble_eq_true rfl) ⟨Nat.zero_le _, Nat.zero_le _⟩ dX12_arm_9 (fun H locs hW hS => ?_)
    have hX := Option.some.inj hX
    subst hX
    exact rt_i hx hb hr hlocks hW hS dX12_arm_12
set_option maxHeartbeats 4000000 in
theorem k_X12_arm {p : Program} {l : Launch} {e : Env} {R : Room} {s : State} {m : MethodId} {args : Array Value} {below : List Frame} {meth : Method} {c : Code} {H : Heap} {locs : List Loc} {cells slots : Nat} {Q : State → Prop} {cc : ByteArray} {pc nL idx : Nat} {own : String} {ls : Array Slot} {rest : List Value} {G : Geo} {x y : Mem} {H0 : Heap} {p0 : Int32} {p1 : Int32} {v : Int32} {z : Mem} (hx : p.tables.exec = Jvm.exec) (hb : c.code = cc) (hml : c.maxLocals = nL) (hown : s.vm.findClass own = some m.cls) (htg : ∀ w ∈ wsG, w.before args s = true) (hK : Kt G s) (hW : Wh G x y H) (hS : va_S (gF G) H0 H locs) (h : m_X12_arm p0 p1 y = some (v, z)) (hlk : Cond.methodLink own idx yX12_arm ∈ wsG) (hn : ls.size = nL) (hr : (rest.map fun v => v.category).sum ≤ 8) (hR1 : 3 + 1 ≤ R.frames) (hR2 : 8 + (3 + 11) + 67 ≤ R.locals) (hf : cells ≤ R.cells ∧ slots ≤ R.slots) (hdg : decode cc pc = .ok (.invokevirtual idx, 3)) (kk : ∀ (H1 : Heap) (locs1 : List Loc), Wh G x z H1 → va_S (gF G) H0 H1 locs1 → W p l e R s m args below meth c H1 locs1 cells slots Q (F0 m (pc + 3) ls (.int v :: rest))) : W p l e R s m args below meth c H locs cells slots Q (F0 m pc ls (.int p1 :: .int p0 :: .ref (gA G 40 0 0) :: rest)) := by
  refine va_calli (va_runV (As := [.int p0, .int p1]) (rest := rest) ⟨hx, hb, hml, hown, htg⟩ (c_X12_arm l G x y p0 p1 (v, z) h) (cwV 2 htg (gd_V hlk q656 q657 q5 q658) rfl rfl rfl (by decide +kernel) ⟨hR1, hR2⟩) ⟨fun a U g mk q => ⟨q.1, q.2.1.calling, q.2.2⟩, rc_40 hK hW, fun U hU hW9 => ⟨rfl, hK.warm hW9, by rw [hU]; exact hW⟩⟩ rfl rfl hn rfl (lv_room hr) hdg hf) hS (fun _ _ h9 => h9) (fun _ h9 => h9) ?_
  intro r9 u t H1 locs1 ht hvm hw hB hz1 hk1 hS1
  replace hB : Wh G x z t.heap := hB
  rw [ht] at hB
  replace hw : r9 = v := hw
  subst hw
  exact kk H1 locs1 hB hS1
/-! METHOD X12_isBuffer -/
def m_X12_isBuffer (p0 : Int32) : Option Int32 :=
  bd_ (m_X12_isBetween p0 (0 : Int32) (2 : Int32)) fun r2 => gb_ r2 (some r2)
abbrev WS_X12_isBuffer : List Cond := .code yX12_isBuffer cX12_isBuffer 1 (some .boolean) :: wsG
abbrev RM_X12_isBuffer : Room := { frames := 1, cells := 0, slots := 0, locals := 22 }
set_option maxHeartbeats 4000000 in
set_option maxRecDepth 100000 in
theorem c_X12_isBuffer (l : Launch) (G : Geo) (x y : Mem) (p0 : Int32) (r : Int32) (h : m_X12_isBuffer p0 = some r) : Met l yX12_isBuffer WS_X12_isBuffer RM_X12_isBuffer (Pw G x y [.int p0]) (Qi G x y r) 0 0 (gF G) := by
  refine Met.ofW (cc := cX12_isBuffer) (maxL := 1) (ret := (some .boolean)) (by decide) rfl ?_
  intro p e s m args below meth c s₁ B hml hv
  obtain ⟨rfl, hK, hW⟩ := hv
  have hx := B.exec
  have hb := B.bytes
  have hr := B.returns
  have hts := atoms_spec (ws := WS_X12_isBuffer) B.pre
  have htg : ∀ w ∈ wsG, w.before _ s = true := fun w h => hts w (List.mem_cons_of_mem _ h)
  have hown : s.vm.findClass RX12 = some m.cls := findClass_of_methodNamed B.named
  have hlocks := B.notSynchronized
  have hS : va_S (gF G) s.heap s.heap [] := va_S.rf
  have hl := lv_entry ([.int p0]) (n := 1) (Nat.le_of_ble_eq_true rfl)
  rw [lg_entry_eq]
  generalize (lg_sl ([.int p0]) ++ List.replicate (1 - (lg_sl ([.int p0])).length) Slot.unset).toArray = ls at hl ⊢
  have hl : lv_has ls 1 [(0, .int p0)] := hl
  have hX := h
  unfold m_X12_isBuffer at hX
  refine lv_iload_n hx hb dX12_isBuffer_0 rfl (lv_at hl 0 rfl) ?_
  refine lv_iconst (v := (0 : Int32)) hx hb dX12_isBuffer_1 (by decide) ?_
  refine lv_iconst (v := (2 : Int32)) hx hb dX12_isBuffer_2 (by decide) ?_
  obtain ⟨r2, h1, hX⟩ := bd_go hX
  refine k_X12_isBetween hx hb hml hown htg hK hW hS h1 q319 hl.1 (Nat.le_of_ble_eq_true rfl) (Nat.le_of_ble_eq_true rfl) (Nat.le_of_ble_eq_true rfl) ⟨Nat.zero_le _, Nat.zero_le _⟩ dX12_isBuffer_3 (fun H locs hW hS => ?_)
  obtain ⟨g9, hX⟩ := gb_go hX
  have hX := Option.some.inj hX
  subst hX
  exact rt_z hx hb hr hlocks hW hS (isB_n g9) dX12_isBuffer_6
set_option maxHeartbeats 4000000 in
theorem k_X12_isBuffer {p : Program} {l : Launch} {e : Env} {R : Room} {s : State} {m : MethodId} {args : Array Value} {below : List Frame} {meth : Method} {c : Code} {H : Heap} {locs : List Loc} {cells slots : Nat} {Q : State → Prop} {cc : ByteArray} {pc nL idx : Nat} {own : String} {ls : Array Slot} {rest : List Value} {G : Geo} {x y : Mem} {H0 : Heap} {p0 : Int32} {v : Int32} (hx : p.tables.exec = Jvm.exec) (hb : c.code = cc) (hml : c.maxLocals = nL) (hown : s.vm.findClass own = some m.cls) (htg : ∀ w ∈ wsG, w.before args s = true) (hK : Kt G s) (hW : Wh G x y H) (hS : va_S (gF G) H0 H locs) (h : m_X12_isBuffer p0 = some v) (hlk : Cond.methodLink own idx yX12_isBuffer ∈ wsG) (hn : ls.size = nL) (hr : (rest.map fun v => v.category).sum ≤ 8) (hR1 : 1 + 1 ≤ R.frames) (hR2 : 8 + (1 + 11) + 22 ≤ R.locals) (hf : cells ≤ R.cells ∧ slots ≤ R.slots) (hdg : decode cc pc = .ok (.invokestatic idx, 3)) (kk : ∀ (H1 : Heap) (locs1 : List Loc), Wh G x y H1 → va_S (gF G) H0 H1 locs1 → W p l e R s m args below meth c H1 locs1 cells slots Q (F0 m (pc + 3) ls (.int v :: rest))) : W p l e R s m args below meth c H locs cells slots Q (F0 m pc ls (.int p0 :: rest)) := by
  refine va_calli (va_runS (As := [.int p0]) (rest := rest) ⟨hx, hb, hml, hown, htg⟩ (c_X12_isBuffer l G x y p0 v h) (va_cwS 1 htg (gd_S hlk q432 q5 q433) rfl rfl rfl (by decide +kernel) ⟨hR1, hR2⟩) ⟨fun a U g mk q => ⟨q.1, q.2.1.calling, q.2.2⟩, fun U hU hW9 => ⟨rfl, hK.warm hW9, by rw [hU]; exact hW⟩⟩ rfl rfl hn rfl (lv_room hr) hdg hf) hS (fun _ _ h9 => h9) (fun _ h9 => h9) ?_
  intro r9 u t H1 locs1 ht hvm hw hB hz1 hk1 hS1
  replace hB : Wh G x y t.heap := hB
  rw [ht] at hB
  replace hw : r9 = v := hw
  subst hw
  exact kk H1 locs1 hB hS1
/-! METHOD X12_buffer -/
def m_X12_buffer (p0 : Int32) (p1 : Int32) (y : Mem) : Option (Int32 × Mem) :=
  bd_ (m_X12_isBuffer p0) fun r2 => if r2 = 0 then (bd2_ (m_X12_fails (1 : Int32) y) fun r23 y24 => some (r23, y24)) else (bd_ (m_X12_isBetween p1 (0 : Int32) (5 : Int32)) fun r5 => if r5 = 0 then (bd2_ (m_X12_fails (2 : Int32) y) fun r20 y21 => some (r20, y21)) else (lt_ (up4 y 40 0 0 0 (0 : Int32)) fun y7 => if p1 = (0 : Int32) then (gd_ p0 3 (some ((y7 103 0 0 p0.toNatClampNeg), y7))) else if p1 = (1 : Int32) then (gd_ p0 3 (some ((y7 104 0 0 p0.toNatClampNeg), y7))) else if p1 = (2 : Int32) then (gd_ p0 3 (some ((y7 106 0 0 p0.toNatClampNeg), y7))) else if p1 = (3 : Int32) then (gd_ p0 3 (some ((y7 107 0 0 p0.toNatClampNeg), y7))) else if p1 = (4 : Int32) then (gd_ p0 3 (some ((y7 108 0 0 p0.toNatClampNeg), y7))) else (gd_ p0 3 (some ((y7 109 0 0 p0.toNatClampNeg), y7)))))
abbrev WS_X12_buffer : List Cond := .code yX12_buffer cX12_buffer 3 (some .int) :: wsG
abbrev RM_X12_buffer : Room := { frames := 2, cells := 0, slots := 0, locals := 42 }
set_option maxHeartbeats 4000000 in
set_option maxRecDepth 100000 in
theorem c_X12_buffer (l : Launch) (G : Geo) (x y : Mem) (p0 : Int32) (p1 : Int32) (r : (Int32 × Mem)) (h : m_X12_buffer p0 p1 y = some r) : Met l yX12_buffer WS_X12_buffer RM_X12_buffer (Pw G x y [.ref (gA G 40 0 0), .int p0, .int p1]) (Qi G x r.2 r.1) 0 0 (gF G) := by
  refine Met.ofW (cc := cX12_buffer) (maxL := 3) (ret := (some .int)) (by decide) rfl ?_
  intro p e s m args below meth c s₁ B hml hv
  obtain ⟨rfl, hK, hW⟩ := hv
  have hx := B.exec
  have hb := B.bytes
  have hr := B.returns
  have hts := atoms_spec (ws := WS_X12_buffer) B.pre
  have htg : ∀ w ∈ wsG, w.before _ s = true := fun w h => hts w (List.mem_cons_of_mem _ h)
  have hown : s.vm.findClass RX12 = some m.cls := findClass_of_methodNamed B.named
  have hlocks := B.notSynchronized
  have hS : va_S (gF G) s.heap s.heap [] := va_S.rf
  have hl := lv_entry ([.ref (gA G 40 0 0), .int p0, .int p1]) (n := 3) (Nat.le_of_ble_eq_true rfl)
  rw [lg_entry_eq]
  generalize (lg_sl ([.ref (gA G 40 0 0), .int p0, .int p1]) ++ List.replicate (3 - (lg_sl ([.ref (gA G 40 0 0), .int p0, .int p1])).length) Slot.unset).toArray = ls at hl ⊢
  have hl : lv_has ls 3 [(0, .ref (gA G 40 0 0)), (1, .int p0), (2, .int p1)] := hl
  have hX := h
  unfold m_X12_buffer at hX
  refine lv_iload_n hx hb dX12_buffer_0 rfl (lv_at hl 1 rfl) ?_
  obtain ⟨r2, h1, hX⟩ := bd_go hX
  refine k_X12_isBuffer hx hb hml hown htg hK hW hS h1 q431 hl.1 (Nat.le_of_ble_eq_true rfl) (Nat.le_of_ble_eq_true rfl) (Nat.le_of_ble_eq_true rfl) ⟨Nat.zero_le _, Nat.zero_le _⟩ dX12_buffer_1 (fun H locs hW hS => ?_)
  refine lv_if_ne (tgt := 13) hx hb dX12_buffer_4 (by decide) (fun c3 => ?_) (fun c3 => ?_)
  · have hX := it_f hX c3
    refine lv_iload_n hx hb dX12_buffer_13 rfl (lv_at hl 2 rfl) ?_
    refine lv_iconst (v := (0 : Int32)) hx hb dX12_buffer_14 (by decide) ?_
    refine lv_iconst (v := (5 : Int32)) hx hb dX12_buffer_15 (by decide) ?_
    obtain ⟨r5, h4, hX⟩ := bd_go hX
    refine k_X12_isBetween hx hb hml hown htg hK hW hS h4 q319 hl.1 (Nat.le_of_ble_eq_true rfl) (Nat.le_of_ble_eq_true rfl) (Nat.le_of_ble_eq_true rfl) ⟨Nat.zero_le _, Nat.zero_le _⟩ dX12_buffer_16 (fun H locs hW hS => ?_)
    refine lv_if_ne (tgt := 28) hx hb dX12_buffer_19 (by decide) (fun c6 => ?_) (fun c6 => ?_)
    · have hX := it_f hX c6
      refine lv_aload_n hx hb dX12_buffer_28 rfl (lv_at hl 0 rfl) ?_
      refine lv_iconst (v := (0 : Int32)) hx hb dX12_buffer_29 (by decide) ?_
      refine pf_40_0 hx hb htg hown hK hW hS q311 dX12_buffer_30 (fun H locs hW hS => ?_)
      obtain ⟨y7, e9⟩ : ∃ w : Mem, w = (up4 y 40 0 0 0 (0 : Int32)) := ⟨_, rfl⟩
      rw [← e9] at hW
      have hX := lt_go hX e9
      refine lv_iload_n hx hb dX12_buffer_33 rfl (lv_at hl 2 rfl) ?_
      by_cases c8 : p1 = (0 : Int32)
      · have hX := it_t hX c8
        refine lv_tsIn (v := (0 : Int32)) (tgt := 68) hx hb dX12_buffer_34 c8 rfl (by decide) (by decide) rfl (by decide) ?_
        refine lv_aload_n hx hb dX12_buffer_68 rfl (lv_at hl 0 rfl) ?_
        refine gf_40_3 hx hb htg hown hK hW q138 dX12_buffer_69 ?_
        refine lv_iload_n hx hb dX12_buffer_72 rfl (lv_at hl 1 rfl) ?_
        obtain ⟨g9, hX⟩ := gd_go hX
        refine al_103 hx hb hK hW g9 dX12_buffer_73 ?_
        have hX := Option.some.inj hX
        subst hX
        exact rt_i hx hb hr hlocks hW hS dX12_buffer_74
      have hX := it_f hX c8
      by_cases c10 : p1 = (1 : Int32)
      · have hX := it_t hX c10
        refine lv_tsIn (v := (1 : Int32)) (tgt := 75) hx hb dX12_buffer_34 c10 rfl (by decide) (by decide) rfl (by decide) ?_
        refine lv_aload_n hx hb dX12_buffer_75 rfl (lv_at hl 0 rfl) ?_
        refine gf_40_4 hx hb htg hown hK hW q139 dX12_buffer_76 ?_
        refine lv_iload_n hx hb dX12_buffer_79 rfl (lv_at hl 1 rfl) ?_
        obtain ⟨g11, hX⟩ := gd_go hX
        refine al_104 hx hb hK hW g11 dX12_buffer_80 ?_
        have hX := Option.some.inj hX
        subst hX
        exact rt_i hx hb hr hlocks hW hS dX12_buffer_81
      have hX := it_f hX c10
      by_cases c12 : p1 = (2 : Int32)
      · have hX := it_t hX c12
        refine lv_tsIn (v := (2 : Int32)) (tgt := 82) hx hb dX12_buffer_34 c12 rfl (by decide) (by decide) rfl (by decide) ?_
        refine lv_aload_n hx hb dX12_buffer_82 rfl (lv_at hl 0 rfl) ?_
        refine gf_40_6 hx hb htg hown hK hW q141 dX12_buffer_83 ?_
        refine lv_iload_n hx hb dX12_buffer_86 rfl (lv_at hl 1 rfl) ?_
        obtain ⟨g13, hX⟩ := gd_go hX
        refine al_106 hx hb hK hW g13 dX12_buffer_87 ?_
        have hX := Option.some.inj hX
        subst hX
        exact rt_i hx hb hr hlocks hW hS dX12_buffer_88
      have hX := it_f hX c12
      by_cases c14 : p1 = (3 : Int32)
      · have hX := it_t hX c14
        refine lv_tsIn (v := (3 : Int32)) (tgt := 89) hx hb dX12_buffer_34 c14 rfl (by decide) (by decide) rfl (by decide) ?_
        refine lv_aload_n hx hb dX12_buffer_89 rfl (lv_at hl 0 rfl) ?_
        refine gf_40_7 hx hb htg hown hK hW q142 dX12_buffer_90 ?_
        refine lv_iload_n hx hb dX12_buffer_93 rfl (lv_at hl 1 rfl) ?_
        obtain ⟨g15, hX⟩ := gd_go hX
        refine al_107 hx hb hK hW g15 dX12_buffer_94 ?_
        have hX := Option.some.inj hX
        subst hX
        exact rt_i hx hb hr hlocks hW hS dX12_buffer_95
      have hX := it_f hX c14
      by_cases c16 : p1 = (4 : Int32)
      · have hX := it_t hX c16
        refine lv_tsIn (v := (4 : Int32)) (tgt := 96) hx hb dX12_buffer_34 c16 rfl (by decide) (by decide) rfl (by decide) ?_
        refine lv_aload_n hx hb dX12_buffer_96 rfl (lv_at hl 0 rfl) ?_
        refine gf_40_8 hx hb htg hown hK hW q143 dX12_buffer_97 ?_
        refine lv_iload_n hx hb dX12_buffer_100 rfl (lv_at hl 1 rfl) ?_
        obtain ⟨g17, hX⟩ := gd_go hX
        refine al_108 hx hb hK hW g17 dX12_buffer_101 ?_
        have hX := Option.some.inj hX
        subst hX
        exact rt_i hx hb hr hlocks hW hS dX12_buffer_102
      have hX := it_f hX c16
      refine lv_tsOut (n := 4) (tgt := 103) hx hb dX12_buffer_34 (by decide) (fun j hj => match j, hj with | 0, _ => c8 | 1, _ => c10 | 2, _ => c12 | 3, _ => c14 | 4, _ => c16 | j + 5, hj => absurd hj (by omega)) (by decide) ?_
      refine lv_aload_n hx hb dX12_buffer_103 rfl (lv_at hl 0 rfl) ?_
      refine gf_40_9 hx hb htg hown hK hW q144 dX12_buffer_104 ?_
      refine lv_iload_n hx hb dX12_buffer_107 rfl (lv_at hl 1 rfl) ?_
      obtain ⟨g18, hX⟩ := gd_go hX
      refine al_109 hx hb hK hW g18 dX12_buffer_108 ?_
      have hX := Option.some.inj hX
      subst hX
      exact rt_i hx hb hr hlocks hW hS dX12_buffer_109
    · have hX := it_t hX c6
      refine lv_aload_n hx hb dX12_buffer_22 rfl (lv_at hl 0 rfl) ?_
      refine lv_iconst (v := (2 : Int32)) hx hb dX12_buffer_23 (by decide) ?_
      obtain ⟨r20, y21, h19, hX⟩ := bd2_go hX
      refine k_X12_fails hx hb hml hown htg hK hW hS h19 q407 hl.1 (Nat.le_of_ble_eq_true rfl) (Nat.le_of_ble_eq_true rfl) (Nat.le_of_ble_eq_true rfl) ⟨Nat.zero_le _, Nat.zero_le _⟩ dX12_buffer_24 (fun H locs hW hS => ?_)
      have hX := Option.some.inj hX
      subst hX
      exact rt_i hx hb hr hlocks hW hS dX12_buffer_27
  · have hX := it_t hX c3
    refine lv_aload_n hx hb dX12_buffer_7 rfl (lv_at hl 0 rfl) ?_
    refine lv_iconst (v := (1 : Int32)) hx hb dX12_buffer_8 (by decide) ?_
    obtain ⟨r23, y24, h22, hX⟩ := bd2_go hX
    refine k_X12_fails hx hb hml hown htg hK hW hS h22 q407 hl.1 (Nat.le_of_ble_eq_true rfl) (Nat.le_of_ble_eq_true rfl) (Nat.le_of_ble_eq_true rfl) ⟨Nat.zero_le _, Nat.zero_le _⟩ dX12_buffer_9 (fun H locs hW hS => ?_)
    have hX := Option.some.inj hX
    subst hX
    exact rt_i hx hb hr hlocks hW hS dX12_buffer_12
set_option maxHeartbeats 4000000 in
theorem k_X12_buffer {p : Program} {l : Launch} {e : Env} {R : Room} {s : State} {m : MethodId} {args : Array Value} {below : List Frame} {meth : Method} {c : Code} {H : Heap} {locs : List Loc} {cells slots : Nat} {Q : State → Prop} {cc : ByteArray} {pc nL idx : Nat} {own : String} {ls : Array Slot} {rest : List Value} {G : Geo} {x y : Mem} {H0 : Heap} {p0 : Int32} {p1 : Int32} {v : Int32} {z : Mem} (hx : p.tables.exec = Jvm.exec) (hb : c.code = cc) (hml : c.maxLocals = nL) (hown : s.vm.findClass own = some m.cls) (htg : ∀ w ∈ wsG, w.before args s = true) (hK : Kt G s) (hW : Wh G x y H) (hS : va_S (gF G) H0 H locs) (h : m_X12_buffer p0 p1 y = some (v, z)) (hlk : Cond.methodLink own idx yX12_buffer ∈ wsG) (hn : ls.size = nL) (hr : (rest.map fun v => v.category).sum ≤ 8) (hR1 : 2 + 1 ≤ R.frames) (hR2 : 8 + (3 + 11) + 42 ≤ R.locals) (hf : cells ≤ R.cells ∧ slots ≤ R.slots) (hdg : decode cc pc = .ok (.invokevirtual idx, 3)) (kk : ∀ (H1 : Heap) (locs1 : List Loc), Wh G x z H1 → va_S (gF G) H0 H1 locs1 → W p l e R s m args below meth c H1 locs1 cells slots Q (F0 m (pc + 3) ls (.int v :: rest))) : W p l e R s m args below meth c H locs cells slots Q (F0 m pc ls (.int p1 :: .int p0 :: .ref (gA G 40 0 0) :: rest)) := by
  refine va_calli (va_runV (As := [.int p0, .int p1]) (rest := rest) ⟨hx, hb, hml, hown, htg⟩ (c_X12_buffer l G x y p0 p1 (v, z) h) (cwV 2 htg (gd_V hlk q506 q507 q5 q508) rfl rfl rfl (by decide +kernel) ⟨hR1, hR2⟩) ⟨fun a U g mk q => ⟨q.1, q.2.1.calling, q.2.2⟩, rc_40 hK hW, fun U hU hW9 => ⟨rfl, hK.warm hW9, by rw [hU]; exact hW⟩⟩ rfl rfl hn rfl (lv_room hr) hdg hf) hS (fun _ _ h9 => h9) (fun _ h9 => h9) ?_
  intro r9 u t H1 locs1 ht hvm hw hB hz1 hk1 hS1
  replace hB : Wh G x z t.heap := hB
  rw [ht] at hB
  replace hw : r9 = v := hw
  subst hw
  exact kk H1 locs1 hB hS1
/-! METHOD X12_digitsOf -/
def m_X12_digitsOf_b4 (p0 : Int32) (k4 : Int32 → Int32 → Option Int32) (x1 : Int32) (x2 : Int32) : Option Int32 :=
  if x2 ≤ 0 then (some x1) else (lt_ (x1 + (1 : Int32)) fun x1_4 => lt_ (x2 / (10 : Int32)) fun x2_5 => k4 x1_4 x2_5)
def m_X12_digitsOf_l4 (p0 : Int32) : Nat → Int32 → Int32 → Option Int32
  | 0, _, _ => none
  | n + 1, x1, x2 => m_X12_digitsOf_b4 p0 (m_X12_digitsOf_l4 p0 n) x1 x2
def m_X12_digitsOf (p0 : Int32) : Option Int32 :=
  lt_ (0 : Int32) fun x1_1 => lt_ p0 fun x2_2 => m_X12_digitsOf_l4 p0 FU x1_1 x2_2
abbrev WS_X12_digitsOf : List Cond := .code yX12_digitsOf cX12_digitsOf 3 (some .int) :: wsG
abbrev RM_X12_digitsOf : Room := { frames := 0, cells := 0, slots := 0, locals := 0 }
set_option maxHeartbeats 4000000 in
set_option maxRecDepth 100000 in
theorem c_X12_digitsOf (l : Launch) (G : Geo) (x y : Mem) (p0 : Int32) (r : Int32) (h : m_X12_digitsOf p0 = some r) : Met l yX12_digitsOf WS_X12_digitsOf RM_X12_digitsOf (Pw G x y [.int p0]) (Qi G x y r) 0 0 (gF G) := by
  refine Met.ofW (cc := cX12_digitsOf) (maxL := 3) (ret := (some .int)) (by decide) rfl ?_
  intro p e s m args below meth c s₁ B hml hv
  obtain ⟨rfl, hK, hW⟩ := hv
  have hx := B.exec
  have hb := B.bytes
  have hr := B.returns
  have hts := atoms_spec (ws := WS_X12_digitsOf) B.pre
  have htg : ∀ w ∈ wsG, w.before _ s = true := fun w h => hts w (List.mem_cons_of_mem _ h)
  have hown : s.vm.findClass RX12 = some m.cls := findClass_of_methodNamed B.named
  have hlocks := B.notSynchronized
  have hS : va_S (gF G) s.heap s.heap [] := va_S.rf
  have hl := lv_entry ([.int p0]) (n := 3) (Nat.le_of_ble_eq_true rfl)
  rw [lg_entry_eq]
  generalize (lg_sl ([.int p0]) ++ List.replicate (3 - (lg_sl ([.int p0])).length) Slot.unset).toArray = ls at hl ⊢
  have hl : lv_has ls 3 [(0, .int p0)] := hl
  have hX := h
  unfold m_X12_digitsOf at hX
  have B_4 : ∀ (k4 : Int32 → Int32 → Option Int32) (hk4 : ∀ (x1 : Int32) (x2 : Int32) (H : Heap) (locs : List Loc) (ls : Array Slot), Wh G x y H → va_S (gF G) s.heap H locs → lv_has ls 3 [(1, .int x1), (2, .int x2)] → k4 x1 x2 = some r → W p l e (headSpec WS_X12_digitsOf RM_X12_digitsOf).room s m ([.int p0] : List Value).toArray below meth c H locs 0 0 (MQ below (Qi G x y r) ([.int p0] : List Value).toArray s 0 0 (gF G)) (F0 m 4 ls [])), ∀ (x1 : Int32) (x2 : Int32) (H : Heap) (locs : List Loc) (ls : Array Slot), Wh G x y H → va_S (gF G) s.heap H locs → lv_has ls 3 [(1, .int x1), (2, .int x2)] → m_X12_digitsOf_b4 p0 k4 x1 x2 = some r → W p l e (headSpec WS_X12_digitsOf RM_X12_digitsOf).room s m ([.int p0] : List Value).toArray below meth c H locs 0 0 (MQ below (Qi G x y r) ([.int p0] : List Value).toArray s 0 0 (gF G)) (F0 m 4 ls []) := by
    intro k4 hk4 x1 x2 H locs ls hW hS hl hX
    unfold m_X12_digitsOf_b4 at hX
    refine lv_iload_n hx hb dX12_digitsOf_4 rfl (lv_at hl 1 rfl) ?_
    refine lv_if_le (tgt := 19) hx hb dX12_digitsOf_5 (by decide) (fun c3 => ?_) (fun c3 => ?_)
    · have hX := it_t hX c3
      refine lv_iload_n hx hb dX12_digitsOf_19 rfl (lv_at hl 0 rfl) ?_
      have hX := Option.some.inj hX
      subst hX
      exact rt_i hx hb hr hlocks hW hS dX12_digitsOf_20
    · have hX := it_f hX c3
      obtain ⟨x1_4, e9⟩ : ∃ w : Int32, w = (x1 + (1 : Int32)) := ⟨_, rfl⟩
      have hX := lt_go hX e9
      refine lv_iinc (v := x1_4) (lv' := [(1, .int x1_4), (2, .int x2)]) hx hb dX12_digitsOf_8 hl (k := 0) rfl (by rw [e9]; rfl) (by decide) rfl (fun ls hl => ?_)
      refine lv_iload_n hx hb dX12_digitsOf_11 rfl (lv_at hl 1 rfl) ?_
      refine lv_bipush (v := (10 : Int32)) hx hb dX12_digitsOf_12 (by decide) ?_
      refine lv_idiv hx hb dX12_digitsOf_14 (by decide) ?_
      refine lv_topi (fun x2_5 e9 => ?_)
      have hX := lt_go hX e9
      refine lv_istore_n (lv' := [(2, .int x2_5), (1, .int x1_4)]) hx hb dX12_digitsOf_15 rfl hl (by decide) rfl (fun ls hl => ?_)
      refine lv_goto (tgt := 4) hx hb dX12_digitsOf_16 (by decide) ?_
      exact hk4 _ _ _ _ _ hW hS (lv_sub hl [1, 0] rfl) hX
  have L_4 : ∀ (n : Nat), ∀ (x1 : Int32) (x2 : Int32) (H : Heap) (locs : List Loc) (ls : Array Slot), Wh G x y H → va_S (gF G) s.heap H locs → lv_has ls 3 [(1, .int x1), (2, .int x2)] → m_X12_digitsOf_l4 p0 n x1 x2 = some r → W p l e (headSpec WS_X12_digitsOf RM_X12_digitsOf).room s m ([.int p0] : List Value).toArray below meth c H locs 0 0 (MQ below (Qi G x y r) ([.int p0] : List Value).toArray s 0 0 (gF G)) (F0 m 4 ls []) := by
    intro n
    induction n with
    | zero => intro x1 x2 H locs ls hW hS hl hX; exact no_go hX
    | succ n ih => intro x1 x2 H locs ls hW hS hl hX; exact B_4 _ ih _ _ _ _ _ hW hS hl hX
  refine lv_iconst (v := (0 : Int32)) hx hb dX12_digitsOf_0 (by decide) ?_
  refine lv_topi (fun x1_1 e9 => ?_)
  have hX := lt_go hX e9
  refine lv_istore_n (lv' := [(1, .int x1_1), (0, .int p0)]) hx hb dX12_digitsOf_1 rfl hl (by decide) rfl (fun ls hl => ?_)
  refine lv_iload_n hx hb dX12_digitsOf_2 rfl (lv_at hl 1 rfl) ?_
  refine lv_topi (fun x2_2 e9 => ?_)
  have hX := lt_go hX e9
  refine lv_istore_n (lv' := [(2, .int x2_2), (1, .int x1_1), (0, .int p0)]) hx hb dX12_digitsOf_3 rfl hl (by decide) rfl (fun ls hl => ?_)
  exact L_4 FU _ _ _ _ _ hW hS (lv_sub hl [1, 0] rfl) hX
set_option maxHeartbeats 4000000 in
theorem k_X12_digitsOf {p : Program} {l : Launch} {e : Env} {R : Room} {s : State} {m : MethodId} {args : Array Value} {below : List Frame} {meth : Method} {c : Code} {H : Heap} {locs : List Loc} {cells slots : Nat} {Q : State → Prop} {cc : ByteArray} {pc nL idx : Nat} {own : String} {ls : Array Slot} {rest : List Value} {G : Geo} {x y : Mem} {H0 : Heap} {p0 : Int32} {v : Int32} (hx : p.tables.exec = Jvm.exec) (hb : c.code = cc) (hml : c.maxLocals = nL) (hown : s.vm.findClass own = some m.cls) (htg : ∀ w ∈ wsG, w.before args s = true) (hK : Kt G s) (hW : Wh G x y H) (hS : va_S (gF G) H0 H locs) (h : m_X12_digitsOf p0 = some v) (hlk : Cond.methodLink own idx yX12_digitsOf ∈ wsG) (hn : ls.size = nL) (hr : (rest.map fun v => v.category).sum ≤ 8) (hR1 : 0 + 1 ≤ R.frames) (hR2 : 8 + (3 + 11) + 0 ≤ R.locals) (hf : cells ≤ R.cells ∧ slots ≤ R.slots) (hdg : decode cc pc = .ok (.invokestatic idx, 3)) (kk : ∀ (H1 : Heap) (locs1 : List Loc), Wh G x y H1 → va_S (gF G) H0 H1 locs1 → W p l e R s m args below meth c H1 locs1 cells slots Q (F0 m (pc + 3) ls (.int v :: rest))) : W p l e R s m args below meth c H locs cells slots Q (F0 m pc ls (.int p0 :: rest)) := by
  refine va_calli (va_runS (As := [.int p0]) (rest := rest) ⟨hx, hb, hml, hown, htg⟩ (c_X12_digitsOf l G x y p0 v h) (va_cwS 1 htg (gd_S hlk q577 q5 q578) rfl rfl rfl (by decide +kernel) ⟨hR1, hR2⟩) ⟨fun a U g mk q => ⟨q.1, q.2.1.calling, q.2.2⟩, fun U hU hW9 => ⟨rfl, hK.warm hW9, by rw [hU]; exact hW⟩⟩ rfl rfl hn rfl (lv_room hr) hdg hf) hS (fun _ _ h9 => h9) (fun _ h9 => h9) ?_
  intro r9 u t H1 locs1 ht hvm hw hB hz1 hk1 hS1
  replace hB : Wh G x y t.heap := hB
  rw [ht] at hB
  replace hw : r9 = v := hw
  subst hw
  exact kk H1 locs1 hB hS1
/-! METHOD X12_setOf -/
def m_X12_setOf_b20 (p0 : Int32) (k20 : Int32 → Int32 → Int32 → Option Int32) (x1 : Int32) (x2 : Int32) (x3 : Int32) : Option Int32 :=
  if x3 ≤ 0 then (some x1) else (lt_ (rem32 x3 (10 : Int32)) fun x4_9 => bd_ (m_X12_isBetween x4_9 (1 : Int32) (8 : Int32)) fun r11 => if r11 = 0 then (some (-1 : Int32)) else (if x4_9 = x2 then (some (-1 : Int32)) else (lt_ (x1 ||| (shl32 (1 : Int32) (x4_9 - (1 : Int32)))) fun x1_14 => lt_ x4_9 fun x2_15 => lt_ (x3 / (10 : Int32)) fun x3_16 => k20 x1_14 x2_15 x3_16)))
def m_X12_setOf_l20 (p0 : Int32) : Nat → Int32 → Int32 → Int32 → Option Int32
  | 0, _, _, _ => none
  | n + 1, x1, x2, x3 => m_X12_setOf_b20 p0 (m_X12_setOf_l20 p0 n) x1 x2 x3
def m_X12_setOf (p0 : Int32) : Option Int32 :=
  if p0 ≤ 0 then (some (-1 : Int32)) else (bd_ (m_X12_digitsOf p0) fun r3 => if r3 ≤ (5 : Int32) then (lt_ (0 : Int32) fun x1_5 => lt_ (-1 : Int32) fun x2_6 => lt_ p0 fun x3_7 => m_X12_setOf_l20 p0 FU x1_5 x2_6 x3_7) else (some (-1 : Int32)))
abbrev WS_X12_setOf : List Cond := .code yX12_setOf cX12_setOf 5 (some .int) :: wsG
abbrev RM_X12_setOf : Room := { frames := 1, cells := 0, slots := 0, locals := 22 }
set_option maxHeartbeats 4000000 in
set_option maxRecDepth 100000 in
theorem c_X12_setOf (l : Launch) (G : Geo) (x y : Mem) (p0 : Int32) (r : Int32) (h : m_X12_setOf p0 = some r) : Met l yX12_setOf WS_X12_setOf RM_X12_setOf (Pw G x y [.int p0]) (Qi G x y r) 0 0 (gF G) := by
  refine Met.ofW (cc := cX12_setOf) (maxL := 5) (ret := (some .int)) (by decide) rfl ?_
  intro p e s m args below meth c s₁ B hml hv
  obtain ⟨rfl, hK, hW⟩ := hv
  have hx := B.exec
  have hb := B.bytes
  have hr := B.returns
  have hts := atoms_spec (ws := WS_X12_setOf) B.pre
  have htg : ∀ w ∈ wsG, w.before _ s = true := fun w h => hts w (List.mem_cons_of_mem _ h)
  have hown : s.vm.findClass RX12 = some m.cls := findClass_of_methodNamed B.named
  have hlocks := B.notSynchronized
  have hS : va_S (gF G) s.heap s.heap [] := va_S.rf
  have hl := lv_entry ([.int p0]) (n := 5) (Nat.le_of_ble_eq_true rfl)
  rw [lg_entry_eq]
  generalize (lg_sl ([.int p0]) ++ List.replicate (5 - (lg_sl ([.int p0])).length) Slot.unset).toArray = ls at hl ⊢
  have hl : lv_has ls 5 [(0, .int p0)] := hl
  have hX := h
  unfold m_X12_setOf at hX
  have B_20 : ∀ (k20 : Int32 → Int32 → Int32 → Option Int32) (hk20 : ∀ (x1 : Int32) (x2 : Int32) (x3 : Int32) (H : Heap) (locs : List Loc) (ls : Array Slot), Wh G x y H → va_S (gF G) s.heap H locs → lv_has ls 5 [(1, .int x1), (2, .int x2), (3, .int x3)] → k20 x1 x2 x3 = some r → W p l e (headSpec WS_X12_setOf RM_X12_setOf).room s m ([.int p0] : List Value).toArray below meth c H locs 0 0 (MQ below (Qi G x y r) ([.int p0] : List Value).toArray s 0 0 (gF G)) (F0 m 20 ls [])), ∀ (x1 : Int32) (x2 : Int32) (x3 : Int32) (H : Heap) (locs : List Loc) (ls : Array Slot), Wh G x y H → va_S (gF G) s.heap H locs → lv_has ls 5 [(1, .int x1), (2, .int x2), (3, .int x3)] → m_X12_setOf_b20 p0 k20 x1 x2 x3 = some r → W p l e (headSpec WS_X12_setOf RM_X12_setOf).room s m ([.int p0] : List Value).toArray below meth c H locs 0 0 (MQ below (Qi G x y r) ([.int p0] : List Value).toArray s 0 0 (gF G)) (F0 m 20 ls []) := by
    intro k20 hk20 x1 x2 x3 H locs ls hW hS hl hX
    unfold m_X12_setOf_b20 at hX
    refine lv_iload_n hx hb dX12_setOf_20 rfl (lv_at hl 2 rfl) ?_
    refine lv_if_le (tgt := 69) hx hb dX12_setOf_21 (by decide) (fun c8 => ?_) (fun c8 => ?_)
    · have hX := it_t hX c8
      refine lv_iload_n hx hb dX12_setOf_69 rfl (lv_at hl 0 rfl) ?_
      have hX := Option.some.inj hX
      subst hX
      exact rt_i hx hb hr hlocks hW hS dX12_setOf_70
    · have hX := it_f hX c8
      refine lv_iload_n hx hb dX12_setOf_24 rfl (lv_at hl 2 rfl) ?_
      refine lv_bipush (v := (10 : Int32)) hx hb dX12_setOf_25 (by decide) ?_
      refine lv_irem_ hx hb dX12_setOf_27 (by decide) ?_
      refine lv_topi (fun x4_9 e9 => ?_)
      have hX := lt_go hX e9
      refine lv_istore (lv' := [(4, .int x4_9), (1, .int x1), (2, .int x2), (3, .int x3)]) hx hb dX12_setOf_28 hl (by decide) rfl (fun ls hl => ?_)
      refine lv_iload hx hb dX12_setOf_30 (lv_at hl 0 rfl) ?_
      refine lv_iconst (v := (1 : Int32)) hx hb dX12_setOf_32 (by decide) ?_
      refine lv_bipush (v := (8 : Int32)) hx hb dX12_setOf_33 (by decide) ?_
      obtain ⟨r11, h10, hX⟩ := bd_go hX
      refine k_X12_isBetween hx hb hml hown htg hK hW hS h10 q319 hl.1 (Nat.le_of_ble_eq_true rfl) (Nat.le_of_ble_eq_true rfl) (Nat.le_of_ble_eq_true rfl) ⟨Nat.zero_le _, Nat.zero_le _⟩ dX12_setOf_35 (fun H locs hW hS => ?_)
      refine lv_if_eq (tgt := 47) hx hb dX12_setOf_38 (by decide) (fun c12 => ?_) (fun c12 => ?_)
      · have hX := it_t hX c12
        refine lv_iconst (v := (-1 : Int32)) hx hb dX12_setOf_47 (by decide) ?_
        have hX := Option.some.inj hX
        subst hX
        exact rt_i hx hb hr hlocks hW hS dX12_setOf_48
      · have hX := it_f hX c12
        refine lv_iload hx hb dX12_setOf_41 (lv_at hl 0 rfl) ?_
        refine lv_iload_n hx hb dX12_setOf_43 rfl (lv_at hl 2 rfl) ?_
        refine lv_icmp_ne (tgt := 49) hx hb dX12_setOf_44 (by decide) (fun c13 => ?_) (fun c13 => ?_)
        · have hX := it_f hX c13
          refine lv_iload_n hx hb dX12_setOf_49 rfl (lv_at hl 1 rfl) ?_
          refine lv_iconst (v := (1 : Int32)) hx hb dX12_setOf_50 (by decide) ?_
          refine lv_iload hx hb dX12_setOf_51 (lv_at hl 0 rfl) ?_
          refine lv_iconst (v := (1 : Int32)) hx hb dX12_setOf_53 (by decide) ?_
          refine lv_isub hx hb dX12_setOf_54 ?_
          refine lv_ishl_ hx hb dX12_setOf_55 ?_
          refine lv_ior hx hb dX12_setOf_56 ?_
          refine lv_topi (fun x1_14 e9 => ?_)
          have hX := lt_go hX e9
          refine lv_istore_n (lv' := [(1, .int x1_14), (4, .int x4_9), (2, .int x2), (3, .int x3)]) hx hb dX12_setOf_57 rfl hl (by decide) rfl (fun ls hl => ?_)
          refine lv_iload hx hb dX12_setOf_58 (lv_at hl 1 rfl) ?_
          refine lv_topi (fun x2_15 e9 => ?_)
          have hX := lt_go hX e9
          refine lv_istore_n (lv' := [(2, .int x2_15), (1, .int x1_14), (4, .int x4_9), (3, .int x3)]) hx hb dX12_setOf_60 rfl hl (by decide) rfl (fun ls hl => ?_)
          refine lv_iload_n hx hb dX12_setOf_61 rfl (lv_at hl 3 rfl) ?_
          refine lv_bipush (v := (10 : Int32)) hx hb dX12_setOf_62 (by decide) ?_
          refine lv_idiv hx hb dX12_setOf_64 (by decide) ?_
          refine lv_topi (fun x3_16 e9 => ?_)
          have hX := lt_go hX e9
          refine lv_istore_n (lv' := [(3, .int x3_16), (2, .int x2_15), (1, .int x1_14), (4, .int x4_9)]) hx hb dX12_setOf_65 rfl hl (by decide) rfl (fun ls hl => ?_)
          refine lv_goto (tgt := 20) hx hb dX12_setOf_66 (by decide) ?_
          exact hk20 _ _ _ _ _ _ hW hS (lv_sub hl [2, 1, 0] rfl) hX
        · have hX := it_t hX c13
          refine lv_iconst (v := (-1 : Int32)) hx hb dX12_setOf_47 (by decide) ?_
          have hX := Option.some.inj hX
          subst hX
          exact rt_i hx hb hr hlocks hW hS dX12_setOf_48
  have L_20 : ∀ (n : Nat), ∀ (x1 : Int32) (x2 : Int32) (x3 : Int32) (H : Heap) (locs : List Loc) (ls : Array Slot), Wh G x y H → va_S (gF G) s.heap H locs → lv_has ls 5 [(1, .int x1), (2, .int x2), (3, .int x3)] → m_X12_setOf_l20 p0 n x1 x2 x3 = some r → W p l e (headSpec WS_X12_setOf RM_X12_setOf).room s m ([.int p0] : List Value).toArray below meth c H locs 0 0 (MQ below (Qi G x y r) ([.int p0] : List Value).toArray s 0 0 (gF G)) (F0 m 20 ls []) := by
    intro n
    induction n with
    | zero => intro x1 x2 x3 H locs ls hW hS hl hX; exact no_go hX
    | succ n ih => intro x1 x2 x3 H locs ls hW hS hl hX; exact B_20 _ ih _ _ _ _ _ _ hW hS hl hX
  refine lv_iload_n hx hb dX12_setOf_0 rfl (lv_at hl 0 rfl) ?_
  refine lv_if_le (tgt := 12) hx hb dX12_setOf_1 (by decide) (fun c1 => ?_) (fun c1 => ?_)
  · have hX := it_t hX c1
    refine lv_iconst (v := (-1 : Int32)) hx hb dX12_setOf_12 (by decide) ?_
    have hX := Option.some.inj hX
    subst hX
    exact rt_i hx hb hr hlocks hW hS dX12_setOf_13
  · have hX := it_f hX c1
    refine lv_iload_n hx hb dX12_setOf_4 rfl (lv_at hl 0 rfl) ?_
    obtain ⟨r3, h2, hX⟩ := bd_go hX
    refine k_X12_digitsOf hx hb hml hown htg hK hW hS h2 q576 hl.1 (Nat.le_of_ble_eq_true rfl) (Nat.le_of_ble_eq_true rfl) (Nat.le_of_ble_eq_true rfl) ⟨Nat.zero_le _, Nat.zero_le _⟩ dX12_setOf_5 (fun H locs hW hS => ?_)
    refine lv_iconst (v := (5 : Int32)) hx hb dX12_setOf_8 (by decide) ?_
    refine lv_icmp_le (tgt := 14) hx hb dX12_setOf_9 (by decide) (fun c4 => ?_) (fun c4 => ?_)
    · have hX := it_t hX c4
      refine lv_iconst (v := (0 : Int32)) hx hb dX12_setOf_14 (by decide) ?_
      refine lv_topi (fun x1_5 e9 => ?_)
      have hX := lt_go hX e9
      refine lv_istore_n (lv' := [(1, .int x1_5), (0, .int p0)]) hx hb dX12_setOf_15 rfl hl (by decide) rfl (fun ls hl => ?_)
      refine lv_iconst (v := (-1 : Int32)) hx hb dX12_setOf_16 (by decide) ?_
      refine lv_topi (fun x2_6 e9 => ?_)
      have hX := lt_go hX e9
      refine lv_istore_n (lv' := [(2, .int x2_6), (1, .int x1_5), (0, .int p0)]) hx hb dX12_setOf_17 rfl hl (by decide) rfl (fun ls hl => ?_)
      refine lv_iload_n hx hb dX12_setOf_18 rfl (lv_at hl 2 rfl) ?_
      refine lv_topi (fun x3_7 e9 => ?_)
      have hX := lt_go hX e9
      refine lv_istore_n (lv' := [(3, .int x3_7), (2, .int x2_6), (1, .int x1_5), (0, .int p0)]) hx hb dX12_setOf_19 rfl hl (by decide) rfl (fun ls hl => ?_)
      exact L_20 FU _ _ _ _ _ _ hW hS (lv_sub hl [2, 1, 0] rfl) hX
    · have hX := it_f hX c4
      refine lv_iconst (v := (-1 : Int32)) hx hb dX12_setOf_12 (by decide) ?_
      have hX := Option.some.inj hX
      subst hX
      exact rt_i hx hb hr hlocks hW hS dX12_setOf_13
set_option maxHeartbeats 4000000 in
theorem k_X12_setOf {p : Program} {l : Launch} {e : Env} {R : Room} {s : State} {m : MethodId} {args : Array Value} {below : List Frame} {meth : Method} {c : Code} {H : Heap} {locs : List Loc} {cells slots : Nat} {Q : State → Prop} {cc : ByteArray} {pc nL idx : Nat} {own : String} {ls : Array Slot} {rest : List Value} {G : Geo} {x y : Mem} {H0 : Heap} {p0 : Int32} {v : Int32} (hx : p.tables.exec = Jvm.exec) (hb : c.code = cc) (hml : c.maxLocals = nL) (hown : s.vm.findClass own = some m.cls) (htg : ∀ w ∈ wsG, w.before args s = true) (hK : Kt G s) (hW : Wh G x y H) (hS : va_S (gF G) H0 H locs) (h : m_X12_setOf p0 = some v) (hlk : Cond.methodLink own idx yX12_setOf ∈ wsG) (hn : ls.size = nL) (hr : (rest.map fun v => v.category).sum ≤ 8) (hR1 : 1 + 1 ≤ R.frames) (hR2 : 8 + (5 + 11) + 22 ≤ R.locals) (hf : cells ≤ R.cells ∧ slots ≤ R.slots) (hdg : decode cc pc = .ok (.invokestatic idx, 3)) (kk : ∀ (H1 : Heap) (locs1 : List Loc), Wh G x y H1 → va_S (gF G) H0 H1 locs1 → W p l e R s m args below meth c H1 locs1 cells slots Q (F0 m (pc + 3) ls (.int v :: rest))) : W p l e R s m args below meth c H locs cells slots Q (F0 m pc ls (.int p0 :: rest)) := by
  refine va_calli (va_runS (As := [.int p0]) (rest := rest) ⟨hx, hb, hml, hown, htg⟩ (c_X12_setOf l G x y p0 v h) (va_cwS 1 htg (gd_S hlk q574 q5 q575) rfl rfl rfl (by decide +kernel) ⟨hR1, hR2⟩) ⟨fun a U g mk q => ⟨q.1, q.2.1.calling, q.2.2⟩, fun U hU hW9 => ⟨rfl, hK.warm hW9, by rw [hU]; exact hW⟩⟩ rfl rfl hn rfl (lv_room hr) hdg hf) hS (fun _ _ h9 => h9) (fun _ h9 => h9) ?_
  intro r9 u t H1 locs1 ht hvm hw hB hz1 hk1 hS1
  replace hB : Wh G x y t.heap := hB
  rw [ht] at hB
  replace hw : r9 = v := hw
  subst hw
  exact kk H1 locs1 hB hS1
