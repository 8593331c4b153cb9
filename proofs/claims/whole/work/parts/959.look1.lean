/-! THE CLASS's look, walked: it answers, or throws -/
abbrev cX11_look : ByteArray := prog_1_method_5_code
def yX11_look : MethodName := ⟨RX11, "look", "(II)I"⟩
theorem dX11_look_0 : decode cX11_look 0 = .ok (.iload_n 1, 1) := by decide +kernel
theorem dX11_look_1 : decode cX11_look 1 = .ok (.ifCond .lt 14, 3) := by decide +kernel
theorem dX11_look_4 : decode cX11_look 4 = .ok (.iload_n 1, 1) := by decide +kernel
theorem dX11_look_5 : decode cX11_look 5 = .ok (.aload_n 0, 1) := by decide +kernel
theorem dX11_look_6 : decode cX11_look 6 = .ok (.getfield 20, 3) := by decide +kernel
theorem dX11_look_9 : decode cX11_look 9 = .ok (.getfield 105, 3) := by decide +kernel
theorem dX11_look_12 : decode cX11_look 12 = .ok (.if_icmp .lt 13, 3) := by decide +kernel
theorem dX11_look_15 : decode cX11_look 15 = .ok (.new 108, 3) := by decide +kernel
theorem dX11_look_18 : decode cX11_look 18 = .ok (.dup, 1) := by decide +kernel
theorem dX11_look_19 : decode cX11_look 19 = .ok (.ldc 110, 2) := by decide +kernel
theorem dX11_look_21 : decode cX11_look 21 = .ok (.invokespecial 112, 3) := by decide +kernel
theorem dX11_look_24 : decode cX11_look 24 = .ok (.athrow, 1) := by decide +kernel
theorem dX11_look_25 : decode cX11_look 25 = .ok (.iload_n 2, 1) := by decide +kernel
theorem dX11_look_26 : decode cX11_look 26 = .ok (.ifCond .lt 9, 3) := by decide +kernel
theorem dX11_look_29 : decode cX11_look 29 = .ok (.iload_n 2, 1) := by decide +kernel
theorem dX11_look_30 : decode cX11_look 30 = .ok (.bipush 7, 2) := by decide +kernel
theorem dX11_look_32 : decode cX11_look 32 = .ok (.if_icmp .lt 13, 3) := by decide +kernel
theorem dX11_look_35 : decode cX11_look 35 = .ok (.new 115, 3) := by decide +kernel
theorem dX11_look_38 : decode cX11_look 38 = .ok (.dup, 1) := by decide +kernel
theorem dX11_look_39 : decode cX11_look 39 = .ok (.ldc 117, 2) := by decide +kernel
theorem dX11_look_41 : decode cX11_look 41 = .ok (.invokespecial 119, 3) := by decide +kernel
theorem dX11_look_44 : decode cX11_look 44 = .ok (.athrow, 1) := by decide +kernel
theorem dX11_look_45 : decode cX11_look 45 = .ok (.aload_n 0, 1) := by decide +kernel
theorem dX11_look_46 : decode cX11_look 46 = .ok (.getfield 20, 3) := by decide +kernel
theorem dX11_look_49 : decode cX11_look 49 = .ok (.iload_n 1, 1) := by decide +kernel
theorem dX11_look_50 : decode cX11_look 50 = .ok (.iload_n 2, 1) := by decide +kernel
theorem dX11_look_51 : decode cX11_look 51 = .ok (.invokevirtual 120, 3) := by decide +kernel
theorem dX11_look_54 : decode cX11_look 54 = .ok (.ireturn, 1) := by decide +kernel
/-- what the two throws stand on -/
def XW (z : Nat) (U : State) (H : Heap) : Prop := vx_Zq Bundle.tN "UNASSIGNED_STACK" Bundle.steD (AAz z) U H ∧ vx_Zq Bundle.tN "SUPPRESSED_SENTINEL" Bundle.listD (AAz z) U H ∧ (∃ q : Nat, vk_R RX11 110 "no such road" q U) ∧ (∃ q : Nat, vk_R RX11 117 "no such fact of a road" q U) ∧ (∀ w ∈ lkB, va_Nw w U)
theorem vaNw_alike {w : Cond} (hw : w ∈ lkB) {s U : State} (hW : s.WarmedH U.vm) (h : va_Nw w s) : va_Nw w U := by
  simp only [lkB, List.mem_cons, List.not_mem_nil, or_false] at hw
  rcases hw with rfl | rfl | rfl | rfl | rfl
  · exact va_Nw.warmC hW h
  · exact va_Nw.warmC hW h
  · exact va_Nw.warmD hW h
  · exact va_Nw.warmD hW h
  · exact va_Nw.warmD hW h
theorem XW.moved {z : Nat} {U V : State} {H H1 : Heap} (h : XW z U H) (hW : U.WarmedH V.vm) (hq : ∀ a : Nat, a < H.size → ¬ AAz z a → H1[a]? = H[a]?) : XW z V H1 := by
  obtain ⟨h1, h2, ⟨q1, h3⟩, ⟨q2, h4⟩, h5⟩ := h
  exact ⟨vx_Zq.moved hW.alike (h1.kept hq), vx_Zq.moved hW.alike (h2.kept hq), ⟨q1, vk_R.warm hW h3⟩, ⟨q2, vk_R.warm hW h4⟩, fun w hw => vaNw_alike hw hW (h5 w hw)⟩
/-- the cells of the world are as they were -/
def RelX (z t u : Nat) (D : va_G) (I : aI) (s : aS) (H : Heap) : Prop := z + (szS s).toNat ≤ H.size ∧ (∀ a : Nat, (a : Int) < szS s → kD_ s.2.2.1 a ≠ 99 → va_at D vwCl (z + a, en z t u I s a) H)
set_option maxRecDepth 20000 in
theorem RelX.of {z t u : Nat} {D : va_G} {I : aI} {s : aS} {H H1 : Heap} (h : Rel z t u D I s H) (h1 : H.size ≤ H1.size) (h2 : ∀ q : Nat, q < H.size → H1[q]? = H[q]?) : RelX z t u D I s H1 := by
  have e := h.2.1
  exact ⟨by omega, fun a a1 a2 => (h.2.2.1 a a1 a2).kept (h2 _ (h.2.2.1 a a1 a2).lt)⟩
