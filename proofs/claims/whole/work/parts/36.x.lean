/-! Branches that are looked at only where they lead -/
theorem dc_and {c A B : Prop} : ((c → A) ∧ (¬ c → B)) = @ite Prop c (Classical.propDecidable c) A B := by
  by_cases h : c
  · rw [if_pos h]
    exact propext ⟨fun q => q.1 h, fun q => ⟨fun _ => q, fun g => absurd h g⟩⟩
  · rw [if_neg h]
    exact propext ⟨fun q => q.2 h, fun q => ⟨fun g => absurd g h, fun _ => q⟩⟩
/-- a switch, case by case -/
def rm_sw (x : Int32) (F : Nat → Prop) (a : Nat) : List (Int32 × Nat) → Prop
  | [] => F a
  | q :: r => @ite Prop (x = q.1) (Classical.propDecidable _) (F q.2) (rm_sw x F a r)
theorem sw_and {x : Int32} {F : Nat → Prop} {a : Nat} : ∀ ts : List (Int32 × Nat), (ts.map (·.1)).Nodup → (((∀ q ∈ ts, x = q.1 → F q.2) ∧ ((∀ q ∈ ts, ¬ x = q.1) → F a)) = rm_sw x F a ts)
  | [], _ => by
    unfold rm_sw
    exact propext ⟨fun q => q.2 (by simp), fun q => ⟨by simp, fun _ => q⟩⟩
  | t :: ts, hn => by
    have hn2 : (∀ y ∈ ts, ¬ y.1 = t.1) ∧ (ts.map (·.1)).Nodup := by
      rw [List.map_cons, List.nodup_cons] at hn
      exact ⟨fun y hy h => hn.1 (List.mem_map.mpr ⟨y, hy, h⟩), hn.2⟩
    have ih := sw_and ts hn2.2 (x := x) (F := F) (a := a)
    unfold rm_sw
    by_cases h : x = t.1
    · rw [if_pos h]
      refine propext ⟨fun q => q.1 t (by simp) h, fun q => ⟨fun y hy g => ?_, fun g => absurd h (g t (by simp))⟩⟩
      rcases List.mem_cons.mp hy with rfl | hy
      · exact q
      · exact absurd (g.symm.trans h) (hn2.1 y hy)
    · rw [if_neg h, ← ih]
      refine propext ⟨fun q => ⟨fun y hy => q.1 y (List.mem_cons_of_mem _ hy), fun g => q.2 (fun y hy => ?_)⟩, fun q => ⟨fun y hy g => ?_, fun g => q.2 (fun y hy => g y (List.mem_cons_of_mem _ hy))⟩⟩
      · rcases List.mem_cons.mp hy with rfl | hy
        · exact h
        · exact g y hy
      · rcases List.mem_cons.mp hy with rfl | hy
        · exact absurd g h
        · exact q.1 y hy g
section RMV
variable {M X : rm_M} {k : Nat} {Q : Option Value → rm_H → Prop} {n0 pc : Nat} {J : Nat → rm_K} {L : rm_L} {r : List Value} {H : rm_H} {c s : Nat} {len a b w : Nat} {v : Value} {ts : List (Int32 × Nat)} {i0 : Instr} {B : List rm_J} {x y : Int32} {cn : ClassFile.Cond} {off d lo hi : Int} {offs : Array Int} {ps : Array (Int × Int)}
theorem v_if : rm_w M k Q n0 J ((.ifCond cn off, i0, len, a, b, w, v, X, ts) :: B) pc L (.int x :: r) H c s = @ite Prop (rm_cond cn x 0) (Classical.propDecidable _) (J a L r H c s) (rm_w M k Q n0 J B (pc + len) L r H c s) := w_if.trans dc_and
theorem v_icmp : rm_w M k Q n0 J ((.if_icmp cn off, i0, len, a, b, w, v, X, ts) :: B) pc L (.int y :: .int x :: r) H c s = @ite Prop (rm_cond cn x y) (Classical.propDecidable _) (J a L r H c s) (rm_w M k Q n0 J B (pc + len) L r H c s) := w_icmp.trans dc_and
theorem v_table (h : (ts.map (·.1)).Nodup) : rm_w M k Q n0 J ((.tableswitch d lo hi offs, i0, len, a, b, w, v, X, ts) :: B) pc L (.int x :: r) H c s = rm_sw x (fun q => J q L r H c s) a ts := w_table.trans (sw_and (F := fun q => J q L r H c s) ts h)
theorem v_look (h : (ts.map (·.1)).Nodup) : rm_w M k Q n0 J ((.lookupswitch d ps, i0, len, a, b, w, v, X, ts) :: B) pc L (.int x :: r) H c s = rm_sw x (fun q => J q L r H c s) a ts := w_look.trans (sw_and (F := fun q => J q L r H c s) ts h)
theorem sw_0 {F : Nat → Prop} : rm_sw x F a [] = F a := rfl
theorem sw_1 {F : Nat → Prop} {q : Int32 × Nat} {r : List (Int32 × Nat)} : rm_sw x F a (q :: r) = @ite Prop (x = q.1) (Classical.propDecidable _) (F q.2) (rm_sw x F a r) := rfl
theorem u_zeqT (h : x = 0) : rm_w M k Q n0 J ((.ifCond .eq off, i0, len, a, b, w, v, X, ts) :: B) pc L (.int x :: r) H c s = J a L r H c s := w_if.trans (propext ⟨fun q => q.1 h, fun q => ⟨fun _ => q, fun g => absurd h g⟩⟩)
theorem u_zeqF (h : ¬ x = 0) : rm_w M k Q n0 J ((.ifCond .eq off, i0, len, a, b, w, v, X, ts) :: B) pc L (.int x :: r) H c s = rm_w M k Q n0 J B (pc + len) L r H c s := w_if.trans (propext ⟨fun q => q.2 h, fun q => ⟨fun g => absurd g h, fun _ => q⟩⟩)
theorem u_zneT (h : ¬ x = 0) : rm_w M k Q n0 J ((.ifCond .ne off, i0, len, a, b, w, v, X, ts) :: B) pc L (.int x :: r) H c s = J a L r H c s := w_if.trans (propext ⟨fun q => q.1 h, fun q => ⟨fun _ => q, fun g => absurd h g⟩⟩)
theorem u_zneF (h : x = 0) : rm_w M k Q n0 J ((.ifCond .ne off, i0, len, a, b, w, v, X, ts) :: B) pc L (.int x :: r) H c s = rm_w M k Q n0 J B (pc + len) L r H c s := w_if.trans (propext ⟨fun q => q.2 (fun g => g h), fun q => ⟨fun g => absurd h g, fun _ => q⟩⟩)
theorem u_zltT (h : x < 0) : rm_w M k Q n0 J ((.ifCond .lt off, i0, len, a, b, w, v, X, ts) :: B) pc L (.int x :: r) H c s = J a L r H c s := w_if.trans (propext ⟨fun q => q.1 h, fun q => ⟨fun _ => q, fun g => absurd h g⟩⟩)
theorem u_zltF (h : ¬ x < 0) : rm_w M k Q n0 J ((.ifCond .lt off, i0, len, a, b, w, v, X, ts) :: B) pc L (.int x :: r) H c s = rm_w M k Q n0 J B (pc + len) L r H c s := w_if.trans (propext ⟨fun q => q.2 h, fun q => ⟨fun g => absurd g h, fun _ => q⟩⟩)
theorem u_zgeT (h : 0 ≤ x) : rm_w M k Q n0 J ((.ifCond .ge off, i0, len, a, b, w, v, X, ts) :: B) pc L (.int x :: r) H c s = J a L r H c s := w_if.trans (propext ⟨fun q => q.1 h, fun q => ⟨fun _ => q, fun g => absurd h g⟩⟩)
theorem u_zgeF (h : ¬ 0 ≤ x) : rm_w M k Q n0 J ((.ifCond .ge off, i0, len, a, b, w, v, X, ts) :: B) pc L (.int x :: r) H c s = rm_w M k Q n0 J B (pc + len) L r H c s := w_if.trans (propext ⟨fun q => q.2 h, fun q => ⟨fun g => absurd g h, fun _ => q⟩⟩)
theorem u_zgtT (h : 0 < x) : rm_w M k Q n0 J ((.ifCond .gt off, i0, len, a, b, w, v, X, ts) :: B) pc L (.int x :: r) H c s = J a L r H c s := w_if.trans (propext ⟨fun q => q.1 h, fun q => ⟨fun _ => q, fun g => absurd h g⟩⟩)
theorem u_zgtF (h : ¬ 0 < x) : rm_w M k Q n0 J ((.ifCond .gt off, i0, len, a, b, w, v, X, ts) :: B) pc L (.int x :: r) H c s = rm_w M k Q n0 J B (pc + len) L r H c s := w_if.trans (propext ⟨fun q => q.2 h, fun q => ⟨fun g => absurd g h, fun _ => q⟩⟩)
theorem u_zleT (h : x ≤ 0) : rm_w M k Q n0 J ((.ifCond .le off, i0, len, a, b, w, v, X, ts) :: B) pc L (.int x :: r) H c s = J a L r H c s := w_if.trans (propext ⟨fun q => q.1 h, fun q => ⟨fun _ => q, fun g => absurd h g⟩⟩)
theorem u_zleF (h : ¬ x ≤ 0) : rm_w M k Q n0 J ((.ifCond .le off, i0, len, a, b, w, v, X, ts) :: B) pc L (.int x :: r) H c s = rm_w M k Q n0 J B (pc + len) L r H c s := w_if.trans (propext ⟨fun q => q.2 h, fun q => ⟨fun g => absurd g h, fun _ => q⟩⟩)
theorem u_ceqT (h : x = y) : rm_w M k Q n0 J ((.if_icmp .eq off, i0, len, a, b, w, v, X, ts) :: B) pc L (.int y :: .int x :: r) H c s = J a L r H c s := w_icmp.trans (propext ⟨fun q => q.1 h, fun q => ⟨fun _ => q, fun g => absurd h g⟩⟩)
theorem u_ceqF (h : ¬ x = y) : rm_w M k Q n0 J ((.if_icmp .eq off, i0, len, a, b, w, v, X, ts) :: B) pc L (.int y :: .int x :: r) H c s = rm_w M k Q n0 J B (pc + len) L r H c s := w_icmp.trans (propext ⟨fun q => q.2 h, fun q => ⟨fun g => absurd g h, fun _ => q⟩⟩)
theorem u_cneT (h : ¬ x = y) : rm_w M k Q n0 J ((.if_icmp .ne off, i0, len, a, b, w, v, X, ts) :: B) pc L (.int y :: .int x :: r) H c s = J a L r H c s := w_icmp.trans (propext ⟨fun q => q.1 h, fun q => ⟨fun _ => q, fun g => absurd h g⟩⟩)
theorem u_cneF (h : x = y) : rm_w M k Q n0 J ((.if_icmp .ne off, i0, len, a, b, w, v, X, ts) :: B) pc L (.int y :: .int x :: r) H c s = rm_w M k Q n0 J B (pc + len) L r H c s := w_icmp.trans (propext ⟨fun q => q.2 (fun g => g h), fun q => ⟨fun g => absurd h g, fun _ => q⟩⟩)
theorem u_cltT (h : x < y) : rm_w M k Q n0 J ((.if_icmp .lt off, i0, len, a, b, w, v, X, ts) :: B) pc L (.int y :: .int x :: r) H c s = J a L r H c s := w_icmp.trans (propext ⟨fun q => q.1 h, fun q => ⟨fun _ => q, fun g => absurd h g⟩⟩)
theorem u_cltF (h : ¬ x < y) : rm_w M k Q n0 J ((.if_icmp .lt off, i0, len, a, b, w, v, X, ts) :: B) pc L (.int y :: .int x :: r) H c s = rm_w M k Q n0 J B (pc + len) L r H c s := w_icmp.trans (propext ⟨fun q => q.2 h, fun q => ⟨fun g => absurd g h, fun _ => q⟩⟩)
theorem u_cgeT (h : y ≤ x) : rm_w M k Q n0 J ((.if_icmp .ge off, i0, len, a, b, w, v, X, ts) :: B) pc L (.int y :: .int x :: r) H c s = J a L r H c s := w_icmp.trans (propext ⟨fun q => q.1 h, fun q => ⟨fun _ => q, fun g => absurd h g⟩⟩)
theorem u_cgeF (h : ¬ y ≤ x) : rm_w M k Q n0 J ((.if_icmp .ge off, i0, len, a, b, w, v, X, ts) :: B) pc L (.int y :: .int x :: r) H c s = rm_w M k Q n0 J B (pc + len) L r H c s := w_icmp.trans (propext ⟨fun q => q.2 h, fun q => ⟨fun g => absurd g h, fun _ => q⟩⟩)
theorem u_cgtT (h : y < x) : rm_w M k Q n0 J ((.if_icmp .gt off, i0, len, a, b, w, v, X, ts) :: B) pc L (.int y :: .int x :: r) H c s = J a L r H c s := w_icmp.trans (propext ⟨fun q => q.1 h, fun q => ⟨fun _ => q, fun g => absurd h g⟩⟩)
theorem u_cgtF (h : ¬ y < x) : rm_w M k Q n0 J ((.if_icmp .gt off, i0, len, a, b, w, v, X, ts) :: B) pc L (.int y :: .int x :: r) H c s = rm_w M k Q n0 J B (pc + len) L r H c s := w_icmp.trans (propext ⟨fun q => q.2 h, fun q => ⟨fun g => absurd g h, fun _ => q⟩⟩)
theorem u_cleT (h : x ≤ y) : rm_w M k Q n0 J ((.if_icmp .le off, i0, len, a, b, w, v, X, ts) :: B) pc L (.int y :: .int x :: r) H c s = J a L r H c s := w_icmp.trans (propext ⟨fun q => q.1 h, fun q => ⟨fun _ => q, fun g => absurd h g⟩⟩)
theorem u_cleF (h : ¬ x ≤ y) : rm_w M k Q n0 J ((.if_icmp .le off, i0, len, a, b, w, v, X, ts) :: B) pc L (.int y :: .int x :: r) H c s = rm_w M k Q n0 J B (pc + len) L r H c s := w_icmp.trans (propext ⟨fun q => q.2 h, fun q => ⟨fun g => absurd g h, fun _ => q⟩⟩)
theorem sw_T {F : Nat → Prop} {q : Int32 × Nat} {r : List (Int32 × Nat)} (h : x = q.1) : rm_sw x F a (q :: r) = F q.2 := if_pos h
theorem sw_F {F : Nat → Prop} {q : Int32 × Nat} {r : List (Int32 × Nat)} (h : ¬ x = q.1) : rm_sw x F a (q :: r) = rm_sw x F a r := if_neg h
end RMV
