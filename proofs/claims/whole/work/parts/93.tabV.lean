/-! The table of feed, cut behind each call -/
def bX12_feedV_0 : List rm_J := [
  (.aload 0, .aload_n 0, 1, 0, 0, 0, .null, rm_M0, []),
  (.getfield 129, .getfield 129, 3, 12, 18, 1157, .null, rm_M0, []),
  (.nop, .bipush 20, 2, 0, 0, 0, .int 20, rm_M0, []),
  (.iadd, .iadd, 1, 0, 0, 0, .null, rm_M0, []),
  (.nop, .sipush 400, 3, 0, 0, 0, .int 400, rm_M0, []),
  (.if_icmp .le 5, .if_icmp .le 5, 3, 15, 0, 0, .null, rm_M0, []),
  (.nop, .iconst (-1), 1, 0, 0, 0, .int (-1), rm_M0, []),
  (.ireturn, .ireturn, 1, 0, 0, 0, .null, rm_M0, [])]
def bX12_feedV_15 : List rm_J := [
  (.aload 0, .aload_n 0, 1, 0, 0, 0, .null, rm_M0, []),
  (.iload 1, .iload_n 1, 1, 0, 0, 0, .null, rm_M0, []),
  (.invokevirtual 132, .invokevirtual 132, 3, 0, 1, 0, .null, mX12_put, [(0, 1307), (0, 1309), (0, 34)])]
def bX12_feedV_20 : List rm_J := [
  (.aload 0, .aload_n 0, 1, 0, 0, 0, .null, rm_M0, []),
  (.iload 2, .iload_n 2, 1, 0, 0, 0, .null, rm_M0, []),
  (.invokevirtual 132, .invokevirtual 132, 3, 0, 1, 0, .null, mX12_put, [(0, 1307), (0, 1309), (0, 34)])]
def bX12_feedV_25 : List rm_J := [
  (.aload 0, .aload_n 0, 1, 0, 0, 0, .null, rm_M0, []),
  (.iload 3, .iload_n 3, 1, 0, 0, 0, .null, rm_M0, []),
  (.invokevirtual 132, .invokevirtual 132, 3, 0, 1, 0, .null, mX12_put, [(0, 1307), (0, 1309), (0, 34)])]
def bX12_feedV_30 : List rm_J := [
  (.aload 0, .aload_n 0, 1, 0, 0, 0, .null, rm_M0, []),
  (.iload 4, .iload 4, 2, 0, 0, 0, .null, rm_M0, []),
  (.invokevirtual 132, .invokevirtual 132, 3, 0, 1, 0, .null, mX12_put, [(0, 1307), (0, 1309), (0, 34)])]
def bX12_feedV_36 : List rm_J := [
  (.aload 0, .aload_n 0, 1, 0, 0, 0, .null, rm_M0, []),
  (.iload 5, .iload 5, 2, 0, 0, 0, .null, rm_M0, []),
  (.invokevirtual 132, .invokevirtual 132, 3, 0, 1, 0, .null, mX12_put, [(0, 1307), (0, 1309), (0, 34)])]
def bX12_feedV_42 : List rm_J := [
  (.aload 0, .aload_n 0, 1, 0, 0, 0, .null, rm_M0, []),
  (.getfield 129, .getfield 129, 3, 12, 18, 1157, .null, rm_M0, []),
  (.ireturn, .ireturn, 1, 0, 0, 0, .null, rm_M0, [])]
def tX12_feedV : rm_P := [(0, bX12_feedV_0), (15, bX12_feedV_15), (20, bX12_feedV_20), (25, bX12_feedV_25), (30, bX12_feedV_30), (36, bX12_feedV_36), (42, bX12_feedV_42)]
theorem ok_X12_feedV_t : rm_okP mX12_feed tX12_feedV = true := by decide +kernel
theorem ok_X12_feedV : rm_okM mX12_feed tX12_feedV := ⟨ok_X12_feedV_t, List.forall_mem_cons.mpr ⟨cw_X12_put, List.forall_mem_cons.mpr ⟨cw_X12_put, List.forall_mem_cons.mpr ⟨cw_X12_put, List.forall_mem_cons.mpr ⟨cw_X12_put, List.forall_mem_cons.mpr ⟨cw_X12_put, fun _ h => absurd h List.not_mem_nil⟩⟩⟩⟩⟩⟩
theorem atX12_feedV_0 : rm_at tX12_feedV 0 = some bX12_feedV_0 := rfl
theorem atX12_feedV_15 : rm_at tX12_feedV 15 = some bX12_feedV_15 := rfl
theorem atX12_feedV_20 : rm_at tX12_feedV 20 = some bX12_feedV_20 := rfl
theorem atX12_feedV_25 : rm_at tX12_feedV 25 = some bX12_feedV_25 := rfl
theorem atX12_feedV_30 : rm_at tX12_feedV 30 = some bX12_feedV_30 := rfl
theorem atX12_feedV_36 : rm_at tX12_feedV 36 = some bX12_feedV_36 := rfl
theorem atX12_feedV_42 : rm_at tX12_feedV 42 = some bX12_feedV_42 := rfl

