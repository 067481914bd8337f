theorem sRR.next {X Y : pf_M} {k : Nat} (h : sRR X Y k) : sRR X Y (k + 1) := by
  obtain ⟨n, t, h⟩ := h
  exact ⟨n, t, h.next⟩
theorem lc_write {X Y : pf_M} {k : Nat} (G G2 : pf_G) (h : sRR X Y k) (hk : k ≤ 512) (x1 : Int32) : ∃ (r : Int32) (X2 Y2 : pf_M), pf_Met G yX11_write cX11_write 2 (some .int) 1 22 [pf_R 0 0, pf_I x1] X (some (pf_I r)) X2 ∧ pf_Met G2 yX12_write cX12_write 2 (some .int) 1 25 [pf_R 40 0, pf_I x1] Y (some (pf_I r)) Y2 ∧ sRR X2 Y2 (k + 1) := by
  obtain ⟨r, X2, Y2, a, b, hR⟩ := sc_write h x1
  exact ⟨r, X2, Y2, c_X11_write G x1 X (r, X2) a, c_X12_write G2 x1 Y (r, Y2) b, hR⟩
theorem lc_wipe {X Y : pf_M} {k : Nat} (G G2 : pf_G) (h : sRR X Y k) (hk : k ≤ 512) : ∃ (r : Int32) (X2 Y2 : pf_M), pf_Met G yX11_wipe cX11_wipe 2 (some .int) 1 20 [pf_R 0 0] X (some (pf_I r)) X2 ∧ pf_Met G2 yX12_wipe cX12_wipe 2 (some .int) 0 0 [pf_R 40 0] Y (some (pf_I r)) Y2 ∧ sRR X2 Y2 (k + 1) := by
  obtain ⟨a, hR⟩ := sc_wipe h
  exact ⟨_, _, _, c_X11_wipe G X _ rfl, by rw [a]; exact c_X12_wipe G2 Y _ rfl, hR⟩
theorem lc_fault {X Y : pf_M} {k : Nat} (G G2 : pf_G) (h : sRR X Y k) (hk : k ≤ 512) : ∃ (r : Int32) (X2 Y2 : pf_M), pf_Met G yX11_fault cX11_fault 1 (some .int) 3 71 [pf_R 0 0] X (some (pf_I r)) X2 ∧ pf_Met G2 yX12_fault cX12_fault 1 (some .int) 4 96 [pf_R 40 0] Y (some (pf_I r)) Y2 ∧ sRR X2 Y2 (k + 1) := by
  obtain ⟨r, X2, Y2, a, b, hR⟩ := sc_fault h
  exact ⟨r, X2, Y2, c_X11_fault G X (r, X2) a, c_X12_fault G2 Y (r, Y2) b, hR⟩
theorem lc_lay {X Y : pf_M} {k : Nat} (G G2 : pf_G) (h : sRR X Y k) (hk : k ≤ 512) : ∃ (r : Int32) (X2 Y2 : pf_M), pf_Met G yX11_lay cX11_lay 1 (some .int) 5 106 [pf_R 0 0] X (some (pf_I r)) X2 ∧ pf_Met G2 yX12_lay cX12_lay 1 (some .int) 4 96 [pf_R 40 0] Y (some (pf_I r)) Y2 ∧ sRR X2 Y2 (k + 1) := by
  obtain ⟨r, X2, Y2, a, b, hR⟩ := sc_lay h
  exact ⟨r, X2, Y2, c_X11_lay G X (r, X2) a, c_X12_lay G2 Y (r, Y2) b, hR⟩
theorem lc_device {X Y : pf_M} {k : Nat} (G G2 : pf_G) (h : sRR X Y k) (hk : k ≤ 512) (x1 : Int32) (x2 : Int32) : ∃ (r : Int32) (X2 Y2 : pf_M), pf_Met G yX11_device cX11_device 4 (some .int) 2 42 [pf_R 0 0, pf_I x1, pf_I x2] X (some (pf_I r)) X2 ∧ pf_Met G2 yX12_device cX12_device 3 (some .int) 2 46 [pf_R 40 0, pf_I x1, pf_I x2] Y (some (pf_I r)) Y2 ∧ sRR X2 Y2 (k + 1) := by
  obtain ⟨r, a, b⟩ := sc_device h x1 x2
  exact ⟨r, X, Y, c_X11_device G x1 x2 X r a, c_X12_device G2 x1 x2 Y r b, h.next⟩
theorem lc_memory {X Y : pf_M} {k : Nat} (G G2 : pf_G) (h : sRR X Y k) (hk : k ≤ 512) (x1 : Int32) (x2 : Int32) : ∃ (r : Int32) (X2 Y2 : pf_M), pf_Met G yX11_memory cX11_memory 4 (some .int) 4 86 [pf_R 0 0, pf_I x1, pf_I x2] X (some (pf_I r)) X2 ∧ pf_Met G2 yX12_memory cX12_memory 3 (some .int) 3 74 [pf_R 40 0, pf_I x1, pf_I x2] Y (some (pf_I r)) Y2 ∧ sRR X2 Y2 (k + 1) := by
  obtain ⟨r, X2, a, b, hR⟩ := sc_memory h hk x1 x2
  exact ⟨r, X2, Y, c_X11_memory G x1 x2 X (r, X2) a, c_X12_memory G2 x1 x2 Y r b, hR⟩
theorem lc_own {X Y : pf_M} {k : Nat} (G G2 : pf_G) (h : sRR X Y k) (hk : k ≤ 512) (x1 : Int32) (x2 : Int32) (x3 : Int32) : ∃ (r : Int32) (X2 Y2 : pf_M), pf_Met G yX11_own cX11_own 6 (some .int) 2 42 [pf_R 0 0, pf_I x1, pf_I x2, pf_I x3] X (some (pf_I r)) X2 ∧ pf_Met G2 yX12_own cX12_own 5 (some .int) 2 46 [pf_R 40 0, pf_I x1, pf_I x2, pf_I x3] Y (some (pf_I r)) Y2 ∧ sRR X2 Y2 (k + 1) := by
  obtain ⟨r, X2, Y2, a, b, hR⟩ := sc_own h x1 x2 x3
  exact ⟨r, X2, Y2, c_X11_own G x1 x2 x3 X (r, X2) a, c_X12_own G2 x1 x2 x3 Y (r, Y2) b, hR⟩
theorem lc_cut {X Y : pf_M} {k : Nat} (G G2 : pf_G) (h : sRR X Y k) (hk : k ≤ 512) (x1 : Int32) (x2 : Int32) : ∃ (r : Int32) (X2 Y2 : pf_M), pf_Met G yX11_cut cX11_cut 3 (some .int) 1 22 [pf_R 0 0, pf_I x1, pf_I x2] X (some (pf_I r)) X2 ∧ pf_Met G2 yX12_cut cX12_cut 3 (some .int) 1 25 [pf_R 40 0, pf_I x1, pf_I x2] Y (some (pf_I r)) Y2 ∧ sRR X2 Y2 (k + 1) := by
  obtain ⟨r, X2, Y2, a, b, hR⟩ := sc_cut h x1 x2
  exact ⟨r, X2, Y2, c_X11_cut G x1 x2 X (r, X2) a, c_X12_cut G2 x1 x2 Y (r, Y2) b, hR⟩
theorem lc_lose {X Y : pf_M} {k : Nat} (G G2 : pf_G) (h : sRR X Y k) (hk : k ≤ 512) (x1 : Int32) : ∃ (r : Int32) (X2 Y2 : pf_M), pf_Met G yX11_lose cX11_lose 2 (some .int) 1 22 [pf_R 0 0, pf_I x1] X (some (pf_I r)) X2 ∧ pf_Met G2 yX12_lose cX12_lose 3 (some .int) 1 25 [pf_R 40 0, pf_I x1] Y (some (pf_I r)) Y2 ∧ sRR X2 Y2 (k + 1) := by
  obtain ⟨a, hR⟩ := sc_lose h x1
  exact ⟨_, _, _, c_X11_lose G x1 X _ rfl, by rw [a]; exact c_X12_lose G2 x1 Y _ rfl, hR⟩
theorem lc_state {X Y : pf_M} {k : Nat} (G G2 : pf_G) (h : sRR X Y k) (hk : k ≤ 512) (x1 : Int32) (x2 : Int32) : ∃ (r : Int32) (X2 Y2 : pf_M), pf_Met G yX11_state cX11_state 5 (some .int) 3 61 [pf_R 0 0, pf_I x1, pf_I x2] X (some (pf_I r)) X2 ∧ pf_Met G2 yX12_state cX12_state 4 (some .int) 2 46 [pf_R 40 0, pf_I x1, pf_I x2] Y (some (pf_I r)) Y2 ∧ sRR X2 Y2 (k + 1) := by
  obtain ⟨r, X2, Y2, a, b, hR⟩ := sc_state h x1 x2
  exact ⟨r, X2, Y2, c_X11_state G x1 x2 X (r, X2) a, c_X12_state G2 x1 x2 Y (r, Y2) b, hR⟩
theorem lc_map {X Y : pf_M} {k : Nat} (G G2 : pf_G) (h : sRR X Y k) (hk : k ≤ 512) (x1 : Int32) (x2 : Int32) (x3 : Int32) (x4 : Int32) (x5 : Int32) : ∃ (r : Int32) (X2 Y2 : pf_M), pf_Met G yX11_map cX11_map 9 (some .int) 3 67 [pf_R 0 0, pf_I x1, pf_I x2, pf_I x3, pf_I x4, pf_I x5] X (some (pf_I r)) X2 ∧ pf_Met G2 yX12_map cX12_map 9 (some .int) 2 46 [pf_R 40 0, pf_I x1, pf_I x2, pf_I x3, pf_I x4, pf_I x5] Y (some (pf_I r)) Y2 ∧ sRR X2 Y2 (k + 1) := by
  obtain ⟨r, X2, Y2, a, b, hR⟩ := sc_map h x1 x2 x3 x4 x5
  exact ⟨r, X2, Y2, c_X11_map G x1 x2 x3 x4 x5 X (r, X2) a, c_X12_map G2 x1 x2 x3 x4 x5 Y (r, Y2) b, hR⟩
theorem lc_unmap {X Y : pf_M} {k : Nat} (G G2 : pf_G) (h : sRR X Y k) (hk : k ≤ 512) (x1 : Int32) (x2 : Int32) : ∃ (r : Int32) (X2 Y2 : pf_M), pf_Met G yX11_unmap cX11_unmap 4 (some .int) 2 45 [pf_R 0 0, pf_I x1, pf_I x2] X (some (pf_I r)) X2 ∧ pf_Met G2 yX12_unmap cX12_unmap 3 (some .int) 2 46 [pf_R 40 0, pf_I x1, pf_I x2] Y (some (pf_I r)) Y2 ∧ sRR X2 Y2 (k + 1) := by
  obtain ⟨r, X2, Y2, a, b, hR⟩ := sc_unmap h x1 x2
  exact ⟨r, X2, Y2, c_X11_unmap G x1 x2 X (r, X2) a, c_X12_unmap G2 x1 x2 Y (r, Y2) b, hR⟩
theorem lc_mapped {X Y : pf_M} {k : Nat} (G G2 : pf_G) (h : sRR X Y k) (hk : k ≤ 512) (x1 : Int32) (x2 : Int32) (x3 : Int32) : ∃ (r : Int32) (X2 Y2 : pf_M), pf_Met G yX11_mapped cX11_mapped 5 (some .int) 2 45 [pf_R 0 0, pf_I x1, pf_I x2, pf_I x3] X (some (pf_I r)) X2 ∧ pf_Met G2 yX12_mapped cX12_mapped 5 (some .int) 2 46 [pf_R 40 0, pf_I x1, pf_I x2, pf_I x3] Y (some (pf_I r)) Y2 ∧ sRR X2 Y2 (k + 1) := by
  obtain ⟨r, a, b⟩ := sc_mapped h x1 x2 x3
  exact ⟨r, X, Y, c_X11_mapped G x1 x2 x3 X r a, c_X12_mapped G2 x1 x2 x3 Y r b, h.next⟩
theorem lc_gram {X Y : pf_M} {k : Nat} (G G2 : pf_G) (h : sRR X Y k) (hk : k ≤ 512) (x1 : Int32) (x2 : Int32) (x3 : Int32) (x4 : Int32) (x5 : Int32) : ∃ (r : Int32) (X2 Y2 : pf_M), pf_Met G yX11_gram cX11_gram 8 (some .int) 2 44 [pf_R 0 0, pf_I x1, pf_I x2, pf_I x3, pf_I x4, pf_I x5] X (some (pf_I r)) X2 ∧ pf_Met G2 yX12_gram cX12_gram 7 (some .int) 2 49 [pf_R 40 0, pf_I x1, pf_I x2, pf_I x3, pf_I x4, pf_I x5] Y (some (pf_I r)) Y2 ∧ sRR X2 Y2 (k + 1) := by
  obtain ⟨r, X2, Y2, a, b, hR⟩ := sc_gram h x1 x2 x3 x4 x5
  exact ⟨r, X2, Y2, c_X11_gram G x1 x2 x3 x4 x5 X (r, X2) a, c_X12_gram G2 x1 x2 x3 x4 x5 Y (r, Y2) b, hR⟩
theorem lc_clear {X Y : pf_M} {k : Nat} (G G2 : pf_G) (h : sRR X Y k) (hk : k ≤ 512) (x1 : Int32) : ∃ (r : Int32) (X2 Y2 : pf_M), pf_Met G yX11_clear cX11_clear 4 (some .int) 1 21 [pf_R 0 0, pf_I x1] X (some (pf_I r)) X2 ∧ pf_Met G2 yX12_clear cX12_clear 3 (some .int) 1 25 [pf_R 40 0, pf_I x1] Y (some (pf_I r)) Y2 ∧ sRR X2 Y2 (k + 1) := by
  obtain ⟨r, X2, Y2, a, b, hR⟩ := sc_clear h x1
  exact ⟨r, X2, Y2, c_X11_clear G x1 X (r, X2) a, c_X12_clear G2 x1 Y (r, Y2) b, hR⟩
theorem lc_put {X Y : pf_M} {k : Nat} (G G2 : pf_G) (h : sRR X Y k) (hk : k ≤ 512) (x1 : Int32) (x2 : Int32) (x3 : Int32) : ∃ (r : Int32) (X2 Y2 : pf_M), pf_Met G yX11_put cX11_put 6 (some .int) 2 42 [pf_R 0 0, pf_I x1, pf_I x2, pf_I x3] X (some (pf_I r)) X2 ∧ pf_Met G2 yX12_put cX12_put 5 (some .int) 1 25 [pf_R 40 0, pf_I x1, pf_I x2, pf_I x3] Y (some (pf_I r)) Y2 ∧ sRR X2 Y2 (k + 1) := by
  obtain ⟨r, X2, Y2, a, b, hR⟩ := sc_put h x1 x2 x3
  exact ⟨r, X2, Y2, c_X11_put G x1 x2 x3 X (r, X2) a, c_X12_put G2 x1 x2 x3 Y (r, Y2) b, hR⟩
theorem lc_send {X Y : pf_M} {k : Nat} (G G2 : pf_G) (h : sRR X Y k) (hk : k ≤ 512) : ∃ (r : Int32) (X2 Y2 : pf_M), pf_Met G yX11_send cX11_send 1 (some .int) 6 140 [pf_R 0 0] X (some (pf_I r)) X2 ∧ pf_Met G2 yX12_send cX12_send 4 (some .int) 6 155 [pf_R 40 0] Y (some (pf_I r)) Y2 ∧ sRR X2 Y2 (k + 1) := by
  obtain ⟨r, X2, Y2, a, b, hR⟩ := sc_send h hk
  exact ⟨r, X2, Y2, c_X11_send G X (r, X2) a, c_X12_send G2 Y (r, Y2) b, hR⟩
theorem lc_home {X Y : pf_M} {k : Nat} (G G2 : pf_G) (h : sRR X Y k) (hk : k ≤ 512) (x1 : Int32) (x2 : Int32) : ∃ (r : Int32) (X2 Y2 : pf_M), pf_Met G yX11_home cX11_home 4 (some .int) 1 22 [pf_R 0 0, pf_I x1, pf_I x2] X (some (pf_I r)) X2 ∧ pf_Met G2 yX12_home cX12_home 3 (some .int) 1 25 [pf_R 40 0, pf_I x1, pf_I x2] Y (some (pf_I r)) Y2 ∧ sRR X2 Y2 (k + 1) := by
  obtain ⟨r, a, b⟩ := sc_home h x1 x2
  exact ⟨r, X, Y, c_X11_home G x1 x2 X r a, c_X12_home G2 x1 x2 Y r b, h.next⟩
theorem lc_expected {X Y : pf_M} {k : Nat} (G G2 : pf_G) (h : sRR X Y k) (hk : k ≤ 512) (x1 : Int32) : ∃ (r : Int32) (X2 Y2 : pf_M), pf_Met G yX11_expected cX11_expected 3 (some .int) 3 65 [pf_R 0 0, pf_I x1] X (some (pf_I r)) X2 ∧ pf_Met G2 yX12_expected cX12_expected 3 (some .int) 1 25 [pf_R 40 0, pf_I x1] Y (some (pf_I r)) Y2 ∧ sRR X2 Y2 (k + 1) := by
  obtain ⟨r, a, b⟩ := sc_expected h x1
  exact ⟨r, X, Y, c_X11_expected G x1 X r a, c_X12_expected G2 x1 Y r b, h.next⟩
theorem lc_tell {X Y : pf_M} {k : Nat} (G G2 : pf_G) (h : sRR X Y k) (hk : k ≤ 512) (x1 : Int32) (x2 : Int32) : ∃ (r : Int32) (X2 Y2 : pf_M), pf_Met G yX11_tell cX11_tell 4 (some .int) 2 42 [pf_R 0 0, pf_I x1, pf_I x2] X (some (pf_I r)) X2 ∧ pf_Met G2 yX12_tell cX12_tell 4 (some .int) 2 46 [pf_R 40 0, pf_I x1, pf_I x2] Y (some (pf_I r)) Y2 ∧ sRR X2 Y2 (k + 1) := by
  obtain ⟨r, X2, Y2, a, b, hR⟩ := sc_tell h x1 x2
  exact ⟨r, X2, Y2, c_X11_tell G x1 x2 X (r, X2) a, c_X12_tell G2 x1 x2 Y (r, Y2) b, hR⟩
theorem lc_take {X Y : pf_M} {k : Nat} (G G2 : pf_G) (h : sRR X Y k) (hk : k ≤ 512) (x1 : Int32) : ∃ (r : Int32) (X2 Y2 : pf_M), pf_Met G yX11_take cX11_take 4 (some .int) 1 22 [pf_R 0 0, pf_I x1] X (some (pf_I r)) X2 ∧ pf_Met G2 yX12_take cX12_take 2 (some .int) 2 46 [pf_R 40 0, pf_I x1] Y (some (pf_I r)) Y2 ∧ sRR X2 Y2 (k + 1) := by
  obtain ⟨r, X2, Y2, a, b, hR⟩ := sc_take h x1
  exact ⟨r, X2, Y2, c_X11_take G x1 X (r, X2) a, c_X12_take G2 x1 Y (r, Y2) b, hR⟩
theorem lc_fetch {X Y : pf_M} {k : Nat} (G G2 : pf_G) (h : sRR X Y k) (hk : k ≤ 512) (x1 : Int32) : ∃ (r : Int32) (X2 Y2 : pf_M), pf_Met G yX11_fetch cX11_fetch 4 (some .int) 4 87 [pf_R 0 0, pf_I x1] X (some (pf_I r)) X2 ∧ pf_Met G2 yX12_fetch cX12_fetch 4 (some .int) 3 63 [pf_R 40 0, pf_I x1] Y (some (pf_I r)) Y2 ∧ sRR X2 Y2 (k + 1) := by
  obtain ⟨r, X2, Y2, a, b, hR⟩ := sc_fetch h x1
  exact ⟨r, X2, Y2, c_X11_fetch G x1 X (r, X2) a, c_X12_fetch G2 x1 Y (r, Y2) b, hR⟩
theorem lc_push {X Y : pf_M} {k : Nat} (G G2 : pf_G) (h : sRR X Y k) (hk : k ≤ 512) (x1 : Int32) (x2 : Int32) : ∃ (r : Int32) (X2 Y2 : pf_M), pf_Met G yX11_push cX11_push 4 (some .int) 5 110 [pf_R 0 0, pf_I x1, pf_I x2] X (some (pf_I r)) X2 ∧ pf_Met G2 yX12_push cX12_push 4 (some .int) 3 69 [pf_R 40 0, pf_I x1, pf_I x2] Y (some (pf_I r)) Y2 ∧ sRR X2 Y2 (k + 1) := by
  obtain ⟨r, X2, Y2, a, b, hR⟩ := sc_push h x1 x2
  exact ⟨r, X2, Y2, c_X11_push G x1 x2 X (r, X2) a, c_X12_push G2 x1 x2 Y (r, Y2) b, hR⟩
theorem lc_again {X Y : pf_M} {k : Nat} (G G2 : pf_G) (h : sRR X Y k) (hk : k ≤ 512) (x1 : Int32) : ∃ (r : Int32) (X2 Y2 : pf_M), pf_Met G yX11_again cX11_again 3 (some .int) 5 110 [pf_R 0 0, pf_I x1] X (some (pf_I r)) X2 ∧ pf_Met G2 yX12_again cX12_again 2 (some .int) 3 69 [pf_R 40 0, pf_I x1] Y (some (pf_I r)) Y2 ∧ sRR X2 Y2 (k + 1) := by
  obtain ⟨r, X2, Y2, a, b, hR⟩ := sc_again h x1
  exact ⟨r, X2, Y2, c_X11_again G x1 X (r, X2) a, c_X12_again G2 x1 Y (r, Y2) b, hR⟩
theorem lc_box {X Y : pf_M} {k : Nat} (G G2 : pf_G) (h : sRR X Y k) (hk : k ≤ 512) (x1 : Int32) (x2 : Int32) : ∃ (r : Int32) (X2 Y2 : pf_M), pf_Met G yX11_box cX11_box 4 (some .int) 2 41 [pf_R 0 0, pf_I x1, pf_I x2] X (some (pf_I r)) X2 ∧ pf_Met G2 yX12_box cX12_box 3 (some .int) 2 46 [pf_R 40 0, pf_I x1, pf_I x2] Y (some (pf_I r)) Y2 ∧ sRR X2 Y2 (k + 1) := by
  obtain ⟨r, a, b⟩ := sc_box h x1 x2
  exact ⟨r, X, Y, c_X11_box G x1 x2 X r a, c_X12_box G2 x1 x2 Y r b, h.next⟩
theorem lc_later {X Y : pf_M} {k : Nat} (G G2 : pf_G) (h : sRR X Y k) (hk : k ≤ 512) (x1 : Int32) : ∃ (r : Int32) (X2 Y2 : pf_M), pf_Met G yX11_later cX11_later 2 (some .int) 1 22 [pf_R 0 0, pf_I x1] X (some (pf_I r)) X2 ∧ pf_Met G2 yX12_later cX12_later 2 (some .int) 1 25 [pf_R 40 0, pf_I x1] Y (some (pf_I r)) Y2 ∧ sRR X2 Y2 (k + 1) := by
  obtain ⟨a, hR⟩ := sc_later h x1
  exact ⟨_, _, _, c_X11_later G x1 X _ rfl, by rw [a]; exact c_X12_later G2 x1 Y _ rfl, hR⟩
theorem lc_level {X Y : pf_M} {k : Nat} (G G2 : pf_G) (h : sRR X Y k) (hk : k ≤ 512) : ∃ (r : Int32) (X2 Y2 : pf_M), pf_Met G yX11_level cX11_level 1 (some .int) 5 111 [pf_R 0 0] X (some (pf_I r)) X2 ∧ pf_Met G2 yX12_level cX12_level 5 (some .int) 2 47 [pf_R 40 0] Y (some (pf_I r)) Y2 ∧ sRR X2 Y2 (k + 1) := by
  obtain ⟨r, X2, Y2, a, b, hR⟩ := sc_level h hk
  exact ⟨r, X2, Y2, c_X11_level G X (r, X2) a, c_X12_level G2 Y (r, Y2) b, hR⟩
theorem lc_steer {X Y : pf_M} {k : Nat} (G G2 : pf_G) (h : sRR X Y k) (hk : k ≤ 512) (x1 : Int32) : ∃ (r : Int32) (X2 Y2 : pf_M), pf_Met G yX11_steer cX11_steer 2 (some .int) 4 94 [pf_R 0 0, pf_I x1] X (some (pf_I r)) X2 ∧ pf_Met G2 yX12_steer cX12_steer 14 (some .int) 2 48 [pf_R 40 0, pf_I x1] Y (some (pf_I r)) Y2 ∧ sRR X2 Y2 (k + 1) := by
  obtain ⟨r, X2, Y2, a, b, hR⟩ := sc_steer h hk x1
  exact ⟨r, X2, Y2, c_X11_steer G x1 X (r, X2) a, c_X12_steer G2 x1 Y (r, Y2) b, hR⟩
theorem lc_clock {X Y : pf_M} {k : Nat} (G G2 : pf_G) (h : sRR X Y k) (hk : k ≤ 512) (x1 : Int32) (x2 : Int32) : ∃ (r : Int32) (X2 Y2 : pf_M), pf_Met G yX11_clock cX11_clock 4 (some .int) 3 64 [pf_R 0 0, pf_I x1, pf_I x2] X (some (pf_I r)) X2 ∧ pf_Met G2 yX12_clock cX12_clock 3 (some .int) 2 48 [pf_R 40 0, pf_I x1, pf_I x2] Y (some (pf_I r)) Y2 ∧ sRR X2 Y2 (k + 1) := by
  obtain ⟨r, a, b⟩ := sc_clock h hk x1 x2
  exact ⟨r, X, Y, c_X11_clock G x1 x2 X r a, c_X12_clock G2 x1 x2 Y r b, h.next⟩
theorem lc_apart {X Y : pf_M} {k : Nat} (G G2 : pf_G) (h : sRR X Y k) (hk : k ≤ 512) : ∃ (r : Int32) (X2 Y2 : pf_M), pf_Met G yX11_apart cX11_apart 1 (some .int) 4 88 [pf_R 0 0] X (some (pf_I r)) X2 ∧ pf_Met G2 yX12_apart cX12_apart 8 (some .int) 2 48 [pf_R 40 0] Y (some (pf_I r)) Y2 ∧ sRR X2 Y2 (k + 1) := by
  obtain ⟨r, a, b⟩ := sc_apart h hk
  exact ⟨r, X, Y, c_X11_apart G X r a, c_X12_apart G2 Y r b, h.next⟩
theorem lc_count {X Y : pf_M} {k : Nat} (G G2 : pf_G) (h : sRR X Y k) (hk : k ≤ 512) (x1 : Int32) : ∃ (r : Int32) (X2 Y2 : pf_M), pf_Met G yX11_count cX11_count 2 (some .int) 3 67 [pf_R 0 0, pf_I x1] X (some (pf_I r)) X2 ∧ pf_Met G2 yX12_count cX12_count 2 (some .int) 2 46 [pf_R 40 0, pf_I x1] Y (some (pf_I r)) Y2 ∧ sRR X2 Y2 (k + 1) := by
  obtain ⟨r, a, b⟩ := sc_count h x1
  exact ⟨r, X, Y, c_X11_count G x1 X r a, c_X12_count G2 x1 Y r b, h.next⟩
