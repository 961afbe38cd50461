/-! WORDS by their places; classes -/
theorem t0_in {w : Cond} (j : Nat) (h : (k2_sels lw_privs)[j]? = some w) (hg : goodWord w = true) : w ∈ TB := List.mem_filter.mpr ⟨List.mem_append_left _ (List.mem_of_getElem? h), hg⟩
theorem l1_in {w : Cond} (j : Nat) (h : tables_1_1[j]? = some w) : w ∈ lw_tbl := by
  have h0 := List.mem_of_getElem? h
  exact List.mem_append_right _ (List.mem_append_left _ h0)
theorem t1_in {w : Cond} (j : Nat) (h : tables_1_1[j]? = some w) (hg : goodWord w = true) : w ∈ TB := List.mem_filter.mpr ⟨l1_in j h, hg⟩
theorem l2_in {w : Cond} (j : Nat) (h : tables_1_2[j]? = some w) : w ∈ lw_tbl := by
  have h0 := List.mem_of_getElem? h
  exact List.mem_append_right _ (List.mem_append_right _ (List.mem_append_left _ h0))
theorem t2_in {w : Cond} (j : Nat) (h : tables_1_2[j]? = some w) (hg : goodWord w = true) : w ∈ TB := List.mem_filter.mpr ⟨l2_in j h, hg⟩
theorem l3_in {w : Cond} (j : Nat) (h : tables_1_3[j]? = some w) : w ∈ lw_tbl := by
  have h0 := List.mem_of_getElem? h
  exact List.mem_append_right _ (List.mem_append_right _ (List.mem_append_right _ (List.mem_append_left _ h0)))
theorem t3_in {w : Cond} (j : Nat) (h : tables_1_3[j]? = some w) (hg : goodWord w = true) : w ∈ TB := List.mem_filter.mpr ⟨l3_in j h, hg⟩
theorem l4_in {w : Cond} (j : Nat) (h : tables_1_4[j]? = some w) : w ∈ lw_tbl := by
  have h0 := List.mem_of_getElem? h
  exact List.mem_append_right _ (List.mem_append_right _ (List.mem_append_right _ (List.mem_append_right _ (List.mem_append_left _ h0))))
theorem t4_in {w : Cond} (j : Nat) (h : tables_1_4[j]? = some w) (hg : goodWord w = true) : w ∈ TB := List.mem_filter.mpr ⟨l4_in j h, hg⟩
theorem l5_in {w : Cond} (j : Nat) (h : tables_1_5[j]? = some w) : w ∈ lw_tbl := by
  have h0 := List.mem_of_getElem? h
  exact List.mem_append_right _ (List.mem_append_right _ (List.mem_append_right _ (List.mem_append_right _ (List.mem_append_right _ (List.mem_append_left _ h0)))))
theorem t5_in {w : Cond} (j : Nat) (h : tables_1_5[j]? = some w) (hg : goodWord w = true) : w ∈ TB := List.mem_filter.mpr ⟨l5_in j h, hg⟩
theorem l6_in {w : Cond} (j : Nat) (h : tables_1_6[j]? = some w) : w ∈ lw_tbl := by
  have h0 := List.mem_of_getElem? h
  exact List.mem_append_right _ (List.mem_append_right _ (List.mem_append_right _ (List.mem_append_right _ (List.mem_append_right _ (List.mem_append_right _ (List.mem_append_left _ h0))))))
theorem t6_in {w : Cond} (j : Nat) (h : tables_1_6[j]? = some w) (hg : goodWord w = true) : w ∈ TB := List.mem_filter.mpr ⟨l6_in j h, hg⟩
theorem l7_in {w : Cond} (j : Nat) (h : tables_1_7[j]? = some w) : w ∈ lw_tbl := by
  have h0 := List.mem_of_getElem? h
  exact List.mem_append_right _ (List.mem_append_right _ (List.mem_append_right _ (List.mem_append_right _ (List.mem_append_right _ (List.mem_append_right _ (List.mem_append_right _ (h0)))))))
theorem t7_in {w : Cond} (j : Nat) (h : tables_1_7[j]? = some w) (hg : goodWord w = true) : w ∈ TB := List.mem_filter.mpr ⟨l7_in j h, hg⟩
theorem fc0_w : ∀ k, k < 5 → u_lay RX0 TX0 k ∈ TB := by
  intro k hk
  match k, hk with
  | 0, _ => exact (t4_in 144 (by decide +kernel) rfl)
  | 1, _ => exact (t4_in 145 (by decide +kernel) rfl)
  | 2, _ => exact (t4_in 146 (by decide +kernel) rfl)
  | 3, _ => exact (t4_in 147 (by decide +kernel) rfl)
  | 4, _ => exact (t4_in 148 (by decide +kernel) rfl)
  | k + 5, h => omega
theorem fc0 : FcOK 0 RX0 TX0 5 := ⟨by decide, rfl, ⟨tyX0, tyX0_ok⟩, nmX0, fun w hw => by
  obtain ⟨k, hk, e⟩ := List.mem_map.mp hw
  rw [← e]
  exact fc0_w k (List.mem_range.mp hk)⟩
theorem fc1_w : ∀ k, k < 5 → u_lay RX1 TX1 k ∈ TB := by
  intro k hk
  match k, hk with
  | 0, _ => exact (t4_in 132 (by decide +kernel) rfl)
  | 1, _ => exact (t4_in 133 (by decide +kernel) rfl)
  | 2, _ => exact (t4_in 134 (by decide +kernel) rfl)
  | 3, _ => exact (t4_in 135 (by decide +kernel) rfl)
  | 4, _ => exact (t4_in 136 (by decide +kernel) rfl)
  | k + 5, h => omega
theorem fc1 : FcOK 1 RX1 TX1 5 := ⟨by decide, rfl, ⟨tyX1, tyX1_ok⟩, nmX1, fun w hw => by
  obtain ⟨k, hk, e⟩ := List.mem_map.mp hw
  rw [← e]
  exact fc1_w k (List.mem_range.mp hk)⟩
theorem fc2_w : ∀ k, k < 11 → u_lay RX2 TX2 k ∈ TB := by
  intro k hk
  match k, hk with
  | 0, _ => exact (t1_in 189 (by decide +kernel) rfl)
  | 1, _ => exact (t1_in 191 (by decide +kernel) rfl)
  | 2, _ => exact (t1_in 193 (by decide +kernel) rfl)
  | 3, _ => exact (t1_in 195 (by decide +kernel) rfl)
  | 4, _ => exact (t1_in 197 (by decide +kernel) rfl)
  | 5, _ => exact (t1_in 199 (by decide +kernel) rfl)
  | 6, _ => exact (t1_in 201 (by decide +kernel) rfl)
  | 7, _ => exact (t1_in 203 (by decide +kernel) rfl)
  | 8, _ => exact (t1_in 205 (by decide +kernel) rfl)
  | 9, _ => exact (t1_in 207 (by decide +kernel) rfl)
  | 10, _ => exact (t1_in 209 (by decide +kernel) rfl)
  | k + 11, h => omega
theorem fc2 : FcOK 2 RX2 TX2 11 := ⟨by decide, rfl, ⟨tyX2, tyX2_ok⟩, nmX2, fun w hw => by
  obtain ⟨k, hk, e⟩ := List.mem_map.mp hw
  rw [← e]
  exact fc2_w k (List.mem_range.mp hk)⟩
theorem fc3_w : ∀ k, k < 7 → u_lay RX3 TX3 k ∈ TB := by
  intro k hk
  match k, hk with
  | 0, _ => exact (t1_in 154 (by decide +kernel) rfl)
  | 1, _ => exact (t1_in 156 (by decide +kernel) rfl)
  | 2, _ => exact (t1_in 158 (by decide +kernel) rfl)
  | 3, _ => exact (t1_in 160 (by decide +kernel) rfl)
  | 4, _ => exact (t1_in 162 (by decide +kernel) rfl)
  | 5, _ => exact (t1_in 164 (by decide +kernel) rfl)
  | 6, _ => exact (t1_in 166 (by decide +kernel) rfl)
  | k + 7, h => omega
theorem fc3 : FcOK 3 RX3 TX3 7 := ⟨by decide, rfl, ⟨tyX3, tyX3_ok⟩, nmX3, fun w hw => by
  obtain ⟨k, hk, e⟩ := List.mem_map.mp hw
  rw [← e]
  exact fc3_w k (List.mem_range.mp hk)⟩
theorem fc4_w : ∀ k, k < 5 → u_lay RX4 TX4 k ∈ TB := by
  intro k hk
  match k, hk with
  | 0, _ => exact (t4_in 168 (by decide +kernel) rfl)
  | 1, _ => exact (t4_in 169 (by decide +kernel) rfl)
  | 2, _ => exact (t4_in 170 (by decide +kernel) rfl)
  | 3, _ => exact (t4_in 171 (by decide +kernel) rfl)
  | 4, _ => exact (t4_in 172 (by decide +kernel) rfl)
  | k + 5, h => omega
theorem fc4 : FcOK 4 RX4 TX4 5 := ⟨by decide, rfl, ⟨tyX4, tyX4_ok⟩, nmX4, fun w hw => by
  obtain ⟨k, hk, e⟩ := List.mem_map.mp hw
  rw [← e]
  exact fc4_w k (List.mem_range.mp hk)⟩
theorem fc5_w : ∀ k, k < 8 → u_lay RX5 TX5 k ∈ TB := by
  intro k hk
  match k, hk with
  | 0, _ => exact (t1_in 51 (by decide +kernel) rfl)
  | 1, _ => exact (t1_in 53 (by decide +kernel) rfl)
  | 2, _ => exact (t1_in 55 (by decide +kernel) rfl)
  | 3, _ => exact (t1_in 57 (by decide +kernel) rfl)
  | 4, _ => exact (t1_in 59 (by decide +kernel) rfl)
  | 5, _ => exact (t1_in 61 (by decide +kernel) rfl)
  | 6, _ => exact (t1_in 63 (by decide +kernel) rfl)
  | 7, _ => exact (t1_in 65 (by decide +kernel) rfl)
  | k + 8, h => omega
theorem fc5 : FcOK 5 RX5 TX5 8 := ⟨by decide, rfl, ⟨tyX5, tyX5_ok⟩, nmX5, fun w hw => by
  obtain ⟨k, hk, e⟩ := List.mem_map.mp hw
  rw [← e]
  exact fc5_w k (List.mem_range.mp hk)⟩
theorem fc6_w : ∀ k, k < 5 → u_lay RX6 TX6 k ∈ TB := by
  intro k hk
  match k, hk with
  | 0, _ => exact (t4_in 156 (by decide +kernel) rfl)
  | 1, _ => exact (t4_in 157 (by decide +kernel) rfl)
  | 2, _ => exact (t4_in 158 (by decide +kernel) rfl)
  | 3, _ => exact (t4_in 159 (by decide +kernel) rfl)
  | 4, _ => exact (t4_in 160 (by decide +kernel) rfl)
  | k + 5, h => omega
theorem fc6 : FcOK 6 RX6 TX6 5 := ⟨by decide, rfl, ⟨tyX6, tyX6_ok⟩, nmX6, fun w hw => by
  obtain ⟨k, hk, e⟩ := List.mem_map.mp hw
  rw [← e]
  exact fc6_w k (List.mem_range.mp hk)⟩
theorem fc7_w : ∀ k, k < 16 → u_lay RX7 TX7 k ∈ TB := by
  intro k hk
  match k, hk with
  | 0, _ => exact (t1_in 105 (by decide +kernel) rfl)
  | 1, _ => exact (t1_in 107 (by decide +kernel) rfl)
  | 2, _ => exact (t1_in 109 (by decide +kernel) rfl)
  | 3, _ => exact (t1_in 111 (by decide +kernel) rfl)
  | 4, _ => exact (t1_in 113 (by decide +kernel) rfl)
  | 5, _ => exact (t1_in 115 (by decide +kernel) rfl)
  | 6, _ => exact (t1_in 117 (by decide +kernel) rfl)
  | 7, _ => exact (t1_in 119 (by decide +kernel) rfl)
  | 8, _ => exact (t1_in 121 (by decide +kernel) rfl)
  | 9, _ => exact (t1_in 123 (by decide +kernel) rfl)
  | 10, _ => exact (t1_in 125 (by decide +kernel) rfl)
  | 11, _ => exact (t1_in 127 (by decide +kernel) rfl)
  | 12, _ => exact (t1_in 129 (by decide +kernel) rfl)
  | 13, _ => exact (t1_in 131 (by decide +kernel) rfl)
  | 14, _ => exact (t1_in 133 (by decide +kernel) rfl)
  | 15, _ => exact (t1_in 135 (by decide +kernel) rfl)
  | k + 16, h => omega
theorem fc7 : FcOK 7 RX7 TX7 16 := ⟨by decide, rfl, ⟨tyX7, tyX7_ok⟩, nmX7, fun w hw => by
  obtain ⟨k, hk, e⟩ := List.mem_map.mp hw
  rw [← e]
  exact fc7_w k (List.mem_range.mp hk)⟩
theorem fc8_w : ∀ k, k < 3 → u_lay RX8 TX8 k ∈ TB := by
  intro k hk
  match k, hk with
  | 0, _ => exact (t1_in 226 (by decide +kernel) rfl)
  | 1, _ => exact (t1_in 228 (by decide +kernel) rfl)
  | 2, _ => exact (t1_in 230 (by decide +kernel) rfl)
  | k + 3, h => omega
theorem fc8 : FcOK 8 RX8 TX8 3 := ⟨by decide, rfl, ⟨tyX8, tyX8_ok⟩, nmX8, fun w hw => by
  obtain ⟨k, hk, e⟩ := List.mem_map.mp hw
  rw [← e]
  exact fc8_w k (List.mem_range.mp hk)⟩
theorem fc9_w : ∀ k, k < 5 → u_lay RX9 TX9 k ∈ TB := by
  intro k hk
  match k, hk with
  | 0, _ => exact (t4_in 177 (by decide +kernel) rfl)
  | 1, _ => exact (t4_in 178 (by decide +kernel) rfl)
  | 2, _ => exact (t4_in 179 (by decide +kernel) rfl)
  | 3, _ => exact (t4_in 180 (by decide +kernel) rfl)
  | 4, _ => exact (t4_in 181 (by decide +kernel) rfl)
  | k + 5, h => omega
theorem fc9 : FcOK 9 RX9 TX9 5 := ⟨by decide, rfl, ⟨tyX9, tyX9_ok⟩, nmX9, fun w hw => by
  obtain ⟨k, hk, e⟩ := List.mem_map.mp hw
  rw [← e]
  exact fc9_w k (List.mem_range.mp hk)⟩
theorem fc10_w : ∀ k, k < 5 → u_lay RX10 TX10 k ∈ TB := by
  intro k hk
  match k, hk with
  | 0, _ => exact (t4_in 115 (by decide +kernel) rfl)
  | 1, _ => exact (t4_in 117 (by decide +kernel) rfl)
  | 2, _ => exact (t4_in 119 (by decide +kernel) rfl)
  | 3, _ => exact (t4_in 121 (by decide +kernel) rfl)
  | 4, _ => exact (t4_in 123 (by decide +kernel) rfl)
  | k + 5, h => omega
theorem fc10 : FcOK 10 RX10 TX10 5 := ⟨by decide, rfl, ⟨tyX10, tyX10_ok⟩, nmX10, fun w hw => by
  obtain ⟨k, hk, e⟩ := List.mem_map.mp hw
  rw [← e]
  exact fc10_w k (List.mem_range.mp hk)⟩
theorem fc11_w : ∀ k, k < 12 → u_lay RX11 TX11 k ∈ TB := by
  intro k hk
  match k, hk with
  | 0, _ => exact (t2_in 5 (by decide +kernel) rfl)
  | 1, _ => exact (t2_in 7 (by decide +kernel) rfl)
  | 2, _ => exact (t2_in 9 (by decide +kernel) rfl)
  | 3, _ => exact (t2_in 11 (by decide +kernel) rfl)
  | 4, _ => exact (t2_in 13 (by decide +kernel) rfl)
  | 5, _ => exact (t2_in 15 (by decide +kernel) rfl)
  | 6, _ => exact (t2_in 17 (by decide +kernel) rfl)
  | 7, _ => exact (t2_in 19 (by decide +kernel) rfl)
  | 8, _ => exact (t2_in 21 (by decide +kernel) rfl)
  | 9, _ => exact (t2_in 23 (by decide +kernel) rfl)
  | 10, _ => exact (t2_in 25 (by decide +kernel) rfl)
  | 11, _ => exact (t2_in 27 (by decide +kernel) rfl)
  | k + 12, h => omega
theorem fc11 : FcOK 11 RX11 TX11 12 := ⟨by decide, rfl, ⟨tyX11, tyX11_ok⟩, nmX11, fun w hw => by
  obtain ⟨k, hk, e⟩ := List.mem_map.mp hw
  rw [← e]
  exact fc11_w k (List.mem_range.mp hk)⟩
theorem fc12_w : ∀ k, k < 34 → u_lay RX12 TX12 k ∈ TB := by
  intro k hk
  match k, hk with
  | 0, _ => exact (t5_in 115 (by decide +kernel) rfl)
  | 1, _ => exact (t5_in 117 (by decide +kernel) rfl)
  | 2, _ => exact (t5_in 119 (by decide +kernel) rfl)
  | 3, _ => exact (t5_in 121 (by decide +kernel) rfl)
  | 4, _ => exact (t5_in 123 (by decide +kernel) rfl)
  | 5, _ => exact (t5_in 125 (by decide +kernel) rfl)
  | 6, _ => exact (t5_in 127 (by decide +kernel) rfl)
  | 7, _ => exact (t5_in 129 (by decide +kernel) rfl)
  | 8, _ => exact (t5_in 131 (by decide +kernel) rfl)
  | 9, _ => exact (t5_in 133 (by decide +kernel) rfl)
  | 10, _ => exact (t5_in 135 (by decide +kernel) rfl)
  | 11, _ => exact (t5_in 137 (by decide +kernel) rfl)
  | 12, _ => exact (t5_in 139 (by decide +kernel) rfl)
  | 13, _ => exact (t5_in 141 (by decide +kernel) rfl)
  | 14, _ => exact (t5_in 143 (by decide +kernel) rfl)
  | 15, _ => exact (t5_in 145 (by decide +kernel) rfl)
  | 16, _ => exact (t5_in 147 (by decide +kernel) rfl)
  | 17, _ => exact (t5_in 149 (by decide +kernel) rfl)
  | 18, _ => exact (t5_in 151 (by decide +kernel) rfl)
  | 19, _ => exact (t5_in 153 (by decide +kernel) rfl)
  | 20, _ => exact (t5_in 155 (by decide +kernel) rfl)
  | 21, _ => exact (t5_in 157 (by decide +kernel) rfl)
  | 22, _ => exact (t5_in 159 (by decide +kernel) rfl)
  | 23, _ => exact (t5_in 161 (by decide +kernel) rfl)
  | 24, _ => exact (t5_in 163 (by decide +kernel) rfl)
  | 25, _ => exact (t5_in 165 (by decide +kernel) rfl)
  | 26, _ => exact (t5_in 167 (by decide +kernel) rfl)
  | 27, _ => exact (t5_in 169 (by decide +kernel) rfl)
  | 28, _ => exact (t5_in 171 (by decide +kernel) rfl)
  | 29, _ => exact (t5_in 173 (by decide +kernel) rfl)
  | 30, _ => exact (t5_in 175 (by decide +kernel) rfl)
  | 31, _ => exact (t5_in 177 (by decide +kernel) rfl)
  | 32, _ => exact (t5_in 179 (by decide +kernel) rfl)
  | 33, _ => exact (t5_in 181 (by decide +kernel) rfl)
  | k + 34, h => omega
theorem fc12 : FcOK 12 RX12 TX12 34 := ⟨by decide, rfl, ⟨tyX12, tyX12_ok⟩, nmX12, fun w hw => by
  obtain ⟨k, hk, e⟩ := List.mem_map.mp hw
  rw [← e]
  exact fc12_w k (List.mem_range.mp hk)⟩
