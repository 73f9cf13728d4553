/-! the law from its entry -/
section LAWZ
variable {nm : String} {G : GT}
theorem law_all (hn : gn G ≤ 2560) : T G 8 2002 36115 (mLn nm) 0 (LE (mLn nm) [.retAddr 100]) [] [] (fun r _ => r = some (IV 1)) := by
  rw [show LE (mLn nm) [.retAddr 100] = [some (.retAddr 100), none, none, none] from rfl]
  refine T_new (mc := 2001) (ms := 36108) (N := 7) (ci := 10) (fs := [.null, .null, .null, .null, .null, .null, .null]) dL_law_0 clL_7 inX10 rfl rfl dfX10 ?_
  refine T_dup dL_law_3 rfl ?_
  refine T_callI (mc := 1549) (ms := 29542) dL_law_4 kX10_init rfl lL_9 (c_Wary (σ := [])) rfl rfl (Nat.le_of_ble_eq_true rfl) (Nat.le_of_ble_eq_true rfl) (by decide) (by decide) (fun r σ' q => ?_)
  obtain ⟨rfl, rfl⟩ := q
  refine T_astore_n dL_law_7 (Nat.le_of_ble_eq_true rfl) rfl ?_
  show T G 8 (1548 + 1) (29520 + 22) (mLn nm) 8 [some (.retAddr 100), some (.ref 0), none, none] [] (bWary 0) _
  refine T_new (mc := 1548) (ms := 29520) (N := 22) (ci := 11) (fs := [.null, .null, .null, .null, .null, .null, IV 0, IV 0, IV 0, IV 0, IV 0, IV 0, IV 0, IV 0, IV 0, .null, .null, .null, IV 0, .null, .null, .null]) dL_law_8 clL_10 inX11 rfl rfl dfX11 ?_
  rw [bWary_l]
  refine T_dup dL_law_11 rfl ?_
  refine T_callI (mc := 1536) (ms := 22528) dL_law_12 kX11_init rfl lL_12 c_Model rfl rfl (Nat.le_of_ble_eq_true rfl) (Nat.le_of_ble_eq_true rfl) (by decide) (by decide) (fun r σ' q => ?_)
  obtain ⟨K', S', rfl, rfl, rfl, hW, hR⟩ := q
  refine T_astore_n dL_law_15 (Nat.le_of_ble_eq_true rfl) rfl ?_
  refine I_iconst dL_law_16 ?_
  refine T_istore_n dL_law_17 (Nat.le_of_ble_eq_true rfl) rfl ?_
  have w := law_loop (nm := nm) hn 512 0 0 K0 S' M0 1 (by omega) (by omega) hW hR (by omega)
  exact T.weaken w (fun r σ' q => by
    obtain ⟨K', S', -, q⟩ := q
    exact q)
end LAWZ
