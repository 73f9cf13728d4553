/-! bits -/
theorem fin32 {a : Int} (h : 0 ≤ a ∧ a < 32) : ∃ n : Fin 32, a = (n.val : Int) := ⟨⟨a.toNat, by omega⟩, by show a = (a.toNat : Int); omega⟩
theorem and1 (w : BitVec 32) : Int32.ofBitVec w &&& iv 1 = iv (b2p (w.getLsbD 0 = true)) := by
  apply Int32.toBitVec_inj.mp
  show w &&& 1#32 = _
  rw [BitVec.and_one_eq_setWidth_ofBool_getLsbD]
  by_cases h : w.getLsbD 0 = true
  · rw [b2p_t h, h]; rfl
  · rw [b2p_f h, Bool.eq_false_iff.mpr h]; rfl
theorem bit_ushr {m a : Int} (h : 0 ≤ a ∧ a < 32) : ((iv m).toUInt32 >>> ((iv a).toUInt32 &&& Int32.toUInt32 31)).toInt32 &&& iv 1 = iv (b2p (bitM m a)) := by
  have e : ((iv m).toUInt32 >>> ((iv a).toUInt32 &&& Int32.toUInt32 31)).toInt32 = Int32.ofBitVec ((iv m).toBitVec >>> a.toNat) := by
    obtain ⟨n, rfl⟩ := fin32 h
    have hk : ∀ n : Fin 32, ((iv (n.val : Int)).toUInt32 &&& Int32.toUInt32 31).toBitVec % 32 = BitVec.ofNat 32 n.val := by decide
    apply Int32.toBitVec_inj.mp
    rw [UInt32.toBitVec_toInt32, UInt32.toBitVec_shiftRight, hk]
    show (iv m).toBitVec >>> (BitVec.ofNat 32 n.val).toNat = (iv m).toBitVec >>> n.val
    rw [BitVec.toNat_ofNat, Nat.mod_eq_of_lt (by omega)]
  rw [e, and1]
  apply congrArg iv
  apply b2p_c
  unfold bitM
  rw [BitVec.getLsbD_ushiftRight, Nat.add_zero]
theorem bit_shr {m a : Int} (h : 0 ≤ a ∧ a < 32) : (iv m >>> (iv a &&& 31)) &&& iv 1 = iv (b2p (bitM m a)) := by
  have e : (iv m >>> (iv a &&& 31)) = Int32.ofBitVec ((iv m).toBitVec.sshiftRight a.toNat) := by
    obtain ⟨n, rfl⟩ := fin32 h
    have hk : ∀ n : Fin 32, (iv (n.val : Int) &&& 31).toBitVec.smod 32 = BitVec.ofNat 32 n.val := by decide
    apply Int32.toBitVec_inj.mp
    rw [Int32.toBitVec_shiftRight, hk]
    show (iv m).toBitVec.sshiftRight (BitVec.ofNat 32 n.val).toNat = (iv m).toBitVec.sshiftRight n.val
    rw [BitVec.toNat_ofNat, Nat.mod_eq_of_lt (by omega)]
  rw [e, and1]
  apply congrArg iv
  apply b2p_c
  unfold bitM
  rw [BitVec.getLsbD_sshiftRight, Nat.add_zero]
  obtain ⟨n, rfl⟩ := fin32 h
  have := n.isLt
  simp
theorem shl_bit {a : Int} (h : 0 ≤ a ∧ a < 32) : ((1 : Int32) <<< (iv a &&& 31)).toBitVec = 1#32 <<< a.toNat := by
  obtain ⟨n, rfl⟩ := fin32 h
  have hk : ∀ n : Fin 32, ((1 : Int32) <<< (iv (n.val : Int) &&& 31)).toBitVec = 1#32 <<< n.val := by decide
  exact hk n
theorem bit_mark {m l a : Int} (hl : 0 ≤ l ∧ l < 32) (ha : 0 ≤ a ∧ a < 32) : bitM (markM m l) a ↔ bitM m a ∨ a = l := by
  unfold bitM markM
  rw [iv_of, Int32.toBitVec_or, BitVec.getLsbD_or, shl_bit hl, Bool.or_eq_true]
  apply or_congr Iff.rfl
  obtain ⟨n, rfl⟩ := fin32 hl
  obtain ⟨k, rfl⟩ := fin32 ha
  have hk : ∀ n k : Fin 32, ((1#32 <<< n.val).getLsbD k.val = true ↔ (k.val : Int) = (n.val : Int)) := by decide
  exact hk n k
theorem shl_pow {t : Int} (h : 0 ≤ t ∧ t ≤ 4) : iv 1 <<< (iv t &&& 31) = iv (2 ^ t.toNat) := by
  rcases (show t = 0 ∨ t = 1 ∨ t = 2 ∨ t = 3 ∨ t = 4 by omega) with rfl | rfl | rfl | rfl | rfl <;> decide
theorem mark_iv (m l : Int) : iv m ||| (iv 1 <<< (iv l &&& 31)) = iv (markM m l) := by unfold markM; rw [iv_of]; rfl
theorem mark_R (m l : Int) : R32 (markM m l) := toInt_R32 _
