/-! of each method: its words, and that its blocks are its code: written by a program -/
def rkf (r : Option FieldType) : Nat := match r with
  | none => 0
  | some .int => 1
  | some .boolean => 2
  | some _ => 3
def okE (cn kd rk : Nat) (q : Ent) : Bool := match q with
  | (.getfield ix, len, x, y, _) => len == 3 && fldT.contains (cn, ix, x, y)
  | (.putfield ix, len, x, y, z) => len == 3 && fldT.contains (cn, ix, x, y) && ftyT.contains (x, y, z) && (decide (z < 2) || (kd == 2 && cnciT.contains (cn, x)))
  | (.invokestatic ix, len, x, y, _) => len == 3 && callT.contains (cn, ix, x, 0) && m_kd x == 0 && m_na x == y && decide (x < mtN - 1)
  | (.invokevirtual ix, len, x, y, z) => len == 3 && callT.contains (cn, ix, x, 0) && m_kd x == 1 && m_na x == y && cnciT.contains (m_cn x, z) && decide (x < mtN - 1)
  | (.invokespecial ix, len, x, y, z) => len == 3 && ((x == 9999 && oiT.contains (cn, ix)) || x == 7777 || (callT.contains (cn, ix, x, z) && m_kd x == 2 && m_na x == y && decide (x < mtN - 1)))
  | (.new ix, len, x, _, _) => len == 3 && (if x < 9 then newT.contains (cn, ix, x) else true)
  | (.multianewarray ix n, len, _) => len == 4 && n == 2 && mnaT.contains (cn, ix)
  | (.anewarray ix, len, _) => len == 3 && anaT.contains (cn, ix)
  | (.ireturn, len, x, _, _) => len == 1 && ((rk == 1 && x == 0) || (rk == 2 && x == 1))
  | (.areturn, len, _) => len == 1 && rk == 3
  | (.return_, len, _) => len == 1 && rk == 0
  | (.iload _, len, _) | (.aload _, len, _) | (.istore _, len, _) | (.astore _, len, _) | (.bipush _, len, _) | (.newarray _, len, _) => len == 2
  | (.iinc _ _, len, _) | (.sipush _, len, _) | (.if_icmp _ _, len, _) | (.ifCond _ _, len, _) | (.goto _, len, _) => len == 3
  | (.tableswitch _ _ _ _, _, _) => true
  | (.ldc _, _, _) | (.ldc_w _, _, _) => true
  | (_, len, _) => len == 1
def okB (cc : ByteArray) (cn kd rk : Nat) : Nat → List Ent → Bool
  | _, [] => true
  | pc, q :: is => decide (decode cc pc = .ok (q.1, q.2.1)) && okE cn kd rk q && okB cc cn kd rk (pc + q.2.1) is
def m_cw (k : Nat) : Cond := match m_hh k with
  | [] => .code (m_y k) (m_b k) (m_L k) (m_ret k)
  | hh => .codeWith (m_y k) (m_b k) (m_L k) (m_ret k) hh
def blP (k : Nat) : Prop := ∀ q ∈ m_bl k, okB (m_b k) (m_cn k) (m_kd k) (rkf (m_ret k)) q.1 q.2 = true
def mP (k : Nat) : Prop := (plainName (m_y k).cls = true ∧ (m_y k).cls = cnm (m_cn k) ∧ ((m_y k).cls ≠ "java/lang/invoke/MethodHandle" ∧ (m_y k).cls ≠ "java/lang/invoke/VarHandle") ∧ (parseMethodDescriptor (m_y k).desc).map (fun d => d.parameters.length) = some (m_na k)) ∧ (m_cw k ∈ lwg ∧ Cond.initialized (m_y k).cls ∈ lwg) ∧
  (m_kd k = 0 → Cond.static (m_y k) ∈ lwg) ∧ (m_kd k = 1 → Cond.instanceMethod (m_y k) ∈ lwg ∧ Cond.selects (m_y k).cls (m_y k) (m_y k) ∈ lwg) ∧ (m_kd k = 2 → Cond.instanceMethod (m_y k) ∈ lwg ∧ (m_y k).name = "<init>" ∧ m_ret k = none) ∧ (m_L k ≤ 19 ∧ (m_hh k ≠ [] → m_kd k = 0)) ∧ blP k
theorem bl_0 : blP 0 := by unfold blP; decide +kernel
theorem mp_0 : mP 0 := ⟨⟨by decide +kernel, by decide +kernel, by decide +kernel, by decide +kernel⟩, ⟨lwi 172 (by decide +kernel) (by decide +kernel), lwi 25 (by decide +kernel) (by decide +kernel)⟩, fun h => absurd h (by decide), fun h => absurd h (by decide), fun _ => ⟨lwi 171 (by decide +kernel) (by decide +kernel), rfl, rfl⟩, ⟨by decide, by decide +kernel⟩, bl_0⟩
theorem bl_1 : blP 1 := by unfold blP; decide +kernel
theorem mp_1 : mP 1 := ⟨⟨by decide +kernel, by decide +kernel, by decide +kernel, by decide +kernel⟩, ⟨lwi 672 (by decide +kernel) (by decide +kernel), lwi 25 (by decide +kernel) (by decide +kernel)⟩, fun h => absurd h (by decide), fun _ => ⟨lwi 670 (by decide +kernel) (by decide +kernel), lwi 671 (by decide +kernel) (by decide +kernel)⟩, fun h => absurd h (by decide), ⟨by decide, by decide +kernel⟩, bl_1⟩
theorem bl_2 : blP 2 := by unfold blP; decide +kernel
theorem mp_2 : mP 2 := ⟨⟨by decide +kernel, by decide +kernel, by decide +kernel, by decide +kernel⟩, ⟨lwi 726 (by decide +kernel) (by decide +kernel), lwi 25 (by decide +kernel) (by decide +kernel)⟩, fun h => absurd h (by decide), fun _ => ⟨lwi 724 (by decide +kernel) (by decide +kernel), lwi 725 (by decide +kernel) (by decide +kernel)⟩, fun h => absurd h (by decide), ⟨by decide, by decide +kernel⟩, bl_2⟩
theorem bl_3 : blP 3 := by unfold blP; decide +kernel
theorem mp_3 : mP 3 := ⟨⟨by decide +kernel, by decide +kernel, by decide +kernel, by decide +kernel⟩, ⟨lwi 740 (by decide +kernel) (by decide +kernel), lwi 25 (by decide +kernel) (by decide +kernel)⟩, fun h => absurd h (by decide), fun _ => ⟨lwi 738 (by decide +kernel) (by decide +kernel), lwi 739 (by decide +kernel) (by decide +kernel)⟩, fun h => absurd h (by decide), ⟨by decide, by decide +kernel⟩, bl_3⟩
theorem bl_4 : blP 4 := by unfold blP; decide +kernel
theorem mp_4 : mP 4 := ⟨⟨by decide +kernel, by decide +kernel, by decide +kernel, by decide +kernel⟩, ⟨lwi 730 (by decide +kernel) (by decide +kernel), lwi 25 (by decide +kernel) (by decide +kernel)⟩, fun _ => lwi 729 (by decide +kernel) (by decide +kernel), fun h => absurd h (by decide), fun h => absurd h (by decide), ⟨by decide, by decide +kernel⟩, bl_4⟩
theorem bl_5 : blP 5 := by unfold blP; decide +kernel
theorem mp_5 : mP 5 := ⟨⟨by decide +kernel, by decide +kernel, by decide +kernel, by decide +kernel⟩, ⟨lwi 769 (by decide +kernel) (by decide +kernel), lwi 25 (by decide +kernel) (by decide +kernel)⟩, fun h => absurd h (by decide), fun _ => ⟨lwi 767 (by decide +kernel) (by decide +kernel), lwi 768 (by decide +kernel) (by decide +kernel)⟩, fun h => absurd h (by decide), ⟨by decide, by decide +kernel⟩, bl_5⟩
theorem bl_6 : blP 6 := by unfold blP; decide +kernel
theorem mp_6 : mP 6 := ⟨⟨by decide +kernel, by decide +kernel, by decide +kernel, by decide +kernel⟩, ⟨lwi 117 (by decide +kernel) (by decide +kernel), lwi 23 (by decide +kernel) (by decide +kernel)⟩, fun h => absurd h (by decide), fun h => absurd h (by decide), fun _ => ⟨lwi 116 (by decide +kernel) (by decide +kernel), rfl, rfl⟩, ⟨by decide, by decide +kernel⟩, bl_6⟩
theorem bl_7 : blP 7 := by unfold blP; decide +kernel
theorem mp_7 : mP 7 := ⟨⟨by decide +kernel, by decide +kernel, by decide +kernel, by decide +kernel⟩, ⟨lwi 493 (by decide +kernel) (by decide +kernel), lwi 23 (by decide +kernel) (by decide +kernel)⟩, fun h => absurd h (by decide), fun _ => ⟨lwi 491 (by decide +kernel) (by decide +kernel), lwi 492 (by decide +kernel) (by decide +kernel)⟩, fun h => absurd h (by decide), ⟨by decide, by decide +kernel⟩, bl_7⟩
theorem bl_8 : blP 8 := by unfold blP; decide +kernel
theorem mp_8 : mP 8 := ⟨⟨by decide +kernel, by decide +kernel, by decide +kernel, by decide +kernel⟩, ⟨lwi 506 (by decide +kernel) (by decide +kernel), lwi 23 (by decide +kernel) (by decide +kernel)⟩, fun h => absurd h (by decide), fun _ => ⟨lwi 504 (by decide +kernel) (by decide +kernel), lwi 505 (by decide +kernel) (by decide +kernel)⟩, fun h => absurd h (by decide), ⟨by decide, by decide +kernel⟩, bl_8⟩
theorem bl_9 : blP 9 := by unfold blP; decide +kernel
theorem mp_9 : mP 9 := ⟨⟨by decide +kernel, by decide +kernel, by decide +kernel, by decide +kernel⟩, ⟨lwi 529 (by decide +kernel) (by decide +kernel), lwi 23 (by decide +kernel) (by decide +kernel)⟩, fun h => absurd h (by decide), fun _ => ⟨lwi 527 (by decide +kernel) (by decide +kernel), lwi 528 (by decide +kernel) (by decide +kernel)⟩, fun h => absurd h (by decide), ⟨by decide, by decide +kernel⟩, bl_9⟩
theorem bl_10 : blP 10 := by unfold blP; decide +kernel
theorem mp_10 : mP 10 := ⟨⟨by decide +kernel, by decide +kernel, by decide +kernel, by decide +kernel⟩, ⟨lwi 510 (by decide +kernel) (by decide +kernel), lwi 23 (by decide +kernel) (by decide +kernel)⟩, fun h => absurd h (by decide), fun _ => ⟨lwi 509 (by decide +kernel) (by decide +kernel), lwi 6 (by decide +kernel) (by decide +kernel)⟩, fun h => absurd h (by decide), ⟨by decide, by decide +kernel⟩, bl_10⟩
theorem bl_11 : blP 11 := by unfold blP; decide +kernel
theorem mp_11 : mP 11 := ⟨⟨by decide +kernel, by decide +kernel, by decide +kernel, by decide +kernel⟩, ⟨lwi 514 (by decide +kernel) (by decide +kernel), lwi 23 (by decide +kernel) (by decide +kernel)⟩, fun h => absurd h (by decide), fun _ => ⟨lwi 513 (by decide +kernel) (by decide +kernel), lwi 7 (by decide +kernel) (by decide +kernel)⟩, fun h => absurd h (by decide), ⟨by decide, by decide +kernel⟩, bl_11⟩
theorem bl_12 : blP 12 := by unfold blP; decide +kernel
theorem mp_12 : mP 12 := ⟨⟨by decide +kernel, by decide +kernel, by decide +kernel, by decide +kernel⟩, ⟨lwi 518 (by decide +kernel) (by decide +kernel), lwi 23 (by decide +kernel) (by decide +kernel)⟩, fun h => absurd h (by decide), fun _ => ⟨lwi 517 (by decide +kernel) (by decide +kernel), lwi 8 (by decide +kernel) (by decide +kernel)⟩, fun h => absurd h (by decide), ⟨by decide, by decide +kernel⟩, bl_12⟩
theorem bl_13 : blP 13 := by unfold blP; decide +kernel
theorem mp_13 : mP 13 := ⟨⟨by decide +kernel, by decide +kernel, by decide +kernel, by decide +kernel⟩, ⟨lwi 524 (by decide +kernel) (by decide +kernel), lwi 23 (by decide +kernel) (by decide +kernel)⟩, fun h => absurd h (by decide), fun _ => ⟨lwi 523 (by decide +kernel) (by decide +kernel), lwi 9 (by decide +kernel) (by decide +kernel)⟩, fun h => absurd h (by decide), ⟨by decide, by decide +kernel⟩, bl_13⟩
theorem bl_14 : blP 14 := by unfold blP; decide +kernel
theorem mp_14 : mP 14 := ⟨⟨by decide +kernel, by decide +kernel, by decide +kernel, by decide +kernel⟩, ⟨lwi 401 (by decide +kernel) (by decide +kernel), lwi 33 (by decide +kernel) (by decide +kernel)⟩, fun _ => lwi 400 (by decide +kernel) (by decide +kernel), fun h => absurd h (by decide), fun h => absurd h (by decide), ⟨by decide, by decide +kernel⟩, bl_14⟩
theorem bl_15 : blP 15 := by unfold blP; decide +kernel
theorem mp_15 : mP 15 := ⟨⟨by decide +kernel, by decide +kernel, by decide +kernel, by decide +kernel⟩, ⟨lwi 428 (by decide +kernel) (by decide +kernel), lwi 33 (by decide +kernel) (by decide +kernel)⟩, fun _ => lwi 427 (by decide +kernel) (by decide +kernel), fun h => absurd h (by decide), fun h => absurd h (by decide), ⟨by decide, by decide +kernel⟩, bl_15⟩
theorem bl_16 : blP 16 := by unfold blP; decide +kernel
theorem mp_16 : mP 16 := ⟨⟨by decide +kernel, by decide +kernel, by decide +kernel, by decide +kernel⟩, ⟨lwi 445 (by decide +kernel) (by decide +kernel), lwi 33 (by decide +kernel) (by decide +kernel)⟩, fun _ => lwi 444 (by decide +kernel) (by decide +kernel), fun h => absurd h (by decide), fun h => absurd h (by decide), ⟨by decide, by decide +kernel⟩, bl_16⟩
theorem bl_17 : blP 17 := by unfold blP; decide +kernel
theorem mp_17 : mP 17 := ⟨⟨by decide +kernel, by decide +kernel, by decide +kernel, by decide +kernel⟩, ⟨lwi 421 (by decide +kernel) (by decide +kernel), lwi 33 (by decide +kernel) (by decide +kernel)⟩, fun _ => lwi 420 (by decide +kernel) (by decide +kernel), fun h => absurd h (by decide), fun h => absurd h (by decide), ⟨by decide, by decide +kernel⟩, bl_17⟩
theorem bl_18 : blP 18 := by unfold blP; decide +kernel
theorem mp_18 : mP 18 := ⟨⟨by decide +kernel, by decide +kernel, by decide +kernel, by decide +kernel⟩, ⟨lwi 442 (by decide +kernel) (by decide +kernel), lwi 33 (by decide +kernel) (by decide +kernel)⟩, fun _ => lwi 441 (by decide +kernel) (by decide +kernel), fun h => absurd h (by decide), fun h => absurd h (by decide), ⟨by decide, by decide +kernel⟩, bl_18⟩
theorem bl_19 : blP 19 := by unfold blP; decide +kernel
theorem mp_19 : mP 19 := ⟨⟨by decide +kernel, by decide +kernel, by decide +kernel, by decide +kernel⟩, ⟨lwi 111 (by decide +kernel) (by decide +kernel), lwi 22 (by decide +kernel) (by decide +kernel)⟩, fun h => absurd h (by decide), fun h => absurd h (by decide), fun _ => ⟨lwi 110 (by decide +kernel) (by decide +kernel), rfl, rfl⟩, ⟨by decide, by decide +kernel⟩, bl_19⟩
theorem bl_20 : blP 20 := by unfold blP; decide +kernel
theorem mp_20 : mP 20 := ⟨⟨by decide +kernel, by decide +kernel, by decide +kernel, by decide +kernel⟩, ⟨lwi 486 (by decide +kernel) (by decide +kernel), lwi 22 (by decide +kernel) (by decide +kernel)⟩, fun h => absurd h (by decide), fun _ => ⟨lwi 484 (by decide +kernel) (by decide +kernel), lwi 485 (by decide +kernel) (by decide +kernel)⟩, fun h => absurd h (by decide), ⟨by decide, by decide +kernel⟩, bl_20⟩
theorem bl_21 : blP 21 := by unfold blP; decide +kernel
theorem mp_21 : mP 21 := ⟨⟨by decide +kernel, by decide +kernel, by decide +kernel, by decide +kernel⟩, ⟨lwi 482 (by decide +kernel) (by decide +kernel), lwi 22 (by decide +kernel) (by decide +kernel)⟩, fun h => absurd h (by decide), fun _ => ⟨lwi 480 (by decide +kernel) (by decide +kernel), lwi 481 (by decide +kernel) (by decide +kernel)⟩, fun h => absurd h (by decide), ⟨by decide, by decide +kernel⟩, bl_21⟩
theorem bl_22 : blP 22 := by unfold blP; decide +kernel
theorem mp_22 : mP 22 := ⟨⟨by decide +kernel, by decide +kernel, by decide +kernel, by decide +kernel⟩, ⟨lwi 600 (by decide +kernel) (by decide +kernel), lwi 22 (by decide +kernel) (by decide +kernel)⟩, fun h => absurd h (by decide), fun _ => ⟨lwi 598 (by decide +kernel) (by decide +kernel), lwi 599 (by decide +kernel) (by decide +kernel)⟩, fun h => absurd h (by decide), ⟨by decide, by decide +kernel⟩, bl_22⟩
theorem bl_23 : blP 23 := by unfold blP; decide +kernel
theorem mp_23 : mP 23 := ⟨⟨by decide +kernel, by decide +kernel, by decide +kernel, by decide +kernel⟩, ⟨lwi 604 (by decide +kernel) (by decide +kernel), lwi 22 (by decide +kernel) (by decide +kernel)⟩, fun h => absurd h (by decide), fun _ => ⟨lwi 603 (by decide +kernel) (by decide +kernel), lwi 11 (by decide +kernel) (by decide +kernel)⟩, fun h => absurd h (by decide), ⟨by decide, by decide +kernel⟩, bl_23⟩
theorem bl_24 : blP 24 := by unfold blP; decide +kernel
theorem mp_24 : mP 24 := ⟨⟨by decide +kernel, by decide +kernel, by decide +kernel, by decide +kernel⟩, ⟨lwi 69 (by decide +kernel) (by decide +kernel), lwi 21 (by decide +kernel) (by decide +kernel)⟩, fun h => absurd h (by decide), fun h => absurd h (by decide), fun _ => ⟨lwi 68 (by decide +kernel) (by decide +kernel), rfl, rfl⟩, ⟨by decide, by decide +kernel⟩, bl_24⟩
theorem bl_25 : blP 25 := by unfold blP; decide +kernel
theorem mp_25 : mP 25 := ⟨⟨by decide +kernel, by decide +kernel, by decide +kernel, by decide +kernel⟩, ⟨lwi 398 (by decide +kernel) (by decide +kernel), lwi 21 (by decide +kernel) (by decide +kernel)⟩, fun h => absurd h (by decide), fun _ => ⟨lwi 396 (by decide +kernel) (by decide +kernel), lwi 397 (by decide +kernel) (by decide +kernel)⟩, fun h => absurd h (by decide), ⟨by decide, by decide +kernel⟩, bl_25⟩
theorem bl_26 : blP 26 := by unfold blP; decide +kernel
theorem mp_26 : mP 26 := ⟨⟨by decide +kernel, by decide +kernel, by decide +kernel, by decide +kernel⟩, ⟨lwi 405 (by decide +kernel) (by decide +kernel), lwi 21 (by decide +kernel) (by decide +kernel)⟩, fun h => absurd h (by decide), fun _ => ⟨lwi 403 (by decide +kernel) (by decide +kernel), lwi 404 (by decide +kernel) (by decide +kernel)⟩, fun h => absurd h (by decide), ⟨by decide, by decide +kernel⟩, bl_26⟩
theorem bl_27 : blP 27 := by unfold blP; decide +kernel
theorem mp_27 : mP 27 := ⟨⟨by decide +kernel, by decide +kernel, by decide +kernel, by decide +kernel⟩, ⟨lwi 414 (by decide +kernel) (by decide +kernel), lwi 21 (by decide +kernel) (by decide +kernel)⟩, fun h => absurd h (by decide), fun _ => ⟨lwi 412 (by decide +kernel) (by decide +kernel), lwi 413 (by decide +kernel) (by decide +kernel)⟩, fun h => absurd h (by decide), ⟨by decide, by decide +kernel⟩, bl_27⟩
theorem bl_28 : blP 28 := by unfold blP; decide +kernel
theorem mp_28 : mP 28 := ⟨⟨by decide +kernel, by decide +kernel, by decide +kernel, by decide +kernel⟩, ⟨lwi 425 (by decide +kernel) (by decide +kernel), lwi 21 (by decide +kernel) (by decide +kernel)⟩, fun h => absurd h (by decide), fun _ => ⟨lwi 423 (by decide +kernel) (by decide +kernel), lwi 424 (by decide +kernel) (by decide +kernel)⟩, fun h => absurd h (by decide), ⟨by decide, by decide +kernel⟩, bl_28⟩
theorem bl_29 : blP 29 := by unfold blP; decide +kernel
theorem mp_29 : mP 29 := ⟨⟨by decide +kernel, by decide +kernel, by decide +kernel, by decide +kernel⟩, ⟨lwi 418 (by decide +kernel) (by decide +kernel), lwi 21 (by decide +kernel) (by decide +kernel)⟩, fun h => absurd h (by decide), fun _ => ⟨lwi 417 (by decide +kernel) (by decide +kernel), lwi 3 (by decide +kernel) (by decide +kernel)⟩, fun h => absurd h (by decide), ⟨by decide, by decide +kernel⟩, bl_29⟩
theorem bl_30 : blP 30 := by unfold blP; decide +kernel
theorem mp_30 : mP 30 := ⟨⟨by decide +kernel, by decide +kernel, by decide +kernel, by decide +kernel⟩, ⟨lwi 439 (by decide +kernel) (by decide +kernel), lwi 21 (by decide +kernel) (by decide +kernel)⟩, fun h => absurd h (by decide), fun _ => ⟨lwi 437 (by decide +kernel) (by decide +kernel), lwi 438 (by decide +kernel) (by decide +kernel)⟩, fun h => absurd h (by decide), ⟨by decide, by decide +kernel⟩, bl_30⟩
theorem bl_31 : blP 31 := by unfold blP; decide +kernel
theorem mp_31 : mP 31 := ⟨⟨by decide +kernel, by decide +kernel, by decide +kernel, by decide +kernel⟩, ⟨lwi 539 (by decide +kernel) (by decide +kernel), lwi 21 (by decide +kernel) (by decide +kernel)⟩, fun h => absurd h (by decide), fun _ => ⟨lwi 537 (by decide +kernel) (by decide +kernel), lwi 538 (by decide +kernel) (by decide +kernel)⟩, fun h => absurd h (by decide), ⟨by decide, by decide +kernel⟩, bl_31⟩
theorem bl_32 : blP 32 := by unfold blP; decide +kernel
theorem mp_32 : mP 32 := ⟨⟨by decide +kernel, by decide +kernel, by decide +kernel, by decide +kernel⟩, ⟨lwi 557 (by decide +kernel) (by decide +kernel), lwi 21 (by decide +kernel) (by decide +kernel)⟩, fun h => absurd h (by decide), fun _ => ⟨lwi 555 (by decide +kernel) (by decide +kernel), lwi 556 (by decide +kernel) (by decide +kernel)⟩, fun h => absurd h (by decide), ⟨by decide, by decide +kernel⟩, bl_32⟩
theorem bl_33 : blP 33 := by unfold blP; decide +kernel
theorem mp_33 : mP 33 := ⟨⟨by decide +kernel, by decide +kernel, by decide +kernel, by decide +kernel⟩, ⟨lwi 552 (by decide +kernel) (by decide +kernel), lwi 21 (by decide +kernel) (by decide +kernel)⟩, fun h => absurd h (by decide), fun _ => ⟨lwi 550 (by decide +kernel) (by decide +kernel), lwi 551 (by decide +kernel) (by decide +kernel)⟩, fun h => absurd h (by decide), ⟨by decide, by decide +kernel⟩, bl_33⟩
theorem bl_34 : blP 34 := by unfold blP; decide +kernel
theorem mp_34 : mP 34 := ⟨⟨by decide +kernel, by decide +kernel, by decide +kernel, by decide +kernel⟩, ⟨lwi 141 (by decide +kernel) (by decide +kernel), lwi 24 (by decide +kernel) (by decide +kernel)⟩, fun h => absurd h (by decide), fun h => absurd h (by decide), fun _ => ⟨lwi 140 (by decide +kernel) (by decide +kernel), rfl, rfl⟩, ⟨by decide, by decide +kernel⟩, bl_34⟩
theorem bl_35 : blP 35 := by unfold blP; decide +kernel
theorem mp_35 : mP 35 := ⟨⟨by decide +kernel, by decide +kernel, by decide +kernel, by decide +kernel⟩, ⟨lwi 570 (by decide +kernel) (by decide +kernel), lwi 24 (by decide +kernel) (by decide +kernel)⟩, fun h => absurd h (by decide), fun _ => ⟨lwi 568 (by decide +kernel) (by decide +kernel), lwi 569 (by decide +kernel) (by decide +kernel)⟩, fun h => absurd h (by decide), ⟨by decide, by decide +kernel⟩, bl_35⟩
theorem bl_36 : blP 36 := by unfold blP; decide +kernel
theorem mp_36 : mP 36 := ⟨⟨by decide +kernel, by decide +kernel, by decide +kernel, by decide +kernel⟩, ⟨lwi 582 (by decide +kernel) (by decide +kernel), lwi 24 (by decide +kernel) (by decide +kernel)⟩, fun _ => lwi 581 (by decide +kernel) (by decide +kernel), fun h => absurd h (by decide), fun h => absurd h (by decide), ⟨by decide, by decide +kernel⟩, bl_36⟩
theorem bl_37 : blP 37 := by unfold blP; decide +kernel
theorem mp_37 : mP 37 := ⟨⟨by decide +kernel, by decide +kernel, by decide +kernel, by decide +kernel⟩, ⟨lwi 588 (by decide +kernel) (by decide +kernel), lwi 24 (by decide +kernel) (by decide +kernel)⟩, fun _ => lwi 587 (by decide +kernel) (by decide +kernel), fun h => absurd h (by decide), fun h => absurd h (by decide), ⟨by decide, by decide +kernel⟩, bl_37⟩
theorem bl_38 : blP 38 := by unfold blP; decide +kernel
theorem mp_38 : mP 38 := ⟨⟨by decide +kernel, by decide +kernel, by decide +kernel, by decide +kernel⟩, ⟨lwi 752 (by decide +kernel) (by decide +kernel), lwi 24 (by decide +kernel) (by decide +kernel)⟩, fun h => absurd h (by decide), fun _ => ⟨lwi 750 (by decide +kernel) (by decide +kernel), lwi 751 (by decide +kernel) (by decide +kernel)⟩, fun h => absurd h (by decide), ⟨by decide, by decide +kernel⟩, bl_38⟩
theorem bl_39 : blP 39 := by unfold blP; decide +kernel
theorem mp_39 : mP 39 := ⟨⟨by decide +kernel, by decide +kernel, by decide +kernel, by decide +kernel⟩, ⟨lwi 760 (by decide +kernel) (by decide +kernel), lwi 24 (by decide +kernel) (by decide +kernel)⟩, fun h => absurd h (by decide), fun _ => ⟨lwi 759 (by decide +kernel) (by decide +kernel), lwi 17 (by decide +kernel) (by decide +kernel)⟩, fun h => absurd h (by decide), ⟨by decide, by decide +kernel⟩, bl_39⟩
theorem bl_40 : blP 40 := by unfold blP; decide +kernel
theorem mp_40 : mP 40 := ⟨⟨by decide +kernel, by decide +kernel, by decide +kernel, by decide +kernel⟩, ⟨lwi 756 (by decide +kernel) (by decide +kernel), lwi 24 (by decide +kernel) (by decide +kernel)⟩, fun _ => lwi 755 (by decide +kernel) (by decide +kernel), fun h => absurd h (by decide), fun h => absurd h (by decide), ⟨by decide, by decide +kernel⟩, bl_40⟩
theorem bl_41 : blP 41 := by unfold blP; decide +kernel
theorem mp_41 : mP 41 := ⟨⟨by decide +kernel, by decide +kernel, by decide +kernel, by decide +kernel⟩, ⟨lwi 500 (by decide +kernel) (by decide +kernel), lwi 34 (by decide +kernel) (by decide +kernel)⟩, fun _ => lwi 499 (by decide +kernel) (by decide +kernel), fun h => absurd h (by decide), fun h => absurd h (by decide), ⟨by decide, by decide +kernel⟩, bl_41⟩
theorem bl_42 : blP 42 := by unfold blP; decide +kernel
theorem mp_42 : mP 42 := ⟨⟨by decide +kernel, by decide +kernel, by decide +kernel, by decide +kernel⟩, ⟨lwi 497 (by decide +kernel) (by decide +kernel), lwi 34 (by decide +kernel) (by decide +kernel)⟩, fun _ => lwi 496 (by decide +kernel) (by decide +kernel), fun h => absurd h (by decide), fun h => absurd h (by decide), ⟨by decide, by decide +kernel⟩, bl_42⟩
theorem bl_43 : blP 43 := by unfold blP; decide +kernel
theorem mp_43 : mP 43 := ⟨⟨by decide +kernel, by decide +kernel, by decide +kernel, by decide +kernel⟩, ⟨lwi 532 (by decide +kernel) (by decide +kernel), lwi 34 (by decide +kernel) (by decide +kernel)⟩, fun _ => lwi 531 (by decide +kernel) (by decide +kernel), fun h => absurd h (by decide), fun h => absurd h (by decide), ⟨by decide, by decide +kernel⟩, bl_43⟩
theorem bl_44 : blP 44 := by unfold blP; decide +kernel
theorem mp_44 : mP 44 := ⟨⟨by decide +kernel, by decide +kernel, by decide +kernel, by decide +kernel⟩, ⟨lwi 578 (by decide +kernel) (by decide +kernel), lwi 34 (by decide +kernel) (by decide +kernel)⟩, fun _ => lwi 577 (by decide +kernel) (by decide +kernel), fun h => absurd h (by decide), fun h => absurd h (by decide), ⟨by decide, by decide +kernel⟩, bl_44⟩
theorem bl_45 : blP 45 := by unfold blP; decide +kernel
theorem mp_45 : mP 45 := ⟨⟨by decide +kernel, by decide +kernel, by decide +kernel, by decide +kernel⟩, ⟨lwi 489 (by decide +kernel) (by decide +kernel), lwi 34 (by decide +kernel) (by decide +kernel)⟩, fun _ => lwi 488 (by decide +kernel) (by decide +kernel), fun h => absurd h (by decide), fun h => absurd h (by decide), ⟨by decide, by decide +kernel⟩, bl_45⟩
theorem bl_46 : blP 46 := by unfold blP; decide +kernel
theorem mp_46 : mP 46 := ⟨⟨by decide +kernel, by decide +kernel, by decide +kernel, by decide +kernel⟩, ⟨lwi 573 (by decide +kernel) (by decide +kernel), lwi 34 (by decide +kernel) (by decide +kernel)⟩, fun _ => lwi 572 (by decide +kernel) (by decide +kernel), fun h => absurd h (by decide), fun h => absurd h (by decide), ⟨by decide, by decide +kernel⟩, bl_46⟩
theorem bl_47 : blP 47 := by unfold blP; decide +kernel
theorem mp_47 : mP 47 := ⟨⟨by decide +kernel, by decide +kernel, by decide +kernel, by decide +kernel⟩, ⟨lwi 194 (by decide +kernel) (by decide +kernel), lwi 26 (by decide +kernel) (by decide +kernel)⟩, fun h => absurd h (by decide), fun h => absurd h (by decide), fun _ => ⟨lwi 193 (by decide +kernel) (by decide +kernel), rfl, rfl⟩, ⟨by decide, by decide +kernel⟩, bl_47⟩
theorem bl_48 : blP 48 := by unfold blP; decide +kernel
theorem mp_48 : mP 48 := ⟨⟨by decide +kernel, by decide +kernel, by decide +kernel, by decide +kernel⟩, ⟨lwi 626 (by decide +kernel) (by decide +kernel), lwi 26 (by decide +kernel) (by decide +kernel)⟩, fun h => absurd h (by decide), fun _ => ⟨lwi 624 (by decide +kernel) (by decide +kernel), lwi 625 (by decide +kernel) (by decide +kernel)⟩, fun h => absurd h (by decide), ⟨by decide, by decide +kernel⟩, bl_48⟩
theorem bl_49 : blP 49 := by unfold blP; decide +kernel
theorem mp_49 : mP 49 := ⟨⟨by decide +kernel, by decide +kernel, by decide +kernel, by decide +kernel⟩, ⟨lwi 630 (by decide +kernel) (by decide +kernel), lwi 26 (by decide +kernel) (by decide +kernel)⟩, fun h => absurd h (by decide), fun _ => ⟨lwi 629 (by decide +kernel) (by decide +kernel), lwi 13 (by decide +kernel) (by decide +kernel)⟩, fun h => absurd h (by decide), ⟨by decide, by decide +kernel⟩, bl_49⟩
