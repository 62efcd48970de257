/-! THE MACHINE RUNS AS THE PURE MACHINE DOES -/
theorem zstep {l : Launch} {G : zG} {r : zE} {n : Nat} (ih : zSnd l G r n) : zSnd l G r (n + 1) := by
  intro mi pc lv st h v g hq
  have hq : zst r (zrun r n) (zrun r n) mi pc lv st h = some (v, g) := hq
  unfold zst at hq
  cases hz : zlk (zcd mi) pc with
  | none => rw [hz] at hq; cases hq
  | some q =>
    rw [hz] at hq
    obtain ⟨hd, hA, u, hB⟩ := zck_at hz
    obtain ⟨len, ins, w⟩ := q
    dsimp only at hd hA hB hq
    cases ins
    case iadd => exact zs_iadd ih hd hA hq
    case isub => exact zs_isub ih hd hA hq
    case imul => exact zs_imul ih hd hA hq
    case iand => exact zs_iand ih hd hA hq
    case ior => exact zs_ior ih hd hA hq
    case ixor => exact zs_ixor ih hd hA hq
    case ishl => exact zs_ishl ih hd hA hq
    case ishr => exact zs_ishr ih hd hA hq
    case iushr => exact zs_iushr ih hd hA hq
    case idiv => exact zs_idiv ih hd hA hq
    case irem => exact zs_irem ih hd hA hq
    case ladd => exact zs_ladd ih hd hA hq
    case lmul => exact zs_lmul ih hd hA hq
    case ldiv => exact zs_ldiv ih hd hA hq
    case lrem => exact zs_lrem ih hd hA hq
    case lcmp => exact zs_lcmp ih hd hA hq
    case ineg => exact zs_ineg ih hd hA hq
    case lneg => exact zs_lneg ih hd hA hq
    case i2l => exact zs_i2l ih hd hA hq
    case l2i => exact zs_l2i ih hd hA hq
    case i2b => exact zs_i2b ih hd hA hq
    case dup => exact zs_dup ih hd hA hq
    case pop => exact zs_pop ih hd hA hq
    case dup2 => exact zs_dup2 ih hd hA hq
    case iaload => exact zs_iaload ih hd hA hq
    case caload => exact zs_caload ih hd hA hq
    case aaload => exact zs_aaload ih hd hA hq
    case iastore => exact zs_iastore ih hd hA hq
    case aastore => exact zs_aastore ih hd hA hq
    case arraylength => exact zs_alen ih hd hA hq
    case aconst_null => exact zs_null ih hd hA hq
    case iconst i => exact zs_iconst ih hd hA hq
    case lconst i => exact zs_lconst ih hd hA hq
    case bipush i => exact zs_bipush ih hd hA hq
    case sipush i => exact zs_sipush ih hd hA hq
    case iload i => exact zs_iload ih hd hA hq
    case iload_n i => exact zs_iload_n ih hd hA hq
    case lload i => exact zs_lload ih hd hA hq
    case lload_n i => exact zs_lload_n ih hd hA hq
    case aload i => exact zs_aload ih hd hA hq
    case aload_n i => exact zs_aload_n ih hd hA hq
    case istore i => exact zs_istore ih hd hA hq
    case istore_n i => exact zs_istore_n ih hd hA hq
    case lstore i => exact zs_lstore ih hd hA hq
    case lstore_n i => exact zs_lstore_n ih hd hA hq
    case astore i => exact zs_astore ih hd hA hq
    case astore_n i => exact zs_astore_n ih hd hA hq
    case goto i => exact zs_goto ih hd hA hq
    case ifnull i => exact zs_ifnull ih hd hA hq
    case ifnonnull i => exact zs_ifnonnull ih hd hA hq
    case iinc i c => exact zs_iinc ih hd hA hq
    case ldc i => exact zs_ldc ih hd hA hB hq
    case ldc_w i => exact zs_ldc_w ih hd hA hB hq
    case ldc2_w i => exact zs_ldc2_w ih hd hA hB hq
    case getfield i => exact zs_getfield ih hd hA hB hq
    case putfield i => exact zs_putfield ih hd hA hB hq
    case getstatic i => exact zs_getstatic ih hd hA hB hq
    case new i => exact zs_new ih hd hA hB hq
    case anewarray i => exact zs_anewarray ih hd hA hB hq
    case invokevirtual i => exact zs_invokevirtual ih hd hA hB hq
    case invokespecial i => exact zs_invokespecial ih hd hA hB hq
    case invokestatic i => exact zs_invokestatic ih hd hA hB hq
    case ifCond c off => cases c with
      | eq => exact zs_if_eq ih hd hA hq
      | ne => exact zs_if_ne ih hd hA hq
      | lt => exact zs_if_lt ih hd hA hq
      | ge => exact zs_if_ge ih hd hA hq
      | gt => exact zs_if_gt ih hd hA hq
      | le => exact zs_if_le ih hd hA hq
    case if_icmp c off => cases c with
      | eq => exact zs_ic_eq ih hd hA hq
      | ne => exact zs_ic_ne ih hd hA hq
      | lt => exact zs_ic_lt ih hd hA hq
      | ge => exact zs_ic_ge ih hd hA hq
      | gt => exact zs_ic_gt ih hd hA hq
      | le => exact zs_ic_le ih hd hA hq
    case tableswitch d lo hi os => exact zs_tsw ih hd hA hq
    case lookupswitch d ps => exact zs_lsw ih hd hA hq
    case newarray ty => cases ty with
      | int => exact zs_newarray ih hd hA hq
      | _ => exact absurd (show (none : Option zRes) = some (v, g) from hq) (by simp)
    case ireturn => exact zs_ireturn hd hA hq
    case lreturn => exact zs_lreturn hd hA hq
    case areturn => exact zs_areturn hd hA hq
    case return_ => exact zs_return hd hA hq
    all_goals exact absurd (show (none : Option zRes) = some (v, g) from hq) (by simp)
theorem zsnd (l : Launch) (G : zG) (r : zE) : ∀ n, zSnd l G r n
  | 0 => fun _ _ _ _ _ _ _ h => by cases h
  | n + 1 => zstep (zsnd l G r n)
theorem zsnd_ev {l : Launch} {G : zG} {r : zE} {mi pc : Nat} {lv : List (Option Value)} {st : List Value} {h g : zH} {v : Option Value} (e : zev r mi pc lv st h = some (v, g)) : zGo l G r mi v g pc lv st h := by
  obtain ⟨n, hn⟩ := zev_iff.mp e
  exact zsnd l G r n _ _ _ _ _ _ _ hn
