set_option maxHeartbeats 4000000 in
theorem mOp_mono {SH : List mH} {F : mF} (hF : mMono F) {P : mP} {X Y : mS → Prop} (h : ∀ σ, X σ → Y σ) {e : mI} {pc : Nat} {L : mL} {S : List mV} {M : mM} (k : mOp SH F P X e pc L S M) : mOp SH F P Y e pc L S M := by
  obtain ⟨i, n, a, v, tl⟩ := e
  cases i
  case tableswitch =>
    simp only [mOp] at k ⊢
    split at k
    · exact mSw_mono h _ k
    · exact k
  case lookupswitch =>
    simp only [mOp] at k ⊢
    split at k
    · exact mSw_mono h _ k
    · exact k
  case invokevirtual idx =>
    simp only [mOp, mCal] at k ⊢
    split at k
    · rename_i q hq
      split at k
      · exact hF _ q.1 q.2 hq _ _ _ _ (fun r M' w => h _ w) k
      · exact k
    · exact k
  case invokestatic idx =>
    simp only [mOp, mCal] at k ⊢
    split at k
    · rename_i q hq
      split at k
      · exact hF _ q.1 q.2 hq _ _ _ _ (fun r M' w => h _ w) k
      · exact k
    · exact k
  case invokespecial idx =>
    simp only [mOp, mCal] at k ⊢
    split at k
    · rename_i q hq
      split at k
      · exact hF _ q.1 q.2 hq _ _ _ _ (fun r M' w => h _ w) k
      · exact k
    · exact k
  case ifCond c o =>
    cases c <;> (simp only [mOp, mIf1] at k ⊢; split at k <;> first | exact ⟨fun q => h _ (k.1 q), fun q => h _ (k.2 q)⟩ | exact k)
  case if_icmp c o =>
    cases c <;> (simp only [mOp, mIf2] at k ⊢; split at k <;> first | exact ⟨fun q => h _ (k.1 q), fun q => h _ (k.2 q)⟩ | exact k)
  all_goals first
    | exact k
    | exact h _ k
    | (simp only [mOp, mBin, mDiv, mUn, mLd, mLa, mSt, mSa, mGet, mPut, mArr, mBal, mArs, mArq, mLen, mNul, mArrX, mArsX, mArqX, mLenX] at k ⊢; repeat' split at k
       all_goals first | exact k | exact h _ k | exact ⟨k.1, h _ k.2⟩ | (obtain ⟨n, rs, h1, h2, h3⟩ := k; exact ⟨n, rs, h1, h2, h _ h3⟩) | (obtain ⟨n, k, c, rs, h1, h2, h3, h4, h5, h6⟩ := k; exact ⟨n, k, c, rs, h1, h2, h3, h4, h5, h _ h6⟩))
theorem mWp_mono {SH : List mH} {F : mF} (hF : mMono F) {P : mP} {X Y : mS → Prop} (h : ∀ σ, X σ → Y σ) {σ : mS} (k : mWp SH F P X σ) : mWp SH F P Y σ := by
  unfold mWp at k ⊢
  split at k
  · exact k
  · exact mOp_mono hF h k
theorem mRun.of {SH : List mH} {F : mF} (hF : mMono F) {P : mP} {σ : mS} (k : mWp SH F P (mRun SH F P) σ) : mRun SH F P σ :=
  fun X hX => hX σ (mWp_mono hF (fun _ h => h X hX) k)
/-- n steps at once, but not beyond the stops -/
def mVc (SH : List mH) (F : mF) (P : mP) (st : List Nat) (X : mS → Prop) : Nat → mS → Prop
  | 0, σ => X σ
  | n + 1, σ => mWp SH F P (fun τ => match st.elem τ.1 with
    | true => X τ
    | false => mVc SH F P st X n τ) σ
theorem mRun.vc {SH : List mH} {F : mF} (hF : mMono F) {P : mP} (st : List Nat) : ∀ (n : Nat) {σ : mS}, mVc SH F P st (mRun SH F P) n σ → mRun SH F P σ
  | 0, _, k => k
  | n + 1, σ, k => by
    refine mRun.of hF (mWp_mono hF (fun τ h => ?_) k)
    split at h
    · exact h
    · exact mRun.vc hF st n h
theorem mRun.post {SH : List mH} {F : mF} {P Q : mP} (h : ∀ r M, P r M → Q r M) {σ : mS} (k : mRun SH F P σ) (hF : mMono F) : mRun SH F Q σ := by
  refine k _ (fun σ' w => mRun.of hF ?_)
  unfold mWp at w ⊢
  split at w
  · exact w
  · rename_i e he
    obtain ⟨i, n, a, v, tl⟩ := e
    cases i
    case ireturn =>
      simp only [mOp, mEnd] at w ⊢
      repeat' split at w
      all_goals first | exact w | exact h _ _ w | exact ⟨w.1, h _ _ w.2⟩
    case areturn =>
      simp only [mOp, mEndA] at w ⊢
      repeat' split at w
      all_goals first | exact w | exact h _ _ w
    case return_ =>
      simp only [mOp, mEndV] at w ⊢
      repeat' split at w
      all_goals first | exact w | exact h _ _ w
    case ifCond cd o => cases cd <;> exact w
    case if_icmp cd o => cases cd <;> exact w
    all_goals exact w
