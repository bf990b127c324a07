section
theorem ok_law4 : ∀ r ∈ r_law4, okRow mCl mDf mG mAr mSx 65 mt m_law r := chkRowsW_ok (o := 1500) (n := 328) rfl (ps := p_law4) (by decide +kernel)
theorem ok_law5 : ∀ r ∈ r_law5, okRow mCl mDf mG mAr mSx 65 mt m_law r := chkRowsW_ok (o := 1828) (n := 324) rfl (ps := p_law5) (by decide +kernel)
theorem ok_law6 : ∀ r ∈ r_law6, okRow mCl mDf mG mAr mSx 65 mt m_law r := chkRowsW_ok (o := 2152) (n := 332) rfl (ps := p_law6) (by decide +kernel)
theorem ok_law7 : ∀ r ∈ r_law7, okRow mCl mDf mG mAr mSx 65 mt m_law r := chkRowsW_ok (o := 2484) (n := 310) rfl (ps := p_law7) (by decide +kernel)
end
