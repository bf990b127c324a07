section
theorem ok_law8 : ∀ r ∈ r_law8, okRow mCl mDf mG mAr mSx 65 mt m_law r := chkRowsW_ok (o := 2792) (n := 304) rfl (ps := p_law8) (by decide +kernel)
theorem ok_law9 : ∀ r ∈ r_law9, okRow mCl mDf mG mAr mSx 65 mt m_law r := chkRowsW_ok (o := 3096) (n := 322) rfl (ps := p_law9) (by decide +kernel)
theorem ok_law10 : ∀ r ∈ r_law10, okRow mCl mDf mG mAr mSx 65 mt m_law r := chkRowsW_ok (o := 3416) (n := 100) rfl (ps := p_law10) (by decide +kernel)
end
