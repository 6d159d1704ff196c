/** Slots whose values change together or not at all, on a disk that may lose what was not flushed. */
public final class JournalShelf {
    public static final int REFUSED = -1, FULL = -2;

    private static final int SLOTS = 212;
    private static final int MOST_CHANGES = 17;
    private static final int MOST_UNFLUSHED = 7;
    private static final int MASK_BITS = 31;
    private static final int LAST_PART = 500;

    // A deed begins only behind at most MOST_UNFLUSHED changes, so it always fits in behind them.
    private static final int JOURNAL_ROOM = MOST_UNFLUSHED + MOST_CHANGES;

    // The values without the journal: no crash can take them back.
    private final int[] safeValue;

    // The journal: first the changes committed since the latest flush or crash,
    // behind them those of the deed that is put together.
    private final int[] journalSlot;
    private final int[] journalValue;
    private final int[] journalDeed;
    private int committedChanges;
    private int openChanges;

    private int safeDeeds;
    private int journalDeeds;
    private int flushBlocks;
    private int flushes;
    private int crashes;

    public JournalShelf() {
        safeValue = new int[SLOTS];
        journalSlot = new int[JOURNAL_ROOM];
        journalValue = new int[JOURNAL_ROOM];
        journalDeed = new int[JOURNAL_ROOM];
    }

    public int change(int slot, int value) {
        if (!isSlot(slot)) {
            return REFUSED;
        }
        if (openChanges >= MOST_CHANGES) {
            return FULL;
        }
        if (openChanges == 0 && committedChanges > MOST_UNFLUSHED) {
            flushDisk();
        }
        appendChange(slot, value);
        return openChanges;
    }

    public int commit() {
        if (openChanges == 0) {
            return REFUSED;
        }
        int changes = openChanges;
        committedChanges += changes;
        journalDeeds++;
        openChanges = 0;
        return changes;
    }

    public int forget() {
        int changes = openChanges;
        openChanges = 0;
        return changes;
    }

    public int flush() {
        int deeds = journalDeeds;
        flushDisk();
        return deeds;
    }

    public int crash(int mask, int part) {
        // How much of the torn block is new makes no difference: a block in part is worth nothing.
        if (part < 0 || part > LAST_PART) {
            return REFUSED;
        }
        int whole = wholeDeeds(mask);
        int gone = journalDeeds - whole;
        makeSafe(whole);
        flushBlocks = 0;
        crashes++;
        return gone;
    }

    public int get(int slot) {
        if (!isSlot(slot)) {
            return 0;
        }
        for (int i = committedChanges - 1; i >= 0; i--) {
            if (journalSlot[i] == slot) {
                return journalValue[i];
            }
        }
        return safeValue[slot];
    }

    public int torn() {
        // A torn block is never taken for a value, neither in the journal nor out of it.
        return 0;
    }

    public int count(int what) {
        switch (what) {
            case 0:
                return safeDeeds + journalDeeds;
            case 1:
                return journalDeeds;
            case 2:
                return flushBlocks + committedChanges;
            case 3:
                return openChanges;
            case 4:
                return flushes;
            case 5:
                return crashes;
            default:
                return REFUSED;
        }
    }

    private static boolean isSlot(int slot) {
        return slot >= 0 && slot < SLOTS;
    }

    private void appendChange(int slot, int value) {
        int at = committedChanges + openChanges;
        // Never so, as JOURNAL_ROOM says; looked at all the same, since no call may throw.
        if (at >= JOURNAL_ROOM) {
            return;
        }
        journalSlot[at] = slot;
        journalValue[at] = value;
        journalDeed[at] = journalDeeds;
        openChanges++;
    }

    private void flushDisk() {
        int blocks = changedSlots();
        makeSafe(journalDeeds);
        flushBlocks = blocks;
        flushes++;
    }

    private int changedSlots() {
        int slots = 0;
        for (int i = 0; i < committedChanges; i++) {
            if (isLastOfItsSlot(i)) {
                slots++;
            }
        }
        return slots;
    }

    private boolean isLastOfItsSlot(int change) {
        for (int i = change + 1; i < committedChanges; i++) {
            if (journalSlot[i] == journalSlot[change]) {
                return false;
            }
        }
        return true;
    }

    /** How many deeds of the journal stand whole, with all deeds before them. */
    private int wholeDeeds(int mask) {
        for (int i = 0; i < committedChanges; i++) {
            if (!blockStands(flushBlocks + i, mask)) {
                return journalDeed[i];
            }
        }
        return journalDeeds;
    }

    private static boolean blockStands(int block, int mask) {
        return (mask >> (block % MASK_BITS) & 1) == 1;
    }

    /** Takes the first deeds of the journal over for good and empties it of all others. */
    private void makeSafe(int deeds) {
        for (int i = 0; i < committedChanges && journalDeed[i] < deeds; i++) {
            safeValue[journalSlot[i]] = journalValue[i];
        }
        safeDeeds += deeds;
        journalDeeds = 0;
        committedChanges = 0;
        openChanges = 0;
    }
}
