import java.util.Random;

/** Long runs of calls of a fixed choice, each answer and the whole state compared with the model's. */
public final class ModelTest {
    private static final int RUNS = 1500;
    private static final int CALLS = 512;
    // The kinds of calls; commit has those between, too, and change all above.
    private static final int CRASH = 0, FLUSH = 1, FORGET = 2, COMMIT = 5, GET = 6, CHANGE = 7;

    private static final Check check = new Check();

    public static void main(String[] args) {
        for (int run = 0; run < RUNS; run++) {
            compare(run, new Random(run));
        }
        check.end();
    }

    private static void compare(int run, Random dice) {
        JournalShelf shelf = new JournalShelf();
        DiskModel model = new DiskModel();
        // Few slots make the same ones come again; many make the flush write many blocks.
        int slots = new int[] {3, 12, 60, 212}[run % 4];
        int rare = 3 + run % 40;
        boolean heavy = run / 4 % 2 == 1;
        for (int call = 0; call < CALLS; call++) {
            String when = "run " + run + ", call " + call + ": ";
            int kind = dice.nextInt(rare + 8);
            step(when, heavy ? heavyKind(dice, kind, model) : kind, dice, shelf, model, slots);
            if (call % 16 == 15) {
                compareState(when, shelf, model);
            }
        }
    }

    // Heavy runs let deeds grow long and crash late, so that a crash meets more blocks than the mask has bits.
    private static int heavyKind(Random dice, int kind, DiskModel model) {
        if (model.count(2) > 31 && dice.nextBoolean()) {
            return CRASH;
        }
        if (model.count(3) > 14 && dice.nextBoolean()) {
            return COMMIT;
        }
        return dice.nextInt(12) == 0 ? kind : CHANGE;
    }

    private static void step(String when, int kind, Random dice, JournalShelf shelf, DiskModel model, int slots) {
        if (kind == CRASH) {
            int mask = mask(dice);
            int part = dice.nextInt(520) - 10;
            check.due(when + "crash(" + mask + ", " + part + ")", shelf.crash(mask, part), model.crash(mask, part));
        } else if (kind == FLUSH) {
            check.due(when + "flush()", shelf.flush(), model.flush());
        } else if (kind == FORGET) {
            check.due(when + "forget()", shelf.forget(), model.forget());
        } else if (kind <= COMMIT) {
            check.due(when + "commit()", shelf.commit(), model.commit());
        } else if (kind == GET) {
            int slot = dice.nextInt(slots + 4) - 2;
            check.due(when + "get(" + slot + ")", shelf.get(slot), model.get(slot));
        } else {
            int slot = dice.nextInt(50) == 0 ? 200 + dice.nextInt(24) : dice.nextInt(slots);
            int value = dice.nextInt(9) == 0 ? dice.nextInt() : dice.nextInt(5);
            check.due(when + "change(" + slot + ", " + value + ")", shelf.change(slot, value), model.change(slot, value));
        }
        for (int what = -1; what <= 6; what++) {
            check.due(when + "count(" + what + ")", shelf.count(what), model.count(what));
        }
    }

    private static int mask(Random dice) {
        switch (dice.nextInt(4)) {
            case 0:
                return dice.nextInt();
            case 1:
                return ~(1 << dice.nextInt(32));
            case 2:
                return ~(1 << dice.nextInt(32) | 1 << dice.nextInt(32));
            default:
                return -1;
        }
    }

    private static void compareState(String when, JournalShelf shelf, DiskModel model) {
        for (int slot = 0; slot < 212; slot += 1 + slot / 12) {
            check.due(when + "get(" + slot + ")", shelf.get(slot), model.get(slot));
        }
        check.due(when + "torn()", shelf.torn(), 0);
    }
}
