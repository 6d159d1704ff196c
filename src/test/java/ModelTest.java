import java.util.Random;

/** Runs of 512 calls of a fixed choice, each answer compared with the model's. */
public final class ModelTest {
    private static final int RUNS = 8000;
    // Each step is two calls; the calls that are left of the 512 look at the state in the end.
    private static final int STEPS = 200;
    // The kinds of calls; commit has those between, too, and change all above.
    private static final int CRASH = 0, FLUSH = 1, FORGET = 2, COMMIT = 5, GET = 6, CHANGE = 7;

    private static final Check check = new Check();

    public static void main(String[] args) {
        for (int run = 0; run < RUNS; run++) {
            compare(run, new Random(run));
        }
        check.end();
    }

    private static void compare(int run, Random dice) {
        JournalShelf shelf = new JournalShelf();
        DiskModel model = new DiskModel();
        // Few slots make the same ones come again; many make the flush write many blocks.
        int slots = new int[] {3, 12, 60, 212}[run % 4];
        int rare = 3 + run % 40;
        boolean heavy = run / 4 % 2 == 1;
        for (int step = 0; step < STEPS; step++) {
            String when = "run " + run + ", step " + step + ": ";
            int kind = dice.nextInt(rare + 8);
            step(when, heavy ? heavyKind(dice, kind, model) : kind, dice, shelf, model, slots);
            look(when, dice, shelf, model, slots);
        }
        compareState("run " + run + ", in the end: ", shelf, model);
    }

    // Heavy runs let deeds grow long and crash late, so that a crash meets more blocks than the mask has bits.
    private static int heavyKind(Random dice, int kind, DiskModel model) {
        if (model.count(2) > 31 && dice.nextBoolean()) {
            return CRASH;
        }
        if (model.count(3) > 14 && dice.nextBoolean()) {
            return COMMIT;
        }
        return dice.nextInt(12) == 0 ? kind : CHANGE;
    }

    private static void step(String when, int kind, Random dice, JournalShelf shelf, DiskModel model, int slots) {
        if (kind == CRASH) {
            int mask = mask(dice);
            int part = dice.nextInt(520) - 10;
            check.due(when + "crash(" + mask + ", " + part + ")", shelf.crash(mask, part), model.crash(mask, part));
        } else if (kind == FLUSH) {
            check.due(when + "flush()", shelf.flush(), model.flush());
        } else if (kind == FORGET) {
            check.due(when + "forget()", shelf.forget(), model.forget());
        } else if (kind <= COMMIT) {
            check.due(when + "commit()", shelf.commit(), model.commit());
        } else if (kind == GET) {
            compareValue(when, dice.nextInt(slots + 4) - 2, shelf, model);
        } else {
            int slot = dice.nextInt(50) == 0 ? 200 + dice.nextInt(24) : dice.nextInt(slots);
            int value = dice.nextInt(9) == 0 ? dice.nextInt() : dice.nextInt(5);
            check.due(when + "change(" + slot + ", " + value + ")", shelf.change(slot, value), model.change(slot, value));
        }
    }

    private static void look(String when, Random dice, JournalShelf shelf, DiskModel model, int slots) {
        if (dice.nextInt(3) == 0) {
            compareValue(when, dice.nextInt(slots), shelf, model);
            return;
        }
        int what = dice.nextInt(8) - 1;
        check.due(when + "count(" + what + ")", shelf.count(what), model.count(what));
    }

    private static void compareValue(String when, int slot, JournalShelf shelf, DiskModel model) {
        check.due(when + "get(" + slot + ")", shelf.get(slot), model.get(slot));
    }

    private static int mask(Random dice) {
        switch (dice.nextInt(4)) {
            case 0:
                return dice.nextInt();
            case 1:
                return ~(1 << dice.nextInt(32));
            case 2:
                return ~(1 << dice.nextInt(32) | 1 << dice.nextInt(32));
            default:
                return -1;
        }
    }

    private static void compareState(String when, JournalShelf shelf, DiskModel model) {
        for (int slot = 0; slot < 212; slot += slot < 60 ? 1 : 3) {
            compareValue(when, slot, shelf, model);
        }
        check.due(when + "torn()", shelf.torn(), 0);
    }
}
