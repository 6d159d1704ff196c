import java.util.ArrayList;
import java.util.HashSet;
import java.util.List;
import java.util.Set;

/** The document told once more, with every deed and block kept as an object and all values read anew each time. */
final class DiskModel {
    private static final class Deed {
        final List<int[]> changes = new ArrayList<>();
    }

    private final List<Deed> flushed = new ArrayList<>();
    private final List<Deed> behind = new ArrayList<>();
    // Each block's deed; null for a block that a flush has written.
    private final List<Deed> blocks = new ArrayList<>();
    private Deed open = new Deed();
    private int flushes;
    private int crashes;

    int change(int slot, int value) {
        if (slot < 0 || slot > 211) {
            return -1;
        }
        if (open.changes.size() == 17) {
            return -2;
        }
        int unflushed = 0;
        for (Deed deed : behind) {
            unflushed += deed.changes.size();
        }
        if (open.changes.isEmpty() && unflushed > 7) {
            flush();
        }
        open.changes.add(new int[] {slot, value});
        return open.changes.size();
    }

    int commit() {
        int size = open.changes.size();
        if (size == 0) {
            return -1;
        }
        for (int i = 0; i < size; i++) {
            blocks.add(open);
        }
        behind.add(open);
        open = new Deed();
        return size;
    }

    int forget() {
        int size = open.changes.size();
        open = new Deed();
        return size;
    }

    int flush() {
        int deeds = behind.size();
        Set<Integer> slots = new HashSet<>();
        for (Deed deed : behind) {
            deed.changes.forEach(c -> slots.add(c[0]));
        }
        blocks.clear();
        slots.forEach(slot -> blocks.add(null));
        flushed.addAll(behind);
        behind.clear();
        open = new Deed();
        flushes++;
        return deeds;
    }

    int crash(int mask, int part) {
        if (part < 0 || part > 500) {
            return -1;
        }
        Set<Deed> broken = new HashSet<>();
        for (int k = 0; k < blocks.size(); k++) {
            if ((mask & 1 << k % 31) == 0) {
                broken.add(blocks.get(k));
            }
        }
        int there = 0;
        while (there < behind.size() && !broken.contains(behind.get(there))) {
            flushed.add(behind.get(there));
            there++;
        }
        int gone = behind.size() - there;
        behind.clear();
        blocks.clear();
        open = new Deed();
        crashes++;
        return gone;
    }

    int get(int slot) {
        int value = 0;
        List<Deed> all = new ArrayList<>(flushed);
        all.addAll(behind);
        for (Deed deed : all) {
            for (int[] change : deed.changes) {
                value = change[0] == slot ? change[1] : value;
            }
        }
        return value;
    }

    int count(int what) {
        int[] counts = {flushed.size() + behind.size(), behind.size(), blocks.size(), open.changes.size(), flushes, crashes};
        return what < 0 || what >= counts.length ? -1 : counts[what];
    }
}
