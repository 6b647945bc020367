import java.util.function.Supplier;

/** The boundary cases of the promises 27 and 28, sentence by sentence. */
public final class SlotBoundaryTest {
    private static final int NONE = -9;
    private static final int[] NO_SLOTS = {-1, 2, 3, NONE, Integer.MIN_VALUE, Integer.MAX_VALUE};

    public static void main(String[] args) {
        saveRefused();
        saveEntries();
        saveStoresThePresentState();
        saveOverAnother();
        saveIsNoAction();
        restoreNoSlot();
        restoreOfNothing();
        restoreSinceLoad();
        restoreReplacesTheState();
        restoreForgets();
        restoreIsNoAction();
        slotKeepsIt();
        slotsAreTwo();
        Check.end();
    }

    private static Supplier<BarredGrid> busy() {
        return () -> Make.busy("ab");
    }

    // ---- promise 27

    // "Throws IndexOutOfBoundsException if there is no such save slot"
    private static void saveRefused() {
        for (int slot : NO_SLOTS) {
            Check.refused("save " + slot, Check.INDEX, BarredGrid::new, x -> x.save(slot));
            Check.refused("save " + slot, Check.INDEX, busy(), x -> x.save(slot));
        }
    }

    // "Returns the number of entries."
    private static void saveEntries() {
        String pairs = Make.grid(6, 6, ".", c -> c % 2 == 1, c -> c / 6 % 2 == 1);
        for (int slot = 0; slot <= 1; slot++) {
            int s = slot;
            Check.due("a new one", 6, new BarredGrid().save(s));
            Check.due("without entries", 0, Make.loaded(Make.WALLS).save(s));
            Check.due("the most entries", 36, Make.loaded(pairs).save(s));
            BarredGrid x = Make.loaded(Make.WALLS);
            x.save(s);
            Check.due("restored without entries", 0, x.restore(s));
            BarredGrid y = Make.loaded(pairs);
            y.save(s);
            y.setBar(0, false, true);
            Check.due("the most entries, restored", 36, y.restore(s));
        }
    }

    // "Stores the present state in a save slot."
    private static void saveStoresThePresentState() {
        BarredGrid x = Make.loaded(Make.LARGER);
        String before = Watch.state(x);
        x.save(0);
        Make.type(x, "zz");
        x.addWord();
        x.setLine();
        x.put(11, 'q');
        x.setBar(0, false, false);
        x.erase(0);
        x.restore(0);
        Check.due("letters, bars, words and line", true, before.equals(Watch.state(x)));
    }

    private static void saveOverAnother() {
        BarredGrid x = new BarredGrid();
        for (int i = 0; i < 20; i++) {
            x.put(0, 'a' + i);
            Check.due("save", 6, x.save(i % 2));
        }
        Check.due("restore 0", 6, x.restore(0));
        Check.due("the last of 0", 'a' + 18, x.cell(0, 0));
        Check.due("restore 1", 6, x.restore(1));
        Check.due("the last of 1", 'a' + 19, x.cell(0, 0));
    }

    private static void saveIsNoAction() {
        Check.throwsIt("undo after save", Check.STATE, () -> {
            BarredGrid x = new BarredGrid();
            x.save(0);
            return x.undo();
        });
        BarredGrid x = Make.acted(14);
        x.save(0);
        x.save(1);
        for (int left = 13; left >= 0; left--) {
            Check.due("undo", left, x.undo());
        }
        Check.due("back to the beginning", 0, x.cell(0, 0));
    }

    // ---- promise 28

    // "Throws IndexOutOfBoundsException if there is no such save slot" comes before "nothing has been saved in it"
    private static void restoreNoSlot() {
        for (int slot : NO_SLOTS) {
            Check.refused("restore " + slot + " of nothing", Check.INDEX, BarredGrid::new, x -> x.restore(slot));
            Check.refused("restore " + slot, Check.INDEX, busy(), x -> x.restore(slot));
        }
    }

    // "Throws IllegalStateException if nothing has been saved in it"
    private static void restoreOfNothing() {
        for (int slot = 0; slot <= 1; slot++) {
            int s = slot;
            Check.refused("restore " + s + " of a new one", Check.STATE, BarredGrid::new, x -> x.restore(s));
            Check.refused("restore " + s + " of 14 actions", Check.STATE, () -> Make.acted(15), x -> x.restore(s));
            Check.refused("restore " + s + ", the other is saved", Check.STATE, () -> {
                BarredGrid x = Make.acted(15);
                x.save(1 - s);
                return x;
            }, x -> x.restore(s));
            // A save that was refused saves nothing.
            BarredGrid y = new BarredGrid();
            Check.throwsIt("save 2", Check.INDEX, () -> y.save(2));
            Check.throwsIt("save -1", Check.INDEX, () -> y.save(-1));
            Check.throwsIt("restore " + s + " then", Check.STATE, () -> y.restore(s));
        }
    }

    // "since the last load"
    private static void restoreSinceLoad() {
        for (int slot = 0; slot <= 1; slot++) {
            int s = slot;
            Check.refused("restore " + s + " after load", Check.STATE, () -> {
                BarredGrid x = Make.busy(Make.LARGER);
                x.load();
                return x;
            }, x -> x.restore(s));
            BarredGrid y = Make.busy("G22...");
            Check.throwsIt("a refused load", Check.STATE, y::load);
            Check.due("restore " + s + " after it", Make.busy("ab").restore(s), y.restore(s));
        }
        BarredGrid x = Make.loaded("G22....");
        x.save(0);
        x.load();
        x.save(0);
        Check.due("saved again", 4, x.restore(0));
    }

    // "Replaces the state by the one in a save slot"
    private static void restoreReplacesTheState() {
        BarredGrid x = Make.loaded("G33abcdefghi/abc/defghi=xyz");
        String before = Watch.state(x);
        x.save(1);
        for (int c = 0; c < 9; c++) {
            x.put(c, 0);
        }
        Make.type(x, "ab");
        for (int w = 2; w < 8; w++) {
            x.addWord();
        }
        x.setLine();
        Check.due("restore", 6, x.restore(1));
        Check.due("eight words become two", 2, x.about(8));
        Check.due("everything is as before", true, before.equals(Watch.state(x)));
    }

    // "and forgets all remembered states"
    private static void restoreForgets() {
        for (int actions : new int[] {0, 1, 13, 14, 15, 29}) {
            BarredGrid x = Make.acted(actions);
            x.save(0);
            x.restore(0);
            Check.throwsIt("undo after " + actions + " and restore", Check.STATE, x::undo);
            int letter = x.cell(0, 0);
            for (int i = 0; i < 16; i++) {
                x.put(1, 'a' + i);
            }
            for (int left = 13; left >= 0; left--) {
                Check.due("undo", left, x.undo());
                Check.due("cell 1", 'a' + left + 1, x.cell(1, 0));
                Check.due("cell 0", letter, x.cell(0, 0));
            }
            Check.throwsIt("undo of none", Check.STATE, x::undo);
        }
    }

    // "load and restore are not actions."
    private static void restoreIsNoAction() {
        BarredGrid x = Make.busy("ab");
        x.restore(0);
        Check.throwsIt("undo", Check.STATE, x::undo);
        x.put(0, 'z');
        Check.due("undo of the put", 0, x.undo());
        Check.throwsIt("undo no more", Check.STATE, x::undo);
    }

    // "The save slot keeps it."
    private static void slotKeepsIt() {
        BarredGrid x = Make.loaded("G22abcd/ab");
        x.save(0);
        for (int i = 0; i < 5; i++) {
            Check.due("restore", 4, x.restore(0));
            Check.due("its letter", 'a', x.cell(0, 0));
            Check.due("its words", 1, x.about(8));
            x.put(0, 'z');
            x.setBar(0, true, true);
            x.undo();
        }
        // Neither does what is done to the state that was saved change the slot.
        BarredGrid y = new BarredGrid();
        y.save(0);
        y.put(0, 'q');
        y.save(1);
        y.undo();
        y.restore(1);
        Check.due("slot 1", 'q', y.cell(0, 0));
        y.restore(0);
        Check.due("slot 0", 0, y.cell(0, 0));
    }

    private static void slotsAreTwo() {
        BarredGrid x = Make.loaded("G22....");
        x.put(0, 'a');
        x.save(0);
        x.put(0, 'b');
        x.save(1);
        x.put(0, 'c');
        x.restore(0);
        Check.due("slot 0", 'a', x.cell(0, 0));
        x.restore(1);
        Check.due("slot 1", 'b', x.cell(0, 0));
        x.restore(0);
        Check.due("slot 0 again", 'a', x.cell(0, 0));
    }
}
