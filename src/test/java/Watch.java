import java.util.function.Consumer;
import java.util.function.Supplier;

/**
 * Everything that can be learnt of an object, as one text. Each look is at a new object that was made in
 * the same way, so that no object has over 512 calls.
 */
final class Watch {
    private final Supplier<BarredGrid> maker;
    private final StringBuilder seen = new StringBuilder();

    private Watch(Supplier<BarredGrid> maker) {
        this.maker = maker;
    }

    static String everything(Supplier<BarredGrid> maker) {
        Watch watch = new Watch(maker);
        watch.text();
        for (int slot = 0; slot < 2; slot++) {
            int s = slot;
            watch.state("slot " + s, x -> watch.see(() -> x.restore(s)));
        }
        boolean isMore = true;
        for (int undone = 0; isMore && undone <= 15; undone++) {
            int u = undone;
            int before = watch.seen.length();
            watch.state("undone " + u, x -> watch.undo(x, u));
            isMore = watch.seen.indexOf("IllegalStateException", before) < 0;
        }
        return watch.seen.toString();
    }

    /** What the state is, without what undo, restore and the text would show. */
    static String state(BarredGrid x) {
        Watch watch = new Watch(() -> x);
        watch.cells(x);
        watch.entries(x);
        watch.others(x);
        return watch.seen.toString();
    }

    private void undo(BarredGrid x, int times) {
        for (int i = 0; i < times; i++) {
            see(x::undo);
        }
    }

    private void see(Check.Call call) {
        try {
            seen.append(call.answer()).append(' ');
        } catch (RuntimeException e) {
            seen.append(e.getClass().getSimpleName()).append(' ');
        }
    }

    private BarredGrid next(Consumer<BarredGrid> before) {
        BarredGrid x = maker.get();
        before.accept(x);
        return x;
    }

    private void state(String title, Consumer<BarredGrid> before) {
        seen.append('\n').append(title).append(": ");
        cells(next(before));
        entries(next(before));
        others(next(before));
    }

    private void cells(BarredGrid x) {
        int cells = x.about(0) * x.about(1);
        for (int c = 0; c < cells; c++) {
            for (int what = 0; what <= 6; what++) {
                seen.append(x.cell(c, what)).append(' ');
            }
        }
    }

    private void entries(BarredGrid x) {
        int entries = x.about(2);
        for (int e = 0; e < entries; e++) {
            for (int what = 0; what <= 6; what++) {
                seen.append(x.entry(e, what)).append(' ');
            }
            seen.append(x.fits(e)).append(' ');
        }
    }

    private void others(BarredGrid x) {
        for (int what = 0; what <= 10; what++) {
            seen.append(x.about(what)).append(' ');
        }
        for (int w = 0; w < x.about(8); w++) {
            for (int i = 0; i <= 6; i++) {
                seen.append(x.word(w, i)).append(' ');
            }
        }
        for (int k = 0; k <= 4; k++) {
            seen.append(x.rule(k)).append(' ');
        }
        for (int i = 0; i <= 6; i++) {
            seen.append(x.reading(i)).append(' ');
        }
        seen.append(x.readings()).append(' ').append(x.possible()).append(' ').append(x.fillings()).append(' ');
        seen.append(x.mend()).append(' ').append(x.hardest()).append(' ');
    }

    /** The text cannot be read, but what is made of it can. */
    private void text() {
        seen.append("text: ");
        BarredGrid x = maker.get();
        see(x::errorPosition);
        see(x::clearText);
        see(x::errorPosition);
        state("loaded", y -> see(y::load));
        state("with its word", y -> {
            see(y::addWord);
            see(() -> y.word(y.about(8) - 1, 0));
        });
        state("with its line", y -> see(y::setLine));
        state("longer by ab", y -> {
            see(() -> y.append('a'));
            see(() -> y.append('b'));
            see(y::errorPosition);
            see(y::addWord);
        });
    }
}
