import java.util.function.Supplier;

/** All that can be seen of an object, for calls that must change nothing; no object takes above 512 calls. */
final class Probe {
    private Probe() {
    }

    /** What shows at once: the state, a line. */
    static String state(MovedSpan x) {
        StringBuilder all = new StringBuilder();
        for (int what = 0; what < 12; what++) {
            all.append(x.count(what)).append(' ');
        }
        all.append("span");
        for (int n = 0; n < 6; n++) {
            all.append(' ').append(x.span(n));
        }
        int people = x.count(2);
        for (int p = 0; p < people; p++) {
            all.append(" person");
            for (int what = 0; what < 6; what++) {
                all.append(' ').append(x.person(p, what));
            }
        }
        return all.append('\n').toString();
    }

    /** What shows only behind calls that change, too; each of these is made on an object of its own. */
    static String all(Supplier<MovedSpan> made) {
        StringBuilder all = new StringBuilder(state(made.get()));
        all.append(laws(made.get()));
        all.append(plans(made.get()));
        all.append(undone(made.get()));
        all.append(images(made.get()));
        for (int tray = 0; tray < 4; tray++) {
            all.append(tray(made, tray));
        }
        return all.append(tape(made.get())).toString();
    }

    private static String laws(MovedSpan x) {
        StringBuilder all = new StringBuilder("fault " + x.fault(0) + ' ' + x.fault(1) + " why");
        for (int hour = 0; hour < 2; hour++) {
            for (int p = 0; p < 5; p++) {
                for (int act = 0; act < 7; act++) {
                    all.append(' ').append(x.why(p, act));
                }
            }
            x.hours(1);
        }
        return all.append('\n').toString();
    }

    private static String plans(MovedSpan x) {
        StringBuilder all = new StringBuilder("plans " + x.inTime() + ' ' + x.change() + ' ' + x.shift() + ' ' + x.weeks());
        all.append(' ').append(x.best(0)).append(' ').append(x.best(1)).append(' ').append(x.moves());
        for (int h = 0; h < 6; h++) {
            all.append(' ').append(x.best(10 + h));
        }
        for (int p = 0; p < 5; p++) {
            for (int spot = 0; spot < 9; spot++) {
                all.append(' ').append(x.soonest(p, spot)).append('/').append(x.chance(p, spot, 4, 0));
            }
        }
        return all.append('\n').toString();
    }

    private static String undone(MovedSpan x) {
        StringBuilder all = new StringBuilder();
        int left = 1;
        for (int i = 0; i < 11 && left > 0; i++) {
            left = x.undo(1);
            all.append("undo ").append(left).append(": ").append(state(x));
        }
        return all.toString();
    }

    private static String images(MovedSpan x) {
        StringBuilder all = new StringBuilder();
        for (int i = 0; i < 2; i++) {
            all.append("restore ").append(x.restore(i)).append(": ").append(state(x));
        }
        return all.toString();
    }

    /** A tray's numbers show by what they do and where somebody was seen, its sort and size by writing. */
    private static String tray(Supplier<MovedSpan> made, int tray) {
        MovedSpan x = made.get();
        StringBuilder all = new StringBuilder("tray " + tray + ':');
        for (int p = 0; p < 5; p++) {
            all.append(' ').append(x.odd(tray, p));
            for (int h = 0; h < 6; h++) {
                all.append(' ').append(x.fits(tray, p, h));
            }
        }
        all.append(" perform ").append(x.perform(tray)).append(": ").append(state(x));
        for (int i = 0; i < 41; i++) {
            all.append(x.write(tray, i, 0x8182838485868788L)).append(' ');
        }
        return all.append('\n').toString();
    }

    private static String tape(MovedSpan x) {
        String text = "tape " + x.river(x.count(10)) + ' ' + x.fault(0) + ' ' + x.fault(1);
        return text + ": " + state(x);
    }
}
