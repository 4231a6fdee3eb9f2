import java.nio.ByteBuffer;
import java.nio.charset.StandardCharsets;
import java.util.Arrays;

/** What the tests share: answers held against what is due, texts fed. */
final class Checks {
    private int wrong = 0;
    private String topic = "";

    void topic(String name) {
        topic = name;
    }

    /** The checks to come are of a sentence of a promise, or of the terms it uses. */
    void sentence(int promise, String words) {
        topic = "promise " + promise + ", \"" + words + "\"";
    }

    void due(String call, long got, long want) {
        if (got != want) {
            wrong++;
            System.out.println(topic + ": " + call + " answered " + got + ", due is " + want);
        }
    }

    void holds(String what, boolean so) {
        due(what, so ? 1 : 0, 1);
    }

    /** Both tell all that was seen of an object; the first line that differs is printed. */
    void same(String what, String got, String want) {
        if (got.equals(want)) {
            return;
        }
        wrong++;
        String[] gotLines = got.split("\n");
        String[] wantLines = want.split("\n");
        int i = 0;
        while (i < gotLines.length && i < wantLines.length && gotLines[i].equals(wantLines[i])) {
            i++;
        }
        System.out.println(topic + ": " + what + ":\n  it is  " + (i < gotLines.length ? gotLines[i] : "")
            + "\n  due is " + (i < wantLines.length ? wantLines[i] : ""));
    }

    void end(String name) {
        System.out.println(wrong == 0 ? name + ": all as due" : name + ": " + wrong + " not as due");
        System.exit(wrong == 0 ? 0 : 1);
    }

    /** A text that has a fault, on a new object. */
    void fault(String text, int kind, int place) {
        MovedSpan x = new MovedSpan();
        due("river of " + text, tell(x, text), -30 - kind);
        due("fault of " + text, x.fault(0), kind);
        due("place in " + text, x.fault(1), place);
    }

    /** A text that has none, on a new object: so many lines. */
    MovedSpan lines(String text, int lines) {
        MovedSpan x = new MovedSpan();
        due("river of " + text, tell(x, text), lines);
        due("fault of " + text, x.fault(0), 0);
        due("place in " + text, x.fault(1), MovedSpan.NONE);
        return x;
    }

    /** Feeds a text, filled up with blanks, and answers what river() does of it. */
    static int tell(MovedSpan span, String text) {
        feed(span, text);
        return span.river(text.length());
    }

    static void feed(MovedSpan span, String text) {
        byte[] bytes = text.getBytes(StandardCharsets.ISO_8859_1);
        byte[] filled = Arrays.copyOf(bytes, (bytes.length + 19) / 20 * 20);
        Arrays.fill(filled, bytes.length, filled.length, (byte) 32);
        ByteBuffer ints = ByteBuffer.wrap(filled);
        for (int i = 0; i < filled.length; i += 20) {
            span.feed(ints.getInt(), ints.getInt(), ints.getInt(), ints.getInt(), ints.getInt());
        }
    }

    static MovedSpan river(String text) {
        MovedSpan span = new MovedSpan();
        int lines = tell(span, text);
        if (lines < 1) {
            throw new IllegalStateException(text + " answered " + lines);
        }
        return span;
    }

    static void fill(MovedSpan span, int tray, int... numbers) {
        span.numbers(tray, 2, numbers.length);
        for (int i = 0; i < numbers.length; i++) {
            span.write(tray, i, numbers[i]);
        }
    }
}
