import java.util.function.IntBinaryOperator;
import java.util.function.IntSupplier;
import java.util.function.IntUnaryOperator;

/** All that can be asked of an object, as one text: to see that it is as it was. */
final class Look {
    static final int PARTS = 4;
    private final AgreedInput x;
    private final StringBuilder text = new StringBuilder();

    private Look(AgreedInput x) {
        this.x = x;
    }

    /** What is so, but for the tape and fault(); nothing is changed by this. */
    static String of(AgreedInput x) {
        StringBuilder text = new StringBuilder();
        for (int n = 0; n < PARTS; n++) {
            text.append(part(x, n));
        }
        return text.toString();
    }

    /** A part of it, from 0, for an object that has no calls left for all of it. */
    static String part(AgreedInput x, int n) {
        Look look = new Look(x);
        switch (n) {
            case 0: look.world(); break;
            case 1: look.entries(); break;
            case 2: look.copies(); break;
            default: look.told(); break;
        }
        return look.text.toString();
    }

    /** And what can be undone, and both images; the object is used up by this. */
    static String through(AgreedInput x) {
        StringBuilder text = new StringBuilder(of(x));
        for (int left = x.undo(); left >= 0; left = x.undo()) {
            text.append(" undone:").append(left).append(',').append(x.now(0)).append(',').append(x.now(1)).append(',')
                .append(x.now(2)).append(',').append(x.now(3)).append(',').append(x.now(4));
        }
        for (int k = 0; k < 2; k++) {
            text.append(x.restore(k) ? " image:" + of(x) : " no image");
        }
        return text.toString();
    }

    private void one(String name, IntSupplier asked) {
        long answer = Due.answer(asked);
        text.append(name).append(answer == Due.NO_SUCH ? "-" : Long.toString(answer)).append(' ');
    }

    private void row(String name, int number, IntUnaryOperator asked) {
        text.append(name).append(' ');
        for (int i = 0; i < number; i++) {
            int n = i;
            one("", () -> asked.applyAsInt(n));
        }
    }

    private void table(String name, int rows, int columns, IntBinaryOperator asked) {
        for (int i = 0; i < rows; i++) {
            int n = i;
            row(name + i, columns, j -> asked.applyAsInt(n, j));
        }
    }

    /** Till the first NONE. */
    private void list(String name, IntUnaryOperator asked) {
        text.append(name).append(' ');
        for (int i = 0; i < 50; i++) {
            int answer = asked.applyAsInt(i);
            text.append(answer).append(' ');
            if (answer < 0) {
                return;
            }
        }
    }

    private void world() {
        row("count", 5, x::count);
        row("now", 9, x::now);
        table("key", x.count(1), 4, x::key);
        row("serial", x.count(1), x::serial);
        table("trans", x.now(1), 5, x::trans);
        for (int s = 0; s < x.count(0); s++) {
            int site = s;
            list("arrived" + s, i -> x.arrived(site, i));
        }
    }

    private void entries() {
        table("entry", x.now(2), 6, x::entry);
        for (int i = 0; i < x.now(2); i++) {
            int place = i;
            list("foreseen" + i, j -> x.foreseen(place, j));
        }
    }

    private void copies() {
        for (int c = 0; c < x.count(2); c++) {
            int copy = c;
            row("value" + c, x.count(1), k -> x.value(copy, k));
            row("how" + c, x.now(2), i -> x.how(copy, i));
            row("waits" + c, x.now(2), i -> x.waits(copy, i));
            list("ready" + c, i -> x.ready(copy, i));
            for (int k = 0; k < x.count(1); k++) {
                int key = k;
                list("asks" + c + "." + k, i -> x.asks(copy, key, i));
            }
        }
    }

    private void told() {
        one("same", x::same);
        one("chain", x::chain);
        one("least", x::least);
        one("over", x::over);
        list("soAt", x::soAt);
        one("ask", x::ask);
        row("told", 4, x::told);
        one("said", () -> x.said(-1));
        list("said", x::said);
    }
}
