import java.util.function.IntUnaryOperator;
import java.util.function.LongSupplier;

/** Compares answers with those that are due, and counts the wrong ones. */
final class Due {
    static final Class<? extends RuntimeException> INDEX = IndexOutOfBoundsException.class;
    static final Class<? extends RuntimeException> ARGUMENT = IllegalArgumentException.class;
    static final Class<? extends RuntimeException> STATE = IllegalStateException.class;

    private static int wrong = 0;
    private static int looked = 0;
    private static String about = "";

    private Due() {
    }

    /** What is told ahead of each wrong answer from here on. */
    static void about(String sentence) {
        about = sentence;
    }

    static void is(String call, long got, long want) {
        looked++;
        if (got != want) {
            report(call + " answered " + got + ", due is " + want);
        }
    }

    static void isShare(String call, double got, double want) {
        looked++;
        if (Double.doubleToLongBits(got) != Double.doubleToLongBits(want)) {
            report(call + " answered " + got + ", due is " + want);
        }
    }

    /** The call must throw just this class (no class below it) and must change nothing. */
    static void fails(SupperSeats x, String call, Class<? extends RuntimeException> kind, LongSupplier made) {
        looked++;
        long before = x.digest();
        try {
            long got = made.getAsLong();
            report(call + " answered " + got + ", due is " + kind.getSimpleName());
        } catch (RuntimeException e) {
            if (e.getClass() != kind) {
                report(call + " threw " + e + ", due is " + kind.getSimpleName());
            }
        }
        if (x.digest() != before) {
            report(call + " threw and changed something");
        }
    }

    /** The call must save one state, and undo must bring back all from before it. */
    static void undoable(SupperSeats x, String call, Runnable made) {
        Given.roomToSave(x);
        long before = x.digest();
        int saved = x.count(13);
        made.run();
        is("saved states after " + call, x.count(13), saved + 1);
        is("undo of " + call, x.undo(), saved);
        is("digest after undo of " + call, x.digest(), before);
    }

    /** The call must change nothing. */
    static void changesNothing(SupperSeats x, String call, Runnable made) {
        long before = x.digest();
        made.run();
        is("digest after " + call, x.digest(), before);
    }

    /** Each place of a line, and NONE behind it. */
    static void line(String call, IntUnaryOperator got, int... want) {
        for (int place = 0; place < want.length; place++) {
            is(call + "(" + place + ")", got.applyAsInt(place), want[place]);
        }
        is(call + "(" + want.length + ")", got.applyAsInt(want.length), SupperSeats.NONE);
    }

    static void report(String text) {
        wrong++;
        if (wrong <= 40) {
            System.out.println(about + text);
        }
    }

    static void append(SupperSeats x, String text) {
        for (int i = 0; i < text.length(); i++) {
            x.append(text.charAt(i));
        }
    }

    /** What the table tells, as a text. */
    static String told(SupperSeats x, int table) {
        StringBuilder told = new StringBuilder();
        for (int i = 0; i < 20 && x.told(table, i) != SupperSeats.NONE; i++) {
            told.append((char) x.told(table, i));
        }
        return told.toString();
    }

    static void isText(String call, String got, String want) {
        looked++;
        if (!got.equals(want)) {
            report(call + " answered " + got + ", due is " + want);
        }
    }

    static void end(String name) {
        System.out.println(name + ": " + looked + " answers, " + wrong + " wrong");
        if (wrong != 0) {
            System.exit(1);
        }
    }
}
