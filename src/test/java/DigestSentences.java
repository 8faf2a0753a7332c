import java.math.BigInteger;
import java.util.ArrayList;
import java.util.List;

/** Promise 32, sentence by sentence: the digest is compared with one made of the other calls' answers. */
final class DigestSentences {
    private static final String FULL_BUFFER = "0@0a;15@3h;-10;".repeat(4);

    private DigestSentences() {
    }

    static void tell(Sentences all) {
        all.hold(32, "Computes a hash of the whole state", DigestSentences::wholeState);
        all.hold(32, "The hash starts at 3719", DigestSentences::start);
        all.hold(32, "the hash becomes 31 * hash + v, in long arithmetic with overflow", DigestSentences::overflow);
        all.hold(32, "The values are: count(0) to count(13)", DigestSentences::counts);
        all.hold(32, "for each guest the numbers 0 to 6, and bestSeat", DigestSentences::guests);
        all.hold(32, "for each table its numbers 0 to 4, who for each of its seats, and the characters of it as a text",
            DigestSentences::tables);
        all.hold(32, "seated of each place", DigestSentences::seated);
        all.hold(32, "feudAt of each place", DigestSentences::feudAt);
        all.hold(32, "ifFeud of the families 0 and 1, and 2 and 3", DigestSentences::ifFeud);
        all.hold(32, "ifSeated of 0 and 1", DigestSentences::ifSeated);
        all.hold(32, "the bits of met (as Double.doubleToLongBits)", DigestSentences::bitsOfMet);
        all.hold(32, "the length of the buffer and each of its character codes", DigestSentences::buffer);
        all.hold(32, "Returns the hash", DigestSentences::changesNothing);
    }

    /** The values in the document's order; the buffer's text is not told by any call. */
    private static List<Long> values(SupperSeats x, String buffer) {
        List<Long> values = new ArrayList<>();
        for (int what = 0; what <= 13; what++) {
            values.add((long) x.count(what));
        }
        addGuests(x, values);
        addTables(x, values);
        for (int place = 0; place < x.count(3); place++) {
            values.add((long) x.seated(place));
        }
        for (int place = 0; place < x.count(2); place++) {
            values.add((long) x.feudAt(place));
        }
        values.add((long) x.ifFeud(0, 1));
        values.add((long) x.ifFeud(2, 3));
        values.add((long) x.ifSeated(0));
        values.add((long) x.ifSeated(1));
        values.add(Double.doubleToLongBits(x.met()));
        values.add((long) buffer.length());
        for (char code : buffer.toCharArray()) {
            values.add((long) code);
        }
        return values;
    }

    private static void addGuests(SupperSeats x, List<Long> values) {
        int guests = x.count(0);
        for (int guest = 0; guest < guests; guest++) {
            for (int what = 0; what <= 6; what++) {
                values.add((long) x.guestOf(guest, what));
            }
            values.add((long) x.bestSeat(guest));
        }
    }

    private static void addTables(SupperSeats x, List<Long> values) {
        int tables = x.count(1);
        for (int table = 0; table < tables; table++) {
            for (int what = 0; what <= 4; what++) {
                values.add((long) x.tableOf(table, what));
            }
            int seats = x.tableOf(table, 0);
            for (int seat = 0; seat < seats; seat++) {
                values.add((long) x.who(table, seat));
            }
            for (int index = 0; x.told(table, index) != SupperSeats.NONE; index++) {
                values.add((long) x.told(table, index));
            }
        }
    }

    private static long hash(List<Long> values) {
        long hash = 3719;
        for (long value : values) {
            hash = 31 * hash + value;
        }
        return hash;
    }

    private static void compare(String call, SupperSeats x) {
        Due.is(call, x.digest(), hash(values(x, "")));
    }

    private static void wholeState() {
        SupperSeats x = Given.supper("8745", Given.sixteenGuests(), "");
        x.seatAll();
        Given.wish(x, "0>15 15>0 7>8 3>4");
        Given.feud(x, "FE DA");
        Given.buffer(x, FULL_BUFFER);
        Due.is("digest", x.digest(), hash(values(x, FULL_BUFFER)));
    }

    private static void start() {
        SupperSeats x = new SupperSeats();
        long hash = 3719;
        long[] values = {0, 0, 0, 0, 0, 0, 0, 0, 0, 3, 5, 3, 2, 0, 0, 0, 0, 1000, 0x3FF0000000000000L, 0};
        for (long value : values) {
            hash = 31 * hash + value;
        }
        Due.is("digest of a new object", x.digest(), hash);
    }

    private static void overflow() {
        SupperSeats x = Given.supper("3", "A1 B1", "0@0a 1@0b");
        BigInteger hash = BigInteger.valueOf(3719);
        for (long value : values(x, "")) {
            hash = hash.multiply(BigInteger.valueOf(31)).add(BigInteger.valueOf(value));
        }
        Due.is("it does overflow", hash.bitLength() > 64 ? 1 : 0, 1);
        Due.is("digest", x.digest(), hash.longValue());
    }

    private static void counts() {
        SupperSeats x = Given.supper("38", "A1 B2 C1", "0@0a 1@1d 2@0b 0@1c");
        Given.wish(x, "0>1 1>2");
        x.feud(4, 5);
        x.set(0, 4);
        x.set(1, 6);
        x.set(2, 7);
        x.set(3, 8);
        compare("digest", x);
        x.undo();
        compare("digest with a saved state less", x);
    }

    private static void guests() {
        SupperSeats x = Given.supper("", "F3", "");
        compare("digest with one guest", x);
        SupperSeats y = Given.supper("", Given.sixteenGuests(), "");
        compare("digest with 16 guests", y);
        SupperSeats z = Given.supper("38", "A1 F2 C3 D2", "1@1g 0@1h");
        Given.wish(z, "0>1 1>0 2>0");
        compare("digest with guests who sit", z);
    }

    private static void tables() {
        compare("digest with one table", Given.supper("3", "", ""));
        compare("digest with four tables", Given.supper("3458", "", ""));
        compare("digest with guests at tables", Given.supper("384", "A1 F2 C2 A1", "0@1h 1@1a 2@0b 3@2d"));
    }

    private static void seated() {
        SupperSeats x = Given.supper("88", Given.sixteenGuests(), "");
        x.seatAll();
        compare("digest where all sit", x);
        SupperSeats y = Given.supper("3", "A1 B1", "1@0a 0@0b");
        SupperSeats z = Given.supper("3", "A1 B1", "0@0b 1@0a");
        compare("digest where the last one sat down first", y);
        Due.is("the order is told apart", y.digest() == z.digest() ? 1 : 0, 0);
    }

    private static void feudAt() {
        SupperSeats x = new SupperSeats();
        Given.feud(x, "EF AB");
        compare("digest with two feuds", x);
        Given.feud(x, "AC AD AE AF BC BD");
        compare("digest with 8 feuds", x);
    }

    private static void ifFeud() {
        SupperSeats x = Given.supper("88", "A1 A1 B1 C1 D1", "0@0a 1@0b 2@0c 3@1a 4@1b");
        compare("digest where 1 and 1 would stand up", x);
        x.rise(3);
        compare("digest where 1 and 0 would stand up", x);
        SupperSeats z = Given.supper("88", "A1 B1 B1 C1 C1 D1 C1 D1", "0@0a 1@0b 2@0c 3@1a 4@1b 5@1c 6@0d 7@0e");
        compare("digest where 1 and 2 would stand up", z);
        SupperSeats y = Given.supper("8", "A1 B1 C1 C1 C1 D1 D1 D1", "0@0a 2@0c 3@0d 4@0e 5@0f 6@0g 7@0h");
        compare("digest where 0 and 3 would stand up", y);
        y.feud(2, 3);
        compare("digest where there is this feud", y);
    }

    private static void ifSeated() {
        SupperSeats x = Given.supper("3", "A2 B1 C3 D3 E1", "");
        x.wish(1, 0);
        compare("digest where some would stay standing", x);
        x.set(3, 9);
        x.set(1, 0);
        compare("digest where the points would be other ones", x);
    }

    /** Of 16 guests the lower ones wish, some of them for a guest at their table, the others for one at the other table. */
    private static void bitsOfMet() {
        for (int wishes = 0; wishes <= 16; wishes++) {
            for (int met = 0; met <= wishes; met++) {
                SupperSeats x = Given.supper("88", Given.sixteenGuests(), "");
                x.seatAll();
                for (int guest = 0; guest < wishes; guest++) {
                    x.wish(guest, guest < met ? guest ^ 1 : guest ^ 8);
                }
                Due.isShare("met", x.met(), wishes == 0 ? 1.0 : (double) met / wishes);
                compare("digest with " + met + " of " + wishes, x);
            }
        }
    }

    private static void buffer() {
        for (int length = 0; length <= 60; length += 15) {
            SupperSeats x = Given.supper("3", "A1", "");
            String text = FULL_BUFFER.substring(0, length);
            Given.buffer(x, text);
            Due.is("digest with " + length + " characters", x.digest(), hash(values(x, text)));
        }
        SupperSeats y = Given.buffer(new SupperSeats(), "!~x");
        Due.is("digest with any characters", y.digest(), hash(values(y, "!~x")));
        y.clearBuffer();
        compare("digest with a cleared buffer", y);
    }

    private static void changesNothing() {
        SupperSeats x = Given.supper("83", "A1 B2 C3 D1", "0@0b 1@1b");
        long first = x.digest();
        Due.is("digest again", x.digest(), first);
        Due.is("digest of the same calls", Given.supper("83", "A1 B2 C3 D1", "0@0b 1@1b").digest(), first);
        Due.line("seated", x::seated, 0, 1);
        Due.is("sat down", x.count(7), 2);
    }
}
