/** Suppers to begin a test with, told as short texts. */
final class Given {
    private Given() {
    }

    /**
     * Tables by their seats ("83"), guests by family and size ("A1 F3") and who sits where ("0@0a 1@0b"), each in the
     * order of the calls.
     */
    static SupperSeats supper(String tables, String guests, String seats) {
        SupperSeats x = new SupperSeats();
        for (char seatsOfTable : tables.toCharArray()) {
            x.table(seatsOfTable - '0');
        }
        for (String guest : words(guests)) {
            x.guest(guest.charAt(0) - 'A', guest.charAt(1) - '0');
        }
        sit(x, seats);
        return x;
    }

    static void sit(SupperSeats x, String seats) {
        for (String seat : words(seats)) {
            int at = seat.indexOf('@');
            x.sit(Integer.parseInt(seat.substring(0, at)), seat.charAt(at + 1) - '0', seat.charAt(at + 2) - 'a');
        }
    }

    /** Wishes, told as "0>1 1>0". */
    static void wish(SupperSeats x, String wishes) {
        for (String wish : words(wishes)) {
            int to = wish.indexOf('>');
            x.wish(Integer.parseInt(wish.substring(0, to)), Integer.parseInt(wish.substring(to + 1)));
        }
    }

    /** Feuds, told as "AB CD". */
    static void feud(SupperSeats x, String feuds) {
        for (String feud : words(feuds)) {
            x.feud(feud.charAt(0) - 'A', feud.charAt(1) - 'A');
        }
    }

    static SupperSeats buffer(SupperSeats x, String text) {
        Due.append(x, text);
        return x;
    }

    /** Does what the text tells, and answers how many parts were done. */
    static int seats(SupperSeats x, String text) {
        return buffer(x, text).seats();
    }

    /** Leaves at most 5 saved states and changes nothing else. */
    static void roomToSave(SupperSeats x) {
        x.set(3, x.count(12));
        x.undo();
    }

    /** 16 guests of size 1, of the families A to F in turn. */
    static String sixteenGuests() {
        return "A1 B1 C1 D1 E1 F1 A1 B1 C1 D1 E1 F1 A1 B1 C1 D1";
    }

    /**
     * Numbers that are not in the range: next to it, far off, and such as become right when 8, 16 or 29 of their bits
     * alone are looked at.
     */
    static int[] outside(int least, int most) {
        return new int[] {least - 1, most + 1, most + 2, least + 256, least + (1 << 16), most + (1 << 29),
            least + Integer.MIN_VALUE, Integer.MIN_VALUE, Integer.MAX_VALUE, -8 + least};
    }

    private static String[] words(String text) {
        return text.isEmpty() ? new String[0] : text.split(" ");
    }
}
