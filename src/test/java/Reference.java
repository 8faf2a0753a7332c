import java.util.ArrayDeque;
import java.util.ArrayList;
import java.util.HashSet;
import java.util.List;
import java.util.Set;

/** The document once more, in the slowest and plainest way, to compare the class with. */
final class Reference {
    static final int[] LEAST = {1, 0, 0, 0};
    static final int[] MOST = {8, 20, 20, 9};
    static final Set<String> PARTS = new HashSet<>();
    static final Set<String> STARTS = new HashSet<>();

    static {
        for (int guest = 0; guest < 16; guest++) {
            PARTS.add("-" + guest);
            for (int table = 0; table < 4; table++) {
                for (char seat = 'a'; seat <= 'h'; seat++) {
                    PARTS.add(guest + "@" + table + seat);
                }
            }
        }
        for (String part : PARTS) {
            for (int end = 0; end <= part.length(); end++) {
                STARTS.add(part.substring(0, end));
            }
        }
    }

    static final class Guest {
        int family;
        int size;
        int wish = -1;
        int table = -1;
        int seat = -1;
    }

    static final class State {
        final List<Guest> guests = new ArrayList<>();
        final List<Integer> tables = new ArrayList<>();
        final List<Integer> order = new ArrayList<>();
        final List<Integer> feuds = new ArrayList<>();
        int[] settings = {3, 5, 3, 2};
        int sat = 0;
        int rose = 0;

        State copy() {
            State copy = new State();
            for (Guest guest : guests) {
                Guest twin = new Guest();
                twin.family = guest.family;
                twin.size = guest.size;
                twin.wish = guest.wish;
                twin.table = guest.table;
                twin.seat = guest.seat;
                copy.guests.add(twin);
            }
            copy.tables.addAll(tables);
            copy.order.addAll(order);
            copy.feuds.addAll(feuds);
            copy.settings = settings.clone();
            copy.sat = sat;
            copy.rose = rose;
            return copy;
        }
    }

    State now = new State();
    State snapshot = null;
    final ArrayDeque<State> saved = new ArrayDeque<>();
    final StringBuilder buffer = new StringBuilder();

    // ---- the rules

    private static int who(State s, int table, int seat) {
        for (int g = 0; g < s.guests.size(); g++) {
            if (s.guests.get(g).table == table && s.guests.get(g).seat == seat) {
                return g;
            }
        }
        return -1;
    }

    private static int code(int family, int other) {
        return family < other ? 6 * family + other : 6 * other + family;
    }

    private static boolean leg(int seat) {
        return seat == 0 || seat == 3 || seat == 6;
    }

    private static int why(State s, int guest, int table, int seat) {
        Guest me = s.guests.get(guest);
        if (me.table == table && me.seat == seat) {
            return 1;
        }
        if (who(s, table, seat) >= 0) {
            return 2;
        }
        if (leg(seat) && me.size == 3) {
            return 3;
        }
        int kin = 0;
        for (Guest other : s.guests) {
            if (other == me || other.table != table) {
                continue;
            }
            if (other.family != me.family && s.feuds.contains(code(other.family, me.family))) {
                return 4;
            }
            if (other.family == me.family) {
                kin++;
            }
        }
        return kin >= s.settings[0] ? 5 : 0;
    }

    private static int level(State s, int guest) {
        Guest me = s.guests.get(guest);
        if (me.wish < 0 || me.table < 0 || s.guests.get(me.wish).table != me.table) {
            return 0;
        }
        int seats = s.tables.get(me.table);
        int other = s.guests.get(me.wish).seat;
        return (me.seat + 1) % seats == other || (other + 1) % seats == me.seat ? 2 : 1;
    }

    private static int pointsOf(State s, int guest) {
        Guest me = s.guests.get(guest);
        if (me.table < 0) {
            return 0;
        }
        int points = 1;
        if (leg(me.seat) && me.size == 2) {
            points -= s.settings[3];
        }
        int level = level(s, guest);
        if (level > 0) {
            points += s.settings[1];
        }
        if (level > 1) {
            points += s.settings[2];
        }
        return points;
    }

    private static int points(State s) {
        int points = 0;
        for (int g = 0; g < s.guests.size(); g++) {
            points += pointsOf(s, g);
        }
        return points;
    }

    private static int pointsAt(State s, int table) {
        int points = 0;
        for (int g = 0; g < s.guests.size(); g++) {
            if (s.guests.get(g).table == table) {
                points += pointsOf(s, g);
            }
        }
        return points;
    }

    private static int pointsIf(State s, int guest, int table, int seat) {
        Guest me = s.guests.get(guest);
        int wasTable = me.table;
        int wasSeat = me.seat;
        me.table = table;
        me.seat = seat;
        int points = points(s);
        me.table = wasTable;
        me.seat = wasSeat;
        return points;
    }

    private static int best(State s, int guest) {
        int best = -1;
        int most = Integer.MIN_VALUE;
        for (int table = 0; table < s.tables.size(); table++) {
            for (int seat = 0; seat < s.tables.get(table); seat++) {
                if (why(s, guest, table, seat) == 0 && pointsIf(s, guest, table, seat) > most) {
                    most = pointsIf(s, guest, table, seat);
                    best = 8 * table + seat;
                }
            }
        }
        return best;
    }

    private static void up(State s, int guest) {
        s.guests.get(guest).table = -1;
        s.guests.get(guest).seat = -1;
        s.order.remove(Integer.valueOf(guest));
        s.rose++;
    }

    private static void down(State s, int guest, int table, int seat) {
        if (s.guests.get(guest).table >= 0) {
            up(s, guest);
        }
        s.guests.get(guest).table = table;
        s.guests.get(guest).seat = seat;
        s.order.add(guest);
        s.sat++;
    }

    private static int seatAll(State s) {
        int left = 0;
        for (int g = 0; g < s.guests.size(); g++) {
            if (s.guests.get(g).table < 0) {
                int best = best(s, g);
                if (best < 0) {
                    left++;
                } else {
                    down(s, g, best / 8, best % 8);
                }
            }
        }
        return left;
    }

    private static List<Integer> risers(State s, int family, int other) {
        List<Integer> risers = new ArrayList<>();
        for (int table = 0; table < s.tables.size(); table++) {
            List<Integer> lesser = new ArrayList<>();
            List<Integer> greater = new ArrayList<>();
            for (int g = 0; g < s.guests.size(); g++) {
                if (s.guests.get(g).table == table && s.guests.get(g).family == Math.min(family, other)) {
                    lesser.add(g);
                }
                if (s.guests.get(g).table == table && s.guests.get(g).family == Math.max(family, other)) {
                    greater.add(g);
                }
            }
            if (!lesser.isEmpty() && !greater.isEmpty()) {
                risers.addAll(lesser.size() < greater.size() ? lesser : greater);
            }
        }
        return risers;
    }

    private void save() {
        saved.addLast(now.copy());
        if (saved.size() > 6) {
            saved.removeFirst();
        }
    }

    // ---- what throws

    private static void index(boolean fine) {
        if (!fine) {
            throw new IndexOutOfBoundsException();
        }
    }

    private static void argument(boolean fine) {
        if (!fine) {
            throw new IllegalArgumentException();
        }
    }

    private static void state(boolean fine) {
        if (!fine) {
            throw new IllegalStateException();
        }
    }

    private boolean isGuest(int guest) {
        return guest >= 0 && guest < now.guests.size();
    }

    private boolean isTable(int table) {
        return table >= 0 && table < now.tables.size();
    }

    private boolean isSeat(int table, int seat) {
        return isTable(table) && seat >= 0 && seat < now.tables.get(table);
    }

    private static boolean in(int value, int least, int most) {
        return value >= least && value <= most;
    }

    // ---- the face

    int guest(int family, int size) {
        argument(in(family, 0, 5) && in(size, 1, 3));
        state(now.guests.size() < 16);
        save();
        Guest guest = new Guest();
        guest.family = family;
        guest.size = size;
        now.guests.add(guest);
        return now.guests.size() - 1;
    }

    int wish(int guest, int friend) {
        index(isGuest(guest) && (friend == -1 || isGuest(friend)));
        argument(guest != friend);
        save();
        int was = now.guests.get(guest).wish;
        now.guests.get(guest).wish = friend;
        return was;
    }

    int table(int seats) {
        argument(in(seats, 3, 8));
        state(now.tables.size() < 4);
        save();
        now.tables.add(seats);
        return now.tables.size() - 1;
    }

    int feud(int family, int other) {
        argument(in(family, 0, 5) && in(other, 0, 5) && family != other);
        state(!now.feuds.contains(code(family, other)) && now.feuds.size() < 8);
        save();
        List<Integer> risers = risers(now, family, other);
        for (int riser : risers) {
            up(now, riser);
        }
        now.feuds.add(code(family, other));
        return risers.size();
    }

    int peace(int family, int other) {
        argument(in(family, 0, 5) && in(other, 0, 5) && family != other);
        state(now.feuds.contains(code(family, other)));
        save();
        now.feuds.remove(Integer.valueOf(code(family, other)));
        return now.feuds.size();
    }

    int set(int setting, int value) {
        index(in(setting, 0, 3));
        argument(in(value, LEAST[setting], MOST[setting]));
        save();
        int was = now.settings[setting];
        now.settings[setting] = value;
        return was;
    }

    int sit(int guest, int table, int seat) {
        index(isGuest(guest) && isSeat(table, seat));
        state(why(now, guest, table, seat) == 0);
        save();
        down(now, guest, table, seat);
        return points(now);
    }

    int rise(int guest) {
        index(isGuest(guest));
        state(now.guests.get(guest).table >= 0);
        save();
        up(now, guest);
        return points(now);
    }

    int swap(int guest, int other) {
        index(isGuest(guest) && isGuest(other));
        argument(guest != other);
        State then = now.copy();
        Guest one = now.guests.get(guest);
        Guest two = now.guests.get(other);
        state(one.table >= 0 && two.table >= 0);
        up(then, guest);
        up(then, other);
        state(why(then, guest, two.table, two.seat) == 0);
        down(then, guest, two.table, two.seat);
        state(why(then, other, one.table, one.seat) == 0);
        down(then, other, one.table, one.seat);
        save();
        now = then;
        return points(now);
    }

    int seatAll() {
        save();
        return seatAll(now);
    }

    int append(int code) {
        argument(in(code, 33, 126));
        state(buffer.length() < 60);
        buffer.append((char) code);
        return buffer.length();
    }

    int clearBuffer() {
        int length = buffer.length();
        buffer.setLength(0);
        return length;
    }

    private static boolean begins(String text) {
        String[] parts = text.split(";", -1);
        for (int i = 0; i < parts.length - 1; i++) {
            if (!PARTS.contains(parts[i])) {
                return false;
            }
        }
        return STARTS.contains(parts[parts.length - 1]);
    }

    int firstError() {
        for (int i = 0; i < buffer.length(); i++) {
            if (!begins(buffer.substring(0, i + 1))) {
                return i;
            }
        }
        return buffer.length();
    }

    int seats() {
        String[] parts = buffer.toString().split(";", -1);
        for (String part : parts) {
            argument(PARTS.contains(part));
        }
        save();
        int done = 0;
        for (String part : parts) {
            if (part.charAt(0) == '-') {
                int guest = Integer.parseInt(part.substring(1));
                if (isGuest(guest) && now.guests.get(guest).table >= 0) {
                    up(now, guest);
                    done++;
                }
                continue;
            }
            int guest = Integer.parseInt(part.substring(0, part.indexOf('@')));
            int table = part.charAt(part.length() - 2) - '0';
            int seat = part.charAt(part.length() - 1) - 'a';
            if (isGuest(guest) && isSeat(table, seat) && why(now, guest, table, seat) == 0) {
                down(now, guest, table, seat);
                done++;
            }
        }
        buffer.setLength(0);
        return done;
    }

    private String text(int table) {
        StringBuilder text = new StringBuilder();
        for (int seat = 0; seat < now.tables.get(table); seat++) {
            int holder = who(now, table, seat);
            text.append(holder < 0 ? '.' : "ABCDEF".charAt(now.guests.get(holder).family));
            if (leg(seat)) {
                text.append('|');
            }
        }
        return text.toString();
    }

    int told(int table, int index) {
        index(isTable(table));
        argument(index >= 0);
        return index < text(table).length() ? text(table).charAt(index) : -1;
    }

    int undo() {
        state(!saved.isEmpty());
        now = saved.removeLast();
        return saved.size();
    }

    int keep() {
        snapshot = now.copy();
        return now.order.size();
    }

    int restore() {
        state(snapshot != null);
        save();
        now = snapshot.copy();
        return now.order.size();
    }

    int guestOf(int guest, int what) {
        index(isGuest(guest));
        argument(in(what, 0, 6));
        Guest me = now.guests.get(guest);
        int[] numbers = {me.family, me.size, me.wish, me.table, me.seat, level(now, guest), pointsOf(now, guest)};
        return numbers[what];
    }

    int tableOf(int table, int what) {
        index(isTable(table));
        argument(in(what, 0, 4));
        int sitting = 0;
        int mask = 0;
        int easy = 0;
        for (int seat = 0; seat < now.tables.get(table); seat++) {
            int holder = who(now, table, seat);
            if (holder >= 0) {
                sitting++;
                mask |= 1 << now.guests.get(holder).family;
            } else if (!leg(seat)) {
                easy++;
            }
        }
        int[] numbers = {now.tables.get(table), sitting, mask, pointsAt(now, table), easy};
        return numbers[what];
    }

    int who(int table, int seat) {
        index(isSeat(table, seat));
        return who(now, table, seat);
    }

    int seated(int place) {
        argument(place >= 0);
        return place < now.order.size() ? now.order.get(place) : -1;
    }

    int feudAt(int place) {
        argument(place >= 0);
        return place < now.feuds.size() ? now.feuds.get(place) : -1;
    }

    private int wishesMet() {
        int met = 0;
        for (int g = 0; g < now.guests.size(); g++) {
            met += level(now, g) > 0 ? 1 : 0;
        }
        return met;
    }

    int count(int what) {
        argument(in(what, 0, 13));
        int[] numbers = {now.guests.size(), now.tables.size(), now.feuds.size(), now.order.size(), points(now),
            points(now), wishesMet(), now.sat, now.rose, now.settings[0], now.settings[1], now.settings[2],
            now.settings[3], saved.size()};
        return numbers[what];
    }

    int whyNot(int guest, int table, int seat) {
        index(isGuest(guest) && isSeat(table, seat));
        return why(now, guest, table, seat);
    }

    int ifSat(int guest, int table, int seat) {
        index(isGuest(guest) && isSeat(table, seat));
        return why(now, guest, table, seat) == 0 ? 1000 + pointsIf(now, guest, table, seat) : -1;
    }

    int bestSeat(int guest) {
        index(isGuest(guest));
        return best(now, guest);
    }

    int ifFeud(int family, int other) {
        argument(in(family, 0, 5) && in(other, 0, 5) && family != other);
        return now.feuds.contains(code(family, other)) ? 0 : risers(now, family, other).size();
    }

    int ifSeated(int what) {
        argument(in(what, 0, 1));
        State then = now.copy();
        int left = seatAll(then);
        return what == 0 ? left : 1000 + points(then);
    }

    double met() {
        int wishes = 0;
        for (Guest guest : now.guests) {
            wishes += guest.wish >= 0 ? 1 : 0;
        }
        return wishes == 0 ? 1.0 : (double) wishesMet() / wishes;
    }

    long digest() {
        List<Long> values = new ArrayList<>();
        for (int what = 0; what <= 13; what++) {
            values.add((long) count(what));
        }
        for (int g = 0; g < now.guests.size(); g++) {
            for (int what = 0; what <= 6; what++) {
                values.add((long) guestOf(g, what));
            }
            values.add((long) bestSeat(g));
        }
        for (int t = 0; t < now.tables.size(); t++) {
            for (int what = 0; what <= 4; what++) {
                values.add((long) tableOf(t, what));
            }
            for (int seat = 0; seat < now.tables.get(t); seat++) {
                values.add((long) who(t, seat));
            }
            for (char c : text(t).toCharArray()) {
                values.add((long) c);
            }
        }
        for (int guest : now.order) {
            values.add((long) guest);
        }
        for (int feud : now.feuds) {
            values.add((long) feud);
        }
        values.add((long) ifFeud(0, 1));
        values.add((long) ifFeud(2, 3));
        values.add((long) ifSeated(0));
        values.add((long) ifSeated(1));
        values.add(Double.doubleToLongBits(met()));
        values.add((long) buffer.length());
        for (int i = 0; i < buffer.length(); i++) {
            values.add((long) buffer.charAt(i));
        }
        long hash = 3719;
        for (long value : values) {
            hash = 31 * hash + value;
        }
        return hash;
    }
}
