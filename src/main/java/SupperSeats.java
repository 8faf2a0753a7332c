/** Harvest supper seat plan by feuds, friends and table legs. */
public final class SupperSeats {
    /** There is nothing to return. */
    public static final int NONE = -1;

    private static final int MOST_GUESTS = 16;
    private static final int MOST_TABLES = 4;
    private static final int MOST_FEUDS = 8;
    private static final int MOST_SAVED = 6;
    private static final int MOST_CHARACTERS = 60;
    private static final int FAMILIES = 6;
    private static final int LEAST_SIZE = 1;
    private static final int MIDDLE_SIZE = 2;
    private static final int GREATEST_SIZE = 3;
    private static final int LEAST_SEATS = 3;
    private static final int MOST_SEATS = 8;
    private static final int SEATS_FROM_LEG_TO_LEG = 3;

    private static final int SETTING_KIN = 0;
    private static final int SETTING_WISH = 1;
    private static final int SETTING_BESIDE = 2;
    private static final int SETTING_LEG = 3;
    private static final int SETTINGS = 4;
    private static final int[] FIRST_VALUES = {3, 5, 3, 2};
    private static final int[] LEAST_VALUES = {1, 0, 0, 0};
    private static final int[] GREATEST_VALUES = {8, 20, 20, 9};

    private static final int COUNTS = 14;
    private static final int GUEST_NUMBERS = 7;
    private static final int TABLE_NUMBERS = 5;
    private static final int SEATED_NUMBERS = 2;
    /** Keeps points that are below 0 apart from NONE. */
    private static final int ABOVE_NONE = 1000;

    private final Plan now = new Plan();
    private final Plan trial = new Plan();
    private final Plan snapshot = new Plan();
    private final History history = new History();
    private final SeatText text = new SeatText();
    private boolean hasSnapshot;

    public SupperSeats() {
        hasSnapshot = false;
    }

    // ---- guests, tables, feuds

    public int guest(int family, int size) throws IllegalArgumentException, IllegalStateException {
        if (!isFamily(family) || size < LEAST_SIZE || size > GREATEST_SIZE) {
            throw new IllegalArgumentException("family or size is out of range");
        }
        if (now.guests >= MOST_GUESTS) {
            throw new IllegalStateException("there are 16 guests");
        }
        history.save(now);
        return now.addGuest(family, size);
    }

    public int wish(int guest, int friend) throws IndexOutOfBoundsException, IllegalArgumentException {
        needGuest(guest);
        if (friend != NONE) {
            needGuest(friend);
        }
        if (friend == guest) {
            throw new IllegalArgumentException("the friend is the guest");
        }
        history.save(now);
        int previous = Rows.at(now.wishes, guest);
        Rows.put(now.wishes, guest, friend);
        return previous;
    }

    public int table(int seats) throws IllegalArgumentException, IllegalStateException {
        if (seats < LEAST_SEATS || seats > MOST_SEATS) {
            throw new IllegalArgumentException("seats is out of range");
        }
        if (now.tables >= MOST_TABLES) {
            throw new IllegalStateException("there are 4 tables");
        }
        history.save(now);
        return now.addTable(seats);
    }

    public int feud(int family, int other) throws IllegalArgumentException, IllegalStateException {
        needTwoFamilies(family, other);
        if (now.hasFeud(family, other) || now.feuds.isFull()) {
            throw new IllegalStateException("there is this feud already, or there are 8");
        }
        history.save(now);
        return now.beginFeud(family, other);
    }

    public int peace(int family, int other) throws IllegalArgumentException, IllegalStateException {
        needTwoFamilies(family, other);
        if (!now.hasFeud(family, other)) {
            throw new IllegalStateException("there is no such feud");
        }
        history.save(now);
        now.feuds.dropItem(Plan.feudCode(family, other));
        return now.feuds.length();
    }

    public int set(int setting, int value) throws IndexOutOfBoundsException, IllegalArgumentException {
        if (setting < 0 || setting >= SETTINGS) {
            throw new IndexOutOfBoundsException("no such setting");
        }
        if (value < Rows.at(LEAST_VALUES, setting) || value > Rows.at(GREATEST_VALUES, setting)) {
            throw new IllegalArgumentException("value is out of range");
        }
        history.save(now);
        int previous = Rows.at(now.settings, setting);
        Rows.put(now.settings, setting, value);
        return previous;
    }

    // ---- seats

    public int sit(int guest, int table, int seat) throws IndexOutOfBoundsException, IllegalStateException {
        needGuestAndSeat(guest, table, seat);
        if (now.reasonAgainst(guest, table, seat) != 0) {
            throw new IllegalStateException("the guest cannot take the seat");
        }
        history.save(now);
        now.takeSeat(guest, table, seat);
        return Score.byGuests(now);
    }

    public int rise(int guest) throws IndexOutOfBoundsException, IllegalStateException {
        needGuest(guest);
        if (!now.isSitting(guest)) {
            throw new IllegalStateException("the guest stands");
        }
        history.save(now);
        now.standUp(guest);
        return Score.byGuests(now);
    }

    public int swap(int guest, int other)
            throws IndexOutOfBoundsException, IllegalArgumentException, IllegalStateException {
        needGuest(guest);
        needGuest(other);
        if (guest == other) {
            throw new IllegalArgumentException("both are the same");
        }
        trial.copyFrom(now);
        if (!trial.exchange(guest, other)) {
            throw new IllegalStateException("one of both stands, or cannot take the seat");
        }
        history.save(now);
        now.copyFrom(trial);
        return Score.byGuests(now);
    }

    public int seatAll() {
        history.save(now);
        return now.seatStanding();
    }

    // ---- texts

    public int append(int code) throws IllegalArgumentException, IllegalStateException {
        if (code < 33 || code > 126) {
            throw new IllegalArgumentException("code is not 33 to 126");
        }
        if (text.codes.isFull()) {
            throw new IllegalStateException("the buffer has 60 characters");
        }
        text.codes.addLast(code);
        return text.codes.length();
    }

    public int clearBuffer() {
        int length = text.codes.length();
        text.codes.dropAll();
        return length;
    }

    public int firstError() {
        return text.firstBroken();
    }

    public int seats() throws IllegalArgumentException {
        if (!text.isComplete()) {
            throw new IllegalArgumentException("the buffer is not complete seats as a text");
        }
        history.save(now);
        int done = text.doParts(now);
        text.codes.dropAll();
        return done;
    }

    public int told(int table, int index) throws IndexOutOfBoundsException, IllegalArgumentException {
        needTable(table);
        if (index < 0) {
            throw new IllegalArgumentException("index is below 0");
        }
        return now.letterOfTable(table, index);
    }

    // ---- undo, the snapshot

    public int undo() throws IllegalStateException {
        if (history.length() == 0) {
            throw new IllegalStateException("there is no saved state");
        }
        history.takeLatest(now);
        return history.length();
    }

    public int keep() {
        snapshot.copyFrom(now);
        hasSnapshot = true;
        return now.order.length();
    }

    public int restore() throws IllegalStateException {
        if (!hasSnapshot) {
            throw new IllegalStateException("there is no snapshot");
        }
        history.save(now);
        now.copyFrom(snapshot);
        return now.order.length();
    }

    // ---- looks; nothing is changed

    public int guestOf(int guest, int what) throws IndexOutOfBoundsException, IllegalArgumentException {
        needGuest(guest);
        if (what < 0 || what >= GUEST_NUMBERS) {
            throw new IllegalArgumentException("what is not 0 to 6");
        }
        return guestNumber(guest, what);
    }

    public int tableOf(int table, int what) throws IndexOutOfBoundsException, IllegalArgumentException {
        needTable(table);
        if (what < 0 || what >= TABLE_NUMBERS) {
            throw new IllegalArgumentException("what is not 0 to 4");
        }
        return tableNumber(table, what);
    }

    public int who(int table, int seat) throws IndexOutOfBoundsException {
        needSeat(table, seat);
        return now.holderAt(table, seat);
    }

    public int seated(int place) throws IllegalArgumentException {
        needPlace(place);
        return now.order.itemAt(place);
    }

    public int feudAt(int place) throws IllegalArgumentException {
        needPlace(place);
        return now.feuds.itemAt(place);
    }

    public int count(int what) throws IllegalArgumentException {
        if (what < 0 || what >= COUNTS) {
            throw new IllegalArgumentException("what is not 0 to 13");
        }
        return countNumber(what);
    }

    public int whyNot(int guest, int table, int seat) throws IndexOutOfBoundsException {
        needGuestAndSeat(guest, table, seat);
        return now.reasonAgainst(guest, table, seat);
    }

    // ---- what would be; nothing is changed

    public int ifSat(int guest, int table, int seat) throws IndexOutOfBoundsException {
        needGuestAndSeat(guest, table, seat);
        if (now.reasonAgainst(guest, table, seat) != 0) {
            return NONE;
        }
        return Score.afterMove(now, guest, table, seat) + ABOVE_NONE;
    }

    public int bestSeat(int guest) throws IndexOutOfBoundsException {
        needGuest(guest);
        return now.bestPlace(guest);
    }

    public int ifFeud(int family, int other) throws IllegalArgumentException {
        needTwoFamilies(family, other);
        return now.risersOfFeud(family, other);
    }

    public int ifSeated(int what) throws IllegalArgumentException {
        if (what < 0 || what >= SEATED_NUMBERS) {
            throw new IllegalArgumentException("what is neither 0 nor 1");
        }
        return seatedNumber(what);
    }

    public double met() {
        return Score.shareMet(now);
    }

    public long digest() {
        long hash = 3719L;
        for (int what = 0; what < COUNTS; what++) {
            hash = 31L * hash + countNumber(what);
        }
        hash = hashGuests(hash);
        hash = hashTables(hash);
        hash = hashLine(hash, now.order);
        hash = hashLine(hash, now.feuds);
        hash = 31L * hash + now.risersOfFeud(0, 1);
        hash = 31L * hash + now.risersOfFeud(2, 3);
        for (int what = 0; what < SEATED_NUMBERS; what++) {
            hash = 31L * hash + seatedNumber(what);
        }
        hash = 31L * hash + bitsOfShare(Score.shareMet(now));
        hash = 31L * hash + text.codes.length();
        return hashLine(hash, text.codes);
    }

    // ---- the arguments of calls

    private static boolean isFamily(int family) {
        return family >= 0 && family < FAMILIES;
    }

    private static void needTwoFamilies(int family, int other) {
        if (!isFamily(family) || !isFamily(other) || family == other) {
            throw new IllegalArgumentException("a family is out of range, or both are the same");
        }
    }

    private static void needPlace(int place) {
        if (place < 0) {
            throw new IllegalArgumentException("place is below 0");
        }
    }

    private void needGuest(int guest) {
        if (!now.isGuest(guest)) {
            throw new IndexOutOfBoundsException("no such guest");
        }
    }

    private void needTable(int table) {
        if (!now.isTable(table)) {
            throw new IndexOutOfBoundsException("no such table");
        }
    }

    private void needSeat(int table, int seat) {
        if (!now.isSeat(table, seat)) {
            throw new IndexOutOfBoundsException("no such table or seat");
        }
    }

    private void needGuestAndSeat(int guest, int table, int seat) {
        needGuest(guest);
        needSeat(table, seat);
    }

    // ---- numbers that looks and the digest share

    private int guestNumber(int guest, int what) {
        switch (what) {
            case 0: return Rows.at(now.families, guest);
            case 1: return Rows.at(now.sizes, guest);
            case 2: return Rows.at(now.wishes, guest);
            case 3: return Rows.at(now.tableAt, guest);
            case 4: return Rows.at(now.seatAt, guest);
            case 5: return Score.levelOfGuest(now, guest);
            default: return Score.ofGuest(now, guest);
        }
    }

    private int tableNumber(int table, int what) {
        switch (what) {
            case 0: return now.seatsAt(table);
            case 1: return now.sittingAt(table);
            case 2: return now.familyMask(table);
            case 3: return Score.ofTable(now, table);
            default: return now.easySeatsFree(table);
        }
    }

    private int countNumber(int what) {
        switch (what) {
            case 0: return now.guests;
            case 1: return now.tables;
            case 2: return now.feuds.length();
            case 3: return now.order.length();
            case 4: return Score.byGuests(now);
            case 5: return Score.byTables(now);
            case 6: return Score.wishesMet(now);
            case 7: return now.timesSat;
            case 8: return now.timesRisen;
            case 13: return history.length();
            default: return Rows.at(now.settings, what - 9);
        }
    }

    private int seatedNumber(int what) {
        trial.copyFrom(now);
        int standing = trial.seatStanding();
        return what == 0 ? standing : Score.byGuests(trial) + ABOVE_NONE;
    }

    // ---- parts of the digest

    private long hashGuests(long start) {
        long hash = start;
        for (int guest = 0; guest < now.guests; guest++) {
            for (int what = 0; what < GUEST_NUMBERS; what++) {
                hash = 31L * hash + guestNumber(guest, what);
            }
            hash = 31L * hash + now.bestPlace(guest);
        }
        return hash;
    }

    private long hashTables(long start) {
        long hash = start;
        for (int table = 0; table < now.tables; table++) {
            for (int what = 0; what < TABLE_NUMBERS; what++) {
                hash = 31L * hash + tableNumber(table, what);
            }
            for (int seat = 0; seat < now.seatsAt(table); seat++) {
                hash = 31L * hash + now.holderAt(table, seat);
            }
            int letters = now.lettersOfTable(table);
            for (int index = 0; index < letters; index++) {
                hash = 31L * hash + now.letterOfTable(table, index);
            }
        }
        return hash;
    }

    private static long hashLine(long start, Line line) {
        long hash = start;
        for (int index = 0; index < line.length(); index++) {
            hash = 31L * hash + line.itemAt(index);
        }
        return hash;
    }

    /**
     * The bits as Double.doubleToLongBits tells them, which the language leaves out.
     * A share is 0 or from 1/16 to 1, so every step here is exact.
     */
    private static long bitsOfShare(double share) {
        if (share <= 0.0) {
            return 0L;
        }
        double scaled = share;
        long exponent = 1023L;
        for (int i = 0; i < 64 && scaled < 1.0; i++) {
            scaled = scaled * 2.0;
            exponent--;
        }
        double fraction = (scaled - 1.0) * (double) (1L << 52);
        return (exponent << 52) + (long) fraction;
    }

    /** Rows of numbers, of which no index outside is ever used. */
    private static final class Rows {
        private Rows() {
        }

        static int at(int[] row, int index) {
            return index >= 0 && index < row.length ? row[index] : NONE;
        }

        static void put(int[] row, int index, int value) {
            if (index >= 0 && index < row.length) {
                row[index] = value;
            }
        }

        static void copy(int[] from, int[] to) {
            for (int index = 0; index < from.length && index < to.length; index++) {
                to[index] = from[index];
            }
        }
    }

    /** Numbers in an order, as many as there is room for. */
    private static final class Line {
        private final int[] items;
        private int used;

        Line(int room) {
            items = new int[Math.max(room, 0)];
            used = 0;
        }

        int length() {
            return used;
        }

        boolean isFull() {
            return used >= items.length;
        }

        int itemAt(int index) {
            return index >= 0 && index < used && index < items.length ? items[index] : NONE;
        }

        boolean holds(int value) {
            for (int index = 0; index < used; index++) {
                if (itemAt(index) == value) {
                    return true;
                }
            }
            return false;
        }

        void addLast(int value) {
            if (!isFull()) {
                Rows.put(items, used, value);
                used++;
            }
        }

        void dropItem(int value) {
            int left = 0;
            for (int index = 0; index < used; index++) {
                int item = itemAt(index);
                if (item != value) {
                    Rows.put(items, left, item);
                    left++;
                }
            }
            used = left;
        }

        void dropAll() {
            used = 0;
        }

        void copyFrom(Line other) {
            Rows.copy(other.items, items);
            used = Math.min(other.used, items.length);
        }
    }

    /** All that undo and the snapshot bring back. */
    private static final class Plan {
        private final int[] families = new int[MOST_GUESTS];
        private final int[] sizes = new int[MOST_GUESTS];
        private final int[] wishes = new int[MOST_GUESTS];
        private final int[] tableAt = new int[MOST_GUESTS];
        private final int[] seatAt = new int[MOST_GUESTS];
        private final int[] tableSeats = new int[MOST_TABLES];
        private final int[] holders = new int[MOST_TABLES * MOST_SEATS];
        private final int[] settings = new int[SETTINGS];
        private final Line feuds = new Line(MOST_FEUDS);
        private final Line order = new Line(MOST_GUESTS);
        private int guests;
        private int tables;
        private int timesSat;
        private int timesRisen;

        Plan() {
            for (int setting = 0; setting < FIRST_VALUES.length && setting < settings.length; setting++) {
                settings[setting] = FIRST_VALUES[setting];
            }
        }

        void copyFrom(Plan other) {
            Rows.copy(other.families, families);
            Rows.copy(other.sizes, sizes);
            Rows.copy(other.wishes, wishes);
            Rows.copy(other.tableAt, tableAt);
            Rows.copy(other.seatAt, seatAt);
            Rows.copy(other.tableSeats, tableSeats);
            Rows.copy(other.holders, holders);
            Rows.copy(other.settings, settings);
            feuds.copyFrom(other.feuds);
            order.copyFrom(other.order);
            guests = other.guests;
            tables = other.tables;
            timesSat = other.timesSat;
            timesRisen = other.timesRisen;
        }

        // ---- looks

        boolean isGuest(int guest) {
            return guest >= 0 && guest < guests;
        }

        boolean isTable(int table) {
            return table >= 0 && table < tables;
        }

        boolean isSeat(int table, int seat) {
            return isTable(table) && seat >= 0 && seat < seatsAt(table);
        }

        static boolean isAtLeg(int seat) {
            return seat % SEATS_FROM_LEG_TO_LEG == 0;
        }

        boolean isSitting(int guest) {
            return Rows.at(tableAt, guest) != NONE;
        }

        int seatsAt(int table) {
            return table >= 0 && table < tableSeats.length ? tableSeats[table] : 0;
        }

        int holderAt(int table, int seat) {
            int place = table * MOST_SEATS + seat;
            return place >= 0 && place < holders.length ? holders[place] : NONE;
        }

        int sittingAt(int table) {
            int sitting = 0;
            for (int seat = 0; seat < seatsAt(table); seat++) {
                if (holderAt(table, seat) != NONE) {
                    sitting++;
                }
            }
            return sitting;
        }

        int easySeatsFree(int table) {
            int free = 0;
            for (int seat = 0; seat < seatsAt(table); seat++) {
                if (holderAt(table, seat) == NONE && !isAtLeg(seat)) {
                    free++;
                }
            }
            return free;
        }

        int familyMask(int table) {
            int mask = 0;
            for (int seat = 0; seat < seatsAt(table); seat++) {
                int holder = holderAt(table, seat);
                if (holder != NONE) {
                    mask |= 1 << Rows.at(families, holder);
                }
            }
            return mask;
        }

        int familyAt(int table, int family) {
            int kin = 0;
            for (int seat = 0; seat < seatsAt(table); seat++) {
                int holder = holderAt(table, seat);
                if (holder != NONE && Rows.at(families, holder) == family) {
                    kin++;
                }
            }
            return kin;
        }

        int lettersOfTable(int table) {
            int letters = 0;
            for (int seat = 0; seat < seatsAt(table); seat++) {
                letters += isAtLeg(seat) ? 2 : 1;
            }
            return letters;
        }

        int letterOfTable(int table, int index) {
            int next = 0;
            for (int seat = 0; seat < seatsAt(table); seat++) {
                if (next == index) {
                    int holder = holderAt(table, seat);
                    return holder == NONE ? '.' : 'A' + Rows.at(families, holder);
                }
                next++;
                if (isAtLeg(seat)) {
                    if (next == index) {
                        return '|';
                    }
                    next++;
                }
            }
            return NONE;
        }

        // ---- guests, tables

        int addGuest(int family, int size) {
            int guest = guests;
            Rows.put(families, guest, family);
            Rows.put(sizes, guest, size);
            Rows.put(wishes, guest, NONE);
            Rows.put(tableAt, guest, NONE);
            Rows.put(seatAt, guest, NONE);
            guests++;
            return guest;
        }

        int addTable(int seats) {
            int table = tables;
            Rows.put(tableSeats, table, seats);
            for (int seat = 0; seat < MOST_SEATS; seat++) {
                Rows.put(holders, table * MOST_SEATS + seat, NONE);
            }
            tables++;
            return table;
        }

        // ---- feuds

        static int feudCode(int family, int other) {
            return FAMILIES * Math.min(family, other) + Math.max(family, other);
        }

        boolean hasFeud(int family, int other) {
            return feuds.holds(feudCode(family, other));
        }

        int foeMask(int family) {
            int mask = 0;
            for (int place = 0; place < feuds.length(); place++) {
                int code = feuds.itemAt(place);
                int lesser = code / FAMILIES;
                int greater = code % FAMILIES;
                if (lesser == family) {
                    mask |= 1 << greater;
                }
                if (greater == family) {
                    mask |= 1 << lesser;
                }
            }
            return mask;
        }

        /** NONE where not both families sit. */
        int familyThatRises(int table, int family, int other) {
            int kin = familyAt(table, family);
            int others = familyAt(table, other);
            if (kin == 0 || others == 0) {
                return NONE;
            }
            if (kin == others) {
                return Math.max(family, other);
            }
            return kin < others ? family : other;
        }

        int risersOfFeud(int family, int other) {
            if (hasFeud(family, other)) {
                return 0;
            }
            int risers = 0;
            for (int table = 0; table < tables; table++) {
                int leaving = familyThatRises(table, family, other);
                if (leaving != NONE) {
                    risers += familyAt(table, leaving);
                }
            }
            return risers;
        }

        int beginFeud(int family, int other) {
            feuds.addLast(feudCode(family, other));
            int risers = 0;
            for (int table = 0; table < tables; table++) {
                int leaving = familyThatRises(table, family, other);
                if (leaving != NONE) {
                    risers += standFamilyUp(table, leaving);
                }
            }
            return risers;
        }

        int standFamilyUp(int table, int family) {
            int risers = 0;
            for (int seat = 0; seat < seatsAt(table); seat++) {
                int holder = holderAt(table, seat);
                if (holder != NONE && Rows.at(families, holder) == family) {
                    standUp(holder);
                    risers++;
                }
            }
            return risers;
        }

        // ---- seats

        /** 1 to 5 as the document tells the reasons, 0 where there is none. */
        int reasonAgainst(int guest, int table, int seat) {
            int holder = holderAt(table, seat);
            if (holder == guest) {
                return 1;
            }
            if (holder != NONE) {
                return 2;
            }
            if (isAtLeg(seat) && Rows.at(sizes, guest) == GREATEST_SIZE) {
                return 3;
            }
            int family = Rows.at(families, guest);
            if ((foeMask(family) & familyMask(table)) != 0) {
                return 4;
            }
            int kin = familyAt(table, family);
            if (Rows.at(tableAt, guest) == table) {
                kin--;
            }
            return kin >= Rows.at(settings, SETTING_KIN) ? 5 : 0;
        }

        boolean mayTake(int guest, int table, int seat) {
            return isGuest(guest) && isSeat(table, seat) && reasonAgainst(guest, table, seat) == 0;
        }

        void takeSeat(int guest, int table, int seat) {
            if (isSitting(guest)) {
                standUp(guest);
            }
            Rows.put(tableAt, guest, table);
            Rows.put(seatAt, guest, seat);
            Rows.put(holders, table * MOST_SEATS + seat, guest);
            order.addLast(guest);
            timesSat++;
        }

        void standUp(int guest) {
            int table = Rows.at(tableAt, guest);
            int seat = Rows.at(seatAt, guest);
            Rows.put(holders, table * MOST_SEATS + seat, NONE);
            Rows.put(tableAt, guest, NONE);
            Rows.put(seatAt, guest, NONE);
            order.dropItem(guest);
            timesRisen++;
        }

        /** Tells whether it was possible; where it was not, the plan is left half changed. */
        boolean exchange(int guest, int other) {
            if (!isSitting(guest) || !isSitting(other)) {
                return false;
            }
            int table = Rows.at(tableAt, guest);
            int seat = Rows.at(seatAt, guest);
            int otherTable = Rows.at(tableAt, other);
            int otherSeat = Rows.at(seatAt, other);
            standUp(guest);
            standUp(other);
            if (!mayTake(guest, otherTable, otherSeat)) {
                return false;
            }
            takeSeat(guest, otherTable, otherSeat);
            if (!mayTake(other, table, seat)) {
                return false;
            }
            takeSeat(other, table, seat);
            return true;
        }

        /** Eight times the table and the seat; NONE where the guest can take no seat. */
        int bestPlace(int guest) {
            int best = NONE;
            int mostGain = 0;
            for (int table = 0; table < tables; table++) {
                for (int seat = 0; seat < seatsAt(table); seat++) {
                    if (reasonAgainst(guest, table, seat) != 0) {
                        continue;
                    }
                    int gain = Score.gain(this, guest, table, seat);
                    if (best == NONE || gain > mostGain) {
                        best = table * MOST_SEATS + seat;
                        mostGain = gain;
                    }
                }
            }
            return best;
        }

        int seatStanding() {
            for (int guest = 0; guest < guests; guest++) {
                if (!isSitting(guest)) {
                    int place = bestPlace(guest);
                    if (place != NONE) {
                        takeSeat(guest, place / MOST_SEATS, place % MOST_SEATS);
                    }
                }
            }
            return guests - order.length();
        }
    }

    /** The points of a plan. */
    private static final class Score {
        private Score() {
        }

        static int byGuests(Plan plan) {
            int points = 0;
            for (int guest = 0; guest < plan.guests; guest++) {
                points += ofGuest(plan, guest);
            }
            return points;
        }

        static int byTables(Plan plan) {
            int points = 0;
            for (int table = 0; table < plan.tables; table++) {
                points += ofTable(plan, table);
            }
            return points;
        }

        static int ofGuest(Plan plan, int guest) {
            if (!plan.isSitting(guest)) {
                return 0;
            }
            int seat = Rows.at(plan.seatAt, guest);
            return ofSitting(plan, guest, seat) + ofLevel(plan, levelOfGuest(plan, guest));
        }

        static int ofTable(Plan plan, int table) {
            int points = 0;
            for (int seat = 0; seat < plan.seatsAt(table); seat++) {
                int holder = plan.holderAt(table, seat);
                if (holder == NONE) {
                    continue;
                }
                points += ofSitting(plan, holder, seat);
                for (int other = 0; other < plan.seatsAt(table); other++) {
                    int friend = plan.holderAt(table, other);
                    if (friend != NONE && Rows.at(plan.wishes, holder) == friend) {
                        points += ofLevel(plan, levelBetween(plan, friend, table, seat));
                    }
                }
            }
            return points;
        }

        /** What all guests would lose together if this one, sitting here, stood up. */
        static int gain(Plan plan, int guest, int table, int seat) {
            int friend = Rows.at(plan.wishes, guest);
            int points = ofSitting(plan, guest, seat);
            points += ofLevel(plan, levelBetween(plan, friend, table, seat));
            for (int other = 0; other < plan.guests; other++) {
                if (Rows.at(plan.wishes, other) == guest) {
                    points += ofLevel(plan, levelBetween(plan, other, table, seat));
                }
            }
            return points;
        }

        static int afterMove(Plan plan, int guest, int table, int seat) {
            int points = byGuests(plan) + gain(plan, guest, table, seat);
            if (plan.isSitting(guest)) {
                points -= gain(plan, guest, Rows.at(plan.tableAt, guest), Rows.at(plan.seatAt, guest));
            }
            return points;
        }

        static int ofSitting(Plan plan, int guest, int seat) {
            boolean tight = Plan.isAtLeg(seat) && Rows.at(plan.sizes, guest) == MIDDLE_SIZE;
            return tight ? 1 - Rows.at(plan.settings, SETTING_LEG) : 1;
        }

        /** 0: not met, 1: met, 2: side by side. */
        static int levelOfGuest(Plan plan, int guest) {
            if (!plan.isSitting(guest)) {
                return 0;
            }
            int friend = Rows.at(plan.wishes, guest);
            return levelBetween(plan, friend, Rows.at(plan.tableAt, guest), Rows.at(plan.seatAt, guest));
        }

        /** How near the friend sits to a seat: 0 where the friend is no guest or sits elsewhere. */
        static int levelBetween(Plan plan, int friend, int table, int seat) {
            if (!plan.isGuest(friend) || Rows.at(plan.tableAt, friend) != table) {
                return 0;
            }
            int apart = Math.abs(Rows.at(plan.seatAt, friend) - seat);
            return apart == 1 || apart == plan.seatsAt(table) - 1 ? 2 : 1;
        }

        static int ofLevel(Plan plan, int level) {
            int points = 0;
            if (level >= 1) {
                points += Rows.at(plan.settings, SETTING_WISH);
            }
            if (level >= 2) {
                points += Rows.at(plan.settings, SETTING_BESIDE);
            }
            return points;
        }

        static int wishesMet(Plan plan) {
            int met = 0;
            for (int guest = 0; guest < plan.guests; guest++) {
                if (levelOfGuest(plan, guest) > 0) {
                    met++;
                }
            }
            return met;
        }

        static double shareMet(Plan plan) {
            int wishes = 0;
            for (int guest = 0; guest < plan.guests; guest++) {
                if (Rows.at(plan.wishes, guest) != NONE) {
                    wishes++;
                }
            }
            return wishes == 0 ? 1.0 : (double) wishesMet(plan) / (double) wishes;
        }
    }

    /** The states that undo can bring back, in a ring, so that the oldest one gives its room. */
    private static final class History {
        private final Plan[] ring = new Plan[MOST_SAVED];
        private int oldest;
        private int saved;

        History() {
            for (int index = 0; index < ring.length; index++) {
                ring[index] = new Plan();
            }
        }

        int length() {
            return saved;
        }

        void save(Plan plan) {
            Plan room = planAt(oldest + saved);
            if (room != null) {
                room.copyFrom(plan);
            }
            if (saved < MOST_SAVED) {
                saved++;
            } else {
                oldest = (oldest + 1) % MOST_SAVED;
            }
        }

        void takeLatest(Plan plan) {
            if (saved == 0) {
                return;
            }
            saved--;
            Plan latest = planAt(oldest + saved);
            if (latest != null) {
                plan.copyFrom(latest);
            }
        }

        private Plan planAt(int step) {
            int index = step % MOST_SAVED;
            return index >= 0 && index < ring.length ? ring[index] : null;
        }
    }

    /** The buffer, read as seats. */
    private static final class SeatText {
        private static final int BROKEN = -1;
        private static final int PART_BEGINS = 0;
        private static final int GUEST_1 = 1;
        private static final int GUEST_WHOLE = 2;
        private static final int TABLE_DUE = 3;
        private static final int SEAT_DUE = 4;
        private static final int SEAT_WHOLE = 5;
        private static final int RISER_DUE = 6;
        private static final int RISER_1 = 7;
        private static final int RISER_WHOLE = 8;

        private final Line codes = new Line(MOST_CHARACTERS);

        int firstBroken() {
            int state = PART_BEGINS;
            for (int index = 0; index < codes.length(); index++) {
                state = next(state, codes.itemAt(index));
                if (state == BROKEN) {
                    return index;
                }
            }
            return codes.length();
        }

        boolean isComplete() {
            int state = PART_BEGINS;
            for (int index = 0; index < codes.length(); index++) {
                state = next(state, codes.itemAt(index));
            }
            return state == SEAT_WHOLE || state == RISER_1 || state == RISER_WHOLE;
        }

        private static int next(int state, int code) {
            switch (state) {
                case PART_BEGINS: return code == '-' ? RISER_DUE : firstDigit(code, GUEST_1, GUEST_WHOLE);
                case GUEST_1: return isIn(code, '0', '5') ? GUEST_WHOLE : only(code, '@', TABLE_DUE);
                case GUEST_WHOLE: return only(code, '@', TABLE_DUE);
                case TABLE_DUE: return isIn(code, '0', '3') ? SEAT_DUE : BROKEN;
                case SEAT_DUE: return isIn(code, 'a', 'h') ? SEAT_WHOLE : BROKEN;
                case RISER_DUE: return firstDigit(code, RISER_1, RISER_WHOLE);
                case RISER_1: return isIn(code, '0', '5') ? RISER_WHOLE : only(code, ';', PART_BEGINS);
                case SEAT_WHOLE:
                case RISER_WHOLE: return only(code, ';', PART_BEGINS);
                default: return BROKEN;
            }
        }

        private static boolean isIn(int code, int first, int last) {
            return code >= first && code <= last;
        }

        private static int only(int code, int due, int then) {
            return code == due ? then : BROKEN;
        }

        /** Only a 1 can have a second digit, as guests go up to 15. */
        private static int firstDigit(int code, int afterOne, int afterOther) {
            if (!isIn(code, '0', '9')) {
                return BROKEN;
            }
            return code == '1' ? afterOne : afterOther;
        }

        /** To be called for a complete text only; tells how many parts were possible. */
        int doParts(Plan plan) {
            int done = 0;
            int begin = 0;
            for (int index = 0; index <= codes.length(); index++) {
                if (index == codes.length() || codes.itemAt(index) == ';') {
                    boolean possible = codes.itemAt(begin) == '-'
                            ? doRise(plan, begin + 1, index) : doSit(plan, begin, index);
                    if (possible) {
                        done++;
                    }
                    begin = index + 1;
                }
            }
            return done;
        }

        private boolean doRise(Plan plan, int begin, int end) {
            int guest = numberIn(begin, end);
            if (!plan.isGuest(guest) || !plan.isSitting(guest)) {
                return false;
            }
            plan.standUp(guest);
            return true;
        }

        /** The part ends with "@", a table and a seat, one character each. */
        private boolean doSit(Plan plan, int begin, int end) {
            int guest = numberIn(begin, end - 3);
            int table = codes.itemAt(end - 2) - '0';
            int seat = codes.itemAt(end - 1) - 'a';
            if (!plan.mayTake(guest, table, seat)) {
                return false;
            }
            plan.takeSeat(guest, table, seat);
            return true;
        }

        private int numberIn(int begin, int end) {
            int number = 0;
            for (int index = begin; index < end; index++) {
                number = 10 * number + codes.itemAt(index) - '0';
            }
            return number;
        }
    }
}
