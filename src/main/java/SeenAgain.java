import java.util.Arrays;

/** Minutes gone by that may be visited, for a fee, as nobody. ../shared/DOC.md says what each call promises. */
public final class SeenAgain {
    public static final int NONE = -1000000, BAD = -1000001, STATE = -1000002, FULL = -1000003;

    private static final int NULL = 1, PLACE = 2, KIND = 3, SIZE = 4, STORE = 5;
    private static final int FOUND = -1000010;
    private static final int FAULTY = -1000100;

    private static final int ROWS = 8;
    private static final int MOST_ITEMS = 40;
    private static final int IMAGES = 2;
    private static final int KINDS = 6;
    private static final int MINUTES = 8;
    private static final int ALL_MINUTES = 255;
    private static final int MOST_ROOMS = 6;
    private static final int MOST_WALLS = 9;
    private static final int MOST_PEOPLE = 4;
    private static final int MOST_VISITORS = 4;
    private static final int MOST_SEATS = 24;

    private final Row[] rows = new Row[ROWS];
    private final Tape tape = new Tape();
    private final House house = new House();
    /** What is read comes here first, so that a FAULT leaves the HOUSE as it was. */
    private final House draft = new House();
    private final House[] images = new House[IMAGES];
    private final Acts acts = new Acts();
    private final Trace bodies = new Trace();
    private int finding;

    public SeenAgain() {
        for (int i = 0; i < ROWS; i++) {
            rows[i] = new Row();
        }
        for (int k = 0; k < IMAGES; k++) {
            images[k] = new House();
        }
    }

    // ---- rows

    public int row(int row, int lane, int n) {
        if (!isRow(row) || lane < Row.BYTES || lane > Row.INTS || n > MOST_ITEMS) {
            return BAD;
        }
        if (n < 0) {
            return found(SIZE);
        }
        rows[row].begin(lane, n);
        return answered(n);
    }

    public int set(int row, int i, int v) {
        if (!isRow(row)) {
            return BAD;
        }
        Row one = rows[row];
        if (one.missing) {
            return found(NULL);
        }
        if (!one.hasItems(i, 1)) {
            return found(PLACE);
        }
        one.items[i] = one.cutToLane(v);
        return answered(one.items[i]);
    }

    public int copy(int a, int i, int b, int j, int n) {
        if (!isRow(a) || !isRow(b)) {
            return BAD;
        }
        Row from = rows[a];
        Row to = rows[b];
        if (from.missing || to.missing) {
            return found(NULL);
        }
        if (from.lane != to.lane) {
            return found(STORE);
        }
        if (!from.hasItems(i, n) || !to.hasItems(j, n)) {
            return found(PLACE);
        }
        System.arraycopy(from.items, i, to.items, j, n);
        return answered(n);
    }

    public int drop(int row) {
        if (!isRow(row)) {
            return BAD;
        }
        Row one = rows[row];
        if (one.missing) {
            return found(NULL);
        }
        one.missing = true;
        return answered(one.size);
    }

    // ---- what is told

    public int feed(int letter) {
        if (letter < 0 || letter > 255) {
            return BAD;
        }
        if (tape.length >= Tape.MOST_BYTES) {
            return FULL;
        }
        tape.letters[tape.length] = letter;
        tape.length++;
        return tape.length;
    }

    public int house() {
        boolean read = tape.readInto(draft);
        tape.length = 0;
        if (!read) {
            return FAULTY - tape.faultPlace;
        }
        house.becomes(draft);
        acts.forgetAll();
        return house.rooms;
    }

    public int fault() {
        return tape.fault;
    }

    public int undo() {
        if (acts.kept == 0) {
            return STATE;
        }
        acts.undoLatest(house);
        return acts.kept;
    }

    // ---- what is done

    public int buy(int visitor, int room, int minute) {
        if (!house.isVisitor(visitor) || !house.isRoom(room) || !isMinute(minute)) {
            return BAD;
        }
        if (house.holds(visitor, room, minute)) {
            return STATE;
        }
        if (!house.canBuy(visitor, room, minute)) {
            return FULL;
        }
        int price = house.priceFor(visitor, room, minute);
        house.takeSeat(visitor, room, minute, price);
        acts.keep(Acts.BOUGHT, visitor, room, minute, price);
        return price;
    }

    public int back(int visitor, int room, int minute) {
        if (!house.isVisitor(visitor) || !house.isRoom(room) || !isMinute(minute)) {
            return BAD;
        }
        if (!house.holds(visitor, room, minute)) {
            return STATE;
        }
        int half = house.fee / 2;
        house.leaveSeat(visitor, room, minute, half);
        acts.keep(Acts.GIVEN_BACK, visitor, room, minute, half);
        return house.purses[visitor];
    }

    public int curtain(int a, int b, int minute) {
        if (!house.isRoom(a) || !house.isRoom(b) || !isMinute(minute) || !house.hasWindow(a, b)) {
            return BAD;
        }
        if (house.isDrawn(a, b, minute)) {
            return STATE;
        }
        house.drawCurtain(a, b, minute);
        acts.keep(Acts.DRAWN, a, b, minute, 0);
        return house.curtains;
    }

    public int write(int minute) {
        if (!house.stands()) {
            return STATE;
        }
        if (!isMinute(minute)) {
            return BAD;
        }
        if (has(house.written, minute)) {
            return STATE;
        }
        house.written |= 1 << minute;
        acts.keep(Acts.WRITTEN, 0, 0, minute, 0);
        return Integer.bitCount(house.written);
    }

    public int visitor(int visitor, int what) {
        if (!house.isVisitor(visitor)) {
            return BAD;
        }
        switch (what) {
            case 0: return house.purses[visitor];
            case 1: return house.seatsOf(visitor);
            case 2: return house.everLookedBy(visitor);
            default: return BAD;
        }
    }

    public int seat(int room, int minute, int what) {
        if (!house.isRoom(room) || !isMinute(minute)) {
            return BAD;
        }
        switch (what) {
            case 0: return house.viewOf(room, minute);
            case 1: return house.holders[seatNumber(room, minute)];
            case 2: return house.peopleIn(room, minute);
            default: return BAD;
        }
    }

    public int price(int visitor, int room, int minute) {
        if (!house.isVisitor(visitor) || !house.isRoom(room) || !isMinute(minute)) {
            return BAD;
        }
        return house.priceFor(visitor, room, minute);
    }

    // ---- foretold (sets: bits of VISITORS, of MINUTES)

    public int looked(int visitors, int minute) {
        if (!house.stands()) {
            return STATE;
        }
        if (!house.isVisitorSet(visitors) || !isMinute(minute)) {
            return BAD;
        }
        return house.lookedBy(visitors, minute);
    }

    public int seen(int visitors, int person, int minute) {
        if (!house.isVisitorSet(visitors) || !house.isPerson(person) || !isMinute(minute)) {
            return BAD;
        }
        return house.seenBy(visitors, person, minute);
    }

    public int known(int visitors, int person) {
        if (!house.isVisitorSet(visitors) || !house.isPerson(person)) {
            return BAD;
        }
        return house.minutesSeen(visitors, person);
    }

    public int canBe(int visitors, int person, int room, int minute) {
        if (!house.isVisitorSet(visitors) || !house.isPerson(person)) {
            return BAD;
        }
        if (!house.isRoom(room) || !isMinute(minute)) {
            return BAD;
        }
        return house.canBeIn(visitors, person, room, minute) ? 1 : 0;
    }

    public int suspects(int visitors, int room, int minutes) {
        if (!house.stands()) {
            return STATE;
        }
        if (!house.isVisitorSet(visitors) || !house.isRoom(room) || !isMinuteSet(minutes)) {
            return BAD;
        }
        return house.suspectsBy(visitors, room, minutes);
    }

    public int settled(int minute) {
        if (!house.stands()) {
            return STATE;
        }
        if (!isMinute(minute)) {
            return BAD;
        }
        return house.fewestSettling(minute);
    }

    public int cheapest(int visitor, int minute, int what) {
        if (!house.isVisitor(visitor) || !isMinute(minute) || what < 0 || what > 1) {
            return BAD;
        }
        int rooms = house.cheapestSettling(visitor, minute);
        if (rooms == NONE || what == 0) {
            return rooms;
        }
        return house.costOf(visitor, rooms, minute);
    }

    public int nextSeat(int visitor, int room, int minutes) {
        if (!house.isVisitor(visitor) || !house.isRoom(room) || !isMinuteSet(minutes)) {
            return BAD;
        }
        return house.nextSeatFor(visitor, room, minutes);
    }

    public int followed(int visitor, int person, int what) {
        if (!house.isVisitor(visitor) || !house.isPerson(person) || what < 0 || what > 1) {
            return BAD;
        }
        int most = 0;
        int first = NONE;
        for (int minute = 0; minute < MINUTES; minute++) {
            int length = house.followedFrom(visitor, person, minute);
            if (length > most) {
                most = length;
                first = minute;
            }
        }
        return what == 0 ? most : first;
    }

    public int crowd(int visitor, int minute) {
        if (!house.isVisitor(visitor) || !isMinute(minute)) {
            return BAD;
        }
        return house.crowdOf(visitor, minute);
    }

    public int told(int visitor, int person, int minute) {
        if (!house.isVisitor(visitor) || !house.isPerson(person) || !isMinute(minute)) {
            return BAD;
        }
        return house.toldBy(visitor, person, minute);
    }

    public int believed(int person, int minute) {
        if (!house.isPerson(person) || !isMinute(minute)) {
            return BAD;
        }
        return house.mostTold(person, minute);
    }

    public int account(int visitors, int person, int row, int i) {
        if (!house.isVisitorSet(visitors) || !house.isPerson(person) || !isRow(row)) {
            return BAD;
        }
        Row one = rows[row];
        if (one.missing) {
            return found(NULL);
        }
        if (!one.hasItems(i, MINUTES)) {
            return found(PLACE);
        }
        int untrue = 0;
        for (int minute = 0; minute < MINUTES; minute++) {
            int room = one.items[i + minute];
            if (room != -1 && !house.isRoom(room)) {
                return BAD;
            }
            if (room != -1 && !house.canBeIn(visitors, person, room, minute)) {
                untrue |= 1 << minute;
            }
        }
        return answered(untrue);
    }

    public int met(int a, int b) {
        if (!house.isPerson(a) || !house.isPerson(b) || a == b) {
            return BAD;
        }
        return house.minutesTogether(a, b);
    }

    public int soldOut(int i) {
        if (!house.stands()) {
            return STATE;
        }
        if (i < -1) {
            return BAD;
        }
        return house.soldOutAt(i);
    }

    public int haunted() {
        return house.stands() ? house.mostHeld() : STATE;
    }

    public int image(int k) {
        if (k < 0 || k >= IMAGES) {
            return BAD;
        }
        if (!house.stands()) {
            return STATE;
        }
        images[k].becomes(house);
        return 1;
    }

    public int restore(int k) {
        if (k < 0 || k >= IMAGES) {
            return BAD;
        }
        if (!images[k].stands()) {
            return STATE;
        }
        house.becomes(images[k]);
        acts.forgetAll();
        return 1;
    }

    // ---- asked

    public int kind(int one) {
        return house.isVisitor(one) ? house.guests[one].kindNumber() : BAD;
    }

    public int as(int one, int kind) {
        if (!house.isVisitor(one) || kind < 0 || kind >= KINDS) {
            return BAD;
        }
        if (!isOfKind(house.guests[one], kind)) {
            return found(KIND);
        }
        return answered(one);
    }

    public int ask(int one, int what) {
        if (!house.isVisitor(one) || what < 0 || what > 1) {
            return BAD;
        }
        bodies.length = 0;
        Visitor asked = house.guests[one];
        return what == 0 ? asked.size(house, bodies) : asked.mark(house, bodies);
    }

    public int trace(int i) {
        return i >= 0 && i < bodies.length ? bodies.numbers[i] : NONE;
    }

    public int count(int what) {
        switch (what) {
            case 0: return standingRows();
            case 1: return house.rooms;
            case 2: return house.walls;
            case 3: return house.people;
            case 4: return house.visitors;
            case 5: return house.held;
            case 6: return house.curtains;
            case 7: return acts.kept;
            case 8: return tape.length;
            default: return BAD;
        }
    }

    public int status() {
        return finding;
    }

    private int found(int number) {
        finding = number;
        return FOUND - number;
    }

    private int answered(int answer) {
        finding = 0;
        return answer;
    }

    private int standingRows() {
        int standing = 0;
        for (int i = 0; i < ROWS; i++) {
            if (!rows[i].missing) {
                standing++;
            }
        }
        return standing;
    }

    private static boolean isRow(int row) {
        return row >= 0 && row < ROWS;
    }

    private static boolean isMinute(int minute) {
        return minute >= 0 && minute < MINUTES;
    }

    private static boolean isMinuteSet(int minutes) {
        return minutes >= 0 && minutes <= ALL_MINUTES;
    }

    private static boolean isOfKind(Visitor one, int kind) {
        switch (kind) {
            case 0: return true;
            case Tourist.KIND: return one instanceof Tourist;
            case Liar.KIND: return one instanceof Liar;
            case Detective.KIND: return one instanceof Detective;
            case Writer.KIND: return one instanceof Writer;
            case Heir.KIND: return one instanceof Heir;
            default: return false;
        }
    }

    private static boolean has(int set, int one) {
        return (set >> one & 1) == 1;
    }

    /** SEATS are numbered as NEXT tells them, by MINUTES, then ROOMS. */
    private static int seatNumber(int room, int minute) {
        return MOST_ROOMS * minute + room;
    }

    private static final class Row {
        static final int BYTES = 0, SHORTS = 1, INTS = 2;

        final int[] items = new int[MOST_ITEMS];
        int lane;
        int size;
        boolean missing = true;

        void begin(int newLane, int n) {
            Arrays.fill(items, 0);
            lane = newLane;
            size = n;
            missing = false;
        }

        boolean hasItems(int first, int n) {
            // A difference cannot wrap around here, a sum could.
            return first >= 0 && n >= 0 && first <= size && n <= size - first;
        }

        int cutToLane(int v) {
            switch (lane) {
                case BYTES: return (byte) v;
                case SHORTS: return (short) v;
                default: return v;
            }
        }
    }

    /** The bytes that were fed, and the reading of a HOUSE from them, TOKEN by TOKEN. */
    private static final class Tape {
        static final int MOST_BYTES = 140;
        static final int MISPLACED = 1, WRONG_NUMBER = 2, TOO_MANY = 3;
        /** Besides these a TOKEN, a letter or a SIGN, is told by its own byte. */
        static final int END = -1, NO_TOKEN = -2, NUMBER = -3;

        final int[] letters = new int[MOST_BYTES];
        int length;
        int fault;
        int faultPlace;
        private int at;
        private int behind;
        private int token;
        private int number;

        boolean readInto(House told) {
            told.forgetTold();
            behind = 0;
            step();
            return readLaw(told) && readWalls(told) && readPeople(told) && readVisitors(told) && take(END);
        }

        private boolean readLaw(House told) {
            if (!take('h') || !numberStands(2, MOST_ROOMS)) {
                return false;
            }
            told.rooms = number;
            step();
            if (!take(',') || !numberStands(1, 5)) {
                return false;
            }
            told.seats = number;
            step();
            if (!take(',') || !numberStands(0, 20)) {
                return false;
            }
            told.fee = number;
            step();
            return take(';');
        }

        private boolean readWalls(House told) {
            for (int i = 0; i <= MOST_WALLS && token == 'g'; i++) {
                if (i == MOST_WALLS) {
                    return faulty(TOO_MANY);
                }
                step();
                if (!numberStands(0, told.rooms - 1)) {
                    return false;
                }
                int a = number;
                step();
                if (!take(',') || !numberStands(0, told.rooms - 1)) {
                    return false;
                }
                int b = number;
                if (b == a) {
                    return faulty(WRONG_NUMBER);
                }
                step();
                if (!take(';')) {
                    return false;
                }
                told.addWall(a, b);
            }
            return true;
        }

        private boolean readPeople(House told) {
            for (int i = 0; i <= MOST_PEOPLE && token == 'r'; i++) {
                if (i == MOST_PEOPLE) {
                    return faulty(TOO_MANY);
                }
                step();
                for (int minute = 0; minute < MINUTES; minute++) {
                    if (minute > 0 && !take(',') || !numberStands(0, told.rooms - 1)) {
                        return false;
                    }
                    told.stays[MINUTES * i + minute] = number;
                    step();
                }
                if (!take(';')) {
                    return false;
                }
                told.people++;
            }
            return true;
        }

        private boolean readVisitors(House told) {
            for (int i = 0; i <= MOST_VISITORS && isSort(token); i++) {
                if (i == MOST_VISITORS) {
                    return faulty(TOO_MANY);
                }
                told.guests[i] = newVisitor(token, i);
                step();
                if (!numberStands(0, 99)) {
                    return false;
                }
                told.purses[i] = number;
                step();
                if (!take(';')) {
                    return false;
                }
                told.visitors++;
            }
            return true;
        }

        private static boolean isSort(int letter) {
            return letter == 'a' || letter == 'd' || letter == 'l' || letter == 't' || letter == 'w';
        }

        private static Visitor newVisitor(int sort, int number) {
            switch (sort) {
                case 'a': return new Heir(number);
                case 'd': return new Detective(number);
                case 'l': return new Liar(number);
                case 'w': return new Writer(number);
                default: return new Tourist(number);
            }
        }

        /** Whether this TOKEN stands here; then the next one is at hand. */
        private boolean take(int wanted) {
            if (token != wanted) {
                return faulty(MISPLACED);
            }
            step();
            return true;
        }

        /** Whether a NUMBER as told stands here; it stays at hand, for there may be more to ask of it. */
        private boolean numberStands(int least, int most) {
            if (token != NUMBER) {
                return faulty(MISPLACED);
            }
            if (number < least || number > most) {
                return faulty(WRONG_NUMBER);
            }
            return true;
        }

        private boolean faulty(int which) {
            fault = which;
            faultPlace = at;
            return false;
        }

        private void step() {
            at = behind;
            if (at >= length) {
                token = END;
                return;
            }
            int letter = letters[at];
            if (isFigure(letter)) {
                readNumber();
                return;
            }
            // A byte that is no TOKEN stands nowhere either, so it may pass for one.
            behind = at + 1;
            token = letter;
        }

        private void readNumber() {
            number = 0;
            int i = at;
            for (; i < length && isFigure(letters[i]); i++) {
                // A longer run is no NUMBER: what is added up then is not used.
                number = 10 * number + letters[i] - '0';
            }
            behind = i;
            token = i - at <= 2 ? NUMBER : NO_TOKEN;
        }

        private static boolean isFigure(int letter) {
            return letter >= '0' && letter <= '9';
        }
    }

    /** What was told and what was done since; without ROOMS it is no HOUSE. */
    private static final class House {
        int rooms;
        int seats;
        int fee;
        int walls;
        int people;
        int visitors;
        int held;
        int curtains;
        /** Bits of MINUTES. */
        int written;
        /** Of a ROOM, the ROOMS (bits) to which there is a window. */
        final int[] windows = new int[MOST_ROOMS];
        /** Of a ROOM in a MINUTE, the ROOMS (bits) to which a curtain is drawn. */
        final int[] drawn = new int[MOST_ROOMS * MINUTES];
        /** Of a ROOM in a MINUTE, the VISITORS (bits) who hold a SEAT. */
        final int[] holders = new int[MOST_ROOMS * MINUTES];
        /** The ROOMS of PERSON 0 by MINUTES, then those of PERSON 1, and so on. */
        final int[] stays = new int[MOST_PEOPLE * MINUTES];
        final int[] purses = new int[MOST_VISITORS];
        final Visitor[] guests = new Visitor[MOST_VISITORS];

        House() {
            // So that no guest is ever null, told or not.
            for (int i = 0; i < MOST_VISITORS; i++) {
                guests[i] = new Tourist(i);
            }
        }

        /** Ahead of a law. In a draft nothing is ever done: what was told is all there is to forget. */
        void forgetTold() {
            walls = 0;
            people = 0;
            visitors = 0;
            Arrays.fill(windows, 0);
        }

        void becomes(House other) {
            rooms = other.rooms;
            seats = other.seats;
            fee = other.fee;
            walls = other.walls;
            people = other.people;
            visitors = other.visitors;
            held = other.held;
            curtains = other.curtains;
            written = other.written;
            System.arraycopy(other.windows, 0, windows, 0, MOST_ROOMS);
            System.arraycopy(other.drawn, 0, drawn, 0, MOST_ROOMS * MINUTES);
            System.arraycopy(other.holders, 0, holders, 0, MOST_ROOMS * MINUTES);
            System.arraycopy(other.stays, 0, stays, 0, MOST_PEOPLE * MINUTES);
            System.arraycopy(other.purses, 0, purses, 0, MOST_VISITORS);
            // A VISITOR's object never changes, so two HOUSES may share it.
            for (int i = 0; i < MOST_VISITORS; i++) {
                guests[i] = other.guests[i];
            }
        }

        boolean stands() {
            return rooms > 0;
        }

        boolean isRoom(int room) {
            return room >= 0 && room < rooms;
        }

        boolean isPerson(int person) {
            return person >= 0 && person < people;
        }

        boolean isVisitor(int visitor) {
            return visitor >= 0 && visitor < visitors;
        }

        boolean isVisitorSet(int set) {
            return set >= 0 && set < 1 << visitors;
        }

        // -- windows

        void addWall(int a, int b) {
            windows[a] |= 1 << b;
            windows[b] |= 1 << a;
            walls++;
        }

        boolean hasWindow(int a, int b) {
            return has(windows[a], b);
        }

        boolean isDrawn(int a, int b, int minute) {
            return has(drawn[seatNumber(a, minute)], b);
        }

        void drawCurtain(int a, int b, int minute) {
            drawn[seatNumber(a, minute)] |= 1 << b;
            drawn[seatNumber(b, minute)] |= 1 << a;
            curtains++;
        }

        void openCurtain(int a, int b, int minute) {
            drawn[seatNumber(a, minute)] &= ~(1 << b);
            drawn[seatNumber(b, minute)] &= ~(1 << a);
            curtains--;
        }

        int viewOf(int room, int minute) {
            return 1 << room | windows[room] & ~drawn[seatNumber(room, minute)];
        }

        // -- SEATS

        boolean holds(int visitor, int room, int minute) {
            return has(holders[seatNumber(room, minute)], visitor);
        }

        int heldOf(int room, int minute) {
            return Integer.bitCount(holders[seatNumber(room, minute)]);
        }

        boolean isLeft(int room, int minute) {
            return heldOf(room, minute) < seats;
        }

        int priceFor(int visitor, int room, int minute) {
            int rebate = has(written, minute) ? 2 : 0;
            int price = Math.max(0, fee + heldOf(room, minute) - rebate);
            boolean heirloom = people > 0 && stays[minute] == room;
            return guests[visitor].priceFrom(price, heirloom);
        }

        /** Whether there is a SEAT, and the PURSE holds its PRICE. */
        boolean canBuy(int visitor, int room, int minute) {
            return isLeft(room, minute) && held < MOST_SEATS
                && priceFor(visitor, room, minute) <= purses[visitor];
        }

        void takeSeat(int visitor, int room, int minute, int coins) {
            holders[seatNumber(room, minute)] |= 1 << visitor;
            held++;
            purses[visitor] -= coins;
        }

        void leaveSeat(int visitor, int room, int minute, int coins) {
            holders[seatNumber(room, minute)] &= ~(1 << visitor);
            held--;
            purses[visitor] += coins;
        }

        int seatsOf(int visitor) {
            int seatsHeld = 0;
            for (int set : holders) {
                seatsHeld += set >> visitor & 1;
            }
            return seatsHeld;
        }

        int soldOutAt(int i) {
            int sold = 0;
            for (int minute = 0; minute < MINUTES; minute++) {
                for (int room = 0; room < rooms; room++) {
                    if (!isLeft(room, minute)) {
                        if (sold == i) {
                            return seatNumber(room, minute);
                        }
                        sold++;
                    }
                }
            }
            return i == -1 ? sold : NONE;
        }

        int mostHeld() {
            int most = 0;
            int first = 0;
            for (int minute = 0; minute < MINUTES; minute++) {
                for (int room = 0; room < rooms; room++) {
                    if (heldOf(room, minute) > most) {
                        most = heldOf(room, minute);
                        first = seatNumber(room, minute);
                    }
                }
            }
            return first;
        }

        // -- what is seen

        int lookedBy(int set, int minute) {
            int looked = 0;
            for (int room = 0; room < rooms; room++) {
                if ((holders[seatNumber(room, minute)] & set) != 0) {
                    looked |= viewOf(room, minute);
                }
            }
            return looked;
        }

        int everLookedBy(int visitor) {
            int looked = 0;
            for (int minute = 0; minute < MINUTES; minute++) {
                looked |= lookedBy(1 << visitor, minute);
            }
            return looked;
        }

        int roomOf(int person, int minute) {
            return stays[MINUTES * person + minute];
        }

        int peopleIn(int room, int minute) {
            int there = 0;
            for (int person = 0; person < people; person++) {
                if (roomOf(person, minute) == room) {
                    there |= 1 << person;
                }
            }
            return there;
        }

        int seenBy(int set, int person, int minute) {
            int room = roomOf(person, minute);
            return has(lookedBy(set, minute), room) ? room : NONE;
        }

        int minutesSeen(int set, int person) {
            int minutes = 0;
            for (int minute = 0; minute < MINUTES; minute++) {
                if (seenBy(set, person, minute) != NONE) {
                    minutes |= 1 << minute;
                }
            }
            return minutes;
        }

        int minutesTogether(int a, int b) {
            int minutes = 0;
            for (int minute = 0; minute < MINUTES; minute++) {
                if (roomOf(a, minute) == roomOf(b, minute)) {
                    minutes |= 1 << minute;
                }
            }
            return minutes;
        }

        boolean canBeIn(int set, int person, int room, int minute) {
            int looked = lookedBy(set, minute);
            int where = roomOf(person, minute);
            if (has(looked, where)) {
                return where == room;
            }
            return !has(looked, room);
        }

        int suspectsBy(int set, int room, int minutes) {
            int suspected = 0;
            for (int minute = 0; minute < MINUTES; minute++) {
                for (int person = 0; person < people; person++) {
                    if (has(minutes, minute) && canBeIn(set, person, room, minute)) {
                        suspected |= 1 << person;
                    }
                }
            }
            return suspected;
        }

        int crowdOf(int visitor, int minute) {
            int looked = lookedBy(1 << visitor, minute);
            int crowd = 0;
            for (int room = 0; room < rooms; room++) {
                if (has(looked, room)) {
                    crowd |= holders[seatNumber(room, minute)];
                }
            }
            return crowd & ~(1 << visitor);
        }

        int toldBy(int visitor, int person, int minute) {
            int room = seenBy(1 << visitor, person, minute);
            return room == NONE ? NONE : guests[visitor].tells(room, rooms);
        }

        int mostTold(int person, int minute) {
            int most = 0;
            int best = NONE;
            for (int room = 0; room < rooms; room++) {
                int tellers = 0;
                for (int visitor = 0; visitor < visitors; visitor++) {
                    if (toldBy(visitor, person, minute) == room) {
                        tellers++;
                    }
                }
                if (tellers > most) {
                    most = tellers;
                    best = room;
                }
            }
            return best;
        }

        // -- what to book

        boolean settles(int set, int minute) {
            int looked = 0;
            for (int room = 0; room < rooms; room++) {
                if (has(set, room)) {
                    looked |= viewOf(room, minute);
                }
            }
            return Integer.bitCount(looked) >= rooms - 1;
        }

        int fewestSettling(int minute) {
            int best = NONE;
            int fewest = MOST_ROOMS + 1;
            for (int set = 0; set < 1 << rooms; set++) {
                if (Integer.bitCount(set) < fewest && settles(set, minute)) {
                    fewest = Integer.bitCount(set);
                    best = set;
                }
            }
            return best;
        }

        int cheapestSettling(int visitor, int minute) {
            int best = NONE;
            int least = 0;
            for (int set = 0; set < 1 << rooms; set++) {
                int cost = costOf(visitor, set, minute);
                if (cost != NONE && (best == NONE || cost < least) && settles(set, minute)) {
                    least = cost;
                    best = set;
                }
            }
            return best;
        }

        int costOf(int visitor, int set, int minute) {
            int cost = 0;
            for (int room = 0; room < rooms; room++) {
                if (has(set, room) && !holds(visitor, room, minute)) {
                    if (!isLeft(room, minute)) {
                        return NONE;
                    }
                    cost += priceFor(visitor, room, minute);
                }
            }
            return cost;
        }

        int nextSeatFor(int visitor, int room, int minutes) {
            int best = NONE;
            int fewest = MOST_PEOPLE + 1;
            for (int minute = 0; minute < MINUTES; minute++) {
                for (int from = 0; from < rooms; from++) {
                    if (!holds(visitor, from, minute) && canBuy(visitor, from, minute)) {
                        takeSeat(visitor, from, minute, 0);
                        int suspected = Integer.bitCount(suspectsBy(1 << visitor, room, minutes));
                        leaveSeat(visitor, from, minute, 0);
                        if (suspected < fewest) {
                            fewest = suspected;
                            best = seatNumber(from, minute);
                        }
                    }
                }
            }
            return best;
        }

        /** How many MINUTES running, this one the first, the PURSE lasts to see the PERSON. */
        int followedFrom(int visitor, int person, int first) {
            int left = purses[visitor];
            for (int minute = first; minute < MINUTES; minute++) {
                int cost = costToSee(visitor, person, minute);
                if (cost == NONE || cost > left) {
                    return minute - first;
                }
                left -= cost;
            }
            return MINUTES - first;
        }

        int costToSee(int visitor, int person, int minute) {
            if (seenBy(1 << visitor, person, minute) != NONE) {
                return 0;
            }
            int least = NONE;
            for (int room = 0; room < rooms; room++) {
                boolean seesHim = has(viewOf(room, minute), roomOf(person, minute));
                if (seesHim && isLeft(room, minute)) {
                    int price = priceFor(visitor, room, minute);
                    least = least == NONE ? price : Math.min(least, price);
                }
            }
            return least;
        }
    }

    /** The latest ACTS, in a ring: where it is full, the oldest is written over. */
    private static final class Acts {
        static final int BOUGHT = 0, GIVEN_BACK = 1, DRAWN = 2, WRITTEN = 3;
        static final int MOST_ACTS = 24;

        final int[] whats = new int[MOST_ACTS];
        /** The VISITOR, or the one ROOM of a curtain. */
        final int[] firsts = new int[MOST_ACTS];
        /** The ROOM, or the other ROOM of a curtain. */
        final int[] seconds = new int[MOST_ACTS];
        final int[] minutes = new int[MOST_ACTS];
        /** What was paid or came back, for PRICES will be others by the time of undoing. */
        final int[] coins = new int[MOST_ACTS];
        int next;
        int kept;

        void forgetAll() {
            kept = 0;
        }

        void keep(int what, int first, int second, int minute, int paid) {
            whats[next] = what;
            firsts[next] = first;
            seconds[next] = second;
            minutes[next] = minute;
            coins[next] = paid;
            next = next == MOST_ACTS - 1 ? 0 : next + 1;
            kept = Math.min(MOST_ACTS, kept + 1);
        }

        void undoLatest(House house) {
            next = next == 0 ? MOST_ACTS - 1 : next - 1;
            kept--;
            int minute = minutes[next];
            switch (whats[next]) {
                case BOUGHT:
                    house.leaveSeat(firsts[next], seconds[next], minute, coins[next]);
                    break;
                case GIVEN_BACK:
                    house.takeSeat(firsts[next], seconds[next], minute, coins[next]);
                    break;
                case DRAWN:
                    house.openCurtain(firsts[next], seconds[next], minute);
                    break;
                default:
                    house.written &= ~(1 << minute);
                    break;
            }
        }
    }

    /** THE TRACE. */
    private static final class Trace {
        static final int MOST_NUMBERS = 16;

        final int[] numbers = new int[MOST_NUMBERS];
        int length;

        void begin(int body) {
            if (length < MOST_NUMBERS) {
                numbers[length] = body;
                length++;
            }
        }
    }

    /** One who visits. What changes of him (PURSE, SEATS) the HOUSE keeps, so that IMAGES can share him. */
    private abstract static class Visitor {
        final int number;

        Visitor(int number) {
            this.number = number;
        }

        abstract int kindNumber();

        int priceFrom(int price, boolean heirloom) {
            return price;
        }

        int tells(int room, int rooms) {
            return room;
        }

        int size(House house, Trace trace) {
            trace.begin(10);
            return house.purses[number];
        }

        int mark(House house, Trace trace) {
            trace.begin(20);
            return number;
        }
    }

    private static class Tourist extends Visitor {
        static final int KIND = 1;

        Tourist(int number) {
            super(number);
        }

        int kindNumber() {
            return KIND;
        }

        int size(House house, Trace trace) {
            trace.begin(11);
            int lent = super.size(house, trace);
            return lent + mark(house, trace);
        }

        int mark(House house, Trace trace) {
            trace.begin(21);
            return super.mark(house, trace) + house.seatsOf(number);
        }
    }

    private static final class Liar extends Tourist {
        static final int KIND = 2;

        Liar(int number) {
            super(number);
        }

        int kindNumber() {
            return KIND;
        }

        int priceFrom(int price, boolean heirloom) {
            return price + 1;
        }

        int tells(int room, int rooms) {
            return room + 1 < rooms ? room + 1 : 0;
        }

        int size(House house, Trace trace) {
            trace.begin(12);
            return -super.size(house, trace);
        }

        int mark(House house, Trace trace) {
            trace.begin(24);
            return 2 * super.mark(house, trace);
        }
    }

    private static final class Detective extends Tourist {
        static final int KIND = 3;

        Detective(int number) {
            super(number);
        }

        int kindNumber() {
            return KIND;
        }

        int priceFrom(int price, boolean heirloom) {
            return price / 2;
        }

        int mark(House house, Trace trace) {
            trace.begin(22);
            return super.mark(house, trace) - 1000;
        }
    }

    private static class Writer extends Visitor {
        static final int KIND = 4;

        Writer(int number) {
            super(number);
        }

        int kindNumber() {
            return KIND;
        }

        int priceFrom(int price, boolean heirloom) {
            return Math.max(0, price - 1);
        }

        int size(House house, Trace trace) {
            trace.begin(13);
            return super.size(house, trace) - 100;
        }

        int mark(House house, Trace trace) {
            trace.begin(23);
            int lent = super.mark(house, trace);
            return lent - size(house, trace);
        }
    }

    private static final class Heir extends Writer {
        static final int KIND = 5;

        Heir(int number) {
            super(number);
        }

        int kindNumber() {
            return KIND;
        }

        int priceFrom(int price, boolean heirloom) {
            return heirloom ? 0 : super.priceFrom(price, heirloom);
        }

        int size(House house, Trace trace) {
            trace.begin(14);
            return 2 * super.size(house, trace);
        }
    }
}
