/** A jotter of a court sketcher. ../shared/DOC.md says what each call must do. */
public final class CourtJotter {
    public static final int INVALID_ARGUMENT = -1000001;
    public static final int NOT_POSSIBLE = -1000002;
    public static final int LIMIT_REACHED = -1000003;
    public static final int NOT_FOUND = -1000004;

    private static final int NONE = -1;
    private static final int ROWS = 4;
    private static final int SEATS = 6;
    private static final int FEATURES = 12;
    private static final int SEEN_ASIDE = 2;
    private static final int MOST_PEOPLE = 6;
    private static final int MOST_SHEETS = 10;
    private static final int MOST_PAPERS = 4;
    private static final int MOST_RATE = 20;
    private static final int MINUTES_A_DAY = 300;
    private static final int LAST_MINUTE = 9999;
    private static final int MOST_MINUTES = 300;
    private static final int DRAWN_A_MINUTE = 3;
    private static final int MOST_CHARACTERS = 60;
    private static final int MOST_DIGITS = 3;
    private static final int MOST_STATES = 4;
    private static final int REASON_FORM = 1;
    private static final int REASON_CALL = 2;

    private final Court court = new Court();
    private final Court trial = new Court();
    private final History history = new History();
    private final Text text = new Text();
    private final Rehearsal rehearsal = new Rehearsal();
    private final Sale sale = new Sale();

    public CourtJotter() {
    }

    // ---- people, papers

    public int person(int row, int seat) {
        history.prepare(court);
        return history.settle(court.addPerson(row, seat));
    }

    public int turn(int person, int angle, int step) {
        history.prepare(court);
        return history.settle(court.turnPerson(person, angle, step));
    }

    public int paper(int rate, int hour) {
        history.prepare(court);
        return history.settle(court.addPaper(rate, hour));
    }

    // ---- sketching

    public int look(int person) {
        history.prepare(court);
        return history.settle(court.lookAt(person));
    }

    public int sheet(int person) {
        history.prepare(court);
        return history.settle(court.beginSheet(person));
    }

    public int draw(int sheet, int feature) {
        history.prepare(court);
        return history.settle(court.drawFeature(sheet, feature));
    }

    public int tear(int sheet) {
        history.prepare(court);
        return history.settle(court.tearOut(sheet));
    }

    public int verdict(int person) {
        history.prepare(court);
        return history.settle(court.tellVerdict(person));
    }

    public int sell(int sheet, int paper) {
        history.prepare(court);
        return history.settle(court.sellSheet(sheet, paper));
    }

    public int pass(int minutes) {
        history.prepare(court);
        return history.settle(court.passMinutes(minutes));
    }

    public int set(int what, int value) {
        history.prepare(court);
        return history.settle(court.changeSetting(what, value));
    }

    // ---- what there is

    public int personOf(int person, int what) {
        return court.tellOfPerson(person, what);
    }

    public int sheetOf(int sheet, int what) {
        return court.tellOfSheet(sheet, what);
    }

    public int paperOf(int paper, int what) {
        return court.tellOfPaper(paper, what);
    }

    public int price(int sheet, int paper) {
        int place = court.sheets.placeOf(sheet);
        if (place == NONE || !court.papers.has(paper)) {
            return INVALID_ARGUMENT;
        }
        return court.priceAt(place, paper);
    }

    public int number(int index) {
        if (index < 0) {
            return INVALID_ARGUMENT;
        }
        return index < court.sheets.count ? court.sheets.numbers[index] : NOT_FOUND;
    }

    // ---- what would be

    public int seenIn(int person, int feature) {
        if (!court.people.has(person) || !isWithin(feature, 0, FEATURES - 1)) {
            return INVALID_ARGUMENT;
        }
        // Whoever turns by a step is turned as now again after 12 minutes at the latest.
        for (int minutes = 0; minutes < FEATURES; minutes++) {
            if (hasBit(court.people.seenAfter(person, minutes), feature)) {
                return minutes;
            }
        }
        return NOT_FOUND;
    }

    public int would(int person, int minutes) {
        if (!court.people.has(person) || !isWithin(minutes, 0, MOST_MINUTES)) {
            return INVALID_ARGUMENT;
        }
        trial.copyFrom(court);
        trial.lookedAt = person;
        trial.advance(minutes);
        return Integer.bitCount(trial.remembered(person));
    }

    public int best(int what) {
        if (!isWithin(what, 0, 2)) {
            return INVALID_ARGUMENT;
        }
        if (!court.findBestSale(sale)) {
            return NOT_FOUND;
        }
        switch (what) {
            case 0:
                return sale.sheet;
            case 1:
                return sale.paper;
            default:
                return sale.price;
        }
    }

    public int sellAll() {
        trial.copyFrom(court);
        int sum = 0;
        for (int i = 0; i < MOST_SHEETS && trial.findBestSale(sale); i++) {
            sum += trial.sellSheet(sale.sheet, sale.paper);
        }
        return sum;
    }

    public int mean() {
        if (court.sold <= 0) {
            return NOT_FOUND;
        }
        return bitsOf((float) court.paid / (float) court.sold);
    }

    public int count(int what) {
        switch (what) {
            case 11:
                return history.size;
            case 12:
                return text.length;
            default:
                return court.tellCount(what);
        }
    }

    public int undo() {
        return history.restore(court);
    }

    // ---- texts

    public int type(int character) {
        return text.append(character);
    }

    public int clearText() {
        int length = text.length;
        text.length = 0;
        return length;
    }

    public int fault(int what) {
        if (!isWithin(what, 0, 2)) {
            return INVALID_ARGUMENT;
        }
        trial.copyFrom(court);
        rehearsal.run(text, trial);
        if (rehearsal.position == NONE) {
            return NOT_FOUND;
        }
        switch (what) {
            case 0:
                return rehearsal.position;
            case 1:
                return rehearsal.reason;
            default:
                return rehearsal.cause;
        }
    }

    public int play() {
        trial.copyFrom(court);
        rehearsal.run(text, trial);
        if (rehearsal.position != NONE) {
            return NOT_POSSIBLE;
        }
        history.prepare(court);
        court.copyFrom(trial);
        return history.settle(rehearsal.done);
    }

    // ---- small helps

    private static boolean isWithin(int value, int least, int most) {
        return value >= least && value <= most;
    }

    private static boolean hasBit(int bits, int bit) {
        return (bits >> bit & 1) != 0;
    }

    private static void copyRow(int[] from, int[] to) {
        System.arraycopy(from, 0, to, 0, Math.min(from.length, to.length));
    }

    /** The bits of a float of 0 or more; worked out here, as the language leaves no call for it. */
    private static int bitsOf(float value) {
        if (value <= 0f) {
            return 0;
        }
        // Doubling and halving lose nothing, so the digits stay those of the value.
        float digits = value;
        int exponent = 127;
        for (int i = 0; i < 127 && digits >= 2f; i++) {
            digits = digits / 2f;
            exponent++;
        }
        for (int i = 0; i < 126 && digits < 1f; i++) {
            digits = digits * 2f;
            exponent--;
        }
        return (exponent << 23) + (int) ((digits - 1f) * 8388608f);
    }

    /** The people, a row of numbers for each property, so that a copy makes no objects. */
    private static final class People {
        int count;
        final int[] rows = new int[MOST_PEOPLE];
        final int[] seats = new int[MOST_PEOPLE];
        final int[] angles = new int[MOST_PEOPLE];
        final int[] steps = new int[MOST_PEOPLE];
        final int[] verdictDays = new int[MOST_PEOPLE];
        final int[] paid = new int[MOST_PEOPLE];
        final int[] seenMinutes = new int[MOST_PEOPLE * FEATURES];

        People() {
            for (int i = 0; i < verdictDays.length; i++) {
                verdictDays[i] = NONE;
            }
            for (int i = 0; i < seenMinutes.length; i++) {
                seenMinutes[i] = NONE;
            }
        }

        void copyFrom(People other) {
            count = other.count;
            copyRow(other.rows, rows);
            copyRow(other.seats, seats);
            copyRow(other.angles, angles);
            copyRow(other.steps, steps);
            copyRow(other.verdictDays, verdictDays);
            copyRow(other.paid, paid);
            copyRow(other.seenMinutes, seenMinutes);
        }

        boolean has(int person) {
            return person >= 0 && person < count;
        }

        boolean isTaken(int row, int seat) {
            for (int i = 0; i < count; i++) {
                if (rows[i] == row && seats[i] == seat) {
                    return true;
                }
            }
            return false;
        }

        /** How many features to either side of the one in front are seen. */
        int seenAside(int person) {
            for (int i = 0; i < count; i++) {
                if (seats[i] == seats[person] && rows[i] < rows[person]) {
                    return 0;
                }
            }
            return SEEN_ASIDE;
        }

        int angleAfter(int person, int minutes) {
            return (angles[person] + steps[person] * minutes) % FEATURES;
        }

        int seenAfter(int person, int minutes) {
            return features(angleAfter(person, minutes), seenAside(person));
        }

        void watch(int person, int minute, int minutes) {
            int aside = seenAside(person);
            // Turning repeats after 12 minutes, so what is seen at all is seen last in the last 12.
            for (int i = Math.max(0, minutes - FEATURES); i < minutes; i++) {
                int seen = features(angleAfter(person, i), aside);
                for (int feature = 0; feature < FEATURES; feature++) {
                    if (hasBit(seen, feature)) {
                        seenMinutes[person * FEATURES + feature] = minute + i;
                    }
                }
            }
        }

        static int features(int middle, int aside) {
            int set = 0;
            for (int shift = -aside; shift <= aside; shift++) {
                set |= 1 << (middle + shift + FEATURES) % FEATURES;
            }
            return set;
        }

        void turnAll(int minutes) {
            for (int i = 0; i < count; i++) {
                angles[i] = angleAfter(i, minutes);
            }
        }

        int rememberedSince(int person, int minute) {
            int remembered = 0;
            for (int feature = 0; feature < FEATURES; feature++) {
                int seen = seenMinutes[person * FEATURES + feature];
                if (seen != NONE && seen >= minute) {
                    remembered |= 1 << feature;
                }
            }
            return remembered;
        }
    }

    /** The sheets in the jotter by rising numbers; the place of one changes, its number does not. */
    private static final class Sheets {
        int count;
        int begun;
        final int[] numbers = new int[MOST_SHEETS];
        final int[] people = new int[MOST_SHEETS];
        final int[] drawn = new int[MOST_SHEETS];
        final int[] dryMinutes = new int[MOST_SHEETS];

        void copyFrom(Sheets other) {
            count = other.count;
            begun = other.begun;
            copyRow(other.numbers, numbers);
            copyRow(other.people, people);
            copyRow(other.drawn, drawn);
            copyRow(other.dryMinutes, dryMinutes);
        }

        int placeOf(int number) {
            for (int i = 0; i < count; i++) {
                if (numbers[i] == number) {
                    return i;
                }
            }
            return NONE;
        }

        int ofPerson(int person) {
            int sum = 0;
            for (int i = 0; i < count; i++) {
                if (people[i] == person) {
                    sum++;
                }
            }
            return sum;
        }

        int add(int person) {
            numbers[count] = begun;
            people[count] = person;
            drawn[count] = 0;
            dryMinutes[count] = 0;
            count++;
            begun++;
            return begun - 1;
        }

        void removeAt(int place) {
            for (int i = place; i + 1 < count; i++) {
                numbers[i] = numbers[i + 1];
                people[i] = people[i + 1];
                drawn[i] = drawn[i + 1];
                dryMinutes[i] = dryMinutes[i + 1];
            }
            count--;
        }
    }

    private static final class Papers {
        int count;
        final int[] rates = new int[MOST_PAPERS];
        final int[] hours = new int[MOST_PAPERS];
        final int[] bought = new int[MOST_PAPERS];
        final int[] paid = new int[MOST_PAPERS];
        final int[] buyingDays = new int[MOST_PAPERS];
        final int[] peopleBought = new int[MOST_PAPERS];

        void copyFrom(Papers other) {
            count = other.count;
            copyRow(other.rates, rates);
            copyRow(other.hours, hours);
            copyRow(other.bought, bought);
            copyRow(other.paid, paid);
            copyRow(other.buyingDays, buyingDays);
            copyRow(other.peopleBought, peopleBought);
        }

        boolean has(int paper) {
            return paper >= 0 && paper < count;
        }

        int peopleBoughtOn(int paper, int day) {
            return buyingDays[paper] == day ? peopleBought[paper] : 0;
        }

        void buy(int paper, int person, int price, int day) {
            peopleBought[paper] = peopleBoughtOn(paper, day) | 1 << person;
            buyingDays[paper] = day;
            bought[paper]++;
            paid[paper] += price;
        }
    }

    private static final class Sale {
        int sheet;
        int paper;
        int price;
    }

    /** Everything but the text and the history. A call that answers an error changes nothing. */
    private static final class Court {
        final People people = new People();
        final Sheets sheets = new Sheets();
        final Papers papers = new Papers();
        int memory = 40;
        int drying = 10;
        int minute;
        int lookedAt = NONE;
        int drawnThisMinute;
        int sold;
        int paid;

        void copyFrom(Court other) {
            people.copyFrom(other.people);
            sheets.copyFrom(other.sheets);
            papers.copyFrom(other.papers);
            memory = other.memory;
            drying = other.drying;
            minute = other.minute;
            lookedAt = other.lookedAt;
            drawnThisMinute = other.drawnThisMinute;
            sold = other.sold;
            paid = other.paid;
        }

        int addPerson(int row, int seat) {
            if (!isWithin(row, 0, ROWS - 1) || !isWithin(seat, 0, SEATS - 1)) {
                return INVALID_ARGUMENT;
            }
            if (people.isTaken(row, seat)) {
                return NOT_POSSIBLE;
            }
            if (people.count >= MOST_PEOPLE) {
                return LIMIT_REACHED;
            }
            people.rows[people.count] = row;
            people.seats[people.count] = seat;
            people.count++;
            return people.count - 1;
        }

        int turnPerson(int person, int angle, int step) {
            if (!people.has(person) || !isWithin(angle, 0, FEATURES - 1)
                    || !isWithin(step, 0, FEATURES - 1)) {
                return INVALID_ARGUMENT;
            }
            people.angles[person] = angle;
            people.steps[person] = step;
            return people.seenAfter(person, 0);
        }

        int addPaper(int rate, int hour) {
            if (!isWithin(rate, 1, MOST_RATE) || !isWithin(hour, 1, MINUTES_A_DAY - 1)) {
                return INVALID_ARGUMENT;
            }
            if (papers.count >= MOST_PAPERS) {
                return LIMIT_REACHED;
            }
            papers.rates[papers.count] = rate;
            papers.hours[papers.count] = hour;
            papers.count++;
            return papers.count - 1;
        }

        int lookAt(int person) {
            if (person != NONE && !people.has(person)) {
                return INVALID_ARGUMENT;
            }
            lookedAt = person;
            return person == NONE ? 0 : people.seenAfter(person, 0);
        }

        int beginSheet(int person) {
            if (!people.has(person)) {
                return INVALID_ARGUMENT;
            }
            if (sheets.count >= MOST_SHEETS) {
                return LIMIT_REACHED;
            }
            return sheets.add(person);
        }

        int drawFeature(int sheet, int feature) {
            int place = sheets.placeOf(sheet);
            if (place == NONE || !isWithin(feature, 0, FEATURES - 1)) {
                return INVALID_ARGUMENT;
            }
            if (!hasBit(drawable(place), feature)) {
                return NOT_POSSIBLE;
            }
            if (drawnThisMinute >= DRAWN_A_MINUTE) {
                return LIMIT_REACHED;
            }
            drawnThisMinute++;
            sheets.drawn[place] |= 1 << feature;
            // Ink drawn ahead of a shorter setting may be wet for longer than this feature's.
            sheets.dryMinutes[place] = Math.max(sheets.dryMinutes[place], minute + drying);
            return Integer.bitCount(sheets.drawn[place]);
        }

        int tearOut(int sheet) {
            int place = sheets.placeOf(sheet);
            if (place == NONE) {
                return INVALID_ARGUMENT;
            }
            sheets.removeAt(place);
            return sheets.count;
        }

        int tellVerdict(int person) {
            if (!people.has(person)) {
                return INVALID_ARGUMENT;
            }
            if (hasVerdict(person)) {
                return NOT_POSSIBLE;
            }
            people.verdictDays[person] = day();
            return sheets.ofPerson(person);
        }

        int sellSheet(int sheet, int paper) {
            int place = sheets.placeOf(sheet);
            if (place == NONE || !papers.has(paper)) {
                return INVALID_ARGUMENT;
            }
            if (!canSell(place, paper)) {
                return NOT_POSSIBLE;
            }
            int person = sheets.people[place];
            int price = priceAt(place, paper);
            papers.buy(paper, person, price, day());
            people.paid[person] += price;
            paid += price;
            sold++;
            sheets.removeAt(place);
            return price;
        }

        int passMinutes(int minutes) {
            if (!isWithin(minutes, 1, MOST_MINUTES)) {
                return INVALID_ARGUMENT;
            }
            if (minute + minutes > LAST_MINUTE) {
                return LIMIT_REACHED;
            }
            advance(minutes);
            int sum = 0;
            for (int i = 0; i < people.count; i++) {
                sum += Integer.bitCount(remembered(i));
            }
            return sum;
        }

        int changeSetting(int what, int value) {
            if (what == 0 && isWithin(value, 1, 200)) {
                int old = memory;
                memory = value;
                return old;
            }
            if (what == 1 && isWithin(value, 0, 60)) {
                int old = drying;
                drying = value;
                return old;
            }
            return INVALID_ARGUMENT;
        }

        int perform(char kind, int first, int second) {
            switch (kind) {
                case 'l':
                    return lookAt(first);
                case 'b':
                    return beginSheet(first);
                case 'd':
                    return drawFeature(first, second);
                case 'v':
                    return tellVerdict(first);
                case 's':
                    return sellSheet(first, second);
                case 'm':
                    return passMinutes(first);
                default:
                    return INVALID_ARGUMENT;
            }
        }

        void advance(int minutes) {
            if (lookedAt != NONE) {
                people.watch(lookedAt, minute, minutes);
            }
            people.turnAll(minutes);
            minute += minutes;
            drawnThisMinute = 0;
        }

        /** Puts the best sale into what is given, and tells whether there is one. */
        boolean findBestSale(Sale found) {
            found.price = NONE;
            for (int place = 0; place < sheets.count; place++) {
                for (int paper = 0; paper < papers.count; paper++) {
                    int price = priceAt(place, paper);
                    if (price > found.price && canSell(place, paper)) {
                        found.sheet = sheets.numbers[place];
                        found.paper = paper;
                        found.price = price;
                    }
                }
            }
            return found.price != NONE;
        }

        boolean canSell(int place, int paper) {
            return isDry(place) && !hasBit(papers.peopleBoughtOn(paper, day()), sheets.people[place]);
        }

        int priceAt(int place, int paper) {
            int price = papers.rates[paper] * Integer.bitCount(sheets.drawn[place]);
            if (hasVerdict(sheets.people[place])) {
                price = price * 2;
            }
            return hour() > papers.hours[paper] ? price / 2 : price;
        }

        int day() {
            return minute / MINUTES_A_DAY;
        }

        int hour() {
            return minute % MINUTES_A_DAY;
        }

        boolean hasVerdict(int person) {
            return people.verdictDays[person] == day();
        }

        int remembered(int person) {
            return people.rememberedSince(person, minute - memory);
        }

        int drawable(int place) {
            return remembered(sheets.people[place]) & ~sheets.drawn[place];
        }

        int wetFor(int place) {
            return sheets.dryMinutes[place] > minute ? sheets.dryMinutes[place] - minute : 0;
        }

        boolean isDry(int place) {
            return sheets.drawn[place] != 0 && wetFor(place) == 0;
        }

        int tellOfPerson(int person, int what) {
            if (!people.has(person)) {
                return INVALID_ARGUMENT;
            }
            switch (what) {
                case 0:
                    return people.rows[person];
                case 1:
                    return people.seats[person];
                case 2:
                    return people.angles[person];
                case 3:
                    return people.steps[person];
                case 4:
                    return people.seenAfter(person, 0);
                case 5:
                    return remembered(person);
                case 6:
                    return hasVerdict(person) ? 1 : 0;
                case 7:
                    return sheets.ofPerson(person);
                case 8:
                    return people.paid[person];
                default:
                    return INVALID_ARGUMENT;
            }
        }

        int tellOfSheet(int sheet, int what) {
            int place = sheets.placeOf(sheet);
            if (place == NONE) {
                return INVALID_ARGUMENT;
            }
            switch (what) {
                case 0:
                    return sheets.people[place];
                case 1:
                    return sheets.drawn[place];
                case 2:
                    return Integer.bitCount(sheets.drawn[place]);
                case 3:
                    return isDry(place) ? 1 : 0;
                case 4:
                    return wetFor(place);
                case 5:
                    return drawable(place);
                default:
                    return INVALID_ARGUMENT;
            }
        }

        int tellOfPaper(int paper, int what) {
            if (!papers.has(paper)) {
                return INVALID_ARGUMENT;
            }
            switch (what) {
                case 0:
                    return papers.rates[paper];
                case 1:
                    return papers.hours[paper];
                case 2:
                    return papers.bought[paper];
                case 3:
                    return papers.paid[paper];
                case 4:
                    return papers.peopleBoughtOn(paper, day());
                default:
                    return INVALID_ARGUMENT;
            }
        }

        int tellCount(int what) {
            switch (what) {
                case 0:
                    return people.count;
                case 1:
                    return papers.count;
                case 2:
                    return sheets.count;
                case 3:
                    return sheets.begun;
                case 4:
                    return minute;
                case 5:
                    return day();
                case 6:
                    return hour();
                case 7:
                    return lookedAt == NONE ? NOT_FOUND : lookedAt;
                case 8:
                    return DRAWN_A_MINUTE - drawnThisMinute;
                case 9:
                    return sold;
                case 10:
                    return paid;
                case 20:
                    return memory;
                case 21:
                    return drying;
                default:
                    return INVALID_ARGUMENT;
            }
        }
    }

    /** The states ahead of the latest changes, in a ring with a spare place for the next one. */
    private static final class History {
        private static final int PLACES = MOST_STATES + 1;

        final Court[] states = new Court[PLACES];
        int oldest;
        int size;

        History() {
            for (int i = 0; i < states.length; i++) {
                states[i] = new Court();
            }
        }

        /** Keeps the state ahead of a call in the spare place, as the call may be a change. */
        void prepare(Court before) {
            Court spare = states[(oldest + size) % PLACES];
            if (spare != null) {
                spare.copyFrom(before);
            }
        }

        /** Records what was prepared, if the call answered no error. */
        int settle(int answer) {
            if (answer >= 0 && size < MOST_STATES) {
                size++;
            } else if (answer >= 0) {
                oldest = (oldest + 1) % PLACES;
            }
            return answer;
        }

        int restore(Court court) {
            if (size <= 0) {
                return NOT_POSSIBLE;
            }
            size--;
            Court latest = states[(oldest + size) % PLACES];
            if (latest != null) {
                court.copyFrom(latest);
            }
            return size;
        }
    }

    /** The text, and the order that was read of it last. */
    private static final class Text {
        final char[] characters = new char[MOST_CHARACTERS];
        int length;
        int at;
        char kind;
        int first;
        int second;

        int append(int character) {
            if (!isWithin(character, 32, 126)) {
                return INVALID_ARGUMENT;
            }
            if (length >= MOST_CHARACTERS) {
                return LIMIT_REACHED;
            }
            characters[length] = (char) character;
            length++;
            return length;
        }

        /** Reads an order; afterwards at is behind it, or where it breaks off if this is false. */
        boolean readOrder(int start) {
            at = start;
            kind = next();
            if (!isOneNumber(kind) && !isTwoNumbers(kind)) {
                return false;
            }
            at++;
            first = readNumber();
            second = NONE;
            if (first == NONE) {
                return false;
            }
            if (isTwoNumbers(kind)) {
                if (next() != ',') {
                    return false;
                }
                at++;
                second = readNumber();
                if (second == NONE) {
                    return false;
                }
            }
            if (next() != ';') {
                return false;
            }
            at++;
            return true;
        }

        /** The character that is read next; behind the text it is one that no order has. */
        char next() {
            return at >= 0 && at < length ? characters[at] : ' ';
        }

        int readNumber() {
            int value = NONE;
            for (int i = 0; i < MOST_DIGITS && isWithin(next(), '0', '9'); i++) {
                value = Math.max(value, 0) * 10 + (next() - '0');
                at++;
            }
            return value;
        }

        static boolean isOneNumber(char kind) {
            return kind == 'l' || kind == 'b' || kind == 'v' || kind == 'm';
        }

        static boolean isTwoNumbers(char kind) {
            return kind == 'd' || kind == 's';
        }
    }

    /** Does the orders of a text on trial, as far as they are possible. */
    private static final class Rehearsal {
        int done;
        int position;
        int reason;
        int cause;

        void run(Text text, Court trial) {
            done = 0;
            position = NONE;
            int start = 0;
            while (done < MOST_CHARACTERS && start < text.length) {
                if (!text.readOrder(start)) {
                    fail(start, REASON_FORM, text.at - start);
                    return;
                }
                int answer = trial.perform(text.kind, text.first, text.second);
                if (answer < 0) {
                    fail(start, REASON_CALL, answer);
                    return;
                }
                start = text.at;
                done++;
            }
        }

        void fail(int start, int why, int what) {
            position = start;
            reason = why;
            cause = what;
        }
    }
}
