import java.util.ArrayList;
import java.util.List;
import java.util.TreeMap;

/**
 * The document's words once more, in the plainest form: every sighting, stroke and sale is kept in a
 * list and asked anew by each call, and every minute passes singly.
 */
final class NaiveCourt {
    private static final int INVALID = -1000001;
    private static final int NOT_POSSIBLE = -1000002;
    private static final int LIMIT = -1000003;
    private static final int NOT_FOUND = -1000004;

    private record Person(int row, int seat, int angle, int step) { }

    private record Sighting(int person, int feature, int minute) { }

    private record Stroke(int sheet, int feature, int minute, int dryAt) { }

    private record Sold(int paper, int person, int price, int minute) { }

    private record Verdict(int person, int minute) { }

    private record Paper(int rate, int hour) { }

    private static final class State {
        List<Person> people = new ArrayList<>();
        List<Sighting> sightings = new ArrayList<>();
        List<Stroke> strokes = new ArrayList<>();
        List<Sold> sales = new ArrayList<>();
        List<Verdict> verdicts = new ArrayList<>();
        List<Paper> papers = new ArrayList<>();
        TreeMap<Integer, Integer> sheets = new TreeMap<>();
        int begun;
        int minute;
        int looked = -1;
        int[] settings = {40, 10};

        State copy() {
            State copy = new State();
            copy.people.addAll(people);
            copy.sightings.addAll(sightings);
            copy.strokes.addAll(strokes);
            copy.sales.addAll(sales);
            copy.verdicts.addAll(verdicts);
            copy.papers.addAll(papers);
            copy.sheets.putAll(sheets);
            copy.begun = begun;
            copy.minute = minute;
            copy.looked = looked;
            copy.settings = settings.clone();
            return copy;
        }

        boolean hidden(int person) {
            Person one = people.get(person);
            return people.stream().anyMatch(p -> p.seat == one.seat && p.row < one.row);
        }

        boolean seen(int person, int feature, int angle) {
            int away = Math.floorMod(feature - angle, 12);
            return away == 0 || !hidden(person) && (away <= 2 || away >= 10);
        }

        int seenSet(int person) {
            int set = 0;
            for (int f = 0; f < 12; f++) {
                set += seen(person, f, people.get(person).angle) ? 1 << f : 0;
            }
            return set;
        }

        void minute() {
            for (int f = 0; looked >= 0 && f < 12; f++) {
                if (seen(looked, f, people.get(looked).angle)) {
                    sightings.add(new Sighting(looked, f, minute));
                }
            }
            people.replaceAll(p -> new Person(p.row, p.seat, (p.angle + p.step) % 12, p.step));
            minute++;
            // Nothing older than the longest memory can be asked for again, as minutes go on only.
            sightings.removeIf(s -> minute - s.minute > 200);
        }

        boolean remembered(int person, int feature) {
            return sightings.stream().anyMatch(s -> s.person == person && s.feature == feature
                    && minute - s.minute <= settings[0]);
        }

        int rememberedSet(int person) {
            int set = 0;
            for (int f = 0; f < 12; f++) {
                set += remembered(person, f) ? 1 << f : 0;
            }
            return set;
        }

        int drawnSet(int sheet) {
            return strokes.stream().filter(s -> s.sheet == sheet).mapToInt(s -> 1 << s.feature).sum();
        }

        int drawnNow() {
            return (int) strokes.stream().filter(s -> s.minute == minute).count();
        }

        int wet(int sheet) {
            return strokes.stream().filter(s -> s.sheet == sheet)
                    .mapToInt(s -> Math.max(0, s.dryAt - minute)).max().orElse(0);
        }

        boolean verdict(int person) {
            return verdicts.stream().anyMatch(v -> v.person == person && v.minute / 300 == minute / 300);
        }

        boolean bought(int paper, int person) {
            return sales.stream().anyMatch(s -> s.paper == paper && s.person == person
                    && s.minute / 300 == minute / 300);
        }

        int price(int sheet, int paper) {
            int price = papers.get(paper).rate * Integer.bitCount(drawnSet(sheet));
            price *= verdict(sheets.get(sheet)) ? 2 : 1;
            return minute % 300 > papers.get(paper).hour ? Math.floorDiv(price, 2) : price;
        }

        boolean dry(int sheet) {
            return drawnSet(sheet) != 0 && wet(sheet) == 0;
        }

        boolean sellable(int sheet, int paper) {
            return dry(sheet) && !bought(paper, sheets.get(sheet));
        }

        int[] best() {
            int[] best = null;
            for (int sheet : sheets.keySet()) {
                for (int paper = 0; paper < papers.size(); paper++) {
                    if (sellable(sheet, paper) && (best == null || price(sheet, paper) > best[2])) {
                        best = new int[] {sheet, paper, price(sheet, paper)};
                    }
                }
            }
            return best;
        }

        int sheetsOf(int person) {
            return (int) sheets.values().stream().filter(p -> p == person).count();
        }

        boolean noPerson(int person) {
            return person < 0 || person >= people.size();
        }

        boolean noSheet(int sheet) {
            return !sheets.containsKey(sheet);
        }

        boolean noPaper(int paper) {
            return paper < 0 || paper >= papers.size();
        }

        int change(String name, int a, int b, int c) {
            switch (name) {
                case "person":
                    return person(a, b);
                case "turn":
                    if (noPerson(a) || out(b, 0, 11) || out(c, 0, 11)) {
                        return INVALID;
                    }
                    people.set(a, new Person(people.get(a).row, people.get(a).seat, b, c));
                    return seenSet(a);
                case "paper":
                    if (out(a, 1, 20) || out(b, 1, 299)) {
                        return INVALID;
                    }
                    if (papers.size() == 4) {
                        return LIMIT;
                    }
                    papers.add(new Paper(a, b));
                    return papers.size() - 1;
                case "look":
                    if (a != -1 && noPerson(a)) {
                        return INVALID;
                    }
                    looked = a;
                    return a == -1 ? 0 : seenSet(a);
                case "sheet":
                    if (noPerson(a)) {
                        return INVALID;
                    }
                    if (sheets.size() == 10) {
                        return LIMIT;
                    }
                    sheets.put(begun, a);
                    return begun++;
                case "draw":
                    return draw(a, b);
                case "tear":
                    if (noSheet(a)) {
                        return INVALID;
                    }
                    sheets.remove(a);
                    return sheets.size();
                case "verdict":
                    if (noPerson(a)) {
                        return INVALID;
                    }
                    if (verdict(a)) {
                        return NOT_POSSIBLE;
                    }
                    verdicts.add(new Verdict(a, minute));
                    return sheetsOf(a);
                case "sell":
                    return sell(a, b);
                case "pass":
                    return pass(a);
                default:
                    return set(a, b);
            }
        }

        int person(int row, int seat) {
            if (out(row, 0, 3) || out(seat, 0, 5)) {
                return INVALID;
            }
            if (people.stream().anyMatch(p -> p.row == row && p.seat == seat)) {
                return NOT_POSSIBLE;
            }
            if (people.size() == 6) {
                return LIMIT;
            }
            people.add(new Person(row, seat, 0, 0));
            return people.size() - 1;
        }

        int draw(int sheet, int feature) {
            if (noSheet(sheet) || out(feature, 0, 11)) {
                return INVALID;
            }
            if ((drawnSet(sheet) & 1 << feature) != 0 || !remembered(sheets.get(sheet), feature)) {
                return NOT_POSSIBLE;
            }
            if (drawnNow() == 3) {
                return LIMIT;
            }
            strokes.add(new Stroke(sheet, feature, minute, minute + settings[1]));
            return Integer.bitCount(drawnSet(sheet));
        }

        int sell(int sheet, int paper) {
            if (noSheet(sheet) || noPaper(paper)) {
                return INVALID;
            }
            if (!sellable(sheet, paper)) {
                return NOT_POSSIBLE;
            }
            int price = price(sheet, paper);
            sales.add(new Sold(paper, sheets.remove(sheet), price, minute));
            return price;
        }

        int pass(int minutes) {
            if (out(minutes, 1, 300)) {
                return INVALID;
            }
            if (minute + minutes > 9999) {
                return LIMIT;
            }
            for (int i = 0; i < minutes; i++) {
                minute();
            }
            int sum = 0;
            for (int p = 0; p < people.size(); p++) {
                sum += Integer.bitCount(rememberedSet(p));
            }
            return sum;
        }

        int set(int what, int value) {
            if (out(what, 0, 1) || out(value, 1 - what, what == 0 ? 200 : 60)) {
                return INVALID;
            }
            int old = settings[what];
            settings[what] = value;
            return old;
        }
    }

    private State now = new State();
    private final List<State> history = new ArrayList<>();
    private String text = "";

    private static boolean out(int value, int least, int most) {
        return value < least || value > most;
    }

    private void remember(State before) {
        history.add(before);
        if (history.size() == 5) {
            history.remove(0);
        }
    }

    int change(String name, int a, int b, int c) {
        State before = now.copy();
        int answer = now.change(name, a, b, c);
        if (answer >= 0) {
            remember(before);
        }
        return answer;
    }

    int personOf(int person, int what) {
        if (now.noPerson(person) || out(what, 0, 8)) {
            return INVALID;
        }
        Person one = now.people.get(person);
        int paid = now.sales.stream().filter(s -> s.person == person).mapToInt(Sold::price).sum();
        return new int[] {one.row, one.seat, one.angle, one.step, now.seenSet(person),
            now.rememberedSet(person), now.verdict(person) ? 1 : 0, now.sheetsOf(person), paid}[what];
    }

    int sheetOf(int sheet, int what) {
        if (now.noSheet(sheet) || out(what, 0, 5)) {
            return INVALID;
        }
        int person = now.sheets.get(sheet);
        int drawn = now.drawnSet(sheet);
        return new int[] {person, drawn, Integer.bitCount(drawn), now.dry(sheet) ? 1 : 0, now.wet(sheet),
            now.rememberedSet(person) & ~drawn}[what];
    }

    int paperOf(int paper, int what) {
        if (now.noPaper(paper) || out(what, 0, 4)) {
            return INVALID;
        }
        List<Sold> sales = now.sales.stream().filter(s -> s.paper == paper).toList();
        int people = 0;
        for (int p = 0; p < now.people.size(); p++) {
            people += now.bought(paper, p) ? 1 << p : 0;
        }
        return new int[] {now.papers.get(paper).rate, now.papers.get(paper).hour, sales.size(),
            sales.stream().mapToInt(Sold::price).sum(), people}[what];
    }

    int price(int sheet, int paper) {
        return now.noSheet(sheet) || now.noPaper(paper) ? INVALID : now.price(sheet, paper);
    }

    int number(int index) {
        if (index < 0) {
            return INVALID;
        }
        return index < now.sheets.size() ? new ArrayList<>(now.sheets.keySet()).get(index) : NOT_FOUND;
    }

    int seenIn(int person, int feature) {
        if (now.noPerson(person) || out(feature, 0, 11)) {
            return INVALID;
        }
        State ahead = now.copy();
        for (int minutes = 0; minutes < 50; minutes++) {
            if (ahead.seen(person, feature, ahead.people.get(person).angle)) {
                return minutes;
            }
            ahead.minute();
        }
        return NOT_FOUND;
    }

    int would(int person, int minutes) {
        if (now.noPerson(person) || out(minutes, 0, 300)) {
            return INVALID;
        }
        State ahead = now.copy();
        ahead.looked = person;
        for (int i = 0; i < minutes; i++) {
            ahead.minute();
        }
        return Integer.bitCount(ahead.rememberedSet(person));
    }

    int best(int what) {
        if (out(what, 0, 2)) {
            return INVALID;
        }
        int[] best = now.best();
        return best == null ? NOT_FOUND : best[what];
    }

    int sellAll() {
        State ahead = now.copy();
        int sum = 0;
        for (int[] best = ahead.best(); best != null; best = ahead.best()) {
            sum += ahead.sell(best[0], best[1]);
        }
        return sum;
    }

    int mean() {
        if (now.sales.isEmpty()) {
            return NOT_FOUND;
        }
        int paid = now.sales.stream().mapToInt(Sold::price).sum();
        return Float.floatToIntBits((float) paid / (float) now.sales.size());
    }

    int count(int what) {
        switch (what) {
            case 7:
                return now.looked < 0 ? NOT_FOUND : now.looked;
            case 20:
            case 21:
                return now.settings[what - 20];
            default:
                if (out(what, 0, 12)) {
                    return INVALID;
                }
                return new int[] {now.people.size(), now.papers.size(), now.sheets.size(), now.begun,
                    now.minute, now.minute / 300, now.minute % 300, 0, 3 - now.drawnNow(),
                    now.sales.size(), now.sales.stream().mapToInt(Sold::price).sum(), history.size(),
                    text.length()}[what];
        }
    }

    int undo() {
        if (history.isEmpty()) {
            return NOT_POSSIBLE;
        }
        now = history.remove(history.size() - 1);
        return history.size();
    }

    int type(int character) {
        if (out(character, 32, 126)) {
            return INVALID;
        }
        if (text.length() == 60) {
            return LIMIT;
        }
        text += (char) character;
        return text.length();
    }

    int clearText() {
        int length = text.length();
        text = "";
        return length;
    }

    /** How many characters of the order are of the form; the form has "9" for a number. */
    private static int matched(String rest, String form) {
        int at = 0;
        for (char wanted : form.toCharArray()) {
            int digits = 0;
            if (wanted == '9') {
                while (digits < 3 && at < rest.length() && "0123456789".indexOf(rest.charAt(at)) >= 0) {
                    at++;
                    digits++;
                }
            } else if (at < rest.length() && rest.charAt(at) == wanted) {
                at++;
                digits++;
            }
            if (digits == 0) {
                return -1 - at;
            }
        }
        return at;
    }

    /** Position, reason and cause of the fault, or null; the orders are done on the state. */
    private int[] run(State state, int[] orders) {
        int start = 0;
        while (start < text.length()) {
            String rest = text.substring(start);
            int kind = "lbvmds".indexOf(rest.charAt(0));
            if (kind < 0) {
                return new int[] {start, 1, 0};
            }
            int length = matched(rest, rest.charAt(0) + (kind < 4 ? "9;" : "9,9;"));
            if (length < 0) {
                return new int[] {start, 1, -1 - length};
            }
            String[] numbers = rest.substring(1, length - 1).split(",");
            String name = new String[] {"look", "sheet", "verdict", "pass", "draw", "sell"}[kind];
            int answer = state.change(name, Integer.parseInt(numbers[0]),
                    kind < 4 ? 0 : Integer.parseInt(numbers[1]), 0);
            if (answer < 0) {
                return new int[] {start, 2, answer};
            }
            start += length;
            orders[0]++;
        }
        return null;
    }

    int fault(int what) {
        if (out(what, 0, 2)) {
            return INVALID;
        }
        int[] fault = run(now.copy(), new int[1]);
        return fault == null ? NOT_FOUND : fault[what];
    }

    int play() {
        State ahead = now.copy();
        int[] orders = new int[1];
        if (run(ahead, orders) != null) {
            return NOT_POSSIBLE;
        }
        remember(now);
        now = ahead;
        return orders[0];
    }
}
