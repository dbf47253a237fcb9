/** Runs of up to 512 calls, the same on the class and on NaiveCourt; each answer must be the same. */
public final class NaiveCourtTest {
    private static final int RUNS = 300;
    // Behind the 512th call all answers are free; the counts at the end of a run are calls too.
    private static final int COUNTS_AT_END = 24;
    private static final int CALLS = 512 - COUNTS_AT_END;
    private static final String[] CHANGES =
        {"person", "turn", "paper", "look", "sheet", "draw", "tear", "verdict", "sell", "pass", "set"};
    // How often each of them is called; drawing and selling need what the others have made.
    private static final int[] SHARES = {4, 4, 3, 8, 8, 30, 2, 4, 16, 16, 5};
    private static final int[] ODD = {Integer.MIN_VALUE, -1000, -2, -1, 1000, 65536, Integer.MAX_VALUE};
    private static final Check CHECK = new Check();

    private long seed;
    private int run;
    private CourtJotter court;
    private NaiveCourt naive;

    public static void main(String[] args) {
        NaiveCourtTest test = new NaiveCourtTest();
        for (int run = 0; run < RUNS; run++) {
            test.oneRun(run);
        }
        CHECK.end("NaiveCourtTest");
    }

    /** A number from 0 to below the bound, always the same ones for a run. */
    private int below(int bound) {
        seed = seed * 6364136223846793005L + 1442695040888963407L;
        return (int) ((seed >>> 33) % bound);
    }

    private int from(int least, int most) {
        return least + below(most - least + 1);
    }

    /** Mostly a number of the range, now and then one beside it or far from it. */
    private int around(int least, int most) {
        int luck = below(60);
        if (luck == 0) {
            return ODD[below(ODD.length)];
        }
        return luck == 1 ? least - 1 : luck == 2 ? most + 1 : from(least, most);
    }

    private void same(String call, int got, int want) {
        CHECK.due("run " + run, call, got, want);
    }

    private void oneRun(int number) {
        run = number;
        seed = number * 7919L + 17;
        court = new CourtJotter();
        naive = new NaiveCourt();
        int calls = 0;
        while (calls < CALLS) {
            int luck = below(100);
            if (luck < 55) {
                change();
                calls++;
            } else if (luck < 60) {
                same("undo", court.undo(), naive.undo());
                calls++;
            } else if (luck < 96) {
                ask();
                calls++;
            } else {
                calls += text(CALLS - calls);
            }
        }
        for (int what = -1; what < COUNTS_AT_END - 1; what++) {
            same("count " + what, court.count(what), naive.count(what));
        }
    }

    private int anyPerson() {
        return around(0, Math.max(0, naive.count(0) - 1));
    }

    private int anyPaper() {
        return around(0, Math.max(0, naive.count(1) - 1));
    }

    private int anySheet() {
        int sheets = naive.count(2);
        return sheets == 0 || below(20) == 0 ? around(0, naive.count(3)) : naive.number(below(sheets));
    }

    /** Mostly a feature that can be drawn on the sheet, if there is one. */
    private int anyFeature(int sheet) {
        int set = naive.sheetOf(sheet, 5);
        if (set <= 0 || below(8) == 0) {
            return around(0, 11);
        }
        int feature = below(12);
        for (int i = 0; i < 12 && (set >> feature & 1) == 0; i++) {
            feature = (feature + 5) % 12;
        }
        return feature;
    }

    private int minutes() {
        int luck = below(10);
        return luck < 6 ? from(1, 6) : luck < 8 ? from(5, 30) : luck < 9 ? from(30, 110) : around(1, 300);
    }

    private void change() {
        int luck = below(100);
        int kind = 0;
        while (luck >= SHARES[kind]) {
            luck -= SHARES[kind];
            kind++;
        }
        int a;
        int b = 0;
        int c = 0;
        switch (kind) {
            case 0: a = around(0, 3); b = around(0, run % 2 == 0 ? 1 : 5); break;
            case 1: a = anyPerson(); b = around(0, 11); c = around(0, 11); break;
            case 2: a = around(1, 20); b = around(1, 299); break;
            case 5: a = anySheet(); b = anyFeature(a); break;
            case 6: a = anySheet(); break;
            case 8: a = anySheet(); b = anyPaper(); break;
            case 9: a = minutes(); break;
            case 10: a = around(0, 1); b = a == 0 ? around(1, 200) : around(0, 60); break;
            default: a = anyPerson(); break;
        }
        String name = CHANGES[kind];
        same(name + "(" + a + ", " + b + ", " + c + ")", make(name, a, b, c), naive.change(name, a, b, c));
    }

    private int make(String name, int a, int b, int c) {
        switch (name) {
            case "person": return court.person(a, b);
            case "turn": return court.turn(a, b, c);
            case "paper": return court.paper(a, b);
            case "look": return court.look(a);
            case "sheet": return court.sheet(a);
            case "draw": return court.draw(a, b);
            case "tear": return court.tear(a);
            case "verdict": return court.verdict(a);
            case "sell": return court.sell(a, b);
            case "pass": return court.pass(a);
            default: return court.set(a, b);
        }
    }

    private void ask() {
        int person = anyPerson();
        int sheet = anySheet();
        int paper = anyPaper();
        int what = around(0, 8);
        int feature = around(0, 11);
        int minutes = around(0, 300);
        int index = around(0, 9);
        int third = around(0, 2);
        int many = around(0, 24);
        switch (below(11)) {
            case 0: same("personOf " + person + " " + what, court.personOf(person, what),
                    naive.personOf(person, what)); break;
            case 1: same("sheetOf " + sheet + " " + what, court.sheetOf(sheet, what),
                    naive.sheetOf(sheet, what)); break;
            case 2: same("paperOf " + paper + " " + what, court.paperOf(paper, what),
                    naive.paperOf(paper, what)); break;
            case 3: same("price " + sheet + " " + paper, court.price(sheet, paper),
                    naive.price(sheet, paper)); break;
            case 4: same("number " + index, court.number(index), naive.number(index)); break;
            case 5: same("seenIn " + person + " " + feature, court.seenIn(person, feature),
                    naive.seenIn(person, feature)); break;
            case 6: same("would " + person + " " + minutes, court.would(person, minutes),
                    naive.would(person, minutes)); break;
            case 7: same("best " + third, court.best(third), naive.best(third)); break;
            case 8: same("sellAll", court.sellAll(), naive.sellAll()); break;
            case 9: same("mean", court.mean(), naive.mean()); break;
            default: same("count " + many, court.count(many), naive.count(many)); break;
        }
    }

    private String number(int value) {
        String digits = String.valueOf(Math.max(0, value));
        return below(8) == 0 ? "0" + digits : digits;
    }

    private String anyOrder() {
        int sheet = anySheet();
        switch (below(7)) {
            case 0: return "l" + number(anyPerson());
            case 1: return "b" + number(anyPerson());
            case 2: return "v" + number(anyPerson());
            case 3: return "m" + number(minutes());
            case 4: return "s" + number(sheet) + "," + number(anyPaper());
            default: return "d" + number(sheet) + "," + number(anyFeature(sheet));
        }
    }

    private String anyText() {
        StringBuilder text = new StringBuilder();
        for (int orders = from(0, 9); orders > 0; orders--) {
            text.append(anyOrder()).append(';');
        }
        if (text.length() > 0 && below(3) == 0) {
            text.setCharAt(below(text.length()), "lbvmds0123456789,; x".charAt(below(20)));
        }
        if (text.length() > 0 && below(8) == 0) {
            text.setLength(below(text.length()));
        }
        return text.toString();
    }

    /** Types and plays a text, if that is not more than the calls that are left; returns how many it took. */
    private int text(int left) {
        String text = anyText();
        if (text.length() + 5 > left) {
            return 0;
        }
        same("clearText", court.clearText(), naive.clearText());
        for (int i = 0; i < text.length(); i++) {
            same("type", court.type(text.charAt(i)), naive.type(text.charAt(i)));
        }
        for (int what = 0; what < 3; what++) {
            same("fault " + what + " of " + text, court.fault(what), naive.fault(what));
        }
        same("play " + text, court.play(), naive.play());
        return text.length() + 5;
    }
}
