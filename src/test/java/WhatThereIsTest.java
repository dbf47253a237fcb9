/** Promises 13 to 17 and 23: personOf, sheetOf, paperOf, price, number, count. */
public final class WhatThereIsTest {
    private static final int INVALID = CourtJotter.INVALID_ARGUMENT;
    private static final int NOT_FOUND = CourtJotter.NOT_FOUND;
    private static final int MIN = Integer.MIN_VALUE;
    private static final int MAX = Integer.MAX_VALUE;
    private static final Check CHECK = new Check();

    private static void due(String call, long got, long want) {
        CHECK.due("what there is", call, got, want);
    }

    public static void main(String[] args) {
        promise13PersonOf();
        promise13PersonOfErrors();
        promise14SheetOf();
        promise14SheetOfErrors();
        promise15PaperOf();
        promise15PaperOfErrors();
        promise16Price();
        promise16PriceErrors();
        promise17Number();
        promise23Count();
        promise23CountErrors();
        CHECK.end("WhatThereIsTest");
    }

    /** Two people and two papers; all of person 1 is remembered; minute 12; ink dries in 4 minutes. */
    private static CourtJotter court() {
        CourtJotter x = new CourtJotter();
        x.person(3, 5);
        x.person(1, 2);
        x.turn(1, 7, 1);
        x.paper(7, 50);
        x.paper(20, 299);
        x.set(1, 4);
        x.look(1);
        x.pass(12);
        return x;
    }

    private static void promise13PersonOf() {
        CourtJotter x = court();
        x.sheet(1);
        x.sheet(0);
        x.sheet(1);
        x.draw(0, 3);
        x.draw(0, 4);
        x.verdict(1);
        x.pass(4);
        x.sell(0, 1);
        int[] of0 = {3, 5, 0, 0, 3079, 0, 0, 1, 0};
        int[] of1 = {1, 2, 11, 1, 3587, 4095, 1, 1, 80};
        for (int what = 0; what < 9; what++) {
            due("personOf(0, " + what + ")", x.personOf(0, what), of0[what]);
            due("personOf(1, " + what + ")", x.personOf(1, what), of1[what]);
        }
        x.draw(2, 0);
        x.pass(4);
        x.sell(2, 0);
        due("both sales", x.personOf(1, 8), 94);
        due("no sheet more", x.personOf(1, 7), 0);
    }

    private static void promise13PersonOfErrors() {
        CourtJotter x = court();
        due("personOf(-1, 0)", x.personOf(-1, 0), INVALID);
        due("personOf(2, 0)", x.personOf(2, 0), INVALID);
        due("personOf(6, 0)", x.personOf(6, 0), INVALID);
        due("personOf(0, -1)", x.personOf(0, -1), INVALID);
        due("personOf(0, 9)", x.personOf(0, 9), INVALID);
        due("personOf(MAX, 0)", x.personOf(MAX, 0), INVALID);
        due("personOf(0, MIN)", x.personOf(0, MIN), INVALID);
    }

    private static void promise14SheetOf() {
        CourtJotter x = court();
        x.sheet(0);
        x.sheet(1);
        x.draw(1, 11);
        x.draw(1, 0);
        x.pass(3);
        x.draw(1, 6);
        int[] empty = {0, 0, 0, 0, 0, 0};
        int[] wet = {1, 2113, 3, 0, 4, 1982};
        for (int what = 0; what < 6; what++) {
            due("sheetOf(0, " + what + ")", x.sheetOf(0, what), empty[what]);
            due("sheetOf(1, " + what + ")", x.sheetOf(1, what), wet[what]);
        }
        x.draw(1, 1);
        x.draw(1, 2);
        due("whatever was drawn in this minute", x.sheetOf(1, 5), 1976);
        x.look(-1);
        x.pass(4);
        due("dry", x.sheetOf(1, 3), 1);
        due("wet for", x.sheetOf(1, 4), 0);
        x.set(0, 5);
        due("only what is remembered: minute 14, angle 9", x.sheetOf(1, 5), 3968 & ~2048);
    }

    private static void promise14SheetOfErrors() {
        CourtJotter x = court();
        due("sheetOf(0, 0) of none", x.sheetOf(0, 0), INVALID);
        x.sheet(0);
        x.sheet(0);
        x.tear(0);
        due("sheetOf(0, 0) torn", x.sheetOf(0, 0), INVALID);
        due("sheetOf(1, 0)", x.sheetOf(1, 0), 0);
        due("sheetOf(2, 0)", x.sheetOf(2, 0), INVALID);
        due("sheetOf(-1, 0)", x.sheetOf(-1, 0), INVALID);
        due("sheetOf(1, -1)", x.sheetOf(1, -1), INVALID);
        due("sheetOf(1, 6)", x.sheetOf(1, 6), INVALID);
        due("sheetOf(MIN, MAX)", x.sheetOf(MIN, MAX), INVALID);
    }

    private static void promise15PaperOf() {
        CourtJotter x = court();
        x.sheet(1);
        x.sheet(1);
        x.draw(0, 1);
        x.draw(1, 1);
        x.pass(4);
        x.sell(0, 1);
        int[] of0 = {7, 50, 0, 0, 0};
        int[] of1 = {20, 299, 1, 20, 2};
        for (int what = 0; what < 5; what++) {
            due("paperOf(0, " + what + ")", x.paperOf(0, what), of0[what]);
            due("paperOf(1, " + what + ")", x.paperOf(1, what), of1[what]);
        }
        x.pass(300);
        due("nobody this day", x.paperOf(1, 4), 0);
        due("sell(1, 1)", x.sell(1, 1), 20);
        due("so far", x.paperOf(1, 2), 2);
        due("so far", x.paperOf(1, 3), 40);
    }

    private static void promise15PaperOfErrors() {
        CourtJotter x = court();
        due("paperOf(-1, 0)", x.paperOf(-1, 0), INVALID);
        due("paperOf(2, 0)", x.paperOf(2, 0), INVALID);
        due("paperOf(4, 0)", x.paperOf(4, 0), INVALID);
        due("paperOf(0, -1)", x.paperOf(0, -1), INVALID);
        due("paperOf(0, 5)", x.paperOf(0, 5), INVALID);
        due("paperOf(MAX, MIN)", x.paperOf(MAX, MIN), INVALID);
    }

    private static void promise16Price() {
        CourtJotter x = court();
        x.sheet(1);
        due("nothing drawn", x.price(0, 0), 0);
        x.draw(0, 1);
        x.draw(0, 2);
        x.draw(0, 3);
        due("wet, but it has a price", x.price(0, 0), 21);
        due("another paper", x.price(0, 1), 60);
        x.pass(38);
        due("at the hour", x.price(0, 0), 21);
        x.pass(1);
        due("above the hour, rounded down", x.price(0, 0), 10);
        due("the other's hour is later", x.price(0, 1), 60);
        x.verdict(0);
        due("another's verdict", x.price(0, 0), 10);
        x.verdict(1);
        due("twice ahead of half", x.price(0, 0), 21);
        due("twice", x.price(0, 1), 120);
        x.pass(249);
        due("another day and hour", x.price(0, 0), 21);
    }

    private static void promise16PriceErrors() {
        CourtJotter x = court();
        x.sheet(1);
        due("price(-1, 0)", x.price(-1, 0), INVALID);
        due("price(1, 0)", x.price(1, 0), INVALID);
        due("price(0, -1)", x.price(0, -1), INVALID);
        due("price(0, 2)", x.price(0, 2), INVALID);
        due("price(MIN, MAX)", x.price(MIN, MAX), INVALID);
        x.tear(0);
        due("price(0, 0) torn", x.price(0, 0), INVALID);
    }

    private static void promise17Number() {
        CourtJotter x = court();
        due("number(0)", x.number(0), NOT_FOUND);
        for (int i = 0; i < 10; i++) {
            x.sheet(1);
        }
        due("number(9)", x.number(9), 9);
        due("number(10)", x.number(10), NOT_FOUND);
        x.tear(0);
        x.tear(4);
        x.tear(9);
        x.sheet(0);
        int[] numbers = {1, 2, 3, 5, 6, 7, 8, 10};
        for (int i = 0; i < numbers.length; i++) {
            due("number(" + i + ")", x.number(i), numbers[i]);
        }
        due("number(8)", x.number(8), NOT_FOUND);
        due("number(MAX)", x.number(MAX), NOT_FOUND);
        due("number(-1)", x.number(-1), INVALID);
        due("number(MIN)", x.number(MIN), INVALID);
    }

    private static void promise23Count() {
        CourtJotter x = court();
        x.sheet(1);
        x.sheet(1);
        x.sheet(0);
        x.draw(0, 1);
        x.draw(1, 1);
        x.pass(300);
        x.sell(0, 1);
        x.tear(2);
        x.draw(1, 2);
        x.type('l');
        x.type(' ');
        x.set(0, 44);
        int[] want = {2, 2, 1, 3, 312, 1, 12, 1, 2, 1, 20, 4, 2};
        for (int what = 0; what < want.length; what++) {
            due("count(" + what + ")", x.count(what), want[what]);
        }
        due("count(20)", x.count(20), 44);
        due("count(21)", x.count(21), 4);
        x.look(-1);
        due("count(7) for nobody", x.count(7), NOT_FOUND);
    }

    private static void promise23CountErrors() {
        CourtJotter x = court();
        int[] none = {-1, 13, 14, 19, 22, MIN, MAX};
        for (int what : none) {
            due("count(" + what + ")", x.count(what), INVALID);
        }
    }
}
