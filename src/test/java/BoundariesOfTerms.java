/** What the project is, and the terms: people, faces, sheets, verdicts, papers and settings. */
final class BoundariesOfTerms extends Boundaries {
    BoundariesOfTerms(Sentences sentences) {
        super(sentences);
    }

    @Override
    void run() {
        intro();
        people();
        faces();
        remembering();
        sheets();
        verdictsAndPapers();
        settingsRangesAndFirstValues();
    }

    private void intro() {
        atMost512Calls();
        divisionsAreRoundedDown();
        minutesAreCountedFrom0AndADayHas300();
        setsAreToldAsBits();
    }

    private void people() {
        atMostSixPeople();
        eachInARowAndASeat();
        noTwoHaveTheSame();
    }

    private void faces() {
        aFaceHasTwelveFeatures();
        turnedByAnAngle0AtFirst();
        seenAreFiveModulo12();
        ifNobodyInTheSameSeatIsInALowerRow();
        otherwiseOnlyTheAngleItself();
        turnsByAStep0AtFirst();
        theAngleBecomesGreaterModulo12();
    }

    private void remembering() {
        looksAtNobodyAtFirst();
        rememberedAsOfTheMinuteThatPasses();
        rememberedIfSeenAtMostSetting0MinutesAgo();
    }

    private void sheets() {
        atMostTenSheets();
        noSheetNumberComesAgain();
        inkIsWetForSetting1Minutes();
        dryIfItHasAFeatureAndNoWetInk();
        onlyARememberedFeatureCanBeDrawn();
        drawnOnlyOnceOnASheet();
        atMostThreeFeaturesInAMinute();
    }

    private void verdictsAndPapers() {
        aVerdictHoldsUntilTheEndOfItsDay();
        atMostFourPapers();
        aPaperHasARateAndAnHour();
        priceIsTheRateTimesTheFeatures();
        twiceThatIfThereIsAVerdict();
        halfOfThatAboveTheHour();
        aPaperBuysADrySheet();
        atMostOneSheetOfAPersonOnADay();
    }

    // ---- What it is

    private void atMost512Calls() {
        says("What it is", "An object is used for at most 512 calls after it has been made");
        CourtJotter passing = one();
        passing.turn(0, 0, 1);
        passing.look(0);
        for (int i = 0; i < 508; i++) {
            passing.pass(19);
        }
        due("call 512: the angle in minute 9652", passing.personOf(0, 2), 4);
        CourtJotter tearing = one();
        for (int i = 0; i < 255; i++) {
            tearing.sheet(0);
            tearing.tear(i);
        }
        due("call 512: sheet(0)", tearing.sheet(0), 255);
        CourtJotter setting = new CourtJotter();
        for (int i = 1; i < 511; i++) {
            setting.set(1, i % 61);
        }
        due("call 511: undo()", setting.undo(), 3);
        due("call 512: count(21)", setting.count(21), 509 % 61);
    }

    // ---- Terms

    private void divisionsAreRoundedDown() {
        says("Terms", "All divisions are rounded down.");
        CourtJotter x = known();
        x.paper(1, 1);
        x.paper(3, 1);
        x.paper(4, 1);
        int sheet = drawnSheet(x, 0, 1);
        due("half of 1", x.price(sheet, 0), 0);
        due("half of 3", x.price(sheet, 1), 1);
        due("half of 4", x.price(sheet, 2), 2);
        x.pass(287);
        due("299 divided by 300", x.count(5), 0);
    }

    private void minutesAreCountedFrom0AndADayHas300() {
        says("Terms", "Minutes are counted from 0; a day has 300 of them, so the day is the minute divided by "
                + "300, and the hour of the day what is left over.");
        CourtJotter x = new CourtJotter();
        int[][] minuteDayHour = {{0, 0, 0}, {299, 0, 299}, {300, 1, 0}, {599, 1, 299}, {600, 2, 0},
            {9899, 32, 299}, {9900, 33, 0}, {9999, 33, 99}};
        for (int[] due : minuteDayHour) {
            passTo(x, due[0]);
            due("minute " + due[0], x.count(4), due[0]);
            due("day of minute " + due[0], x.count(5), due[1]);
            due("hour of minute " + due[0], x.count(6), due[2]);
        }
    }

    private void setsAreToldAsBits() {
        says("Terms", "Sets of features are told as bits: bit k is for the feature k.");
        CourtJotter x = one();
        x.person(1, 0);
        x.look(1);
        x.sheet(1);
        for (int k = 0; k < 12; k++) {
            due("only " + k + " is seen", x.turn(1, k, 0), 1 << k);
            x.pass(1);
            due("remembered up to " + k, x.personOf(1, 5), (2 << k) - 1);
            x.draw(0, k);
            due("drawn up to " + k, x.sheetOf(0, 1), (2 << k) - 1);
        }
    }

    // ---- people

    private void atMostSixPeople() {
        says("Terms", "There are at most 6 people, numbered from 0 in the order in which they came");
        CourtJotter x = new CourtJotter();
        due("nobody", x.count(0), 0);
        for (int i = 0; i < 6; i++) {
            due("person " + i, x.person(3 - i % 2, i), i);
        }
        due("row of the last", x.personOf(5, 0), 2);
        due("seat of the last", x.personOf(5, 1), 5);
        due("a seventh", x.person(0, 0), LIMIT);
        due("six", x.count(0), 6);
    }

    private void eachInARowAndASeat() {
        says("Terms", ", each in a row (0 to 3, 0 is in front) and a seat (0 to 5)");
        CourtJotter x = new CourtJotter();
        x.person(3, 5);
        due("row 3 alone", x.personOf(0, 4), 3079);
        for (int row = 2; row >= 0; row--) {
            due("person in row " + row, x.person(row, 5), 3 - row);
            due("in front", x.personOf(3 - row, 4), 3079);
            due("behind", x.personOf(2 - row, 4), 1);
        }
        due("row -1", x.person(-1, 5), INVALID);
        due("row 4", x.person(4, 5), INVALID);
        due("seat -1", x.person(0, -1), INVALID);
        due("seat 6", x.person(0, 6), INVALID);
        due("seat 0", x.person(0, 0), 4);
        due("row 3 and seat 0", x.person(3, 0), 5);
    }

    private void noTwoHaveTheSame() {
        says("Terms", "; no two have the same.");
        CourtJotter x = new CourtJotter();
        due("person(3, 5)", x.person(3, 5), 0);
        due("the same", x.person(3, 5), NOT_POSSIBLE);
        due("the same row", x.person(3, 4), 1);
        due("the same seat", x.person(2, 5), 2);
        due("person(0, 0)", x.person(0, 0), 3);
        due("the same", x.person(0, 0), NOT_POSSIBLE);
        due("four came", x.count(0), 4);
    }

    // ---- faces

    private void aFaceHasTwelveFeatures() {
        says("Terms", "A face has 12 features, 0 to 11, around it.");
        CourtJotter x = known();
        due("all twelve are remembered", x.personOf(0, 5), 4095);
        due("11 is beside 0", x.turn(0, 0, 0), 3079);
        due("0 is beside 11", x.turn(0, 11, 0), 3587);
        x.sheet(0);
        due("feature -1", x.draw(0, -1), INVALID);
        due("feature 12", x.draw(0, 12), INVALID);
        due("feature 0", x.draw(0, 0), 1);
        due("feature 11", x.draw(0, 11), 2);
        due("seenIn(0, 11)", x.seenIn(0, 11), 0);
        due("seenIn(0, 12)", x.seenIn(0, 12), INVALID);
    }

    private void turnedByAnAngle0AtFirst() {
        says("Terms", "Somebody is turned by an angle (0 to 11; 0 at first)");
        CourtJotter x = one();
        due("at first", x.personOf(0, 2), 0);
        due("seen at first", x.personOf(0, 4), 3079);
        range("turn's angle", 0, 11, angle -> one().turn(0, angle, 0));
        x.turn(0, 11, 0);
        due("the greatest", x.personOf(0, 2), 11);
    }

    private void seenAreFiveModulo12() {
        says("Terms", "seen are then the features angle less 2 to angle plus 2 (modulo 12)");
        CourtJotter x = one();
        due("0: 10, 11, 0, 1, 2", x.turn(0, 0, 0), 1024 + 2048 + 1 + 2 + 4);
        due("1: 11, 0, 1, 2, 3", x.turn(0, 1, 0), 2048 + 1 + 2 + 4 + 8);
        due("2: 0 to 4", x.turn(0, 2, 0), 31);
        due("9: 7 to 11", x.turn(0, 9, 0), 128 + 256 + 512 + 1024 + 2048);
        due("10: 8, 9, 10, 11, 0", x.turn(0, 10, 0), 256 + 512 + 1024 + 2048 + 1);
        due("11: 9, 10, 11, 0, 1", x.turn(0, 11, 0), 512 + 1024 + 2048 + 1 + 2);
    }

    private void ifNobodyInTheSameSeatIsInALowerRow() {
        says("Terms", ", if nobody in the same seat is in a lower row");
        CourtJotter x = new CourtJotter();
        x.person(1, 2);
        x.turn(0, 4, 0);
        x.person(2, 2);
        due("somebody in a higher row", x.personOf(0, 4), 124);
        x.person(0, 1);
        x.person(0, 3);
        due("lower rows in other seats", x.personOf(0, 4), 124);
        x.person(0, 2);
        due("the row just below", x.personOf(0, 4), 16);
        CourtJotter y = new CourtJotter();
        y.person(0, 0);
        y.person(3, 0);
        due("row 0 is in front of row 3", y.personOf(1, 4), 1);
        due("nobody is in front of row 0", y.personOf(0, 4), 3079);
    }

    private void otherwiseOnlyTheAngleItself() {
        says("Terms", "; otherwise only the feature angle itself is.");
        CourtJotter x = one();
        x.person(1, 0);
        due("angle 0", x.turn(1, 0, 0), 1);
        due("angle 11", x.turn(1, 11, 0), 2048);
        x.look(1);
        due("only that one is remembered", x.pass(1), 1);
        due("11", x.personOf(1, 5), 2048);
    }

    private void turnsByAStep0AtFirst() {
        says("Terms", "Somebody turns by a step (0 to 11; 0 at first)");
        CourtJotter x = one();
        due("at first", x.personOf(0, 3), 0);
        x.pass(5);
        due("not turned", x.personOf(0, 2), 0);
        range("turn's step", 0, 11, step -> one().turn(0, 0, step));
        x.turn(0, 0, 11);
        due("the greatest", x.personOf(0, 3), 11);
    }

    private void theAngleBecomesGreaterModulo12() {
        says("Terms", ": when a minute passes, the angle becomes greater by the step, modulo 12.");
        int[][] angleStepMinutesThen = {{10, 1, 1, 11}, {11, 1, 1, 0}, {11, 11, 1, 10}, {1, 11, 1, 0},
            {6, 6, 1, 0}, {0, 0, 300, 0}, {11, 0, 300, 11}, {0, 11, 300, 0}, {11, 11, 299, 0}};
        for (int[] due : angleStepMinutesThen) {
            CourtJotter x = one();
            x.turn(0, due[0], due[1]);
            x.pass(due[2]);
            due(due[0] + " by " + due[1] + " in " + due[2] + " minutes", x.personOf(0, 2), due[3]);
        }
        CourtJotter x = one();
        x.turn(0, 11, 11);
        passTo(x, 9999);
        due("11 by 11 in 9999 minutes", x.personOf(0, 2), 8);
    }

    // ---- remembering

    private void looksAtNobodyAtFirst() {
        says("Terms", "The sketcher looks at one person, or nobody (at first).");
        CourtJotter x = one();
        x.person(0, 1);
        due("nobody at first", x.count(7), NOT_FOUND);
        due("nothing is remembered", x.pass(3), 0);
        x.look(0);
        x.look(1);
        due("one person", x.count(7), 1);
        due("five features of one", x.pass(1), 5);
        due("of the other nothing", x.personOf(0, 5), 0);
    }

    private void rememberedAsOfTheMinuteThatPasses() {
        says("Terms", "When a minute passes while one is looked at, all features that are seen then (by the "
                + "angle ahead of turning) are remembered as of that minute (the number of the minute that "
                + "passes).");
        CourtJotter x = one();
        x.turn(0, 0, 6);
        x.look(0);
        due("looking alone remembers nothing", x.personOf(0, 5), 0);
        due("one minute", x.pass(1), 5);
        due("of the angle 0, not 6", x.personOf(0, 5), 3079);
        due("the angle then", x.personOf(0, 2), 6);
        x.look(-1);
        x.set(0, 1);
        due("as of minute 0, in minute 1", x.personOf(0, 5), 3079);
        x.pass(1);
        due("as of minute 0, in minute 2", x.personOf(0, 5), 0);
        x.set(0, 2);
        due("as of minute 0, in minute 2", x.personOf(0, 5), 3079);
        CourtJotter later = one();
        later.pass(7);
        later.turn(0, 6, 3);
        later.look(0);
        due("one minute, and none ahead of it", later.pass(1), 5);
        due("of the angle 6", later.personOf(0, 5), 16 + 32 + 64 + 128 + 256);
    }

    private void rememberedIfSeenAtMostSetting0MinutesAgo() {
        says("Terms", "A feature is remembered if it was seen at most setting 0 minutes ago (by setting 0 as "
                + "it is now).");
        for (int setting : new int[] {1, 40, 200}) {
            CourtJotter x = one();
            x.set(0, setting);
            x.look(0);
            x.pass(1);
            x.look(-1);
            passTo(x, setting);
            due(setting + " minutes ago", x.personOf(0, 5), 3079);
            due("one minute more", x.pass(1), 0);
        }
        CourtJotter x = one();
        x.look(0);
        x.pass(1);
        x.look(-1);
        x.pass(40);
        due("41 minutes ago", x.personOf(0, 5), 0);
        x.set(0, 41);
        due("by the setting as it is now", x.personOf(0, 5), 3079);
        x.set(0, 40);
        due("by the setting as it is now", x.personOf(0, 5), 0);
    }

    // ---- Sheets

    private void atMostTenSheets() {
        says("Sheets", "There are at most 10 sheets in the jotter, numbered from 0 in the order in which they "
                + "were begun");
        CourtJotter x = one();
        x.person(0, 1);
        due("none", x.count(2), 0);
        for (int i = 0; i < 10; i++) {
            due("sheet " + i, x.sheet(i / 9), i);
        }
        due("an eleventh", x.sheet(0), LIMIT);
        due("ten", x.count(2), 10);
        due("the first one's person", x.sheetOf(0, 0), 0);
        due("the last one's person", x.sheetOf(9, 0), 1);
        x.tear(0);
        due("there is room again", x.sheet(0), 10);
        due("and none any more", x.sheet(0), LIMIT);
    }

    private void noSheetNumberComesAgain() {
        says("Sheets", " (no number comes again), each of a person, with the features that are drawn.");
        CourtJotter x = known();
        x.paper(1, 299);
        x.sheet(0);
        x.tear(0);
        due("the only one was torn out", x.sheet(0), 1);
        x.draw(1, 11);
        x.sell(1, 0);
        due("the only one was sold", x.sheet(0), 2);
        due("nothing is drawn on it", x.sheetOf(2, 1), 0);
        due("the old numbers are none", x.sheetOf(0, 0), INVALID);
        due("the old numbers are none", x.sheetOf(1, 0), INVALID);
    }

    private void inkIsWetForSetting1Minutes() {
        says("Sheets", "When a feature is drawn on a sheet, its ink is wet for setting 1 minutes from then on");
        for (int setting : new int[] {1, 10, 60}) {
            CourtJotter x = known();
            x.set(1, setting);
            x.sheet(0);
            x.draw(0, 0);
            due("just drawn", x.sheetOf(0, 4), setting);
            passTo(x, 12 + setting - 1);
            due("in the last minute", x.sheetOf(0, 4), 1);
            due("in the last minute", x.sheetOf(0, 3), 0);
            x.pass(1);
            due("behind it", x.sheetOf(0, 4), 0);
            due("behind it", x.sheetOf(0, 3), 1);
        }
        CourtJotter x = known();
        x.sheet(0);
        x.draw(0, 0);
        due("0 minutes", x.sheetOf(0, 4), 0);
        due("0 minutes", x.sheetOf(0, 3), 1);
    }

    private void dryIfItHasAFeatureAndNoWetInk() {
        says("Sheets", "; a sheet is dry if it has a feature and no wet ink.");
        CourtJotter x = known();
        x.sheet(0);
        due("no feature", x.sheetOf(0, 3), 0);
        due("no wet ink either", x.sheetOf(0, 4), 0);
        x.draw(0, 0);
        due("one feature", x.sheetOf(0, 3), 1);
        x.set(1, 1);
        x.draw(0, 1);
        due("one of two is wet", x.sheetOf(0, 3), 0);
        x.pass(1);
        due("none of two is wet", x.sheetOf(0, 3), 1);
    }

    private void onlyARememberedFeatureCanBeDrawn() {
        says("Sheets", "Only a feature that is remembered can be drawn");
        CourtJotter x = one();
        x.sheet(0);
        x.look(0);
        due("seen, but no minute passed", x.draw(0, 0), NOT_POSSIBLE);
        x.pass(1);
        x.look(-1);
        due("beside the seen ones", x.draw(0, 3), NOT_POSSIBLE);
        due("beside the seen ones", x.draw(0, 9), NOT_POSSIBLE);
        due("the first seen one", x.draw(0, 10), 1);
        due("the last seen one", x.draw(0, 2), 2);
        passTo(x, 40);
        due("40 minutes ago", x.draw(0, 0), 3);
        x.pass(1);
        due("41 minutes ago", x.draw(0, 1), NOT_POSSIBLE);
    }

    private void drawnOnlyOnceOnASheet() {
        says("Sheets", ", and only once on a sheet.");
        CourtJotter x = known();
        x.sheet(0);
        x.sheet(0);
        due("once", x.draw(0, 11), 1);
        due("twice", x.draw(0, 11), NOT_POSSIBLE);
        due("on another sheet", x.draw(1, 11), 1);
        x.pass(1);
        due("twice, in another minute", x.draw(0, 11), NOT_POSSIBLE);
        due("drawn is one", x.sheetOf(0, 2), 1);
    }

    private void atMostThreeFeaturesInAMinute() {
        says("Sheets", "The sketcher draws at most 3 features in a minute.");
        CourtJotter x = known();
        x.sheet(0);
        x.sheet(0);
        due("the first", x.draw(0, 0), 1);
        due("the second", x.draw(1, 0), 1);
        due("the third", x.draw(0, 1), 2);
        due("a fourth", x.draw(0, 2), LIMIT);
        due("a fourth on another sheet", x.draw(1, 1), LIMIT);
        x.pass(1);
        for (int feature = 2; feature < 5; feature++) {
            due("next minute", x.draw(0, feature), feature + 1);
        }
        due("a fourth in it", x.draw(0, 5), LIMIT);
    }

    // ---- verdicts, papers

    private void aVerdictHoldsUntilTheEndOfItsDay() {
        says("Sheets", "There can be a verdict for a person on a day; it is told at a minute, and holds until "
                + "the end of that day.");
        for (int minute : new int[] {0, 1, 299}) {
            CourtJotter x = one();
            passTo(x, minute);
            due("none yet", x.personOf(0, 6), 0);
            x.verdict(0);
            due("told in minute " + minute, x.personOf(0, 6), 1);
            passTo(x, 299);
            due("at the end of the day", x.personOf(0, 6), 1);
            x.pass(1);
            due("the next day", x.personOf(0, 6), 0);
        }
        CourtJotter x = one();
        passTo(x, 300);
        x.verdict(0);
        passTo(x, 599);
        due("a whole day", x.personOf(0, 6), 1);
        x.pass(1);
        due("the day behind it", x.personOf(0, 6), 0);
    }

    private void atMostFourPapers() {
        says("Sheets", "There are at most 4 papers, numbered from 0 in the order in which they came");
        CourtJotter x = new CourtJotter();
        due("none", x.count(1), 0);
        for (int i = 0; i < 4; i++) {
            due("paper " + i, x.paper(5 + i, 7), i);
        }
        due("a fifth", x.paper(1, 1), LIMIT);
        due("four", x.count(1), 4);
        due("the first one's rate", x.paperOf(0, 0), 5);
        due("the last one's rate", x.paperOf(3, 0), 8);
    }

    private void aPaperHasARateAndAnHour() {
        says("Sheets", ", each with a rate (1 to 20) and an hour (1 to 299).");
        range("rate", 1, 20, rate -> new CourtJotter().paper(rate, 1));
        range("hour", 1, 299, hour -> new CourtJotter().paper(1, hour));
        CourtJotter x = new CourtJotter();
        x.paper(1, 299);
        x.paper(20, 1);
        due("the least rate", x.paperOf(0, 0), 1);
        due("the greatest hour", x.paperOf(0, 1), 299);
        due("the greatest rate", x.paperOf(1, 0), 20);
        due("the least hour", x.paperOf(1, 1), 1);
    }

    private void priceIsTheRateTimesTheFeatures() {
        says("Sheets", "The price of a sheet for a paper is the rate times the features drawn");
        CourtJotter x = known();
        x.paper(1, 299);
        x.paper(20, 299);
        int[] sheets = {x.sheet(0), drawnSheet(x, 0, 1), drawnSheet(x, 0, 12)};
        int[] features = {0, 1, 12};
        for (int i = 0; i < 3; i++) {
            due("rate 1 times " + features[i], x.price(sheets[i], 0), features[i]);
            due("rate 20 times " + features[i], x.price(sheets[i], 1), 20 * features[i]);
        }
    }

    private void twiceThatIfThereIsAVerdict() {
        says("Sheets", ", twice that if there is a verdict for its person this day");
        CourtJotter x = known();
        x.person(0, 1);
        x.paper(20, 299);
        int empty = x.sheet(0);
        int full = drawnSheet(x, 0, 12);
        x.verdict(1);
        due("another's verdict", x.price(full, 0), 240);
        x.verdict(0);
        due("twice the greatest", x.price(full, 0), 480);
        due("twice nothing", x.price(empty, 0), 0);
        passTo(x, 299);
        due("at the end of the day", x.price(full, 0), 480);
        x.pass(1);
        due("the next day", x.price(full, 0), 240);
    }

    private void halfOfThatAboveTheHour() {
        says("Sheets", ", half of that (of either) if the hour of the day is above the hour of the paper.");
        CourtJotter x = known();
        x.paper(5, 20);
        x.paper(5, 299);
        int sheet = drawnSheet(x, 0, 3);
        passTo(x, 20);
        due("at the hour", x.price(sheet, 0), 15);
        x.pass(1);
        due("above the hour", x.price(sheet, 0), 7);
        x.verdict(0);
        due("half of twice", x.price(sheet, 0), 15);
        due("twice, no half", x.price(sheet, 1), 30);
        passTo(x, 299);
        due("the last hour", x.price(sheet, 0), 15);
        due("no hour is above 299", x.price(sheet, 1), 30);
        x.pass(1);
        due("hour 0", x.price(sheet, 0), 15);
        due("hour 0", x.price(sheet, 1), 15);
    }

    private void aPaperBuysADrySheet() {
        says("Sheets", "A paper buys a dry sheet; it is out of the jotter then.");
        CourtJotter x = known();
        x.set(1, 1);
        x.paper(2, 299);
        x.sheet(0);
        due("an empty one", x.sell(0, 0), NOT_POSSIBLE);
        x.draw(0, 0);
        due("a wet one", x.sell(0, 0), NOT_POSSIBLE);
        due("still in the jotter", x.count(2), 1);
        x.pass(1);
        due("a dry one", x.sell(0, 0), 2);
        due("out of the jotter", x.count(2), 0);
        due("number(0)", x.number(0), NOT_FOUND);
        due("sheetOf(0, 0)", x.sheetOf(0, 0), INVALID);
        due("not again", x.sell(0, 0), INVALID);
    }

    private void atMostOneSheetOfAPersonOnADay() {
        says("Sheets", "A paper buys at most one sheet of the same person on a day.");
        CourtJotter x = known();
        x.person(0, 1);
        x.paper(2, 299);
        x.paper(3, 299);
        for (int i = 0; i < 3; i++) {
            drawnSheet(x, 0, 1);
        }
        x.look(1);
        x.pass(1);
        int other = drawnSheet(x, 1, 1);
        due("one", x.sell(0, 0), 2);
        due("a second", x.sell(1, 0), NOT_POSSIBLE);
        due("of another person", x.sell(other, 0), 2);
        due("by another paper", x.sell(1, 1), 3);
        passTo(x, 299);
        due("at the end of the day", x.sell(2, 0), NOT_POSSIBLE);
        x.pass(1);
        due("the next day", x.sell(2, 0), 2);
    }

    // ---- Settings

    private void settingsRangesAndFirstValues() {
        says("Settings", "The settings are (in parentheses: range; first value): 0 (1 to 200; 40), 1 (0 to 60; "
                + "10).");
        CourtJotter x = new CourtJotter();
        due("first value of 0", x.count(20), 40);
        due("first value of 1", x.count(21), 10);
        range("setting 0", 1, 200, value -> new CourtJotter().set(0, value));
        range("setting 1", 0, 60, value -> new CourtJotter().set(1, value));
        range("settings", 0, 1, what -> new CourtJotter().set(what, 20));
    }
}
