/** All that a court tells of itself, but for the length of its history and of its text. */
final class Snapshot {
    private Snapshot() {
    }

    static String of(CourtJotter x) {
        StringBuilder all = new StringBuilder();
        for (int what : new int[] {0, 1, 2, 3, 4, 5, 6, 7, 8, 9, 10, 20, 21}) {
            all.append(" c").append(x.count(what));
        }
        for (int person = 0; person < x.count(0); person++) {
            for (int what = 0; what < 9; what++) {
                all.append(" p").append(x.personOf(person, what));
            }
            all.append(" w").append(x.would(person, 7)).append(" i").append(x.seenIn(person, 6));
        }
        for (int paper = 0; paper < x.count(1); paper++) {
            for (int what = 0; what < 5; what++) {
                all.append(" r").append(x.paperOf(paper, what));
            }
        }
        for (int index = 0; index < x.count(2); index++) {
            all.append(" n").append(x.number(index));
            for (int what = 0; what < 6; what++) {
                all.append(" s").append(x.sheetOf(x.number(index), what));
            }
        }
        for (int what = 0; what < 3; what++) {
            all.append(" b").append(x.best(what));
        }
        return all.append(" a").append(x.sellAll()).append(" m").append(x.mean()).toString();
    }
}
