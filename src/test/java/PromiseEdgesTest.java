/**
 * The edges of each promise: the last argument that is taken, the first that is refused on either side, far ones, an
 * empty object and a full one, and that a refused call leaves all as it was. Each test is named after its promise.
 */
public final class PromiseEdgesTest {
    private static final int NONE = Edges.NONE;
    private static final int MIN = Edges.MIN;
    private static final int MAX = Edges.MAX;

    private static void due(String what, long got, long want) {
        Check.due(what, got, want);
    }

    private static void due(String what, boolean got, boolean want) {
        Check.due(what, got, want);
    }

    private static long one(boolean answer) {
        return Edges.one(answer);
    }

    private static DawnPerquisite empty() {
        return new DawnPerquisite();
    }

    private static DawnPerquisite withoutOdds() {
        DawnPerquisite x = empty();
        for (int sort = 0; sort < 5; sort++) {
            x.sort(sort, 0, 7 + sort);
        }
        return x;
    }

    // ---- 1 to 8: what is told ----

    private static void promise1NobodyOnTheWall() {
        DawnPerquisite x = empty();
        for (int what = 0; what < 7; what++) {
            due("about " + what, x.about(what), what == 2 ? NONE : 0);
        }
        for (int buyer = 0; buyer < 6; buyer++) {
            due("of " + buyer, x.of(buyer, 3), -10);
        }
        for (int slice = 0; slice < 12; slice++) {
            due("at " + slice, x.at(slice), NONE);
            due("value " + slice, x.ends(slice, slice), 0);
        }
        due("no line", x.book(NONE, 0), 0);
        due("no step", x.undo(), NONE);
        due("the constant", DawnPerquisite.NONE, -1);
    }

    private static void promise1TheImageIsThis() {
        DawnPerquisite x = empty();
        due("at once", x.back(), 0);
        Edges.same("back at once", x, empty());
        DawnPerquisite y = Edges.four();
        y.sort(0, 9, 99);
        y.sort(4, 0, 0);
        for (int slice = 0; slice < 12; slice++) {
            y.value(slice, 99);
        }
        y.paid(3, true);
        y.said(3, 99);
        y.day(60);
        y.give(11);
        y.years(9999, 40);
        due("back behind much", y.back(), 0);
        Edges.same("back behind much", y, empty());
    }

    private static void promise2FirstAndLastTaken() {
        DawnPerquisite x = empty();
        int[][] taken = {{0, 0, 0}, {0, 9, 99}, {4, 0, 99}, {4, 9, 0}, {2, 9, 0}};
        for (int[] told : taken) {
            due("sort", x.sort(told[0], told[1], told[2]), true);
            due("odds", x.ofSort(told[0], 0), told[1]);
            due("worth", x.ofSort(told[0], 1), told[2]);
        }
        due("another's odds stay", x.ofSort(1, 0), 1);
        due("another's worth stays", x.ofSort(3, 1), 30);
        due("no step", x.about(3), 0);
    }

    private static void promise2OthersRefused() {
        Edges.refuses("sort", Edges::busy, 0, 4, (x, i) -> one(x.sort(i, 9, 9)), 0);
        Edges.refuses("odds", Edges::busy, 0, 9, (x, i) -> one(x.sort(2, i, 9)), 0);
        Edges.refuses("worth", Edges::busy, 0, 99, (x, i) -> one(x.sort(2, 9, i)), 0);
    }

    private static void promise2EmptyAndFull() {
        due("told on an empty wall", empty().sort(4, 9, 99), true);
        DawnPerquisite x = Edges.full();
        due("told on a full wall", x.sort(4, 0, 99), true);
        due("steps stay", x.about(3), 30);
        due("an odd less", x.chance(0, true), 4);
        due("never", x.chance(4, false), 0);
    }

    private static void promise3FirstAndLastTaken() {
        DawnPerquisite x = empty();
        int[][] taken = {{0, 0, 0, 0}, {31, 0, 11, 999}, {16, 11, 11, 1}, {1, 0, 0, 998}, {2, 10, 11, 999}, {8, 5, 5, 0}};
        for (int i = 0; i < 6; i++) {
            due("buyer", x.buyer(taken[i][0], taken[i][1], taken[i][2], taken[i][3]), i);
            due("how many", x.about(0), i + 1);
        }
        for (int i = 0; i < 6; i++) {
            for (int what = 0; what < 4; what++) {
                due("of " + i + " " + what, x.of(i, what), taken[i][what]);
            }
            due("has none", x.of(i, 6), 0);
        }
        due("no step", x.about(3), 0);
    }

    private static void promise3OthersRefused() {
        Edges.refuses("wants", Edges::busy, 0, 31, (x, i) -> x.buyer(i, 0, 0, 0), NONE);
        Edges.refuses("from up to 11", Edges::busy, 0, 11, (x, i) -> x.buyer(1, i, 11, 0), NONE);
        Edges.refuses("from up to 3", Edges::busy, 0, 3, (x, i) -> x.buyer(1, i, 3, 0), NONE);
        Edges.refuses("to from 0", Edges::busy, 0, 11, (x, i) -> x.buyer(1, 0, i, 0), NONE);
        Edges.refuses("to from 4", Edges::busy, 4, 11, (x, i) -> x.buyer(1, 4, i, 0), NONE);
        Edges.refuses("from as to", Edges::busy, 0, 11, (x, i) -> x.buyer(1, i, i, 0), NONE);
        Edges.refuses("purse", Edges::busy, 0, 999, (x, i) -> x.buyer(1, 0, 0, i), NONE);
    }

    private static void promise3TheSeventhRefused() {
        Edges.unchanged("the seventh", Edges::full, (x, i) -> x.buyer(31, 0, 0, 0), NONE);
        DawnPerquisite x = Edges.full();
        x.back();
        x.undo();
        due("nor behind going back", x.buyer(31, 0, 0, 0), NONE);
    }

    private static void promise4TwentyBytesTheHighestFirst() {
        DawnPerquisite x = empty();
        due("twenty", x.feed(0x62757965, 0x72203320, 0x746f2035, 0x3b676976, 0x6520373b), 20);
        due("buyer 3 to 5;give 7;", x.text(), 0);
        due("played", x.played(0), NONE);
        due("from", x.of(0, 1), 3);
        due("to", x.of(0, 2), 5);
        due("given", x.at(7), 6);
    }

    private static void promise4AnyIntIsFourBytes() {
        int[] ints = {MIN, MAX, -1, 0, 255, 256};
        for (int i : ints) {
            DawnPerquisite x = empty();
            due("taken", x.feed(i, i, i, i, i), 20);
            due("twenty bytes", x.end(20), 20);
            due("none of a text", x.text(), NONE);
            due("fault", x.fault(0), 1);
            due("place", x.fault(1), 0);
        }
        // the byte of a sign behind one of 128 or more: four bytes are four, whatever their sign
        DawnPerquisite x = empty();
        x.feed(0x3b62ffff, 0, 0, 0, 0);
        due("a fault", x.text(), NONE);
        due("at the first", x.fault(1), 0);
        DawnPerquisite y = empty();
        y.feed(0x20202020, 0x202020ff, 0, 0, 0);
        due("a fault", y.text(), NONE);
        due("at the eighth", y.fault(1), 7);
    }

    private static void promise4Up300() {
        DawnPerquisite x = empty();
        for (int bytes = 20; bytes <= 300; bytes += 20) {
            due("how many", x.feed(0, 0, 0, 0, 0), bytes);
        }
        due("one more", x.feed(0, 0, 0, 0, 0), NONE);
        due("none came", x.about(6), 300);
    }

    private static void promise4NotOneMoreThan300() {
        for (int bytes = 281; bytes <= 300; bytes++) {
            int length = bytes;
            Edges.unchanged("feed to a tape of " + bytes, () -> tapeOf(length), (x, i) -> x.feed(1, 2, 3, 4, 5), NONE);
        }
        DawnPerquisite x = tapeOf(280);
        due("just enough", x.feed(1, 2, 3, 4, 5), 300);
        DawnPerquisite y = Edges.full();
        due("refused", y.feed(MIN, MIN, MAX, MAX, -1), NONE);
        y.back();
        due("the tape is the same", y.end(300), 300);
    }

    private static void promise4ARefusedFeedLeavesTheTape() {
        DawnPerquisite x = empty();
        Check.tape(x, "give 5;" + " ".repeat(280) + "give 6;");
        due("refused", x.feed(0x3b3b3b3b, 0x3b3b3b3b, 0, -1, 1), NONE);
        due("read", x.text(), 0);
        due("played", x.played(0), NONE);
        due("given", x.at(5) + x.at(6), 12);
    }

    private static DawnPerquisite tapeOf(int bytes) {
        DawnPerquisite x = Edges.four();
        Check.tape(x, " ".repeat(bytes));
        return x;
    }

    private static void promise5OthersRefused() {
        Edges.refuses("end of an empty tape", Edges::four, 0, 0, (x, i) -> x.end(i), NONE);
        Edges.refuses("end of seven bytes", Edges::busy, 0, 7, (x, i) -> x.end(i), NONE);
        Edges.refuses("end of 300 bytes", Edges::full, 0, 300, (x, i) -> x.end(i), NONE);
    }

    private static void promise5FirstAndLastTaken() {
        DawnPerquisite x = Edges.full();
        int[] ends = {300, 299, 280, 7, 6, 1, 0, 0};
        for (int end : ends) {
            due("end", x.end(end), end);
            due("bytes", x.about(6), end);
            due("has not so many", x.end(end + 1), NONE);
            due("stays", x.about(6), end);
        }
        due("an empty object", empty().end(0), 0);
    }

    private static void promise5ItsFirstBytesAlone() {
        DawnPerquisite x = empty();
        Check.tape(x, "give 5;give 6;");
        due("cut", x.end(7), 7);
        due("fed behind it", x.feed(0x67697665, 0x20373b20, 0x20202020, 0x20202020, 0x20202020), 27);
        due("read", x.text(), 0);
        due("played", x.played(0), NONE);
        due("the first", x.at(5), 6);
        due("not what was cut", x.at(6), NONE);
        due("what came behind", x.at(7), 6);
    }

    private static void promise6ItsNumber() {
        DawnPerquisite x = empty();
        due("an empty tape", x.text(), 0);
        due("how many", x.about(1), 1);
        due("a fault", Check.text(x, "!"), NONE);
        due("how many", x.about(1), 1);
        due("none is left out", Check.text(x, "bids 1;"), 1);
        due("the third", Check.text(x, "bids 2;"), 2);
        due("a fault", Check.text(x, "bids 1"), NONE);
        due("the fourth", Check.text(x, "bids 3;"), 3);
        due("how many", x.about(1), 4);
    }

    private static void promise6TheTapeIsEmptyThen() {
        DawnPerquisite x = empty();
        Check.text(x, "bids 1;" + " ".repeat(293));
        due("read", x.about(6), 0);
        due("nothing left", x.end(1), NONE);
        Check.text(x, "!" + " ".repeat(299));
        due("a fault", x.about(6), 0);
        due("nothing left", x.end(1), NONE);
        due("the whole tape is free", x.feed(0, 0, 0, 0, 0), 20);
    }

    private static void promise6ThereAreFour() {
        Edges.unchanged("the fifth", Edges::full, (x, i) -> x.text(), NONE);
        Edges.unchanged("the fifth, of a faulty tape", () -> fullOf("give 99;"), (x, i) -> x.text(), NONE);
        Edges.unchanged("the fifth, of an empty tape", () -> fullOf(""), (x, i) -> x.text(), NONE);
        DawnPerquisite x = fullOf("give 99;");
        x.text();
        due("the tape stays", x.about(6), 8);
        due("not read", x.fault(0), 0);
    }

    private static DawnPerquisite fullOf(String tape) {
        DawnPerquisite x = Edges.full();
        Check.tape(x, tape);
        return x;
    }

    private static void promise6ThreeAreNotFour() {
        DawnPerquisite x = empty();
        x.text();
        x.text();
        x.text();
        x.image();
        due("the fourth", Check.text(x, "give 4;"), 3);
        due("the fifth", Check.text(x, "give 5;"), NONE);
        due("the tape stays", x.about(6), 7);
        x.back();
        due("three again", x.about(1), 3);
        due("the same tape is read now", x.text(), 3);
        due("played", x.played(3), NONE);
        due("the new fourth", x.at(5), 6);
        due("not the old one", x.at(4), NONE);
    }

    private static void promise7OthersRefused() {
        Edges.refuses("fault", Edges::busy, 0, 1, (x, i) -> x.fault(i), NONE);
        Edges.refuses("fault ahead of any", Edges::empty, 0, -1, (x, i) -> x.fault(i), NONE);
    }

    private static void promise7OfTheLatestRead() {
        DawnPerquisite x = empty();
        due("ahead of any", x.fault(0), NONE);
        due("ahead of any", x.fault(1), NONE);
        x.feed(1, 2, 3, 4, 5);
        due("not read yet", x.fault(0), NONE);
        due("a fault", x.text(), NONE);
        due("fault", x.fault(0), 1);
        due("at the first byte", x.fault(1), 0);
        x.text();
        due("without", x.fault(0), 0);
        due("no place", x.fault(1), NONE);
        Check.text(x, " ".repeat(299) + "!");
        due("fault", x.fault(0), 1);
        due("at the last byte", x.fault(1), 299);
        Check.text(x, "bids 1" + " ".repeat(294));
        due("fault", x.fault(0), 1);
        due("of the end at the length", x.fault(1), 300);
    }

    private static void promise8OthersRefused() {
        Edges.refuses("by of none", Edges::four, NONE, NONE, (x, i) -> one(x.by(i)), 0);
        Edges.refuses("by of two", Edges::busy, NONE, 1, (x, i) -> one(x.by(i)), 0);
        Edges.refuses("by of four", Edges::full, NONE, 3, (x, i) -> one(x.by(i)), 0);
    }

    private static void promise8FirstAndLastTaken() {
        DawnPerquisite x = Edges.full();
        int[] texts = {0, 3, NONE, NONE, 1, 2};
        for (int text : texts) {
            due("by " + text, x.by(text), true);
            due("the text", x.about(2), text);
            due("bids", x.of(0, 4), text == NONE ? x.ofSort(x.is(3), 1) * 2 / 12 : text + 5);
        }
        due("an empty object", empty().by(NONE), true);
    }

    // ---- 9 to 16: what is done ----

    private static void promise9OthersRefused() {
        Edges.refuses("sell", () -> Edges.ruled("bids 1;", 1, 1, 1), 0, 2, (x, i) -> x.sell(i), NONE);
        Edges.refuses("sell to nobody", Edges::empty, 0, -1, (x, i) -> x.sell(i), NONE);
    }

    private static void promise9FirstAndLastTaken() {
        DawnPerquisite x = Edges.ruled("bids buyer+3;", 9, 9, 9, 9, 9, 9);
        for (int buyer = 0; buyer < 6; buyer++) {
            due("sold", x.sell(buyer), buyer + 3);
            due("whose", x.at(buyer), buyer);
            due("again", x.sell(buyer), NONE);
            due("steps", x.about(3), buyer + 1);
        }
        due("fund", x.is(2), 33);
    }

    private static void promise9WhatCantBe() {
        Edges.unchanged("too poor by one", () -> Edges.ruled("bids 50;", 49), (x, i) -> x.sell(i), NONE);
        Edges.unchanged("another sort", Edges::four, (x, i) -> x.sell(1), NONE);
        Edges.unchanged("sold already", Edges::busy, (x, i) -> x.sell(1), NONE);
        Edges.unchanged("sold already, the first of six", Edges::full, (x, i) -> x.sell(0), NONE);
        Edges.unchanged("sold already, the last of six", Edges::full, (x, i) -> x.sell(5), NONE);
        Edges.unchanged("a slice is another's", Edges::busy, (x, i) -> x.sell(0), NONE);
        Edges.unchanged("a slice is given", () -> givenTo(4), (x, i) -> x.sell(3), NONE);
    }

    private static DawnPerquisite givenTo(int slice) {
        DawnPerquisite x = Edges.four();
        x.give(slice);
        return x;
    }

    private static void promise9ForNothing() {
        DawnPerquisite x = Edges.ruled("bids 0;", 0);
        due("for nothing", x.sell(0), 0);
        due("its slice", x.at(0), 0);
        due("written", x.book(NONE, 0), 1);
        due("for nothing", x.book(0, 3), 0);
    }

    private static void promise9EmptyAndFull() {
        due("an empty wall", empty().sell(0), NONE);
        DawnPerquisite x = Edges.full();
        int[] due = {NONE, 8, NONE, 8, 8, NONE};
        for (int buyer = 0; buyer < 6; buyer++) {
            due("on a full wall " + buyer, x.sell(buyer), due[buyer]);
        }
        due("fund", x.is(2), 40);
        due("steps", x.about(3), 30);
        due("lines", x.book(NONE, 0), 25);
    }

    private static void promise10OthersRefused() {
        Edges.refuses("give", Edges::four, 0, 11, (x, i) -> one(x.give(i)), 0);
        Edges.refuses("give on an empty wall", Edges::empty, 0, 11, (x, i) -> one(x.give(i)), 0);
    }

    private static void promise10FirstAndLastTaken() {
        DawnPerquisite x = Edges.four();
        int free = 4095;
        for (int slice = 0; slice < 12; slice++) {
            due("given", x.give(slice), true);
            free -= 1 << slice;
            due("free", x.is(4), free);
            due("whose", x.at(slice), 6);
        }
        for (int slice = 0; slice < 12; slice++) {
            due("again", x.give(slice), false);
        }
        due("steps", x.about(3), 12);
    }

    private static void promise10NotFree() {
        Edges.unchanged("given already", Edges::busy, (x, i) -> one(x.give(0)), 0);
        Edges.unchanged("a buyer's first", Edges::busy, (x, i) -> one(x.give(2)), 0);
        Edges.unchanged("a buyer's last", Edges::busy, (x, i) -> one(x.give(5)), 0);
    }

    private static void promise10EmptyAndFull() {
        DawnPerquisite x = Edges.full();
        for (int slice = 0; slice < 12; slice++) {
            due("on a full wall " + slice, x.give(slice), slice > 1 && slice < 10 && slice != 4);
        }
        due("none free", x.is(4), 0);
        due("none", x.give(3), false);
    }

    private static void promise11OthersRefused() {
        Edges.refuses("turn", Edges::busy, 1, 1, (x, i) -> one(x.turn(i)), 0);
        Edges.refuses("turn of nobody", Edges::empty, 0, -1, (x, i) -> one(x.turn(i)), 0);
        Edges.refuses("turn of those without", Edges::four, 0, -1, (x, i) -> one(x.turn(i)), 0);
    }

    private static void promise11FirstAndLastTaken() {
        DawnPerquisite x = Edges.full();
        int free = x.is(4);
        due("the first", x.turn(0), true);
        due("free", x.is(4), free | 3);
        due("the last", x.turn(5), true);
        due("free", x.is(4), free | 3 | 3072);
        due("again", x.turn(0), false);
        due("again", x.turn(5), false);
        due("the given one stays", x.at(4), 6);
    }

    private static void promise12OthersRefused() {
        Edges.refuses("from", PromiseEdgesTest::toPass, 0, 0, (x, i) -> x.pass(i, 1), NONE);
        Edges.refuses("to", PromiseEdgesTest::toPass, 1, 1, (x, i) -> x.pass(0, i), NONE);
        Edges.refuses("both", PromiseEdgesTest::toPass, 0, -1, (x, i) -> x.pass(i, i), NONE);
        Edges.refuses("from nobody", Edges::empty, 0, -1, (x, i) -> x.pass(i, 0), NONE);
        Edges.refuses("to nobody", Edges::empty, 0, -1, (x, i) -> x.pass(0, i), NONE);
    }

    /** Buyer 0 has 2..4 for 3; buyer 1 (2..5) bids 4 and has just the price. */
    private static DawnPerquisite toPass() {
        DawnPerquisite x = empty();
        x.sort(0, 1, 12);
        x.buyer(1, 2, 4, 9);
        x.buyer(31, 2, 5, 3);
        x.sell(0);
        return x;
    }

    private static void promise12ForHowMuch() {
        DawnPerquisite x = toPass();
        due("for half of seven, cut", x.pass(0, 1), 3);
        due("a step", x.about(3), 2);
        due("back again it can't", x.pass(1, 0), NONE);
        due("again it can't", x.pass(0, 1), NONE);
    }

    private static void promise12EmptyAndFull() {
        DawnPerquisite x = Edges.full();
        for (int from = 0; from < 6; from++) {
            for (int to = 0; to < 6; to++) {
                due("an empty wall", empty().pass(from, to), NONE);
                due("a full wall, none wants another's", x.pass(from, to), NONE);
            }
        }
        DawnPerquisite y = empty();
        for (int buyer = 0; buyer < 6; buyer++) {
            y.buyer(1, 0, 2 * buyer, 99);
        }
        y.by(Check.text(y, "bids buyer*10;"));
        y.sell(0);
        for (int buyer = 0; buyer < 5; buyer++) {
            due("to the next one", y.pass(buyer, buyer + 1), 10 * buyer + 5);
        }
        due("the last has it", y.at(0), 5);
        due("none bids more", y.pass(5, 0), NONE);
        due("steps", y.about(3), 6);
    }

    private static void promise13OthersRefused() {
        Edges.refuses("day", Edges::busy, 1, 60, (x, i) -> x.day(i), NONE);
        Edges.refuses("day of an empty wall", Edges::empty, 1, 60, (x, i) -> x.day(i), NONE);
        Edges.refuses("the last day", Edges::last, 0, -1, (x, i) -> x.day(i), NONE);
    }

    private static void promise13FirstAndLastTaken() {
        DawnPerquisite x = Edges.four();
        due("one", x.day(1), x.is(3));
        due("day", x.is(0), 1);
        due("sixty", x.day(60), x.is(3));
        due("day", x.is(0), 61);
        due("steps", x.about(3), 30);
    }

    private static void promise13Beyond9999() {
        for (int left = 1; left <= 3; left++) {
            int day = 9999 - left;
            Edges.refuses("from " + day, () -> Edges.atDay(day), 1, left, (x, i) -> x.day(i), NONE);
        }
        DawnPerquisite x = Edges.atDay(9939);
        due("sixty up to the last", x.day(60), x.is(3));
        due("day", x.is(0), 9999);
        DawnPerquisite y = Edges.atDay(9940);
        due("sixty, one beyond", y.day(60), NONE);
        due("nothing is done", y.is(0), 9940);
        due("one less", y.day(59), y.is(3));
        due("day", y.is(0), 9999);
    }

    private static void promise13EmptyAndFull() {
        DawnPerquisite x = Edges.full();
        due("a full wall", x.day(60), x.is(3));
        due("all free", x.is(4), 4095);
        due("lines", x.ledger(3), 25);
        due("steps", x.about(3), 30);
        DawnPerquisite y = empty();
        due("an empty wall", y.day(1), 2);
        due("a line", y.book(NONE, 0), 1);
    }

    private static void promise14OthersRefused() {
        Edges.refuses("played of two", Edges::busy, 0, 1, (x, i) -> x.played(i), -2);
        Edges.refuses("played of none", Edges::empty, 0, -1, (x, i) -> x.played(i), -2);
        Edges.refuses("played of four", Edges::full, 0, 3, (x, i) -> x.played(i), -2);
    }

    private static void promise14FirstAndLastTaken() {
        DawnPerquisite x = Edges.full();
        due("the first", x.played(0), NONE);
        due("the last", x.played(3), NONE);
        DawnPerquisite y = empty();
        Check.text(y, "give 0;".repeat(24));
        Check.text(y, "give 1;".repeat(23) + "give 0;");
        due("the second can't be", y.played(0), 1);
        Check.text(y, "bids 1;earns 1;give 2;give 3;give 3;");
        due("laws are counted", y.played(2), 4);
        Check.text(y, "give 4;give 5;give 6;give 7;give 8;give 9;give 10;give 11;" + "sort 1 by 1;".repeat(15) + "give 1;");
        due("the last clause is number 23", y.played(3), NONE);
        due("once more", y.played(3), 0);
        y.day(1);
        y.give(1);
        due("the last clause can't be", y.played(3), 23);
    }

    private static void promise15OthersRefused() {
        Edges.refuses("seed", Edges::busy, 0, 9999, (x, i) -> x.years(i, 1), NONE);
        Edges.refuses("n", Edges::busy, 1, 40, (x, i) -> x.years(0, i), NONE);
        Edges.refuses("both", Edges::empty, 1, 40, (x, i) -> x.years(-1, i), NONE);
    }

    private static void promise15FirstAndLastTaken() {
        int[] seeds = {0, 9999};
        int[] many = {1, 2, 39, 40};
        for (int seed : seeds) {
            for (int n : many) {
                DawnPerquisite x = withoutOdds();
                int drawn = seed * 2 + 457;
                int days = 0;
                for (int i = 0; i < n; i++) {
                    days += drawn % 6 > 3 ? 1 : 0;
                    drawn = Edges.anew(drawn);
                }
                due("the day", x.years(seed, n), days);
                due("x", x.is(1), drawn);
                due("one step", x.about(3), 1);
            }
        }
    }

    private static void promise16NoneLeft() {
        Edges.unchanged("none on an empty wall", Edges::empty, (x, i) -> x.undo(), NONE);
        Edges.unchanged("none by telling", Edges::four, (x, i) -> x.undo(), NONE);
        DawnPerquisite x = Edges.full();
        for (int left = 29; left >= 0; left--) {
            due("left", x.undo(), left);
        }
        due("none left", x.undo(), NONE);
        due("none left", x.undo(), NONE);
        due("about", x.about(3), 0);
    }

    // ---- 17 to 22: what is there, what comes ----

    private static void promise17OthersRefused() {
        Edges.refuses("buyer", Edges::busy, 0, 3, (x, i) -> x.of(i, 3), -10);
        Edges.refuses("what", Edges::busy, 0, 6, (x, i) -> x.of(3, i), -10);
        Edges.refuses("of nobody", Edges::empty, 0, -1, (x, i) -> x.of(i, 0), -10);
        Edges.refuses("of six", Edges::full, 0, 5, (x, i) -> x.of(i, 6), -10);
    }

    private static void promise17FirstAndLastTaken() {
        DawnPerquisite x = Edges.busy();
        int[][] due = {{31, 0, 3, 200 - 13 - 2 + 2, 13, 2, 0}, {5, 6, 8, 44, 0, 2, 0}, {31, 9, 11, 999 - 10, 10, 2, 0}};
        int[] buyers = {0, 2, 3};
        for (int i = 0; i < 3; i++) {
            for (int what = 0; what < 7; what++) {
                if (i != 1 || what != 4) {
                    due("of " + buyers[i] + " " + what, x.of(buyers[i], what), due[i][what]);
                }
            }
        }
        due("bids without wanting the sort", x.of(2, 4), 9 + (5 >> x.is(3) & 1));
        due("has", x.of(1, 6), 4);
        due("earns", x.of(1, 5), -2);
    }

    private static void promise18OthersRefused() {
        Edges.refuses("sort", Edges::busy, 0, 4, (x, i) -> x.ofSort(i, 1), NONE);
        Edges.refuses("what", Edges::busy, 0, 1, (x, i) -> x.ofSort(4, i), NONE);
    }

    private static void promise18FirstAndLastTaken() {
        DawnPerquisite x = Edges.busy();
        due("odds of the first", x.ofSort(0, 0), 2);
        due("worth of the first", x.ofSort(0, 1), 60);
        due("odds of the last", x.ofSort(4, 0), 1);
        due("worth of the last", x.ofSort(4, 1), 40);
    }

    private static void promise19OthersRefused() {
        Edges.refuses("at", Edges::busy, 0, 11, (x, i) -> x.at(i), -2);
        Edges.refuses("at on an empty wall", Edges::empty, 0, 11, (x, i) -> x.at(i), -2);
    }

    private static void promise19FirstAndLastTaken() {
        DawnPerquisite x = Edges.busy();
        int[] whose = {6, NONE, 1, 1, 1, 1, NONE, NONE, NONE, NONE, NONE, NONE};
        for (int slice = 0; slice < 12; slice++) {
            due("at " + slice, x.at(slice), whose[slice]);
        }
        DawnPerquisite y = Edges.full();
        due("the last buyer's", y.at(11), 5);
        due("the first buyer's", y.at(0), 0);
        due("given", y.at(4), 6);
    }

    private static void promise20OthersRefused() {
        Edges.refuses("is", Edges::busy, 0, 4, (x, i) -> x.is(i), -2);
        Edges.refuses("is on an empty wall", Edges::empty, 0, 4, (x, i) -> x.is(i), -2);
    }

    private static void promise20FirstAndLastTaken() {
        DawnPerquisite x = Edges.last();
        due("the last day", x.is(0), 9999);
        due("all free", x.is(4), 4095);
        DawnPerquisite y = empty();
        for (int slice = 0; slice < 12; slice++) {
            y.give(slice);
        }
        due("none free", y.is(4), 0);
        due("the first day", y.is(0), 0);
    }

    private static void promise20EmptyAndFull() {
        int[] empty = {0, 457, 0, 0, 4095};
        int[] full = {27, 0, 16, 0, 4095 - 3 - 16 - 3072};
        DawnPerquisite x = Edges.full();
        for (int what = 0; what < 5; what++) {
            due("empty " + what, empty().is(what), empty[what]);
            due("full " + what, what % 2 == 1 ? 0 : x.is(what), full[what]);
        }
        due("X is below 31039", x.is(1) >= 0 && x.is(1) < 31039, true);
        due("a sort", x.is(3), x.book(21, 2));
    }

    private static void promise21OthersRefused() {
        Edges.refuses("i of eight lines", Edges::busy, NONE, 7, (x, i) -> x.book(i, 0), -2);
        Edges.refuses("i of none", Edges::empty, NONE, NONE, (x, i) -> x.book(i, 0), -2);
        Edges.refuses("i of 25", Edges::full, NONE, 24, (x, i) -> x.book(i, 0), -2);
        Edges.refuses("what of the first", Edges::busy, 0, 3, (x, i) -> x.book(0, i), -2);
        Edges.refuses("what of the last", Edges::full, 0, 3, (x, i) -> x.book(24, i), -2);
        Edges.refuses("what of none", Edges::empty, 0, -1, (x, i) -> x.book(0, i), -2);
    }

    private static void promise21FirstAndLastTaken() {
        DawnPerquisite x = Edges.busy();
        due("how many", x.book(NONE, 0), 8);
        int[][] lines = {{0, 0, 0, 13}, {0, 1, 7, 0}, {1, 3, -9, 0}, {2, 3, -9, 0}, {2, 0, 1, 13}, {2, 0, 3, 10}, {2, 2, 3, 0},
            {2, 1, 0, 0}};
        for (int i = 0; i < 8; i++) {
            for (int what = 0; what < 4; what++) {
                if (lines[i][what] != -9) {
                    due("line " + i + " " + what, x.book(i, what), lines[i][what]);
                }
            }
        }
        due("the latest dawn", x.book(3, 2), x.is(3));
        DawnPerquisite y = Edges.full();
        due("how many", y.book(NONE, 0), 25);
        due("the eldest", y.book(0, 0), 6);
        due("the latest", y.book(24, 1), 1);
        due("the latest", y.book(24, 2), 4);
        due("the last buyer", y.book(23, 2), 5);
    }

    private static void promise22OthersRefused() {
        Edges.refuses("n", Edges::busy, 1, 60, (x, i) -> x.foretold(i, 1), NONE);
        Edges.refuses("what", Edges::busy, 0, 1, (x, i) -> x.foretold(1, i), NONE);
        Edges.refuses("n on the last day", Edges::last, 1, 60, (x, i) -> x.foretold(i, 0), NONE);
    }

    private static void promise22FirstAndLastTaken() {
        int[] many = {1, 2, 59, 60};
        for (int n : many) {
            DawnPerquisite x = Edges.busy();
            DawnPerquisite y = Edges.busy();
            y.day(n);
            due("the sort", x.foretold(n, 0), y.is(3));
            due("purses", x.foretold(n, 1), y.of(0, 3) + y.of(1, 3) + y.of(2, 3) + y.of(3, 3));
            Edges.same("foretold changes nothing", x, Edges.busy());
        }
        due("purses of nobody", empty().foretold(60, 1), 0);
        DawnPerquisite six = Edges.ruled("earns buyer;", 1, 2, 3, 4, 5, 6);
        due("purses of six", six.foretold(1, 1), 21 + 15);
        due("purses of six", six.foretold(60, 1), 21 + 15 * 60);
    }

    // ---- 23 to 28: packs, hope, chance ----

    private static void promise22EmptyAndFull() {
        DawnPerquisite x = Edges.full();
        due("purses of a full wall", x.foretold(60, 1), 6 * 999);
        DawnPerquisite y = Edges.full();
        due("the sort of a full wall", x.foretold(60, 0), y.day(60));
        due("the sort of an empty wall", empty().foretold(1, 0), 2);
        due("purses of an empty wall", empty().foretold(1, 1), 0);
    }

    private static void promise23OthersRefused() {
        Edges.refuses("what it brings", Edges::busy, 0, 4, (x, i) -> x.pack(i, false), NONE);
        Edges.refuses("buyers", Edges::busy, 0, 4, (x, i) -> x.pack(i, true), NONE);
        Edges.refuses("of nobody", Edges::empty, 0, 4, (x, i) -> x.pack(i, true), NONE);
    }

    private static void promise23FirstAndLastTaken() {
        DawnPerquisite x = Edges.full();
        x.by(0);
        due("the first, by all six", x.pack(0, true), 63);
        due("the first brings", x.pack(0, false), 30);
        due("the last", x.pack(4, true), 63);
        due("an empty wall", empty().pack(0, false), 0);
        due("an empty wall", empty().pack(4, true), 0);
    }

    private static void promise24OthersRefused() {
        Edges.refuses("must of none", Edges::empty, 0, 0, (x, i) -> x.see(i, 0), NONE);
        Edges.refuses("must of four, two of whom want the sort", Edges::four, 0, 2, (x, i) -> x.see(i, 1), NONE);
        Edges.refuses("must of six", Edges::full, 0, 63, (x, i) -> x.see(i, 0), NONE);
        Edges.refuses("sort", Edges::busy, 0, 4, (x, i) -> x.see(0, i), NONE);
    }

    private static void promise24FirstAndLastTaken() {
        DawnPerquisite x = Edges.full();
        due("nobody must", x.see(0, 0), 48);
        due("all must", x.see(63, 4), 48);
        due("the last must", x.see(32, 2), 48);
        due("of an empty wall", empty().see(0, 4), 0);
        due("one that is not told", Edges.four().see(16, 0), NONE);
        due("one that is not told, and one that is", Edges.four().see(17, 0), NONE);
    }

    private static void promise25OthersRefused() {
        Edges.refuses("the upper", Edges::busy, 0, 6, (x, i) -> x.hope(i, false), NONE);
        Edges.refuses("the lower", Edges::busy, 0, 6, (x, i) -> x.hope(i, true), NONE);
    }

    private static void promise25FirstAndLastTaken() {
        DawnPerquisite x = halves();
        long[] upper = {0, 99, 297, 693, 1485, 3069, 6237};
        for (int n = 0; n <= 6; n++) {
            due("upper " + n, x.hope(n, false), upper[n]);
            due("lower " + n, x.hope(n, true), 1L << n);
        }
    }

    /** SORT 1 of worth 0 and SORT 2 of worth 99, each as likely as the other. */
    private static DawnPerquisite halves() {
        DawnPerquisite x = withoutOdds();
        x.sort(1, 7, 0);
        x.sort(2, 7, 99);
        return x;
    }

    private static void promise26OthersRefused() {
        // the sort as it is has WORTH 0: whatever may be hoped for is more
        Edges.refuses("keep", Edges::empty, 1, 6, (x, i) -> one(x.keep(i)), 0);
    }

    private static void promise26FirstAndLastTaken() {
        DawnPerquisite x = halves();
        int[] hopes = {0, 49, 74, 86, 92, 95, 97};
        for (int n = 0; n <= 6; n++) {
            x.sort(0, 0, hopes[n]);
            due("more than worth " + n, x.keep(n), n > 0);
            x.sort(0, 0, hopes[n] + 1);
            due("not more than worth " + n, x.keep(n), false);
        }
        x.sort(0, 0, 0);
        due("of none", x.keep(0), false);
    }

    private static void promise27OthersRefused() {
        Edges.refuses("the upper", Edges::busy, 0, 4, (x, i) -> x.chance(i, false), NONE);
        Edges.refuses("the lower", Edges::busy, 0, 4, (x, i) -> x.chance(i, true), NONE);
    }

    private static void promise27FirstAndLastTaken() {
        DawnPerquisite x = empty();
        x.sort(0, 9, 0);
        x.sort(4, 9, 0);
        due("the first", x.chance(0, false) * 100 + x.chance(0, true), 307);
        due("the last", x.chance(4, false) * 100 + x.chance(4, true), 307);
        due("one of odds 1", x.chance(2, false) * 100 + x.chance(2, true), 121);
        due("without odds, sure", withoutOdds().chance(0, false) * 100 + withoutOdds().chance(0, true), 101);
        due("without odds, never", withoutOdds().chance(4, false) * 100 + withoutOdds().chance(4, true), 1);
    }

    private static void promise28OthersRefused() {
        Edges.refuses("first", Edges::empty, 0, 4, (x, i) -> x.first(i), NONE);
    }

    private static void promise28FirstAndLastTaken() {
        DawnPerquisite x = empty();
        due("the first", x.first(0), 4);
        due("the last", x.first(4), 4);
        x.sort(0, 9, 0);
        due("days of the likely one", x.first(0), 1);
        due("days of the unlikely one", x.first(4), 9);
    }

    // ---- 29 to 33: what it was ----

    private static void promise29OthersRefused() {
        Edges.refuses("paid", Edges::four, NONE, 3, (x, i) -> x.paid(i, true), -2);
        Edges.refuses("paid of nobody", Edges::empty, NONE, NONE, (x, i) -> x.paid(i, false), -2);
        Edges.refuses("all told", Edges::full, NONE, NONE, (x, i) -> x.paid(i, false), -2);
        Edges.unchanged("told already, the same", Edges::busy, (x, i) -> x.paid(0, true), -2);
        Edges.unchanged("told already, otherwise", Edges::busy, (x, i) -> x.paid(0, false), -2);
        Edges.unchanged("told already that it didn't", Edges::busy, (x, i) -> x.paid(2, true), -2);
    }

    private static void promise29FirstAndLastTaken() {
        DawnPerquisite x = Edges.full();
        due("none any more", x.paid(NONE, true), 0);
        due("none any more", x.about(4), 0);
        due("none any more, again", x.paid(NONE, false), 0);
        for (int buyer = 5; buyer >= 0; buyer--) {
            due("how many", x.paid(buyer, false), 6 - buyer);
            due("about", x.about(4), 6 - buyer);
        }
        due("an empty wall", empty().paid(NONE, true), 0);
    }

    private static void promise30EmptyAndFull() {
        due("nobody told", empty().was(), 31);
        due("all paid, who want all", Edges.full().was(), 31);
        DawnPerquisite x = Edges.full();
        x.paid(NONE, true);
        x.paid(5, false);
        due("one who wants all didn't", x.was(), 0);
        for (int sort = 0; sort < 5; sort++) {
            DawnPerquisite without = empty();
            without.sort(sort, 0, 0);
            due("of odds above 0", without.was(), 31 - (1 << sort));
        }
        DawnPerquisite y = empty();
        y.buyer(0, 0, 0, 0);
        y.paid(0, false);
        due("who wants none didn't", y.was(), 31);
        y.paid(NONE, true);
        y.paid(0, true);
        due("who wants none did", y.was(), 0);
    }

    private static void promise31EmptyAndFull() {
        due("of all", empty().surest(false) * 100 + empty().surest(true), 105);
        DawnPerquisite x = Edges.full();
        x.paid(NONE, true);
        x.paid(0, false);
        due("none", x.surest(false) * 100 + x.surest(true), 1);
        due("sure", withoutOdds().surest(false) * 100 + withoutOdds().surest(true), 101);
        DawnPerquisite y = Edges.four();
        y.sort(2, 9, 0);
        y.sort(1, 3, 0);
        y.paid(1, true);
        due("in lowest terms", y.surest(false) * 100 + y.surest(true), 304);
    }

    private static void promise32EmptyAndFull() {
        due("of like ones the lowest", empty().likeliest(), 0);
        DawnPerquisite x = Edges.full();
        x.sort(3, 2, 0);
        x.sort(4, 2, 0);
        due("of most odds the lowest", x.likeliest(), 3);
        x.sort(4, 3, 0);
        due("the last", x.likeliest(), 4);
        x.paid(NONE, true);
        x.paid(0, false);
        due("none", x.likeliest(), NONE);
        due("without odds", withoutOdds().likeliest(), 0);
    }

    private static void promise33EmptyAndFull() {
        due("nobody", empty().ask(), NONE);
        due("all told", Edges.full().ask(), NONE);
        DawnPerquisite x = Edges.full();
        x.paid(NONE, true);
        due("of like ones the lowest", x.ask(), 0);
        for (int buyer = 0; buyer < 5; buyer++) {
            x.paid(buyer, true);
        }
        due("the last one", x.ask(), 5);
        x.paid(5, true);
        due("all told", x.ask(), NONE);
    }

    // ---- 34 to 38: slices and hours ----

    private static void promise34OthersRefused() {
        Edges.refuses("slice", () -> Edges.ruled("bids 9;", 0, 0), 0, 1, (x, i) -> x.auction(i, 0), NONE);
        Edges.refuses("slice, how many", PromiseEdgesTest::ofAll, 0, 11, (x, i) -> x.auction(i, 2), NONE);
        Edges.refuses("what", PromiseEdgesTest::ofAll, 0, 2, (x, i) -> x.auction(11, i), NONE);
        Edges.refuses("nobody", Edges::empty, 0, -1, (x, i) -> x.auction(i, 2), NONE);
    }

    /** One buyer that wants all. */
    private static DawnPerquisite ofAll() {
        DawnPerquisite x = empty();
        x.sort(0, 1, 99);
        x.buyer(31, 0, 11, 0);
        return x;
    }

    private static void promise34FirstAndLastTaken() {
        DawnPerquisite x = ofAll();
        x.buyer(31, 11, 11, 0);
        int[][] due = {{0, 0, 0, 1}, {10, 0, 0, 1}, {11, 0, 8, 2}};
        for (int[] told : due) {
            for (int what = 0; what < 3; what++) {
                due("slice " + told[0] + " " + what, x.auction(told[0], what), told[1 + what]);
            }
        }
    }

    private static void promise34NobodyAnswersNone() {
        for (int what = 0; what < 3; what++) {
            due("an empty wall", empty().auction(0, what), NONE);
            due("nobody wants the slice", Edges.four().auction(11, what), NONE);
            DawnPerquisite x = empty();
            x.buyer(30, 0, 11, 99);
            due("nobody wants the sort", x.auction(5, what), NONE);
        }
    }

    private static void promise34Full() {
        DawnPerquisite x = Edges.full();
        for (int slice = 0; slice < 12; slice++) {
            due("who", x.auction(slice, 0), slice / 2);
            due("for nothing, alone", x.auction(slice, 1), 0);
            due("how many", x.auction(slice, 2), 1);
        }
    }

    private static void promise35EmptyAndFull() {
        due("without", empty().stab(false), 0);
        due("without", empty().stab(true), 0);
        due("six apart", Edges.full().stab(true), 6);
        due("six apart, the lowest", Edges.full().stab(false), 1365);
        DawnPerquisite x = empty();
        x.buyer(0, 0, 11, 0);
        due("the first slice", x.stab(false), 1);
        x.buyer(0, 11, 11, 0);
        due("the last slice", x.stab(false), 2048);
        x.buyer(0, 0, 10, 0);
        due("both ends", x.stab(false), 2049);
        due("both ends", x.stab(true), 2);
    }

    private static void promise36EmptyAndFull() {
        due("without", empty().crowd(false), 0);
        due("without", empty().crowd(true), 0);
        due("of like ones the lowest", Edges.full().crowd(true), 0);
        due("one each", Edges.full().crowd(false), 1);
        DawnPerquisite x = empty();
        for (int buyer = 0; buyer < 6; buyer++) {
            x.buyer(0, 2 * buyer, 11, 0);
        }
        due("all six", x.crowd(false), 6);
        due("nearly the last slice", x.crowd(true), 10);
        DawnPerquisite y = empty();
        y.buyer(0, 11, 11, 0);
        due("the last slice", y.crowd(true), 11);
    }

    private static void promise37OthersRefused() {
        Edges.refuses("dawns", Edges::busy, 0, 3, (x, i) -> x.dawns(i), NONE);
        Edges.refuses("dawns of nobody", Edges::empty, 0, -1, (x, i) -> x.dawns(i), NONE);
        Edges.refuses("dawns of six", Edges::full, 0, 5, (x, i) -> x.dawns(i), NONE);
    }

    private static void promise37FirstAndLastTaken() {
        DawnPerquisite x = empty();
        for (int buyer = 0; buyer < 6; buyer++) {
            x.buyer(0, 11 - buyer, 11, 0);
        }
        for (int buyer = 0; buyer < 6; buyer++) {
            due("dawn of " + buyer, x.dawns(buyer), 5 - buyer);
            due("all on one", Edges.full().dawns(buyer), 0);
        }
    }

    private static void promise38OthersRefused() {
        Edges.refuses("the upper", Edges::busy, 1, 60, (x, i) -> x.month(i, false), NONE);
        Edges.refuses("the lower", Edges::busy, 1, 60, (x, i) -> x.month(i, true), NONE);
        Edges.refuses("of nobody", Edges::empty, 1, 60, (x, i) -> x.month(i, true), NONE);
    }

    private static void promise38FirstAndLastTaken() {
        DawnPerquisite x = Edges.ruled("bids 99;", 0, 0, 0, 0, 0, 0);
        due("one", x.month(1, false), 594);
        due("one", x.month(1, true), 1);
        due("sixty", x.month(60, false), 35640);
        due("nobody", empty().month(60, false), 0);
        due("nobody", empty().month(60, true), 1);
        x.sort(1, 2, 0);
        due("sixty, alike", x.month(60, false), 35640);
        DawnPerquisite y = empty();
        y.sort(4, 3, 12);
        y.buyer(16, 5, 5, 0);
        due("three sevenths", y.month(1, false) * 100 + y.month(1, true), 307);
        due("of sixty", y.month(60, false) * 100 + y.month(60, true), 18007);
    }

    // ---- 39 to 42: games ----

    private static void promise38EmptyAndFull() {
        DawnPerquisite x = Edges.full();
        due("a full wall", x.month(60, false) * 10 + x.month(60, true), 28801);
        due("a full wall", x.month(1, false) * 10 + x.month(1, true), 481);
        for (int n = 1; n <= 60; n++) {
            due("an empty wall", empty().month(n, false) * 10 + empty().month(n, true), 1);
        }
    }

    private static void promise39OthersRefused() {
        Edges.refuses("slice", Edges::busy, 0, 11, (x, i) -> one(x.value(i, 50)), 0);
        Edges.refuses("value", Edges::busy, 0, 99, (x, i) -> one(x.value(0, i)), 0);
    }

    private static void promise39FirstAndLastTaken() {
        DawnPerquisite x = Edges.busy();
        due("told", x.value(0, 99), true);
        due("told", x.value(11, 99), true);
        due("the most", x.ends(0, 0) * 1000 + x.ends(11, 11), 99099);
        due("told", x.value(0, 0), true);
        due("told", x.value(11, 0), true);
        due("the least", x.ends(0, 0) * 1000 + x.ends(11, 11), 0);
        due("another stays", x.ends(1, 1), 37);
    }

    private static void promise40OthersRefused() {
        Edges.refuses("from up to 11", Edges::busy, 0, 11, (x, i) -> x.ends(i, 11), -1000);
        Edges.refuses("from up to 3", Edges::busy, 0, 3, (x, i) -> x.ends(i, 3), -1000);
        Edges.refuses("to from 0", Edges::busy, 0, 11, (x, i) -> x.ends(0, i), -1000);
        Edges.refuses("to from 4", Edges::busy, 4, 11, (x, i) -> x.ends(4, i), -1000);
        Edges.refuses("both", Edges::busy, 0, 11, (x, i) -> x.ends(i, i), -1000);
    }

    private static void promise40FirstAndLastTaken() {
        DawnPerquisite x = empty();
        x.value(11, 99);
        x.value(0, 50);
        due("the first alone", x.ends(0, 0), 50);
        due("the last alone", x.ends(11, 11), 99);
        due("all", x.ends(0, 11), 49 + 50 - 50);
        due("none told", empty().ends(0, 11), 0);
        x.value(1, 99);
        due("below 0", x.ends(0, 2), -49);
        x.value(0, 0);
        due("as far below 0 as can be", x.ends(0, 2), -99);
    }

    private static void promise40EmptyAndFull() {
        DawnPerquisite x = empty();
        for (int slice = 0; slice < 12; slice++) {
            due("nothing told", x.ends(0, slice) + x.ends(slice, 11), 0);
        }
        for (int slice = 0; slice < 12; slice++) {
            x.value(slice, 99);
        }
        for (int slice = 0; slice < 12; slice++) {
            due("all alike: one more or none", x.ends(0, slice), slice % 2 == 0 ? 99 : 0);
            due("the left", x.take(0, slice), 0);
        }
    }

    private static void promise41OthersRefused() {
        Edges.refuses("from up to 11", Edges::busy, 0, 11, (x, i) -> x.take(i, 11), NONE);
        Edges.refuses("from up to 3", Edges::busy, 0, 3, (x, i) -> x.take(i, 3), NONE);
        Edges.refuses("to from 0", Edges::busy, 0, 11, (x, i) -> x.take(0, i), NONE);
        Edges.refuses("to from 4", Edges::busy, 4, 11, (x, i) -> x.take(4, i), NONE);
        Edges.refuses("both", Edges::busy, 0, 11, (x, i) -> x.take(i, i), NONE);
    }

    private static void promise41FirstAndLastTaken() {
        DawnPerquisite x = empty();
        due("as good", x.take(0, 11), 0);
        due("one alone", x.take(11, 11), 0);
        x.value(11, 1);
        due("better by one", x.take(10, 11), 1);
        x.value(10, 1);
        due("as good", x.take(10, 11), 0);
        x.value(0, 1);
        due("one alone", x.take(0, 0), 0);
        due("the left", x.take(0, 1), 0);
    }

    private static void promise42OthersRefused() {
        Edges.refuses("from up to 11", Edges::busy, 0, 11, (x, i) -> x.best(i, 11, 0), -1000);
        Edges.refuses("from up to 3", Edges::busy, 0, 3, (x, i) -> x.best(i, 3, 1), -1000);
        Edges.refuses("to from 0", Edges::busy, 0, 11, (x, i) -> x.best(0, i, 2), -1000);
        Edges.refuses("to from 4", Edges::busy, 4, 11, (x, i) -> x.best(4, i, 0), -1000);
        Edges.refuses("both", Edges::busy, 0, 11, (x, i) -> x.best(i, i, 1), -1000);
        Edges.refuses("what", Edges::busy, 0, 2, (x, i) -> x.best(0, 11, i), -1000);
    }

    private static void promise42FirstAndLastTaken() {
        DawnPerquisite x = empty();
        due("one at least", x.best(0, 11, 0), -50);
        due("the lowest", x.best(0, 11, 1) * 100 + x.best(0, 11, 2), 0);
        due("the lowest within", x.best(7, 11, 1) * 100 + x.best(7, 11, 2), 707);
        for (int slice = 0; slice < 12; slice++) {
            x.value(slice, 99);
        }
        due("all", x.best(0, 11, 0), 588);
        due("from the first to the last", x.best(0, 11, 1) * 100 + x.best(0, 11, 2), 11);
        due("the last alone", x.best(11, 11, 1) * 100 + x.best(11, 11, 2), 1111);
    }

    // ---- 43 to 55: by what is told and written ----

    private static void promise43OthersRefused() {
        Edges.refuses("buyer", Edges::busy, NONE, 3, (x, i) -> x.said(i, 9), -2);
        Edges.refuses("bids", Edges::busy, 0, 99, (x, i) -> x.said(3, i), -2);
        Edges.refuses("of nobody", Edges::empty, NONE, NONE, (x, i) -> x.said(i, 0), -2);
        Edges.refuses("the ninth", Edges::full, NONE, NONE, (x, i) -> x.said(i, 8), -2);
    }

    private static void promise43FirstAndLastTaken() {
        DawnPerquisite x = Edges.full();
        due("none any more", x.said(NONE, 0), 0);
        due("none any more, again", x.said(NONE, 99), 0);
        for (int said = 1; said <= 8; said++) {
            due("how many", x.said(said % 2 * 5, said % 2 * 99), said);
            due("about", x.about(5), said);
        }
        due("the ninth", x.said(0, 0), -2);
        due("about", x.about(5), 8);
        due("an empty wall", empty().said(NONE, 0), 0);
    }

    private static void promise43TheNinthIsNotHeard() {
        DawnPerquisite x = Edges.full();
        due("all eight fit", x.whose(), 8);
        x.said(0, 99);
        due("the ninth is not heard", x.whose(), 8);
    }

    private static void promise44EmptyAndFull() {
        due("no texts", empty().whose(), 0);
        DawnPerquisite x = Edges.full();
        due("the last text", x.whose(), 8);
        x.said(NONE, 0);
        due("nothing said", x.whose(), 15);
        x.said(0, 5);
        due("the first text", x.whose(), 1);
        x.said(5, 6);
        due("not both", x.whose(), 0);
    }

    private static void promise45EmptyAndFull() {
        due("nobody", empty().richest(), NONE);
        due("the last has more", Edges.ruled("", 0, 0, 0, 0, 0, 1).richest(), 5);
        due("nobody above 0", Edges.ruled("", 0, 0, 0, 0, 0, 0).richest(), NONE);
        due("of four like ones the lowest", Edges.full().richest(), 1);
        due("of like ones the lowest", Edges.ruled("", 998, 999, 0, 999, 998, 999).richest(), 1);
        due("all alike", Edges.ruled("", 1, 1, 1, 1, 1, 1).richest(), 0);
    }

    private static void promise46OthersRefused() {
        Edges.refuses("rival", Edges::busy, 0, 3, (x, i) -> x.rival(i), NONE);
        Edges.refuses("rival of nobody", Edges::empty, 0, -1, (x, i) -> x.rival(i), NONE);
    }

    private static void promise46FirstAndLastTaken() {
        DawnPerquisite x = empty();
        for (int buyer = 0; buyer < 6; buyer++) {
            x.buyer(buyer == 3 ? 0 : 17, buyer, buyer + 1, 0);
        }
        int[] rivals = {2, 5, 2, 0, 32, 16};
        for (int buyer = 0; buyer < 6; buyer++) {
            due("rivals of " + buyer, x.rival(buyer), rivals[buyer]);
            due("none", Edges.full().rival(buyer), 0);
        }
    }

    private static void promise47OthersRefused() {
        Edges.refuses("the upper", Edges::busy, 0, 4, (x, i) -> x.learnt(i, false), NONE);
        Edges.refuses("the lower", Edges::busy, 0, 4, (x, i) -> x.learnt(i, true), NONE);
    }

    private static void promise47EmptyAndFull() {
        due("an empty book", empty().learnt(0, false) * 100 + empty().learnt(0, true), 105);
        DawnPerquisite x = withoutOdds();
        x.day(25);
        due("25 dawns of the first", x.learnt(0, false) * 100 + x.learnt(0, true), 1315);
        due("none of the last", x.learnt(4, false) * 100 + x.learnt(4, true), 130);
        x.day(1);
        due("25 at most", x.learnt(0, false) * 100 + x.learnt(0, true), 1315);
        x.sort(4, 1, 0);
        x.day(1);
        due("the last", x.learnt(4, false) * 100 + x.learnt(4, true), 115);
        due("24 of the first", x.learnt(0, false) * 100 + x.learnt(0, true), 506);
    }

    private static void promise48OthersRefused() {
        Edges.refuses("wanted", Edges::busy, 0, 4, (x, i) -> x.wanted(i), NONE);
        Edges.refuses("wanted by nobody", Edges::empty, 0, 4, (x, i) -> x.wanted(i), NONE);
    }

    private static void promise48EmptyAndFull() {
        for (int sort = 0; sort < 5; sort++) {
            due("nobody", empty().wanted(sort), 0);
            due("all", Edges.full().wanted(sort), 6);
        }
        DawnPerquisite x = empty();
        x.buyer(16, 0, 0, 0);
        due("the last", x.wanted(4), 1);
        due("not the first", x.wanted(0), 0);
    }

    private static void promise49OthersRefused() {
        Edges.refuses("alone", Edges::busy, 0, 3, (x, i) -> x.alone(i), NONE);
        Edges.refuses("nobody", Edges::empty, 0, -1, (x, i) -> x.alone(i), NONE);
    }

    private static void promise49FirstAndLastTaken() {
        due("the first", Edges.full().alone(0), 3);
        due("the last", Edges.full().alone(5), 3072);
        DawnPerquisite x = empty();
        x.buyer(0, 0, 11, 0);
        due("all", x.alone(0), 4095);
        x.buyer(0, 1, 10, 0);
        due("both ends", x.alone(0), 2049);
        due("none", x.alone(1), 0);
    }

    private static void promise50OthersRefused() {
        Edges.refuses("since", PromiseEdgesTest::allSorts, 0, 4, (x, i) -> x.since(i), NONE);
        Edges.refuses("an empty book", Edges::empty, 0, -1, (x, i) -> x.since(i), NONE);
    }

    /** Five dawns, one of each sort. */
    private static DawnPerquisite allSorts() {
        DawnPerquisite x = empty();
        for (int sort = 0; sort < 5; sort++) {
            for (int other = 0; other < 5; other++) {
                x.sort(other, other == sort ? 1 : 0, 0);
            }
            x.day(1);
        }
        return x;
    }

    private static void promise50FirstAndLastTaken() {
        DawnPerquisite x = allSorts();
        for (int sort = 0; sort < 5; sort++) {
            due("days ago", x.since(sort), 4 - sort);
        }
        x.day(20);
        due("the eldest line", x.since(0), 24);
        x.day(1);
        due("not in the book any more", x.since(0), NONE);
        due("the one as it is", x.since(4), 0);
        due("the eldest line now", x.since(1), 24);
    }

    private static void promise50Full() {
        DawnPerquisite x = Edges.full();
        for (int sort = 0; sort < 5; sort++) {
            int latest = NONE;
            for (int line = 0; line < 22; line++) {
                latest = x.book(line, 2) == sort ? 27 - x.book(line, 0) : latest;
            }
            due("by the book", x.since(sort), latest);
        }
    }

    private static void promise51EmptyAndFull() {
        due("nobody", empty().idle(), 4095);
        due("all wanted", Edges.full().idle(), 0);
        DawnPerquisite x = empty();
        x.buyer(1, 1, 10, 0);
        due("both ends", x.idle(), 2049);
        x.give(0);
        due("the last", x.idle(), 2048);
        x.give(11);
        due("none", x.idle(), 0);
        DawnPerquisite y = empty();
        y.buyer(30, 0, 11, 0);
        due("who doesn't want the sort", y.idle(), 4095);
    }

    private static void promise52EmptyAndFull() {
        due("nobody", empty().poor(), 0);
        due("none", Edges.full().poor(), 0);
        due("all", Edges.ruled("bids 99;", 98, 0, 98, 98, 98, 98).poor(), 63);
        due("less by one, as much, more", Edges.ruled("bids 50;", 49, 50, 51, 51, 50, 49).poor(), 33);
    }

    private static void promise53OthersRefused() {
        Edges.refuses("room", Edges::empty, 1, 12, (x, i) -> x.room(i), NONE);
        Edges.refuses("room on a busy wall", Edges::busy, 1, 6, (x, i) -> x.room(i), NONE);
    }

    private static void promise53FirstAndLastTaken() {
        DawnPerquisite x = empty();
        due("twelve", x.room(12), 0);
        x.give(0);
        due("twelve, none", x.room(12), NONE);
        due("eleven", x.room(11), 1);
        for (int slice = 1; slice < 11; slice++) {
            x.give(slice);
        }
        due("the last one", x.room(1), 11);
        due("two, none", x.room(2), NONE);
        x.give(11);
        due("one, none", x.room(1), NONE);
    }

    private static void promise53Full() {
        int[] due = {2, 2, 5, 5, 5, NONE, NONE, NONE, NONE, NONE, NONE, NONE};
        for (int slices = 1; slices <= 12; slices++) {
            due("room for " + slices, Edges.full().room(slices), due[slices - 1]);
            due("room for " + slices, empty().room(slices), 0);
        }
    }

    private static void promise54OthersRefused() {
        Edges.refuses("can", () -> Edges.ruled("bids 1;", 1, 1, 1), 0, 2, (x, i) -> one(x.can(i)), 0);
        Edges.refuses("can of nobody", Edges::empty, 0, -1, (x, i) -> one(x.can(i)), 0);
    }

    private static void promise54WhatCantBe() {
        due("too poor by one", Edges.ruled("bids 50;", 49).can(0), false);
        due("as much", Edges.ruled("bids 50;", 50).can(0), true);
        due("for nothing", Edges.ruled("bids 0;", 0).can(0), true);
        due("another sort", Edges.four().can(1), false);
        due("sold already", Edges.busy().can(1), false);
        due("a slice is another's", Edges.busy().can(0), false);
        due("the last buyer", Edges.ruled("bids 9;", 9, 9, 9, 9, 9, 9).can(5), true);
        Edges.unchanged("can", Edges::full, (x, i) -> one(x.can(1)), 1);
    }

    private static void promise54EmptyAndFull() {
        boolean[] due = {false, true, false, true, true, false};
        for (int buyer = 0; buyer < 6; buyer++) {
            due("on a full wall " + buyer, Edges.full().can(buyer), due[buyer]);
            due("on an empty wall", empty().can(buyer), false);
        }
    }

    private static void promise55OthersRefused() {
        Edges.refuses("ledger", Edges::busy, 0, 4, (x, i) -> x.ledger(i), -2);
        Edges.refuses("ledger of an empty book", Edges::empty, 0, 4, (x, i) -> x.ledger(i), -2);
    }

    private static void promise55EmptyAndFull() {
        int[] busy = {3, 2, 1, 2, 0};
        int[] full = {2, 1, 0, 22, 0};
        for (int what = 0; what < 5; what++) {
            due("empty " + what, empty().ledger(what), 0);
            due("busy " + what, Edges.busy().ledger(what), busy[what]);
            due("full " + what, Edges.full().ledger(what), full[what]);
        }
        DawnPerquisite x = toPass();
        x.pass(0, 1);
        due("passed on", x.ledger(4), 1);
    }

    // ---- 56 to 58 ----

    private static void promise56EmptyAndFull() {
        due("an empty wall", empty().image(), 0);
        due("the last day", Edges.last().image(), 9999);
        DawnPerquisite x = Edges.full();
        due("the day", x.image(), 27);
        due("nothing changes", x.about(3), 30);
        due("back is here", x.back(), 27);
    }

    private static void promise56ByBackAllIsSo() {
        DawnPerquisite x = Edges.full();
        x.image();
        x.undo();
        x.undo();
        x.paid(NONE, true);
        x.said(NONE, 0);
        x.by(NONE);
        x.sort(2, 0, 0);
        x.value(7, 7);
        x.day(60);
        due("the day", x.back(), 27);
        DawnPerquisite y = Edges.full();
        y.image();
        Edges.same("back on a full wall", x, y);
    }

    private static void promise57ItStays() {
        DawnPerquisite x = Edges.busy();
        due("the image's day", x.back(), 0);
        x.day(5);
        x.undo();
        due("again", x.back(), 0);
        DawnPerquisite y = Edges.busy();
        y.back();
        Edges.same("back twice", x, y);
        due("an empty wall", empty().back(), 0);
        DawnPerquisite z = Edges.last();
        due("from the last day", z.back(), 0);
        due("days pass again", z.day(60), z.is(3));
    }

    private static void promise57ButTheTapeAndTheFault() {
        DawnPerquisite x = Edges.busy();
        x.back();
        due("the tape", x.about(6), 7);
        due("the fault", x.fault(0), 1);
        due("its place", x.fault(1), 5);
        due("the tape is read", x.text(), 2);
        due("an empty image's texts", x.about(1), 3);
    }

    private static void promise57BuyersToldSinceAreNoMore() {
        DawnPerquisite x = Edges.ruled("bids 9;", 5, 6);
        x.image();
        for (int buyer = 2; buyer < 6; buyer++) {
            x.buyer(31, 2 * buyer - 1, 2 * buyer, 900);
        }
        due("of six", x.pack(0, false), 54);
        due("of six", x.foretold(1, 1), 11 + 3600 + 6);
        x.day(1);
        x.sell(5);
        due("back", x.back(), 0);
        due("two", x.about(0), 2);
        due("of two", x.pack(0, true) * 100 + x.pack(0, false), 318);
        due("of two", x.see(0, 0), 18);
        due("not of the third", x.see(4, 0), NONE);
        due("of two", x.month(60, false), 1080);
        due("purses of two", x.foretold(1, 1), 13);
        due("hours of two", x.stab(false), 3);
        due("a crowd of one", x.crowd(false), 1);
        due("wanted by two", x.wanted(0), 2);
        due("all but two are idle", x.idle(), 4092);
        due("two are poor", x.poor(), 3);
        due("the richest of two", x.richest(), 1);
        due("nobody bids", x.auction(10, 2), NONE);
        due("the third anew", x.buyer(31, 3, 11, 77), 2);
        due("its purse", x.of(2, 3), 77);
        due("has none", x.of(2, 6), 0);
        due("sold", x.sell(2), 9);
        due("back", x.back(), 0);
        DawnPerquisite y = Edges.ruled("bids buyer*9;", 0);
        y.image();
        y.buyer(31, 1, 1, 0);
        due("of both", y.pack(0, true) * 10 + y.pack(0, false), 29);
        y.back();
        due("of one", y.pack(0, true) * 10 + y.pack(0, false), 0);
        due("a purse that is none's", Edges.ruled("bids purse 2+4;", 5, 6).of(0, 4), 4);
    }

    private static void promise57SaidPaidAndValuesAreAsTheyWere() {
        DawnPerquisite x = Edges.ruled("bids buyer*9;", 5, 6, 7);
        x.said(1, 9);
        x.said(2, 18);
        x.paid(1, true);
        x.value(3, 33);
        x.sort(1, 2, 22);
        x.image();
        x.said(NONE, 0);
        x.said(2, 17);
        x.said(1, 8);
        x.said(0, 1);
        due("not so", x.whose(), 0);
        x.paid(NONE, true);
        x.paid(0, false);
        x.paid(1, false);
        x.value(3, 44);
        x.sort(1, 3, 11);
        x.by(NONE);
        x.back();
        due("said", x.whose() * 10 + x.about(5), 12);
        due("paid", x.was() * 10 + x.about(4), 31);
        due("told already", x.paid(1, true), -2);
        due("value", x.ends(3, 3), 33);
        due("odds and worth", x.ofSort(1, 0) * 100 + x.ofSort(1, 1), 222);
        due("rules", x.of(2, 4), 18);
    }

    private static void promise57EachStepIsAsItWas() {
        DawnPerquisite x = empty();
        x.buyer(31, 0, 0, 100);
        x.day(29);
        x.buyer(31, 1, 1, 200);
        x.give(5);
        x.give(6);
        x.image();
        for (int slice = 7; slice < 12; slice++) {
            x.give(slice);
        }
        x.buyer(31, 2, 2, 300);
        x.day(40);
        x.sort(0, 9, 9);
        due("back", x.back(), 29);
        due("a step more", x.give(7), true);
        due("its book", x.book(24, 2), 7);
        due("taken back", x.undo(), 29);
        due("given yet", x.is(4), 4095 - 32 - 64);
        due("taken back", x.undo(), 28);
        due("given yet", x.is(4), 4095 - 32);
        due("the second's purse", x.of(1, 3), 200);
        due("taken back", x.undo(), 27);
        due("all free", x.is(4), 4095);
        for (int left = 26; left >= 0; left--) {
            due("taken back", x.undo(), left);
            due("the day", x.is(0), left + 2);
            due("the first's purse", x.of(0, 3), 100 + x.is(0));
            due("the second's purse", x.of(1, 3), 200);
            due("lines", x.book(NONE, 0), Math.min(25, x.is(0)));
        }
        due("none", x.undo(), NONE);
        due("two buyers", x.about(0), 2);
    }

    private static void promise57EachStepKnowsWhoWasThere() {
        DawnPerquisite x = empty();
        x.buyer(31, 0, 0, 100);
        x.day(30);
        x.buyer(31, 1, 1, 200);
        x.image();
        x.buyer(31, 2, 2, 300);
        x.day(30);
        due("back", x.back(), 30);
        for (int left = 29; left >= 0; left--) {
            due("taken back", x.undo(), left);
            due("the first's purse", x.of(0, 3), 100 + left);
            due("told since", x.of(1, 3), 200);
        }
    }

    private static void promise57StepsAreAsTheyWere() {
        DawnPerquisite x = empty();
        x.day(31);
        x.image();
        for (int i = 0; i < 30; i++) {
            x.undo();
        }
        due("none left", x.undo(), NONE);
        due("back", x.back(), 31);
        for (int left = 29; left >= 0; left--) {
            due("left", x.undo(), left);
            due("the day", x.is(0), left + 1);
        }
        due("none left", x.undo(), NONE);
        due("back", x.back(), 31);
        x.day(3);
        due("thirty", x.about(3), 30);
        due("the latest", x.undo(), 29);
        due("the day", x.is(0), 33);
    }

    private static void promise58OthersRefused() {
        Edges.refuses("about", Edges::busy, 0, 6, (x, i) -> x.about(i), -2);
        Edges.refuses("about of an empty wall", Edges::empty, 0, 6, (x, i) -> x.about(i), -2);
    }

    private static void promise58EmptyAndFull() {
        int[] nothing = {0, 0, NONE, 0, 0, 0, 0};
        int[] busy = {4, 2, 0, 8, 2, 2, 7};
        int[] full = {6, 4, 3, 30, 6, 8, 300};
        for (int what = 0; what < 7; what++) {
            due("empty " + what, empty().about(what), nothing[what]);
            due("busy " + what, Edges.busy().about(what), busy[what]);
            due("full " + what, Edges.full().about(what), full[what]);
        }
    }

    public static void main(String[] args) {
        due("least int", MIN, -2147483648L);
        due("greatest int", MAX, 2147483647L);
        Edges.run(PromiseEdgesTest.class, "promise", 58);
    }
}
