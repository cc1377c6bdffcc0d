/** A method for each promise: ordinary inputs, the edges that the document names, and wrong inputs. */
public final class PromisesTest {
    private static final int NONE = -1;
    private static final int MIN = Integer.MIN_VALUE;
    private static final int MAX = Integer.MAX_VALUE;

    private static void due(String what, long got, long want) {
        Check.due(what, got, want);
    }

    private static void due(String what, boolean got, boolean want) {
        Check.due(what, got, want);
    }

    private static DawnPerquisite fresh() {
        return new DawnPerquisite();
    }

    /** Four buyers: 0 (sorts 0 1) 0..3, 1 (sorts 1 2) 2..5, 2 (sort 2) 6..11, 3 (sort 0) 4..4. */
    private static DawnPerquisite four() {
        DawnPerquisite x = fresh();
        x.buyer(3, 0, 3, 20);
        x.buyer(6, 2, 5, 99);
        x.buyer(4, 6, 11, 10);
        x.buyer(1, 4, 4, 0);
        return x;
    }

    /** A wall under a text whose bids and earns are as given. */
    private static void rule(DawnPerquisite x, String text) {
        x.by(Check.text(x, text));
    }

    private static void p01() {
        DawnPerquisite x = fresh();
        due("p1 NONE", DawnPerquisite.NONE, -1);
        due("p1 day", x.is(0), 0);
        due("p1 x", x.is(1), 457);
        due("p1 fund", x.is(2), 0);
        due("p1 sort", x.is(3), 0);
        due("p1 free", x.is(4), 4095);
        due("p1 book", x.book(NONE, 0), 0);
        for (int what = 0; what <= 6; what++) {
            due("p1 about " + what, x.about(what), what == 2 ? NONE : 0);
        }
        for (int sort = 0; sort < 5; sort++) {
            due("p1 odds", x.ofSort(sort, 0), 1);
            due("p1 worth", x.ofSort(sort, 1), 10 * sort);
        }
        x.buyer(31, 0, 11, 9);
        x.sort(2, 5, 5);
        x.value(3, 9);
        x.day(3);
        due("p1 back to a new object", x.back(), 0);
        due("p1 nobody", x.about(0), 0);
        due("p1 odds again", x.ofSort(2, 0), 1);
        due("p1 worth again", x.ofSort(2, 1), 20);
        due("p1 x again", x.is(1), 457);
        due("p1 values again", x.ends(3, 3), 0);
        due("p1 steps again", x.about(3), 0);
    }

    private static void p02() {
        DawnPerquisite x = fresh();
        due("p2", x.sort(4, 9, 99), true);
        due("p2 odds", x.ofSort(4, 0), 9);
        due("p2 worth", x.ofSort(4, 1), 99);
        due("p2", x.sort(0, 0, 0), true);
        due("p2 odds", x.ofSort(0, 0), 0);
        int[][] wrong = {{-1, 1, 1}, {5, 1, 1}, {0, -1, 1}, {0, 10, 1}, {0, 1, -1}, {0, 1, 100}, {MIN, 1, 1}, {MAX, 1, 1}};
        for (int[] told : wrong) {
            due("p2 wrong", x.sort(told[0], told[1], told[2]), false);
        }
        due("p2 odds stay", x.ofSort(0, 0), 0);
        due("p2 is no step", x.about(3), 0);
    }

    private static void p03() {
        DawnPerquisite x = fresh();
        int[][] wrong = {{-1, 0, 0, 0}, {32, 0, 0, 0}, {1, -1, 0, 0}, {1, 1, 0, 0}, {1, 0, 12, 0}, {1, 0, 0, -1},
            {1, 0, 0, 1000}, {1, MIN, MAX, 0}, {MAX, 0, 0, 0}};
        for (int[] told : wrong) {
            due("p3 wrong", x.buyer(told[0], told[1], told[2], told[3]), NONE);
        }
        due("p3", x.buyer(0, 0, 0, 0), 0);
        due("p3", x.buyer(31, 0, 11, 999), 1);
        due("p3", x.buyer(9, 11, 11, 5), 2);
        for (int i = 3; i < 6; i++) {
            due("p3", x.buyer(1, 1, 2, 3), i);
        }
        due("p3 the seventh", x.buyer(1, 1, 2, 3), NONE);
        due("p3 how many", x.about(0), 6);
        due("p3 purse", x.of(1, 3), 999);
        due("p3 is no step", x.about(3), 0);
    }

    private static void p04() {
        DawnPerquisite x = fresh();
        due("p4", x.feed(0x62696473, 0x20393b20, 0x20202020, 0x20202020, 0x20202020), 20);
        due("p4 its order", x.text(), 0);
        for (int i = 1; i <= 15; i++) {
            due("p4", x.feed(i, 0, 0, 0, -1), 20 * i);
        }
        due("p4 full", x.feed(0, 0, 0, 0, 0), NONE);
        due("p4 none came", x.about(6), 300);
        x.end(281);
        due("p4 one too many", x.feed(0, 0, 0, 0, 0), NONE);
        due("p4 none came", x.about(6), 281);
        x.end(280);
        due("p4 just enough", x.feed(0, 0, 0, 0, 0), 300);
        Check.fault("give 0;give 1;give 2;give 3;give 4;give 5!", 1, 41);
        Check.fault("\u00e9", 1, 0);
    }

    private static void p05() {
        DawnPerquisite x = fresh();
        due("p5", x.end(0), 0);
        due("p5", x.end(1), NONE);
        due("p5", x.end(-1), NONE);
        x.feed(1, 2, 3, 4, 5);
        due("p5", x.end(20), 20);
        due("p5", x.end(21), NONE);
        due("p5", x.end(7), 7);
        due("p5", x.end(8), NONE);
        due("p5", x.end(MAX), NONE);
        due("p5", x.end(MIN), NONE);
        due("p5 stays", x.about(6), 7);
    }

    private static void p06() {
        DawnPerquisite x = fresh();
        due("p6 empty", x.text(), 0);
        due("p6", Check.text(x, "bids 1;"), 1);
        due("p6 tape", x.about(6), 0);
        due("p6 fault", Check.text(x, "bids 1"), NONE);
        due("p6 tape", x.about(6), 0);
        due("p6 how many", x.about(1), 2);
        due("p6", Check.text(x, "earns 1;"), 2);
        due("p6", Check.text(x, "give 1;"), 3);
        due("p6 the fifth", Check.text(x, "give !;"), NONE);
        due("p6 tape stays", x.about(6), 7);
        due("p6 not read", x.fault(0), 0);
    }

    private static void p07() {
        DawnPerquisite x = fresh();
        due("p7 ahead", x.fault(0), NONE);
        due("p7 ahead", x.fault(1), NONE);
        Check.text(x, "bids 1;");
        due("p7", x.fault(0), 0);
        due("p7", x.fault(1), NONE);
        Check.text(x, "bids +;");
        due("p7", x.fault(0), 1);
        due("p7", x.fault(1), 5);
        due("p7 others", x.fault(2), NONE);
        due("p7 others", x.fault(-1), NONE);
        x.back();
        due("p7 stays behind back", x.fault(0), 1);
        faultsOfTokens();
        faultsOfNumbers();
        faultsOfDepth();
        faultsOfClauses();
    }

    private static void faultsOfTokens() {
        Check.fault("", 0, NONE);
        Check.fault(" \n ", 0, NONE);
        Check.fault("\t", 1, 0);
        Check.fault("bids", 1, 4);
        Check.fault("bids ", 1, 5);
        Check.fault("bids 1", 1, 6);
        Check.fault("bids\n1\n;", 0, NONE);
        Check.fault("bids1;", 0, NONE);
        Check.fault("bids 1;;", 1, 7);
        Check.fault("Bids 1;", 1, 0);
        Check.fault("bidsx 1;", 1, 0);
        Check.fault("bidsz 1;", 1, 0);
        Check.fault("bidsA 1;", 1, 0);
        Check.fault("bidsZ 1;", 1, 0);
        Check.fault("bids[1;", 1, 4);
        Check.fault("bids`1;", 1, 4);
        Check.fault(";".repeat(300), 1, 0);
        Check.fault("bids" + "+1".repeat(148), 1, 4);
        Check.fault("bids 1" + "+1".repeat(146) + " ;", 0, NONE);
        Check.fault("bids 1" + "+1".repeat(147), 1, 300);
        Check.fault("bids if 1>", 1, 10);
        Check.fault("bids if 1>=", 1, 11);
        Check.fault("bids longer;", 1, 5);
        Check.fault("bids da y;", 1, 5);
        Check.fault("bids dayday;", 1, 5);
        Check.fault("bids 1 2;", 1, 7);
        Check.fault("bids 1 !;", 1, 7);
        Check.fault("bids ();", 1, 6);
        Check.fault("bids (1;", 1, 7);
        Check.fault("bids 1);", 1, 6);
        Check.fault("bids 1 <= 2;", 1, 7);
        Check.fault("bids if 1<=2 then 3 else 4 end;", 0, NONE);
        Check.fault("bids if 1< =2 then 3 else 4 end;", 1, 11);
        Check.fault("bids if 1=<2 then 3 else 4 end;", 1, 10);
        Check.fault("bids if 1<>2 then 3 else 4 end;", 1, 10);
        Check.fault("bids if 1==2 then 3 else 4 end;", 1, 10);
        Check.fault("bids if 1#2 then 3 else 4;", 1, 25);
        Check.fault("bids if 1#2 then 3 end;", 1, 19);
        Check.fault("bids if (1#2) then 3 else 4 end;", 1, 10);
        Check.fault("bids if 1 then 3 else 4 end;", 1, 10);
        Check.fault("bids if not 1 then 3 else 4 end;", 1, 14);
        Check.fault("bids not 1<2;", 1, 5);
        Check.fault("bids if 1<2<3 then 3 else 4 end;", 1, 11);
        Check.fault("bids +1;", 1, 5);
        Check.fault("bids 1 to;", 1, 7);
        Check.fault("bids sell;", 1, 5);
        Check.fault("by 1;", 1, 0);
        Check.fault("to 1;", 1, 0);
        Check.fault("1;", 1, 0);
        Check.fault("buyer 1 by 2;", 1, 8);
        Check.fault("sort 1 to 2;", 1, 7);
        Check.fault("sell own;", 1, 5);
        Check.fault("sell (1);", 1, 5);
        Check.fault("buyer 1 to 2 3;", 1, 13);
    }

    private static void faultsOfNumbers() {
        Check.fault("bids 9999;", 0, NONE);
        Check.fault("bids 10000;", 2, 5);
        Check.fault("bids 99999999999999999999;", 2, 5);
        Check.fault("bids 000000000009999;", 0, NONE);
        Check.fault("bids 1 10000;", 1, 7);
        Check.fault("10000", 1, 0);
        Check.fault("buyer 0 to 11;", 0, NONE);
        Check.fault("buyer 11 to 11;", 0, NONE);
        Check.fault("buyer 12 to 11;", 2, 6);
        Check.fault("buyer 0 to 12;", 2, 11);
        Check.fault("buyer 4 to 3;", 2, 11);
        Check.fault("sort 4 by 9;", 0, NONE);
        Check.fault("sort 0 by 0;", 0, NONE);
        Check.fault("sort 5 by 9;", 2, 5);
        Check.fault("sort 4 by 10;", 2, 10);
        Check.fault("sell 5;sell 0;", 0, NONE);
        Check.fault("sell 6;", 2, 5);
        Check.fault("turn 5;turn 0;", 0, NONE);
        Check.fault("turn 6;", 2, 5);
        Check.fault("give 11;give 0;", 0, NONE);
        Check.fault("give 12;", 2, 5);
        Check.fault("day 60;day 1;", 0, NONE);
        Check.fault("day 61;", 2, 4);
        Check.fault("day 0;", 2, 4);
    }

    private static void faultsOfDepth() {
        Check.fault("bids ((((((((1))))))));", 0, NONE);
        Check.fault("bids (((((((((1)))))))));", 3, 13);
        Check.fault("bids ((((((((+", 1, 13);
        Check.fault("bids ((((((((1)))))))) + ((((((((1))))))));", 0, NONE);
        Check.fault("bids --------1;", 0, NONE);
        Check.fault("bids ---------1;", 3, 13);
        Check.fault("bids --------1-1-1;", 0, NONE);
        Check.fault("bids worth worth worth worth purse purse purse purse 1;", 0, NONE);
        Check.fault("bids worth worth worth worth purse purse purse purse -1;", 3, 53);
        Check.fault("bids if not not not not not not not 1=1 then 1 else 2 end;", 0, NONE);
        Check.fault("bids if not not not not not not not (1)=1 then 1 else 2 end;", 3, 36);
        Check.fault("bids if not not not not not not not not 1=1 then 1 else 2 end;", 3, 36);
        Check.fault("bids if not not not not not not not 1=1 and (1)=1 then (1) else (2) end;", 0, NONE);
        Check.fault("bids (((((((if 1=1 then 1 else (2) end)))))));", 3, 31);
        Check.fault("bids (((((((if 1=1 then 1 else 2 end+(2))))))));", 0, NONE);
        Check.fault("earns (((((((if 1=1 then (1) else 2 end)))))));", 3, 25);
    }

    private static void faultsOfClauses() {
        Check.fault("bids 1;earns 2;", 0, NONE);
        Check.fault("bids 1;bids 2;", 4, 7);
        Check.fault("earns 1;bids 1;earns !", 4, 15);
        Check.fault("bids has;", 5, 5);
        Check.fault("bids 1 has;", 1, 7);
        Check.fault("earns has;", 0, NONE);
        Check.fault("earns 1+wants;", 5, 8);
        Check.fault("bids wants;", 0, NONE);
        Check.fault("bids day+buyer+sort+long+own+free;earns day+buyer+sort+long+own+free;", 0, NONE);
        String many = "give 0;".repeat(23);
        Check.fault(many + "bids 1;", 0, NONE);
        Check.fault(many + "bids 1;give !", 6, 168);
        Check.fault(many + "bids 1;bids 2;", 4, 168);
        Check.fault(many + "bids 1;;", 1, 168);
        Check.fault(many + "bids 1;earns 1;", 6, 168);
    }

    private static void p08() {
        DawnPerquisite x = four();
        due("p8 none told", x.by(0), false);
        Check.text(x, "bids 7;");
        Check.text(x, "earns 7;");
        due("p8", x.by(0), true);
        due("p8 which", x.about(2), 0);
        due("p8 bids", x.of(0, 4), 7);
        due("p8", x.by(1), true);
        due("p8 bids without", x.of(0, 4), 0);
        due("p8 earns", x.of(0, 5), 7);
        due("p8 wrong", x.by(2), false);
        due("p8 wrong", x.by(-2), false);
        due("p8 stays", x.about(2), 1);
        due("p8 none", x.by(NONE), true);
        due("p8 which", x.about(2), NONE);
        due("p8 earns without", x.of(0, 5), 1);
        sums();
        limits();
    }

    private static void sums() {
        Check.bids("7", 7);
        Check.bids("10-3-2", 5);
        Check.bids("24/4/2", 3);
        Check.bids("24/4*2", 12);
        Check.bids("7/2*2", 6);
        Check.bids("2+3*4", 14);
        Check.bids("(2+3)*4", 20);
        Check.bids("10+(0-7)/2", 7);
        Check.bids("10+-7/2", 7);
        Check.bids("10-7/-2", 13);
        Check.bids("9+5/0", 9);
        Check.bids("2--3", 5);
        Check.bids("5-8", 0);
        Check.bids("100", 99);
        Check.bids("9999*9999/9999-90", 10);
        Check.bids("9999*9999-999*1001", 1);
        Check.bids("(0-9999)*9999+999*1001+4", 3);
        Check.bids("5000*199+5000*2+9999-999*1001", 1);
        Check.bids("0-5000*199-9999+999*1001+3", 2);
        Check.bids("1000*1000-999*1001", 1);
        Check.bids("day", 0);
        Check.bids("buyer", 1);
        Check.bids("sort", 0);
        Check.bids("long", 5);
        Check.bids("own", 77);
        Check.bids("free", 12);
        Check.bids("wants", 1);
        Check.bids("worth 0+worth 3", 30);
        Check.bids("worth 5+worth -1+worth 9999", 0);
        Check.bids("worth 1*3", 30);
        Check.bids("worth(1*3)", 30);
        Check.bids("worth worth 0+1", 1);
        Check.bids("purse 0", 5);
        Check.bids("purse buyer", 77);
        Check.bids("purse 2+purse -1+1", 1);
        Check.bids("-worth 4+50", 10);
        Check.bids("if 1<2 then 3 else 4 end", 3);
        Check.bids("if 2<2 then 3 else 4 end", 4);
        Check.bids("if 2<=2 then 3 else 4 end", 3);
        Check.bids("if 3<=2 then 3 else 4 end", 4);
        Check.bids("if 2>2 then 3 else 4 end", 4);
        Check.bids("if 3>2 then 3 else 4 end", 3);
        Check.bids("if 2>=2 then 3 else 4 end", 3);
        Check.bids("if 1>=2 then 3 else 4 end", 4);
        Check.bids("if 2=2 then 3 else 4 end", 3);
        Check.bids("if 1=2 then 3 else 4 end", 4);
        Check.bids("if 2#2 then 3 else 4 end", 4);
        Check.bids("if 1#2 then 3 else 4 end", 3);
        Check.bids("if not 1#2 then 3 else 4 end", 4);
        Check.bids("if not not 1#2 then 3 else 4 end", 3);
        Check.bids("if 1=1 or 1=1 and 1=2 then 3 else 4 end", 3);
        Check.bids("if 1=2 and 1=1 or 1=1 then 3 else 4 end", 3);
        Check.bids("if not 1=2 and 1=2 then 3 else 4 end", 4);
        Check.bids("if not 1=1 or 1=1 then 3 else 4 end", 3);
        Check.bids("if 1=2 or 1=3 or 1=1 then 3 else 4 end", 3);
        Check.bids("2*if 1=1 then 3 else 4 end+1", 7);
        Check.bids("if 1=1 then if 1=2 then 3 else 5 end else 4 end", 5);
        Check.bids("if 1=2 then 9 else if 1=1 then 8 else 5 end+1 end", 9);
        Check.bids("1+(2*(3+if 1+1=2 and 2*(3+4)=14 or 1=2 then 5*(6-4)else 0 end))", 27);
    }

    private static void limits() {
        DawnPerquisite x = four();
        rule(x, "bids 0-5;earns 0-10;");
        due("p8 bids at least", x.of(1, 4), 0);
        due("p8 earns at least", x.of(1, 5), -9);
        rule(x, "bids 500;earns 10;");
        due("p8 bids at most", x.of(1, 4), 99);
        due("p8 earns at most", x.of(1, 5), 9);
        rule(x, "bids free+wants*20;earns has+buyer*2-day;");
        x.buyer(1, 0, 0, 99);
        due("p8 wants not", x.of(1, 4), 12);
        due("p8 wants", x.of(4, 4), 32);
        x.sell(4);
        due("p8 free", x.of(1, 4), 11);
        due("p8 has", x.of(4, 5), 9);
        due("p8 has none", x.of(1, 5), 2);
        x.day(1);
        due("p8 day", x.of(1, 5), 1);
    }

    private static void p09() {
        DawnPerquisite x = four();
        x.sort(0, 1, 60);
        due("p9 too poor", x.sell(3), NONE);
        due("p9 another sort", x.sell(1), NONE);
        due("p9", x.sell(0), 20);
        due("p9 whose", x.at(0) + x.at(3) + x.at(4), -1);
        due("p9 purse", x.of(0, 3), 0);
        due("p9 fund", x.is(2), 20);
        due("p9 not free", x.sell(0), NONE);
        due("p9 wrong", x.sell(-1), NONE);
        due("p9 wrong", x.sell(4), NONE);
        due("p9 wrong", x.sell(MAX), NONE);
        due("p9 a step", x.about(3), 1);
        due("p9 written", x.book(0, 1) * 100 + x.book(0, 3), 20);
        x.buyer(1, 3, 5, 99);
        due("p9 one slice not free", x.sell(4), NONE);
        x.give(7);
        x.buyer(1, 7, 7, 99);
        due("p9 given", x.sell(5), NONE);
        DawnPerquisite y = fresh();
        rule(y, "bids own;");
        y.buyer(1, 0, 0, 50);
        due("p9 as it is ahead", y.sell(0), 50);
        due("p9 nothing left", y.of(0, 3), 0);
        fundIsFull();
    }

    private static void fundIsFull() {
        DawnPerquisite x = fresh();
        rule(x, "bids 99;earns 9;");
        for (int sort = 1; sort < 5; sort++) {
            x.sort(sort, 0, 0);
        }
        for (int i = 0; i < 6; i++) {
            x.buyer(1, i, i, 999);
        }
        Check.text(x, "sell 0;sell 1;sell 2;sell 3;sell 4;sell 5;day 1;".repeat(3));
        due("p9 eighteen sold", x.played(1), NONE);
        due("p9 fund", x.is(2), 18 * 99);
        for (int i = 0; i < 80; i++) {
            x.day(60);
            x.played(1);
        }
        due("p9 no more", x.is(2), 99999);
        due("p9 sold yet", x.sell(0), 99);
        due("p9 no more", x.is(2), 99999);
        x.day(60);
        due("p9 sold yet", x.sell(1), 99);
        due("p9 no more", x.is(2), 99999);
    }

    private static void p10() {
        DawnPerquisite x = four();
        due("p10", x.give(11), true);
        due("p10 whose", x.at(11), 6);
        due("p10 again", x.give(11), false);
        due("p10", x.give(0), true);
        due("p10 wrong", x.give(-1), false);
        due("p10 wrong", x.give(12), false);
        due("p10 wrong", x.give(32), false);
        x.buyer(1, 5, 6, 0);
        x.sell(4);
        due("p10 sold", x.give(5), false);
        due("p10 steps", x.about(3), 3);
        due("p10 written", x.book(0, 2), 11);
        due("p10 kind", x.book(0, 1), 1);
        due("p10 for nothing", x.book(0, 3), 0);
    }

    private static void p11() {
        DawnPerquisite x = four();
        x.sort(0, 1, 6);
        x.give(11);
        x.sell(0);
        due("p11 none", x.turn(1), false);
        due("p11", x.turn(0), true);
        due("p11 free", x.is(4), 2047);
        due("p11 what it paid stays", x.of(0, 3), 18);
        due("p11 fund stays", x.is(2), 2);
        due("p11 again", x.turn(0), false);
        due("p11 wrong", x.turn(-1), false);
        due("p11 wrong", x.turn(6), false);
        due("p11 wrong", x.turn(MAX), false);
        due("p11 steps", x.about(3), 3);
        due("p11 written", x.book(2, 1), 2);
        due("p11 who", x.book(2, 2), 0);
    }

    private static void p12() {
        DawnPerquisite x = fresh();
        x.sort(0, 1, 60);
        x.buyer(1, 2, 3, 996);
        x.buyer(1, 1, 4, 50);
        x.buyer(2, 0, 5, 50);
        x.buyer(1, 3, 8, 50);
        x.buyer(1, 2, 3, 50);
        x.buyer(1, 0, 11, 34);
        due("p12 has none", x.pass(0, 1), NONE);
        due("p12 sold", x.sell(0), 10);
        due("p12 another sort", x.pass(0, 2), NONE);
        due("p12 not all slices", x.pass(0, 3), NONE);
        due("p12 bids no more", x.pass(0, 4), NONE);
        due("p12 too poor", x.pass(0, 5), NONE);
        due("p12 itself", x.pass(0, 0), NONE);
        due("p12 wrong", x.pass(0, 6), NONE);
        due("p12 wrong", x.pass(-1, 1), NONE);
        due("p12 wrong", x.pass(6, 1), NONE);
        due("p12 wrong", x.pass(0, -1), NONE);
        due("p12", x.pass(0, 1), 15);
        due("p12 slices", x.is(4), 4095 - 12);
        due("p12 whose", x.at(2) + x.at(3), 2);
        due("p12 not the rest", x.at(1), NONE);
        due("p12 has", x.of(1, 6), 2);
        due("p12 has none now", x.of(0, 6), 0);
        due("p12 purse", x.of(1, 3), 35);
        due("p12 999 at most", x.of(0, 3), 999);
        due("p12 fund stays", x.is(2), 10);
        due("p12 kind", x.book(1, 1), 4);
        due("p12 to whom", x.book(1, 2), 1);
        due("p12 for", x.book(1, 3), 15);
        due("p12 steps", x.about(3), 2);
        x.sell(5);
        DawnPerquisite y = fresh();
        y.sort(0, 1, 36);
        y.buyer(1, 0, 0, 50);
        y.buyer(1, 0, 3, 50);
        y.buyer(1, 4, 6, 50);
        y.sell(0);
        due("p12 cut", y.pass(0, 1), 7);
        y.sell(2);
        due("p12 has some already", y.pass(1, 2), NONE);
    }

    private static void p13() {
        DawnPerquisite x = four();
        due("p13 wrong", x.day(0), NONE);
        due("p13 wrong", x.day(61), NONE);
        due("p13 wrong", x.day(-1), NONE);
        due("p13 nothing done", x.is(0), 0);
        x.sell(0);
        due("p13", x.day(1), 2);
        due("p13 x", x.is(1), (457 * 719 + 587) % 31039);
        due("p13 all free", x.is(4), 4095);
        due("p13 day", x.is(0), 1);
        due("p13 purses", x.of(3, 3), 1);
        due("p13 written", x.book(1, 0) * 100 + x.book(1, 1) * 10 + x.book(1, 2), 132);
        due("p13", x.day(2), x.is(3));
        due("p13 steps", x.about(3), 4);
        DawnPerquisite y = fresh();
        for (int sort = 0; sort < 5; sort++) {
            y.sort(sort, 0, 0);
        }
        y.buyer(31, 0, 0, 990);
        due("p13 without odds", y.day(10), 0);
        due("p13 no draw", y.is(1), 457);
        due("p13 999 at most", y.of(0, 3), 999);
        y.sort(3, 1, 0);
        due("p13 the sure one", y.day(1), 3);
        rule(y, "earns 0-9;");
        y.day(60);
        due("p13 purse", y.of(0, 3), 999 - 540);
        y.day(60);
        due("p13 0 at least", y.of(0, 3), 0);
        earnsOneBehindTheOther();
        lastDay();
    }

    private static void earnsOneBehindTheOther() {
        DawnPerquisite x = fresh();
        x.buyer(31, 0, 1, 3);
        x.buyer(31, 2, 3, 0);
        rule(x, "earns has+day+purse 0;");
        x.sell(0);
        x.day(1);
        due("p13 has and purse", x.of(0, 3), 3 + 5);
        due("p13 the second sees the first", x.of(1, 3), 8);
        x.day(1);
        due("p13 day ahead", x.of(0, 3), 8 + 9);
    }

    private static void lastDay() {
        DawnPerquisite x = atDay(9990);
        due("p13 day", x.is(0), 9990);
        due("p13 beyond", x.day(10), NONE);
        due("p13 nothing done", x.is(0), 9990);
        due("p13 up to", x.day(9), x.is(3));
        due("p13 day", x.is(0), 9999);
        due("p13 beyond", x.day(1), NONE);
        due("p13 the book", x.book(24, 0), 9999);
    }

    private static DawnPerquisite atDay(int day) {
        DawnPerquisite x = fresh();
        for (int i = 0; i < day / 60; i++) {
            x.day(60);
        }
        if (day % 60 > 0) {
            x.day(day % 60);
        }
        return x;
    }

    private static void p14() {
        DawnPerquisite x = fresh();
        due("p14 none", x.played(0), -2);
        due("p14 none", x.played(NONE), -2);
        Check.text(x, "bids 1;sort 2 by 9;buyer 3 to 5;sell 0;give 0;day 3;earns 5;turn 0;give 1;");
        due("p14", x.played(0), 7);
        due("p14 sort", x.ofSort(2, 0) * 100 + x.ofSort(2, 1), 920);
        due("p14 buyer", x.of(0, 0) * 10000 + x.of(0, 1) * 1000 + x.of(0, 2) * 100 + x.of(0, 3), 313553);
        due("p14 days", x.is(0), 3);
        due("p14 steps", x.about(3), 5);
        due("p14 rules not", x.of(0, 5), 1);
        due("p14 not done", x.at(1), NONE);
        Check.text(x, "bids 3;");
        due("p14 laws alone", x.played(1), NONE);
        Check.text(x, "");
        due("p14 empty", x.played(2), NONE);
        Check.text(x, "buyer 0 to 0;buyer 1 to 1;buyer 0 to 0;buyer 0 to 0;buyer 0 to 0;buyer 0 to 0;");
        due("p14 buyers", x.played(3), 5);
        due("p14 wrong", x.played(4), -2);
        due("p14 wrong", x.played(MIN), -2);
        DawnPerquisite y = atDay(9998);
        Check.text(y, "day 2;give 0;");
        due("p14 days that can pass", y.played(0), 0);
        due("p14 day", y.is(0), 9999);
    }

    private static void p15() {
        DawnPerquisite x = fresh();
        x.buyer(31, 0, 3, 50);
        x.buyer(31, 4, 6, 50);
        due("p15 wrong", x.years(-1, 1), NONE);
        due("p15 wrong", x.years(10000, 1), NONE);
        due("p15 wrong", x.years(0, 0), NONE);
        due("p15 wrong", x.years(0, 41), NONE);
        due("p15 nothing done", x.is(1), 457);
        // 457: x mod 6 is 1, x / 6 mod 6 is 4: nobody
        due("p15", x.years(0, 1), 0);
        due("p15 x", x.is(1), (457 * 719 + 587) % 31039);
        due("p15 a step", x.about(3), 1);
        due("p15 nothing sold", x.book(NONE, 0), 0);
        // 469: 469 mod 6 is 1, 78 mod 6 is 0: buyer 0
        due("p15", x.years(6, 1), 0);
        due("p15 sold", x.at(0), 0);
        // 461: mod 6 is 5: a day, drawn by X behind x
        due("p15", x.years(2, 1), 1);
        int behind = (461 * 719 + 587) % 31039;
        due("p15 sort", x.is(3), behind % 5);
        due("p15 x", x.is(1), (behind * 719 + 587) % 31039);
        due("p15 one step", x.about(3), 3);
        yearsGivenAndTurned();
        due("p15", x.years(9999, 40) >= 1, true);
        due("p15 one step", x.about(3), 4);
        due("p15 undone", x.undo(), 3);
        due("p15 day", x.is(0), 1);
    }

    private static void yearsGivenAndTurned() {
        DawnPerquisite x = fresh();
        x.buyer(31, 0, 3, 50);
        x.buyer(31, 4, 6, 50);
        x.sell(0);
        x.sell(1);
        // 477: mod 6 is 3, 79 mod 6 is 1, but mod 4 is 1
        x.years(10, 1);
        due("p15 not turned away", x.at(4), 1);
        // 471: mod 6 is 3, mod 4 is 3, 78 mod 6 is 0
        x.years(7, 1);
        due("p15 turned away", x.at(0), NONE);
        due("p15 written", x.book(2, 1) * 10 + x.book(2, 2), 20);
        x.years(7, 1);
        due("p15 none to turn away", x.book(NONE, 0), 3);
        // 813, which does nothing, then 26432: mod 6 is 2, 4405 mod 3 is 1, mod 12 is 8
        x.years(178, 2);
        due("p15 given", x.at(8), 6);
        due("p15 written", x.book(3, 1) * 10 + x.book(3, 2), 18);
        x.years(178, 2);
        due("p15 given already", x.book(NONE, 0), 4);
        // 789, then 9176: mod 6 is 2, mod 12 is 8, but 1529 mod 3 is 2
        x.undo();
        x.undo();
        x.years(166, 2);
        due("p15 not given", x.at(8), NONE);
        due("p15 x", x.is(1), (9176 * 719 + 587) % 31039);
        DawnPerquisite y = atDay(9999);
        due("p15 no day can pass", y.years(2, 1), 9999);
    }

    private static void p16() {
        DawnPerquisite x = four();
        due("p16 none", x.undo(), NONE);
        x.sort(0, 1, 60);
        x.sell(0);
        x.give(7);
        x.turn(0);
        x.day(2);
        x.years(5, 9);
        due("p16 years", x.undo(), 5);
        due("p16 day", x.is(0), 2);
        due("p16 a day", x.undo(), 4);
        due("p16 day", x.is(0), 1);
        due("p16 a day", x.undo(), 3);
        due("p16 x", x.is(1), 457);
        due("p16 sort", x.is(3), 0);
        due("p16 book", x.book(NONE, 0), 3);
        due("p16 purse", x.of(3, 3), 0);
        due("p16 turned", x.undo(), 2);
        due("p16 whose", x.at(0), 0);
        due("p16 given", x.undo(), 1);
        due("p16 free", x.at(7), NONE);
        due("p16 worth stays told", x.ofSort(0, 1), 60);
        x.buyer(1, 5, 5, 44);
        x.sell(4);
        due("p16 bought", x.of(4, 3), 39);
        due("p16 sold", x.undo(), 1);
        due("p16 sold", x.undo(), 0);
        due("p16 fund", x.is(2), 0);
        due("p16 purse", x.of(0, 3), 20);
        due("p16 told since", x.of(4, 3), 44);
        due("p16 none left", x.undo(), NONE);
        thirtySteps();
    }

    private static void thirtySteps() {
        DawnPerquisite x = four();
        x.day(40);
        due("p16 thirty", x.about(3), 30);
        for (int i = 29; i >= 0; i--) {
            due("p16 thirty", x.undo(), i);
        }
        due("p16 day", x.is(0), 10);
        due("p16 book", x.book(NONE, 0), 10);
        due("p16 none", x.undo(), NONE);
        x.buyer(31, 9, 9, 123);
        x.day(1);
        x.sell(4);
        x.undo();
        x.undo();
        due("p16 told since", x.of(4, 3), 123);
        due("p16 told since has none", x.of(4, 6), 0);
    }

    private static void p17() {
        DawnPerquisite x = four();
        due("p17 wants", x.of(1, 0), 6);
        due("p17 from", x.of(1, 1), 2);
        due("p17 to", x.of(1, 2), 5);
        due("p17 purse", x.of(1, 3), 99);
        x.sort(0, 1, 35);
        due("p17 bids", x.of(1, 4), 11);
        due("p17 earns", x.of(1, 5), 1);
        due("p17 has", x.of(0, 6), 0);
        x.sell(0);
        due("p17 has", x.of(0, 6), 4);
        due("p17 wrong", x.of(1, 7), -10);
        due("p17 wrong", x.of(1, -1), -10);
        due("p17 wrong", x.of(4, 0), -10);
        due("p17 wrong", x.of(-1, 0), -10);
        due("p17 wrong", x.of(MAX, 0), -10);
    }

    private static void p18() {
        DawnPerquisite x = fresh();
        x.sort(2, 7, 88);
        due("p18", x.ofSort(2, 0), 7);
        due("p18", x.ofSort(2, 1), 88);
        due("p18 wrong", x.ofSort(2, 2), NONE);
        due("p18 wrong", x.ofSort(2, -1), NONE);
        due("p18 wrong", x.ofSort(5, 0), NONE);
        due("p18 wrong", x.ofSort(-1, 0), NONE);
    }

    private static void p19() {
        DawnPerquisite x = four();
        x.sell(3);
        x.sell(0);
        x.give(11);
        due("p19", x.at(0), 0);
        due("p19", x.at(4), 3);
        due("p19 free", x.at(5), NONE);
        due("p19 given", x.at(11), 6);
        due("p19 wrong", x.at(12), -2);
        due("p19 wrong", x.at(-1), -2);
        due("p19 wrong", x.at(MAX), -2);
    }

    private static void p20() {
        DawnPerquisite x = four();
        x.sort(0, 1, 12);
        x.sell(0);
        due("p20 fund", x.is(2), 4);
        due("p20 free", x.is(4), 4080);
        x.day(1);
        due("p20 day", x.is(0), 1);
        due("p20 x", x.is(1), 18780);
        due("p20 sort", x.is(3), 2);
        due("p20 wrong", x.is(5), -2);
        due("p20 wrong", x.is(-1), -2);
    }

    private static void p21() {
        DawnPerquisite x = four();
        due("p21 none", x.book(NONE, 0), 0);
        due("p21 none such", x.book(0, 0), -2);
        x.sort(0, 1, 60);
        x.sell(0);
        x.give(9);
        x.turn(0);
        x.day(1);
        due("p21 many", x.book(NONE, 0), 4);
        int[][] lines = {{0, 0, 0, 20}, {0, 1, 9, 0}, {0, 2, 0, 0}, {1, 3, 2, 0}};
        for (int i = 0; i < 4; i++) {
            for (int what = 0; what < 4; what++) {
                due("p21 line " + i + " " + what, x.book(i, what), lines[i][what]);
            }
        }
        due("p21 wrong", x.book(4, 0), -2);
        due("p21 wrong", x.book(-2, 0), -2);
        due("p21 wrong", x.book(0, 4), -2);
        due("p21 wrong", x.book(0, -1), -2);
        x.day(23);
        due("p21 25 at most", x.book(NONE, 0), 25);
        due("p21 the eldest", x.book(0, 1), 2);
        due("p21 the latest", x.book(24, 0), 24);
        due("p21 none such", x.book(25, 0), -2);
        x.undo();
        x.undo();
        due("p21 taken back", x.book(NONE, 0), 25);
        due("p21 the eldest again", x.book(0, 1), 0);
    }

    private static void p22() {
        DawnPerquisite x = four();
        x.sell(0);
        for (int n = 1; n <= 60; n++) {
            int sort = x.foretold(n, 0);
            int purses = x.foretold(n, 1);
            due("p22 nothing changes", x.is(0) * 100000 + x.is(1), 457);
            due("p22 still sold", x.at(0), 0);
            if (n % 7 == 1) {
                x.image();
                due("p22 sort " + n, x.day(n), sort);
                due("p22 purses " + n, x.of(0, 3) + x.of(1, 3) + x.of(2, 3) + x.of(3, 3), purses);
                x.back();
            }
        }
        due("p22 wrong", x.foretold(0, 0), NONE);
        due("p22 wrong", x.foretold(61, 0), NONE);
        due("p22 wrong", x.foretold(1, 2), NONE);
        due("p22 wrong", x.foretold(1, -1), NONE);
        due("p22 no steps", x.about(3), 1);
        DawnPerquisite y = atDay(9999);
        y.buyer(1, 1, 1, 17);
        due("p22 none can pass", y.foretold(60, 1), 17);
        due("p22 none can pass", y.foretold(60, 0), y.is(3));
    }

    private static void p23() {
        DawnPerquisite x = four();
        due("p23", x.pack(2, false), 16);
        due("p23", x.pack(2, true), 6);
        due("p23 a tie", x.pack(0, true), 0);
        due("p23 nobody", x.pack(3, true), 0);
        due("p23 wrong", x.pack(5, true), NONE);
        due("p23 wrong", x.pack(-1, false), NONE);
        x.buyer(4, 0, 1, 0);
        due("p23 whatever the purse", x.pack(2, true), 22);
        due("p23", x.pack(2, false), 19);
        x.give(6);
        due("p23 an empty dawn", x.pack(2, true), 22);
        DawnPerquisite y = fresh();
        y.buyer(31, 0, 5, 9);
        y.buyer(31, 6, 11, 9);
        y.buyer(31, 0, 11, 9);
        due("p23 like ones", y.pack(3, true), 3);
        due("p23 like ones", y.pack(3, false), 30);
        rule(y, "bids free+sort+wants+if buyer=2 then 20 else 0 end;");
        y.give(3);
        due("p23 free and sort as told", y.pack(4, false), 36);
        due("p23", y.pack(4, true), 4);
    }

    private static void p24() {
        DawnPerquisite x = four();
        due("p24", x.see(0, 2), 16);
        due("p24", x.see(2, 2), 16);
        due("p24", x.see(1, 1), 3);
        due("p24 clash", x.see(3, 1), NONE);
        due("p24 another sort", x.see(1, 2), NONE);
        due("p24", x.see(9, 0), 0);
        due("p24 wrong", x.see(16, 0), NONE);
        due("p24 wrong", x.see(-1, 0), NONE);
        due("p24 wrong", x.see(MIN, 0), NONE);
        due("p24 wrong", x.see(0, 5), NONE);
        due("p24 wrong", x.see(0, -1), NONE);
    }

    private static void p25() {
        DawnPerquisite x = fresh();
        long[][] hopes = {{0, 1}, {20, 1}, {26, 1}, {148, 5}, {794, 25}};
        for (int n = 0; n < hopes.length; n++) {
            due("p25 " + n, x.hope(n, false), hopes[n][0]);
            due("p25 " + n, x.hope(n, true), hopes[n][1]);
        }
        due("p25 wrong", x.hope(7, false), NONE);
        due("p25 wrong", x.hope(-1, true), NONE);
        x.sort(0, 9, 99);
        x.sort(1, 9, 98);
        x.sort(2, 9, 97);
        x.sort(3, 9, 96);
        x.sort(4, 8, 0);
        due("p25 six", x.hope(6, true) > 1000000L, true);
        due("p25 six is below the best", x.hope(6, false) < 99 * x.hope(6, true), true);
        for (int sort = 0; sort < 5; sort++) {
            x.sort(sort, 0, 7 + sort);
        }
        due("p25 without odds", x.hope(3, false), 7);
        due("p25 without odds", x.hope(3, true), 1);
        x.sort(0, 0, 0);
        due("p25 nothing", x.hope(6, true), 1);
    }

    private static void p26() {
        DawnPerquisite x = fresh();
        due("p26", x.keep(0), false);
        due("p26", x.keep(1), true);
        x.sort(0, 1, 24);
        due("p26 more than hope of one", x.keep(1), true);
        x.sort(0, 1, 25);
        due("p26 as good", x.keep(1), false);
        due("p26 two", x.keep(2), true);
        x.sort(0, 1, 99);
        due("p26 six", x.keep(6), false);
        due("p26 wrong", x.keep(7), false);
        due("p26 wrong", x.keep(-1), false);
        x.sort(0, 0, 5);
        due("p26", x.keep(1), true);
    }

    private static void p27() {
        DawnPerquisite x = fresh();
        x.sort(2, 6, 0);
        due("p27", x.chance(2, false), 3);
        due("p27", x.chance(2, true), 5);
        x.sort(1, 0, 0);
        due("p27 never", x.chance(1, false), 0);
        due("p27 never", x.chance(1, true), 1);
        due("p27 wrong", x.chance(5, true), NONE);
        due("p27 wrong", x.chance(-1, false), NONE);
        for (int sort = 0; sort < 5; sort++) {
            x.sort(sort, 0, 0);
        }
        due("p27 sure", x.chance(0, false) * 10 + x.chance(0, true), 11);
        due("p27 never", x.chance(3, false) * 10 + x.chance(3, true), 1);
    }

    private static void p28() {
        DawnPerquisite x = fresh();
        due("p28", x.first(2), 4);
        x.sort(2, 4, 0);
        due("p28 one half will do", x.first(2), 1);
        x.sort(2, 3, 0);
        due("p28", x.first(2), 2);
        x.sort(0, 0, 0);
        due("p28 never", x.first(0), NONE);
        x.sort(0, 1, 0);
        x.sort(2, 9, 0);
        x.sort(3, 2, 0);
        due("p28 of 14, within ten", x.first(0), 10);
        x.sort(3, 3, 0);
        due("p28 of 15, not within ten", x.first(0), NONE);
        due("p28 wrong", x.first(5), NONE);
        due("p28 wrong", x.first(-1), NONE);
        for (int sort = 0; sort < 5; sort++) {
            x.sort(sort, 0, 0);
        }
        due("p28 sure", x.first(0), 1);
        due("p28 never", x.first(1), NONE);
    }

    private static void p29() {
        DawnPerquisite x = four();
        due("p29", x.paid(1, true), 1);
        due("p29 again", x.paid(1, false), -2);
        due("p29", x.paid(0, false), 2);
        due("p29 wrong", x.paid(4, true), -2);
        due("p29 wrong", x.paid(-2, true), -2);
        due("p29 wrong", x.paid(33, true), -2);
        due("p29 how many", x.about(4), 2);
        due("p29 none any more", x.paid(NONE, true), 0);
        due("p29 none", x.was(), 31);
        due("p29 again then", x.paid(1, false), 1);
    }

    private static void p30() {
        DawnPerquisite x = four();
        due("p30", x.was(), 31);
        x.sort(4, 0, 0);
        due("p30 of odds", x.was(), 15);
        x.paid(0, true);
        due("p30 paid", x.was(), 3);
        x.paid(3, false);
        due("p30 not paid", x.was(), 2);
        x.paid(2, true);
        due("p30 none", x.was(), 0);
        DawnPerquisite y = four();
        for (int sort = 0; sort < 5; sort++) {
            y.sort(sort, 0, 0);
        }
        due("p30 without odds", y.was(), 1);
        y.paid(0, false);
        due("p30 none", y.was(), 0);
    }

    private static void p31() {
        DawnPerquisite x = four();
        due("p31", x.surest(false) * 10 + x.surest(true), 15);
        x.sort(1, 4, 0);
        x.sort(2, 6, 0);
        x.paid(1, true);
        due("p31", x.surest(false), 3);
        due("p31", x.surest(true), 5);
        x.paid(0, true);
        x.paid(2, true);
        due("p31 none", x.surest(false), 0);
        due("p31 none", x.surest(true), 1);
    }

    private static void p32() {
        DawnPerquisite x = four();
        due("p32 the lowest", x.likeliest(), 0);
        x.sort(2, 6, 0);
        x.sort(3, 6, 0);
        due("p32 most", x.likeliest(), 2);
        x.paid(0, true);
        due("p32 of these", x.likeliest(), 0);
        x.paid(2, true);
        due("p32 none", x.likeliest(), NONE);
        DawnPerquisite y = fresh();
        for (int sort = 0; sort < 5; sort++) {
            y.sort(sort, 0, 0);
        }
        due("p32 sure", y.likeliest(), 0);
    }

    private static void p33() {
        DawnPerquisite x = fresh();
        due("p33 nobody", x.ask(), NONE);
        x.buyer(31, 0, 0, 0);
        x.buyer(1, 0, 0, 0);
        x.buyer(3, 0, 0, 0);
        x.buyer(7, 0, 0, 0);
        due("p33 the lowest of like ones", x.ask(), 2);
        x.sort(4, 3, 0);
        due("p33 by odds", x.ask(), 3);
        x.paid(3, true);
        due("p33 of those left", x.ask(), 1);
        x.paid(1, false);
        due("p33", x.ask(), 2);
        x.paid(2, true);
        due("p33 one fits", x.ask(), NONE);
        x.paid(NONE, true);
        for (int i = 0; i < 4; i++) {
            x.paid(i, i == 0);
        }
        due("p33 all told", x.ask(), NONE);
    }

    private static void p34() {
        DawnPerquisite x = fresh();
        x.sort(0, 1, 60);
        due("p34 nobody", x.auction(0, 2), NONE);
        rule(x, "bids buyer*20+10;");
        x.buyer(1, 0, 4, 0);
        x.buyer(1, 0, 5, 0);
        due("p34 who", x.auction(0, 0), 1);
        due("p34 for", x.auction(0, 1), 2);
        due("p34 alone", x.auction(5, 1), 0);
        due("p34 alone", x.auction(5, 2), 1);
        x.buyer(1, 0, 9, 0);
        x.buyer(2, 0, 0, 0);
        due("p34 like ones", x.auction(0, 0), 1);
        due("p34 for", x.auction(0, 1), 5);
        due("p34 how many", x.auction(0, 2), 3);
        x.give(0);
        due("p34 given, too", x.auction(0, 2), 3);
        due("p34 nobody", x.auction(11, 0), NONE);
        due("p34 wrong", x.auction(12, 0), NONE);
        due("p34 wrong", x.auction(-1, 0), NONE);
        due("p34 wrong", x.auction(0, 3), NONE);
        due("p34 wrong", x.auction(0, -1), NONE);
        x.buyer(1, 0, 0, 0);
        due("p34 who", x.auction(0, 0), 4);
        due("p34 for the next", x.auction(0, 1), 5);
    }

    private static void p35() {
        DawnPerquisite x = four();
        due("p35", x.stab(false), 81);
        due("p35", x.stab(true), 3);
        due("p35 without", fresh().stab(false), 0);
        due("p35 without", fresh().stab(true), 0);
        x.buyer(0, 0, 0, 0);
        due("p35 whatever sort", x.stab(false), 81);
        x.buyer(0, 1, 1, 0);
        due("p35", x.stab(true), 4);
        DawnPerquisite y = fresh();
        y.buyer(1, 3, 8, 0);
        y.buyer(1, 5, 11, 0);
        due("p35 the lowest", y.stab(false), 32);
    }

    private static void p36() {
        DawnPerquisite x = four();
        due("p36", x.crowd(false), 2);
        due("p36", x.crowd(true), 2);
        x.buyer(0, 4, 11, 0);
        due("p36 whatever sort", x.crowd(false), 3);
        due("p36", x.crowd(true), 4);
        due("p36 nobody", fresh().crowd(false), 0);
        due("p36 nobody", fresh().crowd(true), 0);
    }

    private static void p37() {
        DawnPerquisite x = four();
        int[] dawns = {0, 1, 0, 0};
        for (int i = 0; i < 4; i++) {
            due("p37 " + i, x.dawns(i), dawns[i]);
        }
        x.buyer(0, 2, 2, 0);
        x.buyer(0, 1, 6, 0);
        int[] more = {0, 2, 0, 0, 3, 1};
        for (int i = 0; i < 6; i++) {
            due("p37 more " + i, x.dawns(i), more[i]);
        }
        due("p37 wrong", x.dawns(6), NONE);
        due("p37 wrong", x.dawns(-1), NONE);
    }

    private static void p38() {
        DawnPerquisite x = four();
        due("p38", x.month(1, false), 19);
        due("p38", x.month(1, true), 5);
        due("p38", x.month(60, false), 228);
        due("p38", x.month(60, true), 1);
        due("p38 wrong", x.month(0, false), NONE);
        due("p38 wrong", x.month(61, true), NONE);
        x.sort(2, 3, 20);
        due("p38 by odds", x.month(1, false), 51);
        due("p38 by odds", x.month(1, true), 7);
        for (int sort = 0; sort < 5; sort++) {
            x.sort(sort, 0, 60);
        }
        due("p38 sure", x.month(2, false), 50);
        due("p38 sure", x.month(2, true), 1);
        due("p38 nothing", fresh().month(7, true), 1);
    }

    private static void p39() {
        DawnPerquisite x = fresh();
        due("p39", x.value(0, 99), true);
        due("p39", x.value(11, 0), true);
        due("p39", x.ends(0, 0), 99);
        due("p39 wrong", x.value(12, 1), false);
        due("p39 wrong", x.value(-1, 1), false);
        due("p39 wrong", x.value(0, -1), false);
        due("p39 wrong", x.value(0, 100), false);
        due("p39 stays", x.ends(0, 0), 99);
        due("p39 is no step", x.about(3), 0);
    }

    private static DawnPerquisite values(int... values) {
        DawnPerquisite x = fresh();
        for (int i = 0; i < values.length; i++) {
            x.value(i, values[i]);
        }
        return x;
    }

    private static void p40() {
        DawnPerquisite x = values(60, 10, 99);
        due("p40", x.ends(0, 2), 49);
        due("p40", x.ends(0, 1), 50);
        due("p40", x.ends(1, 1), 10);
        due("p40 below 0", values(1, 99, 1).ends(0, 2), -97);
        due("p40 twelve", values(3, 9, 1, 2, 8, 8, 7, 99, 5, 4, 6, 10).ends(0, 11), 102);
        due("p40 within", values(3, 9, 1, 2, 8, 8, 7, 99, 5, 4, 6, 10).ends(7, 9), 98);
        int[][] wrong = {{1, 0}, {-1, 0}, {0, 12}, {MIN, MAX}, {12, 12}};
        for (int[] told : wrong) {
            due("p40 wrong", x.ends(told[0], told[1]), -1000);
        }
    }

    private static void p41() {
        DawnPerquisite x = values(60, 10, 99);
        due("p41", x.take(0, 2), 1);
        due("p41", x.take(0, 1), 0);
        due("p41", x.take(1, 2), 1);
        due("p41 one", x.take(2, 2), 0);
        due("p41 as good", values(5, 5).take(0, 1), 0);
        due("p41 as good", values(5, 9, 5).take(0, 2), 0);
        int[][] wrong = {{1, 0}, {-1, 0}, {0, 12}, {MIN, MAX}};
        for (int[] told : wrong) {
            due("p41 wrong", x.take(told[0], told[1]), NONE);
        }
    }

    private static void p42() {
        DawnPerquisite x = values(60, 10, 99, 50, 45, 60, 0, 54);
        int[][] due = {{0, 7, 54, 2, 5}, {0, 1, 10, 0, 0}, {1, 1, -40, 1, 1}, {6, 7, 4, 7, 7}, {3, 3, 0, 3, 3}, {8, 11, -50, 8, 8}};
        for (int[] told : due) {
            for (int what = 0; what < 3; what++) {
                due("p42 " + told[0] + " " + told[1] + " " + what, x.best(told[0], told[1], what), told[2 + what]);
            }
        }
        DawnPerquisite y = values(50, 60, 50, 40, 60, 20, 60);
        due("p42 the lowest first", y.best(0, 6, 1), 0);
        due("p42 the lowest last", y.best(0, 6, 2), 1);
        int[][] wrong = {{1, 0, 0}, {-1, 0, 0}, {0, 12, 0}, {0, 1, 3}, {0, 1, -1}};
        for (int[] told : wrong) {
            due("p42 wrong", x.best(told[0], told[1], told[2]), -1000);
        }
    }

    private static void p43() {
        DawnPerquisite x = four();
        for (int i = 1; i <= 8; i++) {
            due("p43", x.said(i % 4, i * 12), i);
        }
        due("p43 the ninth", x.said(0, 0), -2);
        due("p43 how many", x.about(5), 8);
        due("p43 none any more", x.said(NONE, 0), 0);
        due("p43 wrong", x.said(4, 0), -2);
        due("p43 wrong", x.said(-2, 0), -2);
        due("p43 wrong", x.said(0, 100), -2);
        due("p43 wrong", x.said(0, -1), -2);
        due("p43", x.said(0, 99), 1);
    }

    private static void p44() {
        DawnPerquisite x = four();
        due("p44 no texts", x.whose(), 0);
        x.sort(0, 1, 24);
        Check.text(x, "bids long*2;");
        Check.text(x, "earns 3;");
        Check.text(x, "bids 8;");
        due("p44 nothing said", x.whose(), 7);
        x.said(0, 8);
        due("p44", x.whose(), 7);
        x.said(3, 2);
        due("p44", x.whose(), 3);
        x.said(3, 8);
        due("p44", x.whose(), 0);
        x.said(NONE, 0);
        x.said(0, 7);
        due("p44", x.whose(), 0);
    }

    private static void p45() {
        DawnPerquisite x = four();
        due("p45", x.richest(), 1);
        x.buyer(1, 1, 1, 99);
        due("p45 like ones", x.richest(), 1);
        x.buyer(1, 1, 1, 100);
        due("p45", x.richest(), 5);
        DawnPerquisite y = fresh();
        due("p45 nobody", y.richest(), NONE);
        y.buyer(1, 1, 1, 0);
        due("p45 above 0", y.richest(), NONE);
    }

    private static void p46() {
        DawnPerquisite x = four();
        due("p46", x.rival(0), 2);
        due("p46", x.rival(1), 1);
        due("p46 none", x.rival(3), 0);
        x.buyer(31, 0, 11, 0);
        due("p46", x.rival(3), 16);
        due("p46", x.rival(4), 15);
        due("p46 wrong", x.rival(5), NONE);
        due("p46 wrong", x.rival(-1), NONE);
    }

    private static void p47() {
        DawnPerquisite x = fresh();
        due("p47", x.learnt(4, false) * 10 + x.learnt(4, true), 15);
        x.give(2);
        x.day(1);
        due("p47", x.learnt(2, false) * 10 + x.learnt(2, true), 13);
        due("p47", x.learnt(1, false) * 10 + x.learnt(1, true), 16);
        due("p47 wrong", x.learnt(5, true), NONE);
        due("p47 wrong", x.learnt(-1, false), NONE);
        for (int sort = 0; sort < 4; sort++) {
            x.sort(sort, 0, 0);
        }
        x.day(40);
        due("p47 the book alone", x.learnt(4, false), 13);
        due("p47 the book alone", x.learnt(4, true), 15);
    }

    private static void p48() {
        DawnPerquisite x = four();
        int[] many = {2, 2, 2, 0, 0};
        for (int sort = 0; sort < 5; sort++) {
            due("p48 " + sort, x.wanted(sort), many[sort]);
        }
        due("p48 wrong", x.wanted(5), NONE);
        due("p48 wrong", x.wanted(-1), NONE);
    }

    private static void p49() {
        DawnPerquisite x = four();
        due("p49", x.alone(0), 3);
        due("p49 whatever sort", x.alone(1), 32);
        due("p49", x.alone(2), 4032);
        due("p49 none", x.alone(3), 0);
        due("p49 wrong", x.alone(4), NONE);
        due("p49 wrong", x.alone(-1), NONE);
    }

    private static void p50() {
        DawnPerquisite x = fresh();
        due("p50 not in the book", x.since(0), NONE);
        x.day(1);
        due("p50 as it is", x.since(2), 0);
        x.sort(2, 0, 0);
        x.day(7);
        due("p50", x.since(2), 7);
        due("p50 the latest", x.since(x.is(3)), 0);
        x.day(18);
        due("p50", x.since(2), NONE);
        due("p50 wrong", x.since(5), NONE);
        due("p50 wrong", x.since(-1), NONE);
    }

    private static void p51() {
        DawnPerquisite x = four();
        due("p51", x.idle(), 4095 - 31);
        x.give(11);
        due("p51 free", x.idle(), 2047 - 31);
        due("p51 nobody", fresh().idle(), 4095);
    }

    private static void p52() {
        DawnPerquisite x = four();
        due("p52", x.poor(), 0);
        x.sort(0, 1, 60);
        due("p52", x.poor(), 12);
        x.sort(0, 1, 61);
        due("p52 as much will do", x.poor(), 12);
        rule(x, "bids own+1;");
        due("p52 99 at most", x.poor(), 13);
        rule(x, "bids own;");
        due("p52", x.poor(), 0);
    }

    private static void p53() {
        DawnPerquisite x = fresh();
        due("p53", x.room(12), 0);
        x.give(0);
        x.give(4);
        due("p53", x.room(12), NONE);
        due("p53", x.room(3), 1);
        due("p53", x.room(4), 5);
        due("p53", x.room(7), 5);
        due("p53 none", x.room(8), NONE);
        due("p53", x.room(1), 1);
        due("p53 wrong", x.room(0), NONE);
        due("p53 wrong", x.room(13), NONE);
        due("p53 wrong", x.room(-1), NONE);
        due("p53 wrong", x.room(MIN), NONE);
    }

    private static void p54() {
        DawnPerquisite x = four();
        x.sort(0, 1, 60);
        due("p54", x.can(0), true);
        due("p54 another sort", x.can(1), false);
        due("p54 too poor", x.can(3), false);
        due("p54 wrong", x.can(4), false);
        due("p54 wrong", x.can(-1), false);
        x.give(0);
        due("p54 not free", x.can(0), false);
        due("p54 no step", x.about(3), 1);
    }

    private static void p55() {
        DawnPerquisite x = four();
        x.sort(0, 1, 60);
        x.buyer(1, 0, 11, 99);
        x.sell(0);
        x.pass(0, 4);
        x.give(9);
        x.give(8);
        x.turn(4);
        x.day(3);
        int[] many = {1, 2, 1, 3, 1};
        for (int what = 0; what < 5; what++) {
            due("p55 " + what, x.ledger(what), many[what]);
        }
        due("p55 wrong", x.ledger(5), -2);
        due("p55 wrong", x.ledger(-1), -2);
    }

    private static void p56() {
        DawnPerquisite x = four();
        x.day(3);
        due("p56", x.image(), 3);
        x.day(4);
        due("p56 the one before", x.back(), 3);
        x.day(1);
        due("p56", x.image(), 4);
        due("p56 changes nothing", x.about(3), 4);
        x.day(9);
        due("p56 the latest", x.back(), 4);
    }

    private static DawnPerquisite imaged() {
        DawnPerquisite x = four();
        x.sort(0, 3, 60);
        Check.text(x, "bids 7;");
        x.by(0);
        x.value(2, 70);
        x.paid(0, true);
        x.said(0, 7);
        x.sell(0);
        x.day(2);
        x.sell(1);
        x.image();
        return x;
    }

    private static void changed(DawnPerquisite x) {
        x.sort(0, 1, 1);
        x.buyer(1, 1, 1, 1);
        x.said(NONE, 0);
        x.said(1, 50);
        Check.text(x, "bids 8;");
        x.by(1);
        x.value(2, 1);
        x.paid(1, false);
        x.said(1, 7);
        x.day(40);
        x.years(7, 30);
        faulty(x);
    }

    private static void faulty(DawnPerquisite x) {
        Check.text(x, "bids !;");
        x.feed(1, 2, 3, 4, 5);
    }

    private static void p57() {
        DawnPerquisite x = imaged();
        changed(x);
        due("p57", x.back(), 2);
        due("p57 the tape isn't", x.about(6), 20);
        due("p57 the fault isn't", x.fault(0), 1);
        DawnPerquisite same = imaged();
        faulty(same);
        Edges.same("p57 all is so again", x, same);
        DawnPerquisite y = imaged();
        changed(y);
        y.back();
        due("p57 steps", y.undo(), y.about(3));
        due("p57 a text anew", Check.text(y, "bids 9;"), 1);
        y.by(1);
        due("p57 rules", y.of(0, 4), 9);
        y.by(0);
        due("p57 the elder rules", y.of(0, 4), 7);
        due("p57 it stays", y.back(), 2);
        DawnPerquisite again = imaged();
        Edges.same("p57 all is so again", y, again);
        DawnPerquisite z = imaged();
        changed(z);
        z.back();
        z.undo();
        z.undo();
        z.undo();
        due("p57 steps again", z.undo(), NONE + z.about(3));
        due("p57 none sold", z.is(4), 4095);
        saidAgain();
    }

    private static void saidAgain() {
        DawnPerquisite x = four();
        Check.text(x, "bids buyer*9;");
        x.said(1, 9);
        x.image();
        x.said(NONE, 0);
        x.said(2, 18);
        x.said(2, 17);
        due("p57 said otherwise", x.whose(), 0);
        x.back();
        due("p57 who said what", x.whose(), 1);
        due("p57 how many", x.about(5), 1);
    }

    private static void p58() {
        DawnPerquisite x = four();
        Check.text(x, "bids 1;");
        Check.text(x, "bids 2;");
        x.by(1);
        x.give(3);
        x.give(4);
        x.give(5);
        for (int i = 0; i < 4; i++) {
            x.paid(i, true);
        }
        for (int i = 0; i < 5; i++) {
            x.said(0, i);
        }
        Check.tape(x, "123456");
        int[] due = {4, 2, 1, 3, 4, 5, 6};
        for (int what = 0; what < 7; what++) {
            due("p58 " + what, x.about(what), due[what]);
        }
        due("p58 wrong", x.about(7), -2);
        due("p58 wrong", x.about(-1), -2);
    }

    public static void main(String[] args) {
        p01(); p02(); p03(); p04(); p05(); p06(); p07(); p08(); p09(); p10();
        p11(); p12(); p13(); p14(); p15(); p16(); p17(); p18(); p19(); p20();
        p21(); p22(); p23(); p24(); p25(); p26(); p27(); p28(); p29(); p30();
        p31(); p32(); p33(); p34(); p35(); p36(); p37(); p38(); p39(); p40();
        p41(); p42(); p43(); p44(); p45(); p46(); p47(); p48(); p49(); p50();
        p51(); p52(); p53(); p54(); p55(); p56(); p57(); p58();
        Check.report("PromisesTest");
    }
}
