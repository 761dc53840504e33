/** For each promise of the document: ordinary inputs, the edges that it names, and wrong inputs. */
public final class PromiseTest {
    private static final int INVALID = FerryFloor.INVALID_ARGUMENT;
    private static final int ILLEGAL = FerryFloor.ILLEGAL_STATE;
    private static final int FULL = FerryFloor.CAPACITY_EXCEEDED;
    private static final int NONE = FerryFloor.NONE;
    private static final int LOWEST = Integer.MIN_VALUE;
    private static final int HIGHEST = Integer.MAX_VALUE;

    private static int wrong = 0;
    private static int promise = 0;

    private static void due(String call, int got, int want) {
        if (got != want) {
            wrong++;
            System.out.println("promise " + promise + ": " + call + " answered " + got + ", due is " + want);
        }
    }

    public static void main(String[] args) {
        promise = 1; newObject();
        promise = 2; setDrift();
        promise = 3; pass();
        promise = 4; tare();
        promise = 5; board();
        promise = 6; walk();
        promise = 7; swap();
        promise = 8; leave();
        promise = 9; setPrice();
        promise = 10; accuse();
        promise = 11; bill(); billIsCut(); billInTheBook();
        promise = 12; complain();
        promise = 13; undo(); undoRestoresEverything(); refusedCallsRecordNothing();
        promise = 14; count();
        promise = 15; cell();
        promise = 16; walker();
        promise = 17; estimate();
        promise = 18; certainty();
        promise = 19; guess();
        promise = 20; mend();
        promise = 21; bestCell();
        promise = 22; until();
        System.out.println(wrong == 0 ? "all answers are as due" : wrong + " answers are not as due");
        if (wrong != 0) {
            System.exit(1);
        }
    }

    private static void newObject() {
        FerryFloor x = new FerryFloor();
        for (int what = 0; what <= 11; what++) {
            due("count(" + what + ")", x.count(what), what == 8 ? 10 : 0);
        }
        for (int cell = 0; cell < 24; cell++) {
            for (int what = 0; what <= 7; what++) {
                due("cell(" + cell + ", " + what + ")", x.cell(cell, what), what >= 6 ? NONE : 0);
            }
        }
        due("walker(0, 0)", x.walker(0, 0), INVALID);
        due("undo()", x.undo(), ILLEGAL);
        FerryFloor y = new FerryFloor();
        x.board(30, 40, 3);
        x.pass(5);
        due("count(0) of another object", y.count(0), 0);
        due("count(1) of another object", y.count(1), 0);
    }

    private static void setDrift() {
        FerryFloor x = new FerryFloor();
        due("setDrift(-1, 0)", x.setDrift(-1, 0), INVALID);
        due("setDrift(24, 0)", x.setDrift(24, 0), INVALID);
        due("setDrift(0, -4)", x.setDrift(0, -4), INVALID);
        due("setDrift(0, 4)", x.setDrift(0, 4), INVALID);
        due("setDrift(lowest, 0)", x.setDrift(LOWEST, 0), INVALID);
        due("setDrift(highest, 0)", x.setDrift(HIGHEST, 0), INVALID);
        due("setDrift(0, lowest)", x.setDrift(0, LOWEST), INVALID);
        due("setDrift(0, highest)", x.setDrift(0, HIGHEST), INVALID);
        due("count(3)", x.count(3), 0);
        due("setDrift(0, 3)", x.setDrift(0, 3), 0);
        due("setDrift(0, -3)", x.setDrift(0, -3), 3);
        due("setDrift(0, -3) again", x.setDrift(0, -3), -3);
        due("setDrift(23, 1)", x.setDrift(23, 1), 0);
        due("count(3)", x.count(3), 4);
        due("cell(0, 2)", x.cell(0, 2), -3);
        due("cell(23, 2)", x.cell(23, 2), 1);
        due("cell(1, 2)", x.cell(1, 2), 0);
        due("cell(0, 1)", x.cell(0, 1), 0);
    }

    private static void pass() {
        FerryFloor x = new FerryFloor();
        due("pass(0)", x.pass(0), INVALID);
        due("pass(-1)", x.pass(-1), INVALID);
        due("pass(61)", x.pass(61), INVALID);
        due("pass(lowest)", x.pass(LOWEST), INVALID);
        due("pass(highest)", x.pass(HIGHEST), INVALID);
        due("count(0)", x.count(0), 0);
        due("count(3)", x.count(3), 0);
        x.setDrift(4, 2);
        x.setDrift(23, -3);
        due("pass(1)", x.pass(1), 1);
        due("cell(4, 1)", x.cell(4, 1), 2);
        due("pass(60)", x.pass(60), 61);
        due("cell(4, 1)", x.cell(4, 1), 122);
        due("cell(23, 1)", x.cell(23, 1), -183);
        due("cell(0, 1)", x.cell(0, 1), 0);
        x.setDrift(4, -1);
        due("pass(39)", x.pass(39), 100);
        due("cell(4, 1)", x.cell(4, 1), 83);
        for (int minute = 160; minute <= 1960; minute += 60) {
            due("pass(60)", x.pass(60), minute);
        }
        due("pass(41)", x.pass(41), ILLEGAL);
        due("count(0)", x.count(0), 1960);
        due("pass(39)", x.pass(39), 1999);
        due("pass(2)", x.pass(2), ILLEGAL);
        due("pass(1)", x.pass(1), 2000);
        due("pass(1)", x.pass(1), ILLEGAL);
        due("pass(61) at the end", x.pass(61), INVALID);
        due("pass(0) at the end", x.pass(0), INVALID);
        due("count(0)", x.count(0), 2000);
        due("cell(4, 1)", x.cell(4, 1), 83 - 1900);
        due("cell(23, 1)", x.cell(23, 1), -6000);
    }

    private static void tare() {
        FerryFloor x = new FerryFloor();
        due("tare(-1)", x.tare(-1), INVALID);
        due("tare(24)", x.tare(24), INVALID);
        due("tare(lowest)", x.tare(LOWEST), INVALID);
        due("tare(highest)", x.tare(HIGHEST), INVALID);
        x.setDrift(7, 3);
        x.setDrift(5, -2);
        x.pass(10);
        due("tare(5)", x.tare(5), -20);
        due("cell(5, 3)", x.cell(5, 3), -20);
        due("cell(5, 4)", x.cell(5, 4), 10);
        due("cell(4, 4)", x.cell(4, 4), 0);
        x.board(20, 20, 7);
        due("tare of the walker's cell", x.tare(7), ILLEGAL);
        due("tare above", x.tare(1), ILLEGAL);
        due("tare below", x.tare(13), ILLEGAL);
        due("tare left", x.tare(6), ILLEGAL);
        due("tare right", x.tare(8), ILLEGAL);
        due("cell(7, 3)", x.cell(7, 3), 0);
        due("cell(7, 4)", x.cell(7, 4), 0);
        due("tare aslant", x.tare(0), 0);
        due("tare aslant", x.tare(14), 0);
        due("tare two away", x.tare(9), 0);
        due("cell(9, 4)", x.cell(9, 4), 10);
        x.walk(0, 6);
        due("tare across the edge", x.tare(5), -20);
        due("tare(11)", x.tare(11), 0);
        due("tare(7)", x.tare(7), ILLEGAL);
        x.walk(0, 23);
        due("tare across the edge", x.tare(18), 0);
        x.leave(0);
        x.pass(2);
        due("tare(7)", x.tare(7), 36);
        due("cell(7, 4)", x.cell(7, 4), 12);
        due("tare(5)", x.tare(5), -24);
        due("cell(5, 5)", x.cell(5, 5), -24);
    }

    private static void board() {
        FerryFloor x = new FerryFloor();
        due("board(19, 20, 0)", x.board(19, 20, 0), INVALID);
        due("board(151, 20, 0)", x.board(151, 20, 0), INVALID);
        due("board(20, 19, 0)", x.board(20, 19, 0), INVALID);
        due("board(20, 151, 0)", x.board(20, 151, 0), INVALID);
        due("board(20, 20, -1)", x.board(20, 20, -1), INVALID);
        due("board(20, 20, 24)", x.board(20, 20, 24), INVALID);
        due("board(highest..)", x.board(HIGHEST, HIGHEST, HIGHEST), INVALID);
        due("board(lowest..)", x.board(LOWEST, LOWEST, LOWEST), INVALID);
        due("count(1)", x.count(1), 0);
        due("count(3)", x.count(3), 0);
        due("board(20, 150, 0)", x.board(20, 150, 0), 0);
        due("board(150, 20, 23)", x.board(150, 20, 23), 1);
        due("board on a taken cell", x.board(50, 50, 23), ILLEGAL);
        due("board(19, 50, 23)", x.board(19, 50, 23), INVALID);
        due("walker(0, 0)", x.walker(0, 0), 20);
        due("walker(0, 2)", x.walker(0, 2), 150);
        due("walker(0, 1)", x.walker(0, 1), 0);
        due("walker(0, 3)", x.walker(0, 3), 0);
        due("walker(1, 0)", x.walker(1, 0), 150);
        due("walker(1, 2)", x.walker(1, 2), 20);
        due("walker(1, 1)", x.walker(1, 1), 23);
        due("walker(1, 3)", x.walker(1, 3), 23);
        due("cell(23, 6)", x.cell(23, 6), 1);
        due("cell(23, 7)", x.cell(23, 7), 1);
        x.leave(0);
        for (int walker = 2; walker < 8; walker++) {
            due("board(33, 44, " + walker + ")", x.board(33, 44, walker), walker);
        }
        due("a ninth on a taken cell", x.board(50, 50, 23), ILLEGAL);
        due("a ninth", x.board(50, 50, 0), FULL);
        due("a ninth of no weight", x.board(0, 50, 0), INVALID);
        due("count(1)", x.count(1), 8);
        due("count(2)", x.count(2), 7);
        due("undo()", x.undo(), 4);
        due("board(50, 51, 0)", x.board(50, 51, 0), 7);
    }

    private static void walk() {
        FerryFloor x = new FerryFloor();
        due("walk(0, 0) of nobody", x.walk(0, 0), INVALID);
        x.board(80, 80, 0);
        x.board(40, 40, 10);
        due("walk(-1, 1)", x.walk(-1, 1), INVALID);
        due("walk(2, 1)", x.walk(2, 1), INVALID);
        due("walk(0, -1)", x.walk(0, -1), INVALID);
        due("walk(0, 24)", x.walk(0, 24), INVALID);
        due("walk(lowest, 1)", x.walk(LOWEST, 1), INVALID);
        due("walk(0, highest)", x.walk(0, HIGHEST), INVALID);
        due("walk(0, 0)", x.walk(0, 0), ILLEGAL);
        due("walk(0, 10)", x.walk(0, 10), ILLEGAL);
        due("count(3)", x.count(3), 2);
        due("walk(0, 23)", x.walk(0, 23), 0);
        due("walker(0, 1)", x.walker(0, 1), 23);
        due("walker(0, 3)", x.walker(0, 3), 23);
        x.swap(0, 1);
        due("walk(0, 5)", x.walk(0, 5), 1);
        due("walker(0, 1)", x.walker(0, 1), 5);
        due("walker(1, 3)", x.walker(1, 3), 5);
        due("walker(0, 3)", x.walker(0, 3), 23);
        due("walker(1, 1)", x.walker(1, 1), 23);
        due("walk(0, 10)", x.walk(0, 10), 1);
        x.leave(0);
        due("walk(0, 1) ashore", x.walk(0, 1), ILLEGAL);
        due("walk(0, 24) ashore", x.walk(0, 24), INVALID);
        due("walk(1, 10)", x.walk(1, 10), 1);
    }

    private static void swap() {
        FerryFloor x = new FerryFloor();
        x.board(100, 100, 0);
        x.board(60, 60, 7);
        x.board(30, 30, 9);
        due("swap(0, 0)", x.swap(0, 0), INVALID);
        due("swap(-1, 0)", x.swap(-1, 0), INVALID);
        due("swap(0, 3)", x.swap(0, 3), INVALID);
        due("swap(3, 3)", x.swap(3, 3), INVALID);
        due("swap(lowest, highest)", x.swap(LOWEST, HIGHEST), INVALID);
        due("count(3)", x.count(3), 3);
        // Cell 0: 46 for 76, cell 7: 52 for 32; cells 1 and 6 get 7 + 12 for both; 8 and 13 get 12 for 7.
        due("swap(0, 1)", x.swap(0, 1), 60);
        due("count(4)", x.count(4), 60);
        due("walker(0, 1)", x.walker(0, 1), 7);
        due("walker(0, 3)", x.walker(0, 3), 0);
        due("walker(1, 1)", x.walker(1, 1), 0);
        due("swap(1, 0)", x.swap(1, 0), 0);
        due("walker(0, 1)", x.walker(0, 1), 0);
        x.leave(2);
        due("swap(0, 2)", x.swap(0, 2), ILLEGAL);
        due("swap(2, 0)", x.swap(2, 0), ILLEGAL);
        due("swap(2, 2)", x.swap(2, 2), INVALID);
        due("swap(2, 3)", x.swap(2, 3), INVALID);
    }

    private static void leave() {
        FerryFloor x = new FerryFloor();
        due("leave(0) of nobody", x.leave(0), INVALID);
        x.board(100, 100, 0);
        x.board(60, 60, 7);
        x.board(30, 30, 23);
        x.board(25, 25, 4);
        due("leave(-1)", x.leave(-1), INVALID);
        due("leave(4)", x.leave(4), INVALID);
        due("leave(lowest)", x.leave(LOWEST), INVALID);
        due("leave(highest)", x.leave(HIGHEST), INVALID);
        due("leave(3)", x.leave(3), 1);
        due("leave(3) again", x.leave(3), ILLEGAL);
        due("walker(3, 1)", x.walker(3, 1), NONE);
        due("walker(3, 3)", x.walker(3, 3), NONE);
        due("cell(4, 6)", x.cell(4, 6), NONE);
        due("cell(4, 7)", x.cell(4, 7), NONE);
        due("cell(4, 0)", x.cell(4, 0), 0);
        due("cell(4, 5)", x.cell(4, 5), 0);
        x.swap(0, 1);
        x.swap(1, 2);
        // Now 0 stands on 7, 1 on 23, 2 on 0, and the book has 0 on 0, 1 on 7, 2 on 23.
        due("leave(0)", x.leave(0), 0);
        due("walker(1, 3)", x.walker(1, 3), 0);
        due("walker(2, 3)", x.walker(2, 3), 23);
        due("cell(7, 7)", x.cell(7, 7), NONE);
        due("cell(0, 7)", x.cell(0, 7), 1);
        due("leave(1)", x.leave(1), 0);
        due("walker(2, 3)", x.walker(2, 3), 0);
        due("leave(2)", x.leave(2), 1);
        due("count(2)", x.count(2), 0);
        due("count(4)", x.count(4), 0);
    }

    private static void setPrice() {
        FerryFloor x = new FerryFloor();
        due("setPrice(-1)", x.setPrice(-1), INVALID);
        due("setPrice(101)", x.setPrice(101), INVALID);
        due("setPrice(lowest)", x.setPrice(LOWEST), INVALID);
        due("setPrice(highest)", x.setPrice(HIGHEST), INVALID);
        due("count(8)", x.count(8), 10);
        due("count(3)", x.count(3), 0);
        due("setPrice(0)", x.setPrice(0), 10);
        due("setPrice(100)", x.setPrice(100), 0);
        due("setPrice(100) again", x.setPrice(100), 100);
        due("count(8)", x.count(8), 100);
        due("count(3)", x.count(3), 3);
    }

    private static void accuse() {
        FerryFloor x = new FerryFloor();
        x.board(100, 100, 0);
        x.board(60, 60, 7);
        x.board(30, 30, 23);
        due("accuse(1, 1)", x.accuse(1, 1), INVALID);
        due("accuse(-1, 1)", x.accuse(-1, 1), INVALID);
        due("accuse(1, 3)", x.accuse(1, 3), INVALID);
        due("accuse(highest, lowest)", x.accuse(HIGHEST, LOWEST), INVALID);
        due("walker(1, 4)", x.walker(1, 4), 0);
        due("count(3)", x.count(3), 3);
        due("accuse(0, 1)", x.accuse(0, 1), 60);
        due("walker(0, 3)", x.walker(0, 3), 7);
        due("walker(0, 1)", x.walker(0, 1), 0);
        due("walker(1, 3)", x.walker(1, 3), 0);
        due("walker(0, 4)", x.walker(0, 4), 1);
        due("walker(1, 4)", x.walker(1, 4), 1);
        due("walker(2, 4)", x.walker(2, 4), 0);
        due("accuse(1, 0)", x.accuse(1, 0), 0);
        // Cells 0 and 23: 52 each; 1, 6, 17 and 22: 9 each.
        due("accuse(0, 2)", x.accuse(0, 2), 140);
        due("walker(0, 4)", x.walker(0, 4), 3);
        due("walker(1, 4)", x.walker(1, 4), 2);
        due("walker(2, 4)", x.walker(2, 4), 1);
        x.leave(0);
        due("walker(0, 4) ashore", x.walker(0, 4), 3);
        due("accuse(0, 1)", x.accuse(0, 1), ILLEGAL);
        due("accuse(1, 0)", x.accuse(1, 0), ILLEGAL);
        due("accuse(0, 0)", x.accuse(0, 0), INVALID);
        due("accuse(0, 3)", x.accuse(0, 3), INVALID);
        due("count(4)", x.count(4), 0);
    }

    private static void bill() {
        FerryFloor x = new FerryFloor();
        due("bill(0) of nobody", x.bill(0), INVALID);
        x.board(77, 50, 0);
        x.board(60, 60, 10);
        due("bill(-1)", x.bill(-1), INVALID);
        due("bill(2)", x.bill(2), INVALID);
        due("bill(lowest)", x.bill(LOWEST), INVALID);
        due("bill(highest)", x.bill(HIGHEST), INVALID);
        due("walker(0, 5)", x.walker(0, 5), NONE);
        due("walker(0, 6)", x.walker(0, 6), 0);
        x.pass(3);
        // 77 at 85 percent is 65.45.
        due("bill(0)", x.bill(0), 65);
        due("walker(0, 2)", x.walker(0, 2), 65);
        due("walker(0, 0)", x.walker(0, 0), 77);
        due("walker(0, 5)", x.walker(0, 5), 65);
        due("walker(0, 6)", x.walker(0, 6), 650);
        due("bill(0) again", x.bill(0), ILLEGAL);
        due("estimate(0)", x.estimate(0), 77);
        x.setPrice(7);
        due("walker(0, 6)", x.walker(0, 6), 650);
        due("bill(1)", x.bill(1), 51);
        due("walker(1, 6)", x.walker(1, 6), 357);
        due("count(9)", x.count(9), 116);
        due("count(10)", x.count(10), 1007);
        x.board(40, 40, 23);
        x.leave(2);
        due("bill(2) ashore", x.bill(2), ILLEGAL);
        due("walker(2, 5)", x.walker(2, 5), NONE);
        due("undo()", x.undo(), 4);
        due("bill(2)", x.bill(2), 34);
    }

    private static void billIsCut() {
        // Who has gone ashore with a bill leaves less to bill: 100 of 50 are billed already.
        FerryFloor x = new FerryFloor();
        x.board(100, 100, 0);
        due("bill(0)", x.bill(0), 100);
        x.leave(0);
        x.board(50, 60, 10);
        due("bill(1) at least 0", x.bill(1), 0);
        due("walker(1, 5)", x.walker(1, 5), 0);
        due("walker(1, 6)", x.walker(1, 6), 0);
        due("walker(1, 2)", x.walker(1, 2), 60);
        due("bill(1) again", x.bill(1), ILLEGAL);
        due("count(9)", x.count(9), 100);
        x.board(90, 90, 20);
        // 140 stand on the floor and 100 were billed.
        due("bill(2)", x.bill(2), 40);
        due("walker(2, 2)", x.walker(2, 2), 40);
        due("count(9)", x.count(9), 140);

        // What was given back can be billed again.
        FerryFloor y = new FerryFloor();
        y.board(50, 50, 0);
        y.board(120, 120, 10);
        y.swap(0, 1);
        due("bill(0)", y.bill(0), 120);
        y.leave(0);
        y.board(40, 40, 20);
        due("bill(1) before the complaint", y.bill(1), 160 - 120);
        y.undo();
        due("complain(0)", y.complain(0), 700);
        due("bill(1) after the complaint", y.bill(1), 160 - 50);

        // A tare is no weight: of 60 and 90 on the floor 100 were billed.
        FerryFloor z = new FerryFloor();
        z.setDrift(23, 3);
        z.pass(10);
        z.setDrift(23, 0);
        z.tare(23);
        z.tare(0);
        z.tare(1);
        z.tare(6);
        z.board(100, 100, 0);
        due("bill(0)", z.bill(0), 100);
        z.leave(0);
        z.board(60, 60, 0);
        z.board(90, 90, 20);
        due("count(5)", z.count(5), 180);
        due("count(6)", z.count(6), 30);
        due("bill(1)", z.bill(1), 50);
    }

    private static void billInTheBook() {
        FerryFloor x = new FerryFloor();
        // 20 at 95 percent is 19: below 20 it is not entered.
        x.board(20, 33, 0);
        x.board(22, 33, 4);
        x.pass(1);
        due("bill(0)", x.bill(0), 19);
        due("walker(0, 2)", x.walker(0, 2), 33);
        due("bill(1)", x.bill(1), 20);
        due("walker(1, 2)", x.walker(1, 2), 20);

        // All bills together are cut to what the floor has: 100, and then 18 of 24.
        FerryFloor y = new FerryFloor();
        y.board(100, 100, 0);
        due("bill(0)", y.bill(0), 100);
        y.board(30, 30, 10);
        y.setDrift(18, -3);
        y.pass(4);
        // 130 - 12 = 118, and 80 percent of 30 is 24.
        due("bill(1)", y.bill(1), 18);
        due("walker(1, 2)", y.walker(1, 2), 30);
        due("count(9)", y.count(9), 118);
        due("count(10)", y.count(10), 1180);
    }

    private static void complain() {
        FerryFloor x = new FerryFloor();
        due("complain(0) of nobody", x.complain(0), INVALID);
        x.board(50, 50, 0);
        x.board(120, 120, 10);
        x.board(30, 30, 20);
        due("complain(-1)", x.complain(-1), INVALID);
        due("complain(3)", x.complain(3), INVALID);
        due("complain(lowest)", x.complain(LOWEST), INVALID);
        due("complain(highest)", x.complain(HIGHEST), INVALID);
        x.setPrice(4);
        x.swap(0, 1);
        due("estimate(0)", x.estimate(0), 120);
        due("bill(0)", x.bill(0), 120);
        due("bill(1)", x.bill(1), 50);
        due("complain(0) aboard", x.complain(0), ILLEGAL);
        x.setPrice(99);
        x.leave(0);
        due("count(11)", x.count(11), 0);
        due("walker(0, 7)", x.walker(0, 7), 0);
        due("complain(0)", x.complain(0), 280);
        due("complain(0) again", x.complain(0), ILLEGAL);
        due("walker(0, 5)", x.walker(0, 5), 120);
        due("walker(0, 6)", x.walker(0, 6), 480);
        due("walker(0, 7)", x.walker(0, 7), 280);
        due("count(9)", x.count(9), 100);
        due("count(10)", x.count(10), 680);
        due("count(11)", x.count(11), 280);
        x.leave(1);
        due("complain(1)", x.complain(1), 0);
        due("complain(1) again", x.complain(1), ILLEGAL);
        due("count(9)", x.count(9), 100);
        x.leave(2);
        due("complain(2) without a bill", x.complain(2), ILLEGAL);
        due("walker(2, 7)", x.walker(2, 7), 0);
        due("undo()", x.undo(), 4);
        due("undo()", x.undo(), 3);
        due("complain(1) after undo", x.complain(1), 0);
    }

    private static void undo() {
        FerryFloor x = new FerryFloor();
        due("undo()", x.undo(), ILLEGAL);
        for (int price = 1; price <= 7; price++) {
            x.setPrice(price);
            due("count(3)", x.count(3), Math.min(5, price));
        }
        for (int left = 4; left >= 0; left--) {
            due("undo()", x.undo(), left);
            due("count(8)", x.count(8), left + 2);
            due("count(3)", x.count(3), left);
        }
        due("undo()", x.undo(), ILLEGAL);
        due("count(8)", x.count(8), 2);
        x.setPrice(50);
        x.setPrice(60);
        due("undo()", x.undo(), 1);
        x.setPrice(70);
        due("undo()", x.undo(), 1);
        due("count(8)", x.count(8), 50);
        due("undo()", x.undo(), 0);
        due("count(8)", x.count(8), 2);
        due("undo()", x.undo(), ILLEGAL);
    }

    private static void undoRestoresEverything() {
        FerryFloor x = new FerryFloor();
        x.setDrift(1, 2);
        x.setDrift(22, 1);
        x.pass(3);
        x.tare(1);
        x.board(40, 50, 6);
        x.board(90, 80, 8);
        x.board(120, 110, 23);
        x.bill(2);
        x.leave(2);
        String before = lookOf(x);
        for (int action = 0; action < 10; action++) {
            // If the action recorded nothing, undo() would go back to this other price.
            x.setPrice(11);
            x.setPrice(10);
            switch (action) {
                case 0: x.setDrift(1, -3); break;
                case 1: x.pass(20); break;
                case 2: x.tare(22); break;
                case 3: x.board(60, 60, 15); break;
                case 4: x.walk(1, 11); break;
                case 5: x.swap(0, 1); break;
                case 6: x.leave(1); break;
                case 7: x.accuse(0, 1); break;
                case 8: x.bill(1); break;
                default: x.complain(2); break;
            }
            if (lookOf(x).equals(before) && action != 9) {
                due("action " + action + " changes nothing", 1, 0);
            }
            due("undo() of action " + action, x.undo(), 4);
            due("what undo() of action " + action + " left", lookOf(x).equals(before) ? 1 : 0, 1);
        }
    }

    private static String lookOf(FerryFloor x) {
        StringBuilder look = new StringBuilder();
        for (int what = 0; what <= 11; what++) {
            look.append(what == 3 ? 0 : x.count(what)).append(' ');
        }
        for (int cell = 0; cell < 24; cell++) {
            for (int what = 0; what <= 7; what++) {
                look.append(x.cell(cell, what)).append(' ');
            }
        }
        for (int walker = 0; walker < 8; walker++) {
            for (int what = 0; what <= 7; what++) {
                look.append(x.walker(walker, what)).append(' ');
            }
        }
        return look.toString();
    }

    private static void refusedCallsRecordNothing() {
        FerryFloor x = new FerryFloor();
        x.board(40, 50, 6);
        x.board(90, 80, 8);
        x.leave(1);
        String before = lookOf(x);
        x.setDrift(24, 0);
        x.pass(61);
        x.tare(6);
        x.tare(24);
        x.board(50, 50, 6);
        x.board(10, 50, 7);
        x.walk(0, 6);
        x.walk(1, 7);
        x.swap(0, 1);
        x.leave(1);
        x.setPrice(101);
        x.accuse(0, 1);
        x.bill(1);
        x.complain(0);
        x.complain(1);
        due("count(3)", x.count(3), 3);
        due("what refused calls left", lookOf(x).equals(before) ? 1 : 0, 1);
        x.count(0);
        x.cell(0, 0);
        x.walker(0, 0);
        x.estimate(0);
        x.certainty(0);
        x.guess(0);
        x.mend(0);
        x.bestCell();
        x.until(0, 1);
        due("count(3)", x.count(3), 3);
        due("what looking left", lookOf(x).equals(before) ? 1 : 0, 1);
    }

    private static void count() {
        FerryFloor x = new FerryFloor();
        due("count(-1)", x.count(-1), INVALID);
        due("count(12)", x.count(12), INVALID);
        due("count(lowest)", x.count(LOWEST), INVALID);
        due("count(highest)", x.count(HIGHEST), INVALID);
        x.setDrift(23, 3);
        x.setDrift(18, -1);
        x.pass(10);
        x.tare(23);
        x.board(100, 90, 0);
        x.board(50, 50, 3);
        x.board(30, 30, 14);
        x.leave(2);
        x.swap(0, 1);
        x.setPrice(20);
        due("count(0)", x.count(0), 10);
        due("count(1)", x.count(1), 3);
        due("count(2)", x.count(2), 2);
        due("count(3)", x.count(3), 5);
        // Cells 0, 1, 6: 38 6 6 for 68 11 11; 2, 3, 4, 9: 12 64 12 12 for 6 32 6 6; 18: -10.
        due("count(4)", x.count(4), 30 + 5 + 5 + 6 + 32 + 6 + 6 + 10);
        due("count(5)", x.count(5), 150 + 30 - 10);
        due("count(6)", x.count(6), 30);
        due("count(7)", x.count(7), 2);
        due("count(8)", x.count(8), 20);
        // 100 at 50 percent; the readings less the tares are 140.
        due("bill(1)", x.bill(1), 50);
        due("count(9)", x.count(9), 50);
        due("count(10)", x.count(10), 1000);
        x.leave(1);
        due("count(7)", x.count(7), 0);
        due("complain(1)", x.complain(1), 0);
        due("count(11)", x.count(11), 0);
    }

    private static void cell() {
        FerryFloor x = new FerryFloor();
        due("cell(-1, 0)", x.cell(-1, 0), INVALID);
        due("cell(24, 0)", x.cell(24, 0), INVALID);
        due("cell(0, -1)", x.cell(0, -1), INVALID);
        due("cell(0, 8)", x.cell(0, 8), INVALID);
        due("cell(lowest, 0)", x.cell(LOWEST, 0), INVALID);
        due("cell(highest, 0)", x.cell(HIGHEST, 0), INVALID);
        due("cell(0, lowest)", x.cell(0, LOWEST), INVALID);
        due("cell(0, highest)", x.cell(0, HIGHEST), INVALID);
        sharesOf(0, 63, 49, 1, 6);
        sharesOf(5, 63, 49, 4, 11);
        sharesOf(18, 63, 49, 12, 19);
        sharesOf(23, 63, 49, 17, 22);
        sharesOf(2, 63, 42, 1, 3, 8);
        sharesOf(20, 63, 42, 14, 19, 21);
        sharesOf(6, 63, 42, 0, 7, 12);
        sharesOf(11, 63, 42, 5, 10, 17);
        sharesOf(12, 63, 42, 6, 13, 18);
        sharesOf(17, 63, 42, 11, 16, 23);
        sharesOf(14, 63, 35, 8, 13, 15, 20);
        x.setDrift(1, 2);
        x.pass(5);
        x.setDrift(0, -1);
        x.tare(1);
        x.pass(4);
        x.board(100, 80, 0);
        x.board(64, 64, 7);
        x.swap(0, 1);
        due("cell(1, 0)", x.cell(1, 0), 18 + 8 + 12);
        due("cell(1, 1)", x.cell(1, 1), 18);
        due("cell(1, 2)", x.cell(1, 2), 2);
        due("cell(1, 3)", x.cell(1, 3), 10);
        due("cell(1, 4)", x.cell(1, 4), 5);
        due("cell(1, 5)", x.cell(1, 5), 10 + 10 + 8);
        due("cell(1, 6)", x.cell(1, 6), NONE);
        due("cell(1, 7)", x.cell(1, 7), NONE);
        due("cell(0, 0)", x.cell(0, 0), 48 - 4);
        due("cell(0, 1)", x.cell(0, 1), -4);
        due("cell(0, 5)", x.cell(0, 5), 60);
        due("cell(0, 6)", x.cell(0, 6), 1);
        due("cell(0, 7)", x.cell(0, 7), 0);
        due("cell(7, 6)", x.cell(7, 6), 0);
        due("cell(7, 7)", x.cell(7, 7), 1);
    }

    private static void sharesOf(int place, int weight, int left, int... neighbors) {
        FerryFloor x = new FerryFloor();
        x.board(weight, weight + 1, place);
        int[] want = new int[24];
        int[] told = new int[24];
        want[place] = left;
        told[place] = weight + 1 - neighbors.length * ((weight + 1) / 8);
        for (int neighbor : neighbors) {
            want[neighbor] = weight / 8;
            told[neighbor] = (weight + 1) / 8;
        }
        for (int cell = 0; cell < 24; cell++) {
            due("cell(" + cell + ", 0), walker on " + place, x.cell(cell, 0), want[cell]);
            due("cell(" + cell + ", 5), walker on " + place, x.cell(cell, 5), told[cell]);
        }
    }

    private static void walker() {
        FerryFloor x = new FerryFloor();
        due("walker(0, 0) of nobody", x.walker(0, 0), INVALID);
        x.board(100, 80, 0);
        x.board(64, 70, 7);
        due("walker(-1, 0)", x.walker(-1, 0), INVALID);
        due("walker(2, 0)", x.walker(2, 0), INVALID);
        due("walker(0, -1)", x.walker(0, -1), INVALID);
        due("walker(0, 8)", x.walker(0, 8), INVALID);
        due("walker(lowest, 0)", x.walker(LOWEST, 0), INVALID);
        due("walker(highest, 0)", x.walker(HIGHEST, 0), INVALID);
        due("walker(0, lowest)", x.walker(0, LOWEST), INVALID);
        due("walker(0, highest)", x.walker(0, HIGHEST), INVALID);
        int[] want = {64, 7, 70, 7, 0, NONE, 0, 0};
        for (int what = 0; what <= 7; what++) {
            due("walker(1, " + what + ")", x.walker(1, what), want[what]);
        }
        x.swap(0, 1);
        x.accuse(0, 1);
        x.setPrice(3);
        // Cells 0, 1 and 6 have 64 and twice 12 of 100, by the book twice 10 of 80: 68, at 90 percent.
        due("bill(1)", x.bill(1), 61);
        int[] then = {64, 0, 61, 0, 1, 61, 183, 0};
        for (int what = 0; what <= 7; what++) {
            due("walker(1, " + what + ")", x.walker(1, what), then[what]);
        }
        x.leave(1);
        int[] ashore = {64, NONE, NONE, NONE, 1, 61, 183, 0};
        for (int what = 0; what <= 7; what++) {
            due("walker(1, " + what + ")", x.walker(1, what), ashore[what]);
        }
    }

    private static void estimate() {
        FerryFloor x = new FerryFloor();
        due("estimate(0) of nobody", x.estimate(0), INVALID);
        x.board(64, 80, 8);
        due("estimate(-1)", x.estimate(-1), INVALID);
        due("estimate(1)", x.estimate(1), INVALID);
        due("estimate(lowest)", x.estimate(LOWEST), INVALID);
        due("estimate(highest)", x.estimate(HIGHEST), INVALID);
        due("estimate(0)", x.estimate(0), 64);
        x.board(40, 48, 9);
        // On 8 and 9 and around stand 64 and, on 8 and 9, 5 + 20 of 40; the book has 6 + 24 of 48.
        due("estimate(0)", x.estimate(0), 64 + 25 - 30);
        // On 3, 8, 9, 10 and 15 stand 40 and, on 8 and 9, 32 + 8 of 64; the book has 40 of 80: 80 less.
        due("estimate(1)", x.estimate(1), 40 + 40 - 50);
        x.setDrift(14, 3);
        x.setDrift(22, 3);
        x.pass(4);
        due("estimate(0) with a zero", x.estimate(0), 59 + 12);
        x.swap(0, 1);
        // By the book 0 is on 8: there and around stand 40, and 8 + 32 of 64; the book has 30 of 48.
        due("estimate(0) after a swap", x.estimate(0), 40 + 40 - 30 + 12);
        x.leave(0);
        due("estimate(0) ashore", x.estimate(0), ILLEGAL);
        due("estimate(1)", x.estimate(1), 40 + 12);

        FerryFloor y = new FerryFloor();
        y.setDrift(0, 3);
        y.setDrift(6, -3);
        y.pass(10);
        y.tare(0);
        y.tare(6);
        y.board(50, 60, 0);
        due("estimate(0) with tares", y.estimate(0), 50);
        y.setDrift(0, 0);
        y.pass(16);
        due("estimate(0) with a drift", y.estimate(0), 2);
        y.pass(1);
        due("estimate(0) at least 0", y.estimate(0), 0);
    }

    private static void certainty() {
        FerryFloor x = new FerryFloor();
        due("certainty(0) of nobody", x.certainty(0), INVALID);
        x.board(64, 80, 8);
        x.board(40, 48, 23);
        due("certainty(-1)", x.certainty(-1), INVALID);
        due("certainty(2)", x.certainty(2), INVALID);
        due("certainty(lowest)", x.certainty(LOWEST), INVALID);
        due("certainty(highest)", x.certainty(HIGHEST), INVALID);
        due("certainty(0)", x.certainty(0), 100);
        x.pass(3);
        due("certainty(0)", x.certainty(0), 85);
        x.tare(0);
        x.tare(1);
        x.walk(0, 12);
        for (int cell : new int[] {0, 1, 7, 9}) {
            x.tare(cell);
        }
        x.pass(1);
        x.walk(0, 0);
        // Cell 6 still has its first tare.
        due("certainty(0)", x.certainty(0), 80);
        x.walk(0, 20);
        x.tare(6);
        x.walk(0, 0);
        due("certainty(0)", x.certainty(0), 95);
        x.accuse(0, 1);
        due("certainty(0) on 23 by the book", x.certainty(0), 70);
        due("certainty(1) on 0 by the book", x.certainty(1), 85);
        x.pass(14);
        due("certainty(0)", x.certainty(0), 0);
        due("certainty(1)", x.certainty(1), 15);
        x.pass(4);
        due("certainty(0)", x.certainty(0), 0);
        due("certainty(1)", x.certainty(1), 0);
        x.leave(0);
        due("certainty(0) ashore", x.certainty(0), ILLEGAL);

        // The cell on which the walker stands has the earliest tare.
        FerryFloor y = new FerryFloor();
        y.pass(2);
        for (int cell : new int[] {8, 13, 15, 20}) {
            y.tare(cell);
        }
        y.board(50, 50, 14);
        due("certainty(0)", y.certainty(0), 90);
        y.leave(0);
        y.tare(14);
        y.board(50, 50, 14);
        due("certainty(1)", y.certainty(1), 100);
    }

    private static void guess() {
        FerryFloor x = new FerryFloor();
        due("guess(-1)", x.guess(-1), INVALID);
        due("guess(2)", x.guess(2), INVALID);
        due("guess(lowest)", x.guess(LOWEST), INVALID);
        due("guess(highest)", x.guess(HIGHEST), INVALID);
        due("guess(0)", x.guess(0), NONE);
        due("guess(1)", x.guess(1), NONE);
        x.board(100, 100, 0);
        due("guess(0)", x.guess(0), NONE);
        x.board(60, 60, 7);
        x.board(30, 30, 23);
        due("guess(0)", x.guess(0), NONE);
        due("guess(1)", x.guess(1), NONE);
        x.swap(1, 2);
        due("guess(0)", x.guess(0), 12);
        due("guess(1)", x.guess(1), 0);
        due("walker(1, 3)", x.walker(1, 3), 7);
        due("count(4) is not 0", x.count(4) > 0 ? 1 : 0, 1);
        x.leave(1);
        due("guess(0)", x.guess(0), NONE);

        // 50 and 50 told by three whom the book cannot tell apart: the first of several.
        FerryFloor y = new FerryFloor();
        y.board(50, 50, 0);
        y.board(90, 90, 3);
        y.board(50, 50, 20);
        y.board(50, 50, 23);
        y.swap(1, 3);
        due("guess(0)", y.guess(0), 13);
        y.undo();
        y.swap(0, 1);
        due("guess(0)", y.guess(0), 1);
        y.undo();
        y.swap(2, 1);
        due("guess(0)", y.guess(0), 12);
        y.undo();
        due("guess(0) of equal errors", y.guess(0), NONE);

        // Who is ashore has changed places with nobody, though the weight would fit.
        FerryFloor v = new FerryFloor();
        v.board(100, 50, 0);
        v.board(100, 100, 10);
        v.leave(1);
        due("count(4)", v.count(4), 50);
        due("guess(0)", v.guess(0), NONE);
        due("mend(1)", v.mend(1), 50);

        // The two heavy told the same: 0 and 1 both would do for the place of 3, and for that of 2.
        FerryFloor z = new FerryFloor();
        z.board(40, 40, 0);
        z.board(40, 40, 5);
        z.board(120, 120, 18);
        z.board(120, 120, 23);
        z.swap(0, 2);
        z.swap(1, 3);
        // The book may exchange 0 with 2, 0 with 3, 1 with 2 or 1 with 3: each makes one half right.
        int half = z.count(4);
        due("guess(0)", z.guess(0), 2);
        due("guess(1)", z.guess(1), half / 2);
        due("mend(0)", z.mend(0), 2);
    }

    private static void mend() {
        FerryFloor x = new FerryFloor();
        due("mend(-1)", x.mend(-1), INVALID);
        due("mend(2)", x.mend(2), INVALID);
        due("mend(lowest)", x.mend(LOWEST), INVALID);
        due("mend(highest)", x.mend(HIGHEST), INVALID);
        due("mend(0)", x.mend(0), 0);
        due("mend(1)", x.mend(1), 0);
        int[] weights = {30, 45, 60, 75, 90, 105, 120, 135};
        int[] cells = {0, 2, 4, 7, 9, 18, 20, 22};
        for (int walker = 0; walker < 8; walker++) {
            x.board(weights[walker], weights[walker], cells[walker]);
        }
        due("mend(0)", x.mend(0), 0);
        x.swap(0, 7);
        due("mend(0)", x.mend(0), 1);
        due("mend(1)", x.mend(1), 0);
        x.swap(1, 6);
        x.swap(2, 5);
        x.swap(3, 4);
        due("mend(0)", x.mend(0), 4);
        due("mend(1)", x.mend(1), 0);
        int error = x.count(4);
        for (int walker = 0; walker < 8; walker++) {
            due("walker(" + walker + ", 3) after mend", x.walker(walker, 3), cells[walker]);
        }
        due("count(4) after mend", x.count(4), error);

        // The clerk who does what guess() tells comes to what mend() told.
        int exchanges = x.mend(0);
        int then = x.mend(1);
        int entered = 0;
        int pair = x.guess(0);
        while (pair != NONE && entered < 100) {
            int told = x.guess(1);
            due("accuse as guessed", x.accuse(pair / 10, pair % 10), told);
            entered++;
            pair = x.guess(0);
        }
        due("exchanges entered", entered, exchanges);
        due("count(4) then", x.count(4), then);
        due("mend(0) then", x.mend(0), 0);

        // What no exchange explains stays.
        FerryFloor y = new FerryFloor();
        y.board(100, 80, 0);
        due("mend(0)", y.mend(0), 0);
        due("mend(1)", y.mend(1), 20);
    }

    private static void bestCell() {
        FerryFloor x = new FerryFloor();
        due("bestCell()", x.bestCell(), 0);
        x.board(20, 20, 0);
        due("bestCell() beside a walker", x.bestCell(), 1);
        x.pass(1);
        x.tare(23);
        x.tare(22);
        due("bestCell()", x.bestCell(), 1);
        x.tare(17);
        due("bestCell()", x.bestCell(), 23);
        x.pass(1);
        for (int cell : new int[] {8, 2, 14, 7, 9}) {
            x.tare(cell);
        }
        // Cell 8 and all around it at the minute 2, though 23 has those of the minute 1.
        due("bestCell()", x.bestCell(), 8);
        x.board(20, 20, 8);
        due("bestCell() when it is taken", x.bestCell(), 23);
        x.board(20, 20, 23);
        due("bestCell()", x.bestCell(), 1);
        x.leave(1);
        due("bestCell()", x.bestCell(), 8);

        FerryFloor y = new FerryFloor();
        y.pass(1);
        for (int cell = 23; cell >= 0; cell--) {
            y.tare(cell);
        }
        due("bestCell() of equal ones", y.bestCell(), 0);
        y.pass(1);
        y.tare(5);
        y.tare(11);
        y.tare(4);
        due("bestCell()", y.bestCell(), 5);

        // The cell's own tare counts as well as those around it.
        FerryFloor z = new FerryFloor();
        z.pass(1);
        z.tare(17);
        z.tare(22);
        due("bestCell()", z.bestCell(), 0);
        z.tare(23);
        due("bestCell()", z.bestCell(), 23);
    }

    private static void until() {
        FerryFloor x = new FerryFloor();
        due("until(0, 1) of nobody", x.until(0, 1), INVALID);
        x.board(64, 80, 8);
        x.board(64, 80, 23);
        due("until(-1, 1)", x.until(-1, 1), INVALID);
        due("until(2, 1)", x.until(2, 1), INVALID);
        due("until(0, 0)", x.until(0, 0), INVALID);
        due("until(0, 101)", x.until(0, 101), INVALID);
        due("until(lowest, 1)", x.until(LOWEST, 1), INVALID);
        due("until(0, highest)", x.until(0, HIGHEST), INVALID);
        due("until(0, 100)", x.until(0, 100), 1);
        due("until(0, 96)", x.until(0, 96), 1);
        due("until(0, 95)", x.until(0, 95), 2);
        due("until(0, 1)", x.until(0, 1), 20);
        due("until(0, 5)", x.until(0, 5), 20);
        due("until(0, 6)", x.until(0, 6), 19);
        x.pass(2);
        due("until(0, 90)", x.until(0, 90), 1);
        due("until(0, 91)", x.until(0, 91), 0);
        x.accuse(0, 1);
        due("until(0, 50)", x.until(0, 50), 7);
        int minutes = x.until(0, 33);
        x.pass(minutes - 1);
        due("certainty is not less yet", x.certainty(0) >= 33 ? 1 : 0, 1);
        x.pass(1);
        due("certainty is less", x.certainty(0) < 33 ? 1 : 0, 1);
        x.pass(60);
        due("until(0, 1) at 0 percent", x.until(0, 1), 0);
        x.leave(0);
        due("until(0, 1) ashore", x.until(0, 1), ILLEGAL);
        due("until(0, 0) ashore", x.until(0, 0), INVALID);
        // The clerk counts on, also beyond the last minute.
        for (int hour = 0; hour < 32; hour++) {
            x.pass(60);
        }
        for (int cell : new int[] {0, 1, 6}) {
            x.tare(cell);
        }
        x.walk(1, 0);
        due("count(0)", x.count(0), 1992);
        due("until(1, 1)", x.until(1, 1), 18);
    }
}
