/** The promises 1 to 47: each sentence that names a refused call, a limit or what is answered at it has its own test. */
public final class EdgeCallTest {
    private static final int ALL = 1073741823;
    private static final int[] ODD = {Integer.MIN_VALUE, Integer.MIN_VALUE + 1, -65536, -10000, -256, -100, -32, -30, -3, -2, -1, 0, 1, 2, 3, 4, 5, 6, 7,
        8, 9, 10, 11, 12, 13, 15, 16, 17, 29, 30, 31, 32, 33, 40, 41, 60, 61, 64, 99, 100, 256, 300, 301, 9999, 10000, 65536, 1 << 30, Integer.MAX_VALUE - 1,
        Integer.MAX_VALUE};

    private final Edge edge = new Edge();

    private EdgeCallTest() throws java.io.IOException {
    }

    public static void main(String[] args) throws Exception {
        EdgeCallTest test = new EdgeCallTest();
        test.told();
        test.tape();
        test.texts();
        test.lodgedAndLed();
        test.hours();
        test.playedAndYears();
        test.undo();
        test.beastsAndCells();
        test.now();
        test.bookAndForetold();
        test.waysAndRooms();
        test.lists();
        test.bestAndLit();
        test.seenPlaces();
        test.seatsAndFloods();
        test.gainsAndLease();
        test.lawsAndTime();
        test.beasts();
        test.images();
        test.refusedCallsDoNothing();
        test.edge.everyPromiseHasOne(47);
        test.edge.end("EdgeCallTest");
    }

    /** The same call for every odd number that isn't from low to high: ? stands for it. */
    private static Run others(Run run, String row, int low, int high) {
        for (int odd : ODD) {
            if (odd < low || odd > high) {
                run.calls(row.replace("?", Integer.toString(odd)));
            }
        }
        return run;
    }

    private void told() {
        edge.promise(1, "An empty farm; THE IMAGE is this.")
                .calls("is(0)=0 is(3)=-1 is(4)=0 is(5)=197 about(0)=0 about(1)=0 about(2)=-1 about(3)=0 about(8)=0 rooms(1)=30")
                .calls("cell(3,1)=1 height(4,1)=1 beast(4,1)=0 lodge(5)=1 hour(1)=0 gain(0,5)=1 work(1,1)=1 dark(1,1)=1")
                .calls("seen(1,1)=1 read(1,1)=1").law("pays 3;")
                .calls("back()=0 ofCell(3,0)=0 ofCell(4,1)=5 about(0)=0 is(3)=-1 is(0)=0 about(3)=0 about(4)=0 about(5)=0")
                .calls("about(6)=0 about(7)=0 about(1)=0 about(2)=-1 lease(1,0,-1)=0");
        edge.promise(2, "A CELL told: true.").forCells(0, 29, "cell(?,3)=1 ofCell(?,0)=3 cell(?,0)=1 ofCell(?,0)=0")
                .forCells(0, 3, "cell(7,?)=1 ofCell(7,0)=? cell(7,?)=1");
        Run cell = edge.promise(2, "False for others, and if MOON or a BEAST is there and it would be a wall.");
        others(cell, "cell(?,0)=0", 0, 29);
        others(cell, "cell(?,1)=0", 0, 29);
        others(cell, "cell(9,?)=0 ofCell(9,0)=0", 0, 3);
        edge.promise(2, "False for others, and if MOON or a BEAST is there and it would be a wall.")
                .calls("lodge(7)=1 cell(7,1)=0 cell(7,0)=1 cell(7,2)=1 cell(7,3)=1 cell(8,1)=1")
                .calls("beast(9,0)=0 beast(10,0)=1 cell(9,1)=0 cell(10,1)=0 cell(10,3)=1 ofCell(10,0)=3 ofCell(9,0)=0 out()=1")
                .calls("cell(7,1)=1 lead(1,11)=1 cell(10,1)=1 cell(11,1)=0");
        edge.promise(3, "HEIGHT: true.").forCells(0, 29, "height(?,9)=1 ofCell(?,1)=9")
                .forCells(0, 9, "height(7,?)=1 ofCell(7,1)=?")
                .calls("cell(3,1)=1 height(3,2)=1 ofCell(3,1)=2 lodge(4)=1 height(4,0)=1");
        Run height = edge.promise(3, "False for others.");
        others(height, "height(?,1)=0", 0, 29);
        others(height, "height(9,?)=0 ofCell(9,1)=5", 0, 9);
        edge.promise(4, "A BEAST: its number.").calls("beast(29,9)=0 beast(0,0)=1 lodge(7)=1 beast(7,1)=2 cell(8,3)=1 beast(8,2)=3 beast(29,9)=4")
                .calls("about(0)=5 ofCell(29,4)=17 of(2,0)=7 of(3,1)=2");
        Run beast = edge.promise(4, "NONE for others (at a wall), or if there are 5.").calls("cell(4,1)=1 beast(4,3)=-1");
        others(beast, "beast(?,0)=-1", 0, 29);
        others(beast, "beast(9,?)=-1", 0, 9);
        beast.calls("about(0)=0 beast(0,0)=0 beast(29,9)=1 beast(0,5)=2 beast(1,5)=3 beast(2,5)=4 beast(3,5)=-1 about(0)=5")
                .calls("ofCell(3,4)=0 of(4,0)=2 undo()=-1");
    }

    private void tape() {
        // four times "out;", then blanks with one strange byte among them, which is found where it stands
        edge.promise(5, "Twenty bytes come behind the tape, the highest of a first: how many it has.")
                .calls("feed(1869968443,0,0,0,0)=20 end(4)=4 feed(1869968443,1869968443,1869968443,1869968443,1869968443)=24")
                .calls("text()=0 lodge(3)=1 played(0)=1");
        Run run = edge.promise(5, "the highest of a first");
        for (int i = 0; i < 20; i++) {
            int[] fours = {538976288, 538976288, 538976288, 538976288, 538976288};
            fours[i / 4] ^= (i % 2 == 0 ? 255 : 1) << 24 - 8 * (i % 4);
            run
                    .calls("feed(538976288,538976288,538976288,538976288,538976288)=20 feed(" + fours[0] + "," + fours[1] + "," + fours[2] + "," + fours[3] + "," + fours[4] + ")=40");
            run.calls("text()=-1 fault(0)=1 fault(1)=" + (20 + i));
        }
        Run full = edge.promise(5, "NONE, and none come, if there would be more than 300.");
        for (int bytes = 20; bytes <= 300; bytes += 20) {
            full.calls("feed(538976288,538976288,538976288,538976288,538976288)=" + bytes);
        }
        full.calls("feed(-1,-1,-1,-1,-1)=-1 about(8)=300 text()=0 about(8)=0");
        Run near = edge.promise(5, "NONE, and none come, if there would be more than 300.").tape(" ".repeat(281))
                .calls("feed(-1,-1,-1,-1,-1)=-1 about(8)=281 end(280)=280 feed(538976288,0,0,0,0)=300 end(284)=284");
        near.calls("feed(-1,-1,-1,-1,-1)=-1 about(8)=284 text()=0");
        edge.promise(6, "The tape has its first n bytes alone: n.").tape("out;out;wrong")
                .calls("end(13)=13 end(8)=8 about(8)=8 end(9)=-1 text()=0 lodge(0)=1 played(0)=1 end(0)=0").tape("xyz")
                .calls("end(0)=0 about(8)=0 text()=1");
        edge.promise(6, "The tape has its first n bytes alone: n.").tape("lodge 290;")
                .calls("end(8)=8 text()=-1 fault(0)=1 fault(1)=8").tape("outs;").calls("end(3)=3 text()=-1 fault(0)=1 fault(1)=3")
                .tape("out;x").calls("end(4)=4 text()=0");
        Run end = edge.promise(6, "NONE, and nothing is done, if it has not so many, or n is below 0.")
                .calls("end(1)=-1 end(0)=0").tape("out;");
        others(end, "end(?)=-1 about(8)=4", 0, 4);
        end.calls("text()=0");
    }

    private void texts() {
        edge.promise(7, "The tape (empty then) is a TEXT: its number.").tape("pays 7;")
                .calls("about(8)=7 text()=0 about(8)=0 text()=1 about(8)=0 about(1)=2 by(0)=1 is(6)=7 by(1)=1 is(6)=1");
        edge.promise(7, "NONE: it has a FAULT; or (the tape stays) there are 4.").tape("pays")
                .calls("text()=-1 about(1)=0 about(8)=0 by(0)=0 fault(0)=1 fault(1)=4").text("", 0).text("", 1).text("out", -1)
                .text("", 2).text("pays 3;", 3)
                .tape("pays 4;")
                .calls("text()=-1 about(8)=7 about(1)=4 fault(0)=0 text()=-1 about(8)=7 by(3)=1 is(6)=3 back()=0 about(1)=0")
                .calls("text()=0 by(0)=1 is(6)=4 about(8)=0");
        edge.promise(7, "The tape (empty then) is a TEXT: its number.").again(30, "feed(0,0,0,0,0)=20 text()=-1")
                .text("lodge 1;lodge 2;pays 1+1+1+1;x", -1).text("lodge 1;", 0).calls("played(0)=-1 is(3)=1 by(0)=1 is(6)=1");
        Run worn = edge.promise(7, "The tape (empty then) is a TEXT: its number.");
        for (int i = 0; i < 12; i++) {
            worn.text("out;out;out;shines 1+1+1+1+1+1+1+1+1+1+1+1+1+1+1+1+1;kicks 3;pays 9;pays", -1);
        }
        worn.text("out;".repeat(22) + "pays 7+1+1;hour 1;", 0)
                .calls("by(0)=1 is(6)=9 lodge(3)=1 ofCell(3,2)=0 beast(0,0)=0 of(0,2)=0 played(0)=1");
        edge.promise(8, "0 its FAULT (0 without), 1 its place (NONE without).").text("lodge 30;", -1)
                .calls("fault(0)=2 fault(1)=6").text("out;", 0).calls("fault(0)=0 fault(1)=-1").text("!", -1)
                .calls("fault(0)=1 fault(1)=0");
        edge.promise(8, "Of the latest text that was read").text("", 0).text("", 1).text("", 2).text("!", -1).text("", 3).calls("fault(0)=0")
                .tape("lodge 30;").calls("text()=-1 fault(0)=0 fault(1)=-1 back()=0 text()=-1 fault(0)=2 fault(1)=6 image()=0 fault(0)=2");
        Run fault = edge.promise(8, "NONE for others, and ahead of any.")
                .calls("fault(0)=-1 fault(1)=-1 feed(1,2,3,4,5)=20 fault(0)=-1 end(0)=0 back()=0 fault(0)=-1")
                .text("lodge 30;", -1);
        others(fault, "fault(?)=-1", 0, 1);
        Run by = edge.promise(9, "THE TEXT (NONE: none): true.").calls("by(-1)=1").text("pays 5;", 0).text("pays 6;", 1)
                .calls("by(0)=1 about(2)=0 is(6)=5 by(1)=1 by(1)=1 about(2)=1 is(6)=6 by(-1)=1 about(2)=-1 is(6)=1 about(3)=0");
        by.calls("by(1)=1 text()=2 text()=3 by(3)=1 about(2)=3");
        Run none = edge.promise(9, "False for others.").calls("by(0)=0").text("pays 5;", 0).text("pays 6;", 1).calls("by(1)=1");
        others(none, "by(?)=0 about(2)=1", -1, 1);
    }

    private void lodgedAndLed() {
        edge.promise(10, "LODGED: true.").forCells(0, 29, "lodge(?)=1 is(3)=? ofCell(?,3)=0");
        Run lodge = edge.promise(10, "False, if it can't be, and for others.")
                .calls("cell(9,1)=1 lodge(9)=0 lodge(8)=1 lodge(8)=0 lodge(9)=0");
        others(lodge, "lodge(?)=0", 0, 29);
        lodge.calls("is(3)=8 about(3)=1");
        edge.promise(11, "OUT: true.").calls("lodge(29)=1 out()=1 is(3)=-1 about(3)=2");
        edge.promise(11, "False, if it can't be.").calls("out()=0 about(3)=0 lodge(29)=1 out()=1 out()=0 about(3)=2 undo()=1 out()=1");
        edge.promise(12, "LED: true.").calls("beast(0,0)=0").forCells(1, 29, "lead(0,?)=1 of(0,0)=? ofCell(?,4)=1")
                .calls("about(3)=29 beast(3,0)=1 lead(1,29)=1 ofCell(29,4)=3");
        Run lead = edge.promise(12, "False, if it can't be, and for others.")
                .calls("lead(0,1)=0 beast(0,0)=0 beast(9,0)=1 lead(0,0)=0 cell(3,1)=1 lead(0,3)=0 cell(28,1)=1 cell(23,1)=1")
                .calls("lead(0,29)=0");
        others(lead, "lead(?,5)=0", 0, 1);
        others(lead, "lead(0,?)=0 of(0,0)=0", 1, 29);
        lead.calls("about(3)=0 of(1,0)=9");
    }

    private void hours() {
        edge.promise(13, "HOURS pass (1 .. 60): how many KICKS there were in them.").law("kicks 10;")
                .calls("hour(60)=0 beast(0,0)=0 hour(1)=1 beast(1,0)=1 hour(60)=120 is(0)=121 hour(2)=4 book(-1,0)=30")
                .calls("ledger(0)=15");
        edge.promise(13, "HOURS pass (1 .. 60): how many KICKS there were in them.").law("kicks 5;")
                .calls("beast(0,0)=0 hour(60)=" + kicksOf(60, 5));
        Run hour = edge.promise(13, "NONE for others, or beyond 9999 (nothing is done then).").calls("beast(0,5)=0 lodge(3)=1");
        others(hour, "hour(?)=-1", 1, 60);
        hour.calls("is(0)=0 about(3)=1 of(0,1)=5 is(5)=197 is(4)=0");
        edge.promise(13, "NONE for others, or beyond 9999 (nothing is done then).").pass(9945)
                .calls("beast(0,5)=0 lodge(3)=1 hour(60)=-1 hour(55)=-1 is(0)=9945 is(4)=0 of(0,1)=5 is(5)=197 about(3)=30")
                .calls("undo()=29 is(3)=-1 lodge(3)=1")
                .law("kicks 0;")
                .calls("hour(54)=0 is(0)=9999 is(4)=54 hour(1)=-1 hour(60)=-1 is(0)=9999 is(4)=54 undo()=29 is(0)=9998")
                .calls("hour(2)=-1 is(0)=9998 hour(1)=0 is(0)=9999");
    }

    private static int kicksOf(int hours, int odds) {
        int x = 197;
        int kicks = 0;
        for (int i = 0; i < hours; i++) {
            kicks += x % 10 < odds ? 1 : 0;
            x = (x * 439 + 317) % 30559;
        }
        return kicks;
    }

    private void playedAndYears() {
        edge.promise(14, "NONE: all is done; else the number of the CLAUSE that can't be.").text("lodge 3;out;", 0)
                .text("pays 1;out;", 1).text("", 2).calls("played(0)=-1 about(3)=2 played(1)=1 played(2)=-1 about(3)=2");
        Run played = edge.promise(14, "-2 for others.").calls("played(0)=-2 played(-1)=-2").text("lodge 3;", 0).text("lodge 4;", 1);
        others(played, "played(?)=-2", 0, 1);
        played.calls("is(3)=-1 back()=0 played(0)=-2");
        edge.promise(15, "YEARS: HOUR.")
                .calls("hour(7)=0 years(3,1)=8 years(4,1)=8 is(3)=25 is(0)=8 years(9999,40)=" + (8 + hoursOf(9999, 40)));
        Run years = edge.promise(15, "NONE for others.").calls("beast(0,5)=0");
        others(years, "years(?,3)=-1", 0, 9999);
        others(years, "years(3,?)=-1", 1, 40);
        years.calls("is(0)=0 is(5)=197 about(3)=0 of(0,1)=5");
    }

    private static int hoursOf(int seed, int n) {
        int x = seed * 2 + 197;
        int hours = 0;
        for (int i = 0; i < n; i++) {
            hours += x % 5 > 2 ? 1 : 0;
            x = (x * 439 + 317) % 30559;
        }
        return hours;
    }

    private void undo() {
        edge.promise(16, "The latest STEP is taken back: how many can be yet.")
                .calls("lodge(3)=1 lodge(4)=1 out()=1 undo()=2 is(3)=4 undo()=1 is(3)=3 lodge(9)=1 about(3)=2 undo()=1 is(3)=3")
                .calls("undo()=0 is(3)=-1");
        edge.promise(16, "The latest STEP is taken back: how many can be yet.")
                .calls("hour(60)=0 undo()=29 undo()=28 hour(1)=0 undo()=28 hour(60)=0 undo()=29 is(0)=117");
        edge.promise(16, "NONE: there is none.")
                .calls("undo()=-1 cell(3,1)=1 beast(4,1)=0 undo()=-1 lodge(0)=1 undo()=0 undo()=-1 ofCell(3,0)=1 about(0)=1")
                .calls("lodge(3)=0 undo()=-1 back()=0 undo()=-1");
    }

    private void beastsAndCells() {
        edge.promise(17, "Of a BEAST: 0 its CELL, 1 MOOD, 2 kicks now, 3 how often it KICKED.").law("kicks mood+1;")
                .calls("beast(29,9)=0 beast(0,0)=1 of(0,0)=29 of(0,1)=9 of(0,2)=10 of(0,3)=0 of(1,0)=0 of(1,1)=0 of(1,2)=1")
                .calls("of(1,3)=0")
                .calls("hour(1)=1 of(0,1)=9 of(0,3)=1 of(1,3)=0 of(1,1)=0");
        Run of = edge.promise(17, "NONE for others.").calls("of(0,0)=-1 beast(7,3)=0 beast(8,4)=1");
        for (int what = 0; what <= 3; what++) {
            others(of, "of(?," + what + ")=-1", 0, 1);
        }
        others(of, "of(1,?)=-1", 0, 3);
        edge.promise(18, "Of a CELL: 0 kind, 1 HEIGHT, 2 LIGHT now, 3 STEPS from MOON (NONE: none), 4 BEASTS there (bits).")
                .law("shines 12-steps;")
                .calls("ofCell(29,2)=0 ofCell(29,3)=-1 lodge(0)=1 ofCell(29,2)=3 ofCell(29,3)=9 ofCell(0,3)=0")
                .calls("cell(29,3)=1 height(29,0)=1 ofCell(29,0)=3 ofCell(29,1)=0 ofCell(29,4)=0 beast(29,0)=0 beast(0,0)=1")
                .calls("beast(29,0)=2 beast(0,0)=3 beast(29,0)=4 ofCell(29,4)=21 ofCell(0,4)=10 ofCell(1,4)=0 lead(0,0)=1")
                .calls("ofCell(29,4)=20")
                .calls("cell(9,1)=1 ofCell(9,0)=1 ofCell(9,1)=5 ofCell(9,2)=0 ofCell(9,3)=-1 ofCell(9,4)=0 cell(1,1)=1")
                .calls("cell(6,1)=1 ofCell(29,3)=-1 ofCell(0,3)=0 out()=1 ofCell(0,3)=-1");
        Run ofCell = edge.promise(18, "-2 for others.").calls("lodge(3)=1");
        for (int what = 0; what <= 4; what++) {
            others(ofCell, "ofCell(?," + what + ")=-2", 0, 29);
        }
        others(ofCell, "ofCell(3,?)=-2", 0, 4);
    }

    private void now() {
        edge.promise(19, "0 HOUR, 1 PHASE, 2 SIZE, 3 where MOON is (NONE: out), 4 SILVER, 5 X, 6 pays now.").law("pays 3;")
                .calls("is(0)=0 is(1)=0 is(2)=0 is(3)=-1 is(4)=0 is(5)=197 is(6)=3 lodge(0)=1 is(3)=0 beast(29,1)=0 hour(1)=0")
                .calls("is(4)=3 is(5)=25682").pass(407)
                .calls("is(0)=408 is(1)=17 is(2)=13 is(3)=0 is(6)=3");
        others(edge.promise(19, "-2 for others.").calls("lodge(3)=1"), "is(?)=-2", 0, 6);
    }

    private void bookAndForetold() {
        edge.promise(20, "BOOK: how many (i NONE); the i-th, from the eldest on: 0 HOUR, 1 BEAST, 2 LIGHT there.")
                .law("kicks 10;shines 4;")
                .calls("book(-1,0)=0 beast(0,0)=0 hour(1)=1 lodge(3)=1 beast(9,0)=1 hour(1)=2 book(-1,0)=3 book(-1,1)=3")
                .calls("book(-1,2)=3")
                .calls("book(0,0)=0 book(0,1)=0 book(0,2)=0 book(1,0)=1 book(1,1)=0 book(1,2)=4 book(2,0)=1 book(2,1)=1")
                .calls("book(2,2)=4 hour(14)=28 book(-1,0)=30 book(0,0)=1 book(0,1)=0 book(29,0)=15 book(29,1)=1");
        Run book = edge.promise(20, "-2 if there is none such, and for others.").calls("book(0,0)=-2 book(-2,0)=-2")
                .law("kicks 10;").calls("beast(0,0)=0 hour(3)=3 book(3,0)=-2 book(2,0)=2");
        others(book, "book(?,0)=-2", -1, 2);
        others(book, "book(2,?)=-2", 0, 2);
        edge.promise(21, "0 SILVER, 1 MOOD of a BEAST, 2 KICKS in all of these HOURS.").law("kicks who*10;pays 3;")
                .calls("beast(0,5)=0 beast(0,5)=1 lodge(3)=1 foretold(1,0,0)=2 foretold(1,1,0)=4 foretold(1,1,1)=6")
                .calls("foretold(1,2,0)=1 foretold(60,0,0)=120")
                .calls("foretold(60,1,0)=0 foretold(60,1,1)=9 foretold(60,2,0)=60 foretold(5,2,1)=5");
        Run foretold = edge.promise(21, "NONE for others.").calls("foretold(1,1,0)=-1 beast(0,5)=0 beast(0,5)=1");
        for (int what = 0; what <= 2; what++) {
            others(foretold, "foretold(?," + what + ",0)=-1", 1, 60);
        }
        others(foretold, "foretold(1,?,0)=-1", 0, 2);
        others(foretold, "foretold(1,1,?)=-1", 0, 1);
    }

    private void waysAndRooms() {
        edge.promise(22, "STEPS.").calls("steps(0,0)=0 steps(29,29)=0 steps(0,29)=9 steps(29,0)=9 steps(0,5)=5 steps(0,24)=4 steps(5,6)=6");
        edge.promise(22, "NONE: none, and for others.")
                .calls("cell(1,1)=1 cell(6,1)=1 steps(0,7)=-1 steps(7,0)=-1 steps(0,1)=-1 steps(1,0)=-1 steps(1,1)=-1")
                .calls("steps(0,0)=0 steps(7,29)=7");
        Run steps = edge.promise(22, "NONE: none, and for others.");
        others(steps, "steps(?,3)=-1", 0, 29);
        others(steps, "steps(3,?)=-1", 0, 29);
        others(steps, "steps(?,?)=-1", 0, 29);
        edge.promise(23, "the i-th CELL behind the first.")
                .calls("way(0,1,0)=1 way(0,1,1)=-2 way(29,0,0)=23 way(29,0,8)=0 way(29,0,7)=1 way(29,0,9)=-2 way(29,0,-1)=-2");
        Run way = edge.promise(23, "-2: none, there is none such, and for others.").calls("way(3,3,0)=-2 way(3,3,-1)=-2");
        others(way, "way(?,3,0)=-2", 0, 29);
        others(way, "way(3,?,0)=-2", 0, 29);
        others(way, "way(?,?,0)=-2", 0, 29);
        others(way, "way(3,8,?)=-2", 0, 1);
        way.calls("way(3,8,0)=2 way(3,8,1)=8 cell(1,1)=1 cell(6,1)=1 way(0,8,0)=-2 way(8,0,0)=-2 way(1,8,0)=-2 way(8,1,0)=-2");
        edge.promise(24, "0 how many, 1 the greatest number of CELLS of one.")
                .calls("cell(1,1)=1 cell(6,1)=1 rooms(0)=2 rooms(1)=27 cell(0,1)=1 rooms(0)=1");
        others(edge.promise(24, "NONE for others."), "rooms(?)=-1", 0, 1);
        edge.promise(25, "THE ROOM of a CELL (bits).").calls("cell(1,1)=1 cell(6,1)=1 room(0)=1 room(7)=" + (ALL - 67) + " cell(4,1)=1")
                .calls("cell(11,1)=1 room(5)=32 room(29)=" + (ALL - 67 - 16 - 32 - 2048) + " cell(6,3)=1 room(0)=" + (ALL - 2 - 16 - 32 - 2048));
        Run room = edge.promise(25, "NONE for others (a wall).")
                .calls("room(0)=" + ALL + " room(29)=" + ALL + " cell(0,1)=1 room(0)=-1 room(29)=" + (ALL - 1));
        others(room, "room(?)=-1", 0, 29);
    }

    private void lists() {
        list(26, "WORK: how many there are (c NONE: none any more).", "-2 for others, or if there are 6.", "work", 6, 4);
        list(27, "DARK: likewise.", "likewise", "dark", 6, 5);
        list(30, "SEEN: how many there are (c NONE: none any more).", "-2 for others, or if there are 8.", "seen", 8, 6);
        list(38, "READ: how many there are (c NONE: none any more).", "-2 for others, or if there are 8.", "read", 8, 7);
    }

    private void list(int promise, String told, String refused, String name, int most, int about) {
        Run run = edge.promise(promise, told).calls(name + "(-1,0)=0 about(" + about + ")=0");
        for (int i = 1; i <= most; i++) {
            run.calls(name + "(" + (i % 2 * 29) + "," + (i / 2 % 2 * 15) + ")=" + i + " about(" + about + ")=" + i);
        }
        run
                .calls(name + "(-1,0)=0 about(" + about + ")=0 " + name + "(3,3)=1 " + name + "(3,3)=2 " + name + "(-1,15)=0 about(" + about + ")=0 " + name + "(3,3)=1");
        Run others = edge.promise(promise, refused);
        others(others, name + "(?,5)=-2", -1, 29);
        others(others, name + "(5,?)=-2", 0, 15);
        others.calls("about(" + about + ")=0");
        Run full = edge.promise(promise, refused);
        for (int i = 1; i <= most; i++) {
            full.calls(name + "(5,5)=" + i);
        }
        full
                .calls(name + "(5,5)=-2 " + name + "(0,0)=-2 about(" + about + ")=" + most + " " + name + "(30,0)=-2 " + name + "(-1,0)=0 " + name + "(5,5)=1");
    }

    private void bestAndLit() {
        edge.promise(28, "the CELL (light false), LIGHT of all together (light true).")
                .law("shines if steps=0 then 15 else 1 end;")
                .calls("best(false)=0 best(true)=44 work(29,2)=1 best(false)=29 best(true)=44");
        edge.promise(28, "NONE: none.")
                .calls("work(0,1)=1 best(false)=-1 best(true)=-1 work(-1,0)=0 best(false)=0 best(true)=0 dark(0,0)=1")
                .calls("best(false)=0 hour(24)=0 best(false)=1 best(true)=1");
        edge.promise(29, "LIT (bits).").law("shines at-14;").calls("lodge(3)=1 lit(15)=536870912 lit(14)=805306368 lit(1)=" + (ALL - 32767));
        Run lit = edge.promise(29, "NONE for others (0 .. 15).").law("shines 15;")
                .calls("lit(0)=" + ALL + " lodge(3)=1 lit(0)=" + ALL + " lit(15)=" + ALL);
        others(lit, "lit(?)=-1", 0, 15);
        edge.promise(41, "BRIGHTEST.").law("shines at/7;").calls("lodge(3)=1 brightest()=28 cell(28,1)=1 brightest()=29 cell(29,1)=1 brightest()=21");
        edge.promise(41, "NONE: none.").calls("brightest()=-1 lodge(4)=1 brightest()=-1 hour(24)=0 brightest()=4 out()=1 brightest()=-1");
    }

    private void seenPlaces() {
        edge.promise(31, "0 how many, 1 CELLS (bits), 2 SIZES (bits).")
                .calls("fits(0)=480 fits(1)=" + ALL + " fits(2)=65535 seen(29,15)=1 fits(0)=1 fits(1)=536870912 fits(2)=32768 seen(29,14)=2 fits(0)=0 fits(1)=0 fits(2)=0");
        others(edge.promise(31, "NONE for others."), "fits(?)=-1", 0, 2);
        edge.promise(32, "WHAT WOULD TELL.").law("shines if at=11 then size else 3 end;").calls("ask()=11 seen(11,4)=1 ask()=0 seen(-1,0)=0 ask()=11");
        edge.promise(32, "NONE: none.").calls("ask()=0 seen(3,1)=1 ask()=18 seen(3,2)=2 ask()=-1 seen(-1,0)=0 ask()=0");
    }

    private void seatsAndFloods() {
        edge.promise(33, "SEATS: how many at most (ways false), in how many ways (ways true).").law("shines if at<4 then 9 else 0 end;")
                .calls("lodge(9)=1 seats(9,false)=2 seats(9,true)=3 seats(10,false)=0 seats(10,true)=1 seats(0,false)=15 seats(0,true)=2");
        Run seats = edge.promise(33, "NONE for others (0 .. 15).").law("shines 15;")
                .calls("lodge(3)=1 seats(0,false)=15 seats(15,false)=15 seats(15,true)=2");
        others(seats, "seats(?,false)=-1 seats(?,true)=-1", 0, 15);
        edge.promise(34, "FLOOD (bits).").calls("height(0,0)=1 height(29,8)=1 height(14,0)=1 flood(1)=1 flood(6)=536870911 flood(8)=536870911 flood(9)=" + ALL);
        Run flood = edge.promise(34, "NONE for others (0 .. 9).").calls("flood(0)=0 flood(9)=" + ALL);
        others(flood, "flood(?)=-1", 0, 9);
        edge.promise(35, "WET.").calls("height(5,8)=1 wet(5)=9 height(5,4)=1 wet(5)=5 height(10,0)=1 wet(10)=6")
                .calls("height(4,4)=1 wet(10)=5 wet(9)=6 height(4,0)=1 wet(10)=1 wet(4)=1");
        Run wet = edge.promise(35, "NONE: never, and for others.")
                .calls("height(3,9)=1 wet(3)=-1 wet(4)=6 height(4,0)=1 wet(4)=1 height(29,8)=1 wet(29)=9");
        others(wet, "wet(?)=-1", 0, 29);
    }

    private void gainsAndLease() {
        edge.promise(36, "GAIN: true.")
                .forCells(0, 11, "gain(?,99)=1 lease(1,0,-1)=99 lease(1,0,?)=1 gain(?,-99)=1 lease(1,0,-1)=0 lease(1,0,?)=0");
        Run gain = edge.promise(36, "False for others.");
        others(gain, "gain(?,5)=0", 0, 11);
        others(gain, "gain(5,?)=0", -99, 99);
        gain.calls("lease(12,0,-1)=0");
        edge.promise(37, "GAINS together (i NONE), whether month i is in it (1, 0).")
                .calls("gain(0,3)=1 gain(11,4)=1 gain(5,-1)=1 lease(12,0,-1)=7 lease(12,0,0)=1 lease(12,0,11)=1")
                .calls("lease(12,0,5)=0 lease(12,0,4)=0 lease(1,0,-1)=4 lease(1,0,0)=0 lease(0,0,-1)=0 lease(0,0,11)=0")
                .calls("lease(12,11,-1)=4");
        Run lease = edge.promise(37, "-10000 for others.");
        others(lease, "lease(?,0,-1)=-10000", 0, 12);
        others(lease, "lease(1,?,-1)=-10000", 0, 11);
        others(lease, "lease(1,0,?)=-10000", -1, 11);
    }

    private void lawsAndTime() {
        edge.promise(39, "WHOSE LAW (bits).").calls("whose()=0").text("shines 1;", 0).calls("whose()=1").text("shines 2;", 1)
                .text("shines 3;", 2).text("shines 3;", 3)
                .calls("whose()=15 lodge(0)=1 read(0,3)=1 whose()=12 read(1,1)=2 whose()=0");
        edge.promise(40, "TILL.").pass(359).calls("till(14)=0 till(15)=1 till(13)=49 till(0)=361 hour(1)=0 till(15)=0 till(14)=24");
        others(edge.promise(40, "NONE for others."), "till(?)=-1", 0, 15).calls("till(0)=0 till(15)=360");
    }

    private void beasts() {
        edge.promise(42, "WILDEST.").calls("beast(0,3)=0 beast(1,9)=1 beast(2,9)=2 wildest()=1 hour(9)=0 wildest()=0");
        edge.promise(42, "NONE: none.").calls("wildest()=-1 beast(0,0)=0 wildest()=0 back()=0 wildest()=-1");
        edge.promise(43, "LONELY (bits).").calls("lonely()=0").forCells(0, 4, "beast(?,0)=?").calls("lonely()=0 cell(6,1)=1")
                .forCells(7, 11, "cell(?,1)=1")
                .calls("lead(4,5)=1 cell(4,1)=1 lonely()=16 lead(3,2)=1 lead(1,2)=1 cell(1,1)=1 cell(3,1)=1 lonely()=17");
        edge.promise(44, "BY THE BOOK.").law("kicks who*10;").calls("beast(0,0)=0 beast(0,0)=1 beast(0,0)=2 hour(16)=32 ledger(-1)=30 ledger(0)=0")
                .calls("ledger(1)=15 ledger(2)=15 of(1,3)=16 back()=0 ledger(-1)=0 ledger(0)=-2");
        Run ledger = edge.promise(44, "-2 for others.")
                .calls("ledger(-1)=0 ledger(0)=-2 beast(0,0)=0 beast(0,0)=1 ledger(0)=0 ledger(1)=0");
        others(ledger, "ledger(?)=-2", -1, 1);
    }

    private void images() {
        edge.promise(45, "THE IMAGE is as all is now: HOUR.")
                .calls("image()=0 hour(5)=0 image()=5 hour(5)=0 back()=5 is(0)=5 hour(1)=0 image()=6 undo()=5 is(0)=5 back()=6");
        edge.promise(46, "BACK to THE IMAGE (it stays): HOUR.")
                .calls("hour(5)=0 image()=5 lodge(3)=1 back()=5 is(3)=-1 hour(9)=0 back()=5 back()=5 is(0)=5 lodge(4)=1")
                .calls("hour(1)=0 back()=5 is(3)=-1 is(4)=0");
        edge.promise(47, "0 BEASTS, 1 TEXTS, 2 THE TEXT (NONE), 3 STEPS that can be taken back, 4 WORK, 5 DARK, 6 SEEN, 7 READ, 8 bytes of the tape.")
                .calls("beast(0,0)=0 beast(0,0)=1 beast(0,0)=2 about(0)=3").text("", 0).text("", 1)
                .calls("about(1)=2 about(2)=-1 by(1)=1 about(2)=1")
                .calls("hour(7)=0 about(3)=7 work(0,0)=1 about(4)=1 dark(0,0)=1 dark(0,0)=2 about(5)=2 seen(0,0)=1 seen(0,0)=2")
                .calls("seen(0,0)=3 about(6)=3 read(0,0)=1 read(0,0)=2 read(0,0)=3 read(0,0)=4 about(7)=4 feed(0,0,0,0,0)=20")
                .calls("end(5)=5 about(8)=5");
        others(edge.promise(47, "-2 for others."), "about(?)=-2", 0, 8);
    }

    /** Every kind of call that is refused, of a farm where something is of each kind. */
    private void refusedCallsDoNothing() {
        Run run = edge.promise(13, "(nothing is done then)").law("shines 9-steps;kicks 10;pays 7;").text("lodge 3;", 1)
                .text("", 2).text("", 3)
                .calls("beast(0,1)=0 beast(29,9)=1 beast(1,1)=2 beast(2,2)=3 beast(3,3)=4 cell(7,1)=1 lodge(3)=1 hour(2)=10");
        run.forCells(1, 6, "work(0,0)=? dark(0,15)=?").forCells(1, 8, "seen(0,6)=? read(0,6)=?").calls("gain(3,3)=1 image()=2")
                .tape("out;");
        String state = run.state();
        run.calls("cell(3,1)=0 cell(29,1)=0 cell(30,0)=0 cell(0,4)=0 height(0,10)=0 height(30,0)=0 beast(5,5)=-1")
                .calls("end(5)=-1 end(-1)=-1 text()=-1 by(4)=0 by(-2)=0 lodge(3)=0 lodge(7)=0 lodge(30)=0 lead(0,0)=0")
                .calls("lead(0,7)=0 lead(5,0)=0 lead(0,30)=0");
        run.calls("hour(0)=-1 hour(61)=-1 played(4)=-2 played(-1)=-2 played(1)=0 years(-1,1)=-1 years(0,0)=-1")
                .calls("years(0,41)=-1 years(10000,1)=-1 work(0,0)=-2 dark(0,0)=-2 seen(0,0)=-2 read(0,0)=-2 gain(12,0)=0")
                .calls("gain(3,100)=0");
        run.stateIs(state).calls("out()=1").tape("out;").calls("out()=0");
    }
}
