/** The document's terms, I: each sentence that names an edge of the farm, of doing or of taking back has its own test. */
public final class EdgeFarmTest {
    public static void main(String[] args) throws Exception {
        Edge edge = new Edge();
        cells(edge);
        moonAndTime(edge);
        beasts(edge);
        silverAndBook(edge);
        stepsAndLight(edge);
        lodgedOutLed(edge);
        pay(edge);
        draws(edge);
        kicks(edge);
        lastHour(edge);
        stepsOfDoing(edge);
        takenBack(edge);
        inWalls(edge);
        edge.end("EdgeFarmTest");
    }

    private static void cells(Edge edge) {
        edge.of("CELLS 0 .. 29").calls("cell(0,2)=1 cell(29,2)=1 cell(-1,2)=0 cell(30,2)=0 ofCell(0,0)=2 ofCell(29,0)=2");
        // the moon's cell and those beside it are lit: corners, an edge to each side, and one amid
        edge.of("six in a row, five rows (CELL 6 * row + column), side by side to the four sides")
                .law("shines if steps<=1 then 1 else 0 end;")
                .calls("lodge(0)=1 lit(1)=67 lodge(5)=1 lit(1)=2096 lodge(24)=1 lit(1)=50593792 lodge(29)=1 lit(1)=813694976")
                .calls("lodge(6)=1 lit(1)=4289 lodge(11)=1 lit(1)=134176 lodge(2)=1 lit(1)=270 lodge(26)=1 lit(1)=235929600")
                .calls("lodge(14)=1 lit(1)=1106176 steps(5,6)=6 steps(6,5)=6 steps(23,24)=6 steps(0,29)=9 steps(24,5)=9");
        edge.of("kind 0 floor, 1 wall, 2 hall, 3 bed (told; at first floor)").forCells(0, 29, "ofCell(?,0)=0")
                .calls("cell(1,2)=1 cell(7,3)=1 cell(6,1)=1 steps(0,13)=3 ofCell(1,0)=2 ofCell(7,0)=3 ofCell(6,0)=1 cell(6,0)=1")
                .calls("ofCell(6,0)=0 cell(7,4)=0 cell(7,-1)=0 ofCell(7,0)=3");
        edge.of("HEIGHT 0 .. 9 (told; at first 5)").forCells(0, 29, "ofCell(?,1)=5").forCells(0, 9, "height(7,?)=1 ofCell(7,1)=?")
                .calls("height(7,-1)=0 height(7,10)=0 ofCell(7,1)=9 ofCell(6,1)=5 ofCell(8,1)=5");
    }

    private static void moonAndTime(Edge edge) {
        edge.of("MOON is out (at first) or LODGED in a CELL that is no wall.").calls("is(3)=-1 cell(4,1)=1 lodge(4)=0 is(3)=-1")
                .calls("cell(4,2)=1 lodge(4)=1 is(3)=4 lodge(0)=1 is(3)=0 lodge(29)=1 is(3)=29 lodge(30)=0 is(3)=29 out()=1 is(3)=-1");
        edge.of("HOUR 0 .. 9999 (at first 0)").calls("is(0)=0 hour(1)=0 is(0)=1").pass(9997)
                .calls("is(0)=9998 hour(2)=-1 is(0)=9998 hour(1)=0 is(0)=9999 hour(1)=-1 is(0)=9999");
        edge.of("PHASE: HOUR by 24, cut, mod 30").calls("is(1)=0 hour(23)=0 is(1)=0 hour(1)=0 is(1)=1 hour(23)=0 is(1)=1").pass(649)
                .calls("is(0)=696 is(1)=29 hour(23)=0 is(0)=719 is(1)=29 hour(1)=0 is(0)=720 is(1)=0 hour(24)=0 is(1)=1");
        edge.of("SIZE: PHASE, but 30 less it from 15 on.").calls("is(2)=0").pass(336).calls("is(1)=14 is(2)=14 hour(23)=0 is(2)=14")
                .calls("hour(1)=0 is(1)=15 is(2)=15 hour(23)=0 is(2)=15 hour(1)=0 is(1)=16 is(2)=14").pass(312)
                .calls("is(1)=29 is(2)=1 hour(24)=0 is(1)=0 is(2)=0 hour(24)=0 is(2)=1");
    }

    private static void beasts(Edge edge) {
        edge.of("BEASTS 0 .. 4 (told one by one)").calls("of(0,0)=-1 beast(9,1)=0 of(1,0)=-1 beast(8,2)=1 beast(7,3)=2 beast(6,4)=3")
                .calls("of(4,0)=-1 beast(5,5)=4 of(4,0)=5 beast(4,6)=-1 about(0)=5 of(5,0)=-1 of(0,0)=9 of(3,1)=4");
        edge.of("at a CELL that is no wall, MOOD 0 .. 9").calls("cell(3,1)=1 beast(3,5)=-1 about(0)=0 beast(4,-1)=-1 beast(4,10)=-1")
                .calls("about(0)=0 beast(4,0)=0 beast(4,9)=1 of(0,1)=0 of(1,1)=9 cell(5,2)=1 beast(5,1)=2 cell(6,3)=1 beast(6,1)=3");
        edge.of("KICKED 0 .. 999 times (at first 0)").law("kicks 10;").calls("beast(0,0)=0 of(0,3)=0").pass(998)
                .calls("of(0,3)=998 hour(1)=1 of(0,3)=999 hour(1)=1 of(0,3)=999 hour(60)=60 of(0,3)=999 book(-1,0)=30");
    }

    private static void silverAndBook(Edge edge) {
        edge.of("SILVER 0 .. 9999 (at first 0).").law("pays 99;").calls("is(4)=0 lodge(0)=1").pass(100)
                .calls("is(4)=9900 hour(1)=0 is(4)=9999 hour(1)=0 is(4)=9999 foretold(9,0,0)=9999");
        edge.of("X: at first 197.").calls("is(5)=197 hour(60)=0 is(5)=197 beast(0,0)=0 is(5)=197 hour(1)=0 is(5)=25682");
        edge.of("BOOK (the latest 30 KICKS)").law("kicks 10;").calls("beast(0,0)=0 book(-1,0)=0 hour(29)=29 book(-1,0)=29 hour(1)=1")
                .calls("book(-1,0)=30 book(0,0)=0 book(29,0)=29 hour(1)=1 book(-1,0)=30 book(0,0)=1 book(29,0)=30 book(30,0)=-2")
                .calls("hour(60)=60 book(-1,0)=30 book(0,0)=61 book(29,0)=90");
        edge.of("HOUR, BEAST, LIGHT there.").law("kicks 10;shines at;").calls("beast(3,0)=0 beast(29,0)=1 hour(1)=2 lodge(8)=1 hour(1)=2")
                .calls("book(0,0)=0 book(0,1)=0 book(0,2)=0 book(1,1)=1 book(1,2)=0 book(2,0)=1 book(2,1)=0 book(2,2)=3 book(3,0)=1")
                .calls("book(3,1)=1 book(3,2)=15 out()=1 book(3,2)=15");
        edge.of("HOUR, BEAST, LIGHT there.").law("kicks 10;shines 15;").pass(9998).calls("lodge(0)=1")
                .calls("beast(0,0)=0 beast(0,0)=1 beast(0,0)=2 beast(0,0)=3 beast(0,0)=4 hour(1)=5 book(4,0)=9998 book(4,1)=4")
                .calls("book(4,2)=15 book(0,0)=9998 book(0,1)=0");
    }

    private static void stepsAndLight(Edge edge) {
        edge.of("the fewest from one to the other side by side through no wall (both no walls); none.")
                .calls("steps(7,7)=0 steps(6,8)=2 cell(7,1)=1 steps(6,8)=4 steps(7,7)=-1 steps(7,8)=-1 steps(8,7)=-1 steps(6,7)=-1")
                .forCells(12, 17, "cell(?,1)=1").calls("steps(0,24)=-1 steps(24,29)=5 steps(5,18)=-1 cell(17,2)=1 steps(0,24)=14");
        edge.of("MOON being LODGED, and there being STEPS from it: what shines says; else 0 (of a wall, too).").law("shines 7;")
                .calls("ofCell(9,2)=0 lodge(3)=1 ofCell(9,2)=7 ofCell(3,2)=7 cell(9,1)=1 ofCell(9,2)=0 cell(23,1)=1 cell(28,1)=1")
                .calls("ofCell(29,2)=0 ofCell(28,2)=0 ofCell(22,2)=7 lodge(29)=1 ofCell(29,2)=7 ofCell(22,2)=0 out()=1 ofCell(29,2)=0");
        edge.of("what shines says").law("shines height+kind;")
                .calls("lodge(0)=1 ofCell(4,2)=5 height(4,0)=1 ofCell(4,2)=0 cell(4,2)=1 ofCell(4,2)=2 cell(4,3)=1")
                .calls("ofCell(4,2)=3 lodge(4)=1 ofCell(4,2)=3 height(4,9)=1 ofCell(4,2)=12 back()=0 lodge(0)=1 ofCell(4,2)=0");
        edge.of("what shines says").law("shines hour;")
                .calls("lodge(0)=1 ofCell(4,2)=0 hour(1)=0 ofCell(4,2)=1 hour(1)=0 ofCell(4,2)=2 undo()=2 ofCell(4,2)=1")
                .calls("foretold(5,0,0)=6 ofCell(4,2)=1").law("shines 9;")
                .calls("ofCell(4,2)=9 by(0)=1 ofCell(4,2)=1 by(-1)=1 ofCell(4,2)=0");
    }

    private static void lodgedOutLed(Edge edge) {
        edge.of("LODGED: in a CELL that is no wall, where it isn't.").calls("cell(1,1)=1 lodge(1)=0 lodge(2)=1 lodge(2)=0 about(3)=1")
                .calls("lodge(3)=1 lodge(2)=1 about(3)=3 cell(8,1)=1 cell(9,1)=1 cell(3,1)=1 lodge(29)=1 is(3)=29");
        edge.of("OUT: it is LODGED, and isn't then.").calls("out()=0 about(3)=0 lodge(0)=1 out()=1 is(3)=-1 out()=0 about(3)=2");
        edge.of("LED: a BEAST to another CELL that is no wall and to which there are STEPS.")
                .calls("beast(0,0)=0 lead(0,0)=0 cell(1,1)=1 lead(0,1)=0 lead(0,2)=1 lead(0,0)=1 cell(6,1)=1 lead(0,2)=0 of(0,0)=0")
                .calls("lead(1,2)=0 about(3)=2 beast(29,0)=1 lead(1,2)=1 lead(1,0)=0 of(1,0)=2");
    }

    private static void pay(Edge edge) {
        edge.of("if MOON is LODGED, SILVER is more by pays (9999 at most).").law("pays 50;").calls("hour(3)=0 is(4)=0 lodge(0)=1 hour(2)=0")
                .calls("is(4)=100 out()=1 hour(1)=0 is(4)=100 lodge(1)=1").pass(197).calls("is(4)=9950 hour(1)=0 is(4)=9999 hour(1)=0")
                .calls("is(4)=9999").law("pays 49;").calls("hour(1)=0 is(4)=9999");
        // paid first: the kick finds a silver piece to take
        edge.of("Then BEASTS by number").law("pays 1;kicks 10;").calls("beast(0,0)=0 lodge(0)=1 hour(1)=1 is(4)=0 hour(1)=1 is(4)=0")
                .law("pays 99;kicks 10;").pass(101).calls("is(4)=9898 hour(1)=1 is(4)=9996 hour(1)=1 is(4)=9998 hour(1)=1 is(4)=9998");
        edge.of("Then BEASTS by number").law("kicks if who=2 then 0 else 10 end;")
                .calls("beast(9,0)=0 beast(8,0)=1 beast(7,5)=2 beast(6,0)=3")
                .calls("hour(1)=3 book(0,1)=0 book(1,1)=1 book(2,1)=3 of(2,1)=4 book(2,0)=0");
    }

    /** Every draw of two hundred and more, and each of the odds, reckoned here anew. */
    private static void draws(Edge edge) {
        Run run = edge.of("a draw by 10 (X mod 10, X being (X * 439 + 317) mod 30559 then)");
        run.calls("beast(0,0)=0");
        long x = 197;
        for (int i = 0; i < 220; i++) {
            x = (x * 439 + 317) % 30559;
            run.calls("hour(1)=0 is(5)=" + x);
        }
        for (int odds = 0; odds <= 10; odds++) {
            Run below = edge.of("below kicks: it KICKS").law("kicks " + odds + ";").calls("beast(0,0)=0");
            x = 197;
            for (int i = 0; i < 60; i++) {
                below.calls("hour(1)=" + (x % 10 < odds ? 1 : 0));
                x = (x * 439 + 317) % 30559;
            }
        }
    }

    private static void kicks(Edge edge) {
        edge.of("MOOD one more (9 at most), KICKED one more, SILVER one less (0 at least), written down").law("kicks 10;")
                .calls("beast(0,7)=0 hour(1)=1 of(0,1)=8 of(0,3)=1 is(4)=0 book(-1,0)=1 hour(1)=1 of(0,1)=9 of(0,3)=2 hour(1)=1 of(0,1)=9")
                .calls("of(0,3)=3 is(4)=0 book(-1,0)=3").law("pays 3;kicks 10;")
                .calls("lodge(0)=1 hour(1)=1 is(4)=2 hour(1)=1 is(4)=4 out()=1")
                .calls("hour(3)=3 is(4)=1 hour(1)=1 is(4)=0 hour(1)=1 is(4)=0");
        edge.of("else MOOD one less (0 at least).").law("kicks 0;pays 1;").calls("beast(0,2)=0 lodge(0)=1 hour(1)=0 of(0,1)=1 hour(1)=0")
                .calls("of(0,1)=0 hour(1)=0 of(0,1)=0 of(0,3)=0 is(4)=3 book(-1,0)=0");
    }

    private static void lastHour(Edge edge) {
        edge.of("HOUR is one more (at 9999 none can pass).").law("kicks 10;").calls("beast(0,4)=0 lodge(3)=1 hour(1)=1 is(0)=1").pass(9998)
                .calls("is(0)=9999 is(4)=0 hour(1)=-1 is(0)=9999 of(0,1)=9 about(3)=30 foretold(1,2,0)=0 years(3,1)=9999 is(0)=9999");
    }

    private static void stepsOfDoing(Edge edge) {
        edge.of("STEPS (of doing): LODGED, OUT, LED, an HOUR (each), YEARS (see V)").calls("beast(0,9)=0 about(3)=0 lodge(1)=1 about(3)=1")
                .calls("out()=1 about(3)=2 lead(0,5)=1 about(3)=3 hour(4)=0 about(3)=7 years(0,40)=" + hoursOfYears() + " about(3)=8")
                .calls("cell(9,2)=1 height(9,2)=1 beast(1,1)=1 work(0,0)=1 dark(0,0)=1 seen(0,0)=1 read(0,0)=1 gain(0,1)=1")
                .calls("image()=" + (hoursOfYears()))
                .text("out;", 0).calls("by(0)=1 about(3)=8");
        edge.of("the latest 30 can be taken back, the latest first")
                .calls("hour(30)=0 about(3)=30 lodge(1)=1 about(3)=30 lodge(2)=1 about(3)=30")
                .calls("undo()=29 is(3)=1 undo()=28 is(3)=-1 is(0)=30 undo()=27 is(0)=29")
                .again(26, "hour(1)=0 undo()=27 undo()=26 hour(1)=0")
                .calls("is(0)=29 about(3)=27");
        Run all = edge.of("the latest 30 can be taken back, the latest first").calls("hour(31)=0");
        for (int left = 29; left >= 0; left--) {
            all.calls("undo()=" + left + " is(0)=" + (left + 1));
        }
        all.calls("undo()=-1 is(0)=1");
    }

    /** How far the hour is after the calls of stepsOfDoing: four hours and those that years(0, 40) lets pass. */
    private static int hoursOfYears() {
        long x = 197;
        int hours = 4;
        for (int i = 0; i < 40; i++) {
            long drawn = x;
            x = (x * 439 + 317) % 30559;
            if (drawn % 5 >= 3) {
                hours++;
                x = (x * 439 + 317) % 30559;
            }
        }
        return hours;
    }

    private static void takenBack(Edge edge) {
        edge.of("MOON, BEASTS, SILVER, HOUR, X, BOOK are as ahead of it").law("kicks 10;pays 5;")
                .calls("beast(3,8)=0 lodge(4)=1 hour(1)=1 is(3)=4 of(0,1)=9 of(0,3)=1 is(4)=4 is(0)=1 is(5)=25682 book(-1,0)=1 lead(0,9)=1")
                .calls("undo()=2 of(0,0)=3 of(0,1)=9 of(0,3)=1 is(4)=4 undo()=1 of(0,1)=8 of(0,3)=0 is(4)=0 is(0)=0 is(5)=197 book(-1,0)=0")
                .calls("is(3)=4 undo()=0 is(3)=-1 lodge(7)=1 out()=1 undo()=1 is(3)=7");
        edge.of("MOON, BEASTS, SILVER, HOUR, X, BOOK are as ahead of it").law("kicks 10;").calls("beast(0,0)=0 hour(31)=31 book(0,0)=1")
                .calls("book(29,0)=30 undo()=29 book(-1,0)=30 book(0,0)=0 book(29,0)=29 undo()=28 book(-1,0)=29 book(28,0)=28")
                .calls("book(29,0)=-2")
                .calls("hour(1)=1 book(-1,0)=30 book(29,0)=29");
        edge.of("BEASTS told since are as told").calls("lodge(0)=1 beast(5,4)=0 hour(1)=0 beast(6,8)=1 lead(1,7)=1 hour(1)=0 lead(0,11)=1")
                .calls("undo()=4 of(0,0)=5 of(1,0)=7 of(0,1)=2 of(1,1)=7 undo()=3 of(0,1)=3 of(1,1)=8 undo()=2 of(1,0)=6 of(1,1)=8")
                .calls("undo()=1 of(0,1)=4 of(1,1)=8 undo()=0 of(0,0)=5 of(0,1)=4 of(1,0)=6 of(1,1)=8 of(1,3)=0 about(0)=2")
                .calls("is(3)=-1 is(0)=0 undo()=-1");
        Run old = edge.of("BEASTS told since are as told").law("kicks 10;")
                .calls("hour(1)=0 beast(5,4)=0 lead(0,6)=1 hour(60)=60 of(0,3)=60");
        for (int left = 29; left >= 0; left--) {
            old.calls("undo()=" + left + " of(0,3)=" + (left + 30) + " of(0,0)=6 of(0,1)=9");
        }
        edge.of("CELLS stay").calls("lodge(0)=1 cell(1,1)=1 cell(2,3)=1 height(3,8)=1 undo()=0 ofCell(1,0)=1 ofCell(2,0)=3 ofCell(3,1)=8");
    }

    private static void inWalls(Edge edge) {
        edge.of("MOON or a BEAST can be in a wall by that alone")
                .calls("lodge(0)=1 cell(0,1)=0 lodge(1)=1 cell(0,1)=1 undo()=1 is(3)=0 ofCell(0,0)=1")
                .calls("lodge(0)=0 cell(0,1)=0 hour(1)=0 is(4)=1 out()=1 lodge(0)=0 undo()=2 is(3)=0 lodge(5)=1 is(3)=5");
        edge.of("MOON or a BEAST can be in a wall by that alone")
                .calls("beast(0,4)=0 cell(0,1)=0 lead(0,1)=1 cell(0,1)=1 undo()=0 of(0,0)=0")
                .calls("ofCell(0,0)=1 ofCell(0,4)=1 cell(0,1)=0 beast(0,4)=-1 hour(1)=0 of(0,1)=3");
        edge.of("it has STEPS to no CELL then, it is LONELY").law("shines 9;kicks light at;pays light 0+bed;")
                .calls("lodge(0)=1 beast(0,4)=0")
                .calls("beast(0,3)=1 is(6)=9 of(0,2)=9 lonely()=0 lodge(1)=1 lead(0,1)=1 lead(1,1)=1 cell(0,1)=1 undo()=3")
                .calls("undo()=2 undo()=1 is(3)=0")
                .calls("of(0,0)=0 of(1,0)=0 steps(0,0)=-1 steps(0,1)=-1 lit(1)=0 ofCell(0,2)=0 ofCell(0,3)=-1 ofCell(1,3)=-1")
                .calls("lead(0,1)=0 lead(0,0)=0")
                .calls("brightest()=-1 of(0,2)=0 is(6)=0 lonely()=3 beast(29,0)=2 lonely()=7 beast(28,0)=3 lonely()=3")
                .calls("cell(0,3)=1 lonely()=0 is(6)=10");
    }
}
