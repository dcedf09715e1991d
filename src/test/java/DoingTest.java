/** Promises 10 to 17, 19 to 21, 42 and 44 to 47: what is done, taken back, written down, foretold and kept. */
public final class DoingTest {
    private static final int MIN = Integer.MIN_VALUE;
    private static final int MAX = Integer.MAX_VALUE;

    public static void main(String[] args) {
        Check check = new Check();
        lodging(check);
        leading(check);
        hours(check);
        bounds(check);
        played(check);
        years(check);
        undo(check);
        undoAndTold(check);
        ofAndIs(check);
        book(check);
        foretold(check);
        wildest(check);
        images(check);
        about(check);
        check.end("DoingTest");
    }

    private static void lodging(Check check) {
        new Run(check, "P10 lodge").calls("lodge(-1)=0 lodge(30)=0 lodge(" + MIN + ")=0 lodge(" + MAX + ")=0 about(3)=0")
                .calls("lodge(0)=1 is(3)=0 lodge(0)=0 about(3)=1 lodge(29)=1 is(3)=29 cell(5,1)=1 lodge(5)=0 is(3)=29")
                .calls("about(3)=2 cell(28,1)=1 cell(23,1)=1 lodge(0)=1 beast(7,0)=0 lodge(7)=1");
        new Run(check, "P11 out").calls("out()=0 about(3)=0 lodge(4)=1 out()=1 is(3)=-1 out()=0 about(3)=2 lodge(4)=1 is(3)=4");
    }

    private static void leading(Check check) {
        new Run(check, "P12 lead").calls("lead(0,3)=0 beast(0,4)=0 lead(0,0)=0 lead(1,3)=0 lead(-1,3)=0 lead(0,30)=0")
                .calls("lead(0,-1)=0 lead(" + MIN + ",3)=0 lead(" + MAX + ",3)=0 lead(0," + MAX + ")=0 about(3)=0 lead(0,3)=1")
                .calls("of(0,0)=3 of(0,1)=4 about(3)=1 cell(1,1)=1 lead(0,1)=0 cell(6,1)=1 lead(0,0)=0 cell(6,0)=1 lead(0,0)=1")
                .calls("is(0)=0 is(5)=197 beast(29,0)=1 lead(1,0)=1 ofCell(0,4)=3");
    }

    private static void hours(Check check) {
        new Run(check, "P13 hour").calls("hour(0)=-1 hour(-1)=-1 hour(61)=-1 hour(" + MIN + ")=-1 hour(" + MAX + ")=-1")
                .calls("is(0)=0 hour(60)=0 is(0)=60 about(3)=30 hour(1)=0 is(0)=61");
        // draws from 197 on: 7, 2, 3, 0, 5, 2
        new Run(check, "P13 draws").law("kicks 5;").calls("beast(0,3)=0 beast(0,9)=1 hour(1)=1 of(0,1)=2 of(1,1)=9")
                .calls("of(0,3)=0 of(1,3)=1 is(5)=29003 hour(1)=2 of(0,1)=3 of(0,3)=1 of(1,3)=2 is(5)=18835 hour(1)=1")
                .calls("of(0,1)=2 of(0,3)=1 of(1,3)=3 is(5)=27582");
        new Run(check, "P13 below").law("kicks 7;").calls("beast(0,3)=0 hour(1)=0").law("kicks 8;").calls("back()=0")
                .law("kicks 8;").calls("beast(0,3)=0 hour(1)=1");
        new Run(check, "P13 silver").law("pays 2;kicks 10;").calls("beast(0,0)=0 beast(0,0)=1 beast(0,0)=2 hour(1)=3")
                .calls("is(4)=0 lodge(0)=1 hour(1)=3 is(4)=0 out()=1 hour(1)=3 is(4)=0 by(-1)=1 lodge(1)=1 hour(5)=0 is(4)=5");
    }

    private static void bounds(Check check) {
        Run late = new Run(check, "P13 at 9999").again(166, "hour(60)=0").calls("is(0)=9960 hour(40)=-1 is(0)=9960 hour(39)=0");
        late.calls("is(0)=9999 hour(1)=-1 is(0)=9999 is(1)=26 is(2)=4 about(3)=30 foretold(60,0,0)=0 foretold(1,2,0)=0");
        late.calls("lodge(3)=1 foretold(60,0,0)=0 years(0,40)=9999 till(4)=0 till(3)=9 till(5)=201 till(15)=441");
        late.text("out;hour 1;", 0).calls("lodge(9)=1 played(0)=1 is(3)=-1 undo()=29 is(3)=9");
        Run mood = new Run(check, "P13 mood and kicked").law("kicks 10;").calls("beast(0,8)=0").again(16, "hour(60)=60");
        mood.calls("of(0,1)=9 of(0,3)=960 hour(39)=39 of(0,3)=999 hour(5)=5 of(0,3)=999 by(-1)=1 hour(3)=0 of(0,1)=6");
        mood.calls("hour(9)=0 of(0,1)=0 of(0,3)=999");
    }

    private static void played(Check check) {
        new Run(check, "P14 played").calls("played(0)=-2 played(-1)=-2").text("", 0).calls("played(0)=-1 played(1)=-2")
                .calls("played(" + MIN + ")=-2 played(" + MAX + ")=-2 about(3)=0")
                .text("pays 9;cell 7 kind 3;height 2 of 4;beast 8 mood 6;lodge 7;hour 3;lead 0 to 2;out;shines 1;", 1)
                .calls("played(1)=-1 ofCell(7,0)=3 ofCell(4,1)=2 of(0,0)=2 of(0,1)=3 is(0)=3 is(3)=-1 is(4)=3 about(3)=6")
                .calls("about(2)=-1 is(6)=1");
        new Run(check, "P14 what can't be").text("pays 1;lodge 3;cell 3 kind 1;lodge 4;", 0).calls("played(0)=2 is(3)=3")
                .calls("played(0)=1 about(3)=1").text("lead 0 to 4;", 1).calls("played(1)=0").text("out;out;out;", 2)
                .calls("played(2)=1 is(3)=-1 about(3)=2").text("cell 9 kind 1;beast 9 mood 1;", 3).calls("played(3)=1 about(0)=0");
        Run late = new Run(check, "P14 hours that can pass").again(166, "hour(60)=0").text("out;hour 60;out;", 0);
        late.calls("lodge(1)=1 played(0)=1 is(0)=9999 is(3)=-1 about(3)=30 undo()=29 is(0)=9998");
        new Run(check, "P14 hours are steps").text("hour 5;", 0).calls("played(0)=-1 about(3)=5 undo()=4 is(0)=4");
        new Run(check, "P14 beasts are five").text("beast 0 mood 1;beast 0 mood 1;beast 0 mood 1;", 0).calls("played(0)=-1")
                .calls("played(0)=2 about(0)=5");
    }

    private static void years(Check check) {
        new Run(check, "P15 years").calls("years(-1,1)=-1 years(10000,1)=-1 years(0,0)=-1 years(0,41)=-1 about(3)=0")
                .calls("years(" + MIN + ",1)=-1 years(0," + MAX + ")=-1 is(5)=197 years(9999,1)=0 is(5)=3812")
                .calls("years(0,1)=0 is(5)=25682 about(3)=2 undo()=1 is(5)=3812 undo()=0 is(5)=197");
        // x is 20195 ahead of 3812: lodged in 20195 mod 30; x 3812 mod 5 is 2, and mod 4 is 0: out
        new Run(check, "P15 lodged and out").calls("years(9999,1)=0 is(3)=5 years(9999,2)=0 is(3)=-1 undo()=1 is(3)=5");
        // seed 2 begins with 201: mod 5 is 1: beast 0 to cell 40 mod 30; seed 3 with 203: an hour
        new Run(check, "P15 led").calls("years(2,1)=0 beast(0,5)=0 years(2,1)=0 of(0,0)=10 is(5)=27438 beast(3,5)=1")
                .calls("lead(0,11)=1 years(2,1)=0 of(0,0)=11 of(1,0)=10 undo()=3 of(1,0)=3");
        new Run(check, "P15 an hour").calls("beast(0,5)=0 years(3,1)=1 is(0)=1 of(0,1)=4 about(3)=1 undo()=0 is(0)=0 of(0,1)=5");
        new Run(check, "P15 wall").calls("cell(5,1)=1 years(9999,1)=0 is(3)=-1 cell(5,0)=1 lodge(5)=1 years(9999,1)=0 is(3)=5");
    }

    private static void undo(Check check) {
        new Run(check, "P16 undo").calls("undo()=-1 lodge(3)=1 hour(2)=0 out()=1 lodge(4)=1 about(3)=5 undo()=4 is(3)=-1")
                .calls("undo()=3 is(3)=3 is(0)=2 is(4)=2 undo()=2 is(0)=1 is(4)=1 undo()=1 is(0)=0 is(4)=0 undo()=0 is(3)=-1")
                .calls("undo()=-1 is(3)=-1");
        Run many = new Run(check, "P16 the latest 30").calls("hour(60)=0");
        for (int left = 29; left >= 0; left--) {
            many.calls("undo()=" + left + " is(0)=" + (31 + left - 1));
        }
        many.calls("undo()=-1 is(0)=30 hour(1)=0 about(3)=1 undo()=0 is(0)=30");
        new Run(check, "P16 what is as it was").law("kicks 10;").calls("beast(0,8)=0 hour(1)=1 lead(0,5)=1 hour(40)=40")
                .calls("book(-1,0)=30 book(0,0)=11 undo()=29 book(-1,0)=30 book(0,0)=10 book(29,0)=39 of(0,3)=40")
                .calls("undo()=28 of(0,3)=39 book(0,0)=9 by(-1)=1 undo()=27 about(2)=-1 book(0,0)=8 book(29,0)=37");
        new Run(check, "P16 the book is short again").law("kicks 10;").calls("beast(0,8)=0 hour(2)=2 undo()=1 book(-1,0)=1")
                .calls("of(0,1)=9 is(5)=25682 undo()=0 book(-1,0)=0 of(0,1)=8 of(0,3)=0 is(5)=197 undo()=-1");
    }

    private static void undoAndTold(Check check) {
        new Run(check, "P16 beasts told since").calls("lodge(3)=1 beast(4,2)=0 hour(1)=0 of(0,1)=1 beast(5,7)=1 undo()=1")
                .calls("of(0,1)=2 of(1,0)=5 of(1,1)=7 lead(1,6)=1 undo()=1 of(1,0)=5 undo()=0 about(0)=2 of(0,0)=4 of(0,1)=2");
        new Run(check, "P16 told stays").calls("lodge(3)=1 height(1,1)=1 cell(2,2)=1 work(1,1)=1 gain(1,1)=1").text("", 0)
                .calls("by(0)=1 undo()=0 ofCell(1,1)=1 ofCell(2,0)=2 about(4)=1 lease(1,0,-1)=1 about(1)=1 about(2)=0");
        new Run(check, "P16 moon in a wall").calls("lodge(3)=1 lodge(4)=1 cell(3,1)=1 undo()=1 is(3)=3 lit(1)=0 ofCell(4,3)=-1")
                .calls("brightest()=-1 hour(1)=0 is(4)=1 lodge(3)=0 out()=1 lodge(3)=0 cell(3,1)=1 undo()=2 cell(3,1)=0");
        new Run(check, "P16 beast in a wall").calls("beast(3,1)=0 lead(0,4)=1 cell(3,1)=1 undo()=0 of(0,0)=3 lead(0,4)=0")
                .calls("ofCell(3,4)=1 hour(1)=0 of(0,1)=0 cell(3,0)=1 lead(0,4)=1");
    }

    private static void ofAndIs(Check check) {
        new Run(check, "P17 of").calls("of(0,0)=-1 beast(7,3)=0 of(0,0)=7 of(0,1)=3 of(0,2)=0 of(0,3)=0 of(0,4)=-1 of(0,-1)=-1")
                .calls("of(1,0)=-1 of(-1,0)=-1 of(" + MAX + ",0)=-1 of(" + MIN + ",0)=-1 of(0," + MAX + ")=-1 hour(60)=0")
                .calls("hour(60)=0 hour(60)=0 lodge(7)=1 is(2)=7 of(0,2)=2 lodge(8)=1 of(0,2)=1 about(3)=30");
        new Run(check, "P19 is").calls("is(-1)=-2 is(7)=-2 is(" + MIN + ")=-2 is(" + MAX + ")=-2").again(6, "hour(60)=0")
                .calls("is(0)=360 is(1)=15 is(2)=15 hour(24)=0 is(1)=16 is(2)=14").again(5, "hour(60)=0")
                .calls("hour(12)=0 is(0)=696 is(1)=29 is(2)=1 hour(23)=0 is(1)=29 hour(1)=0 is(0)=720 is(1)=0 is(2)=0")
                .calls("lodge(8)=1 is(3)=8 hour(1)=0 is(4)=1 is(5)=197 is(6)=1");
    }

    private static void book(Check check) {
        new Run(check, "P20 book").law("kicks 10;shines 9-at;").calls("book(-1,0)=0 book(0,0)=-2 beast(1,0)=0 beast(2,0)=1")
                .calls("lodge(5)=1 hour(2)=4 book(-1,9)=4 book(0,0)=0 book(0,1)=0 book(0,2)=8 book(1,0)=0 book(1,1)=1")
                .calls("book(1,2)=7 book(3,0)=1 book(3,1)=1 book(4,0)=-2 book(0,3)=-2 book(0,-1)=-2 book(-2,0)=-2")
                .calls("book(" + MAX + ",0)=-2 book(" + MIN + ",0)=-2 book(0," + MAX + ")=-2 hour(20)=40 book(-1,0)=30")
                .calls("book(0,0)=7 book(0,1)=0 book(29,0)=21 book(29,1)=1 book(30,0)=-2");
        new Run(check, "P44 ledger").calls("ledger(-1)=0 ledger(0)=-2 ledger(-2)=-2").law("kicks 10-who*10;")
                .calls("beast(0,0)=0 beast(0,0)=1 ledger(0)=0 ledger(1)=0 hour(3)=3 ledger(0)=3 ledger(1)=0 ledger(-1)=3")
                .calls("ledger(2)=-2 ledger(" + MIN + ")=-2 ledger(" + MAX + ")=-2 hour(40)=40 ledger(0)=30 of(0,3)=43")
                .law("kicks who*10;").calls("hour(10)=10 ledger(0)=20 ledger(1)=10 ledger(-1)=30");
    }

    private static void foretold(Check check) {
        new Run(check, "P21 foretold").law("kicks 5;pays 3;").calls("beast(0,3)=0 beast(0,9)=1 lodge(5)=1 foretold(1,0,0)=2")
                .calls("foretold(1,1,0)=2 foretold(1,1,1)=9 foretold(1,2,0)=1 foretold(3,2,77)=4 foretold(3,0,-5)=5")
                .calls("foretold(3,1,0)=2 foretold(0,0,0)=-1 foretold(61,0,0)=-1 foretold(1,3,0)=-1 foretold(1,-1,0)=-1")
                .calls("foretold(1,1,2)=-1 foretold(1,1,-1)=-1 foretold(" + MIN + ",0,0)=-1 foretold(" + MAX + ",0,0)=-1")
                .calls("is(0)=0 is(4)=0 is(5)=197 of(0,1)=3 about(3)=1 book(-1,0)=0 hour(3)=4 is(4)=5 of(0,1)=2");
        Run late = new Run(check, "P21 hours that can pass").calls("lodge(0)=1").again(166, "hour(60)=0");
        late.calls("hour(36)=0 is(0)=9996 is(4)=9996 foretold(60,0,0)=9999 foretold(2,0,0)=9998 is(0)=9996");
    }

    private static void wildest(Check check) {
        new Run(check, "P42 wildest").calls("wildest()=-1 beast(0,0)=0 wildest()=0 beast(0,3)=1 wildest()=1 beast(0,3)=2")
                .calls("wildest()=1 beast(0,9)=3 wildest()=3 beast(0,9)=4 wildest()=3 hour(9)=0 wildest()=0");
    }

    private static void images(Check check) {
        Run run = new Run(check, "P45, P46 image and back").law("pays 4;").calls("cell(1,3)=1 height(2,7)=1 beast(3,4)=0");
        run.calls("lodge(1)=1 hour(2)=0 work(1,1)=1 dark(2,2)=1 seen(3,3)=1 read(4,4)=1 gain(5,6)=1 image()=2");
        run.calls("undo()=2 undo()=1 cell(1,2)=1 cell(9,1)=1 height(2,1)=1 beast(4,4)=1 lead(0,7)=1 work(2,2)=2 dark(-1,0)=0");
        run.calls("seen(1,1)=2 read(-1,0)=0 gain(5,0)=1 by(-1)=1 hour(60)=0 years(3,4)=61").text("pays 5;", 1);
        Check.write(run.farm, "abc");
        run.calls("back()=2 ofCell(1,0)=3 ofCell(9,0)=0 ofCell(2,1)=7 about(0)=1 of(0,0)=3 of(0,1)=2 is(3)=1 is(4)=8");
        run.calls("is(5)=29003 about(1)=1 about(2)=0 about(3)=3 about(4)=1 about(5)=1 about(6)=1 about(7)=1 about(8)=3");
        run.calls("lease(1,0,-1)=6 is(6)=4 by(1)=0 fault(0)=0 steps(8,9)=1 best(false)=-1 undo()=2 is(0)=1 is(4)=4 back()=2");
        run.calls("is(0)=2 about(3)=3 text()=-1 fault(0)=1 back()=2 fault(0)=1 fault(1)=0").text("pays 6;", 1);
        run.calls("by(1)=1 is(6)=6 whose()=0 back()=2 is(6)=4 about(1)=1");
        new Run(check, "P46 the book").law("kicks 10;").calls("beast(0,0)=0 hour(35)=35 image()=35 hour(7)=7 book(0,0)=12")
                .calls("of(0,3)=42 back()=35 book(-1,0)=30 book(0,0)=5 book(29,0)=34 of(0,3)=35 of(0,1)=9 hour(1)=1")
                .calls("book(0,0)=6 undo()=29 book(0,0)=5");
        new Run(check, "P46 a beast told again").law("kicks 10;").calls("image()=0 beast(0,0)=0 hour(3)=3 of(0,3)=3 back()=0")
                .calls("beast(1,1)=0 of(0,3)=0 of(0,1)=1 ledger(0)=0");
        new Run(check, "P46 what was told of light").law("shines 9-steps;").calls("work(0,9)=1 dark(1,8)=1 seen(2,9)=1 seen(3,8)=2")
                .calls("read(4,3)=1 lodge(10)=1 image()=0 work(-1,0)=0 work(5,9)=1 dark(-1,0)=0 dark(5,0)=1 seen(-1,0)=0")
                .calls("seen(7,9)=1 seen(7,9)=2 read(-1,0)=0 read(4,8)=1 best(false)=-1 fits(1)=128 whose()=1 back()=0")
                .calls("best(false)=0 fits(1)=4 whose()=0 read(-1,0)=0 read(4,8)=1 whose()=1");
        new Run(check, "P45 the later image").calls("image()=0 hour(3)=0 image()=3 hour(2)=0 back()=3 back()=3 is(0)=3");
        new Run(check, "P46 the first image").calls("beast(0,0)=0 hour(3)=0 back()=0 about(0)=0 about(3)=0 is(0)=0 image()=0");
        new Run(check, "P46 another text of that number").text("shines 1;", 0).calls("image()=0").text("shines 2;", 1)
                .calls("by(1)=1 lodge(0)=1 ofCell(0,2)=2 back()=0").text("shines 3;", 1).calls("by(1)=1 lodge(0)=1 ofCell(0,2)=3");
    }

    private static void about(Check check) {
        new Run(check, "P47 about").calls("about(-1)=-2 about(9)=-2 about(" + MIN + ")=-2 about(" + MAX + ")=-2")
                .calls("beast(0,0)=0 beast(0,0)=1 about(0)=2").text("", 0).text("", 1).calls("about(1)=2 by(1)=1 about(2)=1")
                .calls("hour(3)=0 about(3)=3 work(0,0)=1 about(4)=1 dark(0,0)=1 dark(1,0)=2 about(5)=2 seen(0,0)=1 about(6)=1")
                .calls("read(0,0)=1 read(1,1)=2 about(7)=2 feed(1,2,3,4,5)=20 about(8)=20");
    }
}
