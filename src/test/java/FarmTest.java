/** Promises 1 to 4, 18, 22 to 25, 34, 35 and 43: cells, heights, beasts, ways, rooms and floods. */
public final class FarmTest {
    private static final int MIN = Integer.MIN_VALUE;
    private static final int MAX = Integer.MAX_VALUE;

    public static void main(String[] args) {
        Check check = new Check();
        newObject(check);
        cells(check);
        heights(check);
        beasts(check);
        ofCell(check);
        steps(check);
        ways(check);
        rooms(check);
        floods(check);
        lonely(check);
        check.end("FarmTest");
    }

    private static void newObject(Check check) {
        Run run = new Run(check, "P1 new");
        for (int c = 0; c < 30; c++) {
            run.calls("ofCell(" + c + ",0)=0 ofCell(" + c + ",1)=5 ofCell(" + c + ",2)=0 ofCell(" + c + ",3)=-1");
            run.calls("ofCell(" + c + ",4)=0");
        }
        run.calls("is(0)=0 is(1)=0 is(2)=0 is(3)=-1 is(4)=0 is(5)=197 is(6)=1 book(-1,0)=0 fault(0)=-1 fault(1)=-1");
        run.calls("about(0)=0 about(1)=0 about(2)=-1 about(3)=0 about(4)=0 about(5)=0 about(6)=0 about(7)=0 about(8)=0");
        run.calls("undo()=-1 lease(12,0,-1)=0 wildest()=-1 lonely()=0 brightest()=-1 whose()=0");
        run.calls("cell(3,1)=1 beast(4,1)=0 lodge(5)=1 hour(1)=0 gain(0,5)=1 work(1,1)=1 back()=0");
        run.calls("ofCell(3,0)=0 about(0)=0 is(3)=-1 is(0)=0 about(3)=0 about(4)=0 lease(1,0,-1)=0");
    }

    private static void cells(Check check) {
        new Run(check, "P2 cell").calls("cell(0,0)=1 cell(0,1)=1 cell(0,2)=1 cell(0,3)=1 cell(29,3)=1 ofCell(0,0)=3")
                .calls("cell(-1,0)=0 cell(30,0)=0 cell(0,-1)=0 cell(0,4)=0 ofCell(0,0)=3 ofCell(29,0)=3")
                .calls("cell(" + MIN + ",0)=0 cell(" + MAX + ",0)=0 cell(0," + MIN + ")=0 cell(0," + MAX + ")=0");
        new Run(check, "P2 taken cell").calls("lodge(7)=1 cell(7,1)=0 cell(7,3)=1 ofCell(7,0)=3 beast(8,0)=0")
                .calls("cell(8,1)=0 ofCell(8,0)=0 cell(8,2)=1 lead(0,9)=1 cell(8,1)=1 out()=1 cell(7,1)=1");
        new Run(check, "P2 taken wall").calls("lodge(7)=1 out()=1 cell(7,1)=1 undo()=1 is(3)=7 cell(7,1)=0")
                .calls("ofCell(7,0)=1 cell(7,0)=1 ofCell(7,2)=0 ofCell(7,3)=0");
    }

    private static void heights(Check check) {
        new Run(check, "P3 height").calls("height(0,0)=1 height(29,9)=1 ofCell(0,1)=0 ofCell(29,1)=9 ofCell(1,1)=5")
                .calls("height(-1,0)=0 height(30,0)=0 height(0,-1)=0 height(0,10)=0 ofCell(0,1)=0")
                .calls("height(" + MIN + ",1)=0 height(" + MAX + ",1)=0 height(3," + MIN + ")=0 height(3," + MAX + ")=0")
                .calls("lodge(4)=1 height(4,2)=1 cell(5,1)=1 height(5,3)=1 ofCell(5,1)=3");
    }

    private static void beasts(Check check) {
        new Run(check, "P4 beast").calls("beast(30,0)=-1 beast(-1,0)=-1 beast(0,-1)=-1 beast(0,10)=-1 about(0)=0")
                .calls("beast(0,0)=0 beast(0,9)=1 cell(3,1)=1 beast(3,4)=-1 beast(29,3)=2 beast(5,5)=3 beast(6,6)=4")
                .calls("beast(7,7)=-1 about(0)=5 of(0,0)=0 of(1,0)=0 of(1,1)=9 of(2,0)=29 of(4,1)=6 of(4,3)=0")
                .calls("about(3)=0 beast(" + MIN + ",0)=-1 beast(" + MAX + "," + MAX + ")=-1");
    }

    private static void ofCell(Check check) {
        new Run(check, "P18 ofCell").calls("ofCell(-1,0)=-2 ofCell(30,0)=-2 ofCell(0,-1)=-2")
                .calls("ofCell(0,5)=-2 ofCell(" + MIN + ",0)=-2 ofCell(0," + MAX + ")=-2 ofCell(" + MAX + ",9)=-2")
                .calls("hour(60)=0 hour(60)=0 lodge(0)=1 is(2)=5 ofCell(0,2)=5 ofCell(1,2)=3 ofCell(2,2)=1 ofCell(3,2)=0")
                .calls("ofCell(0,3)=0 ofCell(29,3)=9 cell(2,1)=1 ofCell(2,2)=0 ofCell(2,3)=-1 ofCell(3,3)=5")
                .calls("beast(4,0)=0 beast(5,0)=1 beast(4,0)=2 ofCell(4,4)=5 ofCell(5,4)=2 ofCell(6,4)=0 out()=1")
                .calls("ofCell(0,2)=0 ofCell(0,3)=-1");
    }

    private static void steps(Check check) {
        new Run(check, "P22 steps").calls("steps(0,29)=9 steps(29,0)=9 steps(5,6)=6 steps(7,7)=0 steps(0,6)=1")
                .calls("steps(-1,0)=-1 steps(0,30)=-1 steps(30,0)=-1 steps(0,-1)=-1 steps(" + MIN + "," + MAX + ")=-1")
                .calls("cell(1,1)=1 cell(6,1)=1 steps(0,2)=-1 steps(0,0)=0 steps(1,1)=-1 steps(1,2)=-1 steps(2,1)=-1")
                .calls("cell(1,2)=1 steps(0,2)=2 cell(1,3)=1 steps(0,6)=-1 steps(0,12)=4");
        Run snake = new Run(check, "P22 the longest steps");
        snake.calls("cell(6,1)=1 cell(7,1)=1 cell(8,1)=1 cell(9,1)=1 cell(10,1)=1");
        snake.calls("cell(19,1)=1 cell(20,1)=1 cell(21,1)=1 cell(22,1)=1 cell(23,1)=1");
        snake.calls("steps(0,29)=19 way(0,29,18)=29 way(0,29,19)=-2 way(0,29,5)=11 rooms(0)=1 rooms(1)=20");
    }

    private static void ways(Check check) {
        new Run(check, "P23 way").calls("way(0,14,0)=1 way(0,14,1)=2 way(0,14,2)=8 way(0,14,3)=14 way(0,14,4)=-2")
                .calls("way(14,0,0)=8 way(14,0,1)=2 way(14,0,2)=1 way(14,0,3)=0 way(0,14,-1)=-2 way(0,0,0)=-2")
                .calls("way(30,0,0)=-2 way(0,30,0)=-2 way(-1,0,0)=-2 way(0,-1,0)=-2 way(0,14," + MAX + ")=-2")
                .calls("way(0,14," + MIN + ")=-2 cell(2,1)=1 way(0,14,0)=1 way(0,14,1)=7 way(0,14,2)=8 cell(1,1)=1")
                .calls("way(0,14,0)=6 cell(6,1)=1 way(0,14,0)=-2 way(1,14,0)=-2");
    }

    private static void rooms(Check check) {
        new Run(check, "P24, P25 rooms").calls("rooms(0)=1 rooms(1)=30 rooms(2)=-1 rooms(-1)=-1 room(0)=1073741823")
                .calls("room(-1)=-1 room(30)=-1 room(" + MIN + ")=-1 cell(1,1)=1 cell(6,1)=1 rooms(0)=2 rooms(1)=27")
                .calls("room(0)=1 room(1)=-1 room(6)=-1 room(29)=1073741756 cell(0,1)=1 rooms(0)=1 rooms(1)=27");
        Run walls = new Run(check, "P24 walls alone");
        for (int c = 0; c < 30; c++) {
            walls.calls("cell(" + c + ",1)=1");
        }
        walls.calls("rooms(0)=0 rooms(1)=0 lit(0)=0 seats(0,false)=0 seats(0,true)=1 best(false)=-1 best(true)=-1");
        walls.calls("fits(0)=0 fits(1)=0 fits(2)=0 ask()=-1 lodge(0)=0 beast(0,0)=-1 cell(17,2)=1 rooms(0)=1 rooms(1)=1");
        new Run(check, "P24 no row goes on in the next").calls("cell(4,1)=1 cell(11,1)=1 rooms(0)=2 room(5)=32");
    }

    private static void floods(Check check) {
        new Run(check, "P34 flood").calls("flood(-1)=-1 flood(10)=-1 flood(" + MAX + ")=-1 flood(0)=0 flood(5)=0")
                .calls("flood(6)=1073741823 flood(9)=1073741823 height(14,0)=1 flood(5)=0 flood(1)=0 wet(14)=6")
                .calls("height(8,3)=1 height(2,4)=1 flood(5)=16644 flood(4)=0 wet(14)=5 wet(8)=5 wet(2)=5 height(2,2)=1")
                .calls("flood(4)=16644 flood(3)=4 wet(14)=4 wet(8)=4 wet(2)=3 cell(8,1)=1 cell(2,1)=1 flood(4)=16644");
        new Run(check, "P35 wet").calls("wet(-1)=-1 wet(30)=-1 wet(" + MIN + ")=-1 height(0,0)=1 wet(0)=1 height(0,8)=1")
                .calls("wet(0)=9 height(0,9)=1 wet(0)=-1 flood(9)=1073741822 height(7,9)=1 wet(7)=-1 wet(8)=6")
                .calls("height(9,0)=1 height(8,9)=1 height(10,9)=1 height(3,9)=1 height(15,9)=1 wet(9)=-1");
    }

    private static void lonely(Check check) {
        new Run(check, "P43 lonely").calls("lonely()=0 beast(0,0)=0 lonely()=1 beast(29,0)=1 lonely()=0 cell(1,1)=1")
                .calls("cell(6,1)=1 lonely()=3 beast(0,0)=2 lonely()=2 beast(28,1)=3 lonely()=0 beast(5,5)=4 lonely()=0");
        new Run(check, "P43 in a wall").calls("beast(0,0)=0 beast(3,0)=1 beast(3,0)=2 lead(1,4)=1 lead(2,4)=1 cell(3,1)=1")
                .calls("undo()=1 undo()=0 of(1,0)=3 of(2,0)=3 lonely()=7 lead(1,4)=0 steps(3,3)=-1 cell(3,0)=1 lonely()=0");
    }
}
